/-! locals -/
def prs (L : Lv) : List (Nat × Value) := (List.range L.length).filterMap (fun i => match L[i]? with
  | some (some v) => some (i, v)
  | _ => none)
def LRp (L : Lv) (ls : Array Slot) : Prop := ls.size = L.length ∧ lv_wf ls ∧ ∀ (i : Nat) (v : Value), L[i]? = some (some v) → ls[i]? = some (.val v) ∧ v.category = 1
theorem prs_mem {L : Lv} {i : Nat} {v : Value} : (i, v) ∈ prs L ↔ L[i]? = some (some v) := by
  unfold prs
  rw [List.mem_filterMap]
  constructor
  · rintro ⟨j, -, hj⟩
    cases hL : L[j]? with
    | none => rw [hL] at hj; cases hj
    | some o =>
      rw [hL] at hj
      cases o with
      | none => cases hj
      | some w =>
        cases hj
        exact hL
  · intro h
    refine ⟨i, List.mem_range.mpr (List.getElem?_eq_some_iff.mp h).1, ?_⟩
    rw [h]
theorem LRp.has {L : Lv} {ls : Array Slot} (h : LRp L ls) : lv_has ls L.length (prs L) := ⟨h.1, h.2.1, fun q hq => (h.2.2 q.1 q.2 (prs_mem.mp hq)).1⟩
theorem LRp.store {L : Lv} {ls ls' : Array Slot} {i : Nat} {v : Value} (h : LRp L ls) (hi : i < L.length) (hv : v.category = 1) (h' : lv_has ls' L.length ((i, v) :: (prs L).filter (fun q => !(q.1 == i) && !(q.1 + 1 == i && q.2.category == 2)))) : LRp (L.set i (some v)) ls' := by
  refine ⟨by rw [List.length_set]; exact h'.1, h'.2.1, fun j w hj => ?_⟩
  by_cases hji : j = i
  · subst hji
    rw [List.getElem?_set_self hi] at hj
    cases hj
    exact ⟨h'.2.2 (j, v) List.mem_cons_self, hv⟩
  · rw [List.getElem?_set_ne (fun q => hji q.symm)] at hj
    have h2 := (h.2.2 j w hj).2
    refine ⟨h'.2.2 (j, w) (List.mem_cons_of_mem _ (List.mem_filter.mpr ⟨prs_mem.mpr hj, ?_⟩)), h2⟩
    simp [hji, h2]
theorem LRp.at {L : Lv} {ls : Array Slot} {i : Nat} {v : Value} (h : LRp L ls) (hi : L[i]? = some (some v)) : ls[i]? = some (.val v) := (h.2.2 i v hi).1
/-! values -/
theorem sm_in_eq {v : Value} {x : Int32} (h : sm_in v = some x) : v = .int x := by
  cases v <;> simp_all [sm_in]
theorem sm_rf_eq {v : Value} {r : Option Nat} (h : sm_rf v = some r) : v = va_rf r := by
  cases v <;> simp_all [sm_rf] <;> subst h <;> rfl
theorem sm_rf_va (r : Option Nat) : sm_rf (va_rf r) = some r := by cases r <;> rfl
theorem sm_in_int (x : Int32) : sm_in (.int x) = some x := rfl
theorem cat_rf (r : Option Nat) : (va_rf r).category = 1 := by cases r <;> rfl
theorem cat_sum {st : List Value} (h : ∀ v ∈ st, v.category = 1) : (st.map fun v => v.category).sum = st.length := by
  induction st with
  | nil => rfl
  | cons v r ih =>
    rw [List.map_cons, List.sum_cons, ih (fun w hw => h w (List.mem_cons_of_mem _ hw)), h v List.mem_cons_self, List.length_cons]
    omega
theorem seek_pc {p : List Ent} {t : Nat} {e : Ent} {r : List Ent} (h : sm_seek p t = e :: r) : e.1 = t := by
  induction p with
  | nil => cases h
  | cons a q ih =>
    unfold sm_seek at h
    cases hb : Nat.beq a.1 t with
    | true =>
      rw [hb] at h
      cases h
      exact Nat.eq_of_beq_eq_true hb
    | false =>
      rw [hb] at h
      exact ih h
/-! the tables' rows -/
theorem wc_lt {c : Nat} {q : vw_C} (h : wc[c]? = some q) : c < 11 := (List.getElem?_eq_some_iff.mp h).1
theorem wok_of {c : Nat} {q : vw_C} (h : wc[c]? = some q) : wok c q = true := by
  have h1 := List.all_eq_true.mp wok_all c (List.mem_range.mpr (wc_lt h))
  rw [h] at h1
  exact h1
theorem wc_facts {c : Nat} {q : vw_C} (h : wc[c]? = some q) : (∀ w ∈ u_ws q.1 q.2.1 q.2.2, w ∈ bw) ∧ (∀ k, k < q.2.2 → parseFieldDescriptor (q.2.1 k).2.2.1 = some (wty c k) ∧ cty c k < 3 ∧ k < 32) ∧ (∀ a, a < q.2.2 → ∀ b, b < q.2.2 → a ≠ b → (q.2.1 a).2.1 ≠ (q.2.1 b).2.1) ∧ Cond.instantiable q.1 q.2.2 ∈ bw ∧ Cond.initialized q.1 ∈ bw := by
  have h1 := wok_of h
  simp only [wok, Bool.and_eq_true, List.all_eq_true, decide_eq_true_eq, List.mem_range, Bool.or_eq_true, Nat.beq_eq] at h1
  obtain ⟨⟨⟨⟨a1, a2⟩, a3⟩, a4⟩, a5⟩ := h1
  refine ⟨a1, fun k hk => ⟨(a2 k hk).1.1, ?_, ?_⟩, fun a ha b hb hab => ?_, a4, a5⟩
  · exact Nat.le_of_ble_eq_true (a2 k hk).1.2
  · exact Nat.le_of_ble_eq_true (a2 k hk).2
  · rcases a3 a ha b hb with q | q
    · exact absurd q hab
    · exact q
theorem tF_get {o i kf fid : Nat} (h : (o, i, kf, fid) ∈ tF) : ∃ (q : vw_C) (ref : String), wc[kf - 1]? = some q ∧ 1 ≤ kf ∧ 32 * (kf - 1) ≤ fid ∧ fid - 32 * (kf - 1) < q.2.2 ∧ Cond.fieldLink (own o) i ref (q.2.1 (fid - 32 * (kf - 1))).2.1 (q.2.1 (fid - 32 * (kf - 1))).2.2.1 ∈ bw ∧ (ref = (q.2.1 (fid - 32 * (kf - 1))).1 ∨ Cond.sameField ref (q.2.1 (fid - 32 * (kf - 1))).1 (q.2.1 (fid - 32 * (kf - 1))).2.1 (q.2.1 (fid - 32 * (kf - 1))).2.2.1 ∈ bw) := by
  rw [tF_x] at h
  obtain ⟨r, hr, he⟩ := List.mem_map.mp h
  have h1 := List.all_eq_true.mp tF_ok r hr
  obtain ⟨p, o', i', kf', fid'⟩ := r
  cases he
  unfold okF at h1
  cases hq : wc[kf - 1]? with
  | none => rw [hq] at h1; cases h1
  | some q =>
    rw [hq] at h1
    simp only [Bool.and_eq_true, Bool.or_eq_true] at h1
    obtain ⟨⟨⟨a1, a2⟩, a3⟩, a4⟩ := h1
    have b1 := Nat.le_of_ble_eq_true a1
    have b2 := Nat.le_of_ble_eq_true a2
    have b3 : fid - 32 * (kf - 1) < q.2.2 := Nat.le_of_ble_eq_true a3
    rcases a4 with a4 | ⟨a4, a5⟩
    · exact ⟨q, _, rfl, b1, b2, b3, wat_in a4, Or.inl rfl⟩
    · exact ⟨q, _, rfl, b1, b2, b3, wat_in a4, Or.inr (wat_in a5)⟩
theorem tC_get {o i k : Nat} (h : (o, i, k) ∈ tC) : Cond.classLink (own o) i (kn k) ∈ bw := by
  rw [tC_x] at h
  obtain ⟨r, hr, he⟩ := List.mem_map.mp h
  have h1 := List.all_eq_true.mp tC_ok r hr
  obtain ⟨p, o', i', k'⟩ := r
  cases he
  exact wat_in h1
theorem tK_get {o i a b : Nat} (h : (o, i, a, b) ∈ tK) : Cond.constant (own o) i (sm_lit a b) ∈ bw := by
  rw [tK_x] at h
  obtain ⟨r, hr, he⟩ := List.mem_map.mp h
  have h1 := List.all_eq_true.mp tK_ok r hr
  obtain ⟨p, o', i', a', b'⟩ := r
  cases he
  exact wat_in h1
theorem tB_get {o i k : Nat} (h : (o, i, k) ∈ tB) : Cond.methodLink (own o) i (bN k) ∈ bw := by
  rw [tB_x] at h
  obtain ⟨r, hr, he⟩ := List.mem_map.mp h
  have h1 := List.all_eq_true.mp tB_ok r hr
  obtain ⟨p, o', i', k'⟩ := r
  cases he
  exact wat_in h1
theorem tM_get {o i k z : Nat} (h : (o, i, k, z) ∈ tM) : ∃ m, MT[k]? = some m ∧ (z = 0 → Cond.methodLink (own o) i (mY m) ∈ bw) ∧ (z = 1 → Cond.methodLinkNest (own o) i (mY m) "ReplicaStore" ∈ lw_tbl) := by
  rw [tM_x] at h
  obtain ⟨r, hr, he⟩ := List.mem_map.mp h
  have h1 := List.all_eq_true.mp tM_ok r hr
  obtain ⟨p, o', i', k', z'⟩ := r
  cases he
  unfold okM at h1
  cases hm : MT[k]? with
  | none => rw [hm] at h1; cases h1
  | some m =>
    rw [hm] at h1
    refine ⟨m, rfl, fun hz => ?_, fun hz => ?_⟩
    · subst hz
      exact wat_in h1
    · subst hz
      exact sat_in h1
theorem MT_get {k : Nat} {m : MI} (hk : k < 145) (h : MT[k]? = some m) : ∃ p, okY m p = true := by
  have key : ∀ lo n, okYs lo n = true → lo ≤ k → k < lo + n → ∃ p, okY m p = true := by
    intro lo n ho h1 h2
    have h3 := List.all_eq_true.mp ho (k - lo) (List.mem_range.mpr (by omega))
    rw [show lo + (k - lo) = k by omega, h] at h3
    cases hp : tYp[k]? with
    | none => rw [hp] at h3; cases h3
    | some p => rw [hp] at h3; exact ⟨p, h3⟩
  by_cases a1 : k < 40
  · exact key 0 40 MT_ok1 (by omega) (by omega)
  · by_cases a2 : k < 80
    · exact key 40 40 MT_ok2 (by omega) (by omega)
    · by_cases a3 : k < 120
      · exact key 80 40 MT_ok3 (by omega) (by omega)
      · exact key 120 25 MT_ok4 (by omega) (by omega)
theorem aty_o {k : Nat} (h1 : 22 ≤ k) (h2 : k ≤ 27) : aty k = .object (anm k) := by
  unfold aty
  rw [if_neg (by omega), if_neg (by omega)]
theorem ao_in {k : Nat} (h1 : 22 ≤ k) (h2 : k ≤ 27) : Cond.arrayOver (.object (anm k)) ∈ lw_tbl := by
  have h := List.all_eq_true.mp ao_ok
  rcases (show k = 22 ∨ k = 23 ∨ k = 24 ∨ k = 25 ∨ k = 26 ∨ k = 27 by omega) with rfl | rfl | rfl | rfl | rfl | rfl
  · exact sat_in (h (362, 22) (by simp))
  · exact sat_in (h (73, 23) (by simp))
  · exact sat_in (h (75, 24) (by simp))
  · exact sat_in (h (82, 25) (by simp))
  · exact sat_in (h (111, 26) (by simp))
  · exact sat_in (h (113, 27) (by simp))
