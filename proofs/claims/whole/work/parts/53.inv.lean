/-! the invariant of the abstract state -/
/-- o was made -/
def mad (s : St) (o : Nat) : Prop := o < 240 ∧ o % 60 < sMk s (o / 60)
def Inv (s : St) : Prop := (∀ r, r < 4 → sOw s r r = sMk s r) ∧ (∀ r, r < 4 → ∀ o, o ∈ sDn s r ↔ o < 240 ∧ o % 60 < sOw s r (o / 60)) ∧ (∀ r, r < 4 → (sDn s r).Nodup) ∧ (∀ r, r < 4 → ∀ j, j < 4 → sOw s r j ≤ sMk s j) ∧ (∀ r, r < 4 → (sDn s r).length = s4 (sOw s r)) ∧ (∀ r, r < 4 → ∀ o, o ∈ sWt s r → mad s o ∧ o ∉ sDn s r) ∧ (∀ r, r < 4 → (sWt s r).Nodup) ∧ (∀ w, w < 16 → ∀ q, q ∈ sWy s w → q.1 = 0 → mad s q.2.1 ∧ ∀ j, j < 4 → q.2.2 j = sCk s q.2.1 j) ∧ (∀ o, mad s o → sCk s o (o / 60) = o % 60 + 1 ∧ ∀ j, j < 4 → sCk s o j ≤ sMk s j) ∧ (∀ o p, mad s o → mad s p → p % 60 < sCk s o (p / 60) → (∀ j, j < 4 → sCk s p j ≤ sCk s o j) ∧ (p ≠ o → sTm s p < sTm s o)) ∧ (∀ r, r < 4 → ∀ o, o ∈ sDn s r → ∀ j, j < 4 → sCk s o j ≤ sOw s r j) ∧ (∀ r, r < 4 → ∀ o, o ∈ sDn s r → sTm s o ≤ sTi s r) ∧ ((∀ r, r < 4 → sTi s r ≤ s4 (sMk s)) ∧ ∀ o, mad s o → sTm s o ≤ s4 (sMk s)) ∧ (∀ o p, mad s o → sBh s o = some p → mad s p ∧ p % 60 < sCk s o (p / 60) ∧ p ≠ o ∧ sKn s p = 4 ∧ sTg s p = sTg s o) ∧ (∀ o, mad s o → sKn s o = 5 → ∃ p, sBh s o = some p) ∧ (∀ o, mad s o → sKn s o = 1 → ∃ x, x < 32 ∧ sVl s o = nI x)
theorem Inv.i1 {s : St} (H : Inv s) : ∀ r, r < 4 → sOw s r r = sMk s r := H.1
theorem Inv.i2 {s : St} (H : Inv s) : ∀ r, r < 4 → ∀ o, o ∈ sDn s r ↔ o < 240 ∧ o % 60 < sOw s r (o / 60) := H.2.1
theorem Inv.i3 {s : St} (H : Inv s) : ∀ r, r < 4 → (sDn s r).Nodup := H.2.2.1
theorem Inv.i4 {s : St} (H : Inv s) : ∀ r, r < 4 → ∀ j, j < 4 → sOw s r j ≤ sMk s j := H.2.2.2.1
theorem Inv.i5 {s : St} (H : Inv s) : ∀ r, r < 4 → (sDn s r).length = s4 (sOw s r) := H.2.2.2.2.1
theorem Inv.i6 {s : St} (H : Inv s) : ∀ r, r < 4 → ∀ o, o ∈ sWt s r → mad s o ∧ o ∉ sDn s r := H.2.2.2.2.2.1
theorem Inv.i7 {s : St} (H : Inv s) : ∀ r, r < 4 → (sWt s r).Nodup := H.2.2.2.2.2.2.1
theorem Inv.i8 {s : St} (H : Inv s) : ∀ w, w < 16 → ∀ q, q ∈ sWy s w → q.1 = 0 → mad s q.2.1 ∧ ∀ j, j < 4 → q.2.2 j = sCk s q.2.1 j := H.2.2.2.2.2.2.2.1
theorem Inv.i9 {s : St} (H : Inv s) : ∀ o, mad s o → sCk s o (o / 60) = o % 60 + 1 ∧ ∀ j, j < 4 → sCk s o j ≤ sMk s j := H.2.2.2.2.2.2.2.2.1
theorem Inv.i10 {s : St} (H : Inv s) : ∀ o p, mad s o → mad s p → p % 60 < sCk s o (p / 60) → (∀ j, j < 4 → sCk s p j ≤ sCk s o j) ∧ (p ≠ o → sTm s p < sTm s o) := H.2.2.2.2.2.2.2.2.2.1
theorem Inv.i11 {s : St} (H : Inv s) : ∀ r, r < 4 → ∀ o, o ∈ sDn s r → ∀ j, j < 4 → sCk s o j ≤ sOw s r j := H.2.2.2.2.2.2.2.2.2.2.1
theorem Inv.i12 {s : St} (H : Inv s) : ∀ r, r < 4 → ∀ o, o ∈ sDn s r → sTm s o ≤ sTi s r := H.2.2.2.2.2.2.2.2.2.2.2.1
theorem Inv.i13 {s : St} (H : Inv s) : (∀ r, r < 4 → sTi s r ≤ s4 (sMk s)) ∧ ∀ o, mad s o → sTm s o ≤ s4 (sMk s) := H.2.2.2.2.2.2.2.2.2.2.2.2.1
theorem Inv.i14 {s : St} (H : Inv s) : ∀ o p, mad s o → sBh s o = some p → mad s p ∧ p % 60 < sCk s o (p / 60) ∧ p ≠ o ∧ sKn s p = 4 ∧ sTg s p = sTg s o := H.2.2.2.2.2.2.2.2.2.2.2.2.2.1
theorem Inv.i15 {s : St} (H : Inv s) : ∀ o, mad s o → sKn s o = 5 → ∃ p, sBh s o = some p := H.2.2.2.2.2.2.2.2.2.2.2.2.2.2.1
theorem Inv.i16 {s : St} (H : Inv s) : ∀ o, mad s o → sKn s o = 1 → ∃ x, x < 32 ∧ sVl s o = nI x := H.2.2.2.2.2.2.2.2.2.2.2.2.2.2.2
theorem nd_len : ∀ (n : Nat) (l : List Nat), l.Nodup → (∀ x ∈ l, x < n) → l.length ≤ n := by
  intro n
  induction n with
  | zero =>
    intro l _ h
    cases l with
    | nil => exact Nat.le_refl _
    | cons a t => exact absurd (h a List.mem_cons_self) (Nat.not_lt_zero _)
  | succ n ih =>
    intro l hd h
    by_cases hn : n ∈ l
    · have := ih (l.erase n) (hd.erase n) (fun x hx => by
        have h1 := h x (List.mem_of_mem_erase hx)
        have h2 : x ≠ n := by
          rintro rfl
          exact (hd.not_mem_erase) hx
        omega)
      rw [List.length_erase_of_mem hn] at this
      omega
    · have := ih l hd (fun x hx => by
        have h1 := h x hx
        have h2 : x ≠ n := by rintro rfl; exact hn hx
        omega)
      omega
theorem Inv.wlen {s : St} (H : Inv s) {r o : Nat} (hr : r < 4) (ho : o < 240) (h : o ∉ sWt s r) : (sWt s r).length < 240 := by
  have := nd_len 240 (o :: sWt s r) (List.nodup_cons.mpr ⟨h, H.i7 r hr⟩) (fun x hx => by
    rcases List.mem_cons.mp hx with rfl | hx
    · exact ho
    · exact (H.i6 r hr x hx).1.1)
  rw [List.length_cons] at this
  omega
theorem mad_dn {s : St} (H : Inv s) {r o : Nat} (hr : r < 4) (h : o ∈ sDn s r) : mad s o := by
  obtain ⟨h1, h2⟩ := (H.i2 r hr o).mp h
  exact ⟨h1, Nat.lt_of_lt_of_le h2 (H.i4 r hr _ (by omega))⟩
theorem s4_60 {f : Nat → Nat} (h : ∀ j, j < 4 → f j ≤ 60) : s4 f ≤ 240 := by
  unfold s4
  have := h 0 (by decide); have := h 1 (by decide); have := h 2 (by decide); have := h 3 (by decide)
  omega
theorem s4_lt {f : Nat → Nat} {r : Nat} (hr : r < 4) (h : ∀ j, j < 4 → f j ≤ 60) (h2 : f r < 60) : s4 f < 240 := by
  unfold s4
  have := h 0 (by decide); have := h 1 (by decide); have := h 2 (by decide); have := h 3 (by decide)
  rcases (show r = 0 ∨ r = 1 ∨ r = 2 ∨ r = 3 by omega) with rfl | rfl | rfl | rfl <;> omega
theorem Inv.rd {s : St} (H : Inv s) (hB : Bd s) : Rd s := fun r hr => ⟨by have := H.i13.1 r hr; have := s4_60 hB.1; omega, H.i1 r hr, fun h => by
  rw [H.i5 r hr]
  exact s4_lt hr (hB.2.2.1 r hr).2.2.2.2.2.1 (by rw [H.i1 r hr]; exact h)⟩
theorem Inv.wy {s : St} (H : Inv s) {v : Nat → List Mg} (h : ∀ w, w < 16 → ∀ q, q ∈ v w → q.1 = 0 → mad s q.2.1 ∧ ∀ j, j < 4 → q.2.2 j = sCk s q.2.1 j) : Inv (w_sWy s v) := ⟨H.i1, H.i2, H.i3, H.i4, H.i5, H.i6, H.i7, h, H.i9, H.i10, H.i11, H.i12, H.i13, H.i14, H.i15, H.i16⟩
theorem Inv.up {s : St} (H : Inv s) {v : Nat → Bool} : Inv (w_sUp s v) := H
theorem Inv.kw {s : St} (H : Inv s) {v : Nat → Nat → Nat → Nat} : Inv (w_sKw s v) := H
theorem Inv.xkwn {s : St} (H : Inv s) {t q n : Nat} {c : Nat → Nat} : Inv (kwn s t q c n) := H
theorem Inv.xsnd {s : St} (H : Inv s) {w : Nat} {q : Mg} (hq : q.1 = 0 → mad s q.2.1 ∧ ∀ j, j < 4 → q.2.2 j = sCk s q.2.1 j) : Inv (snd s w q) := by
  unfold snd
  split
  · exact H
  · refine H.wy (fun w' hw' z hz h0 => ?_)
    rw [fu_at] at hz
    by_cases hww : w' = w
    · rw [if_pos hww] at hz
      rcases List.mem_append.mp hz with h1 | h1
      · exact H.i8 w (hww ▸ hw') z h1 h0
      · rw [List.mem_singleton.mp h1] at h0 ⊢
        exact hq h0
    · rw [if_neg hww] at hz
      exact H.i8 w' hw' z hz h0
theorem Inv.xdrp {s : St} (H : Inv s) {w k : Nat} (hw : w < 16) : Inv (drp s w k) := by
  refine H.wy (fun w' hw' z hz h0 => ?_)
  rw [fu_at] at hz
  by_cases hww : w' = w
  · rw [if_pos hww] at hz
    exact H.i8 w hw z (List.mem_of_mem_eraseIdx hz) h0
  · rw [if_neg hww] at hz
    exact H.i8 w' hw' z hz h0
theorem rdy_iff {s : St} {r o : Nat} : rdy s r o = true ↔ o % 60 = sOw s r (o / 60) ∧ ∀ j, j < 4 → j = o / 60 ∨ sCk s o j ≤ sOw s r j := by
  unfold rdy
  simp only [rdyF, Bool.and_eq_true, Bool.or_eq_true, decide_eq_true_eq, Nat.zero_add, Nat.reduceAdd, and_true]
  constructor
  · rintro ⟨h1, h2, h3, h4, h5⟩
    refine ⟨by omega, fun j hj => ?_⟩
    rcases (show j = 0 ∨ j = 1 ∨ j = 2 ∨ j = 3 by omega) with rfl | rfl | rfl | rfl
    · exact h2
    · exact h3
    · exact h4
    · exact h5
  · rintro ⟨h1, h2⟩
    exact ⟨by omega, h2 0 (by decide), h2 1 (by decide), h2 2 (by decide), h2 3 (by decide)⟩
theorem op_eq {a b : Nat} (h1 : a / 60 = b / 60) (h2 : a % 60 = b % 60) : a = b := by omega
theorem Inv.xdoo {s : St} (H : Inv s) {r o : Nat} (hr : r < 4) (ho : mad s o) (hy : rdy s r o = true) (hw : o ∉ sWt s r) : Inv (doo s r o) := by
  obtain ⟨y1, y2⟩ := rdy_iff.mp hy
  have ho4 : o / 60 < 4 := by have := ho.1; omega
  have hor : o / 60 ≠ r := by
    intro z
    have h1 := ho.2
    rw [y1, z, H.i1 r hr] at h1
    exact Nat.lt_irrefl _ h1
  have hnd : o ∉ sDn s r := fun z => by
    have := ((H.i2 r hr o).mp z).2
    omega
  have eow : ∀ r' j, sOw (doo s r o) r' j = if r' = r ∧ j = o / 60 then sOw s r (o / 60) + 1 else sOw s r' j := fun r' j => by
    show fu (sOw s) r (fu (sOw s r) (o / 60) (sOw s r (o / 60) + 1)) r' j = _
    rw [fu_at]
    by_cases h1 : r' = r
    · rw [if_pos h1, fu_at]
      by_cases h2 : j = o / 60
      · rw [if_pos h2, if_pos ⟨h1, h2⟩]
      · rw [if_neg h2, if_neg (fun z => h2 z.2), h1]
    · rw [if_neg h1, if_neg (fun z => h1 z.1)]
  have edn : ∀ r', sDn (doo s r o) r' = if r' = r then sDn s r ++ [o] else sDn s r' := fun r' => rfl
  have eti : ∀ r', sTi (doo s r o) r' = if r' = r then max (sTi s r) (sTm s o) else sTi s r' := fun r' => rfl
  have mono : ∀ r' j, sOw s r' j ≤ sOw (doo s r o) r' j := fun r' j => by
    rw [eow]
    split
    · rename_i h; rw [h.1, h.2]; omega
    · exact Nat.le_refl _
  refine ⟨fun r' hr' => ?_, fun r' hr' o' => ?_, fun r' hr' => ?_, fun r' hr' j hj => ?_, fun r' hr' => ?_, fun r' hr' o' ho' => ?_, H.i7, H.i8, H.i9, H.i10, fun r' hr' o' ho' j hj => ?_, fun r' hr' o' ho' => ?_, ⟨fun r' hr' => ?_, H.i13.2⟩, H.i14, H.i15, H.i16⟩
  · rw [eow, if_neg (fun z => hor (by rw [← z.1]; exact z.2.symm))]
    exact H.i1 r' hr'
  · rw [edn, eow]
    by_cases h1 : r' = r
    · subst h1
      rw [if_pos rfl, List.mem_append, List.mem_singleton, H.i2 r' hr' o']
      by_cases h2 : o' / 60 = o / 60
      · rw [if_pos ⟨rfl, h2⟩]
        have h3 := ho.1
        constructor
        · rintro (⟨h4, h5⟩ | h4)
          · rw [h2] at h5
            exact ⟨h4, by omega⟩
          · rw [h4]; exact ⟨h3, by omega⟩
        · rintro ⟨h4, h5⟩
          by_cases h6 : o' = o
          · exact Or.inr h6
          · rw [h2]
            have : o' % 60 ≠ o % 60 := fun z => h6 (op_eq h2 z)
            exact Or.inl ⟨h4, by omega⟩
      · rw [if_neg (fun z => h2 z.2)]
        constructor
        · rintro (h4 | h4)
          · exact h4
          · rw [h4] at h2; exact absurd rfl h2
        · exact Or.inl
    · rw [if_neg h1, if_neg (fun z => h1 z.1)]
      exact H.i2 r' hr' o'
  · rw [edn]
    split
    · exact List.nodup_append.mpr ⟨H.i3 r hr, List.nodup_cons.mpr ⟨List.not_mem_nil, List.nodup_nil⟩, fun a ha b hb => by
        rw [List.mem_singleton.mp hb]
        rintro rfl
        exact hnd ha⟩
    · exact H.i3 r' hr'
  · rw [eow]
    split
    · rename_i h
      have h1 := ho.2
      rw [h.2]
      show sOw s r (o / 60) + 1 ≤ sMk s (o / 60)
      omega
    · exact H.i4 r' hr' j hj
  · rw [edn]
    split
    · rename_i h
      subst h
      rw [List.length_append, H.i5 r' hr']
      show _ = s4 (fu (sOw s) r' (fu (sOw s r') (o / 60) (sOw s r' (o / 60) + 1)) r')
      rw [fu_at, if_pos rfl, s4_fu _ _ ho4]
      rfl
    · rename_i h
      rw [H.i5 r' hr']
      show _ = s4 (fu (sOw s) r (fu (sOw s r) (o / 60) (sOw s r (o / 60) + 1)) r')
      rw [fu_at, if_neg h]
  · refine ⟨(H.i6 r' hr' o' ho').1, ?_⟩
    rw [edn]
    split
    · rename_i h
      subst h
      intro z
      rcases List.mem_append.mp z with z | z
      · exact (H.i6 r' hr' o' ho').2 z
      · rw [List.mem_singleton.mp z] at ho'
        exact hw ho'
    · exact (H.i6 r' hr' o' ho').2
  · rw [edn] at ho'
    have go : ∀ o'' , o'' ∈ sDn s r' → sCk s o'' j ≤ sOw (doo s r o) r' j := fun o'' h => Nat.le_trans (H.i11 r' hr' o'' h j hj) (mono r' j)
    split at ho'
    · rename_i h
      subst h
      rcases List.mem_append.mp ho' with z | z
      · exact go o' z
      · rw [List.mem_singleton.mp z]
        show sCk s o j ≤ _
        rcases y2 j hj with h2 | h2
        · rw [eow, if_pos ⟨rfl, h2⟩, h2, (H.i9 o ho).1]
          omega
        · exact Nat.le_trans h2 (mono r' j)
    · exact go o' ho'
  · rw [edn] at ho'
    rw [eti]
    split at ho'
    · rename_i h
      rw [if_pos h]
      rcases List.mem_append.mp ho' with z | z
      · exact Nat.le_trans (H.i12 r hr o' z) (Nat.le_max_left _ _)
      · rw [List.mem_singleton.mp z]; exact Nat.le_max_right _ _
    · rename_i h
      rw [if_neg h]
      exact H.i12 r' hr' o' ho'
  · rw [eti]
    split
    · exact Nat.max_le.mpr ⟨H.i13.1 r hr, H.i13.2 o ho⟩
    · exact H.i13.1 r' hr'
theorem nd_er : ∀ (l : List Nat) (k : Nat), l.Nodup → k < l.length → l.getD k 0 ∉ l.eraseIdx k := by
  intro l
  induction l with
  | nil => intro k _ hk; cases hk
  | cons a l ih =>
    intro k hd hk
    obtain ⟨h1, h2⟩ := List.nodup_cons.mp hd
    cases k with
    | zero => exact h1
    | succ k =>
      rw [List.length_cons] at hk
      have h3 : k < l.length := by omega
      show l.getD k 0 ∉ a :: l.eraseIdx k
      intro z
      rcases List.mem_cons.mp z with z | z
      · exact h1 (z ▸ getD_mem h3)
      · exact ih k h2 h3 z
theorem Inv.xwto {s : St} (H : Inv s) {r k : Nat} (hr : r < 4) (hk : k < (sWt s r).length) : Inv (wto s r k) ∧ (sWt s r).getD k 0 ∉ sWt (wto s r k) r := by
  have e : ∀ r', sWt (wto s r k) r' = if r' = r then (sWt s r).eraseIdx k else sWt s r' := fun _ => rfl
  refine ⟨⟨H.i1, H.i2, H.i3, H.i4, H.i5, fun r' hr' o' ho' => ?_, fun r' hr' => ?_, H.i8, H.i9, H.i10, H.i11, H.i12, H.i13, H.i14, H.i15, H.i16⟩, ?_⟩
  · rw [e] at ho'
    split at ho'
    · rename_i h
      rw [h]
      exact H.i6 r hr o' (List.mem_of_mem_eraseIdx ho')
    · exact H.i6 r' hr' o' ho'
  · rw [e]
    split
    · exact (H.i7 r hr).sublist (List.eraseIdx_sublist _ _)
    · exact H.i7 r' hr'
  · rw [e, if_pos rfl]
    exact nd_er _ _ (H.i7 r hr) hk
theorem Inv.xwpu {s : St} (H : Inv s) {r o : Nat} (hr : r < 4) (ho : mad s o) (hd : o ∉ sDn s r) (hw : o ∉ sWt s r) : Inv (wpu s r o) := by
  have e : ∀ r', sWt (wpu s r o) r' = if r' = r then sWt s r ++ [o] else sWt s r' := fun _ => rfl
  refine ⟨H.i1, H.i2, H.i3, H.i4, H.i5, fun r' hr' o' ho' => ?_, fun r' hr' => ?_, H.i8, H.i9, H.i10, H.i11, H.i12, H.i13, H.i14, H.i15, H.i16⟩
  · rw [e] at ho'
    split at ho'
    · rename_i h
      rw [h]
      rcases List.mem_append.mp ho' with z | z
      · exact H.i6 r hr o' z
      · rw [List.mem_singleton.mp z]; exact ⟨ho, hd⟩
    · exact H.i6 r' hr' o' ho'
  · rw [e]
    split
    · exact List.nodup_append.mpr ⟨H.i7 r hr, List.nodup_cons.mpr ⟨List.not_mem_nil, List.nodup_nil⟩, fun a ha b hb => by
        rw [List.mem_singleton.mp hb]
        rintro rfl
        exact hw ha⟩
    · exact H.i7 r' hr'
