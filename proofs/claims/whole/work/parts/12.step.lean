def pcOf (code : List Ent) : Nat := match code with
  | [] => 0
  | e :: _ => e.1
theorem ild_spec {i : Nat} {code code' : List Ent} {L L' : Lv} {st st' : List Value} {h h' : Hp} (hs : sm_ild i code L st h = some (code', L', st', h')) : ∃ x, L[i]? = some (some (.int x)) ∧ code' = code ∧ L' = L ∧ st' = .int x :: st ∧ h' = h := by
  unfold sm_ild at hs
  split at hs
  · rename_i v hv
    split at hs
    · rename_i x hx
      cases hs
      exact ⟨x, by rw [hv, sm_in_eq hx], rfl, rfl, rfl, rfl⟩
    · cases hs
  · cases hs
theorem ald_spec {i : Nat} {code code' : List Ent} {L L' : Lv} {st st' : List Value} {h h' : Hp} (hs : sm_ald i code L st h = some (code', L', st', h')) : ∃ r, L[i]? = some (some (va_rf r)) ∧ code' = code ∧ L' = L ∧ st' = va_rf r :: st ∧ h' = h := by
  unfold sm_ald at hs
  split at hs
  · rename_i v hv
    split at hs
    · rename_i x hx
      cases hs
      have e := sm_rf_eq hx
      subst e
      exact ⟨x, hv, rfl, rfl, rfl, rfl⟩
    · cases hs
  · cases hs
theorem ist_spec {i : Nat} {code code' : List Ent} {L L' : Lv} {st st' : List Value} {h h' : Hp} (hs : sm_ist i code L st h = some (code', L', st', h')) : ∃ x, st = .int x :: st' ∧ i < L.length ∧ code' = code ∧ L' = L.set i (some (.int x)) ∧ h' = h := by
  unfold sm_ist at hs
  split at hs
  · rename_i v r
    split at hs
    · rename_i x hx
      cases hb : Nat.blt i L.length with
      | false => rw [hb] at hs; cases hs
      | true =>
        rw [hb] at hs
        cases hs
        exact ⟨x, by rw [sm_in_eq hx], Nat.le_of_ble_eq_true hb, rfl, rfl, rfl⟩
    · cases hs
  · cases hs
theorem ast_spec {i : Nat} {code code' : List Ent} {L L' : Lv} {st st' : List Value} {h h' : Hp} (hs : sm_ast i code L st h = some (code', L', st', h')) : ∃ r, st = va_rf r :: st' ∧ i < L.length ∧ code' = code ∧ L' = L.set i (some (va_rf r)) ∧ h' = h := by
  unfold sm_ast at hs
  split at hs
  · rename_i v r
    split at hs
    · rename_i x hx
      have e := sm_rf_eq hx
      subst e
      cases hb : Nat.blt i L.length with
      | false => rw [hb] at hs; cases hs
      | true =>
        rw [hb] at hs
        cases hs
        exact ⟨x, rfl, Nat.le_of_ble_eq_true hb, rfl, rfl, rfl⟩
    · cases hs
  · cases hs
theorem bin_spec {f : Int32 → Int32 → Int32} {code code' : List Ent} {L L' : Lv} {st st' : List Value} {h h' : Hp} (hs : sm_bin f code L st h = some (code', L', st', h')) : ∃ x y r, st = .int y :: .int x :: r ∧ code' = code ∧ L' = L ∧ st' = .int (f x y) :: r ∧ h' = h := by
  unfold sm_bin at hs
  split at hs
  · rename_i v w r
    split at hs
    · rename_i y x hy hx
      cases hs
      exact ⟨x, y, r, by rw [sm_in_eq hx, sm_in_eq hy], rfl, rfl, rfl, rfl⟩
    · cases hs
  · cases hs
theorem binD_spec {f : Int32 → Int32 → Int32} {code code' : List Ent} {L L' : Lv} {st st' : List Value} {h h' : Hp} (hs : sm_binD f code L st h = some (code', L', st', h')) : ∃ x y r, st = .int y :: .int x :: r ∧ ¬ y = 0 ∧ code' = code ∧ L' = L ∧ st' = .int (f x y) :: r ∧ h' = h := by
  unfold sm_binD at hs
  split at hs
  · rename_i v w r
    split at hs
    · rename_i y x hy hx
      split at hs
      · cases hs
      · rename_i hne
        cases hs
        exact ⟨x, y, r, by rw [sm_in_eq hx, sm_in_eq hy], hne, rfl, rfl, rfl, rfl⟩
    · cases hs
  · cases hs
theorem arr_spec {st r : List Value} {h : Hp} {a j : Nat} (hs : sm_arr st h = some (a, j, r)) : ∃ i, st = .int i :: .ref a :: r ∧ sm_ix i (ln h a) = some j := by
  unfold sm_arr at hs
  split at hs
  · rename_i v w r'
    split at hs
    · rename_i i a' hi ha
      split at hs
      · rename_i j' hj
        cases hs
        exact ⟨i, by rw [sm_in_eq hi, sm_rf_eq ha]; rfl, hj⟩
      · cases hs
    · cases hs
  · cases hs
theorem cls0 {e : Ent} (h : sm_cls e ≠ 3) {mi : MI} (hck : ckE mi e = true) : decode (mC mi) e.1 = .ok (e.2.1, e.2.2.1) ∧ ckI mi e = true := by
  unfold ckE at hck
  rw [Bool.and_eq_true, decide_eq_true_eq, Bool.or_eq_true] at hck
  refine ⟨hck.1, hck.2.resolve_left fun z => h ?_⟩
  unfold sm_cls
  rw [Nat.eq_of_beq_eq_true z]
  rfl
theorem cmp_eq {x y : Int32} : (sm_cmp .eq x y = true) = (x = y) := by simp [sm_cmp]
theorem cmp_ne {x y : Int32} : (sm_cmp .ne x y = true) = (x ≠ y) := by simp [sm_cmp]
theorem cmp_lt {x y : Int32} : (sm_cmp .lt x y = true) = (x < y) := by simp [sm_cmp]
theorem cmp_ge {x y : Int32} : (sm_cmp .ge x y = true) = (y ≤ x) := by simp [sm_cmp]
theorem cmp_gt {x y : Int32} : (sm_cmp .gt x y = true) = (y < x) := by simp [sm_cmp]
theorem cmp_le {x y : Int32} : (sm_cmp .le x y = true) = (x ≤ y) := by simp [sm_cmp]
theorem seek_ne {p : List Ent} {t : Nat} (h : sm_seek p t ≠ []) : pcOf (sm_seek p t) = t := by
  cases hq : sm_seek p t with
  | nil => exact absurd hq h
  | cons e r => exact seek_pc hq
section STEP
variable {p : Program} {l : Launch} {env : Env} {R : Room} {s : State} {m : MethodId} {args : Array Value} {below : List Frame} {meth : Method} {c : Code} {H : Heap} {locs : List Loc} {cells slots : Nat} {Q : State → Prop}
variable {ls : Array Slot} {D : va_G} {b g0 g1 : Nat} {mi : MI}
/-- where a step may go on -/
def Kk (p : Program) (l : Launch) (env : Env) (R : Room) (s : State) (m : MethodId) (args : Array Value) (below : List Frame) (meth : Method) (c : Code) (cells slots : Nat) (Q : State → Prop) (D : va_G) (b g0 g1 : Nat) (mi : MI) (h h' : Hp) (L' : Lv) (st' : List Value) (code' : List Ent) : Prop :=
  ∀ (H1 : Heap) (locs1 : List Loc) (ls1 : Array Slot), Rp D b g0 g1 s h' H1 → LRp L' ls1 → va_S (fun q => b ≤ q) s.heap H1 locs1 → (∀ v ∈ st', v.category = 1) → L'.length = mL mi → W p l env R s m args below meth c H1 locs1 (cells + (sz h' - sz h)) (slots + (sl h' - sl h)) Q (F0 m (pcOf code') ls1 st')
theorem Kk.use {h h' : Hp} {L' : Lv} {st' : List Value} {code' : List Ent} {pc' : Nat} (kk : Kk p l env R s m args below meth c cells slots Q D b g0 g1 mi h h' L' st' code') (hpc : pcOf code' = pc') (hz : sz h' = sz h) (hsl : sl h' = sl h) (hcat : ∀ v ∈ st', v.category = 1) (hlen : L'.length = mL mi) {H1 : Heap} {locs1 : List Loc} {ls1 : Array Slot} (hR : Rp D b g0 g1 s h' H1) (hL : LRp L' ls1) (hS : va_S (fun q => b ≤ q) s.heap H1 locs1) : W p l env R s m args below meth c H1 locs1 cells slots Q (F0 m pc' ls1 st') := by
  have := kk H1 locs1 ls1 hR hL hS hcat hlen
  rw [hz, hsl, Nat.sub_self, Nat.sub_self, hpc] at this
  exact this
theorem st_load (C : Cx D b g0 g1 p R s m args meth c mi) {pc len x1 x2 x3 : Nat} {ins : Instr} {code code' : List Ent} {L L' : Lv} {st st' : List Value} {h h' : Hp} (hdg : decode (mC mi) pc = .ok (ins, len)) (hI : ckI mi (pc, ins, len, x1, x2, x3) = true)
    (hnx : code ≠ [] → pcOf code = pc + len) (hs : sm_step mi (pc, ins, len, x1, x2, x3) code L st h = some (code', L', st', h')) (hne : code' ≠ []) (hR : Rp D b g0 g1 s h H) (hL : LRp L ls) (hLl : L.length = mL mi) (hst : ∀ v ∈ st, v.category = 1) (hS0 : va_S (fun q => b ≤ q) s.heap H locs) (kk : Kk p l env R s m args below meth c cells slots Q D b g0 g1 mi h h' L' st' code')
    (hins : (∃ k, ins = .iload_n k) ∨ (∃ k, ins = .iload k) ∨ (∃ k, ins = .aload_n k) ∨ (∃ k, ins = .aload k) ∨ (∃ k, ins = .istore_n k) ∨ (∃ k, ins = .istore k) ∨ (∃ k, ins = .astore_n k) ∨ (∃ k, ins = .astore k) ∨ ∃ k n, ins = .iinc k n) :
    W p l env R s m args below meth c H locs cells slots Q (F0 m pc ls st) := by
  obtain ⟨hx, hb, -⟩ := C
  rcases hins with ⟨k, rfl⟩ | ⟨k, rfl⟩ | ⟨k, rfl⟩ | ⟨k, rfl⟩ | ⟨k, rfl⟩ | ⟨k, rfl⟩ | ⟨k, rfl⟩ | ⟨k, rfl⟩ | ⟨k, n, rfl⟩
  · obtain rfl : len = 1 := Nat.eq_of_beq_eq_true hI
    obtain ⟨x, h1, rfl, rfl, rfl, rfl⟩ := ild_spec (i := k.val) hs
    exact lv_iload_n hx hb hdg rfl (hL.at h1) (kk.use (hnx hne) rfl rfl (List.forall_mem_cons.mpr ⟨rfl, hst⟩) hLl hR hL hS0)
  · obtain rfl : len = 2 := Nat.eq_of_beq_eq_true hI
    obtain ⟨x, h1, rfl, rfl, rfl, rfl⟩ := ild_spec (i := k) hs
    exact lv_iload hx hb hdg (hL.at h1) (kk.use (hnx hne) rfl rfl (List.forall_mem_cons.mpr ⟨rfl, hst⟩) hLl hR hL hS0)
  · obtain rfl : len = 1 := Nat.eq_of_beq_eq_true hI
    obtain ⟨x, h1, rfl, rfl, rfl, rfl⟩ := ald_spec (i := k.val) hs
    have K := kk.use (hnx hne) rfl rfl (List.forall_mem_cons.mpr ⟨cat_rf x, hst⟩) hLl hR hL hS0
    cases x with
    | none => exact lv_aload_nN hx hb hdg rfl (hL.at h1) K
    | some a => exact lv_aload_n hx hb hdg rfl (hL.at h1) K
  · obtain rfl : len = 2 := Nat.eq_of_beq_eq_true hI
    obtain ⟨x, h1, rfl, rfl, rfl, rfl⟩ := ald_spec (i := k) hs
    have K := kk.use (hnx hne) rfl rfl (List.forall_mem_cons.mpr ⟨cat_rf x, hst⟩) hLl hR hL hS0
    cases x with
    | none => exact lv_aloadN hx hb hdg (hL.at h1) K
    | some a => exact lv_aload hx hb hdg (hL.at h1) K
  · obtain rfl : len = 1 := Nat.eq_of_beq_eq_true hI
    obtain ⟨x, rfl, h1, rfl, rfl, rfl⟩ := ist_spec (i := k.val) hs
    exact lv_istore_n hx hb hdg rfl hL.has h1 rfl fun ls' hl' => kk.use (hnx hne) rfl rfl (List.forall_mem_cons.mp hst).2 (by rw [List.length_set]; exact hLl) hR (hL.store h1 rfl hl') hS0
  · obtain rfl : len = 2 := Nat.eq_of_beq_eq_true hI
    obtain ⟨x, rfl, h1, rfl, rfl, rfl⟩ := ist_spec (i := k) hs
    exact lv_istore hx hb hdg hL.has h1 rfl fun ls' hl' => kk.use (hnx hne) rfl rfl (List.forall_mem_cons.mp hst).2 (by rw [List.length_set]; exact hLl) hR (hL.store h1 rfl hl') hS0
  · obtain rfl : len = 1 := Nat.eq_of_beq_eq_true hI
    obtain ⟨x, rfl, h1, rfl, rfl, rfl⟩ := ast_spec (i := k.val) hs
    cases x with
    | none => exact lv_astore_nN hx hb hdg rfl hL.has h1 rfl fun ls' hl' => kk.use (hnx hne) rfl rfl (List.forall_mem_cons.mp hst).2 (by rw [List.length_set]; exact hLl) hR (hL.store h1 rfl hl') hS0
    | some a => exact lv_astore_n hx hb hdg rfl hL.has h1 rfl fun ls' hl' => kk.use (hnx hne) rfl rfl (List.forall_mem_cons.mp hst).2 (by rw [List.length_set]; exact hLl) hR (hL.store h1 rfl hl') hS0
  · obtain rfl : len = 2 := Nat.eq_of_beq_eq_true hI
    obtain ⟨x, rfl, h1, rfl, rfl, rfl⟩ := ast_spec (i := k) hs
    cases x with
    | none => exact lv_astoreN hx hb hdg hL.has h1 rfl fun ls' hl' => kk.use (hnx hne) rfl rfl (List.forall_mem_cons.mp hst).2 (by rw [List.length_set]; exact hLl) hR (hL.store h1 rfl hl') hS0
    | some a => exact lv_astore hx hb hdg hL.has h1 rfl fun ls' hl' => kk.use (hnx hne) rfl rfl (List.forall_mem_cons.mp hst).2 (by rw [List.length_set]; exact hLl) hR (hL.store h1 rfl hl') hS0
  · simp only [ckI, Bool.and_eq_true, decide_eq_true_eq] at hI
    obtain rfl : len = 3 := Nat.eq_of_beq_eq_true hI.1
    simp only [sm_step] at hs
    split at hs
    · rename_i v hv
      split at hs
      · rename_i x hxx
        cases hs
        rw [sm_in_eq hxx] at hv
        have h1 : k < L.length := (List.getElem?_eq_some_iff.mp hv).1
        obtain ⟨q, hq⟩ := List.getElem?_of_mem (prs_mem.mpr hv)
        exact lv_iinc hx hb hdg hL.has hq (by rw [hI.2]) h1 rfl fun ls' hl' => kk.use (hnx hne) rfl rfl hst (by rw [List.length_set]; exact hLl) hR (hL.store h1 rfl hl') hS0
      · cases hs
    · cases hs
end STEP
