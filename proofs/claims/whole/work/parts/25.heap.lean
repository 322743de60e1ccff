theorem kd_wfI (h : Hp) (f a : Nat) (v : Int32) : kd (wfI h f a v) = kd h := rfl
theorem ln_wfI (h : Hp) (f a : Nat) (v : Int32) : ln (wfI h f a v) = ln h := rfl
theorem fI_wfI (h : Hp) (f a : Nat) (v : Int32) (q i : Nat) : fI (wfI h f a v) q i = if q = f ∧ i = a then v else fI h q i := rfl
theorem fR_wfI (h : Hp) (f a : Nat) (v : Int32) : fR (wfI h f a v) = fR h := rfl
theorem aI_wfI (h : Hp) (f a : Nat) (v : Int32) : aI (wfI h f a v) = aI h := rfl
theorem aR_wfI (h : Hp) (f a : Nat) (v : Int32) : aR (wfI h f a v) = aR h := rfl
theorem gc_wfI (h : Hp) (f a : Nat) (v : Int32) : gc (wfI h f a v) = gc h := rfl
theorem sz_wfI (h : Hp) (f a : Nat) (v : Int32) : sz (wfI h f a v) = sz h := rfl
theorem sl_wfI (h : Hp) (f a : Nat) (v : Int32) : sl (wfI h f a v) = sl h := rfl
theorem kd_wfR (h : Hp) (f a : Nat) (v : Option Nat) : kd (wfR h f a v) = kd h := rfl
theorem ln_wfR (h : Hp) (f a : Nat) (v : Option Nat) : ln (wfR h f a v) = ln h := rfl
theorem fI_wfR (h : Hp) (f a : Nat) (v : Option Nat) : fI (wfR h f a v) = fI h := rfl
theorem fR_wfR (h : Hp) (f a : Nat) (v : Option Nat) (q i : Nat) : fR (wfR h f a v) q i = if q = f ∧ i = a then v else fR h q i := rfl
theorem aI_wfR (h : Hp) (f a : Nat) (v : Option Nat) : aI (wfR h f a v) = aI h := rfl
theorem aR_wfR (h : Hp) (f a : Nat) (v : Option Nat) : aR (wfR h f a v) = aR h := rfl
theorem gc_wfR (h : Hp) (f a : Nat) (v : Option Nat) : gc (wfR h f a v) = gc h := rfl
theorem sz_wfR (h : Hp) (f a : Nat) (v : Option Nat) : sz (wfR h f a v) = sz h := rfl
theorem sl_wfR (h : Hp) (f a : Nat) (v : Option Nat) : sl (wfR h f a v) = sl h := rfl
theorem kd_waI (h : Hp) (a j : Nat) (v : Int32) : kd (waI h a j v) = kd h := rfl
theorem ln_waI (h : Hp) (a j : Nat) (v : Int32) : ln (waI h a j v) = ln h := rfl
theorem fI_waI (h : Hp) (a j : Nat) (v : Int32) : fI (waI h a j v) = fI h := rfl
theorem fR_waI (h : Hp) (a j : Nat) (v : Int32) : fR (waI h a j v) = fR h := rfl
theorem aI_waI (h : Hp) (a j : Nat) (v : Int32) (q i : Nat) : aI (waI h a j v) q i = if q = a ∧ i = j then v else aI h q i := rfl
theorem aR_waI (h : Hp) (a j : Nat) (v : Int32) : aR (waI h a j v) = aR h := rfl
theorem gc_waI (h : Hp) (a j : Nat) (v : Int32) : gc (waI h a j v) = gc h := rfl
theorem sz_waI (h : Hp) (a j : Nat) (v : Int32) : sz (waI h a j v) = sz h := rfl
theorem sl_waI (h : Hp) (a j : Nat) (v : Int32) : sl (waI h a j v) = sl h := rfl
theorem kd_waR (h : Hp) (a j : Nat) (v : Option Nat) : kd (waR h a j v) = kd h := rfl
theorem ln_waR (h : Hp) (a j : Nat) (v : Option Nat) : ln (waR h a j v) = ln h := rfl
theorem fI_waR (h : Hp) (a j : Nat) (v : Option Nat) : fI (waR h a j v) = fI h := rfl
theorem fR_waR (h : Hp) (a j : Nat) (v : Option Nat) : fR (waR h a j v) = fR h := rfl
theorem aI_waR (h : Hp) (a j : Nat) (v : Option Nat) : aI (waR h a j v) = aI h := rfl
theorem aR_waR (h : Hp) (a j : Nat) (v : Option Nat) (q i : Nat) : aR (waR h a j v) q i = if q = a ∧ i = j then v else aR h q i := rfl
theorem gc_waR (h : Hp) (a j : Nat) (v : Option Nat) : gc (waR h a j v) = gc h := rfl
theorem sz_waR (h : Hp) (a j : Nat) (v : Option Nat) : sz (waR h a j v) = sz h := rfl
theorem sl_waR (h : Hp) (a j : Nat) (v : Option Nat) : sl (waR h a j v) = sl h := rfl
theorem kd_hnew (h : Hp) (k n w : Nat) (q : Nat) : kd (hnew h k n w) q = if q = sz h then k else kd h q := rfl
theorem ln_hnew (h : Hp) (k n w : Nat) (q : Nat) : ln (hnew h k n w) q = if q = sz h then n else ln h q := rfl
theorem fI_hnew (h : Hp) (k n w : Nat) (f q : Nat) : fI (hnew h k n w) f q = if q = sz h then 0 else fI h f q := rfl
theorem fR_hnew (h : Hp) (k n w : Nat) (f q : Nat) : fR (hnew h k n w) f q = if q = sz h then none else fR h f q := rfl
theorem aI_hnew (h : Hp) (k n w : Nat) (q j : Nat) : aI (hnew h k n w) q j = if q = sz h then 0 else aI h q j := rfl
theorem aR_hnew (h : Hp) (k n w : Nat) (q j : Nat) : aR (hnew h k n w) q j = if q = sz h then none else aR h q j := rfl
theorem gc_hnew (h : Hp) (k n w : Nat) : gc (hnew h k n w) = gc h := rfl
theorem sz_hnew (h : Hp) (k n w : Nat) : sz (hnew h k n w) = sz h + 1 := rfl
theorem sl_hnew (h : Hp) (k n w : Nat) : sl (hnew h k n w) = sl h + w := rfl
theorem ar_lt {a b : Nat} (ha : a < 2 ^ 31) (hb : b < 2 ^ 31) : (nI a < nI b) = (a < b) := propext (nI_ltI ha hb)
theorem ar_le {a b : Nat} (ha : a < 2 ^ 31) (hb : b < 2 ^ 31) : (nI a ≤ nI b) = (a ≤ b) := propext (nI_leI ha hb)
theorem ar_eq {a b : Nat} (ha : a < 2 ^ 31) (hb : b < 2 ^ 31) : (nI a = nI b) = (a = b) := propext (nI_eq ha hb)
theorem z_lt {a : Nat} (ha : a < 2 ^ 31) : (nI a < 0) = False := propext ⟨fun h => nI_pos ha h, False.elim⟩
theorem z_le {a : Nat} (ha : a < 2 ^ 31) : (0 ≤ nI a) = True := propext ⟨fun _ => trivial, fun _ => nI_pos' ha⟩
theorem z_gt {a : Nat} (ha : a < 2 ^ 31) : (0 < nI a) = (0 < a) := by rw [← nI_0, ar_lt (by decide) ha]
theorem z_ge {a : Nat} (ha : a < 2 ^ 31) : (nI a ≤ 0) = (a = 0) := by rw [← nI_0, ar_le ha (by decide)]; exact propext ⟨fun h => by omega, fun h => by omega⟩
theorem z_eq {a : Nat} (ha : a < 2 ^ 31) : (nI a = 0) = (a = 0) := by rw [← nI_0, ar_eq ha (by decide)]
theorem z_eq2 {a : Nat} (ha : a < 2 ^ 31) : (nI a = 1) = (a = 1) := by rw [show (1 : Int32) = nI 1 from rfl, ar_eq ha (by decide)]
theorem Y_iaload {m : MI} {code : List Ent} {L : Lv} {st : List Value} {h : Hp} {P : Option Value → Hp → Prop} {pc len a b : Nat} {i : Int32} {x : Nat}  : Z m ((pc, .iaload, len, a, b, 0) :: code) L (.int i :: .ref x :: st) h P ↔ (∃ j, sm_ix i (ln h x) = some j ∧ (kd h x = 20 ∨ kd h x = 41) ∧ Z m code L (.int (aI h x j) :: st) h P) := by
  cases hj : sm_ix i (ln h x) with
  | none =>
    refine (Z_no rfl ?_).trans ⟨False.elim, fun ⟨j, q, _⟩ => by cases q⟩
    have harr : sm_arr (.int i :: .ref x :: st) h = none := by
      show (match sm_ix i (ln h x) with | some j => some (x, j, st) | none => none) = _
      rw [hj]
    simp only [sm_step, harr, sm_in_int, sm_rf]
  | some j =>
    rw [Z_iaload hj]
    exact ⟨fun q => ⟨j, rfl, q⟩, fun ⟨j, q, r⟩ => by cases q; exact r⟩
theorem Y_baload {m : MI} {code : List Ent} {L : Lv} {st : List Value} {h : Hp} {P : Option Value → Hp → Prop} {pc len a b : Nat} {i : Int32} {x : Nat}  : Z m ((pc, .baload, len, a, b, 0) :: code) L (.int i :: .ref x :: st) h P ↔ (∃ j, sm_ix i (ln h x) = some j ∧ kd h x = 21 ∧ Z m code L (.int (aI h x j) :: st) h P) := by
  cases hj : sm_ix i (ln h x) with
  | none =>
    refine (Z_no rfl ?_).trans ⟨False.elim, fun ⟨j, q, _⟩ => by cases q⟩
    have harr : sm_arr (.int i :: .ref x :: st) h = none := by
      show (match sm_ix i (ln h x) with | some j => some (x, j, st) | none => none) = _
      rw [hj]
    simp only [sm_step, harr, sm_in_int, sm_rf]
  | some j =>
    rw [Z_baload hj]
    exact ⟨fun q => ⟨j, rfl, q⟩, fun ⟨j, q, r⟩ => by cases q; exact r⟩
theorem Y_aaload {m : MI} {code : List Ent} {L : Lv} {st : List Value} {h : Hp} {P : Option Value → Hp → Prop} {pc len a b : Nat} {i : Int32} {x : Nat}  : Z m ((pc, .aaload, len, a, b, 0) :: code) L (.int i :: .ref x :: st) h P ↔ (∃ j, sm_ix i (ln h x) = some j ∧ (22 ≤ kd h x ∧ kd h x ≤ 27) ∧ Z m code L (va_rf (aR h x j) :: st) h P) := by
  cases hj : sm_ix i (ln h x) with
  | none =>
    refine (Z_no rfl ?_).trans ⟨False.elim, fun ⟨j, q, _⟩ => by cases q⟩
    have harr : sm_arr (.int i :: .ref x :: st) h = none := by
      show (match sm_ix i (ln h x) with | some j => some (x, j, st) | none => none) = _
      rw [hj]
    simp only [sm_step, harr, sm_in_int, sm_rf]
  | some j =>
    rw [Z_aaload hj]
    exact ⟨fun q => ⟨j, rfl, q⟩, fun ⟨j, q, r⟩ => by cases q; exact r⟩
theorem Y_iastore {m : MI} {code : List Ent} {L : Lv} {st : List Value} {h : Hp} {P : Option Value → Hp → Prop} {pc len a b : Nat} {i : Int32} {x : Nat} {v : Int32} : Z m ((pc, .iastore, len, a, b, 0) :: code) L (.int v :: .int i :: .ref x :: st) h P ↔ (∃ j, sm_ix i (ln h x) = some j ∧ kd h x = 20 ∧ Z m code L st (waI h x j v) P) := by
  cases hj : sm_ix i (ln h x) with
  | none =>
    refine (Z_no rfl ?_).trans ⟨False.elim, fun ⟨j, q, _⟩ => by cases q⟩
    have harr : sm_arr (.int i :: .ref x :: st) h = none := by
      show (match sm_ix i (ln h x) with | some j => some (x, j, st) | none => none) = _
      rw [hj]
    simp only [sm_step, harr, sm_in_int, sm_rf]
  | some j =>
    rw [Z_iastore hj]
    exact ⟨fun q => ⟨j, rfl, q⟩, fun ⟨j, q, r⟩ => by cases q; exact r⟩
theorem Y_bastore {m : MI} {code : List Ent} {L : Lv} {st : List Value} {h : Hp} {P : Option Value → Hp → Prop} {pc len a b : Nat} {i : Int32} {x : Nat} {v : Int32} : Z m ((pc, .bastore, len, a, b, 0) :: code) L (.int v :: .int i :: .ref x :: st) h P ↔ (∃ j, sm_ix i (ln h x) = some j ∧ (kd h x = 21 ∧ (v = 0 ∨ v = 1)) ∧ Z m code L st (waI h x j v) P) := by
  cases hj : sm_ix i (ln h x) with
  | none =>
    refine (Z_no rfl ?_).trans ⟨False.elim, fun ⟨j, q, _⟩ => by cases q⟩
    have harr : sm_arr (.int i :: .ref x :: st) h = none := by
      show (match sm_ix i (ln h x) with | some j => some (x, j, st) | none => none) = _
      rw [hj]
    simp only [sm_step, harr, sm_in_int, sm_rf]
  | some j =>
    rw [Z_bastore hj]
    exact ⟨fun q => ⟨j, rfl, q⟩, fun ⟨j, q, r⟩ => by cases q; exact r⟩
theorem Y_aastore {m : MI} {code : List Ent} {L : Lv} {st : List Value} {h : Hp} {P : Option Value → Hp → Prop} {pc len a b : Nat} {i : Int32} {x : Nat} {v : Nat} : Z m ((pc, .aastore, len, a, b, 0) :: code) L (.ref v :: .int i :: .ref x :: st) h P ↔ (∃ j, sm_ix i (ln h x) = some j ∧ sm_may (kd h x) (kd h v) = true ∧ Z m code L st (waR h x j (some v)) P) := by
  cases hj : sm_ix i (ln h x) with
  | none =>
    refine (Z_no rfl ?_).trans ⟨False.elim, fun ⟨j, q, _⟩ => by cases q⟩
    have harr : sm_arr (.int i :: .ref x :: st) h = none := by
      show (match sm_ix i (ln h x) with | some j => some (x, j, st) | none => none) = _
      rw [hj]
    simp only [sm_step, harr, sm_in_int, sm_rf]
  | some j =>
    rw [Z_aastore hj]
    exact ⟨fun q => ⟨j, rfl, q⟩, fun ⟨j, q, r⟩ => by cases q; exact r⟩
theorem Y_aastoreN {m : MI} {code : List Ent} {L : Lv} {st : List Value} {h : Hp} {P : Option Value → Hp → Prop} {pc len a b : Nat} {i : Int32} {x : Nat}  : Z m ((pc, .aastore, len, a, b, 0) :: code) L (.null :: .int i :: .ref x :: st) h P ↔ (∃ j, sm_ix i (ln h x) = some j ∧ (22 ≤ kd h x ∧ kd h x ≤ 27) ∧ Z m code L st (waR h x j none) P) := by
  cases hj : sm_ix i (ln h x) with
  | none =>
    refine (Z_no rfl ?_).trans ⟨False.elim, fun ⟨j, q, _⟩ => by cases q⟩
    have harr : sm_arr (.int i :: .ref x :: st) h = none := by
      show (match sm_ix i (ln h x) with | some j => some (x, j, st) | none => none) = _
      rw [hj]
    simp only [sm_step, harr, sm_in_int, sm_rf]
  | some j =>
    rw [Z_aastoreN hj]
    exact ⟨fun q => ⟨j, rfl, q⟩, fun ⟨j, q, r⟩ => by cases q; exact r⟩
theorem Z_zretF {m : MI} {code : List Ent} {L : Lv} {h : Hp} {P : Option Value → Hp → Prop} {pc len a b : Nat} (hr : mR m = some .boolean) : Z m ((pc, .ireturn, len, a, b, 0) :: code) L [.int (nI 0)] h P ↔ P (some (.int (nI 0))) h := Z_zret hr (Or.inl rfl)
theorem Z_zretT {m : MI} {code : List Ent} {L : Lv} {h : Hp} {P : Option Value → Hp → Prop} {pc len a b : Nat} (hr : mR m = some .boolean) : Z m ((pc, .ireturn, len, a, b, 0) :: code) L [.int (nI 1)] h P ↔ P (some (.int (nI 1))) h := Z_zret hr (Or.inr rfl)
