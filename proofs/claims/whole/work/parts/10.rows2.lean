theorem ix_spec {i : Int32} {n j : Nat} (h : sm_ix i n = some j) : i.toNatClampNeg = j ∧ ¬ i < 0 ∧ j < n ∧ ¬ (i < 0 ∨ n ≤ i.toNatClampNeg) := by
  unfold sm_ix at h
  split at h
  · rename_i q
    cases h
    exact ⟨rfl, q.1, q.2, fun z => z.elim q.1 (fun z => by omega)⟩
  · cases h
theorem nat_spec {i : Int32} {n : Nat} (h : sm_nat i = some n) : i.toNatClampNeg = n ∧ ¬ i < 0 ∧ n ≤ 100000000 := by
  unfold sm_nat at h
  split at h
  · rename_i q
    cases h
    exact ⟨rfl, q.1, q.2⟩
  · cases h
theorem cls_kn {k : Nat} {q : vw_C} (h : wc[k - 1]? = some q) (h1 : 1 ≤ k) : kn k = q.1 := by
  have := wc_lt h
  unfold kn
  split
  · omega
  · omega
  · omega
  · rw [h]
    rfl
section ROWS2
variable {p : Program} {l : Launch} {e : Env} {R : Room} {s : State} {m : MethodId} {args : Array Value} {below : List Frame} {meth : Method} {c : Code} {H : Heap} {locs : List Loc} {cells slots : Nat} {Q : State → Prop}
variable {pc : Nat} {ls : Array Slot} {rest : List Value} {D : va_G} {b g0 g1 : Nat} {mi : MI} {h : Hp} {a : Nat}
theorem va_S.push1 {A : Nat → Prop} {H0 H1 : Heap} (hS : va_S A H0 H locs) (hz : H1.size = H.size + 1) (ho : ∀ q, q < H.size → H1[q]? = H[q]?) : va_S A H0 H1 locs := ⟨by rw [hz]; exact Nat.le_succ_of_le hS.1, fun q h1 h2 => by rw [ho q (Nat.lt_of_lt_of_le h1 hS.1)]; exact hS.2.1 q h1 h2, hS.2.2⟩
theorem sr_new (C : Cx D b g0 g1 p R s m args meth c mi) (hR : Rp D b g0 g1 s h H) (hS0 : va_S (fun q => b ≤ q) s.heap H locs) {i k n : Nat} (hC : (mW mi, i, k) ∈ tC) {q : vw_C} (hq : wc[k - 1]? = some q) (hk : 1 ≤ k) (hn : q.2.2 = n) (hdg : decode (mC mi) pc = .ok (.new i, 3)) (hcells : cells + 1 ≤ R.cells) (hslots : slots + n ≤ R.slots)
    (kk : ∀ (H1 : Heap), Rp D b g0 g1 s (hnew h k 0 n) H1 → va_S (fun q => b ≤ q) s.heap H1 locs → W p l e R s m args below meth c H1 locs (cells + 1) (slots + n) Q (F0 m (pc + 3) ls (.ref (sz h) :: rest))) : W p l e R s m args below meth c H locs cells slots Q (F0 m pc ls rest) := by
  obtain ⟨hx, hb, hml, hown, hts, ⟨hK, -⟩, -⟩ := C
  obtain ⟨w1, w2, w3, w4, w5⟩ := wc_facts hq
  have h11 := wc_lt hq
  have hKn := hK.1 _ _ hq
  subst hn
  have hlk := hts _ (tC_get hC)
  rw [own_owN, cls_kn hq hk] at hlk
  refine W.newcK hx hb hown hlk (hts _ w4) (hts _ w5) rfl hdg hcells hslots hKn.2.1 hR.1 fun H1 kC hkC e1 z1 o1 => ?_
  have o1' : ∀ q, q < H.size → H1[q]? = H[q]? := fun q hq => o1 q (by rw [← hR.1]; exact hq)
  have z1' : H1.size = H.size + 1 := by rw [z1, hR.1]
  have k0 : kd (hnew h k 0 q.2.2) (sz h) = k := if_pos rfl
  refine kk H1 (hR.new z1' o1' rfl rfl (fun z hz => ⟨if_neg hz, if_neg hz, fun f => if_neg hz, fun f => if_neg hz, by funext j; exact if_neg hz, by funext j; exact if_neg hz⟩) (Or.inl ⟨by rw [k0]; exact hk, by rw [k0]; omega, hR.2.1, q, by rw [k0]; exact hq, ?_⟩) (fun j => if_pos rfl)) (hS0.push1 z1' o1')
  rw [k0]
  refine (u_born (wty (k - 1)) hts w1 hKn hkC e1 (fun k hk => (w2 k hk).1)).to (fun j hj => ?_)
  obtain ⟨-, t2, -⟩ := w2 j hj
  have f1 : fI (hnew h k 0 q.2.2) (32 * (k - 1) + j) (sz h) = 0 := if_pos rfl
  have f2 : fR (hnew h k 0 q.2.2) (32 * (k - 1) + j) (sz h) = none := if_pos rfl
  unfold cty at t2
  unfold vO cty
  rw [f1, f2]
  cases hw : wty (k - 1) j <;> rw [hw] at t2 <;> first | rfl | (exact absurd t2 (by decide))
theorem sr_newa (C : Cx D b g0 g1 p R s m args meth c mi) (hR : Rp D b g0 g1 s h H) (hS0 : va_S (fun q => b ≤ q) s.heap H locs) {t : ArrayType} {k n : Nat} {x : Int32} (ht : (t = .int ∧ k = 20) ∨ (t = .boolean ∧ k = 21)) (hx : sm_nat x = some n) (hdg : decode (mC mi) pc = .ok (.newarray t, 2)) (hcells : cells + 1 ≤ R.cells) (hslots : slots + n ≤ R.slots)
    (kk : ∀ (H1 : Heap), Rp D b g0 g1 s (hnew h k n n) H1 → va_S (fun q => b ≤ q) s.heap H1 locs → W p l e R s m args below meth c H1 locs (cells + 1) (slots + n) Q (F0 m (pc + 2) ls (.ref (sz h) :: rest))) : W p l e R s m args below meth c H locs cells slots Q (F0 m pc ls (.int x :: rest)) := by
  obtain ⟨hx', hb, hml, hown, hts, ⟨hK, -⟩, -⟩ := C
  obtain ⟨n1, n2, n3⟩ := nat_spec hx
  have key : ∀ (ty : FieldType), newarray.typeOf t = ty → aty k = ty → defaultValue ty = .int 0 → (∀ (cA : ClassId), s.vm.findClass ("[" ++ ty.toString) = some cA → va_RA s cA ty) → (Cond.arrayClass ty) ∈ bw → n * componentBytes ty ≤ 536870912 → 20 ≤ k → k < 22 → W p l e R s m args below meth c H locs cells slots Q (F0 m pc ls (.int x :: rest)) := by
    intro ty h1 h2 h3 h4 h5 h6 h7 h8
    subst h1
    refine va_newaK hx' hb (hts _ h5) rfl hdg rfl n2 n1 h6 hcells hslots hR.1 fun H1 cA e1 z1 o1 hAr hNm => ?_
    have o1' : ∀ q, q < H.size → H1[q]? = H[q]? := fun q hq => o1 q (by rw [← hR.1]; exact hq)
    have z1' : H1.size = H.size + 1 := by rw [z1, hR.1]
    have k0 : kd (hnew h k n n) (sz h) = k := if_pos rfl
    have l0 : ln (hnew h k n n) (sz h) = n := if_pos rfl
    have v0 : vA (hnew h k n n) (sz h) = fun _ => defaultValue (newarray.typeOf t) := by
      funext j
      unfold vA
      rw [k0, if_pos h8, h3]
      congr 1
      exact if_pos rfl
    exact kk H1 (hR.new z1' o1' rfl rfl (fun z hz => ⟨if_neg hz, if_neg hz, fun f => if_neg hz, fun f => if_neg hz, by funext j; exact if_neg hz, by funext j; exact if_neg hz⟩) (Or.inr (Or.inl ⟨by rw [k0]; exact h7, by rw [k0]; omega, hR.2.1, cA, by rw [l0, v0]; exact e1, by rw [k0, h2]; exact hAr, by rw [k0, h2]; exact h4 cA hNm⟩)) (fun j => if_pos rfl)) (hS0.push1 z1' o1')
  rcases ht with ⟨rfl, rfl⟩ | ⟨rfl, rfl⟩
  · exact key .int rfl rfl rfl (fun cA h => h) w_aI (by show n * 4 ≤ _; omega) (by omega) (by omega)
  · exact key .boolean rfl rfl rfl (fun cA h => h) w_aZ (by show n * 1 ≤ _; omega) (by omega) (by omega)
theorem sr_newq (C : Cx D b g0 g1 p R s m args meth c mi) (hR : Rp D b g0 g1 s h H) (hS0 : va_S (fun q => b ≤ q) s.heap H locs) {i k n : Nat} {x : Int32} (h1 : 22 ≤ k) (h2 : k ≤ 27) (hC : Cond.classLink (owN mi) i (anm k) ∈ bw) (hx : sm_nat x = some n) (hdg : decode (mC mi) pc = .ok (.anewarray i, 3)) (hcells : cells + 1 ≤ R.cells) (hslots : slots + n ≤ R.slots)
    (kk : ∀ (H1 : Heap), Rp D b g0 g1 s (hnew h k n n) H1 → va_S (fun q => b ≤ q) s.heap H1 locs → W p l e R s m args below meth c H1 locs (cells + 1) (slots + n) Q (F0 m (pc + 3) ls (.ref (sz h) :: rest))) : W p l e R s m args below meth c H locs cells slots Q (F0 m pc ls (.int x :: rest)) := by
  obtain ⟨hx', hb, hml, hown, hts, ⟨hK, hSp, -⟩, -⟩ := C
  obtain ⟨n1, n2, n3⟩ := nat_spec hx
  subst n1
  refine W.anew hx' hb hown (hts _ hC) (va_AO.use (hSp _ (ao_in h1 h2) rfl)) rfl hdg rfl n2 (by omega) hcells hslots fun cA kA comp f1 f2 f3 f4 => ?_
  generalize hH1 : H.push ({ cls := cA, slots := Array.replicate x.toNatClampNeg .null, vm := .none } : Cell) = H1
  have z1 : H1.size = H.size + 1 := by rw [← hH1, Array.size_push]
  have e1 : H1[sz h]? = some (arrV cA x.toNatClampNeg (fun _ => .null)) := by rw [← hR.1, ← hH1, Array.getElem?_push_size, ← arrV_new]
  have o1 : ∀ q : Nat, q < H.size → H1[q]? = H[q]? := fun q hq => by rw [← hH1, Array.getElem?_push, if_neg (Nat.ne_of_lt hq)]
  have k0 : kd (hnew h k x.toNatClampNeg x.toNatClampNeg) (sz h) = k := if_pos rfl
  have l0 : ln (hnew h k x.toNatClampNeg x.toNatClampNeg) (sz h) = x.toNatClampNeg := if_pos rfl
  have v0 : vA (hnew h k x.toNatClampNeg x.toNatClampNeg) (sz h) = fun _ => .null := by
    funext j
    unfold vA
    rw [k0, if_neg (by omega)]
    have : aR (hnew h k x.toNatClampNeg x.toNatClampNeg) (sz h) j = none := if_pos rfl
    rw [this]
    rfl
  have hst : H.size = sz h := hR.1
  rw [hst]
  exact kk H1 (hR.new z1 o1 rfl rfl (fun z hz => ⟨if_neg hz, if_neg hz, fun f => if_neg hz, fun f => if_neg hz, by funext j; exact if_neg hz, by funext j; exact if_neg hz⟩) (Or.inr (Or.inl ⟨by rw [k0]; omega, by rw [k0]; omega, hR.2.1, cA, by rw [l0, v0]; exact e1, by rw [k0, aty_o h1 h2]; exact fun n z => ⟨fun k h => (by cases h), kA, f2, comp, f3⟩, by rw [k0, aty_o h1 h2]; exact ⟨kA, comp, f2, f3, f4, f1⟩⟩)) (fun j => if_pos rfl)) (hS0.push1 z1 o1)
theorem sr_alen (C : Cx D b g0 g1 p R s m args meth c mi) (hR : Rp D b g0 g1 s h H) (hk : sm_isA (kd h a) = true) (hdg : decode (mC mi) pc = .ok (.arraylength, 1))
    (kk : W p l e R s m args below meth c H locs cells slots Q (F0 m (pc + 1) ls (.int (nI (ln h a)) :: rest))) : W p l e R s m args below meth c H locs cells slots Q (F0 m pc ls (.ref a :: rest)) := by
  obtain ⟨hx, hb, -⟩ := C
  have hk0 : kd h a ≠ 0 := by
    intro z
    rw [z] at hk
    cases hk
  have hk12 : ¬ kd h a ≤ 11 := by
    intro z
    have : ∀ k, k ≤ 11 → sm_isA k = false := by decide
    rw [this _ z] at hk
    cases hk
  rcases hR.2.2.1 a hk0 with q | ⟨-, -, -, cA, r4, r5, -⟩ | ⟨-, -, cc, r3, r4, r5, r6, -⟩ | ⟨-, -, cc, r3, r4, r5, r6⟩
  · omega
  · exact W.alen hx hb r4 (r5 _ _) (by rw [arrV_size]; rfl) rfl rfl hdg kk
  · exact W.alen hx hb r3 r4 (by rw [r6]; rfl) rfl rfl hdg kk
  · exact W.alen hx hb r3 r4 r6 rfl rfl hdg kk
theorem sr_iald (C : Cx D b g0 g1 p R s m args meth c mi) (hR : Rp D b g0 g1 s h H) {i : Int32} {j : Nat} (hi : sm_ix i (ln h a) = some j) (hk : kd h a = 20 ∨ kd h a = 41) (hdg : decode (mC mi) pc = .ok (.iaload, 1))
    (kk : W p l e R s m args below meth c H locs cells slots Q (F0 m (pc + 1) ls (.int (aI h a j) :: rest))) : W p l e R s m args below meth c H locs cells slots Q (F0 m pc ls (.int i :: .ref a :: rest)) := by
  obtain ⟨hx, hb, -⟩ := C
  obtain ⟨i1, i2, i3, i4⟩ := ix_spec hi
  rcases hR.2.2.1 a (by omega) with q | ⟨-, q2, -, cA, r4, r5, -⟩ | ⟨-, -, cc, r3, r4, r5, r6, r7⟩ | q
  · omega
  · have hk : kd h a = 20 := by omega
    rw [hk] at r5
    refine W.iald hx hb r4 (r5 _ _) (by show (arrV _ _ _).vm ≠ _; exact fun z => by cases z) (by rw [arrV_size]; exact i4) (v := .int (aI h a j)) ?_ rfl rfl hdg kk
    rw [i1, arrV_read _ _ i3]
    unfold vA
    rw [if_pos (by omega)]
  · exact W.iald hx hb r3 r4 r5 (by rw [r6]; exact i4) (v := .int (aI h a j)) (by rw [i1]; exact r7 j i3) rfl rfl hdg kk
  · omega
theorem sr_zald (C : Cx D b g0 g1 p R s m args meth c mi) (hR : Rp D b g0 g1 s h H) {i : Int32} {j : Nat} (hi : sm_ix i (ln h a) = some j) (hk : kd h a = 21) (hdg : decode (mC mi) pc = .ok (.baload, 1))
    (kk : W p l e R s m args below meth c H locs cells slots Q (F0 m (pc + 1) ls (.int (aI h a j) :: rest))) : W p l e R s m args below meth c H locs cells slots Q (F0 m pc ls (.int i :: .ref a :: rest)) := by
  obtain ⟨hx, hb, -⟩ := C
  obtain ⟨i1, i2, i3, i4⟩ := ix_spec hi
  obtain ⟨-, cA, r4, r5, -⟩ := hR.arr (a := a) (by omega) (by omega)
  rw [hk] at r5
  refine W.zald hx hb r4 (r5 _ _) (by show (arrV _ _ _).vm ≠ _; exact fun z => by cases z) (by rw [arrV_size]; exact i4) (v := .int (aI h a j)) ?_ rfl rfl hdg kk
  rw [i1, arrV_read _ _ i3]
  unfold vA
  rw [if_pos (by omega)]
theorem sr_aald (C : Cx D b g0 g1 p R s m args meth c mi) (hR : Rp D b g0 g1 s h H) {i : Int32} {j : Nat} (hi : sm_ix i (ln h a) = some j) (h1 : 22 ≤ kd h a) (h2 : kd h a ≤ 27) (hdg : decode (mC mi) pc = .ok (.aaload, 1))
    (kk : W p l e R s m args below meth c H locs cells slots Q (F0 m (pc + 1) ls (va_rf (aR h a j) :: rest))) : W p l e R s m args below meth c H locs cells slots Q (F0 m pc ls (.int i :: .ref a :: rest)) := by
  obtain ⟨hx, hb, -⟩ := C
  obtain ⟨i1, i2, i3, i4⟩ := ix_spec hi
  obtain ⟨-, cA, r4, r5, -⟩ := hR.arr (a := a) (by omega) (by omega)
  rw [aty_o h1 h2] at r5
  refine W.aald hx hb r4 (r5 _ _) rfl (by show (arrV _ _ _).vm ≠ _; exact fun z => by cases z) (by rw [arrV_size]; exact i4) (v := va_rf (aR h a j)) ?_ rfl rfl hdg kk
  rw [i1, arrV_read _ _ i3]
  unfold vA
  rw [if_neg (by omega)]
theorem sr_iast (C : Cx D b g0 g1 p R s m args meth c mi) (hR : Rp D b g0 g1 s h H) (hS0 : va_S (fun q => b ≤ q) s.heap H locs) {i x : Int32} {j : Nat} (hi : sm_ix i (ln h a) = some j) (hk : kd h a = 20) (hdg : decode (mC mi) pc = .ok (.iastore, 1))
    (kk : ∀ (H1 : Heap) (locs1 : List Loc), Rp D b g0 g1 s (waI h a j x) H1 → va_S (fun q => b ≤ q) s.heap H1 locs1 → W p l e R s m args below meth c H1 locs1 cells slots Q (F0 m (pc + 1) ls rest)) : W p l e R s m args below meth c H locs cells slots Q (F0 m pc ls (.int x :: .int i :: .ref a :: rest)) := by
  obtain ⟨hx, hb, -⟩ := C
  obtain ⟨i1, i2, i3, i4⟩ := ix_spec hi
  obtain ⟨hba, cA, r4, r5, r6⟩ := hR.arr (a := a) (by omega) (by omega)
  refine W.iast hx hb r4 (by rw [hk] at r5; exact r5 _ _) (by show (arrV _ _ _).vm ≠ _; exact fun z => by cases z) (by rw [arrV_size]; exact i4) rfl rfl hdg fun H1 e1 e2 e3 => ?_
  refine kk H1 _ (hR.putA (putA_I h a j x) e2 e3 (Or.inr (Or.inl ⟨by show 20 ≤ kd h a; omega, by show kd h a ≤ 27; omega, hba, cA, ?_, r5, r6⟩)) (fun z => by omega)) (hS0.put e2 e3 hba)
  rw [e1, i1, arrV_store]
  congr 2
  funext z
  show updV _ _ _ _ = (if kd h a < 22 then Value.int (if a = a ∧ z = j then x else aI h a z) else _)
  rw [if_pos (by omega)]
  by_cases hz : z = j
  · subst hz
    simp [updV]
  · simp [updV, hz, vA, show kd h a < 22 by omega]
theorem sr_zast (C : Cx D b g0 g1 p R s m args meth c mi) (hR : Rp D b g0 g1 s h H) (hS0 : va_S (fun q => b ≤ q) s.heap H locs) {i x : Int32} {j : Nat} (hi : sm_ix i (ln h a) = some j) (hk : kd h a = 21) (hx01 : x = 0 ∨ x = 1) (hdg : decode (mC mi) pc = .ok (.bastore, 1))
    (kk : ∀ (H1 : Heap) (locs1 : List Loc), Rp D b g0 g1 s (waI h a j x) H1 → va_S (fun q => b ≤ q) s.heap H1 locs1 → W p l e R s m args below meth c H1 locs1 cells slots Q (F0 m (pc + 1) ls rest)) : W p l e R s m args below meth c H locs cells slots Q (F0 m pc ls (.int x :: .int i :: .ref a :: rest)) := by
  obtain ⟨hx, hb, -⟩ := C
  obtain ⟨i1, i2, i3, i4⟩ := ix_spec hi
  obtain ⟨hba, cA, r4, r5, r6⟩ := hR.arr (a := a) (by omega) (by omega)
  have hnr : narrow .boolean (.int x) = .int x := by rcases hx01 with rfl | rfl <;> rfl
  refine W.zast hx hb r4 (by rw [hk] at r5; exact r5 _ _) (by show (arrV _ _ _).vm ≠ _; exact fun z => by cases z) (by rw [arrV_size]; exact i4) rfl rfl hdg fun H1 e1 e2 e3 => ?_
  refine kk H1 _ (hR.putA (putA_I h a j x) e2 e3 (Or.inr (Or.inl ⟨by show 20 ≤ kd h a; omega, by show kd h a ≤ 27; omega, hba, cA, ?_, r5, r6⟩)) (fun z => by omega)) (hS0.put e2 e3 hba)
  rw [e1, hnr, i1, arrV_store]
  congr 2
  funext z
  show updV _ _ _ _ = (if kd h a < 22 then Value.int (if a = a ∧ z = j then x else aI h a z) else _)
  rw [if_pos (by omega)]
  by_cases hz : z = j
  · subst hz
    simp [updV]
  · simp [updV, hz, vA, show kd h a < 22 by omega]
end ROWS2
