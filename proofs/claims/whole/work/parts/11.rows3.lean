theorem elt_fact : ∀ k, 23 ≤ k → k ≤ 27 → 1 ≤ sm_elt k ∧ sm_elt k ≤ 11 ∧ sm_elt k ≠ 4 := by
  intro k h1 h2
  rcases (show k = 23 ∨ k = 24 ∨ k = 25 ∨ k = 26 ∨ k = 27 by omega) with rfl | rfl | rfl | rfl | rfl <;> decide
theorem w_cM : Cond.castable "ReplicaStore$Message" "java/lang/Object" ∈ lw_tbl := by decide +kernel
theorem w_cO : Cond.castable "ReplicaStore$Operation" "java/lang/Object" ∈ lw_tbl := by decide +kernel
theorem may_spec {ka k : Nat} (h : sm_may ka k = true) : (ka = 22 ∧ (k = 4 ∨ k = 5)) ∨ (23 ≤ ka ∧ ka ≤ 27 ∧ k = sm_elt ka) := by
  unfold sm_may at h
  cases hb : Nat.beq ka 22 with
  | true =>
    rw [hb] at h
    simp only [cond_true, Bool.or_eq_true, Nat.beq_eq] at h
    exact Or.inl ⟨Nat.eq_of_beq_eq_true hb, h⟩
  | false =>
    rw [hb] at h
    simp only [cond_false, Bool.and_eq_true, Nat.beq_eq, Nat.ble_eq] at h
    exact Or.inr ⟨h.1.1, h.1.2, h.2⟩
section ROWS3
variable {p : Program} {l : Launch} {e : Env} {R : Room} {s : State} {m : MethodId} {args : Array Value} {below : List Frame} {meth : Method} {c : Code} {H : Heap} {locs : List Loc} {cells slots : Nat} {Q : State → Prop}
variable {pc : Nat} {ls : Array Slot} {rest : List Value} {D : va_G} {b g0 g1 : Nat} {mi : MI} {h : Hp} {a : Nat}
theorem Rp.recv (hK : va_K D wc [] s) (hR : Rp D b g0 g1 s h H) {k : Nat} {q : vw_C} (hk : kd h a = k) (h1 : 1 ≤ k) (hq : wc[k - 1]? = some q) : ∃ cell : Cell, H[a]? = some cell ∧ cell.vm.isStatics = false ∧ s.vm.findClass q.1 = some cell.cls := by
  have h11 := wc_lt hq
  obtain ⟨-, r, r1, cell, r2, r3, r4, r5⟩ := hR.obj (a := a) (by omega) (by omega)
  rw [hk] at r1 r3
  cases hq.symm.trans r1
  exact ⟨cell, r2, by rw [r4]; rfl, by rw [r3]; exact (hK.1 _ _ hq).2.1⟩
/-- an object of a kind that an Object array may hold -/
theorem Rp.any (C : Kx D b g0 g1 s) (hR : Rp D b g0 g1 s h H) (hk : kd h a = 4 ∨ kd h a = 5) : va_Any "java/lang/Object" s H a := by
  obtain ⟨hK, hSp, -⟩ := C
  have key : ∀ (k : Nat) (q : vw_C), kd h a = k → 1 ≤ k → wc[k - 1]? = some q → va_Nw (.castable q.1 "java/lang/Object") s → va_Any "java/lang/Object" s H a := by
    intro k q h1 h2 h3 h4
    obtain ⟨cell, c1, c2, c3⟩ := hR.recv hK h1 h2 h3
    obtain ⟨kC, hkC, -⟩ := Vm.findClass_spec c3
    obtain ⟨c0, t0, f1, f2, f3⟩ := Cond.castable_spec h4
    cases c3.symm.trans f1
    refine ⟨cell, c1, c2, ⟨kC, hkC⟩, fun comp hc => ?_⟩
    cases hc.symm.trans f2
    exact f3
  rcases hk with hk | hk
  · exact key 4 _ hk (by decide) rfl (hSp _ w_cM rfl)
  · exact key 5 _ hk (by decide) rfl (hSp _ w_cO rfl)
theorem waR_RpA (hR : Rp D b g0 g1 s h H) {H1 : Heap} {cA : ClassId} {j : Nat} {x : Option Nat} (h1 : 22 ≤ kd h a) (e1 : H1[a]? = some ((arrV cA (ln h a) (vA h a)).setSlot j (va_rf x))) : H1[a]? = some (arrV cA (ln (waR h a j x) a) (vA (waR h a j x) a)) := by
  rw [e1, arrV_store]
  congr 2
  funext z
  show updV _ _ _ _ = (if kd h a < 22 then _ else va_rf (if a = a ∧ z = j then x else aR h a z))
  rw [if_neg (by omega)]
  by_cases hz : z = j
  · subst hz
    simp [updV]
  · simp [updV, hz, vA, show ¬ kd h a < 22 by omega]
theorem sr_aast (C : Cx D b g0 g1 p R s m args meth c mi) (hR : Rp D b g0 g1 s h H) (hS0 : va_S (fun q => b ≤ q) s.heap H locs) {i : Int32} {j y : Nat} (hi : sm_ix i (ln h a) = some j) (hmay : sm_may (kd h a) (kd h y) = true) (hdg : decode (mC mi) pc = .ok (.aastore, 1))
    (kk : ∀ (H1 : Heap) (locs1 : List Loc), Rp D b g0 g1 s (waR h a j (some y)) H1 → va_S (fun q => b ≤ q) s.heap H1 locs1 → W p l e R s m args below meth c H1 locs1 cells slots Q (F0 m (pc + 1) ls rest)) : W p l e R s m args below meth c H locs cells slots Q (F0 m pc ls (.ref y :: .int i :: .ref a :: rest)) := by
  obtain ⟨hx, hb, hml, hown, hts, hKx, -⟩ := C
  obtain ⟨i1, i2, i3, i4⟩ := ix_spec hi
  have hm := may_spec hmay
  have hr22 : 22 ≤ kd h a ∧ kd h a ≤ 27 := by rcases hm with hm | hm <;> omega
  obtain ⟨hba, cA, r4, r5, r6⟩ := hR.arr (a := a) (by omega) (by omega)
  have hany : va_Any (anm (kd h a)) s H y := by
    rcases hm with ⟨m1, m2⟩ | ⟨m1, m2, m3⟩
    · rw [m1]
      exact hR.any hKx m2
    · obtain ⟨f1, f2, f3⟩ := elt_fact _ m1 m2
      have hq : wc[kd h y - 1]? = some (wc[kd h y - 1]'(by show _ < 11; omega)) := List.getElem?_eq_getElem _
      obtain ⟨cell, c1, c2, c3⟩ := hR.recv (a := y) hKx.1 rfl (by omega) hq
      have hcl := (hKx.1.1 _ _ hq).2
      obtain ⟨kC, hkC, -⟩ := Vm.findClass_spec c3
      refine ⟨cell, c1, c2, ⟨kC, hkC⟩, fun comp hc => ?_⟩
      have e : anm (kd h a) = kn (kd h y) := by
        rw [m3]
        unfold anm
        split
        · omega
        · rfl
      rw [e, cls_kn hq (by omega)] at hc
      cases hc.symm.trans c3
      have e2 := Option.some.inj (hcl.1.symm.trans c3)
      rw [← e2]
      exact va_assign hcl
  rw [aty_o hr22.1 hr22.2] at r6
  obtain ⟨cellV, g1', g3', ⟨kC, hkC⟩, hasg⟩ := hany
  obtain ⟨kA, comp, k1, k2, k3, k4⟩ := id r6
  obtain ⟨kE, hkE, -⟩ := Vm.findClass_spec k3
  refine W.aast hx hb r4 (fun q h => by cases h) (fun h => by cases h) k1 k2 rfl hkE ⟨i2, by rw [arrV_size, i1]; exact i3⟩ g1' (fun q h => by rw [h] at g3'; cases g3') hkC (hasg _ k3) rfl rfl hdg fun H1 e1 e2 e3 => ?_
  refine kk H1 _ (hR.putA (putA_R h a j (some y)) e2 e3 (Or.inr (Or.inl ⟨by show 20 ≤ kd h a; omega, by show kd h a ≤ 27; omega, hba, cA, waR_RpA hR hr22.1 (by rw [e1, i1]; rfl), r5, ?_⟩)) (fun z j' y' hy => ?_)) (hS0.put e2 e3 hba)
  · show va_RA s cA (aty (kd h a))
    rw [aty_o hr22.1 hr22.2]
    exact r6
  · have hy : (if a = a ∧ j' = j then some y else aR h a j') = some y' := hy
    split at hy
    · cases hy
      rcases hm with hm | hm
      · exact hm.2
      · omega
    · exact hR.2.2.2.1 a z j' y' hy
theorem sr_aastN (C : Cx D b g0 g1 p R s m args meth c mi) (hR : Rp D b g0 g1 s h H) (hS0 : va_S (fun q => b ≤ q) s.heap H locs) {i : Int32} {j : Nat} (hi : sm_ix i (ln h a) = some j) (h1 : 22 ≤ kd h a) (h2 : kd h a ≤ 27) (hdg : decode (mC mi) pc = .ok (.aastore, 1))
    (kk : ∀ (H1 : Heap) (locs1 : List Loc), Rp D b g0 g1 s (waR h a j none) H1 → va_S (fun q => b ≤ q) s.heap H1 locs1 → W p l e R s m args below meth c H1 locs1 cells slots Q (F0 m (pc + 1) ls rest)) : W p l e R s m args below meth c H locs cells slots Q (F0 m pc ls (.null :: .int i :: .ref a :: rest)) := by
  obtain ⟨hx, hb, hml, hown, hts, hKx, -⟩ := C
  obtain ⟨i1, i2, i3, i4⟩ := ix_spec hi
  obtain ⟨hba, cA, r4, r5, r6⟩ := hR.arr (a := a) (by omega) (by omega)
  refine va_WaastN (C := anm (kd h a)) hx hb r4 (by rw [aty_o h1 h2] at r5; exact r5 _ _) (fun h => by cases h) (by rw [arrV_size]; exact i4) rfl rfl hdg fun H1 e1 e2 e3 => ?_
  refine kk H1 _ (hR.putA (putA_R h a j none) e2 e3 (Or.inr (Or.inl ⟨by show 20 ≤ kd h a; omega, by show kd h a ≤ 27; omega, hba, cA, waR_RpA hR h1 (by rw [e1, i1]; rfl), r5, r6⟩)) (fun z j' y' hy => ?_)) (hS0.put e2 e3 hba)
  have hy : (if a = a ∧ j' = j then none else aR h a j') = some y' := hy
  split at hy
  · cases hy
  · exact hR.2.2.2.1 a z j' y' hy
theorem sr_cast (C : Cx D b g0 g1 p R s m args meth c mi) (hR : Rp D b g0 g1 s h H) {i k : Nat} (hC : (mW mi, i, k) ∈ tC) (hk : kd h a = k) (hq : k = 20 ∨ (1 ≤ k ∧ k ≤ 11)) (hdg : decode (mC mi) pc = .ok (.checkcast i, 3))
    (kk : W p l e R s m args below meth c H locs cells slots Q (F0 m (pc + 3) ls (.ref a :: rest))) : W p l e R s m args below meth c H locs cells slots Q (F0 m pc ls (.ref a :: rest)) := by
  obtain ⟨hx, hb, hml, hown, hts, hKx, -⟩ := C
  have hlk := hts _ (tC_get hC)
  rw [own_owN] at hlk
  rcases hq with rfl | ⟨q1, q2⟩
  · obtain ⟨-, cA, r4, r5, r6⟩ := hR.arr (a := a) (by omega) (by omega)
    rw [hk] at r6
    have hnm : s.vm.findClass "[I" = some cA := r6
    intro T hT X
    obtain ⟨vm', X', st⟩ := X.checkcastYes hx hown hlk (by rw [hT]; exact r4) rfl hnm (va_asg _ _) (g := F0 m pc ls (.ref a :: rest)) rfl rfl (by rw [hb]; exact hdg)
    obtain ⟨t, a1, b1⟩ := kk (T.setVm vm') hT X'
    exact ⟨t, st t a1, b1⟩
  · have hq : wc[k - 1]? = some (wc[k - 1]'(by show _ < 11; omega)) := List.getElem?_eq_getElem _
    rw [cls_kn hq q1] at hlk
    exact va_castS hx hb hown hlk (hKx.1.1 _ _ hq).2 (hR.recv hKx.1 hk q1 hq) hdg kk
theorem sr_clone (C : Cx D b g0 g1 p R s m args meth c mi) (hml2 : ls.size = mL mi) (hR : Rp D b g0 g1 s h H) (hS0 : va_S (fun q => b ≤ q) s.heap H locs) {i : Nat} (hB : (mW mi, i, 1001) ∈ tB) (hk : kd h a = 20) (hF : 1 ≤ mF mi) (hO : 22 ≤ mO mi) (hrest : (rest.map fun v => v.category).sum ≤ 8) (hcells : cells + 1 ≤ R.cells) (hslots : slots + ln h a ≤ R.slots) (hdg : decode (mC mi) pc = .ok (.invokevirtual i, 3))
    (kk : ∀ (H1 : Heap), Rp D b g0 g1 s (hcln h a) H1 → va_S (fun q => b ≤ q) s.heap H1 locs → W p l e R s m args below meth c H1 locs (cells + 1) (slots + ln h a) Q (F0 m (pc + 3) ls (.ref (sz h) :: rest))) : W p l e R s m args below meth c H locs cells slots Q (F0 m pc ls (.ref a :: rest)) := by
  obtain ⟨hx, hb, hml, hown, hts, ⟨hK, hSp, -⟩, -, hf1, hf2, -⟩ := C
  obtain ⟨hba, cA, r4, r5, r6⟩ := hR.arr (a := a) (by omega) (by omega)
  rw [hk] at r5 r6
  have hnm : s.vm.findClass "[I" = some cA := r6
  have hlk := hts _ (tB_get hB)
  rw [own_owN] at hlk
  obtain ⟨c0, t0', f1, f2, f3⟩ := Cond.castable_spec (va_Nw.use (A := args) rfl (hSp _ w_cC rfl))
  cases hnm.symm.trans f1
  have hcellE : ({ cls := (arrV cA (ln h a) (vA h a)).cls, slots := (arrV cA (ln h a) (vA h a)).slots } : Cell) = arrV cA (ln h a) (vA h a) := rfl
  intro T hT X
  have hcellT : T.heap[a]? = some (arrV cA (ln h a) (vA h a)) := by rw [hT]; exact r4
  obtain ⟨-, kA, hkA, comp, hkind⟩ := State.isArrayOf_alike X.warmed.alike (r5 0 (fun _ => .null))
  obtain ⟨-, kS, hkS, compS, hkindS⟩ := r5 0 (fun _ => .null)
  obtain ⟨vm', X', st⟩ := X.cloneArray hx hown hlk (hts _ w_sC) (hts _ w_nC) (hts _ w_iC) (hts _ w_lC) (a := a) (cell := arrV cA (ln h a) (vA h a)) hcellT (fun k h => by cases h) (fun h => by cases h) hnm f2 f3
    (fun i v hv => by
      have hlt : i < ln h a := by
        have := (Array.getElem?_eq_some_iff.mp hv).1
        rw [arrV_size] at this
        exact this
      rw [arrV_read _ _ hlt] at hv
      cases hv
      have hk' : T.vm.classes[cA]? = some kA := hkA
      have hv2 : vA h a i = .int (aI h a i) := by unfold vA; rw [if_pos (by omega)]
      rw [hv2]
      show T.fitsSlot cA .none i _ = true
      have hkind' : kA.kind = .array comp .int := hkind
      simp [State.fitsSlot, State.slotType?, hk', hkind', fits])
    (g := F0 m pc ls (.ref a :: rest)) rfl (by rw [hml]; exact hml2) rfl (by rw [hb]; exact hdg) (by omega) (by show 2 * 0 + _ + 14 ≤ _; omega) hcells (by rw [arrV_size]; exact hslots) (hloader := Vm.clonesLoader_of_array hkS hkindS)
  rw [hcellE, arrV_size] at X'
  generalize hH1 : H.push (arrV cA (ln h a) (vA h a)) = H1
  have z1 : H1.size = H.size + 1 := by rw [← hH1, Array.size_push]
  have e1 : H1[sz h]? = some (arrV cA (ln h a) (vA h a)) := by rw [← hR.1, ← hH1, Array.getElem?_push_size]
  have o1 : ∀ q : Nat, q < H.size → H1[q]? = H[q]? := fun q hq => by rw [← hH1, Array.getElem?_push, if_neg (Nat.ne_of_lt hq)]
  have k0 : kd (hcln h a) (sz h) = 20 := if_pos rfl
  have l0 : ln (hcln h a) (sz h) = ln h a := if_pos rfl
  have v0 : vA (hcln h a) (sz h) = vA h a := by
    funext j
    unfold vA
    rw [k0, hk]
    have : aI (hcln h a) (sz h) j = aI h a j := if_pos rfl
    rw [this]
    rfl
  obtain ⟨t, b1, b2⟩ := kk H1 (hR.new z1 o1 rfl rfl (fun z hz => ⟨if_neg hz, if_neg hz, fun f => if_neg hz, fun f => if_neg hz, by funext j; exact if_neg hz, by funext j; exact if_neg hz⟩) (Or.inr (Or.inl ⟨by rw [k0]; exact Nat.le_refl _, by rw [k0]; decide, hR.2.1, cA, by rw [l0, v0]; exact e1, by rw [k0]; exact r5, by rw [k0]; exact r6⟩)) (fun j => if_pos rfl)) (hS0.push1 z1 o1) ((T.setVm vm').pushCell (arrV cA (ln h a) (vA h a))) (by rw [← hH1, ← hT]; rfl) X'
  refine ⟨t, st t ?_, b2⟩
  rw [hcellE, hT, hR.1]
  exact b1
theorem sr_copy (C : Cx D b g0 g1 p R s m args meth c mi) (hml2 : ls.size = mL mi) (hR : Rp D b g0 g1 s h H) (hS0 : va_S (fun q => b ≤ q) s.heap H locs) {i a0 : Nat} (hB : (mW mi, i, 1002) ∈ tB) (hk : kd h a = 22) (hk0 : kd h a0 = 22) (hF : 1 ≤ mF mi) (hO : 8 + (nativeFrameWords "java/lang/System" "arraycopy" 5 + 11) ≤ mO mi) (hrest : (rest.map fun v => v.category).sum ≤ 8)
    {sp dp n : Int32} (h1 : ¬ sp < 0) (h2 : ¬ dp < 0) (h3 : ¬ n < 0) (h4 : sp.toNatClampNeg + n.toNatClampNeg ≤ ln h a0) (h5 : dp.toNatClampNeg + n.toNatClampNeg ≤ ln h a) (hdg : decode (mC mi) pc = .ok (.invokestatic i, 3))
    (kk : ∀ (H1 : Heap) (locs1 : List Loc), Rp D b g0 g1 s (hcpy h a0 sp.toNatClampNeg a dp.toNatClampNeg n.toNatClampNeg) H1 → va_S (fun q => b ≤ q) s.heap H1 locs1 → W p l e R s m args below meth c H1 locs1 cells slots Q (F0 m (pc + 3) ls rest)) : W p l e R s m args below meth c H locs cells slots Q (F0 m pc ls (.int n :: .int dp :: .ref a :: .int sp :: .ref a0 :: rest)) := by
  obtain ⟨hx, hb, hml, hown, hts, hKx, -, hf1, hf2, -⟩ := C
  obtain ⟨hba, c1, r4, r5, r6⟩ := hR.arr (a := a) (by omega) (by omega)
  obtain ⟨hba0, c0, q4, q5, q6⟩ := hR.arr (a := a0) (by omega) (by omega)
  have hlk := hts _ (tB_get hB)
  rw [own_owN] at hlk
  have v1 : vA h a = fun j => va_rf (aR h a j) := by funext j; unfold vA; rw [if_neg (by omega)]
  have v0 : vA h a0 = fun j => va_rf (aR h a0 j) := by funext j; unfold vA; rw [if_neg (by omega)]
  rw [v1] at r4
  rw [v0] at q4
  rw [hk] at r5 r6
  rw [hk0] at q5 q6
  rw [aty_o (by decide) (by decide)] at r5 r6 q5 q6
  have nn : ∀ z : Int32, ¬ z < 0 → z.toInt = (z.toNatClampNeg : Int) := by
    intro z hz
    have hz0 : (0 : Int) ≤ z.toInt := by
      have := Int32.not_lt.mp hz
      simpa using Int32.le_iff_toInt_le.mp this
    show z.toInt = ((z.toInt.toNat : Nat) : Int)
    omega
  intro T hT X
  obtain ⟨-, k0, hk0', cm0, hkk0⟩ := q5 (ln h a0) (fun j => va_rf (aR h a0 j))
  obtain ⟨-, k1, hk1, cm1, hkk1⟩ := r5 (ln h a) (fun j => va_rf (aR h a j))
  obtain ⟨vm', X', step⟩ := X.arraycopy hx hown hlk (hts _ w_nA) (hts _ w_sA) (hts _ w_iS) (src := a0) (dst := a) (cs := arrV c0 (ln h a0) (fun j => va_rf (aR h a0 j))) (cd := arrV c1 (ln h a) (fun j => va_rf (aR h a j))) (srcPos := sp) (destPos := dp) (n := n) (by rw [hT]; exact q4) (by rw [hT]; exact r4)
    (fun _ h => by cases h) (fun _ h => by cases h) (fun h => by cases h) (fun h => by cases h) hk0' hk1 hkk0 hkk1 rfl h1 h2 h3
    (by rw [nn sp h1, nn n h3, arrV_size]; omega)
    (by rw [nn dp h2, nn n h3, arrV_size]; omega)
    (fun vm₁ hal i hi => by
      have e : (arrV c0 (ln h a0) (fun j => va_rf (aR h a0 j))).slots.getD (sp.toNatClampNeg + i) .null = va_rf (aR h a0 (sp.toNatClampNeg + i)) := by
        rw [Array.getD_eq_getD_getElem?, arrV_read _ _ (by omega)]
        rfl
      rw [e]
      cases hy : aR h a0 (sp.toNatClampNeg + i) with
      | none => exact ⟨rfl, trivial⟩
      | some y =>
        obtain ⟨cellV, g1', g2', ⟨kC, hkC⟩, hasg⟩ := hR.any (a := y) hKx (hR.2.2.2.1 a0 hk0 _ y hy)
        obtain ⟨kA, comp, r1, r2, r3, -⟩ := r6
        cases hk1.symm.trans r1
        cases hkk1.symm.trans r2
        obtain ⟨kE, hkE, -⟩ := Vm.findClass_spec r3
        obtain ⟨kC', hkC', -⟩ := hal.2.2 _ _ hkC
        obtain ⟨kE', hkE', -⟩ := hal.2.2 _ _ hkE
        refine ⟨rfl, cellV, (show T.heap[y]? = some cellV by rw [hT]; exact g1'), (fun q h => by rw [h] at g2'; cases g2'), ⟨kC', hkC'⟩, ?_, ?_⟩
        · exact ⟨kE', hkE'⟩
        · show vm₁.assignable _ _ = true
          rw [hal.assignable]
          exact hasg _ r3)
    (g := F0 m pc ls (.int n :: .int dp :: .ref a :: .int sp :: .ref a0 :: rest)) rfl (by rw [hml]; exact hml2) (rest := rest) rfl (by rw [hb]; exact hdg) (by omega) (by show 2 * 0 + _ + _ ≤ _; omega)
  have e1 : copied (arrV c0 (ln h a0) (fun j => va_rf (aR h a0 j))) (arrV c1 (ln h a) (fun j => va_rf (aR h a j))) sp dp n = arrV c1 (ln h a) (fun j => va_rf (va_cpy (aR h a0) (aR h a) sp.toNatClampNeg dp.toNatClampNeg n.toNatClampNeg j)) := va_copied (fun z => va_rf z) c0 c1 (aR h a0) (aR h a) h4
  rw [e1] at X' step
  have hl : a < H.size := (Array.getElem?_eq_some_iff.mp r4).1
  generalize hcl : arrV c1 (ln h a) (fun j => va_rf (va_cpy (aR h a0) (aR h a) sp.toNatClampNeg dp.toNatClampNeg n.toNatClampNeg j)) = cl at X' step
  have hheap : ((T.setVm vm').setCell a cl).heap = H.setIfInBounds a cl := by rw [← hT]; rfl
  have oq : ∀ q : Nat, q ≠ a → (H.setIfInBounds a cl)[q]? = H[q]? := fun q hq => by simp [Array.getElem?_setIfInBounds, Ne.symm hq]
  have ea : (H.setIfInBounds a cl)[a]? = some cl := by simp [Array.getElem?_setIfInBounds, hl]
  obtain ⟨t, a1, b1⟩ := kk _ _ (hR.putA (H1 := H.setIfInBounds a cl) (putA_c h a0 sp.toNatClampNeg a dp.toNatClampNeg n.toNatClampNeg) (by simp) oq (Or.inr (Or.inl ⟨by show 20 ≤ kd h a; omega, by show kd h a ≤ 27; omega, hba, c1, by
      rw [ea, ← hcl]
      congr 2
      funext z
      show _ = (if kd h a < 22 then _ else va_rf (if a = a ∧ dp.toNatClampNeg ≤ z ∧ z < dp.toNatClampNeg + n.toNatClampNeg then aR h a0 (sp.toNatClampNeg + (z - dp.toNatClampNeg)) else aR h a z))
      rw [if_neg (by omega)]
      simp [va_cpy], by show ArrOfT s c1 (aty (kd h a)); rw [hk]; exact r5, by show va_RA s c1 (aty (kd h a)); rw [hk]; exact r6⟩)) (fun z j' y' hy => by
      have hy : (if a = a ∧ dp.toNatClampNeg ≤ j' ∧ j' < dp.toNatClampNeg + n.toNatClampNeg then aR h a0 (sp.toNatClampNeg + (j' - dp.toNatClampNeg)) else aR h a j') = some y' := hy
      split at hy
      · exact hR.2.2.2.1 a0 hk0 _ y' hy
      · exact hR.2.2.2.1 a hk _ y' hy)) ⟨by simp; exact hS0.1, fun q g1 g2 => by
      rw [oq q (fun e => g2 (by rw [e]; exact hba))]
      exact hS0.2.1 q g1 g2, fun q hq => by
      rcases List.mem_append.mp hq with h | h
      · exact hS0.2.2 q h
      · obtain ⟨z, -, hz⟩ := List.mem_map.mp h
        rw [← hz]
        exact hba⟩ _ hheap X'
  exact ⟨t, step t a1, b1⟩
end ROWS3
