section STEP3
variable {p : Program} {l : Launch} {env : Env} {R : Room} {s : State} {m : MethodId} {args : Array Value} {below : List Frame} {meth : Method} {c : Code} {H : Heap} {locs : List Loc} {cells slots : Nat} {Q : State → Prop}
variable {ls : Array Slot} {D : va_G} {b g0 g1 : Nat} {mi : MI}

theorem Kk.new {h h' : Hp} {L' : Lv} {st' : List Value} {code' : List Ent} {pc' n : Nat} (kk : Kk p l env R s m args below meth c cells slots Q D b g0 g1 mi h h' L' st' code') (hpc : pcOf code' = pc') (hz : sz h' = sz h + 1) (hsl : sl h' = sl h + n) (hcat : ∀ v ∈ st', v.category = 1) (hlen : L'.length = mL mi) {H1 : Heap} {locs1 : List Loc} {ls1 : Array Slot} (hR : Rp D b g0 g1 s h' H1) (hL : LRp L' ls1) (hS : va_S (fun q => b ≤ q) s.heap H1 locs1) : W p l env R s m args below meth c H1 locs1 (cells + 1) (slots + n) Q (F0 m pc' ls1 st') := by
  have := kk H1 locs1 ls1 hR hL hS hcat hlen
  rw [hz, hsl, Nat.add_sub_cancel_left, Nat.add_sub_cancel_left, hpc] at this
  exact this
theorem vO_wfI {h : Hp} {c k a : Nat} {x : Int32} (hc : cty c k ≠ 1) : vO (wfI h (32 * c + k) a x) c k a = .int x := by
  unfold vO
  rw [if_neg hc]
  congr 1
  exact if_pos ⟨rfl, rfl⟩
theorem vO_wfR {h : Hp} {c k a : Nat} {x : Option Nat} (hc : cty c k = 1) : vO (wfR h (32 * c + k) a x) c k a = va_rf x := by
  unfold vO
  rw [if_pos hc]
  congr 1
  exact if_pos ⟨rfl, rfl⟩
theorem cty_0 {c k : Nat} (h : cty c k = 0) : wty c k = .int := by
  unfold cty at h
  cases hw : wty c k <;> rw [hw] at h <;> first | rfl | cases h
theorem cty_2 {c k : Nat} (h : cty c k = 2) : wty c k = .boolean := by
  unfold cty at h
  cases hw : wty c k <;> rw [hw] at h <;> first | rfl | cases h
theorem cty_1 {c k : Nat} (h : cty c k = 1) (r : Option Nat) : narrow (wty c k) (va_rf r) = va_rf r ∧ fits (wty c k) (va_rf r) = true := by
  unfold cty at h
  cases hw : wty c k <;> rw [hw] at h <;> first | (cases r <;> exact ⟨rfl, rfl⟩) | cases h
theorem st_fld (C : Cx D b g0 g1 p R s m args meth c mi) {pc len x1 x2 x3 : Nat} {ins : Instr} {code code' : List Ent} {L L' : Lv} {st st' : List Value} {h h' : Hp} (hdg : decode (mC mi) pc = .ok (ins, len)) (hI : ckI mi (pc, ins, len, x1, x2, x3) = true)
    (hnx : code ≠ [] → pcOf code = pc + len) (hs : sm_step mi (pc, ins, len, x1, x2, x3) code L st h = some (code', L', st', h')) (hne : code' ≠ []) (hR : Rp D b g0 g1 s h H) (hL : LRp L ls) (hLl : L.length = mL mi) (hst : ∀ v ∈ st, v.category = 1) (hS0 : va_S (fun q => b ≤ q) s.heap H locs) (kk : Kk p l env R s m args below meth c cells slots Q D b g0 g1 mi h h' L' st' code')
    (hins : (∃ k, ins = .getfield k) ∨ (∃ k, ins = .putfield k)) :
    W p l env R s m args below meth c H locs cells slots Q (F0 m pc ls st) := by
  rcases hins with ⟨k, rfl⟩ | ⟨k, rfl⟩
  · simp only [ckI, Bool.and_eq_true, decide_eq_true_eq] at hI
    obtain ⟨⟨i1, i2⟩, i3⟩ := hI
    obtain rfl : len = 3 := Nat.eq_of_beq_eq_true i1
    have i3 := Nat.eq_of_beq_eq_true i3
    obtain ⟨q, ref, q1, q2, q3, q4, -, -⟩ := tF_get i2
    have hfid : 32 * (x1 - 1) + (x2 - 32 * (x1 - 1)) = x2 := by omega
    simp only [sm_step] at hs
    split at hs
    · rename_i v r
      have hc2 := (List.forall_mem_cons.mp hst).2
      split at hs
      · rename_i a ha
        have ev := sm_rf_eq ha
        subst ev
        split at hs
        · rename_i hk
          refine sr_get C hR i2 hk hdg ?_
          by_cases h1 : x3 = 1
          · subst h1
            simp only at hs
            cases hs
            have K := kk.use (hnx hne) rfl rfl (List.forall_mem_cons.mpr ⟨cat_rf _, hc2⟩) hLl hR hL hS0
            have ev : vO h (x1 - 1) (x2 - 32 * (x1 - 1)) a = va_rf (fR h x2 a) := by
              unfold vO
              rw [if_pos i3.symm, hfid]
            rw [ev]
            exact K
          · have hs : some (code, L, Value.int (fI h x2 a) :: r, h) = some (code', L', st', h') := by
              rcases x3 with _ | _ | n
              · exact hs
              · exact absurd rfl h1
              · exact hs
            cases hs
            have K := kk.use (hnx hne) rfl rfl (List.forall_mem_cons.mpr ⟨rfl, hc2⟩) hLl hR hL hS0
            have ev : vO h (x1 - 1) (x2 - 32 * (x1 - 1)) a = .int (fI h x2 a) := by
              unfold vO
              rw [if_neg (by rw [← i3]; exact h1), hfid]
            rw [ev]
            exact K
        · cases hs
      · cases hs
    · cases hs
  · simp only [ckI, Bool.and_eq_true, decide_eq_true_eq] at hI
    obtain ⟨⟨⟨i1, i2⟩, i3⟩, i4⟩ := hI
    obtain rfl : len = 3 := Nat.eq_of_beq_eq_true i1
    have i3 := Nat.eq_of_beq_eq_true i3
    obtain ⟨q, ref, q1, q2, q3, q4, -, -⟩ := tF_get i2
    have hfid : 32 * (x1 - 1) + (x2 - 32 * (x1 - 1)) = x2 := by omega
    obtain ⟨-, w2, -⟩ := wc_facts q1
    obtain ⟨-, t2, -⟩ := w2 _ q4
    simp only [sm_step] at hs
    split at hs
    · rename_i v w r
      have hc2 := (List.forall_mem_cons.mp (List.forall_mem_cons.mp hst).2).2
      split at hs
      · rename_i a ha
        have ev := sm_rf_eq ha
        subst ev
        split at hs
        · rename_i hk
          rcases (show x3 = 0 ∨ x3 = 1 ∨ x3 = 2 from by omega) with rfl | rfl | rfl
          · simp only at hs
            split at hs
            · rename_i x hx
              have ew := sm_in_eq hx
              subst ew
              cases hs
              have hty := cty_0 i3.symm
              refine sr_put C hR hS0 i2 hk i4 hdg (put1_I h x2 a x) ?_ (by rw [hty]; rfl) (by rw [hty]; rfl) (fun H1 locs1 hR1 hS1 => kk.use (hnx hne) rfl rfl hc2 hLl hR1 hL hS1)
              conv => lhs; rw [← hfid]
              rw [show 32 * (x1 - 1) + (x2 - 32 * (x1 - 1)) - 32 * (x1 - 1) = x2 - 32 * (x1 - 1) by omega]
              exact vO_wfI (by omega)
            · cases hs
          · simp only at hs
            split at hs
            · rename_i x hx
              have ew := sm_rf_eq hx
              subst ew
              cases hs
              refine sr_put C hR hS0 i2 hk i4 hdg (put1_R h x2 a x) ?_ (cty_1 i3.symm x).1 (cty_1 i3.symm x).2 (fun H1 locs1 hR1 hS1 => kk.use (hnx hne) rfl rfl hc2 hLl hR1 hL hS1)
              conv => lhs; rw [← hfid]
              rw [show 32 * (x1 - 1) + (x2 - 32 * (x1 - 1)) - 32 * (x1 - 1) = x2 - 32 * (x1 - 1) by omega]
              exact vO_wfR i3.symm
            · cases hs
          · simp only at hs
            split at hs
            · rename_i x hx
              have ew := sm_in_eq hx
              subst ew
              split at hs
              · rename_i h01
                cases hs
                have hty := cty_2 i3.symm
                refine sr_put C hR hS0 i2 hk i4 hdg (put1_I h x2 a x) ?_ (by rw [hty]; rcases h01 with rfl | rfl <;> rfl) (by rw [hty]; rcases h01 with rfl | rfl <;> rfl) (fun H1 locs1 hR1 hS1 => kk.use (hnx hne) rfl rfl hc2 hLl hR1 hL hS1)
                conv => lhs; rw [← hfid]
                rw [show 32 * (x1 - 1) + (x2 - 32 * (x1 - 1)) - 32 * (x1 - 1) = x2 - 32 * (x1 - 1) by omega]
                exact vO_wfI (by omega)
              · cases hs
            · cases hs
        · cases hs
      · cases hs
    · cases hs
theorem st_new (C : Cx D b g0 g1 p R s m args meth c mi) {pc len x1 x2 x3 : Nat} {ins : Instr} {code code' : List Ent} {L L' : Lv} {st st' : List Value} {h h' : Hp} (hdg : decode (mC mi) pc = .ok (ins, len)) (hI : ckI mi (pc, ins, len, x1, x2, x3) = true)
    (hnx : code ≠ [] → pcOf code = pc + len) (hs : sm_step mi (pc, ins, len, x1, x2, x3) code L st h = some (code', L', st', h')) (hne : code' ≠ []) (hR : Rp D b g0 g1 s h H) (hL : LRp L ls) (hLl : L.length = mL mi) (hst : ∀ v ∈ st, v.category = 1) (hS0 : va_S (fun q => b ≤ q) s.heap H locs) (kk : Kk p l env R s m args below meth c cells slots Q D b g0 g1 mi h h' L' st' code') (hcells : cells + (sz h' - sz h) ≤ R.cells) (hslots : slots + (sl h' - sl h) ≤ R.slots)
    (hins : (∃ k, ins = .new k) ∨ (∃ t, ins = .newarray t) ∨ (∃ k, ins = .anewarray k)) :
    W p l env R s m args below meth c H locs cells slots Q (F0 m pc ls st) := by
  rcases hins with ⟨k, rfl⟩ | ⟨t, rfl⟩ | ⟨k, rfl⟩
  · simp only [ckI, Bool.and_eq_true] at hI
    obtain ⟨i1, i2⟩ := hI
    obtain rfl : len = 3 := Nat.eq_of_beq_eq_true i1
    cases hq : wc[x1 - 1]? with
    | none => rw [hq] at i2; cases i2
    | some q =>
      rw [hq] at i2
      simp only [Bool.and_eq_true, decide_eq_true_eq] at i2
      obtain ⟨⟨i3, i4⟩, i5⟩ := i2
      cases hs
      have e1 : sz (hnew h x1 0 x2) - sz h = 1 := Nat.add_sub_cancel_left _ _
      have e2 : sl (hnew h x1 0 x2) - sl h = x2 := Nat.add_sub_cancel_left _ _
      rw [e1] at hcells
      rw [e2] at hslots
      exact sr_new C hR hS0 i5 hq (Nat.le_of_ble_eq_true i3) (Nat.eq_of_beq_eq_true i4) hdg hcells hslots (fun H1 hR1 hS1 => kk.new (hnx hne) rfl rfl (List.forall_mem_cons.mpr ⟨rfl, hst⟩) hLl hR1 hL hS1)
  · simp only [ckI, Bool.and_eq_true] at hI
    obtain ⟨i1, i2⟩ := hI
    obtain rfl : len = 2 := Nat.eq_of_beq_eq_true i1
    simp only [sm_step] at hs
    split at hs
    · rename_i v r
      split at hs
      · rename_i x hx
        have ev := sm_in_eq hx
        subst ev
        split at hs
        · rename_i n hn
          cases hs
          have e1 : sz (hnew h x1 n n) - sz h = 1 := Nat.add_sub_cancel_left _ _
          have e2 : sl (hnew h x1 n n) - sl h = n := Nat.add_sub_cancel_left _ _
          rw [e1] at hcells
          rw [e2] at hslots
          refine sr_newa C hR hS0 ?_ hn hdg hcells hslots (fun H1 hR1 hS1 => kk.new (hnx hne) rfl rfl (List.forall_mem_cons.mpr ⟨rfl, (List.forall_mem_cons.mp hst).2⟩) hLl hR1 hL hS1)
          cases t <;> first | exact Or.inl ⟨rfl, Nat.eq_of_beq_eq_true i2⟩ | exact Or.inr ⟨rfl, Nat.eq_of_beq_eq_true i2⟩ | cases i2
        · cases hs
      · cases hs
    · cases hs
  · simp only [ckI, Bool.and_eq_true] at hI
    obtain ⟨⟨⟨i1, i2⟩, i3⟩, i4⟩ := hI
    obtain rfl : len = 3 := Nat.eq_of_beq_eq_true i1
    have i2 := Nat.le_of_ble_eq_true i2
    have i3 := Nat.le_of_ble_eq_true i3
    have hC : Cond.classLink (owN mi) k (anm x1) ∈ bw := by
      rcases (show x1 = 22 ∨ x1 = 23 ∨ x1 = 24 ∨ x1 = 25 ∨ x1 = 26 ∨ x1 = 27 by omega) with rfl | rfl | rfl | rfl | rfl | rfl <;> (simp only [decide_eq_true_eq] at i4; exact tC_get i4)
    simp only [sm_step] at hs
    split at hs
    · rename_i v r
      split at hs
      · rename_i x hx
        have ev := sm_in_eq hx
        subst ev
        split at hs
        · rename_i n hn
          cases hs
          have e1 : sz (hnew h x1 n n) - sz h = 1 := Nat.add_sub_cancel_left _ _
          have e2 : sl (hnew h x1 n n) - sl h = n := Nat.add_sub_cancel_left _ _
          rw [e1] at hcells
          rw [e2] at hslots
          exact sr_newq C hR hS0 i2 i3 hC hn hdg hcells hslots (fun H1 hR1 hS1 => kk.new (hnx hne) rfl rfl (List.forall_mem_cons.mpr ⟨rfl, (List.forall_mem_cons.mp hst).2⟩) hLl hR1 hL hS1)
        · cases hs
      · cases hs
    · cases hs
theorem st_arr (C : Cx D b g0 g1 p R s m args meth c mi) {pc len x1 x2 x3 : Nat} {ins : Instr} {code code' : List Ent} {L L' : Lv} {st st' : List Value} {h h' : Hp} (hdg : decode (mC mi) pc = .ok (ins, len)) (hI : ckI mi (pc, ins, len, x1, x2, x3) = true)
    (hnx : code ≠ [] → pcOf code = pc + len) (hs : sm_step mi (pc, ins, len, x1, x2, x3) code L st h = some (code', L', st', h')) (hne : code' ≠ []) (hR : Rp D b g0 g1 s h H) (hL : LRp L ls) (hLl : L.length = mL mi) (hst : ∀ v ∈ st, v.category = 1) (hS0 : va_S (fun q => b ≤ q) s.heap H locs) (kk : Kk p l env R s m args below meth c cells slots Q D b g0 g1 mi h h' L' st' code')
    (hins : ins = .arraylength ∨ ins = .iaload ∨ ins = .baload ∨ ins = .aaload ∨ ins = .iastore ∨ ins = .bastore ∨ ins = .aastore ∨ ∃ k, ins = .checkcast k) :
    W p l env R s m args below meth c H locs cells slots Q (F0 m pc ls st) := by
  rcases hins with rfl | rfl | rfl | rfl | rfl | rfl | rfl | ⟨k, rfl⟩
  · obtain rfl : len = 1 := Nat.eq_of_beq_eq_true hI
    simp only [sm_step] at hs
    split at hs
    · rename_i v r
      have hc2 := (List.forall_mem_cons.mp hst).2
      split at hs
      · rename_i a ha
        have ev := sm_rf_eq ha
        subst ev
        split at hs
        · rename_i hk
          cases hs
          exact sr_alen C hR hk hdg (kk.use (hnx hne) rfl rfl (List.forall_mem_cons.mpr ⟨rfl, hc2⟩) hLl hR hL hS0)
        · cases hs
      · cases hs
    · cases hs
  · obtain rfl : len = 1 := Nat.eq_of_beq_eq_true hI
    simp only [sm_step] at hs
    split at hs
    · rename_i a j r hsr
      obtain ⟨i, rfl, hi⟩ := arr_spec hsr
      have hc2 := (List.forall_mem_cons.mp (List.forall_mem_cons.mp hst).2).2
      split at hs
      · rename_i hk
        cases hs
        exact sr_iald C hR hi hk hdg (kk.use (hnx hne) rfl rfl (List.forall_mem_cons.mpr ⟨rfl, hc2⟩) hLl hR hL hS0)
      · cases hs
    · cases hs
  · obtain rfl : len = 1 := Nat.eq_of_beq_eq_true hI
    simp only [sm_step] at hs
    split at hs
    · rename_i a j r hsr
      obtain ⟨i, rfl, hi⟩ := arr_spec hsr
      have hc2 := (List.forall_mem_cons.mp (List.forall_mem_cons.mp hst).2).2
      split at hs
      · rename_i hk
        cases hs
        exact sr_zald C hR hi hk hdg (kk.use (hnx hne) rfl rfl (List.forall_mem_cons.mpr ⟨rfl, hc2⟩) hLl hR hL hS0)
      · cases hs
    · cases hs
  · obtain rfl : len = 1 := Nat.eq_of_beq_eq_true hI
    simp only [sm_step] at hs
    split at hs
    · rename_i a j r hsr
      obtain ⟨i, rfl, hi⟩ := arr_spec hsr
      have hc2 := (List.forall_mem_cons.mp (List.forall_mem_cons.mp hst).2).2
      split at hs
      · rename_i hk
        cases hs
        exact sr_aald C hR hi hk.1 hk.2 hdg (kk.use (hnx hne) rfl rfl (List.forall_mem_cons.mpr ⟨cat_rf _, hc2⟩) hLl hR hL hS0)
      · cases hs
    · cases hs
  · obtain rfl : len = 1 := Nat.eq_of_beq_eq_true hI
    simp only [sm_step] at hs
    split at hs
    · rename_i v st1
      split at hs
      · rename_i x a j r hx hsr
        have ev := sm_in_eq hx
        subst ev
        obtain ⟨i, rfl, hi⟩ := arr_spec hsr
        have hc2 := (List.forall_mem_cons.mp (List.forall_mem_cons.mp (List.forall_mem_cons.mp hst).2).2).2
        split at hs
        · rename_i hk
          cases hs
          exact sr_iast C hR hS0 hi hk hdg (fun H1 locs1 hR1 hS1 => kk.use (hnx hne) rfl rfl hc2 hLl hR1 hL hS1)
        · cases hs
      · cases hs
    · cases hs
  · obtain rfl : len = 1 := Nat.eq_of_beq_eq_true hI
    simp only [sm_step] at hs
    split at hs
    · rename_i v st1
      split at hs
      · rename_i x a j r hx hsr
        have ev := sm_in_eq hx
        subst ev
        obtain ⟨i, rfl, hi⟩ := arr_spec hsr
        have hc2 := (List.forall_mem_cons.mp (List.forall_mem_cons.mp (List.forall_mem_cons.mp hst).2).2).2
        split at hs
        · rename_i hk
          cases hs
          exact sr_zast C hR hS0 hi hk.1 hk.2 hdg (fun H1 locs1 hR1 hS1 => kk.use (hnx hne) rfl rfl hc2 hLl hR1 hL hS1)
        · cases hs
      · cases hs
    · cases hs
  · obtain rfl : len = 1 := Nat.eq_of_beq_eq_true hI
    simp only [sm_step] at hs
    split at hs
    · rename_i v st1
      split at hs
      · rename_i a j r hx hsr
        have ev := sm_rf_eq hx
        subst ev
        obtain ⟨i, rfl, hi⟩ := arr_spec hsr
        have hc2 := (List.forall_mem_cons.mp (List.forall_mem_cons.mp (List.forall_mem_cons.mp hst).2).2).2
        split at hs
        · rename_i hk
          cases hs
          exact sr_aastN C hR hS0 hi hk.1 hk.2 hdg (fun H1 locs1 hR1 hS1 => kk.use (hnx hne) rfl rfl hc2 hLl hR1 hL hS1)
        · cases hs
      · rename_i y a j r hx hsr
        have ev := sm_rf_eq hx
        subst ev
        obtain ⟨i, rfl, hi⟩ := arr_spec hsr
        have hc2 := (List.forall_mem_cons.mp (List.forall_mem_cons.mp (List.forall_mem_cons.mp hst).2).2).2
        split at hs
        · rename_i hk
          cases hs
          exact sr_aast C hR hS0 hi hk hdg (fun H1 locs1 hR1 hS1 => kk.use (hnx hne) rfl rfl hc2 hLl hR1 hL hS1)
        · cases hs
      · cases hs
    · cases hs
  · simp only [ckI, Bool.and_eq_true] at hI
    obtain ⟨i1, i2⟩ := hI
    obtain rfl : len = 3 := Nat.eq_of_beq_eq_true i1
    have hCq : (mW mi, k, x1) ∈ tC ∧ (x1 = 20 ∨ (1 ≤ x1 ∧ x1 ≤ 11)) := by
      by_cases h20 : x1 = 20
      · subst h20
        simp only [decide_eq_true_eq] at i2
        exact ⟨i2, Or.inl rfl⟩
      · cases x1 with
        | zero => cases i2
        | succ n =>
          have i2 : (Nat.blt n 11 && decide ((mW mi, k, n + 1) ∈ tC)) = true := by
            split at i2
            · omega
            · omega
            · rename_i hq
              cases hq
              exact i2
          simp only [Bool.and_eq_true, decide_eq_true_eq] at i2
          have := Nat.le_of_ble_eq_true i2.1
          exact ⟨i2.2, Or.inr ⟨by omega, by omega⟩⟩
    simp only [sm_step] at hs
    split at hs
    · rename_i v r
      split at hs
      · rename_i a ha
        have ev := sm_rf_eq ha
        subst ev
        split at hs
        · rename_i hk
          cases hs
          exact sr_cast C hR hCq.1 hk hCq.2 hdg (kk.use (hnx hne) rfl rfl hst hLl hR hL hS0)
        · cases hs
      · cases hs
    · cases hs
end STEP3
