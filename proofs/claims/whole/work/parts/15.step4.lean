section STEP4
variable {p : Program} {l : Launch} {env : Env} {R : Room} {s : State} {m : MethodId} {args : Array Value} {below : List Frame} {meth : Method} {c : Code} {H : Heap} {locs : List Loc} {cells slots : Nat} {Q : State → Prop}
variable {ls : Array Slot} {D : va_G} {b g0 g1 : Nat} {mi : MI}

theorem st_inv (C : Cx D b g0 g1 p R s m args meth c mi) {pc len x1 x2 x3 : Nat} {ins : Instr} {code code' : List Ent} {L L' : Lv} {st st' : List Value} {h h' : Hp} (hdg : decode (mC mi) pc = .ok (ins, len)) (hI : ckI mi (pc, ins, len, x1, x2, x3) = true)
    (hnx : code ≠ [] → pcOf code = pc + len) (hs : sm_step mi (pc, ins, len, x1, x2, x3) code L st h = some (code', L', st', h')) (hne : code' ≠ []) (hR : Rp D b g0 g1 s h H) (hL : LRp L ls) (hLl : L.length = mL mi) (hst : ∀ v ∈ st, v.category = 1) (hS0 : va_S (fun q => b ≤ q) s.heap H locs) (kk : Kk p l env R s m args below meth c cells slots Q D b g0 g1 mi h h' L' st' code') (hcells : cells + (sz h' - sz h) ≤ R.cells) (hslots : slots + (sl h' - sl h) ≤ R.slots) (hcl : ¬ x1 < 1000)
    (hins : (∃ k, ins = .invokespecial k) ∨ (∃ k, ins = .invokevirtual k) ∨ (∃ k, ins = .invokestatic k)) :
    W p l env R s m args below meth c H locs cells slots Q (F0 m pc ls st) := by
  have hlsz : ls.size = mL mi := hL.1.trans hLl
  obtain ⟨hx, hb, hml, hown, hts, ⟨hK, hSp, hZ, hM⟩, -, hf1, hf2, -⟩ := id C
  rcases hins with ⟨k, rfl⟩ | ⟨k, rfl⟩ | ⟨k, rfl⟩
  · simp only [ckI, Bool.and_eq_true, if_neg hcl] at hI
    obtain ⟨i1, ⟨⟨i2, i3⟩, i4⟩, i5⟩ := hI
    obtain rfl : len = 3 := Nat.eq_of_beq_eq_true i1
    obtain rfl : x1 = 1000 := Nat.eq_of_beq_eq_true i2
    rw [decide_eq_true_eq] at i3
    have i4 := Nat.le_of_ble_eq_true i4
    have i5 := Nat.le_of_ble_eq_true i5
    simp only [sm_step] at hs
    split at hs
    · rename_i v r
      have hc2 := (List.forall_mem_cons.mp hst).2
      split at hs
      · rename_i a ha
        have ev := sm_rf_eq ha
        subst ev
        split at hs
        · rename_i hr
          cases hs
          have hlk := hts _ (tB_get i3)
          rw [own_owN] at hlk
          exact W.objInit hx hb hown hlk (hts _ w_oi) (hts _ w_oc) rfl (by rw [hml]; exact hlsz) rfl hdg (by omega) (by rw [cat_sum hc2]; show 2 * 0 + _ + 12 ≤ _; omega) (kk.use (hnx hne) rfl rfl hc2 hLl hR hL hS0)
        · cases hs
      · cases hs
    · cases hs
  · simp only [ckI, Bool.and_eq_true, if_neg hcl] at hI
    obtain ⟨i1, i2⟩ := hI
    obtain rfl : len = 3 := Nat.eq_of_beq_eq_true i1
    by_cases h1 : x1 = 1001
    · subst h1
      simp only [Bool.and_eq_true, decide_eq_true_eq] at i2
      obtain ⟨⟨i3, i4⟩, i5⟩ := i2
      have i4 := Nat.le_of_ble_eq_true i4
      have i5 := Nat.le_of_ble_eq_true i5
      simp only [sm_step] at hs
      split at hs
      · rename_i v r
        have hc2 := (List.forall_mem_cons.mp hst).2
        split at hs
        · rename_i a ha
          have ev := sm_rf_eq ha
          subst ev
          split at hs
          · rename_i hr
            cases hs
            have e1 : sz (hcln h a) - sz h = 1 := Nat.add_sub_cancel_left _ _
            have e2 : sl (hcln h a) - sl h = ln h a := Nat.add_sub_cancel_left _ _
            rw [e1] at hcells
            rw [e2] at hslots
            exact sr_clone C hlsz hR hS0 i3 hr.1 i4 i5 (by rw [cat_sum hc2]; exact hr.2) hcells hslots hdg (fun H1 hR1 hS1 => kk.new (hnx hne) rfl rfl (List.forall_mem_cons.mpr ⟨rfl, hc2⟩) hLl hR1 hL hS1)
          · cases hs
        · cases hs
      · cases hs
    · by_cases h3 : x1 = 1003
      · subst h3
        simp only [Bool.and_eq_true, decide_eq_true_eq] at i2
        obtain ⟨⟨i3, i4⟩, i5⟩ := i2
        have i4 := Nat.le_of_ble_eq_true i4
        have i5 := Nat.le_of_ble_eq_true i5
        simp only [sm_step] at hs
        split at hs
        · rename_i v r
          have hc2 := (List.forall_mem_cons.mp hst).2
          split at hs
          · rename_i a ha
            have ev := sm_rf_eq ha
            subst ev
            split at hs
            · rename_i hr
              cases hs
              have hlk := hts _ (tB_get i3)
              rw [own_owN] at hlk
              obtain ⟨-, cA, r4, r5, r6⟩ := hR.arr (a := a) (by omega) (by omega)
              rw [hr.1, aty_o (by decide) (by decide)] at r6
              have K := kk.use (hnx hne) rfl rfl (List.forall_mem_cons.mpr ⟨rfl, hc2⟩) hLl hR hL hS0
              rw [hR.2.2.2.2.2] at K
              exact va_getC hx hb (hml.trans hlsz.symm) hown hlk (va_Dc.use (hSp _ w_dG rfl)) (hts _ w_lG) (hts _ w_iG) (hts _ w_nG) hM ⟨_, r4, rfl, va_nmO r6 rfl⟩ (by omega) (by rw [cat_sum hc2]; omega) hdg K
            · cases hs
          · cases hs
        · cases hs
      · exfalso
        have h4 : x1 = 1001 ∨ x1 = 1003 := by
          split at i2
          · exact Or.inl rfl
          · exact Or.inr rfl
          · cases i2
        omega
  · simp only [ckI, Bool.and_eq_true, if_neg hcl] at hI
    obtain ⟨i1, i2⟩ := hI
    obtain rfl : len = 3 := Nat.eq_of_beq_eq_true i1
    by_cases h2 : x1 = 1002
    · subst h2
      simp only [Bool.and_eq_true, decide_eq_true_eq] at i2
      obtain ⟨⟨i3, i4⟩, i5⟩ := i2
      have i4 := Nat.le_of_ble_eq_true i4
      have i5 := Nat.le_of_ble_eq_true i5
      simp only [sm_step] at hs
      split at hs
      · rename_i v1 v2 v3 v4 v5 r
        split at hs
        · rename_i n dp a sp a0 e1 e2 e3 e4 e5
          have f1 := sm_in_eq e1
          have f2 := sm_in_eq e2
          have f3 := sm_rf_eq e3
          have f4 := sm_in_eq e4
          have f5 := sm_rf_eq e5
          subst f1; subst f2; subst f3; subst f4; subst f5
          have hc2 := (List.forall_mem_cons.mp (List.forall_mem_cons.mp (List.forall_mem_cons.mp (List.forall_mem_cons.mp (List.forall_mem_cons.mp hst).2).2).2).2).2
          split at hs
          · rename_i hr
            obtain ⟨r1, r2, r3, r4, r5, r6, r7, r8⟩ := hr
            cases hs
            exact sr_copy C hlsz hR hS0 i3 r1 r2 i4 i5 (by rw [cat_sum hc2]; exact r8) r5 r4 r3 r6 r7 hdg (fun H1 locs1 hR1 hS1 => kk.use (hnx hne) rfl rfl hc2 hLl hR1 hL hS1)
          · cases hs
        · cases hs
      · cases hs
    · by_cases h4 : x1 = 1004
      · subst h4
        simp only [Bool.and_eq_true, decide_eq_true_eq] at i2
        obtain ⟨⟨i3, i4⟩, i5⟩ := i2
        have i4 := Nat.le_of_ble_eq_true i4
        have i5 := Nat.le_of_ble_eq_true i5
        simp only [sm_step] at hs
        split at hs
        · rename_i v w r
          split at hs
          · rename_i y x e1 e2
            have f1 := sm_in_eq e1
            have f2 := sm_in_eq e2
            subst f1; subst f2
            have hc2 := (List.forall_mem_cons.mp (List.forall_mem_cons.mp hst).2).2
            split at hs
            · rename_i hr
              cases hs
              have hlk := hts _ (tB_get i3)
              rw [own_owN] at hlk
              rw [Nat.sub_self] at hcells hslots
              exact va_mmax hx hb (hml.trans hlsz.symm) hown hlk (hts _ w_sMx) (hts _ w_iMa) (hts _ w_cMx) (by omega) (by rw [cat_sum hc2]; omega) hcells hslots hdg (kk.use (hnx hne) rfl rfl (List.forall_mem_cons.mpr ⟨rfl, hc2⟩) hLl hR hL hS0)
            · cases hs
          · cases hs
        · cases hs
      · by_cases h5 : x1 = 1005
        · subst h5
          simp only [Bool.and_eq_true, decide_eq_true_eq] at i2
          obtain ⟨⟨i3, i4⟩, i5⟩ := i2
          have i4 := Nat.le_of_ble_eq_true i4
          have i5 := Nat.le_of_ble_eq_true i5
          simp only [sm_step] at hs
          split at hs
          · rename_i v w r
            split at hs
            · rename_i y x e1 e2
              have f1 := sm_in_eq e1
              have f2 := sm_in_eq e2
              subst f1; subst f2
              have hc2 := (List.forall_mem_cons.mp (List.forall_mem_cons.mp hst).2).2
              split at hs
              · rename_i hr
                cases hs
                have hlk := hts _ (tB_get i3)
                rw [own_owN] at hlk
                rw [Nat.sub_self] at hcells hslots
                exact va_mmin hx hb (hml.trans hlsz.symm) hown hlk (hts _ w_sMn) (hts _ w_iMa) (hts _ w_cMn) (by omega) (by rw [cat_sum hc2]; omega) hcells hslots hdg (kk.use (hnx hne) rfl rfl (List.forall_mem_cons.mpr ⟨rfl, hc2⟩) hLl hR hL hS0)
              · cases hs
            · cases hs
          · cases hs
        · exfalso
          have h6 : x1 = 1002 ∨ x1 = 1004 ∨ x1 = 1005 := by
            split at i2
            · exact Or.inl rfl
            · exact Or.inr (Or.inl rfl)
            · exact Or.inr (Or.inr rfl)
            · cases i2
          omega
theorem st_all (C : Cx D b g0 g1 p R s m args meth c mi) {pc len x1 x2 x3 : Nat} {ins : Instr} {code code' : List Ent} {L L' : Lv} {st st' : List Value} {h h' : Hp} (hdg : decode (mC mi) pc = .ok (ins, len)) (hI : ckI mi (pc, ins, len, x1, x2, x3) = true)
    (hnx : code ≠ [] → pcOf code = pc + len) (hs : sm_step mi (pc, ins, len, x1, x2, x3) code L st h = some (code', L', st', h')) (hne : code' ≠ []) (hR : Rp D b g0 g1 s h H) (hL : LRp L ls) (hLl : L.length = mL mi) (hst : ∀ v ∈ st, v.category = 1) (hS0 : va_S (fun q => b ≤ q) s.heap H locs) (kk : Kk p l env R s m args below meth c cells slots Q D b g0 g1 mi h h' L' st' code') (hcells : cells + (sz h' - sz h) ≤ R.cells) (hslots : slots + (sl h' - sl h) ≤ R.slots) (hcl0 : sm_cls (pc, ins, len, x1, x2, x3) = 0) :
    W p l env R s m args below meth c H locs cells slots Q (F0 m pc ls st) := by
  cases ins with
  | iload_n k => exact st_load C hdg hI hnx hs hne hR hL hLl hst hS0 kk (Or.inl ⟨k, rfl⟩)
  | iload k => exact st_load C hdg hI hnx hs hne hR hL hLl hst hS0 kk (Or.inr (Or.inl ⟨k, rfl⟩))
  | aload_n k => exact st_load C hdg hI hnx hs hne hR hL hLl hst hS0 kk (Or.inr (Or.inr (Or.inl ⟨k, rfl⟩)))
  | aload k => exact st_load C hdg hI hnx hs hne hR hL hLl hst hS0 kk (Or.inr (Or.inr (Or.inr (Or.inl ⟨k, rfl⟩))))
  | istore_n k => exact st_load C hdg hI hnx hs hne hR hL hLl hst hS0 kk (Or.inr (Or.inr (Or.inr (Or.inr (Or.inl ⟨k, rfl⟩)))))
  | istore k => exact st_load C hdg hI hnx hs hne hR hL hLl hst hS0 kk (Or.inr (Or.inr (Or.inr (Or.inr (Or.inr (Or.inl ⟨k, rfl⟩))))))
  | astore_n k => exact st_load C hdg hI hnx hs hne hR hL hLl hst hS0 kk (Or.inr (Or.inr (Or.inr (Or.inr (Or.inr (Or.inr (Or.inl ⟨k, rfl⟩)))))))
  | astore k => exact st_load C hdg hI hnx hs hne hR hL hLl hst hS0 kk (Or.inr (Or.inr (Or.inr (Or.inr (Or.inr (Or.inr (Or.inr (Or.inl ⟨k, rfl⟩))))))))
  | iinc k n => exact st_load C hdg hI hnx hs hne hR hL hLl hst hS0 kk (Or.inr (Or.inr (Or.inr (Or.inr (Or.inr (Or.inr (Or.inr (Or.inr (⟨k, n, rfl⟩)))))))))
  | iadd => exact st_bin C hdg hI hnx hs hne hR hL hLl hst hS0 kk (Or.inl rfl)
  | isub => exact st_bin C hdg hI hnx hs hne hR hL hLl hst hS0 kk (Or.inr (Or.inl rfl))
  | imul => exact st_bin C hdg hI hnx hs hne hR hL hLl hst hS0 kk (Or.inr (Or.inr (Or.inl rfl)))
  | iand => exact st_bin C hdg hI hnx hs hne hR hL hLl hst hS0 kk (Or.inr (Or.inr (Or.inr (Or.inl rfl))))
  | ior => exact st_bin C hdg hI hnx hs hne hR hL hLl hst hS0 kk (Or.inr (Or.inr (Or.inr (Or.inr (Or.inl rfl)))))
  | ishl => exact st_bin C hdg hI hnx hs hne hR hL hLl hst hS0 kk (Or.inr (Or.inr (Or.inr (Or.inr (Or.inr (Or.inl rfl))))))
  | ishr => exact st_bin C hdg hI hnx hs hne hR hL hLl hst hS0 kk (Or.inr (Or.inr (Or.inr (Or.inr (Or.inr (Or.inr (Or.inl rfl)))))))
  | iushr => exact st_bin C hdg hI hnx hs hne hR hL hLl hst hS0 kk (Or.inr (Or.inr (Or.inr (Or.inr (Or.inr (Or.inr (Or.inr (Or.inl rfl))))))))
  | idiv => exact st_bin C hdg hI hnx hs hne hR hL hLl hst hS0 kk (Or.inr (Or.inr (Or.inr (Or.inr (Or.inr (Or.inr (Or.inr (Or.inr (Or.inl rfl)))))))))
  | irem => exact st_bin C hdg hI hnx hs hne hR hL hLl hst hS0 kk (Or.inr (Or.inr (Or.inr (Or.inr (Or.inr (Or.inr (Or.inr (Or.inr (Or.inr (rfl))))))))))
  | iconst k => exact st_cst C hdg hI hnx hs hne hR hL hLl hst hS0 kk (Or.inl ⟨k, rfl⟩)
  | bipush k => exact st_cst C hdg hI hnx hs hne hR hL hLl hst hS0 kk (Or.inr (Or.inl ⟨k, rfl⟩))
  | sipush k => exact st_cst C hdg hI hnx hs hne hR hL hLl hst hS0 kk (Or.inr (Or.inr (Or.inl ⟨k, rfl⟩)))
  | ldc k => exact st_cst C hdg hI hnx hs hne hR hL hLl hst hS0 kk (Or.inr (Or.inr (Or.inr (Or.inl ⟨k, rfl⟩))))
  | ldc_w k => exact st_cst C hdg hI hnx hs hne hR hL hLl hst hS0 kk (Or.inr (Or.inr (Or.inr (Or.inr (Or.inl ⟨k, rfl⟩)))))
  | aconst_null => exact st_cst C hdg hI hnx hs hne hR hL hLl hst hS0 kk (Or.inr (Or.inr (Or.inr (Or.inr (Or.inr (Or.inl rfl))))))
  | getstatic k => exact st_cst C hdg hI hnx hs hne hR hL hLl hst hS0 kk (Or.inr (Or.inr (Or.inr (Or.inr (Or.inr (Or.inr (⟨k, rfl⟩)))))))
  | dup => exact st_stk C hdg hI hnx hs hne hR hL hLl hst hS0 kk (Or.inl rfl)
  | dup_x1 => exact st_stk C hdg hI hnx hs hne hR hL hLl hst hS0 kk (Or.inr (Or.inl rfl))
  | dup2 => exact st_stk C hdg hI hnx hs hne hR hL hLl hst hS0 kk (Or.inr (Or.inr (Or.inl rfl)))
  | pop => exact st_stk C hdg hI hnx hs hne hR hL hLl hst hS0 kk (Or.inr (Or.inr (Or.inr (rfl))))
  | ifCond k o => exact st_br C hdg hI hnx hs hne hR hL hLl hst hS0 kk (Or.inl ⟨k, o, rfl⟩)
  | if_icmp k o => exact st_br C hdg hI hnx hs hne hR hL hLl hst hS0 kk (Or.inr (⟨k, o, rfl⟩))
  | if_acmp k o => exact st_jmp C hdg hI hnx hs hne hR hL hLl hst hS0 kk (Or.inl ⟨k, o, rfl⟩)
  | ifnull o => exact st_jmp C hdg hI hnx hs hne hR hL hLl hst hS0 kk (Or.inr (Or.inl ⟨o, rfl⟩))
  | ifnonnull o => exact st_jmp C hdg hI hnx hs hne hR hL hLl hst hS0 kk (Or.inr (Or.inr (Or.inl ⟨o, rfl⟩)))
  | goto o => exact st_jmp C hdg hI hnx hs hne hR hL hLl hst hS0 kk (Or.inr (Or.inr (Or.inr (Or.inl ⟨o, rfl⟩))))
  | tableswitch d lo hi offs => exact st_jmp C hdg hI hnx hs hne hR hL hLl hst hS0 kk (Or.inr (Or.inr (Or.inr (Or.inr (⟨d, lo, hi, offs, rfl⟩)))))
  | getfield k => exact st_fld C hdg hI hnx hs hne hR hL hLl hst hS0 kk (Or.inl ⟨k, rfl⟩)
  | putfield k => exact st_fld C hdg hI hnx hs hne hR hL hLl hst hS0 kk (Or.inr (⟨k, rfl⟩))
  | new k => exact st_new C hdg hI hnx hs hne hR hL hLl hst hS0 kk hcells hslots (Or.inl ⟨k, rfl⟩)
  | newarray k => exact st_new C hdg hI hnx hs hne hR hL hLl hst hS0 kk hcells hslots (Or.inr (Or.inl ⟨k, rfl⟩))
  | anewarray k => exact st_new C hdg hI hnx hs hne hR hL hLl hst hS0 kk hcells hslots (Or.inr (Or.inr (⟨k, rfl⟩)))
  | arraylength => exact st_arr C hdg hI hnx hs hne hR hL hLl hst hS0 kk (Or.inl rfl)
  | iaload => exact st_arr C hdg hI hnx hs hne hR hL hLl hst hS0 kk (Or.inr (Or.inl rfl))
  | baload => exact st_arr C hdg hI hnx hs hne hR hL hLl hst hS0 kk (Or.inr (Or.inr (Or.inl rfl)))
  | aaload => exact st_arr C hdg hI hnx hs hne hR hL hLl hst hS0 kk (Or.inr (Or.inr (Or.inr (Or.inl rfl))))
  | iastore => exact st_arr C hdg hI hnx hs hne hR hL hLl hst hS0 kk (Or.inr (Or.inr (Or.inr (Or.inr (Or.inl rfl)))))
  | bastore => exact st_arr C hdg hI hnx hs hne hR hL hLl hst hS0 kk (Or.inr (Or.inr (Or.inr (Or.inr (Or.inr (Or.inl rfl))))))
  | aastore => exact st_arr C hdg hI hnx hs hne hR hL hLl hst hS0 kk (Or.inr (Or.inr (Or.inr (Or.inr (Or.inr (Or.inr (Or.inl rfl)))))))
  | checkcast k => exact st_arr C hdg hI hnx hs hne hR hL hLl hst hS0 kk (Or.inr (Or.inr (Or.inr (Or.inr (Or.inr (Or.inr (Or.inr (⟨k, rfl⟩))))))))
  | invokespecial k => exact st_inv C hdg hI hnx hs hne hR hL hLl hst hS0 kk hcells hslots (by intro z; simp [sm_cls, z] at hcl0; split at hcl0 <;> simp_all) (Or.inl ⟨k, rfl⟩)
  | invokevirtual k => exact st_inv C hdg hI hnx hs hne hR hL hLl hst hS0 kk hcells hslots (by intro z; simp [sm_cls, z] at hcl0; split at hcl0 <;> simp_all) (Or.inr (Or.inl ⟨k, rfl⟩))
  | invokestatic k => exact st_inv C hdg hI hnx hs hne hR hL hLl hst hS0 kk hcells hslots (by intro z; simp [sm_cls, z] at hcl0; split at hcl0 <;> simp_all) (Or.inr (Or.inr (⟨k, rfl⟩)))
  | _ => cases hs
end STEP4
