section STEP2
variable {p : Program} {l : Launch} {env : Env} {R : Room} {s : State} {m : MethodId} {args : Array Value} {below : List Frame} {meth : Method} {c : Code} {H : Heap} {locs : List Loc} {cells slots : Nat} {Q : State → Prop}
variable {ls : Array Slot} {D : va_G} {b g0 g1 : Nat} {mi : MI}

theorem st_bin (C : Cx D b g0 g1 p R s m args meth c mi) {pc len x1 x2 x3 : Nat} {ins : Instr} {code code' : List Ent} {L L' : Lv} {st st' : List Value} {h h' : Hp} (hdg : decode (mC mi) pc = .ok (ins, len)) (hI : ckI mi (pc, ins, len, x1, x2, x3) = true)
    (hnx : code ≠ [] → pcOf code = pc + len) (hs : sm_step mi (pc, ins, len, x1, x2, x3) code L st h = some (code', L', st', h')) (hne : code' ≠ []) (hR : Rp D b g0 g1 s h H) (hL : LRp L ls) (hLl : L.length = mL mi) (hst : ∀ v ∈ st, v.category = 1) (hS0 : va_S (fun q => b ≤ q) s.heap H locs) (kk : Kk p l env R s m args below meth c cells slots Q D b g0 g1 mi h h' L' st' code')
    (hins : ins = .iadd ∨ ins = .isub ∨ ins = .imul ∨ ins = .iand ∨ ins = .ior ∨ ins = .ishl ∨ ins = .ishr ∨ ins = .iushr ∨ ins = .idiv ∨ ins = .irem) :
    W p l env R s m args below meth c H locs cells slots Q (F0 m pc ls st) := by
  obtain ⟨hx, hb, -⟩ := C
  rcases hins with rfl | rfl | rfl | rfl | rfl | rfl | rfl | rfl | rfl | rfl
  · obtain rfl : len = 1 := Nat.eq_of_beq_eq_true hI
    obtain ⟨x, y, r, rfl, rfl, rfl, rfl, rfl⟩ := bin_spec hs
    exact lv_iadd hx hb hdg (kk.use (hnx hne) rfl rfl (List.forall_mem_cons.mpr ⟨rfl, (List.forall_mem_cons.mp (List.forall_mem_cons.mp hst).2).2⟩) hLl hR hL hS0)
  · obtain rfl : len = 1 := Nat.eq_of_beq_eq_true hI
    obtain ⟨x, y, r, rfl, rfl, rfl, rfl, rfl⟩ := bin_spec hs
    exact lv_isub hx hb hdg (kk.use (hnx hne) rfl rfl (List.forall_mem_cons.mpr ⟨rfl, (List.forall_mem_cons.mp (List.forall_mem_cons.mp hst).2).2⟩) hLl hR hL hS0)
  · obtain rfl : len = 1 := Nat.eq_of_beq_eq_true hI
    obtain ⟨x, y, r, rfl, rfl, rfl, rfl, rfl⟩ := bin_spec hs
    exact lv_imul hx hb hdg (kk.use (hnx hne) rfl rfl (List.forall_mem_cons.mpr ⟨rfl, (List.forall_mem_cons.mp (List.forall_mem_cons.mp hst).2).2⟩) hLl hR hL hS0)
  · obtain rfl : len = 1 := Nat.eq_of_beq_eq_true hI
    obtain ⟨x, y, r, rfl, rfl, rfl, rfl, rfl⟩ := bin_spec hs
    exact lv_iand hx hb hdg (kk.use (hnx hne) rfl rfl (List.forall_mem_cons.mpr ⟨rfl, (List.forall_mem_cons.mp (List.forall_mem_cons.mp hst).2).2⟩) hLl hR hL hS0)
  · obtain rfl : len = 1 := Nat.eq_of_beq_eq_true hI
    obtain ⟨x, y, r, rfl, rfl, rfl, rfl, rfl⟩ := bin_spec hs
    exact lv_ior hx hb hdg (kk.use (hnx hne) rfl rfl (List.forall_mem_cons.mpr ⟨rfl, (List.forall_mem_cons.mp (List.forall_mem_cons.mp hst).2).2⟩) hLl hR hL hS0)
  · obtain rfl : len = 1 := Nat.eq_of_beq_eq_true hI
    obtain ⟨x, y, r, rfl, rfl, rfl, rfl, rfl⟩ := bin_spec hs
    exact lv_ishl hx hb hdg (kk.use (hnx hne) rfl rfl (List.forall_mem_cons.mpr ⟨rfl, (List.forall_mem_cons.mp (List.forall_mem_cons.mp hst).2).2⟩) hLl hR hL hS0)
  · obtain rfl : len = 1 := Nat.eq_of_beq_eq_true hI
    obtain ⟨x, y, r, rfl, rfl, rfl, rfl, rfl⟩ := bin_spec hs
    exact lv_ishr hx hb hdg (kk.use (hnx hne) rfl rfl (List.forall_mem_cons.mpr ⟨rfl, (List.forall_mem_cons.mp (List.forall_mem_cons.mp hst).2).2⟩) hLl hR hL hS0)
  · obtain rfl : len = 1 := Nat.eq_of_beq_eq_true hI
    obtain ⟨x, y, r, rfl, rfl, rfl, rfl, rfl⟩ := bin_spec hs
    exact lv_iushr hx hb hdg rfl (kk.use (hnx hne) rfl rfl (List.forall_mem_cons.mpr ⟨rfl, (List.forall_mem_cons.mp (List.forall_mem_cons.mp hst).2).2⟩) hLl hR hL hS0)
  · obtain rfl : len = 1 := Nat.eq_of_beq_eq_true hI
    obtain ⟨x, y, r, rfl, hy, rfl, rfl, rfl, rfl⟩ := binD_spec hs
    exact lv_idiv hx hb hdg hy (kk.use (hnx hne) rfl rfl (List.forall_mem_cons.mpr ⟨rfl, (List.forall_mem_cons.mp (List.forall_mem_cons.mp hst).2).2⟩) hLl hR hL hS0)
  · obtain rfl : len = 1 := Nat.eq_of_beq_eq_true hI
    obtain ⟨x, y, r, rfl, hy, rfl, rfl, rfl, rfl⟩ := binD_spec hs
    exact lv_irem hx hb hdg hy (kk.use (hnx hne) rfl rfl (List.forall_mem_cons.mpr ⟨rfl, (List.forall_mem_cons.mp (List.forall_mem_cons.mp hst).2).2⟩) hLl hR hL hS0)
theorem st_cst (C : Cx D b g0 g1 p R s m args meth c mi) {pc len x1 x2 x3 : Nat} {ins : Instr} {code code' : List Ent} {L L' : Lv} {st st' : List Value} {h h' : Hp} (hdg : decode (mC mi) pc = .ok (ins, len)) (hI : ckI mi (pc, ins, len, x1, x2, x3) = true)
    (hnx : code ≠ [] → pcOf code = pc + len) (hs : sm_step mi (pc, ins, len, x1, x2, x3) code L st h = some (code', L', st', h')) (hne : code' ≠ []) (hR : Rp D b g0 g1 s h H) (hL : LRp L ls) (hLl : L.length = mL mi) (hst : ∀ v ∈ st, v.category = 1) (hS0 : va_S (fun q => b ≤ q) s.heap H locs) (kk : Kk p l env R s m args below meth c cells slots Q D b g0 g1 mi h h' L' st' code')
    (hins : (∃ k, ins = .iconst k) ∨ (∃ k, ins = .bipush k) ∨ (∃ k, ins = .sipush k) ∨ (∃ k, ins = .ldc k) ∨ (∃ k, ins = .ldc_w k) ∨ ins = .aconst_null ∨ ∃ k, ins = .getstatic k) :
    W p l env R s m args below meth c H locs cells slots Q (F0 m pc ls st) := by
  obtain ⟨hx, hb, hml, hown, hts, ⟨hK, hSp, hZ, hM⟩, -⟩ := C
  rcases hins with ⟨k, rfl⟩ | ⟨k, rfl⟩ | ⟨k, rfl⟩ | ⟨k, rfl⟩ | ⟨k, rfl⟩ | rfl | ⟨k, rfl⟩
  · simp only [ckI, Bool.and_eq_true, decide_eq_true_eq] at hI
    obtain rfl : len = 1 := Nat.eq_of_beq_eq_true hI.1
    cases hs
    exact lv_iconst hx hb hdg hI.2 (kk.use (hnx hne) rfl rfl (List.forall_mem_cons.mpr ⟨rfl, hst⟩) hLl hR hL hS0)
  · simp only [ckI, Bool.and_eq_true, decide_eq_true_eq] at hI
    obtain rfl : len = 2 := Nat.eq_of_beq_eq_true hI.1
    cases hs
    exact lv_bipush hx hb hdg hI.2 (kk.use (hnx hne) rfl rfl (List.forall_mem_cons.mpr ⟨rfl, hst⟩) hLl hR hL hS0)
  · simp only [ckI, Bool.and_eq_true, decide_eq_true_eq] at hI
    obtain rfl : len = 3 := Nat.eq_of_beq_eq_true hI.1
    cases hs
    exact lv_sipush hx hb hdg hI.2 (kk.use (hnx hne) rfl rfl (List.forall_mem_cons.mpr ⟨rfl, hst⟩) hLl hR hL hS0)
  · simp only [ckI, Bool.and_eq_true] at hI
    obtain rfl : len = 2 := Nat.eq_of_beq_eq_true hI.1
    rcases (show x3 = 0 ∨ x3 = 1 ∨ ∃ n, x3 = n + 2 from by rcases x3 with _ | _ | n <;> simp) with rfl | rfl | ⟨n, rfl⟩
    · have h2 := hI.2
      simp only [decide_eq_true_eq] at h2
      cases hs
      have hw := hts _ (tK_get h2)
      rw [own_owN] at hw
      exact lv_ldc hx hb hown hw hdg (kk.use (hnx hne) rfl rfl (List.forall_mem_cons.mpr ⟨rfl, hst⟩) hLl hR hL hS0)
    · have h2 := hI.2
      simp only [decide_eq_true_eq] at h2
      cases hs
      have hw := hts _ (tC_get h2)
      rw [own_owN] at hw
      have K := kk.use (hnx hne) rfl rfl (List.forall_mem_cons.mpr ⟨rfl, hst⟩) hLl hR hL hS0
      rw [hR.2.2.2.2.2] at K
      exact va_ldcM hx hb hown hw hM hdg K
    · exact absurd hI.2 (by simp)
  · simp only [ckI, Bool.and_eq_true, decide_eq_true_eq] at hI
    obtain rfl : len = 3 := Nat.eq_of_beq_eq_true hI.1
    cases hs
    have hw := hts _ (tK_get hI.2)
    rw [own_owN] at hw
    exact lv_ldcw hx hb hown hw hdg (kk.use (hnx hne) rfl rfl (List.forall_mem_cons.mpr ⟨rfl, hst⟩) hLl hR hL hS0)
  · obtain rfl : len = 1 := Nat.eq_of_beq_eq_true hI
    cases hs
    exact lv_null hx hb hdg (kk.use (hnx hne) rfl rfl (List.forall_mem_cons.mpr ⟨rfl, hst⟩) hLl hR hL hS0)
  · simp only [ckI, Bool.and_eq_true, decide_eq_true_eq] at hI
    obtain rfl : len = 3 := Nat.eq_of_beq_eq_true hI.1.1
    obtain rfl : k = 39 := Nat.eq_of_beq_eq_true hI.1.2
    cases hs
    have K := kk.use (hnx hne) rfl rfl (List.forall_mem_cons.mpr ⟨rfl, hst⟩) hLl hR hL hS0
    rw [hR.2.2.2.2.1] at K
    exact va_gets hx hb hZ hS0 hown (by rw [hI.2]; exact hts _ w_gS) (fun x h => h) hdg K
theorem st_stk (C : Cx D b g0 g1 p R s m args meth c mi) {pc len x1 x2 x3 : Nat} {ins : Instr} {code code' : List Ent} {L L' : Lv} {st st' : List Value} {h h' : Hp} (hdg : decode (mC mi) pc = .ok (ins, len)) (hI : ckI mi (pc, ins, len, x1, x2, x3) = true)
    (hnx : code ≠ [] → pcOf code = pc + len) (hs : sm_step mi (pc, ins, len, x1, x2, x3) code L st h = some (code', L', st', h')) (hne : code' ≠ []) (hR : Rp D b g0 g1 s h H) (hL : LRp L ls) (hLl : L.length = mL mi) (hst : ∀ v ∈ st, v.category = 1) (hS0 : va_S (fun q => b ≤ q) s.heap H locs) (kk : Kk p l env R s m args below meth c cells slots Q D b g0 g1 mi h h' L' st' code')
    (hins : ins = .dup ∨ ins = .dup_x1 ∨ ins = .dup2 ∨ ins = .pop) :
    W p l env R s m args below meth c H locs cells slots Q (F0 m pc ls st) := by
  obtain ⟨hx, hb, -⟩ := C
  rcases hins with rfl | rfl | rfl | rfl
  · obtain rfl : len = 1 := Nat.eq_of_beq_eq_true hI
    simp only [sm_step] at hs
    split at hs
    · rename_i v r
      cases hs
      obtain ⟨c1, c2⟩ := List.forall_mem_cons.mp hst
      exact lv_dup hx hb hdg c1 (kk.use (hnx hne) rfl rfl (List.forall_mem_cons.mpr ⟨c1, hst⟩) hLl hR hL hS0)
    · cases hs
  · obtain rfl : len = 1 := Nat.eq_of_beq_eq_true hI
    simp only [sm_step] at hs
    split at hs
    · rename_i v w r
      cases hs
      obtain ⟨c1, c2⟩ := List.forall_mem_cons.mp hst
      obtain ⟨c3, c4⟩ := List.forall_mem_cons.mp c2
      exact lv_dup_x1 hx hb hdg c1 c3 (kk.use (hnx hne) rfl rfl (List.forall_mem_cons.mpr ⟨c1, List.forall_mem_cons.mpr ⟨c3, List.forall_mem_cons.mpr ⟨c1, c4⟩⟩⟩) hLl hR hL hS0)
    · cases hs
  · obtain rfl : len = 1 := Nat.eq_of_beq_eq_true hI
    simp only [sm_step] at hs
    split at hs
    · rename_i v w r
      cases hs
      obtain ⟨c1, c2⟩ := List.forall_mem_cons.mp hst
      obtain ⟨c3, c4⟩ := List.forall_mem_cons.mp c2
      exact lv_dup2_11 hx hb hdg c1 c3 (kk.use (hnx hne) rfl rfl (List.forall_mem_cons.mpr ⟨c1, List.forall_mem_cons.mpr ⟨c3, hst⟩⟩) hLl hR hL hS0)
    · cases hs
  · obtain rfl : len = 1 := Nat.eq_of_beq_eq_true hI
    simp only [sm_step] at hs
    split at hs
    · rename_i v r
      cases hs
      obtain ⟨c1, c2⟩ := List.forall_mem_cons.mp hst
      exact lv_pop hx hb hdg c1 (kk.use (hnx hne) rfl rfl c2 hLl hR hL hS0)
    · cases hs
theorem st_br (C : Cx D b g0 g1 p R s m args meth c mi) {pc len x1 x2 x3 : Nat} {ins : Instr} {code code' : List Ent} {L L' : Lv} {st st' : List Value} {h h' : Hp} (hdg : decode (mC mi) pc = .ok (ins, len)) (hI : ckI mi (pc, ins, len, x1, x2, x3) = true)
    (hnx : code ≠ [] → pcOf code = pc + len) (hs : sm_step mi (pc, ins, len, x1, x2, x3) code L st h = some (code', L', st', h')) (hne : code' ≠ []) (hR : Rp D b g0 g1 s h H) (hL : LRp L ls) (hLl : L.length = mL mi) (hst : ∀ v ∈ st, v.category = 1) (hS0 : va_S (fun q => b ≤ q) s.heap H locs) (kk : Kk p l env R s m args below meth c cells slots Q D b g0 g1 mi h h' L' st' code')
    (hins : (∃ k o, ins = .ifCond k o) ∨ (∃ k o, ins = .if_icmp k o)) :
    W p l env R s m args below meth c H locs cells slots Q (F0 m pc ls st) := by
  obtain ⟨hx, hb, -⟩ := C
  rcases hins with ⟨k, o, rfl⟩ | ⟨k, o, rfl⟩
  · simp only [ckI, Bool.and_eq_true, decide_eq_true_eq] at hI
    obtain rfl : len = 3 := Nat.eq_of_beq_eq_true hI.1
    simp only [sm_step] at hs
    split at hs
    · rename_i v r
      split at hs
      · rename_i x hxx
        have ev := sm_in_eq hxx
        subst ev
        have hc2 := (List.forall_mem_cons.mp hst).2
        cases k with
        | eq =>
          refine lv_if_eq (tgt := x1) hx hb hdg hI.2 (fun cc => ?_) (fun cc => ?_)
          · have cc2 : sm_cmp .eq x 0 = true := by rw [cmp_eq]; exact cc
            rw [if_pos cc2] at hs
            cases hs
            exact kk.use (seek_ne hne) rfl rfl hc2 hLl hR hL hS0
          · have cc2 : ¬ sm_cmp .eq x 0 = true := by rw [cmp_eq]; exact cc
            rw [if_neg cc2] at hs
            cases hs
            exact kk.use (hnx hne) rfl rfl hc2 hLl hR hL hS0
        | ne =>
          refine lv_if_ne (tgt := x1) hx hb hdg hI.2 (fun cc => ?_) (fun cc => ?_)
          · have cc2 : sm_cmp .ne x 0 = true := by rw [cmp_ne]; exact cc
            rw [if_pos cc2] at hs
            cases hs
            exact kk.use (seek_ne hne) rfl rfl hc2 hLl hR hL hS0
          · have cc2 : ¬ sm_cmp .ne x 0 = true := by rw [cmp_ne]; exact fun z => z cc
            rw [if_neg cc2] at hs
            cases hs
            exact kk.use (hnx hne) rfl rfl hc2 hLl hR hL hS0
        | lt =>
          refine lv_if_lt (tgt := x1) hx hb hdg hI.2 (fun cc => ?_) (fun cc => ?_)
          · have cc2 : sm_cmp .lt x 0 = true := by rw [cmp_lt]; exact cc
            rw [if_pos cc2] at hs
            cases hs
            exact kk.use (seek_ne hne) rfl rfl hc2 hLl hR hL hS0
          · have cc2 : ¬ sm_cmp .lt x 0 = true := by rw [cmp_lt]; exact cc
            rw [if_neg cc2] at hs
            cases hs
            exact kk.use (hnx hne) rfl rfl hc2 hLl hR hL hS0
        | ge =>
          refine lv_if_ge (tgt := x1) hx hb hdg hI.2 (fun cc => ?_) (fun cc => ?_)
          · have cc2 : sm_cmp .ge x 0 = true := by rw [cmp_ge]; exact cc
            rw [if_pos cc2] at hs
            cases hs
            exact kk.use (seek_ne hne) rfl rfl hc2 hLl hR hL hS0
          · have cc2 : ¬ sm_cmp .ge x 0 = true := by rw [cmp_ge]; exact cc
            rw [if_neg cc2] at hs
            cases hs
            exact kk.use (hnx hne) rfl rfl hc2 hLl hR hL hS0
        | gt =>
          refine lv_if_gt (tgt := x1) hx hb hdg hI.2 (fun cc => ?_) (fun cc => ?_)
          · have cc2 : sm_cmp .gt x 0 = true := by rw [cmp_gt]; exact cc
            rw [if_pos cc2] at hs
            cases hs
            exact kk.use (seek_ne hne) rfl rfl hc2 hLl hR hL hS0
          · have cc2 : ¬ sm_cmp .gt x 0 = true := by rw [cmp_gt]; exact cc
            rw [if_neg cc2] at hs
            cases hs
            exact kk.use (hnx hne) rfl rfl hc2 hLl hR hL hS0
        | le =>
          refine lv_if_le (tgt := x1) hx hb hdg hI.2 (fun cc => ?_) (fun cc => ?_)
          · have cc2 : sm_cmp .le x 0 = true := by rw [cmp_le]; exact cc
            rw [if_pos cc2] at hs
            cases hs
            exact kk.use (seek_ne hne) rfl rfl hc2 hLl hR hL hS0
          · have cc2 : ¬ sm_cmp .le x 0 = true := by rw [cmp_le]; exact cc
            rw [if_neg cc2] at hs
            cases hs
            exact kk.use (hnx hne) rfl rfl hc2 hLl hR hL hS0
      · cases hs
    · cases hs
  · simp only [ckI, Bool.and_eq_true, decide_eq_true_eq] at hI
    obtain rfl : len = 3 := Nat.eq_of_beq_eq_true hI.1
    simp only [sm_step] at hs
    split at hs
    · rename_i v w r
      split at hs
      · rename_i y x hyy hxx
        have ev := sm_in_eq hxx
        have ew := sm_in_eq hyy
        subst ev
        subst ew
        have hc2 := (List.forall_mem_cons.mp (List.forall_mem_cons.mp hst).2).2
        cases k with
        | eq =>
          refine lv_icmp_eq (tgt := x1) hx hb hdg hI.2 (fun cc => ?_) (fun cc => ?_)
          · have cc2 : sm_cmp .eq x y = true := by rw [cmp_eq]; exact cc
            rw [if_pos cc2] at hs
            cases hs
            exact kk.use (seek_ne hne) rfl rfl hc2 hLl hR hL hS0
          · have cc2 : ¬ sm_cmp .eq x y = true := by rw [cmp_eq]; exact cc
            rw [if_neg cc2] at hs
            cases hs
            exact kk.use (hnx hne) rfl rfl hc2 hLl hR hL hS0
        | ne =>
          refine lv_icmp_ne (tgt := x1) hx hb hdg hI.2 (fun cc => ?_) (fun cc => ?_)
          · have cc2 : sm_cmp .ne x y = true := by rw [cmp_ne]; exact cc
            rw [if_pos cc2] at hs
            cases hs
            exact kk.use (seek_ne hne) rfl rfl hc2 hLl hR hL hS0
          · have cc2 : ¬ sm_cmp .ne x y = true := by rw [cmp_ne]; exact fun z => z cc
            rw [if_neg cc2] at hs
            cases hs
            exact kk.use (hnx hne) rfl rfl hc2 hLl hR hL hS0
        | lt =>
          refine lv_icmp_lt (tgt := x1) hx hb hdg hI.2 (fun cc => ?_) (fun cc => ?_)
          · have cc2 : sm_cmp .lt x y = true := by rw [cmp_lt]; exact cc
            rw [if_pos cc2] at hs
            cases hs
            exact kk.use (seek_ne hne) rfl rfl hc2 hLl hR hL hS0
          · have cc2 : ¬ sm_cmp .lt x y = true := by rw [cmp_lt]; exact cc
            rw [if_neg cc2] at hs
            cases hs
            exact kk.use (hnx hne) rfl rfl hc2 hLl hR hL hS0
        | ge =>
          refine lv_icmp_ge (tgt := x1) hx hb hdg hI.2 (fun cc => ?_) (fun cc => ?_)
          · have cc2 : sm_cmp .ge x y = true := by rw [cmp_ge]; exact cc
            rw [if_pos cc2] at hs
            cases hs
            exact kk.use (seek_ne hne) rfl rfl hc2 hLl hR hL hS0
          · have cc2 : ¬ sm_cmp .ge x y = true := by rw [cmp_ge]; exact cc
            rw [if_neg cc2] at hs
            cases hs
            exact kk.use (hnx hne) rfl rfl hc2 hLl hR hL hS0
        | gt =>
          refine lv_icmp_gt (tgt := x1) hx hb hdg hI.2 (fun cc => ?_) (fun cc => ?_)
          · have cc2 : sm_cmp .gt x y = true := by rw [cmp_gt]; exact cc
            rw [if_pos cc2] at hs
            cases hs
            exact kk.use (seek_ne hne) rfl rfl hc2 hLl hR hL hS0
          · have cc2 : ¬ sm_cmp .gt x y = true := by rw [cmp_gt]; exact cc
            rw [if_neg cc2] at hs
            cases hs
            exact kk.use (hnx hne) rfl rfl hc2 hLl hR hL hS0
        | le =>
          refine lv_icmp_le (tgt := x1) hx hb hdg hI.2 (fun cc => ?_) (fun cc => ?_)
          · have cc2 : sm_cmp .le x y = true := by rw [cmp_le]; exact cc
            rw [if_pos cc2] at hs
            cases hs
            exact kk.use (seek_ne hne) rfl rfl hc2 hLl hR hL hS0
          · have cc2 : ¬ sm_cmp .le x y = true := by rw [cmp_le]; exact cc
            rw [if_neg cc2] at hs
            cases hs
            exact kk.use (hnx hne) rfl rfl hc2 hLl hR hL hS0
      · cases hs
    · cases hs
theorem st_jmp (C : Cx D b g0 g1 p R s m args meth c mi) {pc len x1 x2 x3 : Nat} {ins : Instr} {code code' : List Ent} {L L' : Lv} {st st' : List Value} {h h' : Hp} (hdg : decode (mC mi) pc = .ok (ins, len)) (hI : ckI mi (pc, ins, len, x1, x2, x3) = true)
    (hnx : code ≠ [] → pcOf code = pc + len) (hs : sm_step mi (pc, ins, len, x1, x2, x3) code L st h = some (code', L', st', h')) (hne : code' ≠ []) (hR : Rp D b g0 g1 s h H) (hL : LRp L ls) (hLl : L.length = mL mi) (hst : ∀ v ∈ st, v.category = 1) (hS0 : va_S (fun q => b ≤ q) s.heap H locs) (kk : Kk p l env R s m args below meth c cells slots Q D b g0 g1 mi h h' L' st' code')
    (hins : (∃ k o, ins = .if_acmp k o) ∨ (∃ o, ins = .ifnull o) ∨ (∃ o, ins = .ifnonnull o) ∨ (∃ o, ins = .goto o) ∨ (∃ d lo hi offs, ins = .tableswitch d lo hi offs)) :
    W p l env R s m args below meth c H locs cells slots Q (F0 m pc ls st) := by
  obtain ⟨hx, hb, -⟩ := C
  rcases hins with ⟨k, o, rfl⟩ | ⟨o, rfl⟩ | ⟨o, rfl⟩ | ⟨o, rfl⟩ | ⟨d, lo, hi, offs, rfl⟩
  · simp only [ckI, Bool.and_eq_true, decide_eq_true_eq] at hI
    obtain rfl : len = 3 := Nat.eq_of_beq_eq_true hI.1
    simp only [sm_step] at hs
    split at hs
    · rename_i v w r
      split at hs
      · rename_i y x hyy hxx
        have ev := sm_rf_eq hxx
        have ew := sm_rf_eq hyy
        subst ev
        subst ew
        have hc2 := (List.forall_mem_cons.mp (List.forall_mem_cons.mp hst).2).2
        cases k with
        | eq =>
          refine lv_acmp_eq (tgt := x1) hx hb hdg hI.2 (fun cc => ?_) (fun cc => ?_)
          · simp only [if_pos cc] at hs
            cases hs
            exact kk.use (seek_ne hne) rfl rfl hc2 hLl hR hL hS0
          · simp only [if_neg cc] at hs
            cases hs
            exact kk.use (hnx hne) rfl rfl hc2 hLl hR hL hS0
        | ne =>
          refine lv_acmp_ne (tgt := x1) hx hb hdg hI.2 (fun cc => ?_) (fun cc => ?_)
          · simp only [if_neg cc] at hs
            cases hs
            exact kk.use (seek_ne hne) rfl rfl hc2 hLl hR hL hS0
          · simp only [if_pos cc] at hs
            cases hs
            exact kk.use (hnx hne) rfl rfl hc2 hLl hR hL hS0
      · cases hs
    · cases hs
  · simp only [ckI, Bool.and_eq_true, decide_eq_true_eq] at hI
    obtain rfl : len = 3 := Nat.eq_of_beq_eq_true hI.1
    simp only [sm_step] at hs
    split at hs
    · rename_i v r
      have hc2 := (List.forall_mem_cons.mp hst).2
      split at hs
      · rename_i x hxx
        have ev := sm_rf_eq hxx
        subst ev
        cases hs
        exact lv_ifnull hx hb hdg (kk.use (hnx hne) rfl rfl hc2 hLl hR hL hS0)
      · rename_i hxx
        have ev := sm_rf_eq hxx
        subst ev
        cases hs
        exact lv_ifnullN hx hb hdg hI.2 (kk.use (seek_ne hne) rfl rfl hc2 hLl hR hL hS0)
      · cases hs
    · cases hs
  · simp only [ckI, Bool.and_eq_true, decide_eq_true_eq] at hI
    obtain rfl : len = 3 := Nat.eq_of_beq_eq_true hI.1
    simp only [sm_step] at hs
    split at hs
    · rename_i v r
      have hc2 := (List.forall_mem_cons.mp hst).2
      split at hs
      · rename_i x hxx
        have ev := sm_rf_eq hxx
        subst ev
        cases hs
        exact lv_ifnonnull hx hb hdg hI.2 (kk.use (seek_ne hne) rfl rfl hc2 hLl hR hL hS0)
      · rename_i hxx
        have ev := sm_rf_eq hxx
        subst ev
        cases hs
        exact lv_ifnonnullN hx hb hdg (kk.use (hnx hne) rfl rfl hc2 hLl hR hL hS0)
      · cases hs
    · cases hs
  · simp only [ckI, Bool.and_eq_true, decide_eq_true_eq] at hI
    obtain rfl : len = 3 := Nat.eq_of_beq_eq_true hI.1
    cases hs
    exact lv_goto hx hb hdg hI.2 (kk.use (seek_ne hne) rfl rfl hst hLl hR hL hS0)
  · simp only [ckI, Bool.and_eq_true, decide_eq_true_eq, List.all_eq_true] at hI
    simp only [sm_step] at hs
    split at hs
    · rename_i v r
      have hc2 := (List.forall_mem_cons.mp hst).2
      split at hs
      · rename_i x hxx
        have ev := sm_in_eq hxx
        subst ev
        by_cases hc : x.toInt < lo ∨ hi < x.toInt
        · unfold sm_tab at hs
          simp only [if_pos hc] at hs
          cases hs
          exact lv_tableOut hx hb hdg hc (by rw [Int.toNat_of_nonneg hI.1]) (kk.use (seek_ne hne) rfl rfl hc2 hLl hR hL hS0)
        · have hc1 : ¬ x.toInt < lo := fun z => hc (Or.inl z)
          have hc3 : ¬ hi < x.toInt := fun z => hc (Or.inr z)
          unfold sm_tab at hs
          simp only [if_neg hc] at hs
          cases ho : offs[(x.toInt - lo).toNat]? with
          | none =>
            rw [ho] at hs
            cases hs
          | some off =>
            rw [ho] at hs
            cases hs
            have hm : off ∈ offs.toList := by
              rw [← Array.getElem?_toList] at ho
              exact List.mem_of_getElem? ho
            exact lv_tableIn hx hb hdg hc1 hc3 ho (by rw [Int.toNat_of_nonneg (hI.2 off hm)]) (kk.use (seek_ne hne) rfl rfl hc2 hLl hR hL hS0)
      · cases hs
    · cases hs
end STEP2
