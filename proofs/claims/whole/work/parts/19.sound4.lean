theorem run_cat : ∀ (n : Nat) (mi : MI) (code : List Ent) (L : Lv) (st : List Value) (h : Hp) (r : Option Value) (h' : Hp), sm_run MT n mi code L st h = some (r, h') → ∀ v ∈ r.toList, v.category = 1 := by
  intro n
  induction n with
  | zero => intro mi code L st h r h' hs; cases hs
  | succ n ih =>
    intro mi code L st h r h' hs
    cases code with
    | nil => cases hs
    | cons e code =>
      unfold sm_run at hs
      split at hs
      · split at hs
        · exact ih _ _ _ _ _ _ _ hs
        · cases hs
      · split at hs
        · split at hs
          · split at hs
            · exact ih _ _ _ _ _ _ _ hs
            · cases hs
          · cases hs
        · cases hs
      · obtain ⟨-, h1⟩ := ret_spec hs
        rcases h1 with ⟨-, -, -, rfl⟩ | ⟨-, x, -, rfl, -⟩ | ⟨-, x, -, rfl, -⟩
        · intro v hv; cases hv
        · intro v hv
          simp at hv
          rw [hv]; rfl
        · intro v hv
          simp at hv
          rw [hv]; exact cat_rf x
      · cases hs
theorem good_bw {ws : List Cond} {m : MI} (hc : Cond.code (mY m) (mC m) (mL m) (mR m) ∈ bw) (h : ∀ w ∈ ws, w ∈ bw) : GoodIn bw (ws ++ (Cond.code (mY m) (mC m) (mL m) (mR m) :: bw)) := by
  intro w hw
  rcases List.mem_append.mp hw with hw | hw
  · exact ⟨h w hw, good_of_word (List.mem_filter.mp (h w hw)).2⟩
  · exact bw_good hc w hw
theorem par_n {d : String} {n k : Nat} (h : (parseMethodDescriptor d).map (fun d => d.parameters.length + 1) = some n) (hk : n = k + 1) : (parseMethodDescriptor d).map (fun d => d.parameters.length) = some k := by
  cases hp : parseMethodDescriptor d with
  | none => rw [hp] at h; cases h
  | some x =>
    rw [hp] at h
    have h2 : x.parameters.length + 1 = n := Option.some.inj h
    show some x.parameters.length = some k
    rw [show x.parameters.length = k by omega]
theorem snd_call {l : Launch} {D : va_G} {b g0 g1 n : Nat} (ih : Snd l D b g0 g1 n) (hgood : ∀ k m, k < 145 → MT[k]? = some m → GoodM m) {mi m' : MI} {pc len x1 x2 x3 : Nat} {ins : Instr} (hdg : decode (mC mi) pc = .ok (ins, len)) (hI : ckI mi (pc, ins, len, x1, x2, x3) = true) (hx1 : x1 < 1000) (hins : (∃ k, ins = .invokespecial k) ∨ (∃ k, ins = .invokevirtual k) ∨ (∃ k, ins = .invokestatic k)) (hm' : MT[x1]? = some m')
    {st : List Value} {h h1 : Hp} {r1 : Option Value} (hn : mN m' ≤ st.length) (hrl : (st.drop (mN m')).length ≤ 8) (hrcv : sm_rcv m' (st.take (mN m')).reverse h = true) (hrun : sm_run MT n m' (mP m') (sm_l0 m' (st.take (mN m')).reverse) [] h = some (r1, h1)) (hst : ∀ v ∈ st, v.category = 1)
    {p : Program} {env : Env} {R : Room} {s : State} {m : MethodId} {args : Array Value} {below : List Frame} {meth : Method} {c : Code} {H : Heap} {locs : List Loc} {cells slots : Nat} {Q : State → Prop} {ls : Array Slot} (C : Cx D b g0 g1 p R s m args meth c mi) (hR : Rp D b g0 g1 s h H) (hlsz : ls.size = mL mi) (hS0 : va_S (fun q => b ≤ q) s.heap H locs) (hcells : cells + (sz h1 - sz h) ≤ R.cells) (hslots : slots + (sl h1 - sl h) ≤ R.slots)
    (kk : ∀ (H1 : Heap) (locs1 : List Loc), Rp D b g0 g1 s h1 H1 → va_S (fun q => b ≤ q) s.heap H1 locs1 → W p l env R s m args below meth c H1 locs1 (cells + (sz h1 - sz h)) (slots + (sl h1 - sl h)) Q (F0 m (pc + len) ls (r1.toList ++ st.drop (mN m')))) :
    W p l env R s m args below meth c H locs cells slots Q (F0 m pc ls st) := by
  obtain ⟨hx, hb, hml, hown, hts, hKx, hbs, hf1, hf2, -⟩ := id C
  generalize hAs : (st.take (mN m')).reverse = As at hrcv hrun
  generalize hrest : st.drop (mN m') = rest at hrl kk
  have hst2 : st = As.reverse ++ rest := by rw [← hAs, ← hrest, List.reverse_reverse, List.take_append_drop]
  have hAl : As.length = mN m' := by rw [← hAs, List.length_reverse, List.length_take]; omega
  have hcA : ∀ v ∈ As, v.category = 1 := fun v hv => hst v (by rw [hst2]; exact List.mem_append_left _ (List.mem_reverse.mpr hv))
  have hcR : ∀ v ∈ rest, v.category = 1 := fun v hv => hst v (by rw [hst2]; exact List.mem_append_right _ hv)
  have hroom : (rest.map fun v => v.category).sum ≤ 8 := by rw [cat_sum hcR]; exact hrl
  have hpre : ∀ U : State, U.heap = H → s.WarmedH U.vm → mPc D b g0 g1 As h As.toArray U := fun U hU hW => ⟨rfl, by rw [hU]; exact hR.moved hW.alike, hKx.warm hW hS0 hU, by rw [hU]; exact Nat.le_trans hbs hS0.1⟩
  have S : CallFix p m c (mC mi) (mL mi) s args bw (owN mi) := ⟨hx, hb, hml, hown, hts⟩
  have done : ∀ (k : Nat), x1 < 145 → len = 3 → (∀ (q : Nat × Nat × Nat × Nat), okY m' q = true → Met l (mY m') (Cond.code (mY m') (mC m') (mL m') (mR m') :: bw) { frames := mF m', cells := sz h1 - sz h, slots := sl h1 - sl h, locals := mO m' } (mPc D b g0 g1 As h) (mQc D b g0 g1 r1 h1) (sz h1 - sz h) (sl h1 - sl h) (fun q => b ≤ q) → va_Run p l env R s m args below meth c H locs cells slots (sz h1 - sz h) (sl h1 - sl h) (F0 m pc ls st) rest (mQc D b g0 g1 r1 h1 As.toArray) (fun q => b ≤ q)) → W p l env R s m args below meth c H locs cells slots Q (F0 m pc ls st) := by
    intro k hk h3 hrn
    obtain ⟨q, hq⟩ := MT_get hk hm'
    obtain ⟨-, -, -, -, -, y6, -⟩ := okY_facts hq
    have hM := snd_met ih hq (hgood x1 m' hk hm') hcA (by rw [hAl]; exact y6) hrun
    refine run_call (hrn q hq hM) hS0 fun H1 locs1 hR1 hS1 => ?_
    have := kk H1 locs1 hR1 hS1
    rw [h3] at this
    exact this
  have rooms : ckC mi m' = true → mF m' + 1 ≤ R.frames ∧ 8 + (mL m' + 11) + mO m' ≤ R.locals := by
    intro hc
    unfold ckC at hc
    rw [Bool.and_eq_true] at hc
    have a1 := Nat.le_of_ble_eq_true hc.1
    have a2 := Nat.le_of_ble_eq_true hc.2
    exact ⟨by omega, by omega⟩
  rcases hins with ⟨k, rfl⟩ | ⟨k, rfl⟩ | ⟨k, rfl⟩
  · simp only [ckI, if_pos hx1, hm', Bool.and_eq_true] at hI
    obtain ⟨i1, ⟨i2, i3⟩, i4⟩ := hI
    have e3 := Nat.eq_of_beq_eq_true i1
    subst e3
    have i3 := Nat.eq_of_beq_eq_true i3
    unfold sm_rcv at hrcv
    rw [i3] at hrcv
    simp only at hrcv
    cases hA0 : As with
    | nil => rw [hA0] at hrcv; cases hrcv
    | cons v As' =>
      rw [hA0] at hrcv
      have hva : ∃ a, v = .ref a := by cases v <;> first | exact ⟨_, rfl⟩ | cases hrcv
      obtain ⟨a, rfl⟩ := hva
      have hlen' : mN m' = As'.length + 1 := by rw [← hAl, hA0]; rfl
      have hst3 : st = As'.reverse ++ .ref a :: rest := by rw [hst2, hA0]; simp
      have hpre' : PreS s H (mPc D b g0 g1 As h) (.ref a :: As') := ⟨mPc_blind, by rw [← hA0]; exact hpre⟩
      have hx3 : x3 = 1 ∨ x3 = 3 := by
        split at i2
        · exact Or.inl rfl
        · exact Or.inr rfl
        · cases i2
      rcases hx3 with rfl | rfl
      · simp only [decide_eq_true_eq] at i2
        obtain ⟨m2, t1, t2, -⟩ := tM_get i2
        cases hm'.symm.trans t1
        refine done 0 (tM_lt' i2) rfl fun q hq hM => ?_
        obtain ⟨y1, y2, y3, y4, y5, y6, y7, y8, y9⟩ := okY_facts hq
        obtain ⟨z1, z2, z3, z4⟩ := y8 i3
        rw [z4] at hM
        have hG := bw_good y1
        rw [z4] at hG
        rw [hA0]
        exact va_runI (As := As') (rest := rest) (b := a) (g := F0 m pc ls st) S hM (cwI As'.length hts hG rfl rfl rfl (hts _ y2) (hts _ (t2 rfl)) (hts _ z2) z3 ⟨y4.1, y4.2, par_n z1 hlen'⟩ (rooms i4)) hpre' rfl rfl hlsz hst3 (lv_room hroom) hdg ⟨hcells, hslots⟩
      · simp only [decide_eq_true_eq] at i2
        obtain ⟨m2, t1, -, t2⟩ := tM_get i2
        cases hm'.symm.trans t1
        refine done 0 (tM_lt' i2) rfl fun q hq hM => ?_
        obtain ⟨y1, y2, y3, y4, y5, y6, y7, y8, y9⟩ := okY_facts hq
        obtain ⟨z1, z2, z3, z4⟩ := y8 i3
        rw [z4] at hM
        have hG := bw_good y1
        rw [z4] at hG
        rw [hA0]
        exact va_runIN (As := As') (rest := rest) (b := a) (g := F0 m pc ls st) S hM ⟨va_cnB As'.length hts hG rfl rfl rfl (hKx.2.1 _ (t2 rfl) rfl) (hts _ y2) ⟨y4.1, y4.2, par_n z1 hlen'⟩ (rooms i4), z3, hts _ z2⟩ hpre' rfl rfl hlsz hst3 (lv_room hroom) hdg ⟨hcells, hslots⟩
  · simp only [ckI, if_pos hx1, hm', Bool.and_eq_true, decide_eq_true_eq] at hI
    obtain ⟨i1, ⟨i2, i3⟩, i4⟩ := hI
    have e3 := Nat.eq_of_beq_eq_true i1
    subst e3
    have i3 := Nat.le_of_ble_eq_true i3
    obtain ⟨j, hj⟩ : ∃ j, mK m' = j + 2 := ⟨mK m' - 2, by omega⟩
    unfold sm_rcv at hrcv
    rw [hj] at hrcv
    simp only at hrcv
    cases hA0 : As with
    | nil => rw [hA0] at hrcv; cases hrcv
    | cons v As' =>
      rw [hA0] at hrcv
      have hva : ∃ a, v = .ref a := by cases v <;> first | exact ⟨_, rfl⟩ | cases hrcv
      obtain ⟨a, rfl⟩ := hva
      have hka : kd h a = j + 1 := Nat.eq_of_beq_eq_true hrcv
      have hlen' : mN m' = As'.length + 1 := by rw [← hAl, hA0]; rfl
      have hst3 : st = As'.reverse ++ .ref a :: rest := by rw [hst2, hA0]; simp
      obtain ⟨m2, t1, t2, -⟩ := tM_get i2
      cases hm'.symm.trans t1
      refine done 0 (tM_lt' i2) rfl fun q hq hM => ?_
      obtain ⟨y1, y2, y3, y4, y5, y6, y7, y8, y9⟩ := okY_facts hq
      obtain ⟨z1, z2, z3, z4⟩ := y9 j hj
      have hrc : ∃ cell : Cell, H[a]? = some cell ∧ cell.vm.isStatics = false ∧ s.vm.findClass (mY m').cls = some cell.cls := by
        cases hw : wc[j]? with
        | none => rw [hw] at z4; cases z4
        | some q' =>
          rw [hw] at z4
          have e1 : q'.1 = (mY m').cls := Option.some.inj z4
          rw [← e1]
          exact hR.recv hKx.1 hka (by omega) hw
      have hT : GoodIn bw (wsV (owN mi) k (mY m').cls (mY m') (Cond.code (mY m') (mC m') (mL m') (mR m') :: bw)) := good_bw y1 (by
        intro w hw
        simp only [List.mem_cons, List.not_mem_nil, or_false] at hw
        rcases hw with rfl | rfl | rfl | rfl
        · exact t2 rfl
        · exact z2
        · exact z3
        · exact y2)
      rw [hA0]
      exact va_runV (As := As') (rest := rest) (b := a) (g := F0 m pc ls st) S hM (cwV As'.length hts hT rfl rfl rfl ⟨rfl, y4.1, y4.2, par_n z1 hlen'⟩ (rooms i4)) ⟨mPc_blind, hrc, by rw [← hA0]; exact hpre⟩ rfl rfl hlsz hst3 (lv_room hroom) hdg ⟨hcells, hslots⟩
  · simp only [ckI, if_pos hx1, hm', Bool.and_eq_true, decide_eq_true_eq] at hI
    obtain ⟨i1, ⟨i2, i3⟩, i4⟩ := hI
    have e3 := Nat.eq_of_beq_eq_true i1
    subst e3
    have i3 := Nat.eq_of_beq_eq_true i3
    obtain ⟨m2, t1, t2, -⟩ := tM_get i2
    cases hm'.symm.trans t1
    refine done 0 (tM_lt' i2) rfl fun q hq hM => ?_
    obtain ⟨y1, y2, y3, y4, y5, y6, y7, y8, y9⟩ := okY_facts hq
    obtain ⟨z1, z2⟩ := y7 i3
    have hT : GoodIn bw (va_wsS (owN mi) k (mY m') (Cond.code (mY m') (mC m') (mL m') (mR m') :: bw)) := good_bw y1 (by
      intro w hw
      simp only [List.mem_cons, List.not_mem_nil, or_false] at hw
      rcases hw with rfl | rfl | rfl
      · exact t2 rfl
      · exact z2
      · exact y2)
    exact va_runS (As := As) (rest := rest) (g := F0 m pc ls st) S hM (va_cwS As.length hts hT rfl rfl rfl ⟨y4.1, y4.2, by rw [hAl]; exact z1⟩ (rooms i4)) ⟨mPc_blind, hpre⟩ rfl rfl hlsz hst2 (lv_room hroom) hdg ⟨hcells, hslots⟩
theorem sm_sound {l : Launch} {D : va_G} {b g0 g1 : Nat} (hgood : ∀ k m, k < 145 → MT[k]? = some m → GoodM m) : ∀ n, Snd l D b g0 g1 n := by
  intro n
  induction n with
  | zero => intro mi code L st h r h' hs; cases hs
  | succ n ih =>
    intro mi code L st h r h' hs hP hC p env R s m args below meth c H locs cells slots Q ls C hR hL hLl hst hS0 hcells hslots hend
    cases code with
    | nil => cases hs
    | cons e code =>
      obtain ⟨pc, ins, len, x1, x2, x3⟩ := e
      have hck := hC.1 _ List.mem_cons_self
      have hne3 : sm_cls (pc, ins, len, x1, x2, x3) ≠ 3 := by
        intro z
        unfold sm_run at hs
        rw [z] at hs
        cases hs
      obtain ⟨hdg, hI⟩ := cls0 hne3 hck
      have hnx : code ≠ [] → pcOf code = pc + len := fun hne => hC.next hne
      unfold sm_run at hs
      split at hs
      · rename_i hcl
        split at hs
        · rename_i q hq
          obtain ⟨code1, L1, st1, h1⟩ := q
          obtain ⟨s1, s2⟩ : sz h ≤ sz h1 ∧ sl h ≤ sl h1 := step_mono hq
          obtain ⟨t1, t2⟩ : sz h1 ≤ sz h' ∧ sl h1 ≤ sl h' := run_mono _ _ _ _ _ _ _ _ hs
          have hne1 : code1 ≠ [] := by
            intro z
            rw [z] at hs
            cases n <;> cases hs
          have hC1 : OkC mi code1 := by
            rcases step_code hq with rfl | ⟨t, rfl⟩
            · exact hC.tail
            · exact hP.seek t
          refine st_all C hdg hI hnx hq hne1 hR hL hLl hst hS0 (fun H1 locs1 ls1 hR1 hL1 hS1 hcat1 hlen1 => ?_) (by omega) (by omega) hcl
          refine ih mi code1 L1 st1 h1 r h' hs hP hC1 p env R s m args below meth c H1 locs1 _ _ Q ls1 C hR1 hL1 hlen1 hcat1 hS1 (by omega) (by omega) (fun H2 locs2 ls2 pc2 ins2 st2 a1 a2 a3 a4 => ?_)
          have := hend H2 locs2 ls2 pc2 ins2 st2 a1 a2 a3 a4
          rw [show cells + (sz h1 - sz h) + (sz h' - sz h1) = cells + (sz h' - sz h) by omega, show slots + (sl h1 - sl h) + (sl h' - sl h1) = slots + (sl h' - sl h) by omega]
          exact this
        · cases hs
      · rename_i hcl
        split at hs
        · rename_i m' hm'
          split at hs
          · rename_i hcond
            obtain ⟨c1, c2, c3⟩ := hcond
            split at hs
            · rename_i q hq
              obtain ⟨r1, h1⟩ := q
              obtain ⟨s1, s2⟩ : sz h ≤ sz h1 ∧ sl h ≤ sl h1 := run_mono _ _ _ _ _ _ _ _ hq
              obtain ⟨t1, t2⟩ : sz h1 ≤ sz h' ∧ sl h1 ≤ sl h' := run_mono _ _ _ _ _ _ _ _ hs
              have hne1 : code ≠ [] := by
                intro z
                rw [z] at hs
                cases n <;> cases hs
              have hkind : x1 < 1000 ∧ ((∃ k, ins = .invokespecial k) ∨ (∃ k, ins = .invokevirtual k) ∨ (∃ k, ins = .invokestatic k)) := by
                unfold sm_cls at hcl
                split at hcl
                · cases hcl
                · split at hcl <;> rename_i hi <;> first | (simp at hcl; done) | (refine ⟨by by_cases hz : x1 < 1000 <;> simp_all, ?_⟩; first | exact Or.inl ⟨_, hi⟩ | exact Or.inr (Or.inl ⟨_, hi⟩) | exact Or.inr (Or.inr ⟨_, hi⟩))
              refine snd_call ih hgood hdg hI hkind.1 hkind.2 hm' c1 c2 c3 hq hst C hR (hL.1.trans hLl) hS0 (by omega) (by omega) (fun H1 locs1 hR1 hS1 => ?_)
              have hcat1 : ∀ v ∈ r1.toList ++ st.drop (mN m'), v.category = 1 := by
                intro v hv
                rcases List.mem_append.mp hv with hv | hv
                · exact run_cat _ _ _ _ _ _ _ _ hq v hv
                · exact hst v (List.mem_of_mem_drop hv)
              rw [← hnx hne1]
              refine ih mi code L _ h1 r h' hs hP hC.tail p env R s m args below meth c H1 locs1 _ _ Q ls C hR1 hL hLl hcat1 hS1 (by omega) (by omega) (fun H2 locs2 ls2 pc2 ins2 st2 a1 a2 a3 a4 => ?_)
              have := hend H2 locs2 ls2 pc2 ins2 st2 a1 a2 a3 a4
              rw [show cells + (sz h1 - sz h) + (sz h' - sz h1) = cells + (sz h' - sz h) by omega, show slots + (sl h1 - sl h) + (sl h' - sl h1) = slots + (sl h' - sl h) by omega]
              exact this
            · cases hs
          · cases hs
        · cases hs
      · rename_i hcl
        obtain ⟨rfl, hr⟩ := ret_spec hs
        have hlen1 : len = 1 := by
          have key : ∀ i, ins = i → (i = .return_ ∨ i = .ireturn ∨ i = .areturn) → len = 1 := by
            intro i hi hh
            subst hi
            rcases hh with rfl | rfl | rfl <;> exact Nat.eq_of_beq_eq_true hI
          rcases hr with ⟨h1, -⟩ | ⟨h1, -⟩ | ⟨h1, -⟩
          · exact key _ h1 (Or.inl rfl)
          · exact key _ h1 (Or.inr (Or.inl rfl))
          · exact key _ h1 (Or.inr (Or.inr rfl))
        subst hlen1
        have := hend H locs ls pc ins st hR hS0 hdg hr
        rw [Nat.sub_self, Nat.sub_self] at this
        exact this
      · cases hs
