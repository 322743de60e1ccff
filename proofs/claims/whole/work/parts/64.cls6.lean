/-! the class: an operation is finished -/
theorem nI_mx {a b : Nat} : (if a < b then nI b else nI a) = nI (max a b) := by
  split
  · rw [Nat.max_eq_right (by omega)]
  · rw [Nat.max_eq_left (by omega)]
/-- the texts of a state -/
def TA (s : St) (tx : Nat → Nat → List Nat) : Prop := ∀ r, r < 4 → TL s r 0 (tx r 0) ∧ TL s r 1 (tx r 1) ∧ (tx r 0).length + (tx r 1).length = chs s r
theorem rp_st {ow oa : Nat → Nat} {la la' : Nat → Nat → Nat} {tx tx' : Nat → Nat → List Nat} {h : Hp} {x r : Nat} {s s' : St} (H : RpR ow oa la tx h x s r) (e1 : sTi s' r = sTi s r) (e2 : sUp s' r = sUp s r) (e3 : ∀ i j, kno s' r i j = kno s r i j) (e4 : ∀ c, cs s' r c = cs s r c) (e5 : sp s' r = sp s r) (e6 : ∀ c, wr s' r c = wr s r c) (e7 : lg s' r = lg s r) (e8 : sWt s' r = sWt s r) (e9 : ∀ q, rmd s' r q = rmd s r q) (e10 : la' r = la r) (e11 : tx' r = tx r) : RpR ow oa la' tx' h x s' r := by
  refine ⟨by rw [e1]; exact H.ti, by rw [e2]; exact H.up, fun i j hi hj => by rw [e3]; exact H.kn i j hi hj, fun c hc => by rw [e4]; exact H.sm c hc, by rw [e5]; exact H.sp, fun c hc => by rw [e6]; exact H.wr c hc, by rw [e7]; exact H.lg, by rw [e8]; exact H.wt, fun t ht => ?_⟩
  rw [e10, e11, show rmd s' r = rmd s r from funext e9]
  exact H.tx t ht
theorem kno_doo {s : St} {r o i j : Nat} : kno (doo s r o) r i j = if r = i ∧ j = o / 60 then sOw s r (o / 60) + 1 else kno s r i j := by
  unfold kno
  by_cases h1 : r = i
  · rw [if_pos h1, if_pos h1]
    show fu (sOw s) r (fu (sOw s r) (o / 60) (sOw s r (o / 60) + 1)) r j = _
    rw [fu_at, if_pos rfl, fu_at]
    by_cases h2 : j = o / 60
    · rw [if_pos h2, if_pos ⟨h1, h2⟩]
    · rw [if_neg h2, if_neg (fun z => h2 z.2)]
  · rw [if_neg h1, if_neg h1, if_neg (fun z => h1 z.1)]
    rfl
theorem kno_oth {s : St} {r o r' i j : Nat} (h : r' ≠ r) : kno (doo s r o) r' i j = kno s r' i j := by
  unfold kno
  show (if r' = i then fu (sOw s) r (fu (sOw s r) (o / 60) (sOw s r (o / 60) + 1)) r' j else _) = _
  rw [fu_at, if_neg h]
  rfl
theorem lg_oth {s : St} {r o r' : Nat} (h : r' ≠ r) : lg (doo s r o) r' = lg s r' := by
  unfold lg
  rw [dn_oth h]
  apply List.filter_congr
  intro p _
  unfold lgd
  simp only [kno_oth h]
theorem lg_doo {s : St} {r o : Nat} (D : Dk s r o) : lg (doo s r o) r = lg s r ++ (if lgd (doo s r o) r o = true then [o] else []) := by
  unfold lg
  rw [dn_doo, if_pos rfl, List.filter_append]
  congr 1
  · apply List.filter_congr
    intro p hp
    have h9 : sCk s p (p / 60) = p % 60 + 1 := (D.gi.2.i9 p (D.mp hp)).1
    have h1 := D.ck p hp (p / 60) (by have := (D.mp hp).1; omega)
    rw [h9] at h1
    have hk : ∀ i, (kno (doo s r o) r i (p / 60) < p % 60 + 1) ↔ (kno s r i (p / 60) < p % 60 + 1) := fun i => by
      rw [kno_doo]
      split
      · rename_i h
        have : kno s r i (p / 60) = sOw s r (p / 60) := if_pos h.1
        rw [this, ← h.2]
        omega
      · exact Iff.rfl
    unfold lgd
    simp only [hk]
  · by_cases h : lgd (doo s r o) r o = true
    · rw [if_pos h, List.filter_cons_of_pos h]; rfl
    · rw [if_neg h, List.filter_cons_of_neg h]; rfl
theorem op_doo {ow oa : Nat → Nat} {h : Hp} {s : St} {r o q : Nat} (H : OpR ow oa h s q) : OpR ow oa h (doo s r o) q := H
set_option maxHeartbeats 2000000 in
theorem c_finish {x r o : Nat} {ow oa : Nat → Nat} {la : Nat → Nat → Nat} {tx : Nat → Nat → List Nat} {h : Hp} {s : St} {P : Option Value → Hp → Prop} (C : CR ow oa la tx h x s) (D : Dk s r o) (hB : Bd s) (T : TA s tx) (hP : ∀ ow' la' tx' h', CR ow' oa la' tx' h' x (doo s r o) → TA (doo s r o) tx' → Fz (Bk x r) ow h h' → Og (sz h) ow ow' → sz h' ≤ sz h + 2 → sl h' ≤ sl h + 800 → P none h') : Ev M_X5_finish [.ref (rb x r), .ref (oa o)] h P := by
  have hr := D.r4
  have ho := D.o2
  have ho4 : o / 60 < 4 := by omega
  have X := C.fx.r r hr
  have R := C.rp r hr
  have O := C.op o D.mo
  have hz := C.fx.s
  have hbz := rb_sz C.fx hr
  obtain ⟨c1, c2, c3, c4, c5, c6⟩ := X.ck r hr
  have ok := O.k; have o_r := O.r; have o_n := O.n; have o_t := O.t
  have ti := R.ti
  have b1 := (hB.2.2.1 r hr).1
  have b2 := (hB.2.1 o ho).2.2.1
  have emx := nI_mx (a := sTi s r) (b := sTm s o)
  simp (disch := first | omega | assumption) only [Z_iconst, Z_bipush, Z_sipush, Z_ldc, Z_ldcM, Z_ldcw, Z_null, Z_getstatic, Z_iload0, Z_aload0, Z_aloadq0, Z_aloadn0, Z_istore0, Z_astore0, Z_astoreq0, Z_astoren0, Z_iinc0, Z_iload1, Z_aload1, Z_aloadq1, Z_aloadn1, Z_istore1, Z_astore1, Z_astoreq1, Z_astoren1, Z_iinc1, Z_iload2, Z_aload2, Z_aloadq2, Z_aloadn2, Z_istore2, Z_astore2, Z_astoreq2, Z_astoren2, Z_iinc2, Z_iload3, Z_aload3, Z_aloadq3, Z_aloadn3, Z_istore3, Z_astore3, Z_astoreq3, Z_astoren3, Z_iinc3, Z_iload4, Z_aload4, Z_aloadq4, Z_aloadn4, Z_istore4, Z_astore4, Z_astoreq4, Z_astoren4, Z_iinc4, Z_iload5, Z_aload5, Z_aloadq5, Z_aloadn5, Z_istore5, Z_astore5, Z_astoreq5, Z_astoren5, Z_iinc5, Z_iload6, Z_aload6, Z_aloadq6, Z_aloadn6, Z_istore6, Z_astore6, Z_astoreq6, Z_astoren6, Z_iinc6, Z_iload7, Z_aload7, Z_aloadq7, Z_aloadn7, Z_istore7, Z_astore7, Z_astoreq7, Z_astoren7, Z_iinc7, Z_iload8, Z_aload8, Z_aloadq8, Z_aloadn8, Z_istore8, Z_astore8, Z_astoreq8, Z_astoren8, Z_iinc8, Z_iload9, Z_aload9, Z_aloadq9, Z_aloadn9, Z_istore9, Z_astore9, Z_astoreq9, Z_astoren9, Z_iinc9, Z_iload10, Z_aload10, Z_aloadq10, Z_aloadn10, Z_istore10, Z_astore10, Z_astoreq10, Z_astoren10, Z_iinc10, Z_iload11, Z_aload11, Z_aloadq11, Z_aloadn11, Z_istore11, Z_astore11, Z_astoreq11, Z_astoren11, Z_iinc11, Z_iload12, Z_aload12, Z_aloadq12, Z_aloadn12, Z_istore12, Z_astore12, Z_astoreq12, Z_astoren12, Z_iinc12, Z_iadd, Z_isub, Z_imul, Z_iand, Z_ior, Z_ishl, Z_ishr, Z_iushr, Z_idiv, Z_irem, Z_dup, Z_dupx1, Z_dup2, Z_pop, Z_if_eq, Z_icmp_eq, Z_if_ne, Z_icmp_ne, Z_if_lt, Z_icmp_lt, Z_if_le, Z_icmp_le, Z_if_ge, Z_icmp_ge, Z_if_gt, Z_icmp_gt, Z_acmp_eqq1, Z_acmp_eqq2, Z_acmp_eqq3, Z_acmp_eqq4, Z_acmp_neq1, Z_acmp_neq2, Z_acmp_neq3, Z_acmp_neq4, Z_ifnull, Z_ifnullN, Z_ifnullq, Z_ifnonnull, Z_ifnonnullN, Z_ifnonnullq, Z_goto, Z_getI, Z_getZ, Z_getR, Z_putI, Z_putR, Z_putN, Z_putQ, Z_putZ, Z_new, Z_newarray, Z_anewarray, Z_alen, Z_cast, Z_objInit, Z_clone, Z_getClass, Z_copy, Z_max, Z_min, Y_iaload, Y_baload, Y_aaload, Y_iastore, Y_bastore, Y_aastore, Y_aastoreN, lt_0p, lt_1n, va_some, va_none, Option.toList_some, Option.toList_none, List.nil_append, List.cons_append, List.length_nil, List.length_cons, true_and, and_true, if_true, if_false, ite_true, ite_false, Nat.zero_le, Nat.not_lt_zero, Nat.reduceLeDiff, Nat.reduceEqDiff, Nat.reduceAdd, Nat.reduceMul, Nat.reduceSub, Nat.reduceLT, Nat.zero_add, not_true_eq_false, not_false_eq_true, true_or, or_true, false_or, or_false, Nat.add_zero, false_and, and_false, exists_eq_left', Option.some.injEq, k_X5_finish_0, sk_X5_finish_58, k_X5_finish_58, Q_X5_finish, C_X5_apply, C_X5_isDoneEverywhere, C_AL_add_9ea2d, E_X5_finish, nI_add, pk_mul, ar_lt, ar_le, ar_eq, z_lt, z_le, z_gt, z_ge, z_eq, z_eq2, ix_nI, nI_clamp, ne_eq, kd_wfI', ln_wfI', fI_wfI', fR_wfI', aI_wfI', aR_wfI', gc_wfI', sz_wfI', sl_wfI', kd_wfR', ln_wfR', fI_wfR', fR_wfR', aI_wfR', aR_wfR', gc_wfR', sz_wfR', sl_wfR', kd_waI', ln_waI', fI_waI', fR_waI', aI_waI', aR_waI', gc_waI', sz_waI', sl_waI', kd_waR', ln_waR', fI_waR', fR_waR', aI_waR', aR_waR', gc_waR', sz_waR', sl_waR', kd_hnew', ln_hnew', fI_hnew', fR_hnew', aI_hnew', aR_hnew', gc_hnew', sz_hnew', sl_hnew', X.k, X.f1, X.k1, X.l1, X.sf, c1, c2, c3, c4, c5, ok, o_r, o_n, o_t, ti]
  rw [emx]
  have F2 : Fz (fun q => q = rb x r ∨ q = rb x r + 1) ow h (wfI (waI h (rb x r + 9 + 2 * r) (o / 60) (nI (o % 60 + 1))) 168 (rb x r) (nI (max (sTi s r) (sTm s o)))) := (Fz.rf.waI (fun _ => Or.inr c6)).wfI (fun _ => ⟨Or.inr (Or.inr (Or.inl rfl)), Or.inl X.o0⟩)
  have t2 : fI (wfI (waI h (rb x r + 9 + 2 * r) (o / 60) (nI (o % 60 + 1))) 168 (rb x r) (nI (max (sTi s r) (sTm s o)))) 168 (rb x r) = nI (max (sTi s r) (sTm s o)) := by rw [fI_wfI, if_pos ⟨rfl, rfl⟩]
  have u2 : fI (wfI (waI h (rb x r + 9 + 2 * r) (o / 60) (nI (o % 60 + 1))) 168 (rb x r) (nI (max (sTi s r) (sTm s o)))) 169 (rb x r) = nI (nb (sUp s r)) := by rw [fI_wfI, if_neg (by omega), fI_waI]; exact R.up
  have k2 : ∀ i j, i < 4 → j < 4 → aI (wfI (waI h (rb x r + 9 + 2 * r) (o / 60) (nI (o % 60 + 1))) 168 (rb x r) (nI (max (sTi s r) (sTm s o)))) (rb x r + 9 + 2 * i) j = nI (kno (doo s r o) r i j) := fun i j hi hj => by
    rw [aI_wfI, aI_waI, kno_doo, ← D.nx]
    by_cases h1 : r = i ∧ j = o / 60
    · rw [if_pos h1, if_pos ⟨by rw [h1.1], h1.2⟩]
    · rw [if_neg h1, if_neg (fun z => h1 ⟨by omega, z.2⟩)]
      exact R.kn i j hi hj
  have s2 : sz (wfI (waI h (rb x r + 9 + 2 * r) (o / 60) (nI (o % 60 + 1))) 168 (rb x r) (nI (max (sTi s r) (sTm s o)))) = sz h := by rw [sz_wfI, sz_waI]
  have l2 : sl (wfI (waI h (rb x r + 9 + 2 * r) (o / 60) (nI (o % 60 + 1))) 168 (rb x r) (nI (max (sTi s r) (sTm s o)))) = sl h := by rw [sl_wfI, sl_waI]
  generalize wfI (waI h (rb x r + 9 + 2 * r) (o / 60) (nI (o % 60 + 1))) 168 (rb x r) (nI (max (sTi s r) (sTm s o))) = h2 at *
  have n0 : ¬ (fun q => q = rb x r ∨ q = rb x r + 1) 0 := by unfold rb; omega
  have X2 := X.fz F2 Og.rf n0 C.fx.o1 hr (by omega)
  have A2 : Ap ow oa (la r) (tx r 0) (tx r 1) h2 x s r := Ap.fz (S := fun q => q = rb x r ∨ q = rb x r + 1) ⟨R.sm, R.sp, R.wr, R.tx 0 (by decide), R.tx 1 (by decide)⟩ X F2 Og.rf hbz (fun q hq => by unfold S3 at hq; omega)
  have hO2 : ∀ p, p ∈ sDn s r ∨ p = o → OpR ow oa h2 s p := fun p hp => (C.op p (by
    rcases hp with z | z
    · exact D.mp z
    · rw [z]; exact D.mo)).fz F2 Og.rf n0
  refine c_apply X2 C.fx.o1 (by omega) A2 D hB hO2 (T r hr).1 (T r hr).2.1 (fun h3 hA => ?_)
  obtain ⟨ow3, la3, l0, l1, g3, F3, A3, T0, T1, tl, z3, y3⟩ := hA
  have n3 : ¬ S3 x r 0 := by unfold S3 rb; omega
  have X3 := X2.fz F3 g3 n3 C.fx.o1 hr (by omega)
  have O3 := (hO2 o (Or.inr rfl)).fz F3 g3 n3
  have hz3 := F3.1
  have k3 : ∀ i j, i < 4 → j < 4 → aI h3 (rb x r + 9 + 2 * i) j = nI (kno (doo s r o) r i j) := fun i j hi hj => by
    rw [(F3.un (by omega) (by rw [(X2.ck i hi).2.2.2.2.2]; unfold S3; omega)).2.1]
    exact k2 i j hi hj
  have u3 := (F3.un (q := rb x r) (by omega) (by rw [X2.o0]; unfold S3; omega)).1
  have hkb : ∀ i, i < 4 → kno (doo s r o) r i (o / 60) ≤ 1000 := fun i hi => by
    have hb := D.gi.1.2.2.1 r hr
    unfold kno
    split
    · exact Nat.le_trans (hb.2.2.2.2.2.1 _ ho4) (by decide)
    · exact Nat.le_trans (hb.2.2.2.2.2.2 i _ hi ho4) (by decide)
  have ed := fun P => e_cDone (P := P) (f := fun i => kno (doo s r o) r i (o / 60)) X3 hr (fun i hi => k3 i _ hi ho4) hkb ho O3.k O3.r O3.n
  have edl : dnF (fun i => kno (doo s r o) r i (o / 60)) (o % 60 + 1) 4 0 = ! lgd (doo s r o) r o := dnF_lgd
  rw [edl] at ed
  have L3 : Ls ow3 h3 (rb x r + 6) ((lg s r).map oa) := (R.lg.fz F2 Og.rf (by omega)).fz F3 g3 (by unfold S3; omega)
  have W3 : Ls ow3 h3 (rb x r + 7) ((sWt s r).map oa) := (R.wt.fz F2 Og.rf (by omega)).fz F3 g3 (by unfold S3; omega)
  have F23 : Fz (Bk x r) ow h h3 := (F2.mo (fun q hq => by unfold Bk; omega)).tr' (F3.mo (fun q hq => by unfold Bk; unfold S3 at hq; omega))
  have fin : ∀ ow4 h4, Og (sz h3) ow3 ow4 → Fz (fun q => q = rb x r + 6) ow3 h3 h4 → Ls ow4 h4 (rb x r + 6) ((lg (doo s r o) r).map oa) → sz h4 ≤ sz h3 + 1 → sl h4 ≤ sl h3 + 400 → P none h4 := by
    intro ow4 h4 g4 F4 L4 z4 y4
    have g34 : Og (sz h) ow ow4 := by
      have := g3.tr g4 hz3
      rw [s2] at this
      exact this
    have F : Fz (Bk x r) ow h h4 := F23.tr (by rw [← s2]; exact g3) (F4.mo (fun q hq => by unfold Bk; omega))
    have nb0 : ¬ Bk x r 0 := bk_0
    have X4 := X3.fz F4 g4 (show ¬ (0 = rb x r + 6) by unfold rb; omega) ((g3 _ (by omega)).trans C.fx.o1) hr (by omega)
    have A4 := A3.fz X3 F4 g4 (by omega) (fun q hq => by unfold S3 at hq; omega)
    have u4 := (F4.un (q := rb x r) (by omega) (by rw [X3.o0]; omega)).1
    refine hP ow4 (fu la r la3) (fun r' t => if r' = r then (if t = 0 then l0 else l1) else tx r' t) h4 ⟨C.fx.fz F g34 nb0, fun q hq => op_doo ((C.op q hq).fz F g34 nb0), fun r' hr' => ?_, fun w hw => (C.wy w hw).fz F g34 nb0 (fun z => wl_nb hr z rfl)⟩ (fun r' hr' => ?_) F g34 (by omega) (by omega)
    · by_cases h1 : r' = r
      · subst h1
        refine ⟨?_, ?_, fun i j hi hj => ?_, A4.1, A4.2.1, A4.2.2.1, L4, W3.fz F4 g4 (by omega), fun t ht => ?_⟩
        · rw [(u4 168).1, (u3 168).1, t2]
          show _ = nI (fu (sTi s) r' (max (sTi s r') (sTm s o)) r')
          rw [fu_at, if_pos rfl]
        · rw [(u4 169).1, (u3 169).1, u2]
          rfl
        · rw [(F4.un (by omega) (by rw [(X3.ck i hi).2.2.2.2.2]; omega)).2.1]
          exact k3 i j hi hj
        · rw [fu_at, if_pos rfl]
          simp only [if_true]
          rcases (show t = 0 ∨ t = 1 by omega) with rfl | rfl
          · exact A4.2.2.2.1
          · exact A4.2.2.2.2
      · have R' := (C.rp r' hr').fz (C.fx.r r' hr') F g34 (fun q hq => rb_ne (fun z => h1 z.symm) hq) (rb_sz C.fx hr')
        exact rp_st R' (by show fu (sTi s) r _ r' = _; rw [fu_at, if_neg h1]) rfl (fun i j => kno_oth h1) (fun c => cs_oth h1 c) (sp_oth h1) (fun c => wr_oth h1 c) (lg_oth h1) rfl (fun q => rmd_oth h1) (by rw [fu_at, if_neg h1]) (by funext t; rw [if_neg h1])
    · by_cases h1 : r' = r
      · subst h1
        simp only [if_true]
        refine ⟨T0, T1, ?_⟩
        rw [chs_doo D, if_neg (by decide : ¬ (1 : Nat) = 0), tl, (T r' hr).2.2]
      · simp only [if_neg h1]
        exact ⟨(T r' hr').1.oth h1, (T r' hr').2.1.oth h1, by rw [chs_oth h1]; exact (T r' hr').2.2⟩
  simp (disch := first | omega | assumption) only [Z_iconst, Z_bipush, Z_sipush, Z_ldc, Z_ldcM, Z_ldcw, Z_null, Z_getstatic, Z_iload0, Z_aload0, Z_aloadq0, Z_aloadn0, Z_istore0, Z_astore0, Z_astoreq0, Z_astoren0, Z_iinc0, Z_iload1, Z_aload1, Z_aloadq1, Z_aloadn1, Z_istore1, Z_astore1, Z_astoreq1, Z_astoren1, Z_iinc1, Z_iload2, Z_aload2, Z_aloadq2, Z_aloadn2, Z_istore2, Z_astore2, Z_astoreq2, Z_astoren2, Z_iinc2, Z_iload3, Z_aload3, Z_aloadq3, Z_aloadn3, Z_istore3, Z_astore3, Z_astoreq3, Z_astoren3, Z_iinc3, Z_iload4, Z_aload4, Z_aloadq4, Z_aloadn4, Z_istore4, Z_astore4, Z_astoreq4, Z_astoren4, Z_iinc4, Z_iload5, Z_aload5, Z_aloadq5, Z_aloadn5, Z_istore5, Z_astore5, Z_astoreq5, Z_astoren5, Z_iinc5, Z_iload6, Z_aload6, Z_aloadq6, Z_aloadn6, Z_istore6, Z_astore6, Z_astoreq6, Z_astoren6, Z_iinc6, Z_iload7, Z_aload7, Z_aloadq7, Z_aloadn7, Z_istore7, Z_astore7, Z_astoreq7, Z_astoren7, Z_iinc7, Z_iload8, Z_aload8, Z_aloadq8, Z_aloadn8, Z_istore8, Z_astore8, Z_astoreq8, Z_astoren8, Z_iinc8, Z_iload9, Z_aload9, Z_aloadq9, Z_aloadn9, Z_istore9, Z_astore9, Z_astoreq9, Z_astoren9, Z_iinc9, Z_iload10, Z_aload10, Z_aloadq10, Z_aloadn10, Z_istore10, Z_astore10, Z_astoreq10, Z_astoren10, Z_iinc10, Z_iload11, Z_aload11, Z_aloadq11, Z_aloadn11, Z_istore11, Z_astore11, Z_astoreq11, Z_astoren11, Z_iinc11, Z_iload12, Z_aload12, Z_aloadq12, Z_aloadn12, Z_istore12, Z_astore12, Z_astoreq12, Z_astoren12, Z_iinc12, Z_iadd, Z_isub, Z_imul, Z_iand, Z_ior, Z_ishl, Z_ishr, Z_iushr, Z_idiv, Z_irem, Z_dup, Z_dupx1, Z_dup2, Z_pop, Z_if_eq, Z_icmp_eq, Z_if_ne, Z_icmp_ne, Z_if_lt, Z_icmp_lt, Z_if_le, Z_icmp_le, Z_if_ge, Z_icmp_ge, Z_if_gt, Z_icmp_gt, Z_acmp_eqq1, Z_acmp_eqq2, Z_acmp_eqq3, Z_acmp_eqq4, Z_acmp_neq1, Z_acmp_neq2, Z_acmp_neq3, Z_acmp_neq4, Z_ifnull, Z_ifnullN, Z_ifnullq, Z_ifnonnull, Z_ifnonnullN, Z_ifnonnullq, Z_goto, Z_getI, Z_getZ, Z_getR, Z_putI, Z_putR, Z_putN, Z_putQ, Z_putZ, Z_new, Z_newarray, Z_anewarray, Z_alen, Z_cast, Z_objInit, Z_clone, Z_getClass, Z_copy, Z_max, Z_min, Y_iaload, Y_baload, Y_aaload, Y_iastore, Y_bastore, Y_aastore, Y_aastoreN, lt_0p, lt_1n, va_some, va_none, Option.toList_some, Option.toList_none, List.nil_append, List.cons_append, List.length_nil, List.length_cons, true_and, and_true, if_true, if_false, ite_true, ite_false, Nat.zero_le, Nat.not_lt_zero, Nat.reduceLeDiff, Nat.reduceEqDiff, Nat.reduceAdd, Nat.reduceMul, Nat.reduceSub, Nat.reduceLT, Nat.zero_add, not_true_eq_false, not_false_eq_true, true_or, or_true, false_or, or_false, Nat.add_zero, false_and, and_false, exists_eq_left', Option.some.injEq, k_X5_finish_0, sk_X5_finish_58, k_X5_finish_58, Q_X5_finish, C_X5_apply, C_X5_isDoneEverywhere, C_AL_add_9ea2d, X3.k, ed]
  cases hd : lgd (doo s r o) r o with
  | true =>
    simp (disch := first | omega | assumption) only [Z_iconst, Z_bipush, Z_sipush, Z_ldc, Z_ldcM, Z_ldcw, Z_null, Z_getstatic, Z_iload0, Z_aload0, Z_aloadq0, Z_aloadn0, Z_istore0, Z_astore0, Z_astoreq0, Z_astoren0, Z_iinc0, Z_iload1, Z_aload1, Z_aloadq1, Z_aloadn1, Z_istore1, Z_astore1, Z_astoreq1, Z_astoren1, Z_iinc1, Z_iload2, Z_aload2, Z_aloadq2, Z_aloadn2, Z_istore2, Z_astore2, Z_astoreq2, Z_astoren2, Z_iinc2, Z_iload3, Z_aload3, Z_aloadq3, Z_aloadn3, Z_istore3, Z_astore3, Z_astoreq3, Z_astoren3, Z_iinc3, Z_iload4, Z_aload4, Z_aloadq4, Z_aloadn4, Z_istore4, Z_astore4, Z_astoreq4, Z_astoren4, Z_iinc4, Z_iload5, Z_aload5, Z_aloadq5, Z_aloadn5, Z_istore5, Z_astore5, Z_astoreq5, Z_astoren5, Z_iinc5, Z_iload6, Z_aload6, Z_aloadq6, Z_aloadn6, Z_istore6, Z_astore6, Z_astoreq6, Z_astoren6, Z_iinc6, Z_iload7, Z_aload7, Z_aloadq7, Z_aloadn7, Z_istore7, Z_astore7, Z_astoreq7, Z_astoren7, Z_iinc7, Z_iload8, Z_aload8, Z_aloadq8, Z_aloadn8, Z_istore8, Z_astore8, Z_astoreq8, Z_astoren8, Z_iinc8, Z_iload9, Z_aload9, Z_aloadq9, Z_aloadn9, Z_istore9, Z_astore9, Z_astoreq9, Z_astoren9, Z_iinc9, Z_iload10, Z_aload10, Z_aloadq10, Z_aloadn10, Z_istore10, Z_astore10, Z_astoreq10, Z_astoren10, Z_iinc10, Z_iload11, Z_aload11, Z_aloadq11, Z_aloadn11, Z_istore11, Z_astore11, Z_astoreq11, Z_astoren11, Z_iinc11, Z_iload12, Z_aload12, Z_aloadq12, Z_aloadn12, Z_istore12, Z_astore12, Z_astoreq12, Z_astoren12, Z_iinc12, Z_iadd, Z_isub, Z_imul, Z_iand, Z_ior, Z_ishl, Z_ishr, Z_iushr, Z_idiv, Z_irem, Z_dup, Z_dupx1, Z_dup2, Z_pop, Z_if_eq, Z_icmp_eq, Z_if_ne, Z_icmp_ne, Z_if_lt, Z_icmp_lt, Z_if_le, Z_icmp_le, Z_if_ge, Z_icmp_ge, Z_if_gt, Z_icmp_gt, Z_acmp_eqq1, Z_acmp_eqq2, Z_acmp_eqq3, Z_acmp_eqq4, Z_acmp_neq1, Z_acmp_neq2, Z_acmp_neq3, Z_acmp_neq4, Z_ifnull, Z_ifnullN, Z_ifnullq, Z_ifnonnull, Z_ifnonnullN, Z_ifnonnullq, Z_goto, Z_getI, Z_getZ, Z_getR, Z_putI, Z_putR, Z_putN, Z_putQ, Z_putZ, Z_new, Z_newarray, Z_anewarray, Z_alen, Z_cast, Z_objInit, Z_clone, Z_getClass, Z_copy, Z_max, Z_min, Y_iaload, Y_baload, Y_aaload, Y_iastore, Y_bastore, Y_aastore, Y_aastoreN, lt_0p, lt_1n, va_some, va_none, Option.toList_some, Option.toList_none, List.nil_append, List.cons_append, List.length_nil, List.length_cons, true_and, and_true, if_true, if_false, ite_true, ite_false, Nat.zero_le, Nat.not_lt_zero, Nat.reduceLeDiff, Nat.reduceEqDiff, Nat.reduceAdd, Nat.reduceMul, Nat.reduceSub, Nat.reduceLT, Nat.zero_add, not_true_eq_false, not_false_eq_true, true_or, or_true, false_or, or_false, Nat.add_zero, false_and, and_false, exists_eq_left', Option.some.injEq, k_X5_finish_0, sk_X5_finish_58, k_X5_finish_58, Q_X5_finish, C_X5_apply, C_X5_isDoneEverywhere, C_AL_add_9ea2d, nI_add, pk_mul, ar_lt, ar_le, ar_eq, z_lt, z_le, z_gt, z_ge, z_eq, z_eq2, ix_nI, nI_clamp, ne_eq, Bool.not_true, nb_f, X3.k, X3.f6, L3.1]
    refine c_alAdd L3 ?_ (Or.inr O3.k) O3.s (fun ow4 h4 hA => ?_)
    · rw [List.length_map]
      exact Nat.le_trans (Nat.le_trans (List.length_filter_le _ _) (hB.2.2.1 r hr).2.1) (by decide)
    · obtain ⟨d1, d2, d3, d4, d5, d6⟩ := hA
      simp (disch := first | omega | assumption) only [Z_iconst, Z_bipush, Z_sipush, Z_ldc, Z_ldcM, Z_ldcw, Z_null, Z_getstatic, Z_iload0, Z_aload0, Z_aloadq0, Z_aloadn0, Z_istore0, Z_astore0, Z_astoreq0, Z_astoren0, Z_iinc0, Z_iload1, Z_aload1, Z_aloadq1, Z_aloadn1, Z_istore1, Z_astore1, Z_astoreq1, Z_astoren1, Z_iinc1, Z_iload2, Z_aload2, Z_aloadq2, Z_aloadn2, Z_istore2, Z_astore2, Z_astoreq2, Z_astoren2, Z_iinc2, Z_iload3, Z_aload3, Z_aloadq3, Z_aloadn3, Z_istore3, Z_astore3, Z_astoreq3, Z_astoren3, Z_iinc3, Z_iload4, Z_aload4, Z_aloadq4, Z_aloadn4, Z_istore4, Z_astore4, Z_astoreq4, Z_astoren4, Z_iinc4, Z_iload5, Z_aload5, Z_aloadq5, Z_aloadn5, Z_istore5, Z_astore5, Z_astoreq5, Z_astoren5, Z_iinc5, Z_iload6, Z_aload6, Z_aloadq6, Z_aloadn6, Z_istore6, Z_astore6, Z_astoreq6, Z_astoren6, Z_iinc6, Z_iload7, Z_aload7, Z_aloadq7, Z_aloadn7, Z_istore7, Z_astore7, Z_astoreq7, Z_astoren7, Z_iinc7, Z_iload8, Z_aload8, Z_aloadq8, Z_aloadn8, Z_istore8, Z_astore8, Z_astoreq8, Z_astoren8, Z_iinc8, Z_iload9, Z_aload9, Z_aloadq9, Z_aloadn9, Z_istore9, Z_astore9, Z_astoreq9, Z_astoren9, Z_iinc9, Z_iload10, Z_aload10, Z_aloadq10, Z_aloadn10, Z_istore10, Z_astore10, Z_astoreq10, Z_astoren10, Z_iinc10, Z_iload11, Z_aload11, Z_aloadq11, Z_aloadn11, Z_istore11, Z_astore11, Z_astoreq11, Z_astoren11, Z_iinc11, Z_iload12, Z_aload12, Z_aloadq12, Z_aloadn12, Z_istore12, Z_astore12, Z_astoreq12, Z_astoren12, Z_iinc12, Z_iadd, Z_isub, Z_imul, Z_iand, Z_ior, Z_ishl, Z_ishr, Z_iushr, Z_idiv, Z_irem, Z_dup, Z_dupx1, Z_dup2, Z_pop, Z_if_eq, Z_icmp_eq, Z_if_ne, Z_icmp_ne, Z_if_lt, Z_icmp_lt, Z_if_le, Z_icmp_le, Z_if_ge, Z_icmp_ge, Z_if_gt, Z_icmp_gt, Z_acmp_eqq1, Z_acmp_eqq2, Z_acmp_eqq3, Z_acmp_eqq4, Z_acmp_neq1, Z_acmp_neq2, Z_acmp_neq3, Z_acmp_neq4, Z_ifnull, Z_ifnullN, Z_ifnullq, Z_ifnonnull, Z_ifnonnullN, Z_ifnonnullq, Z_goto, Z_getI, Z_getZ, Z_getR, Z_putI, Z_putR, Z_putN, Z_putQ, Z_putZ, Z_new, Z_newarray, Z_anewarray, Z_alen, Z_cast, Z_objInit, Z_clone, Z_getClass, Z_copy, Z_max, Z_min, Y_iaload, Y_baload, Y_aaload, Y_iastore, Y_bastore, Y_aastore, Y_aastoreN, lt_0p, lt_1n, va_some, va_none, Option.toList_some, Option.toList_none, List.nil_append, List.cons_append, List.length_nil, List.length_cons, true_and, and_true, if_true, if_false, ite_true, ite_false, Nat.zero_le, Nat.not_lt_zero, Nat.reduceLeDiff, Nat.reduceEqDiff, Nat.reduceAdd, Nat.reduceMul, Nat.reduceSub, Nat.reduceLT, Nat.zero_add, not_true_eq_false, not_false_eq_true, true_or, or_true, false_or, or_false, Nat.add_zero, false_and, and_false, exists_eq_left', Option.some.injEq, k_X5_finish_0, sk_X5_finish_58, k_X5_finish_58, Q_X5_finish, C_X5_apply, C_X5_isDoneEverywhere, C_AL_add_9ea2d]
      refine fin ow4 h4 d1 d2 ?_ d4 d5
      rw [lg_doo D, if_pos hd, ← map_snoc]
      exact d3
  | false =>
    simp (disch := first | omega | assumption) only [Z_iconst, Z_bipush, Z_sipush, Z_ldc, Z_ldcM, Z_ldcw, Z_null, Z_getstatic, Z_iload0, Z_aload0, Z_aloadq0, Z_aloadn0, Z_istore0, Z_astore0, Z_astoreq0, Z_astoren0, Z_iinc0, Z_iload1, Z_aload1, Z_aloadq1, Z_aloadn1, Z_istore1, Z_astore1, Z_astoreq1, Z_astoren1, Z_iinc1, Z_iload2, Z_aload2, Z_aloadq2, Z_aloadn2, Z_istore2, Z_astore2, Z_astoreq2, Z_astoren2, Z_iinc2, Z_iload3, Z_aload3, Z_aloadq3, Z_aloadn3, Z_istore3, Z_astore3, Z_astoreq3, Z_astoren3, Z_iinc3, Z_iload4, Z_aload4, Z_aloadq4, Z_aloadn4, Z_istore4, Z_astore4, Z_astoreq4, Z_astoren4, Z_iinc4, Z_iload5, Z_aload5, Z_aloadq5, Z_aloadn5, Z_istore5, Z_astore5, Z_astoreq5, Z_astoren5, Z_iinc5, Z_iload6, Z_aload6, Z_aloadq6, Z_aloadn6, Z_istore6, Z_astore6, Z_astoreq6, Z_astoren6, Z_iinc6, Z_iload7, Z_aload7, Z_aloadq7, Z_aloadn7, Z_istore7, Z_astore7, Z_astoreq7, Z_astoren7, Z_iinc7, Z_iload8, Z_aload8, Z_aloadq8, Z_aloadn8, Z_istore8, Z_astore8, Z_astoreq8, Z_astoren8, Z_iinc8, Z_iload9, Z_aload9, Z_aloadq9, Z_aloadn9, Z_istore9, Z_astore9, Z_astoreq9, Z_astoren9, Z_iinc9, Z_iload10, Z_aload10, Z_aloadq10, Z_aloadn10, Z_istore10, Z_astore10, Z_astoreq10, Z_astoren10, Z_iinc10, Z_iload11, Z_aload11, Z_aloadq11, Z_aloadn11, Z_istore11, Z_astore11, Z_astoreq11, Z_astoren11, Z_iinc11, Z_iload12, Z_aload12, Z_aloadq12, Z_aloadn12, Z_istore12, Z_astore12, Z_astoreq12, Z_astoren12, Z_iinc12, Z_iadd, Z_isub, Z_imul, Z_iand, Z_ior, Z_ishl, Z_ishr, Z_iushr, Z_idiv, Z_irem, Z_dup, Z_dupx1, Z_dup2, Z_pop, Z_if_eq, Z_icmp_eq, Z_if_ne, Z_icmp_ne, Z_if_lt, Z_icmp_lt, Z_if_le, Z_icmp_le, Z_if_ge, Z_icmp_ge, Z_if_gt, Z_icmp_gt, Z_acmp_eqq1, Z_acmp_eqq2, Z_acmp_eqq3, Z_acmp_eqq4, Z_acmp_neq1, Z_acmp_neq2, Z_acmp_neq3, Z_acmp_neq4, Z_ifnull, Z_ifnullN, Z_ifnullq, Z_ifnonnull, Z_ifnonnullN, Z_ifnonnullq, Z_goto, Z_getI, Z_getZ, Z_getR, Z_putI, Z_putR, Z_putN, Z_putQ, Z_putZ, Z_new, Z_newarray, Z_anewarray, Z_alen, Z_cast, Z_objInit, Z_clone, Z_getClass, Z_copy, Z_max, Z_min, Y_iaload, Y_baload, Y_aaload, Y_iastore, Y_bastore, Y_aastore, Y_aastoreN, lt_0p, lt_1n, va_some, va_none, Option.toList_some, Option.toList_none, List.nil_append, List.cons_append, List.length_nil, List.length_cons, true_and, and_true, if_true, if_false, ite_true, ite_false, Nat.zero_le, Nat.not_lt_zero, Nat.reduceLeDiff, Nat.reduceEqDiff, Nat.reduceAdd, Nat.reduceMul, Nat.reduceSub, Nat.reduceLT, Nat.zero_add, not_true_eq_false, not_false_eq_true, true_or, or_true, false_or, or_false, Nat.add_zero, false_and, and_false, exists_eq_left', Option.some.injEq, k_X5_finish_0, sk_X5_finish_58, k_X5_finish_58, Q_X5_finish, C_X5_apply, C_X5_isDoneEverywhere, C_AL_add_9ea2d, nI_add, pk_mul, ar_lt, ar_le, ar_eq, z_lt, z_le, z_gt, z_ge, z_eq, z_eq2, ix_nI, nI_clamp, ne_eq, Bool.not_false, nb_t]
    refine fin ow3 h3 Og.rf Fz.rf ?_ (by omega) (by omega)
    rw [lg_doo D, if_neg (by rw [hd]; exact Bool.false_ne_true), List.append_nil]
    exact L3
