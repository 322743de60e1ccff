/-! the class: copies of clocks; an operation begins -/
def hoc (h : Hp) (a : Nat) : Hp := wfR (hcln (hnew h 2 0 1) a) 32 (sz h) (some (sz h + 1))
theorem hoc_sz (h : Hp) (a : Nat) : sz (hoc h a) = sz h + 2 := by unfold hoc; rw [sz_wfR, sz_hcln, sz_hnew]
theorem hoc_sl {h : Hp} {a : Nat} (ha : a < sz h) (hl : ln h a = 4) : sl (hoc h a) = sl h + 5 := by
  unfold hoc
  rw [sl_wfR, sl_hcln, sl_hnew, ln_hnew, if_neg (by omega), hl]
theorem hoc_fz {S : Nat → Prop} {ow : Nat → Nat} {h : Hp} {a : Nat} : Fz S ow h (hoc h a) := by
  unfold hoc
  exact Fz.rf.hnew.hcln.wfR (fun z => absurd z (Nat.lt_irrefl _))
theorem hoc_og {ow : Nat → Nat} {h : Hp} : Og (sz h) ow (fu ow (sz h + 1) 0) := fun q hq => by rw [fu_at, if_neg (by omega)]
theorem hoc_ck {ow : Nat → Nat} {h : Hp} {a : Nat} {f : Nat → Nat} (ha : a < sz h) (hl : ln h a = 4) (hf : ∀ j, j < 4 → aI h a j = nI (f j)) : CkR (fu ow (sz h + 1) 0) (hoc h a) (sz h) f := by
  refine ⟨by rw [hoc_sz]; omega, ?_, sz h + 1, ?_, by rw [hoc_sz]; omega, ?_, ?_, by rw [fu_at, if_pos rfl], fun j hj => ?_⟩
  · unfold hoc; rw [kd_wfR, kd_hcln, sz_hnew, if_neg (by omega), kd_hnew, if_pos rfl]
  · unfold hoc; rw [fR_wfR, if_pos ⟨rfl, rfl⟩]
  · unfold hoc; rw [kd_wfR, kd_hcln, sz_hnew, if_pos rfl]
  · unfold hoc; rw [ln_wfR, ln_hcln, sz_hnew, if_pos rfl, ln_hnew, if_neg (by omega), hl]
  · unfold hoc; rw [aI_wfR, aI_hcln, sz_hnew, if_pos rfl, aI_hnew, if_neg (by omega)]; exact hf j hj
theorem e_ownClock {x r : Nat} {ow : Nat → Nat} {h : Hp} {P : Option Value → Hp → Prop} (X : FixR x r ow h) (hr : r < 4) (hz : rb x r + 20 ≤ sz h) : Ev M_X5_ownClock [.ref (rb x r)] h P ↔ P (some (.ref (sz h))) (hoc h (rb x r + 9 + 2 * r)) := by
  obtain ⟨c1, c2, c3, c4, c5, c6⟩ := X.ck r hr
  have n0 : ¬ rb x r = sz h := by omega
  have n1 : ¬ rb x r + 1 = sz h := by omega
  have n2 : ¬ rb x r + 8 + 2 * r = sz h := by omega
  have n3 : ¬ rb x r + 9 + 2 * r = sz h := by omega
  have n4 : ¬ sz h = sz h + 1 := by omega
  simp (disch := first | omega | assumption) only [Z_iconst, Z_bipush, Z_sipush, Z_ldc, Z_ldcM, Z_ldcw, Z_null, Z_getstatic, Z_iload0, Z_aload0, Z_aloadq0, Z_aloadn0, Z_istore0, Z_astore0, Z_astoreq0, Z_astoren0, Z_iinc0, Z_iload1, Z_aload1, Z_aloadq1, Z_aloadn1, Z_istore1, Z_astore1, Z_astoreq1, Z_astoren1, Z_iinc1, Z_iload2, Z_aload2, Z_aloadq2, Z_aloadn2, Z_istore2, Z_astore2, Z_astoreq2, Z_astoren2, Z_iinc2, Z_iload3, Z_aload3, Z_aloadq3, Z_aloadn3, Z_istore3, Z_astore3, Z_astoreq3, Z_astoren3, Z_iinc3, Z_iload4, Z_aload4, Z_aloadq4, Z_aloadn4, Z_istore4, Z_astore4, Z_astoreq4, Z_astoren4, Z_iinc4, Z_iload5, Z_aload5, Z_aloadq5, Z_aloadn5, Z_istore5, Z_astore5, Z_astoreq5, Z_astoren5, Z_iinc5, Z_iload6, Z_aload6, Z_aloadq6, Z_aloadn6, Z_istore6, Z_astore6, Z_astoreq6, Z_astoren6, Z_iinc6, Z_iload7, Z_aload7, Z_aloadq7, Z_aloadn7, Z_istore7, Z_astore7, Z_astoreq7, Z_astoren7, Z_iinc7, Z_iload8, Z_aload8, Z_aloadq8, Z_aloadn8, Z_istore8, Z_astore8, Z_astoreq8, Z_astoren8, Z_iinc8, Z_iload9, Z_aload9, Z_aloadq9, Z_aloadn9, Z_istore9, Z_astore9, Z_astoreq9, Z_astoren9, Z_iinc9, Z_iload10, Z_aload10, Z_aloadq10, Z_aloadn10, Z_istore10, Z_astore10, Z_astoreq10, Z_astoren10, Z_iinc10, Z_iload11, Z_aload11, Z_aloadq11, Z_aloadn11, Z_istore11, Z_astore11, Z_astoreq11, Z_astoren11, Z_iinc11, Z_iload12, Z_aload12, Z_aloadq12, Z_aloadn12, Z_istore12, Z_astore12, Z_astoreq12, Z_astoren12, Z_iinc12, Z_iadd, Z_isub, Z_imul, Z_iand, Z_ior, Z_ishl, Z_ishr, Z_iushr, Z_idiv, Z_irem, Z_dup, Z_dupx1, Z_dup2, Z_pop, Z_if_eq, Z_icmp_eq, Z_if_ne, Z_icmp_ne, Z_if_lt, Z_icmp_lt, Z_if_le, Z_icmp_le, Z_if_ge, Z_icmp_ge, Z_if_gt, Z_icmp_gt, Z_acmp_eqq1, Z_acmp_eqq2, Z_acmp_eqq3, Z_acmp_eqq4, Z_acmp_neq1, Z_acmp_neq2, Z_acmp_neq3, Z_acmp_neq4, Z_ifnull, Z_ifnullN, Z_ifnullq, Z_ifnonnull, Z_ifnonnullN, Z_ifnonnullq, Z_goto, Z_getI, Z_getZ, Z_getR, Z_putI, Z_putR, Z_putN, Z_putQ, Z_putZ, Z_new, Z_newarray, Z_anewarray, Z_alen, Z_cast, Z_objInit, Z_clone, Z_getClass, Z_copy, Z_max, Z_min, Y_iaload, Y_baload, Y_aaload, Y_iastore, Y_bastore, Y_aastore, Y_aastoreN, lt_0p, lt_1n, va_some, va_none, Option.toList_some, Option.toList_none, List.nil_append, List.cons_append, List.length_nil, List.length_cons, true_and, and_true, if_true, if_false, ite_true, ite_false, Nat.zero_le, Nat.not_lt_zero, Nat.reduceLeDiff, Nat.reduceEqDiff, Nat.reduceAdd, Nat.reduceMul, Nat.reduceSub, Nat.reduceLT, Nat.zero_add, not_true_eq_false, not_false_eq_true, true_or, or_true, false_or, or_false, Nat.add_zero, false_and, and_false, exists_eq_left', Option.some.injEq, k_X5_ownClock_0, Q_X5_ownClock_r, Q_X5_ownClock_q, Q_X5_ownClock_n, C_X1_init, E_X5_ownClock, k_X1_init_0, Q_X1_init, E_X1_init, nI_add, pk_mul, ar_lt, ar_le, ar_eq, z_lt, z_le, z_gt, z_ge, z_eq, z_eq2, ix_nI, nI_clamp, ne_eq, kd_wfI', ln_wfI', fI_wfI', fR_wfI', aI_wfI', aR_wfI', gc_wfI', sz_wfI', sl_wfI', kd_wfR', ln_wfR', fI_wfR', fR_wfR', aI_wfR', aR_wfR', gc_wfR', sz_wfR', sl_wfR', kd_waI', ln_waI', fI_waI', fR_waI', aI_waI', aR_waI', gc_waI', sz_waI', sl_waI', kd_waR', ln_waR', fI_waR', fR_waR', aI_waR', aR_waR', gc_waR', sz_waR', sl_waR', kd_hnew', ln_hnew', fI_hnew', fR_hnew', aI_hnew', aR_hnew', gc_hnew', sz_hnew', sl_hnew', kd_hcln, sz_hcln, X.k, X.f1, X.k1, X.l1, X.sf, c1, c2, c3, c4, c5, n0, n1, n2, n3, n4, hr]
  exact Iff.rfl
/-- the change that an operation is made of -/
def ChR (h : Hp) (b k t : Nat) (v : Int32) (tg : Option Nat) : Prop := b < sz h ∧ kd h b = 1 ∧ fI h 0 b = nI k ∧ fI h 1 b = nI t ∧ fI h 2 b = v ∧ fR h 3 b = tg
theorem ChR.fz {S : Nat → Prop} {ow : Nat → Nat} {h h' : Hp} {b k t : Nat} {v : Int32} {tg : Option Nat} (H : ChR h b k t v tg) (F : Fz S ow h h') : ChR h' b k t v tg := by
  obtain ⟨h1, h2, h3, h4, h5, h6⟩ := H
  have := F.1
  exact ⟨by omega, (F.kp h1).1.trans h2, (F.im h1 (nmu (by decide))).1.trans h3, (F.im h1 (nmu (by decide))).1.trans h4, (F.im h1 (nmu (by decide))).1.trans h5, (F.im h1 (nmu (by decide))).2.trans h6⟩
def Ph (s : St) : Nat := s4 (fun r => (sDn s r).length)
theorem Ph_doo {s : St} {r o : Nat} (hr : r < 4) : Ph (doo s r o) = Ph s + 1 := by
  unfold Ph
  have : (fun r' => (sDn (doo s r o) r').length) = fu (fun r' => (sDn s r').length) r ((sDn s r).length + 1) := by
    funext r'
    rw [dn_doo, fu_at]
    split
    · rw [List.length_append]; rfl
    · rfl
  rw [this, s4_fu _ _ hr]
/-- a class's heap passes over to the next: what is kept of the rest -/
def Nx (x : Nat) (S : Nat → Prop) (ow ow' : Nat → Nat) (h h' : Hp) (s s' : St) (K M : Nat) : Prop := Fz S ow h h' ∧ Og (sz h) ow ow' ∧ sz h' + 2 * Ph s ≤ sz h + 2 * Ph s' + K ∧ sl h' + 800 * Ph s ≤ sl h + 800 * Ph s' + M
theorem Nx.tr {x : Nat} {S S1 S2 : Nat → Prop} {ow ow1 ow2 : Nat → Nat} {h h1 h2 : Hp} {s s1 s2 : St} {K M K1 M1 K2 M2 : Nat} (a : Nx x S1 ow ow1 h h1 s s1 K1 M1) (b : Nx x S2 ow1 ow2 h1 h2 s1 s2 K2 M2) (e1 : ∀ q, S1 q → S q) (e2 : ∀ q, S2 q → S q) (k1 : K1 + K2 ≤ K) (m1 : M1 + M2 ≤ M) : Nx x S ow ow2 h h2 s s2 K M := by
  obtain ⟨a1, a2, a3, a4⟩ := a
  obtain ⟨b1, b2, b3, b4⟩ := b
  exact ⟨(a1.mo e1).tr a2 (b1.mo e2), a2.tr b2 a1.1, by omega, by omega⟩
theorem Nx.mo {x : Nat} {S S1 : Nat → Prop} {ow ow1 : Nat → Nat} {h h1 : Hp} {s s1 : St} {K M K1 M1 : Nat} (a : Nx x S1 ow ow1 h h1 s s1 K1 M1) (e1 : ∀ q, S1 q → S q) (k1 : K1 ≤ K) (m1 : M1 ≤ M) : Nx x S ow ow1 h h1 s s1 K M := ⟨a.1.mo e1, a.2.1, by have := a.2.2.1; omega, by have := a.2.2.2; omega⟩
theorem hoc_raw {h : Hp} {a : Nat} (ha : a < sz h) (hl : ln h a = 4) : kd (hoc h a) (sz h) = 2 ∧ fR (hoc h a) 32 (sz h) = some (sz h + 1) ∧ kd (hoc h a) (sz h + 1) = 20 ∧ ln (hoc h a) (sz h + 1) = 4 ∧ ∀ j, aI (hoc h a) (sz h + 1) j = aI h a j := by
  refine ⟨?_, ?_, ?_, ?_, fun j => ?_⟩
  · unfold hoc; rw [kd_wfR, kd_hcln, sz_hnew, if_neg (by omega), kd_hnew, if_pos rfl]
  · unfold hoc; rw [fR_wfR, if_pos ⟨rfl, rfl⟩]
  · unfold hoc; rw [kd_wfR, kd_hcln, sz_hnew, if_pos rfl]
  · unfold hoc; rw [ln_wfR, ln_hcln, sz_hnew, if_pos rfl, ln_hnew, if_neg (by omega), hl]
  · unfold hoc; rw [aI_wfR, aI_hcln, sz_hnew, if_pos rfl, aI_hnew, if_neg (by omega)]
/-- a new operation object -/
def hop (h : Hp) (b c : Nat) (r m t : Int32) : Hp := wfR (wfI (wfI (wfI (wfR (hnew h 5 0 5) 128 (sz h) (some b)) 129 (sz h) r) 130 (sz h) m) 131 (sz h) t) 132 (sz h) (some c)
theorem hop_sz (h : Hp) (b c : Nat) (r m t : Int32) : sz (hop h b c r m t) = sz h + 1 := by unfold hop; rw [sz_wfR, sz_wfI, sz_wfI, sz_wfI, sz_wfR, sz_hnew]
theorem hop_sl (h : Hp) (b c : Nat) (r m t : Int32) : sl (hop h b c r m t) = sl h + 5 := by unfold hop; rw [sl_wfR, sl_wfI, sl_wfI, sl_wfI, sl_wfR, sl_hnew]
theorem hop_fz {S : Nat → Prop} {ow : Nat → Nat} {h : Hp} {b c : Nat} {r m t : Int32} : Fz S ow h (hop h b c r m t) := by
  unfold hop
  exact ((((Fz.rf.hnew.wfR (fun z => absurd z (Nat.lt_irrefl _))).wfI (fun z => absurd z (Nat.lt_irrefl _))).wfI (fun z => absurd z (Nat.lt_irrefl _))).wfI (fun z => absurd z (Nat.lt_irrefl _))).wfR (fun z => absurd z (Nat.lt_irrefl _))
theorem hop_raw (h : Hp) (b c : Nat) (r m t : Int32) : kd (hop h b c r m t) (sz h) = 5 ∧ fI (hop h b c r m t) 129 (sz h) = r ∧ fI (hop h b c r m t) 130 (sz h) = m ∧ fI (hop h b c r m t) 131 (sz h) = t ∧ fR (hop h b c r m t) 128 (sz h) = some b ∧ fR (hop h b c r m t) 132 (sz h) = some c := by
  unfold hop
  refine ⟨?_, ?_, ?_, ?_, ?_, ?_⟩
  · rw [kd_wfR, kd_wfI, kd_wfI, kd_wfI, kd_wfR, kd_hnew, if_pos rfl]
  · rw [fI_wfR, fI_wfI, if_neg (by omega), fI_wfI, if_neg (by omega), fI_wfI, if_pos ⟨rfl, rfl⟩]
  · rw [fI_wfR, fI_wfI, if_neg (by omega), fI_wfI, if_pos ⟨rfl, rfl⟩]
  · rw [fI_wfR, fI_wfI, if_pos ⟨rfl, rfl⟩]
  · rw [fR_wfR, if_neg (by omega), fR_wfI, fR_wfI, fR_wfI, fR_wfR, if_pos ⟨rfl, rfl⟩]
  · rw [fR_wfR, if_pos ⟨rfl, rfl⟩]
set_option maxHeartbeats 2000000 in
theorem c_begin {x r k t b : Nat} {v : Int32} {bo : Option Nat} {ow oa : Nat → Nat} {la : Nat → Nat → Nat} {tx : Nat → Nat → List Nat} {h : Hp} {s : St} {P : Option Value → Hp → Prop} (C : CR ow oa la tx h x s) (G : GI s) (T : TA s tx) (hr : r < 4) (hm : sMk s r < 60) (hk : k ≤ 5) (ht : t ≤ 1) (hb : nOk s r k t v bo) (hc : ChR h b k t v (bo.map oa)) (hP : ∀ ow' oa' la' tx' h', CR ow' oa' la' tx' h' x (nw1 s r k t v bo) → TA (nw1 s r k t v bo) tx' → (∀ q, q ≠ 60 * r + sMk s r → oa' q = oa q) → Nx x (Bk x r) ow ow' h h' s (nw1 s r k t v bo) 3 10 → P (some (.ref (oa' (60 * r + sMk s r)))) h') : Ev M_X5_begin [.ref (rb x r), .ref b] h P := by
  have X := C.fx.r r hr
  have R := C.rp r hr
  have hbz := rb_sz C.fx hr
  have hz := C.fx.s
  obtain ⟨c1, c2, c3, c4, c5, c6⟩ := X.ck r hr
  have hown := G.2.i1 r hr
  have hti := G.2.rd G.1 r hr
  have E := Eo_rec1 s r k t v bo
  have hno : ∀ r', r' < 4 → 60 * r + sMk s r ∉ sDn s r' := fun r' hr' z => nmad hm (mad_dn G.2 hr' z)
  have hnw : ∀ r', r' < 4 → 60 * r + sMk s r ∉ sWt s r' := fun r' hr' z => nmad hm (G.2.i6 r' hr' _ z).1
  have eo := fun P => e_ownClock (P := P) X hr hbz
  obtain ⟨w1, w2, w3, w4, w5⟩ := hoc_raw (h := h) (a := rb x r + 9 + 2 * r) (by omega) c5
  have ekn : ∀ j, j < 4 → aI h (rb x r + 9 + 2 * r) j = nI (sOw s r j) := fun j hj => by rw [R.kn r j hr hj]; unfold kno; rw [if_pos rfl]
  have f0 := hoc_fz (S := fun _ => False) (ow := ow) (h := h) (a := rb x r + 9 + 2 * r)
  have sz0 := hoc_sz h (rb x r + 9 + 2 * r)
  have sl0 := hoc_sl (h := h) (a := rb x r + 9 + 2 * r) (by omega) c5
  have X1 := X.fz f0 Og.rf id C.fx.o1 hr (by omega)
  have t1 := (f0.un (q := rb x r) (by omega) id).1
  have ti1 := (t1 168).1.trans R.ti
  have e1 : aI (hoc h (rb x r + 9 + 2 * r)) (sz h + 1) r = nI (sOw s r r) := (w5 r).trans (ekn r hr)
  simp (disch := first | omega | assumption) only [Z_iconst, Z_bipush, Z_sipush, Z_ldc, Z_ldcM, Z_ldcw, Z_null, Z_getstatic, Z_iload0, Z_aload0, Z_aloadq0, Z_aloadn0, Z_istore0, Z_astore0, Z_astoreq0, Z_astoren0, Z_iinc0, Z_iload1, Z_aload1, Z_aloadq1, Z_aloadn1, Z_istore1, Z_astore1, Z_astoreq1, Z_astoren1, Z_iinc1, Z_iload2, Z_aload2, Z_aloadq2, Z_aloadn2, Z_istore2, Z_astore2, Z_astoreq2, Z_astoren2, Z_iinc2, Z_iload3, Z_aload3, Z_aloadq3, Z_aloadn3, Z_istore3, Z_astore3, Z_astoreq3, Z_astoren3, Z_iinc3, Z_iload4, Z_aload4, Z_aloadq4, Z_aloadn4, Z_istore4, Z_astore4, Z_astoreq4, Z_astoren4, Z_iinc4, Z_iload5, Z_aload5, Z_aloadq5, Z_aloadn5, Z_istore5, Z_astore5, Z_astoreq5, Z_astoren5, Z_iinc5, Z_iload6, Z_aload6, Z_aloadq6, Z_aloadn6, Z_istore6, Z_astore6, Z_astoreq6, Z_astoren6, Z_iinc6, Z_iload7, Z_aload7, Z_aloadq7, Z_aloadn7, Z_istore7, Z_astore7, Z_astoreq7, Z_astoren7, Z_iinc7, Z_iload8, Z_aload8, Z_aloadq8, Z_aloadn8, Z_istore8, Z_astore8, Z_astoreq8, Z_astoren8, Z_iinc8, Z_iload9, Z_aload9, Z_aloadq9, Z_aloadn9, Z_istore9, Z_astore9, Z_astoreq9, Z_astoren9, Z_iinc9, Z_iload10, Z_aload10, Z_aloadq10, Z_aloadn10, Z_istore10, Z_astore10, Z_astoreq10, Z_astoren10, Z_iinc10, Z_iload11, Z_aload11, Z_aloadq11, Z_aloadn11, Z_istore11, Z_astore11, Z_astoreq11, Z_astoren11, Z_iinc11, Z_iload12, Z_aload12, Z_aloadq12, Z_aloadn12, Z_istore12, Z_astore12, Z_astoreq12, Z_astoren12, Z_iinc12, Z_iadd, Z_isub, Z_imul, Z_iand, Z_ior, Z_ishl, Z_ishr, Z_iushr, Z_idiv, Z_irem, Z_dup, Z_dupx1, Z_dup2, Z_pop, Z_if_eq, Z_icmp_eq, Z_if_ne, Z_icmp_ne, Z_if_lt, Z_icmp_lt, Z_if_le, Z_icmp_le, Z_if_ge, Z_icmp_ge, Z_if_gt, Z_icmp_gt, Z_acmp_eqq1, Z_acmp_eqq2, Z_acmp_eqq3, Z_acmp_eqq4, Z_acmp_neq1, Z_acmp_neq2, Z_acmp_neq3, Z_acmp_neq4, Z_ifnull, Z_ifnullN, Z_ifnullq, Z_ifnonnull, Z_ifnonnullN, Z_ifnonnullq, Z_goto, Z_getI, Z_getZ, Z_getR, Z_putI, Z_putR, Z_putN, Z_putQ, Z_putZ, Z_new, Z_newarray, Z_anewarray, Z_alen, Z_cast, Z_objInit, Z_clone, Z_getClass, Z_copy, Z_max, Z_min, Y_iaload, Y_baload, Y_aaload, Y_iastore, Y_bastore, Y_aastore, Y_aastoreN, lt_0p, lt_1n, va_some, va_none, Option.toList_some, Option.toList_none, List.nil_append, List.cons_append, List.length_nil, List.length_cons, true_and, and_true, if_true, if_false, ite_true, ite_false, Nat.zero_le, Nat.not_lt_zero, Nat.reduceLeDiff, Nat.reduceEqDiff, Nat.reduceAdd, Nat.reduceMul, Nat.reduceSub, Nat.reduceLT, Nat.zero_add, not_true_eq_false, not_false_eq_true, true_or, or_true, false_or, or_false, Nat.add_zero, false_and, and_false, exists_eq_left', Option.some.injEq, k_X5_begin_0, Q_X5_begin_r, Q_X5_begin_q, Q_X5_begin_n, C_X5_ownClock, C_X4_init, C_X5_finish, E_X5_begin, X.k, eo]
  generalize hoc h (rb x r + 9 + 2 * r) = h1 at *
  have f2 : Fz (fun _ => False) ow h (waI h1 (sz h + 1) r (nI (sOw s r r + 1))) := f0.waI (fun z => by omega)
  have a2 : ∀ j, j < 4 → aI (waI h1 (sz h + 1) r (nI (sOw s r r + 1))) (sz h + 1) j = nI (fu (sOw s r) r (sOw s r r + 1) j) := fun j hj => by
    rw [aI_waI, fu_at]
    by_cases hj2 : j = r
    · rw [if_pos ⟨rfl, hj2⟩, if_pos hj2]
    · rw [if_neg (fun z => hj2 z.2), if_neg hj2, w5 j]; exact ekn j hj
  have w1' : kd (waI h1 (sz h + 1) r (nI (sOw s r r + 1))) (sz h) = 2 := by rw [kd_waI]; exact w1
  have w2' : fR (waI h1 (sz h + 1) r (nI (sOw s r r + 1))) 32 (sz h) = some (sz h + 1) := by rw [fR_waI]; exact w2
  have w3' : kd (waI h1 (sz h + 1) r (nI (sOw s r r + 1))) (sz h + 1) = 20 := by rw [kd_waI]; exact w3
  have w4' : ln (waI h1 (sz h + 1) r (nI (sOw s r r + 1))) (sz h + 1) = 4 := by rw [ln_waI]; exact w4
  have sz2 : sz (waI h1 (sz h + 1) r (nI (sOw s r r + 1))) = sz h + 2 := by rw [sz_waI]; exact sz0
  have sl2 : sl (waI h1 (sz h + 1) r (nI (sOw s r r + 1))) = sl h + 5 := by rw [sl_waI]; exact sl0
  have X2 : FixR x r ow (waI h1 (sz h + 1) r (nI (sOw s r r + 1))) := X.fz f2 Og.rf id C.fx.o1 hr (by omega)
  have ti2 : fI (waI h1 (sz h + 1) r (nI (sOw s r r + 1))) 168 (rb x r) = nI (sTi s r) := by rw [fI_waI]; exact ti1
  simp (disch := first | omega | assumption) only [Z_iconst, Z_bipush, Z_sipush, Z_ldc, Z_ldcM, Z_ldcw, Z_null, Z_getstatic, Z_iload0, Z_aload0, Z_aloadq0, Z_aloadn0, Z_istore0, Z_astore0, Z_astoreq0, Z_astoren0, Z_iinc0, Z_iload1, Z_aload1, Z_aloadq1, Z_aloadn1, Z_istore1, Z_astore1, Z_astoreq1, Z_astoren1, Z_iinc1, Z_iload2, Z_aload2, Z_aloadq2, Z_aloadn2, Z_istore2, Z_astore2, Z_astoreq2, Z_astoren2, Z_iinc2, Z_iload3, Z_aload3, Z_aloadq3, Z_aloadn3, Z_istore3, Z_astore3, Z_astoreq3, Z_astoren3, Z_iinc3, Z_iload4, Z_aload4, Z_aloadq4, Z_aloadn4, Z_istore4, Z_astore4, Z_astoreq4, Z_astoren4, Z_iinc4, Z_iload5, Z_aload5, Z_aloadq5, Z_aloadn5, Z_istore5, Z_astore5, Z_astoreq5, Z_astoren5, Z_iinc5, Z_iload6, Z_aload6, Z_aloadq6, Z_aloadn6, Z_istore6, Z_astore6, Z_astoreq6, Z_astoren6, Z_iinc6, Z_iload7, Z_aload7, Z_aloadq7, Z_aloadn7, Z_istore7, Z_astore7, Z_astoreq7, Z_astoren7, Z_iinc7, Z_iload8, Z_aload8, Z_aloadq8, Z_aloadn8, Z_istore8, Z_astore8, Z_astoreq8, Z_astoren8, Z_iinc8, Z_iload9, Z_aload9, Z_aloadq9, Z_aloadn9, Z_istore9, Z_astore9, Z_astoreq9, Z_astoren9, Z_iinc9, Z_iload10, Z_aload10, Z_aloadq10, Z_aloadn10, Z_istore10, Z_astore10, Z_astoreq10, Z_astoren10, Z_iinc10, Z_iload11, Z_aload11, Z_aloadq11, Z_aloadn11, Z_istore11, Z_astore11, Z_astoreq11, Z_astoren11, Z_iinc11, Z_iload12, Z_aload12, Z_aloadq12, Z_aloadn12, Z_istore12, Z_astore12, Z_astoreq12, Z_astoren12, Z_iinc12, Z_iadd, Z_isub, Z_imul, Z_iand, Z_ior, Z_ishl, Z_ishr, Z_iushr, Z_idiv, Z_irem, Z_dup, Z_dupx1, Z_dup2, Z_pop, Z_if_eq, Z_icmp_eq, Z_if_ne, Z_icmp_ne, Z_if_lt, Z_icmp_lt, Z_if_le, Z_icmp_le, Z_if_ge, Z_icmp_ge, Z_if_gt, Z_icmp_gt, Z_acmp_eqq1, Z_acmp_eqq2, Z_acmp_eqq3, Z_acmp_eqq4, Z_acmp_neq1, Z_acmp_neq2, Z_acmp_neq3, Z_acmp_neq4, Z_ifnull, Z_ifnullN, Z_ifnullq, Z_ifnonnull, Z_ifnonnullN, Z_ifnonnullq, Z_goto, Z_getI, Z_getZ, Z_getR, Z_putI, Z_putR, Z_putN, Z_putQ, Z_putZ, Z_new, Z_newarray, Z_anewarray, Z_alen, Z_cast, Z_objInit, Z_clone, Z_getClass, Z_copy, Z_max, Z_min, Y_iaload, Y_baload, Y_aaload, Y_iastore, Y_bastore, Y_aastore, Y_aastoreN, lt_0p, lt_1n, va_some, va_none, Option.toList_some, Option.toList_none, List.nil_append, List.cons_append, List.length_nil, List.length_cons, true_and, and_true, if_true, if_false, ite_true, ite_false, Nat.zero_le, Nat.not_lt_zero, Nat.reduceLeDiff, Nat.reduceEqDiff, Nat.reduceAdd, Nat.reduceMul, Nat.reduceSub, Nat.reduceLT, Nat.zero_add, not_true_eq_false, not_false_eq_true, true_or, or_true, false_or, or_false, Nat.add_zero, false_and, and_false, exists_eq_left', Option.some.injEq, k_X5_begin_0, Q_X5_begin_r, Q_X5_begin_q, Q_X5_begin_n, C_X5_ownClock, C_X4_init, C_X5_finish, nI_add, pk_mul, ar_lt, ar_le, ar_eq, z_lt, z_le, z_gt, z_ge, z_eq, z_eq2, ix_nI, nI_clamp, ne_eq, w1, w2, w3, w4, X1.k, X1.sf, e1, hr]
  generalize waI h1 (sz h + 1) r (nI (sOw s r r + 1)) = h2 at *
  have e2 := a2 r hr
  rw [fu_at, if_pos rfl] at e2
  have n0 : ¬ rb x r = sz h2 := by omega
  have n1 : ¬ sz h = sz h2 := by omega
  have n2 : ¬ sz h + 1 = sz h2 := by omega
  simp (disch := first | omega | assumption) only [Z_iconst, Z_bipush, Z_sipush, Z_ldc, Z_ldcM, Z_ldcw, Z_null, Z_getstatic, Z_iload0, Z_aload0, Z_aloadq0, Z_aloadn0, Z_istore0, Z_astore0, Z_astoreq0, Z_astoren0, Z_iinc0, Z_iload1, Z_aload1, Z_aloadq1, Z_aloadn1, Z_istore1, Z_astore1, Z_astoreq1, Z_astoren1, Z_iinc1, Z_iload2, Z_aload2, Z_aloadq2, Z_aloadn2, Z_istore2, Z_astore2, Z_astoreq2, Z_astoren2, Z_iinc2, Z_iload3, Z_aload3, Z_aloadq3, Z_aloadn3, Z_istore3, Z_astore3, Z_astoreq3, Z_astoren3, Z_iinc3, Z_iload4, Z_aload4, Z_aloadq4, Z_aloadn4, Z_istore4, Z_astore4, Z_astoreq4, Z_astoren4, Z_iinc4, Z_iload5, Z_aload5, Z_aloadq5, Z_aloadn5, Z_istore5, Z_astore5, Z_astoreq5, Z_astoren5, Z_iinc5, Z_iload6, Z_aload6, Z_aloadq6, Z_aloadn6, Z_istore6, Z_astore6, Z_astoreq6, Z_astoren6, Z_iinc6, Z_iload7, Z_aload7, Z_aloadq7, Z_aloadn7, Z_istore7, Z_astore7, Z_astoreq7, Z_astoren7, Z_iinc7, Z_iload8, Z_aload8, Z_aloadq8, Z_aloadn8, Z_istore8, Z_astore8, Z_astoreq8, Z_astoren8, Z_iinc8, Z_iload9, Z_aload9, Z_aloadq9, Z_aloadn9, Z_istore9, Z_astore9, Z_astoreq9, Z_astoren9, Z_iinc9, Z_iload10, Z_aload10, Z_aloadq10, Z_aloadn10, Z_istore10, Z_astore10, Z_astoreq10, Z_astoren10, Z_iinc10, Z_iload11, Z_aload11, Z_aloadq11, Z_aloadn11, Z_istore11, Z_astore11, Z_astoreq11, Z_astoren11, Z_iinc11, Z_iload12, Z_aload12, Z_aloadq12, Z_aloadn12, Z_istore12, Z_astore12, Z_astoreq12, Z_astoren12, Z_iinc12, Z_iadd, Z_isub, Z_imul, Z_iand, Z_ior, Z_ishl, Z_ishr, Z_iushr, Z_idiv, Z_irem, Z_dup, Z_dupx1, Z_dup2, Z_pop, Z_if_eq, Z_icmp_eq, Z_if_ne, Z_icmp_ne, Z_if_lt, Z_icmp_lt, Z_if_le, Z_icmp_le, Z_if_ge, Z_icmp_ge, Z_if_gt, Z_icmp_gt, Z_acmp_eqq1, Z_acmp_eqq2, Z_acmp_eqq3, Z_acmp_eqq4, Z_acmp_neq1, Z_acmp_neq2, Z_acmp_neq3, Z_acmp_neq4, Z_ifnull, Z_ifnullN, Z_ifnullq, Z_ifnonnull, Z_ifnonnullN, Z_ifnonnullq, Z_goto, Z_getI, Z_getZ, Z_getR, Z_putI, Z_putR, Z_putN, Z_putQ, Z_putZ, Z_new, Z_newarray, Z_anewarray, Z_alen, Z_cast, Z_objInit, Z_clone, Z_getClass, Z_copy, Z_max, Z_min, Y_iaload, Y_baload, Y_aaload, Y_iastore, Y_bastore, Y_aastore, Y_aastoreN, lt_0p, lt_1n, va_some, va_none, Option.toList_some, Option.toList_none, List.nil_append, List.cons_append, List.length_nil, List.length_cons, true_and, and_true, if_true, if_false, ite_true, ite_false, Nat.zero_le, Nat.not_lt_zero, Nat.reduceLeDiff, Nat.reduceEqDiff, Nat.reduceAdd, Nat.reduceMul, Nat.reduceSub, Nat.reduceLT, Nat.zero_add, not_true_eq_false, not_false_eq_true, true_or, or_true, false_or, or_false, Nat.add_zero, false_and, and_false, exists_eq_left', Option.some.injEq, k_X5_begin_0, Q_X5_begin_r, Q_X5_begin_q, Q_X5_begin_n, C_X5_ownClock, C_X4_init, C_X5_finish, k_X4_init_0, Q_X4_init, E_X4_init, nI_add, pk_mul, ar_lt, ar_le, ar_eq, z_lt, z_le, z_gt, z_ge, z_eq, z_eq2, ix_nI, nI_clamp, ne_eq, kd_wfI', ln_wfI', fI_wfI', fR_wfI', aI_wfI', aR_wfI', gc_wfI', sz_wfI', sl_wfI', kd_wfR', ln_wfR', fI_wfR', fR_wfR', aI_wfR', aR_wfR', gc_wfR', sz_wfR', sl_wfR', kd_waI', ln_waI', fI_waI', fR_waI', aI_waI', aR_waI', gc_waI', sz_waI', sl_waI', kd_waR', ln_waR', fI_waR', fR_waR', aI_waR', aR_waR', gc_waR', sz_waR', sl_waR', kd_hnew', ln_hnew', fI_hnew', fR_hnew', aI_hnew', aR_hnew', gc_hnew', sz_hnew', sl_hnew', w1', w2', w3', w4', X2.k, X2.sf, e2, hr, n0, n1, n2, ti2]
  have hq := hop_raw h2 b (sz h) (nI r) (nI (sOw s r r + 1)) (nI (sTi s r + 1))
  have f3 : Fz (fun _ => False) ow h2 (hop h2 b (sz h) (nI r) (nI (sOw s r r + 1)) (nI (sTi s r + 1))) := hop_fz
  have sz3 := hop_sz h2 b (sz h) (nI r) (nI (sOw s r r + 1)) (nI (sTi s r + 1))
  have sl3 := hop_sl h2 b (sz h) (nI r) (nI (sOw s r r + 1)) (nI (sTi s r + 1))
  show Ev M_X5_finish _ (hop h2 b (sz h) (nI r) (nI (sOw s r r + 1)) (nI (sTi s r + 1))) _
  generalize hop h2 b (sz h) (nI r) (nI (sOw s r r + 1)) (nI (sTi s r + 1)) = h3 at *
  obtain ⟨q1, q2, q3, q4, q5, q6⟩ := hq
  have F3 : Fz (fun _ => False) ow h h3 := f2.tr' f3
  have og : Og (sz h) ow (fu ow (sz h + 1) 0) := hoc_og
  have od : (60 * r + sMk s r) / 60 = r := by omega
  have om : (60 * r + sMk s r) % 60 = sMk s r := by omega
  generalize ho : 60 * r + sMk s r = o at *
  have eoa : fu oa o (sz h2) o = sz h2 := by rw [fu_at, if_pos rfl]
  have eoq : ∀ q, q ≠ o → fu oa o (sz h2) q = oa q := fun q hq => by rw [fu_at, if_neg hq]
  have hC3 := hc.fz F3
  have hck : CkR (fu ow (sz h + 1) 0) h3 (sz h) (fu (sOw s r) r (sOw s r r + 1)) := by
    refine ⟨by omega, ((f3.kp (by omega)).1).trans w1', sz h + 1, ((f3.im (by omega) (nmu (by decide))).2).trans w2', by omega, ((f3.kp (by omega)).1).trans w3', ((f3.kp (by omega)).2).trans w4', by rw [fu_at, if_pos rfl], fun j hj => ?_⟩
    rw [(f3.un (by omega) id).2.1]
    exact a2 j hj
  have sck : sCk (rec1 s r k t v bo) o = fu (sOw s r) r (sOw s r r + 1) := by
    unfold rec1
    rw [sCk_wsCk, ho, fu_at, if_pos rfl]
  have C3 : CR (fu ow (sz h + 1) 0) (fu oa o (sz h2)) la tx h3 x (rec1 s r k t v bo) := by
    refine ⟨C.fx.fz F3 og id, fun q hq => ?_, fun r' hr' => ?_, fun w hw => ?_⟩
    · rcases mad_rec1 hm hq with z | ⟨z, zn⟩
      · rw [ho] at z
        subst z
        unfold OpR
        rw [eoa, sck, od, om]
        refine ⟨by omega, q1, q2, by rw [q3, hown], ?_, ⟨sz h, q6, hck⟩, b, q5, hC3.1, hC3.2.1, ?_, ?_, ?_, ?_⟩
        · rw [q4]
          show _ = nI (fu (sTm s) (60 * r + sMk s r) (sTi s r + 1) q)
          rw [ho, fu_at, if_pos rfl]
        · rw [hC3.2.2.1]
          show _ = nI (fu (sKn s) (60 * r + sMk s r) k q)
          rw [ho, fu_at, if_pos rfl]
        · rw [hC3.2.2.2.1]
          show _ = nI (fu (sTg s) (60 * r + sMk s r) t q)
          rw [ho, fu_at, if_pos rfl]
        · rw [hC3.2.2.2.2.1]
          show _ = fu (sVl s) (60 * r + sMk s r) v q
          rw [ho, fu_at, if_pos rfl]
        · rw [hC3.2.2.2.2.2]
          show _ = (fu (sBh s) (60 * r + sMk s r) bo q).map _
          rw [ho, fu_at, if_pos rfl]
          cases hbo : bo with
          | none => rfl
          | some p => exact congrArg some (eoq p (fun z => hno r hr (z ▸ (hb.1 p hbo).1))).symm
      · rw [ho] at zn
        obtain ⟨e1, e2, e3, e4, e5, e6⟩ := E.1 q zn
        exact ((C.op q z).fz F3 og id).cg (eoq q zn) e5 e6 e1 e2 e3 e4 (fun p hp => eoq p (fun w => by
          have := (G.2.i14 q p z hp).1
          rw [w, ← ho] at this
          exact nmad hm this))
    · have hd := hno r' hr'
      have R1 := (C.rp r' hr').fz (C.fx.r r' hr') F3 og (fun q _ => id) (rb_sz C.fx hr')
      have R2 := rp_oa (oa' := fu oa o (sz h2)) R1 (fun q hq => eoq q (fun w => by
        rw [w] at hq
        rcases hq with z | z
        · exact hd z
        · exact hnw r' hr' z)) (T r' hr').1 (T r' hr').2.1
      exact rp_st R2 (by rw [E.2.2.2.1]) (by rw [E.2.1]) (fun i j => E.xkno) (fun c => E.ed.xcs hd c) (E.ed.xsp hd) (fun c => E.ed.xwr hd c) E.xlg (by rw [E.2.2.2.2.2.1]) (fun q => E.ed.xrmd hd q) rfl rfl
    · rw [E.2.2.2.2.2.2.2]
      obtain ⟨ms, m1, m2, m3⟩ := (C.wy w hw).fz F3 og id id
      refine ⟨ms, m1, m2, fun i hi => (m3 i hi).cg (fun h0 => eoq _ (fun z => ?_))⟩
      have hm8 := (G.2.i8 w hw ((sWy s w).getD i (0, 0, fun _ => 0)) (by
        rw [List.getD_eq_getElem?_getD, List.getElem?_eq_getElem hi]
        exact List.getElem_mem hi) h0).1
      rw [z, ← ho] at hm8
      exact nmad hm hm8
  have D := Dk_rec1 G hr hm hk ht hb
  have hB1 := Bd_rec1 G hr hm hk ht hb
  have e4 := doo_rec1 (k := k) (t := t) (v := v) (b := bo) hm
  have T3 : TA (rec1 s r k t v bo) tx := E.ed.xTA hno T
  rw [ho] at D e4
  rw [← eoa]
  refine c_finish C3 D hB1 T3 (fun ow' la' tx' h' K1 K2 K3 K4 K5 K6 => ?_)
  rw [e4] at K1 K2
  simp (disch := first | omega | assumption) only [Z_iconst, Z_bipush, Z_sipush, Z_ldc, Z_ldcM, Z_ldcw, Z_null, Z_getstatic, Z_iload0, Z_aload0, Z_aloadq0, Z_aloadn0, Z_istore0, Z_astore0, Z_astoreq0, Z_astoren0, Z_iinc0, Z_iload1, Z_aload1, Z_aloadq1, Z_aloadn1, Z_istore1, Z_astore1, Z_astoreq1, Z_astoren1, Z_iinc1, Z_iload2, Z_aload2, Z_aloadq2, Z_aloadn2, Z_istore2, Z_astore2, Z_astoreq2, Z_astoren2, Z_iinc2, Z_iload3, Z_aload3, Z_aloadq3, Z_aloadn3, Z_istore3, Z_astore3, Z_astoreq3, Z_astoren3, Z_iinc3, Z_iload4, Z_aload4, Z_aloadq4, Z_aloadn4, Z_istore4, Z_astore4, Z_astoreq4, Z_astoren4, Z_iinc4, Z_iload5, Z_aload5, Z_aloadq5, Z_aloadn5, Z_istore5, Z_astore5, Z_astoreq5, Z_astoren5, Z_iinc5, Z_iload6, Z_aload6, Z_aloadq6, Z_aloadn6, Z_istore6, Z_astore6, Z_astoreq6, Z_astoren6, Z_iinc6, Z_iload7, Z_aload7, Z_aloadq7, Z_aloadn7, Z_istore7, Z_astore7, Z_astoreq7, Z_astoren7, Z_iinc7, Z_iload8, Z_aload8, Z_aloadq8, Z_aloadn8, Z_istore8, Z_astore8, Z_astoreq8, Z_astoren8, Z_iinc8, Z_iload9, Z_aload9, Z_aloadq9, Z_aloadn9, Z_istore9, Z_astore9, Z_astoreq9, Z_astoren9, Z_iinc9, Z_iload10, Z_aload10, Z_aloadq10, Z_aloadn10, Z_istore10, Z_astore10, Z_astoreq10, Z_astoren10, Z_iinc10, Z_iload11, Z_aload11, Z_aloadq11, Z_aloadn11, Z_istore11, Z_astore11, Z_astoreq11, Z_astoren11, Z_iinc11, Z_iload12, Z_aload12, Z_aloadq12, Z_aloadn12, Z_istore12, Z_astore12, Z_astoreq12, Z_astoren12, Z_iinc12, Z_iadd, Z_isub, Z_imul, Z_iand, Z_ior, Z_ishl, Z_ishr, Z_iushr, Z_idiv, Z_irem, Z_dup, Z_dupx1, Z_dup2, Z_pop, Z_if_eq, Z_icmp_eq, Z_if_ne, Z_icmp_ne, Z_if_lt, Z_icmp_lt, Z_if_le, Z_icmp_le, Z_if_ge, Z_icmp_ge, Z_if_gt, Z_icmp_gt, Z_acmp_eqq1, Z_acmp_eqq2, Z_acmp_eqq3, Z_acmp_eqq4, Z_acmp_neq1, Z_acmp_neq2, Z_acmp_neq3, Z_acmp_neq4, Z_ifnull, Z_ifnullN, Z_ifnullq, Z_ifnonnull, Z_ifnonnullN, Z_ifnonnullq, Z_goto, Z_getI, Z_getZ, Z_getR, Z_putI, Z_putR, Z_putN, Z_putQ, Z_putZ, Z_new, Z_newarray, Z_anewarray, Z_alen, Z_cast, Z_objInit, Z_clone, Z_getClass, Z_copy, Z_max, Z_min, Y_iaload, Y_baload, Y_aaload, Y_iastore, Y_bastore, Y_aastore, Y_aastoreN, lt_0p, lt_1n, va_some, va_none, Option.toList_some, Option.toList_none, List.nil_append, List.cons_append, List.length_nil, List.length_cons, true_and, and_true, if_true, if_false, ite_true, ite_false, Nat.zero_le, Nat.not_lt_zero, Nat.reduceLeDiff, Nat.reduceEqDiff, Nat.reduceAdd, Nat.reduceMul, Nat.reduceSub, Nat.reduceLT, Nat.zero_add, not_true_eq_false, not_false_eq_true, true_or, or_true, false_or, or_false, Nat.add_zero, false_and, and_false, exists_eq_left', Option.some.injEq, k_X5_begin_0, Q_X5_begin_r, Q_X5_begin_q, Q_X5_begin_n, C_X5_ownClock, C_X4_init, C_X5_finish]
  have hph : Ph (nw1 s r k t v bo) = Ph s + 1 := by
    rw [← e4, Ph_doo hr]
    unfold Ph
    rw [E.2.2.2.2.1]
  refine hP ow' _ la' tx' h' K1 K2 eoq ⟨(F3.mo (fun q hq => hq.elim)).tr og K3, og.tr K4 F3.1, by rw [hph]; omega, by rw [hph]; omega⟩
