/-! messages of the reference: one is moved, one is dropped -/
def mvh (g : Nat) (h : Hp) (a b : Nat) : Hp := waI (waI (waI (waI (waI (waI h (g + 18) b (aI h (g + 18) a)) (g + 19) b (aI h (g + 19) a)) (g + 20) (4 * b) (aI h (g + 20) (4 * a))) (g + 20) (4 * b + 1) (aI h (g + 20) (4 * a + 1))) (g + 20) (4 * b + 2) (aI h (g + 20) (4 * a + 2))) (g + 20) (4 * b + 3) (aI h (g + 20) (4 * a + 3))
set_option maxHeartbeats 4000000 in
theorem e_move {g a b : Nat} {h : Hp} {P : Option Value → Hp → Prop} (hM : ML g h) (ha : a < 480) (hb : b < 480) (hab : a ≠ b) : Ev M_X9_moveMessage [.ref g, .int (nI a), .int (nI b)] h P ↔ P none (mvh g h a b) := by
  have n1 : ¬ 4 * a + 1 = 4 * b := by omega
  have n2 : ¬ 4 * a + 2 = 4 * b := by omega
  have n3 : ¬ 4 * a + 3 = 4 * b := by omega
  have n4 : ¬ 4 * a + 2 = 4 * b + 1 := by omega
  have n5 : ¬ 4 * a + 3 = 4 * b + 1 := by omega
  have n6 : ¬ 4 * a + 3 = 4 * b + 2 := by omega
  simp (disch := first | omega | assumption) only [Z_iconst, Z_bipush, Z_sipush, Z_ldc, Z_ldcM, Z_ldcw, Z_null, Z_getstatic, Z_iload0, Z_aload0, Z_aloadq0, Z_aloadn0, Z_istore0, Z_astore0, Z_astoreq0, Z_astoren0, Z_iinc0, Z_iload1, Z_aload1, Z_aloadq1, Z_aloadn1, Z_istore1, Z_astore1, Z_astoreq1, Z_astoren1, Z_iinc1, Z_iload2, Z_aload2, Z_aloadq2, Z_aloadn2, Z_istore2, Z_astore2, Z_astoreq2, Z_astoren2, Z_iinc2, Z_iload3, Z_aload3, Z_aloadq3, Z_aloadn3, Z_istore3, Z_astore3, Z_astoreq3, Z_astoren3, Z_iinc3, Z_iload4, Z_aload4, Z_aloadq4, Z_aloadn4, Z_istore4, Z_astore4, Z_astoreq4, Z_astoren4, Z_iinc4, Z_iload5, Z_aload5, Z_aloadq5, Z_aloadn5, Z_istore5, Z_astore5, Z_astoreq5, Z_astoren5, Z_iinc5, Z_iload6, Z_aload6, Z_aloadq6, Z_aloadn6, Z_istore6, Z_astore6, Z_astoreq6, Z_astoren6, Z_iinc6, Z_iload7, Z_aload7, Z_aloadq7, Z_aloadn7, Z_istore7, Z_astore7, Z_astoreq7, Z_astoren7, Z_iinc7, Z_iload8, Z_aload8, Z_aloadq8, Z_aloadn8, Z_istore8, Z_astore8, Z_astoreq8, Z_astoren8, Z_iinc8, Z_iload9, Z_aload9, Z_aloadq9, Z_aloadn9, Z_istore9, Z_astore9, Z_astoreq9, Z_astoren9, Z_iinc9, Z_iload10, Z_aload10, Z_aloadq10, Z_aloadn10, Z_istore10, Z_astore10, Z_astoreq10, Z_astoren10, Z_iinc10, Z_iload11, Z_aload11, Z_aloadq11, Z_aloadn11, Z_istore11, Z_astore11, Z_astoreq11, Z_astoren11, Z_iinc11, Z_iload12, Z_aload12, Z_aloadq12, Z_aloadn12, Z_istore12, Z_astore12, Z_astoreq12, Z_astoren12, Z_iinc12, Z_iadd, Z_isub, Z_imul, Z_iand, Z_ior, Z_ishl, Z_ishr, Z_iushr, Z_idiv, Z_irem, Z_dup, Z_dupx1, Z_dup2, Z_pop, Z_if_eq, Z_icmp_eq, Z_if_ne, Z_icmp_ne, Z_if_lt, Z_icmp_lt, Z_if_le, Z_icmp_le, Z_if_ge, Z_icmp_ge, Z_if_gt, Z_icmp_gt, Z_acmp_eqq1, Z_acmp_eqq2, Z_acmp_eqq3, Z_acmp_eqq4, Z_acmp_neq1, Z_acmp_neq2, Z_acmp_neq3, Z_acmp_neq4, Z_ifnull, Z_ifnullN, Z_ifnullq, Z_ifnonnull, Z_ifnonnullN, Z_ifnonnullq, Z_goto, Z_getI, Z_getZ, Z_getR, Z_putI, Z_putR, Z_putN, Z_putQ, Z_putZ, Z_new, Z_newarray, Z_anewarray, Z_alen, Z_cast, Z_objInit, Z_clone, Z_getClass, Z_copy, Z_max, Z_min, Y_iaload, Y_baload, Y_aaload, Y_iastore, Y_bastore, Y_aastore, Y_aastoreN, lt_0p, lt_1n, va_some, va_none, Option.toList_some, Option.toList_none, List.nil_append, List.cons_append, List.length_nil, List.length_cons, true_and, and_true, if_true, if_false, ite_true, ite_false, Nat.zero_le, Nat.not_lt_zero, Nat.reduceLeDiff, Nat.reduceEqDiff, Nat.reduceAdd, Nat.reduceMul, Nat.reduceSub, Nat.reduceLT, Nat.zero_add, not_true_eq_false, not_false_eq_true, true_or, or_true, false_or, or_false, Nat.add_zero, false_and, and_false, exists_eq_left', Option.some.injEq, k_X9_moveMessage_0, sk_X9_moveMessage_26, sk_X9_moveMessage_57, k_X9_moveMessage_57, Q_X9_moveMessage, E_X9_moveMessage, nI_add, pk_mul, ar_lt, ar_le, ar_eq, z_lt, z_le, z_gt, z_ge, z_eq, z_eq2, ix_nI, nI_clamp, ne_eq, hM.k0, hM.f1, hM.k1, hM.l1, hM.f2, hM.k2, hM.l2, hM.f3, hM.k3, hM.l3, hM.f4, hM.k4, hM.l4, hM.f5, hM.k5, hM.l5, hM.f6, hM.k6, hM.l6, hM.f7, hM.k7, hM.l7, hM.f8, hM.k8, hM.l8, hM.f9, hM.k9, hM.l9, hM.f10, hM.k10, hM.l10, hM.f11, hM.k11, hM.l11, hM.f12, hM.k12, hM.l12, hM.f13, hM.k13, hM.l13, hM.f14, hM.k14, hM.l14, hM.f15, hM.k15, hM.l15, hM.f16, hM.k16, hM.l16, hM.f17, hM.k17, hM.l17, hM.f18, hM.k18, hM.l18, hM.f19, hM.k19, hM.l19, hM.f20, hM.k20, hM.l20, hM.f21, hM.k21, hM.l21, hM.f22, hM.k22, hM.l22, hM.f23, hM.k23, hM.l23, kd_wfI, ln_wfI, fI_wfI, fR_wfI, aI_wfI, aR_wfI, gc_wfI, sz_wfI, sl_wfI, kd_wfR, ln_wfR, fI_wfR, fR_wfR, aI_wfR, aR_wfR, gc_wfR, sz_wfR, sl_wfR, kd_waI, ln_waI, fI_waI, fR_waI, aI_waI, aR_waI, gc_waI, sz_waI, sl_waI, kd_waR, ln_waR, fI_waR, fR_waR, aI_waR, aR_waR, gc_waR, sz_waR, sl_waR, kd_hnew, ln_hnew, fI_hnew, fR_hnew, aI_hnew, aR_hnew, gc_hnew, sz_hnew, sl_hnew, ac_eq]
  iterate 5 (rw [k_X9_moveMessage_26]; simp (disch := first | omega | assumption) only [Z_iconst, Z_bipush, Z_sipush, Z_ldc, Z_ldcM, Z_ldcw, Z_null, Z_getstatic, Z_iload0, Z_aload0, Z_aloadq0, Z_aloadn0, Z_istore0, Z_astore0, Z_astoreq0, Z_astoren0, Z_iinc0, Z_iload1, Z_aload1, Z_aloadq1, Z_aloadn1, Z_istore1, Z_astore1, Z_astoreq1, Z_astoren1, Z_iinc1, Z_iload2, Z_aload2, Z_aloadq2, Z_aloadn2, Z_istore2, Z_astore2, Z_astoreq2, Z_astoren2, Z_iinc2, Z_iload3, Z_aload3, Z_aloadq3, Z_aloadn3, Z_istore3, Z_astore3, Z_astoreq3, Z_astoren3, Z_iinc3, Z_iload4, Z_aload4, Z_aloadq4, Z_aloadn4, Z_istore4, Z_astore4, Z_astoreq4, Z_astoren4, Z_iinc4, Z_iload5, Z_aload5, Z_aloadq5, Z_aloadn5, Z_istore5, Z_astore5, Z_astoreq5, Z_astoren5, Z_iinc5, Z_iload6, Z_aload6, Z_aloadq6, Z_aloadn6, Z_istore6, Z_astore6, Z_astoreq6, Z_astoren6, Z_iinc6, Z_iload7, Z_aload7, Z_aloadq7, Z_aloadn7, Z_istore7, Z_astore7, Z_astoreq7, Z_astoren7, Z_iinc7, Z_iload8, Z_aload8, Z_aloadq8, Z_aloadn8, Z_istore8, Z_astore8, Z_astoreq8, Z_astoren8, Z_iinc8, Z_iload9, Z_aload9, Z_aloadq9, Z_aloadn9, Z_istore9, Z_astore9, Z_astoreq9, Z_astoren9, Z_iinc9, Z_iload10, Z_aload10, Z_aloadq10, Z_aloadn10, Z_istore10, Z_astore10, Z_astoreq10, Z_astoren10, Z_iinc10, Z_iload11, Z_aload11, Z_aloadq11, Z_aloadn11, Z_istore11, Z_astore11, Z_astoreq11, Z_astoren11, Z_iinc11, Z_iload12, Z_aload12, Z_aloadq12, Z_aloadn12, Z_istore12, Z_astore12, Z_astoreq12, Z_astoren12, Z_iinc12, Z_iadd, Z_isub, Z_imul, Z_iand, Z_ior, Z_ishl, Z_ishr, Z_iushr, Z_idiv, Z_irem, Z_dup, Z_dupx1, Z_dup2, Z_pop, Z_if_eq, Z_icmp_eq, Z_if_ne, Z_icmp_ne, Z_if_lt, Z_icmp_lt, Z_if_le, Z_icmp_le, Z_if_ge, Z_icmp_ge, Z_if_gt, Z_icmp_gt, Z_acmp_eqq1, Z_acmp_eqq2, Z_acmp_eqq3, Z_acmp_eqq4, Z_acmp_neq1, Z_acmp_neq2, Z_acmp_neq3, Z_acmp_neq4, Z_ifnull, Z_ifnullN, Z_ifnullq, Z_ifnonnull, Z_ifnonnullN, Z_ifnonnullq, Z_goto, Z_getI, Z_getZ, Z_getR, Z_putI, Z_putR, Z_putN, Z_putQ, Z_putZ, Z_new, Z_newarray, Z_anewarray, Z_alen, Z_cast, Z_objInit, Z_clone, Z_getClass, Z_copy, Z_max, Z_min, Y_iaload, Y_baload, Y_aaload, Y_iastore, Y_bastore, Y_aastore, Y_aastoreN, lt_0p, lt_1n, va_some, va_none, Option.toList_some, Option.toList_none, List.nil_append, List.cons_append, List.length_nil, List.length_cons, true_and, and_true, if_true, if_false, ite_true, ite_false, Nat.zero_le, Nat.not_lt_zero, Nat.reduceLeDiff, Nat.reduceEqDiff, Nat.reduceAdd, Nat.reduceMul, Nat.reduceSub, Nat.reduceLT, Nat.zero_add, not_true_eq_false, not_false_eq_true, true_or, or_true, false_or, or_false, Nat.add_zero, false_and, and_false, exists_eq_left', Option.some.injEq, k_X9_moveMessage_0, sk_X9_moveMessage_26, sk_X9_moveMessage_57, k_X9_moveMessage_57, Q_X9_moveMessage, nI_add, pk_mul, ar_lt, ar_le, ar_eq, z_lt, z_le, z_gt, z_ge, z_eq, z_eq2, ix_nI, nI_clamp, ne_eq, hM.k0, hM.f1, hM.k1, hM.l1, hM.f2, hM.k2, hM.l2, hM.f3, hM.k3, hM.l3, hM.f4, hM.k4, hM.l4, hM.f5, hM.k5, hM.l5, hM.f6, hM.k6, hM.l6, hM.f7, hM.k7, hM.l7, hM.f8, hM.k8, hM.l8, hM.f9, hM.k9, hM.l9, hM.f10, hM.k10, hM.l10, hM.f11, hM.k11, hM.l11, hM.f12, hM.k12, hM.l12, hM.f13, hM.k13, hM.l13, hM.f14, hM.k14, hM.l14, hM.f15, hM.k15, hM.l15, hM.f16, hM.k16, hM.l16, hM.f17, hM.k17, hM.l17, hM.f18, hM.k18, hM.l18, hM.f19, hM.k19, hM.l19, hM.f20, hM.k20, hM.l20, hM.f21, hM.k21, hM.l21, hM.f22, hM.k22, hM.l22, hM.f23, hM.k23, hM.l23, kd_wfI, ln_wfI, fI_wfI, fR_wfI, aI_wfI, aR_wfI, gc_wfI, sz_wfI, sl_wfI, kd_wfR, ln_wfR, fI_wfR, fR_wfR, aI_wfR, aR_wfR, gc_wfR, sz_wfR, sl_wfR, kd_waI, ln_waI, fI_waI, fR_waI, aI_waI, aR_waI, gc_waI, sz_waI, sl_waI, kd_waR, ln_waR, fI_waR, fR_waR, aI_waR, aR_waR, gc_waR, sz_waR, sl_waR, kd_hnew, ln_hnew, fI_hnew, fR_hnew, aI_hnew, aR_hnew, gc_hnew, sz_hnew, sl_hnew, ac_eq, n1, n2, n3, n4, n5, n6])
  exact Iff.rfl
/-- of way w the messages behind place k stand one place lower, up to place i -/
def Sh (g : Nat) (h0 h : Hp) (w k i : Nat) : Prop := Fr g h0 h ∧ (∀ x, aI h (g + 18) x = if 30 * w + k ≤ x ∧ x < 30 * w + i then aI h0 (g + 18) (x + 1) else aI h0 (g + 18) x) ∧ (∀ x, aI h (g + 19) x = if 30 * w + k ≤ x ∧ x < 30 * w + i then aI h0 (g + 19) (x + 1) else aI h0 (g + 19) x) ∧ (∀ x, aI h (g + 20) x = if 4 * (30 * w + k) ≤ x ∧ x < 4 * (30 * w + i) then aI h0 (g + 20) (x + 4) else aI h0 (g + 20) x) ∧ (∀ q, q ≠ g + 18 → q ≠ g + 19 → q ≠ g + 20 → aI h q = aI h0 q)
theorem Sh.step {g w k i : Nat} {h0 h : Hp} (H : Sh g h0 h w k i) (hki : k ≤ i) : Sh g h0 (mvh g h (30 * w + i + 1) (30 * w + i)) w k (i + 1) := by
  obtain ⟨f, s1, s2, s3, s4⟩ := H
  refine ⟨?_, ?_, ?_, ?_, ?_⟩
  · unfold mvh
    exact (((((f.wa (k := 18) (by decide) (by decide)).wa (k := 19) (by decide) (by decide)).wa (k := 20) (by decide) (by decide)).wa (k := 20) (by decide) (by decide)).wa (k := 20) (by decide) (by decide)).wa (k := 20) (by decide) (by decide)
  · intro x
    simp only [mvh, aI_waI, ac_eq, Nat.reduceEqDiff, false_and, if_false, true_and]
    by_cases hx : x = 30 * w + i
    · rw [if_pos hx, if_pos (by omega), s1, if_neg (by omega), hx]
    · rw [if_neg hx, s1]
      by_cases hc : 30 * w + k ≤ x ∧ x < 30 * w + i
      · rw [if_pos hc, if_pos (by omega)]
      · rw [if_neg hc, if_neg (by omega)]
  · intro x
    simp only [mvh, aI_waI, ac_eq, Nat.reduceEqDiff, false_and, if_false, true_and]
    by_cases hx : x = 30 * w + i
    · rw [if_pos hx, if_pos (by omega), s2, if_neg (by omega), hx]
    · rw [if_neg hx, s2]
      by_cases hc : 30 * w + k ≤ x ∧ x < 30 * w + i
      · rw [if_pos hc, if_pos (by omega)]
      · rw [if_neg hc, if_neg (by omega)]
  · intro x
    simp only [mvh, aI_waI, ac_eq, Nat.reduceEqDiff, false_and, if_false, true_and]
    by_cases x3 : x = 4 * (30 * w + i) + 3
    · rw [if_pos x3, if_pos (by omega), s3, if_neg (by omega)]
      congr 1
      omega
    · rw [if_neg x3]
      by_cases x2 : x = 4 * (30 * w + i) + 2
      · rw [if_pos x2, if_pos (by omega), s3, if_neg (by omega)]
        congr 1
        omega
      · rw [if_neg x2]
        by_cases x1 : x = 4 * (30 * w + i) + 1
        · rw [if_pos x1, if_pos (by omega), s3, if_neg (by omega)]
          congr 1
          omega
        · rw [if_neg x1]
          by_cases x0 : x = 4 * (30 * w + i)
          · rw [if_pos x0, if_pos (by omega), s3, if_neg (by omega)]
            congr 1
            omega
          · rw [if_neg x0, s3]
            by_cases hc : 4 * (30 * w + k) ≤ x ∧ x < 4 * (30 * w + i)
            · rw [if_pos hc, if_pos (by omega)]
            · rw [if_neg hc, if_neg (by omega)]
  · intro q h1 h2 h3
    rw [← s4 q h1 h2 h3]
    funext x
    simp only [mvh, aI_waI, h1, h2, h3, false_and, if_false]
theorem l_drop {g w n k : Nat} {h0 : Hp} {k2 : Option Value} {P : Option Value → Hp → Prop} (hM0 : ML g h0) (hw : w < 16) (hn : n < 30) (e17 : aI h0 (g + 17) w = nI n) (hP : ∀ h', Sh g h0 h' w k n → P none h') : ∀ (d i : Nat) (h : Hp), i + d = n → k ≤ i → Sh g h0 h w k i → Z M_X9_drop k_X9_drop_12 [some (.ref g), some (.int (nI w)), k2, some (.int (nI i))] [] h P := by
  intro d
  induction d with
  | zero =>
    intro i h hi hki H
    obtain rfl : i = n := by omega
    have hM := H.1.ml hM0
    have e : aI h (g + 17) w = nI i := by rw [H.2.2.2.2 (g + 17) (by omega) (by omega) (by omega)]; exact e17
    rw [k_X9_drop_12]
    simp (disch := first | omega | assumption) only [Z_iconst, Z_bipush, Z_sipush, Z_ldc, Z_ldcM, Z_ldcw, Z_null, Z_getstatic, Z_iload0, Z_aload0, Z_aloadq0, Z_aloadn0, Z_istore0, Z_astore0, Z_astoreq0, Z_astoren0, Z_iinc0, Z_iload1, Z_aload1, Z_aloadq1, Z_aloadn1, Z_istore1, Z_astore1, Z_astoreq1, Z_astoren1, Z_iinc1, Z_iload2, Z_aload2, Z_aloadq2, Z_aloadn2, Z_istore2, Z_astore2, Z_astoreq2, Z_astoren2, Z_iinc2, Z_iload3, Z_aload3, Z_aloadq3, Z_aloadn3, Z_istore3, Z_astore3, Z_astoreq3, Z_astoren3, Z_iinc3, Z_iload4, Z_aload4, Z_aloadq4, Z_aloadn4, Z_istore4, Z_astore4, Z_astoreq4, Z_astoren4, Z_iinc4, Z_iload5, Z_aload5, Z_aloadq5, Z_aloadn5, Z_istore5, Z_astore5, Z_astoreq5, Z_astoren5, Z_iinc5, Z_iload6, Z_aload6, Z_aloadq6, Z_aloadn6, Z_istore6, Z_astore6, Z_astoreq6, Z_astoren6, Z_iinc6, Z_iload7, Z_aload7, Z_aloadq7, Z_aloadn7, Z_istore7, Z_astore7, Z_astoreq7, Z_astoren7, Z_iinc7, Z_iload8, Z_aload8, Z_aloadq8, Z_aloadn8, Z_istore8, Z_astore8, Z_astoreq8, Z_astoren8, Z_iinc8, Z_iload9, Z_aload9, Z_aloadq9, Z_aloadn9, Z_istore9, Z_astore9, Z_astoreq9, Z_astoren9, Z_iinc9, Z_iload10, Z_aload10, Z_aloadq10, Z_aloadn10, Z_istore10, Z_astore10, Z_astoreq10, Z_astoren10, Z_iinc10, Z_iload11, Z_aload11, Z_aloadq11, Z_aloadn11, Z_istore11, Z_astore11, Z_astoreq11, Z_astoren11, Z_iinc11, Z_iload12, Z_aload12, Z_aloadq12, Z_aloadn12, Z_istore12, Z_astore12, Z_astoreq12, Z_astoren12, Z_iinc12, Z_iadd, Z_isub, Z_imul, Z_iand, Z_ior, Z_ishl, Z_ishr, Z_iushr, Z_idiv, Z_irem, Z_dup, Z_dupx1, Z_dup2, Z_pop, Z_if_eq, Z_icmp_eq, Z_if_ne, Z_icmp_ne, Z_if_lt, Z_icmp_lt, Z_if_le, Z_icmp_le, Z_if_ge, Z_icmp_ge, Z_if_gt, Z_icmp_gt, Z_acmp_eqq1, Z_acmp_eqq2, Z_acmp_eqq3, Z_acmp_eqq4, Z_acmp_neq1, Z_acmp_neq2, Z_acmp_neq3, Z_acmp_neq4, Z_ifnull, Z_ifnullN, Z_ifnullq, Z_ifnonnull, Z_ifnonnullN, Z_ifnonnullq, Z_goto, Z_getI, Z_getZ, Z_getR, Z_putI, Z_putR, Z_putN, Z_putQ, Z_putZ, Z_new, Z_newarray, Z_anewarray, Z_alen, Z_cast, Z_objInit, Z_clone, Z_getClass, Z_copy, Z_max, Z_min, Y_iaload, Y_baload, Y_aaload, Y_iastore, Y_bastore, Y_aastore, Y_aastoreN, lt_0p, lt_1n, va_some, va_none, Option.toList_some, Option.toList_none, List.nil_append, List.cons_append, List.length_nil, List.length_cons, true_and, and_true, if_true, if_false, ite_true, ite_false, Nat.zero_le, Nat.not_lt_zero, Nat.reduceLeDiff, Nat.reduceEqDiff, Nat.reduceAdd, Nat.reduceMul, Nat.reduceSub, Nat.reduceLT, Nat.zero_add, not_true_eq_false, not_false_eq_true, true_or, or_true, false_or, or_false, Nat.add_zero, false_and, and_false, exists_eq_left', Option.some.injEq, k_X9_drop_0, sk_X9_drop_12, sk_X9_drop_46, k_X9_drop_46, Q_X9_drop, C_X9_moveMessage, nI_add, pk_mul, ar_lt, ar_le, ar_eq, z_lt, z_le, z_gt, z_ge, z_eq, z_eq2, ix_nI, nI_clamp, ne_eq, hM.k0, hM.f1, hM.k1, hM.l1, hM.f2, hM.k2, hM.l2, hM.f3, hM.k3, hM.l3, hM.f4, hM.k4, hM.l4, hM.f5, hM.k5, hM.l5, hM.f6, hM.k6, hM.l6, hM.f7, hM.k7, hM.l7, hM.f8, hM.k8, hM.l8, hM.f9, hM.k9, hM.l9, hM.f10, hM.k10, hM.l10, hM.f11, hM.k11, hM.l11, hM.f12, hM.k12, hM.l12, hM.f13, hM.k13, hM.l13, hM.f14, hM.k14, hM.l14, hM.f15, hM.k15, hM.l15, hM.f16, hM.k16, hM.l16, hM.f17, hM.k17, hM.l17, hM.f18, hM.k18, hM.l18, hM.f19, hM.k19, hM.l19, hM.f20, hM.k20, hM.l20, hM.f21, hM.k21, hM.l21, hM.f22, hM.k22, hM.l22, hM.f23, hM.k23, hM.l23, e, Nat.le_refl]
    exact hP h H
  | succ d ih =>
    intro i h hi hki H
    have hM := H.1.ml hM0
    have e : aI h (g + 17) w = nI n := by rw [H.2.2.2.2 (g + 17) (by omega) (by omega) (by omega)]; exact e17
    rw [k_X9_drop_12]
    simp (disch := first | omega | assumption) only [Z_iconst, Z_bipush, Z_sipush, Z_ldc, Z_ldcM, Z_ldcw, Z_null, Z_getstatic, Z_iload0, Z_aload0, Z_aloadq0, Z_aloadn0, Z_istore0, Z_astore0, Z_astoreq0, Z_astoren0, Z_iinc0, Z_iload1, Z_aload1, Z_aloadq1, Z_aloadn1, Z_istore1, Z_astore1, Z_astoreq1, Z_astoren1, Z_iinc1, Z_iload2, Z_aload2, Z_aloadq2, Z_aloadn2, Z_istore2, Z_astore2, Z_astoreq2, Z_astoren2, Z_iinc2, Z_iload3, Z_aload3, Z_aloadq3, Z_aloadn3, Z_istore3, Z_astore3, Z_astoreq3, Z_astoren3, Z_iinc3, Z_iload4, Z_aload4, Z_aloadq4, Z_aloadn4, Z_istore4, Z_astore4, Z_astoreq4, Z_astoren4, Z_iinc4, Z_iload5, Z_aload5, Z_aloadq5, Z_aloadn5, Z_istore5, Z_astore5, Z_astoreq5, Z_astoren5, Z_iinc5, Z_iload6, Z_aload6, Z_aloadq6, Z_aloadn6, Z_istore6, Z_astore6, Z_astoreq6, Z_astoren6, Z_iinc6, Z_iload7, Z_aload7, Z_aloadq7, Z_aloadn7, Z_istore7, Z_astore7, Z_astoreq7, Z_astoren7, Z_iinc7, Z_iload8, Z_aload8, Z_aloadq8, Z_aloadn8, Z_istore8, Z_astore8, Z_astoreq8, Z_astoren8, Z_iinc8, Z_iload9, Z_aload9, Z_aloadq9, Z_aloadn9, Z_istore9, Z_astore9, Z_astoreq9, Z_astoren9, Z_iinc9, Z_iload10, Z_aload10, Z_aloadq10, Z_aloadn10, Z_istore10, Z_astore10, Z_astoreq10, Z_astoren10, Z_iinc10, Z_iload11, Z_aload11, Z_aloadq11, Z_aloadn11, Z_istore11, Z_astore11, Z_astoreq11, Z_astoren11, Z_iinc11, Z_iload12, Z_aload12, Z_aloadq12, Z_aloadn12, Z_istore12, Z_astore12, Z_astoreq12, Z_astoren12, Z_iinc12, Z_iadd, Z_isub, Z_imul, Z_iand, Z_ior, Z_ishl, Z_ishr, Z_iushr, Z_idiv, Z_irem, Z_dup, Z_dupx1, Z_dup2, Z_pop, Z_if_eq, Z_icmp_eq, Z_if_ne, Z_icmp_ne, Z_if_lt, Z_icmp_lt, Z_if_le, Z_icmp_le, Z_if_ge, Z_icmp_ge, Z_if_gt, Z_icmp_gt, Z_acmp_eqq1, Z_acmp_eqq2, Z_acmp_eqq3, Z_acmp_eqq4, Z_acmp_neq1, Z_acmp_neq2, Z_acmp_neq3, Z_acmp_neq4, Z_ifnull, Z_ifnullN, Z_ifnullq, Z_ifnonnull, Z_ifnonnullN, Z_ifnonnullq, Z_goto, Z_getI, Z_getZ, Z_getR, Z_putI, Z_putR, Z_putN, Z_putQ, Z_putZ, Z_new, Z_newarray, Z_anewarray, Z_alen, Z_cast, Z_objInit, Z_clone, Z_getClass, Z_copy, Z_max, Z_min, Y_iaload, Y_baload, Y_aaload, Y_iastore, Y_bastore, Y_aastore, Y_aastoreN, lt_0p, lt_1n, va_some, va_none, Option.toList_some, Option.toList_none, List.nil_append, List.cons_append, List.length_nil, List.length_cons, true_and, and_true, if_true, if_false, ite_true, ite_false, Nat.zero_le, Nat.not_lt_zero, Nat.reduceLeDiff, Nat.reduceEqDiff, Nat.reduceAdd, Nat.reduceMul, Nat.reduceSub, Nat.reduceLT, Nat.zero_add, not_true_eq_false, not_false_eq_true, true_or, or_true, false_or, or_false, Nat.add_zero, false_and, and_false, exists_eq_left', Option.some.injEq, k_X9_drop_0, sk_X9_drop_12, sk_X9_drop_46, k_X9_drop_46, Q_X9_drop, C_X9_moveMessage, nI_add, pk_mul, ar_lt, ar_le, ar_eq, z_lt, z_le, z_gt, z_ge, z_eq, z_eq2, ix_nI, nI_clamp, ne_eq, hM.k0, hM.f1, hM.k1, hM.l1, hM.f2, hM.k2, hM.l2, hM.f3, hM.k3, hM.l3, hM.f4, hM.k4, hM.l4, hM.f5, hM.k5, hM.l5, hM.f6, hM.k6, hM.l6, hM.f7, hM.k7, hM.l7, hM.f8, hM.k8, hM.l8, hM.f9, hM.k9, hM.l9, hM.f10, hM.k10, hM.l10, hM.f11, hM.k11, hM.l11, hM.f12, hM.k12, hM.l12, hM.f13, hM.k13, hM.l13, hM.f14, hM.k14, hM.l14, hM.f15, hM.k15, hM.l15, hM.f16, hM.k16, hM.l16, hM.f17, hM.k17, hM.l17, hM.f18, hM.k18, hM.l18, hM.f19, hM.k19, hM.l19, hM.f20, hM.k20, hM.l20, hM.f21, hM.k21, hM.l21, hM.f22, hM.k22, hM.l22, hM.f23, hM.k23, hM.l23, e, show ¬ n ≤ i by omega]
    rw [e_move hM (by omega) (by omega) (by omega)]
    simp (disch := first | omega | assumption) only [Z_iconst, Z_bipush, Z_sipush, Z_ldc, Z_ldcM, Z_ldcw, Z_null, Z_getstatic, Z_iload0, Z_aload0, Z_aloadq0, Z_aloadn0, Z_istore0, Z_astore0, Z_astoreq0, Z_astoren0, Z_iinc0, Z_iload1, Z_aload1, Z_aloadq1, Z_aloadn1, Z_istore1, Z_astore1, Z_astoreq1, Z_astoren1, Z_iinc1, Z_iload2, Z_aload2, Z_aloadq2, Z_aloadn2, Z_istore2, Z_astore2, Z_astoreq2, Z_astoren2, Z_iinc2, Z_iload3, Z_aload3, Z_aloadq3, Z_aloadn3, Z_istore3, Z_astore3, Z_astoreq3, Z_astoren3, Z_iinc3, Z_iload4, Z_aload4, Z_aloadq4, Z_aloadn4, Z_istore4, Z_astore4, Z_astoreq4, Z_astoren4, Z_iinc4, Z_iload5, Z_aload5, Z_aloadq5, Z_aloadn5, Z_istore5, Z_astore5, Z_astoreq5, Z_astoren5, Z_iinc5, Z_iload6, Z_aload6, Z_aloadq6, Z_aloadn6, Z_istore6, Z_astore6, Z_astoreq6, Z_astoren6, Z_iinc6, Z_iload7, Z_aload7, Z_aloadq7, Z_aloadn7, Z_istore7, Z_astore7, Z_astoreq7, Z_astoren7, Z_iinc7, Z_iload8, Z_aload8, Z_aloadq8, Z_aloadn8, Z_istore8, Z_astore8, Z_astoreq8, Z_astoren8, Z_iinc8, Z_iload9, Z_aload9, Z_aloadq9, Z_aloadn9, Z_istore9, Z_astore9, Z_astoreq9, Z_astoren9, Z_iinc9, Z_iload10, Z_aload10, Z_aloadq10, Z_aloadn10, Z_istore10, Z_astore10, Z_astoreq10, Z_astoren10, Z_iinc10, Z_iload11, Z_aload11, Z_aloadq11, Z_aloadn11, Z_istore11, Z_astore11, Z_astoreq11, Z_astoren11, Z_iinc11, Z_iload12, Z_aload12, Z_aloadq12, Z_aloadn12, Z_istore12, Z_astore12, Z_astoreq12, Z_astoren12, Z_iinc12, Z_iadd, Z_isub, Z_imul, Z_iand, Z_ior, Z_ishl, Z_ishr, Z_iushr, Z_idiv, Z_irem, Z_dup, Z_dupx1, Z_dup2, Z_pop, Z_if_eq, Z_icmp_eq, Z_if_ne, Z_icmp_ne, Z_if_lt, Z_icmp_lt, Z_if_le, Z_icmp_le, Z_if_ge, Z_icmp_ge, Z_if_gt, Z_icmp_gt, Z_acmp_eqq1, Z_acmp_eqq2, Z_acmp_eqq3, Z_acmp_eqq4, Z_acmp_neq1, Z_acmp_neq2, Z_acmp_neq3, Z_acmp_neq4, Z_ifnull, Z_ifnullN, Z_ifnullq, Z_ifnonnull, Z_ifnonnullN, Z_ifnonnullq, Z_goto, Z_getI, Z_getZ, Z_getR, Z_putI, Z_putR, Z_putN, Z_putQ, Z_putZ, Z_new, Z_newarray, Z_anewarray, Z_alen, Z_cast, Z_objInit, Z_clone, Z_getClass, Z_copy, Z_max, Z_min, Y_iaload, Y_baload, Y_aaload, Y_iastore, Y_bastore, Y_aastore, Y_aastoreN, lt_0p, lt_1n, va_some, va_none, Option.toList_some, Option.toList_none, List.nil_append, List.cons_append, List.length_nil, List.length_cons, true_and, and_true, if_true, if_false, ite_true, ite_false, Nat.zero_le, Nat.not_lt_zero, Nat.reduceLeDiff, Nat.reduceEqDiff, Nat.reduceAdd, Nat.reduceMul, Nat.reduceSub, Nat.reduceLT, Nat.zero_add, not_true_eq_false, not_false_eq_true, true_or, or_true, false_or, or_false, Nat.add_zero, false_and, and_false, exists_eq_left', Option.some.injEq, k_X9_drop_0, sk_X9_drop_12, sk_X9_drop_46, k_X9_drop_46, Q_X9_drop, C_X9_moveMessage, nI_add, pk_mul, ar_lt, ar_le, ar_eq, z_lt, z_le, z_gt, z_ge, z_eq, z_eq2, ix_nI, nI_clamp, ne_eq]
    exact ih (i + 1) _ (by omega) (by omega) (H.step hki)
/-- message k of way w is gone -/
def drp (s : St) (w k : Nat) : St := w_sWy s (fu (sWy s) w ((sWy s w).eraseIdx k))
theorem gd_erase {α : Type} (l : List α) (d : α) (k j : Nat) : (l.eraseIdx k).getD j d = if j < k then l.getD j d else l.getD (j + 1) d := by
  rw [List.getD_eq_getElem?_getD, List.getElem?_eraseIdx]
  split
  · rw [List.getD_eq_getElem?_getD]
  · rw [List.getD_eq_getElem?_getD]
theorem c_drop {g w k : Nat} {h : Hp} {s : St} {P : Option Value → Hp → Prop} (hM : ML g h) (hR : MR g h s) (hB : Bd s) (hw : w < 16) (hk : k < (sWy s w).length) (hP : ∀ h', Fr g h h' → aI h' (g + 23) = aI h (g + 23) → MR g h' (drp s w k) → P none h') : Ev M_X9_drop [.ref g, .int (nI w), .int (nI k)] h P := by
  have e17 := hR.c17 w hw
  have hb := (hB.2.2.2 w hw).1
  have hle : ((sWy s w).eraseIdx k).length = (sWy s w).length - 1 := List.length_eraseIdx_of_lt hk
  generalize hn : (sWy s w).length = n at e17 hb hk hle
  simp (disch := first | omega | assumption) only [Z_iconst, Z_bipush, Z_sipush, Z_ldc, Z_ldcM, Z_ldcw, Z_null, Z_getstatic, Z_iload0, Z_aload0, Z_aloadq0, Z_aloadn0, Z_istore0, Z_astore0, Z_astoreq0, Z_astoren0, Z_iinc0, Z_iload1, Z_aload1, Z_aloadq1, Z_aloadn1, Z_istore1, Z_astore1, Z_astoreq1, Z_astoren1, Z_iinc1, Z_iload2, Z_aload2, Z_aloadq2, Z_aloadn2, Z_istore2, Z_astore2, Z_astoreq2, Z_astoren2, Z_iinc2, Z_iload3, Z_aload3, Z_aloadq3, Z_aloadn3, Z_istore3, Z_astore3, Z_astoreq3, Z_astoren3, Z_iinc3, Z_iload4, Z_aload4, Z_aloadq4, Z_aloadn4, Z_istore4, Z_astore4, Z_astoreq4, Z_astoren4, Z_iinc4, Z_iload5, Z_aload5, Z_aloadq5, Z_aloadn5, Z_istore5, Z_astore5, Z_astoreq5, Z_astoren5, Z_iinc5, Z_iload6, Z_aload6, Z_aloadq6, Z_aloadn6, Z_istore6, Z_astore6, Z_astoreq6, Z_astoren6, Z_iinc6, Z_iload7, Z_aload7, Z_aloadq7, Z_aloadn7, Z_istore7, Z_astore7, Z_astoreq7, Z_astoren7, Z_iinc7, Z_iload8, Z_aload8, Z_aloadq8, Z_aloadn8, Z_istore8, Z_astore8, Z_astoreq8, Z_astoren8, Z_iinc8, Z_iload9, Z_aload9, Z_aloadq9, Z_aloadn9, Z_istore9, Z_astore9, Z_astoreq9, Z_astoren9, Z_iinc9, Z_iload10, Z_aload10, Z_aloadq10, Z_aloadn10, Z_istore10, Z_astore10, Z_astoreq10, Z_astoren10, Z_iinc10, Z_iload11, Z_aload11, Z_aloadq11, Z_aloadn11, Z_istore11, Z_astore11, Z_astoreq11, Z_astoren11, Z_iinc11, Z_iload12, Z_aload12, Z_aloadq12, Z_aloadn12, Z_istore12, Z_astore12, Z_astoreq12, Z_astoren12, Z_iinc12, Z_iadd, Z_isub, Z_imul, Z_iand, Z_ior, Z_ishl, Z_ishr, Z_iushr, Z_idiv, Z_irem, Z_dup, Z_dupx1, Z_dup2, Z_pop, Z_if_eq, Z_icmp_eq, Z_if_ne, Z_icmp_ne, Z_if_lt, Z_icmp_lt, Z_if_le, Z_icmp_le, Z_if_ge, Z_icmp_ge, Z_if_gt, Z_icmp_gt, Z_acmp_eqq1, Z_acmp_eqq2, Z_acmp_eqq3, Z_acmp_eqq4, Z_acmp_neq1, Z_acmp_neq2, Z_acmp_neq3, Z_acmp_neq4, Z_ifnull, Z_ifnullN, Z_ifnullq, Z_ifnonnull, Z_ifnonnullN, Z_ifnonnullq, Z_goto, Z_getI, Z_getZ, Z_getR, Z_putI, Z_putR, Z_putN, Z_putQ, Z_putZ, Z_new, Z_newarray, Z_anewarray, Z_alen, Z_cast, Z_objInit, Z_clone, Z_getClass, Z_copy, Z_max, Z_min, Y_iaload, Y_baload, Y_aaload, Y_iastore, Y_bastore, Y_aastore, Y_aastoreN, lt_0p, lt_1n, va_some, va_none, Option.toList_some, Option.toList_none, List.nil_append, List.cons_append, List.length_nil, List.length_cons, true_and, and_true, if_true, if_false, ite_true, ite_false, Nat.zero_le, Nat.not_lt_zero, Nat.reduceLeDiff, Nat.reduceEqDiff, Nat.reduceAdd, Nat.reduceMul, Nat.reduceSub, Nat.reduceLT, Nat.zero_add, not_true_eq_false, not_false_eq_true, true_or, or_true, false_or, or_false, Nat.add_zero, false_and, and_false, exists_eq_left', Option.some.injEq, k_X9_drop_0, sk_X9_drop_12, sk_X9_drop_46, k_X9_drop_46, Q_X9_drop, C_X9_moveMessage, E_X9_drop, nI_add, pk_mul, ar_lt, ar_le, ar_eq, z_lt, z_le, z_gt, z_ge, z_eq, z_eq2, ix_nI, nI_clamp, ne_eq, hM.k0, hM.f1, hM.k1, hM.l1, hM.f2, hM.k2, hM.l2, hM.f3, hM.k3, hM.l3, hM.f4, hM.k4, hM.l4, hM.f5, hM.k5, hM.l5, hM.f6, hM.k6, hM.l6, hM.f7, hM.k7, hM.l7, hM.f8, hM.k8, hM.l8, hM.f9, hM.k9, hM.l9, hM.f10, hM.k10, hM.l10, hM.f11, hM.k11, hM.l11, hM.f12, hM.k12, hM.l12, hM.f13, hM.k13, hM.l13, hM.f14, hM.k14, hM.l14, hM.f15, hM.k15, hM.l15, hM.f16, hM.k16, hM.l16, hM.f17, hM.k17, hM.l17, hM.f18, hM.k18, hM.l18, hM.f19, hM.k19, hM.l19, hM.f20, hM.k20, hM.l20, hM.f21, hM.k21, hM.l21, hM.f22, hM.k22, hM.l22, hM.f23, hM.k23, hM.l23, kd_wfI, ln_wfI, fI_wfI, fR_wfI, aI_wfI, aR_wfI, gc_wfI, sz_wfI, sl_wfI, kd_wfR, ln_wfR, fI_wfR, fR_wfR, aI_wfR, aR_wfR, gc_wfR, sz_wfR, sl_wfR, kd_waI, ln_waI, fI_waI, fR_waI, aI_waI, aR_waI, gc_waI, sz_waI, sl_waI, kd_waR, ln_waR, fI_waR, fR_waR, aI_waR, aR_waR, gc_waR, sz_waR, sl_waR, kd_hnew, ln_hnew, fI_hnew, fR_hnew, aI_hnew, aR_hnew, gc_hnew, sz_hnew, sl_hnew, ac_eq, e17, pk_sub]
  refine l_drop (h0 := waI h (g + 17) w (nI (n - 1))) (n := n - 1) (k := k) hM hw (by omega) (by simp only [aI_waI, true_and, if_true]) (fun h' H => ?_) (n - 1 - k) k _ (by omega) (Nat.le_refl _) ⟨Fr.rf, fun x => by rw [if_neg (by omega)], fun x => by rw [if_neg (by omega)], fun x => by rw [if_neg (by omega)], fun q _ _ _ => rfl⟩
  obtain ⟨f, s1, s2, s3, s4⟩ := H
  have old : ∀ y, y ≠ 17 → y ≠ 18 → y ≠ 19 → y ≠ 20 → aI h' (g + y) = aI h (g + y) := by
    intro y h1 h2 h3 h4
    rw [s4 (g + y) (by omega) (by omega) (by omega)]
    funext x
    simp only [aI_waI, ac_eq, h1, false_and, if_false]
  refine hP h' ((Fr.rf.wa (k := 17) (by decide) (by decide)).tr f) (old 23 (by decide) (by decide) (by decide) (by decide)) ?_
  refine ⟨?_, ?_, ?_, ?_, ?_, ?_, ?_, ?_, ?_, ?_, ?_, ?_, ?_, ?_, ?_, ?_, ?_, ?_, ?_, ?_⟩
  · intro r' hr'; rw [old 1 (by decide) (by decide) (by decide) (by decide)]; exact hR.c1 r' hr'
  · intro r' hr'; rw [old 2 (by decide) (by decide) (by decide) (by decide)]; exact hR.c2 r' hr'
  · intro r' hr'; rw [old 3 (by decide) (by decide) (by decide) (by decide)]; exact hR.c3 r' hr'
  · intro r' hr'; rw [old 4 (by decide) (by decide) (by decide) (by decide)]; exact hR.c4 r' hr'
  · intro r' hr'; rw [old 5 (by decide) (by decide) (by decide) (by decide)]; exact hR.c5 r' hr'
  · intro r' hr'; rw [old 6 (by decide) (by decide) (by decide) (by decide)]; exact hR.c6 r' hr'
  · intro r' j' hr' hj'; rw [old 7 (by decide) (by decide) (by decide) (by decide)]; exact hR.c7 r' j' hr' hj'
  · intro r' hr'; rw [old 8 (by decide) (by decide) (by decide) (by decide)]; exact hR.c8 r' hr'
  · intro r' j' hr' hj'; rw [old 9 (by decide) (by decide) (by decide) (by decide)]; exact hR.c9 r' j' hr' hj'
  · intro r' hr'; rw [old 10 (by decide) (by decide) (by decide) (by decide)]; exact hR.c10 r' hr'
  · intro r' hr'; rw [old 11 (by decide) (by decide) (by decide) (by decide)]; exact hR.c11 r' hr'
  · intro r' j' hr' hj'; rw [old 12 (by decide) (by decide) (by decide) (by decide)]; exact hR.c12 r' j' hr' hj'
  · intro r' j' hr' hj'; rw [old 13 (by decide) (by decide) (by decide) (by decide)]; exact hR.c13 r' j' hr' hj'
  · intro r' hr'; rw [old 14 (by decide) (by decide) (by decide) (by decide)]; exact hR.c14 r' hr'
  · intro r' j' hr' hj'; rw [old 15 (by decide) (by decide) (by decide) (by decide)]; exact hR.c15 r' j' hr' hj'
  · intro r' i' j' hr' hi' hj'; rw [old 16 (by decide) (by decide) (by decide) (by decide)]; exact hR.c16 r' i' j' hr' hi' hj'
  · intro w' hw'
    rw [s4 (g + 17) (by omega) (by omega) (by omega)]
    simp only [aI_waI, true_and]
    show _ = nI (fu (sWy s) w ((sWy s w).eraseIdx k) w').length
    unfold fu
    by_cases hww : w' = w
    · rw [if_pos hww, if_pos hww, hle]
    · rw [if_neg hww, if_neg hww]
      exact hR.c17 w' hw'
  · intro w' k' hw' hk'
    have hk' : k' < (fu (sWy s) w ((sWy s w).eraseIdx k) w').length := hk'
    rw [s1]
    simp only [aI_waI, ac_eq, Nat.reduceEqDiff, false_and, if_false]
    show _ = nI ((fu (sWy s) w ((sWy s w).eraseIdx k) w').getD k' (0, 0, fun _ => 0)).1
    unfold fu at hk' ⊢
    by_cases hww : w' = w
    · subst hww
      rw [if_pos rfl] at hk' ⊢
      rw [hle] at hk'
      rw [gd_erase]
      by_cases hkk : k' < k
      · rw [if_neg (by omega), if_pos hkk]
        exact hR.c18 w' k' hw' (by omega)
      · rw [if_pos (by omega), if_neg hkk]
        exact hR.c18 w' (k' + 1) hw' (by omega)
    · rw [if_neg hww] at hk' ⊢
      have := (hB.2.2.2 w' hw').1
      rw [if_neg (by omega)]
      exact hR.c18 w' k' hw' hk'
  · intro w' k' hw' hk'
    have hk' : k' < (fu (sWy s) w ((sWy s w).eraseIdx k) w').length := hk'
    rw [s2]
    simp only [aI_waI, ac_eq, Nat.reduceEqDiff, false_and, if_false]
    show _ = nI ((fu (sWy s) w ((sWy s w).eraseIdx k) w').getD k' (0, 0, fun _ => 0)).2.1
    unfold fu at hk' ⊢
    by_cases hww : w' = w
    · subst hww
      rw [if_pos rfl] at hk' ⊢
      rw [hle] at hk'
      rw [gd_erase]
      by_cases hkk : k' < k
      · rw [if_neg (by omega), if_pos hkk]
        exact hR.c19 w' k' hw' (by omega)
      · rw [if_pos (by omega), if_neg hkk]
        exact hR.c19 w' (k' + 1) hw' (by omega)
    · rw [if_neg hww] at hk' ⊢
      have := (hB.2.2.2 w' hw').1
      rw [if_neg (by omega)]
      exact hR.c19 w' k' hw' hk'
  · intro w' k' j' hw' hk' hj'
    have hk' : k' < (fu (sWy s) w ((sWy s w).eraseIdx k) w').length := hk'
    rw [s3]
    simp only [aI_waI, ac_eq, Nat.reduceEqDiff, false_and, if_false]
    show _ = nI (((fu (sWy s) w ((sWy s w).eraseIdx k) w').getD k' (0, 0, fun _ => 0)).2.2 j')
    unfold fu at hk' ⊢
    by_cases hww : w' = w
    · subst hww
      rw [if_pos rfl] at hk' ⊢
      rw [hle] at hk'
      rw [gd_erase]
      by_cases hkk : k' < k
      · rw [if_neg (by omega), if_pos hkk]
        exact hR.c20 w' k' j' hw' (by omega) hj'
      · rw [if_pos (by omega), if_neg hkk]
        rw [show 4 * (30 * w' + k') + j' + 4 = 4 * (30 * w' + (k' + 1)) + j' by omega]
        exact hR.c20 w' (k' + 1) j' hw' (by omega) hj'
    · rw [if_neg hww] at hk' ⊢
      have := (hB.2.2.2 w' hw').1
      rw [if_neg (by omega)]
      exact hR.c20 w' k' j' hw' hk' hj'
