/-- operation o is done at r -/
def doo (s : St) (r o : Nat) : St := w_sTi (w_sOw (w_sDn s (fu (sDn s) r (sDn s r ++ [o]))) (fu (sOw s) r (fu (sOw s r) (o / 60) (sOw s r (o / 60) + 1)))) (fu (sTi s) r (max (sTi s r) (sTm s o)))
theorem doo_MR {g r o : Nat} {h : Hp} {s : St} (hR : MR g h s) (hr : r < 4) (ho : o < 240) (hlen : (sDn s r).length < 240) (hB : Bd s) : MR g (waI (waI (waI (waI (waI h (g + 13) (240 * r + o) (nI 1)) (g + 12) (240 * r + (sDn s r).length) (nI o)) (g + 11) r (nI ((sDn s r).length + 1))) (g + 9) (4 * r + o / 60) (nI (sOw s r (o / 60) + 1))) (g + 10) r (nI (max (sTi s r) (sTm s o)))) (doo s r o) := by
  refine ⟨?_, ?_, ?_, ?_, ?_, ?_, ?_, ?_, ?_, ?_, ?_, ?_, ?_, ?_, ?_, ?_, ?_, ?_, ?_, ?_⟩
  · intro r' hr'; simp only [aI_waI, aI_wfI, ac_eq, Nat.reduceEqDiff, false_and, if_false, ite_false]; exact hR.c1 r' hr'
  · intro o' ho'; simp only [aI_waI, aI_wfI, ac_eq, Nat.reduceEqDiff, false_and, if_false, ite_false]; exact hR.c2 o' ho'
  · intro o' ho'; simp only [aI_waI, aI_wfI, ac_eq, Nat.reduceEqDiff, false_and, if_false, ite_false]; exact hR.c3 o' ho'
  · intro o' ho'; simp only [aI_waI, aI_wfI, ac_eq, Nat.reduceEqDiff, false_and, if_false, ite_false]; exact hR.c4 o' ho'
  · intro o' ho'; simp only [aI_waI, aI_wfI, ac_eq, Nat.reduceEqDiff, false_and, if_false, ite_false]; exact hR.c5 o' ho'
  · intro o' ho'; simp only [aI_waI, aI_wfI, ac_eq, Nat.reduceEqDiff, false_and, if_false, ite_false]; exact hR.c6 o' ho'
  · intro o' j' ho' hj'; simp only [aI_waI, aI_wfI, ac_eq, Nat.reduceEqDiff, false_and, if_false, ite_false]; exact hR.c7 o' j' ho' hj'
  · intro r' hr'; simp only [aI_waI, aI_wfI, ac_eq, Nat.reduceEqDiff, false_and, if_false, ite_false]; exact hR.c8 r' hr'
  · intro r' j' hr' hj'
    simp only [aI_waI, ac_eq, Nat.reduceEqDiff, false_and, if_false, true_and]
    show _ = nI (fu (sOw s) r (fu (sOw s r) (o / 60) (sOw s r (o / 60) + 1)) r' j')
    unfold fu
    by_cases h1 : r' = r
    · subst h1
      rw [if_pos rfl]
      by_cases h2 : j' = o / 60
      · rw [if_pos (by omega), if_pos h2]
      · rw [if_neg (by omega), if_neg h2]
        exact hR.c9 r' j' hr' hj'
    · rw [if_neg (by omega), if_neg h1]
      exact hR.c9 r' j' hr' hj'
  · intro r' hr'
    simp only [aI_waI, ac_eq, Nat.reduceEqDiff, false_and, if_false, true_and]
    show _ = nI (fu (sTi s) r (max (sTi s r) (sTm s o)) r')
    unfold fu
    by_cases h1 : r' = r
    · rw [if_pos h1, if_pos h1]
    · rw [if_neg h1, if_neg h1]
      exact hR.c10 r' hr'
  · intro r' hr'
    simp only [aI_waI, ac_eq, Nat.reduceEqDiff, false_and, if_false, true_and]
    show _ = nI (fu (sDn s) r (sDn s r ++ [o]) r').length
    unfold fu
    by_cases h1 : r' = r
    · rw [if_pos h1, if_pos h1, List.length_append]
      rfl
    · rw [if_neg h1, if_neg h1]
      exact hR.c11 r' hr'
  · intro r' k' hr' hk'
    have hk' : k' < (fu (sDn s) r (sDn s r ++ [o]) r').length := hk'
    simp only [aI_waI, ac_eq, Nat.reduceEqDiff, false_and, if_false, true_and]
    show _ = nI ((fu (sDn s) r (sDn s r ++ [o]) r').getD k' 0)
    have hl' := (hB.2.2.1 r' hr').2.1
    unfold fu at hk' ⊢
    by_cases h1 : r' = r
    · subst h1
      rw [if_pos rfl] at hk' ⊢
      rw [List.length_append, List.length_singleton] at hk'
      rw [gd_app]
      by_cases h2 : k' = (sDn s r').length
      · rw [if_pos (by omega), if_neg (by omega), if_pos h2]
      · rw [if_neg (by omega), if_pos (by omega)]
        exact hR.c12 r' k' hr' (by omega)
    · rw [if_neg h1] at hk' ⊢
      rw [if_neg (by omega)]
      exact hR.c12 r' k' hr' hk'
  · intro r' o' hr' ho'
    simp only [aI_waI, ac_eq, Nat.reduceEqDiff, false_and, if_false, true_and]
    show _ = nI (nb (decide (o' ∈ fu (sDn s) r (sDn s r ++ [o]) r')))
    unfold fu
    by_cases h1 : r' = r
    · subst h1
      rw [if_pos rfl]
      by_cases h2 : o' = o
      · subst h2
        rw [if_pos rfl, decide_eq_true (List.mem_append_right _ (List.mem_singleton.mpr rfl))]
        rfl
      · rw [if_neg (by omega)]
        have : (o' ∈ sDn s r' ++ [o]) ↔ (o' ∈ sDn s r') := by simp [h2]
        simp only [this]
        exact hR.c13 r' o' hr' ho'
    · rw [if_neg (by omega), if_neg h1]
      exact hR.c13 r' o' hr' ho'
  · intro r' hr'; simp only [aI_waI, aI_wfI, ac_eq, Nat.reduceEqDiff, false_and, if_false, ite_false]; exact hR.c14 r' hr'
  · intro r' k' hr' hk'; simp only [aI_waI, aI_wfI, ac_eq, Nat.reduceEqDiff, false_and, if_false, ite_false]; exact hR.c15 r' k' hr' hk'
  · intro r' i' j' hr' hi' hj'; simp only [aI_waI, aI_wfI, ac_eq, Nat.reduceEqDiff, false_and, if_false, ite_false]; exact hR.c16 r' i' j' hr' hi' hj'
  · intro w' hw'; simp only [aI_waI, aI_wfI, ac_eq, Nat.reduceEqDiff, false_and, if_false, ite_false]; exact hR.c17 w' hw'
  · intro w' k' hw' hk'; simp only [aI_waI, aI_wfI, ac_eq, Nat.reduceEqDiff, false_and, if_false, ite_false]; exact hR.c18 w' k' hw' hk'
  · intro w' k' hw' hk'; simp only [aI_waI, aI_wfI, ac_eq, Nat.reduceEqDiff, false_and, if_false, ite_false]; exact hR.c19 w' k' hw' hk'
  · intro w' k' j' hw' hk' hj'; simp only [aI_waI, aI_wfI, ac_eq, Nat.reduceEqDiff, false_and, if_false, ite_false]; exact hR.c20 w' k' j' hw' hk' hj'
theorem c_doOperation {g r o : Nat} {h : Hp} {s : St} {P : Option Value → Hp → Prop} (hM : ML g h) (hR : MR g h s) (hB : Bd s) (hr : r < 4) (ho : o < 240) (hlen : (sDn s r).length < 240) (hP : ∀ h', Fr g h h' → MR g h' (doo s r o) → P none h') : Ev M_X9_doOperation [.ref g, .int (nI r), .int (nI o)] h P := by
  have b1 := (hB.2.2.1 r hr).1
  have b2 := (hB.2.1 o ho).2.2.1
  have b3 := (hB.2.2.1 r hr).2.2.2.2.2.1 (o / 60) (by omega)
  have e11 := hR.c11 r hr
  have e9 := hR.c9 r (o / 60) hr (by omega)
  have e10 := hR.c10 r hr
  have e6 := hR.c6 o ho
  have hfin := hP _ (((((Fr.rf.wa (k := 13) (j := 240 * r + o) (v := nI 1) (by decide) (by decide)).wa (k := 12) (j := 240 * r + (sDn s r).length) (v := nI o) (by decide) (by decide)).wa (k := 11) (j := r) (v := nI ((sDn s r).length + 1)) (by decide) (by decide)).wa (k := 9) (j := 4 * r + o / 60) (v := nI (sOw s r (o / 60) + 1)) (by decide) (by decide)).wa (k := 10) (j := r) (v := nI (max (sTi s r) (sTm s o))) (by decide) (by decide)) (doo_MR hR hr ho hlen hB)
  by_cases c1 : sTm s o ≤ sTi s r
  · rw [Nat.max_eq_left c1] at hfin
    simp (disch := first | omega | assumption) only [Z_iconst, Z_bipush, Z_sipush, Z_ldc, Z_ldcM, Z_ldcw, Z_null, Z_getstatic, Z_iload0, Z_aload0, Z_aloadq0, Z_aloadn0, Z_istore0, Z_astore0, Z_astoreq0, Z_astoren0, Z_iinc0, Z_iload1, Z_aload1, Z_aloadq1, Z_aloadn1, Z_istore1, Z_astore1, Z_astoreq1, Z_astoren1, Z_iinc1, Z_iload2, Z_aload2, Z_aloadq2, Z_aloadn2, Z_istore2, Z_astore2, Z_astoreq2, Z_astoren2, Z_iinc2, Z_iload3, Z_aload3, Z_aloadq3, Z_aloadn3, Z_istore3, Z_astore3, Z_astoreq3, Z_astoren3, Z_iinc3, Z_iload4, Z_aload4, Z_aloadq4, Z_aloadn4, Z_istore4, Z_astore4, Z_astoreq4, Z_astoren4, Z_iinc4, Z_iload5, Z_aload5, Z_aloadq5, Z_aloadn5, Z_istore5, Z_astore5, Z_astoreq5, Z_astoren5, Z_iinc5, Z_iload6, Z_aload6, Z_aloadq6, Z_aloadn6, Z_istore6, Z_astore6, Z_astoreq6, Z_astoren6, Z_iinc6, Z_iload7, Z_aload7, Z_aloadq7, Z_aloadn7, Z_istore7, Z_astore7, Z_astoreq7, Z_astoren7, Z_iinc7, Z_iload8, Z_aload8, Z_aloadq8, Z_aloadn8, Z_istore8, Z_astore8, Z_astoreq8, Z_astoren8, Z_iinc8, Z_iload9, Z_aload9, Z_aloadq9, Z_aloadn9, Z_istore9, Z_astore9, Z_astoreq9, Z_astoren9, Z_iinc9, Z_iload10, Z_aload10, Z_aloadq10, Z_aloadn10, Z_istore10, Z_astore10, Z_astoreq10, Z_astoren10, Z_iinc10, Z_iload11, Z_aload11, Z_aloadq11, Z_aloadn11, Z_istore11, Z_astore11, Z_astoreq11, Z_astoren11, Z_iinc11, Z_iload12, Z_aload12, Z_aloadq12, Z_aloadn12, Z_istore12, Z_astore12, Z_astoreq12, Z_astoren12, Z_iinc12, Z_iadd, Z_isub, Z_imul, Z_iand, Z_ior, Z_ishl, Z_ishr, Z_iushr, Z_idiv, Z_irem, Z_dup, Z_dupx1, Z_dup2, Z_pop, Z_if_eq, Z_icmp_eq, Z_if_ne, Z_icmp_ne, Z_if_lt, Z_icmp_lt, Z_if_le, Z_icmp_le, Z_if_ge, Z_icmp_ge, Z_if_gt, Z_icmp_gt, Z_acmp_eqq1, Z_acmp_eqq2, Z_acmp_eqq3, Z_acmp_eqq4, Z_acmp_neq1, Z_acmp_neq2, Z_acmp_neq3, Z_acmp_neq4, Z_ifnull, Z_ifnullN, Z_ifnullq, Z_ifnonnull, Z_ifnonnullN, Z_ifnonnullq, Z_goto, Z_getI, Z_getZ, Z_getR, Z_putI, Z_putR, Z_putN, Z_putQ, Z_putZ, Z_new, Z_newarray, Z_anewarray, Z_alen, Z_cast, Z_objInit, Z_clone, Z_getClass, Z_copy, Z_max, Z_min, Y_iaload, Y_baload, Y_aaload, Y_iastore, Y_bastore, Y_aastore, Y_aastoreN, lt_0p, lt_1n, va_some, va_none, Option.toList_some, Option.toList_none, List.nil_append, List.cons_append, List.length_nil, List.length_cons, true_and, and_true, if_true, if_false, ite_true, ite_false, Nat.zero_le, Nat.not_lt_zero, Nat.reduceLeDiff, Nat.reduceEqDiff, Nat.reduceAdd, Nat.reduceMul, Nat.reduceSub, Nat.reduceLT, Nat.zero_add, not_true_eq_false, not_false_eq_true, true_or, or_true, false_or, or_false, Nat.add_zero, false_and, and_false, exists_eq_left', Option.some.injEq, k_X9_doOperation_0, sk_X9_doOperation_87, k_X9_doOperation_87, sk_X9_doOperation_93, k_X9_doOperation_93, Q_X9_doOperation, C_X9_ownerOf, E_X9_doOperation, nI_add, pk_mul, ar_lt, ar_le, ar_eq, z_lt, z_le, z_gt, z_ge, z_eq, z_eq2, ix_nI, nI_clamp, ne_eq, hM.k0, hM.f1, hM.k1, hM.l1, hM.f2, hM.k2, hM.l2, hM.f3, hM.k3, hM.l3, hM.f4, hM.k4, hM.l4, hM.f5, hM.k5, hM.l5, hM.f6, hM.k6, hM.l6, hM.f7, hM.k7, hM.l7, hM.f8, hM.k8, hM.l8, hM.f9, hM.k9, hM.l9, hM.f10, hM.k10, hM.l10, hM.f11, hM.k11, hM.l11, hM.f12, hM.k12, hM.l12, hM.f13, hM.k13, hM.l13, hM.f14, hM.k14, hM.l14, hM.f15, hM.k15, hM.l15, hM.f16, hM.k16, hM.l16, hM.f17, hM.k17, hM.l17, hM.f18, hM.k18, hM.l18, hM.f19, hM.k19, hM.l19, hM.f20, hM.k20, hM.l20, hM.f21, hM.k21, hM.l21, hM.f22, hM.k22, hM.l22, hM.f23, hM.k23, hM.l23, kd_wfI, ln_wfI, fI_wfI, fR_wfI, aI_wfI, aR_wfI, gc_wfI, sz_wfI, sl_wfI, kd_wfR, ln_wfR, fI_wfR, fR_wfR, aI_wfR, aR_wfR, gc_wfR, sz_wfR, sl_wfR, kd_waI, ln_waI, fI_waI, fR_waI, aI_waI, aR_waI, gc_waI, sz_waI, sl_waI, kd_waR, ln_waR, fI_waR, fR_waR, aI_waR, aR_waR, gc_waR, sz_waR, sl_waR, kd_hnew, ln_hnew, fI_hnew, fR_hnew, aI_hnew, aR_hnew, gc_hnew, sz_hnew, sl_hnew, ac_eq, e11, e9, e10, e6, e_ownerOf o ho, c1, z_eq2]
    exact hfin
  · rw [Nat.max_eq_right (by omega)] at hfin
    simp (disch := first | omega | assumption) only [Z_iconst, Z_bipush, Z_sipush, Z_ldc, Z_ldcM, Z_ldcw, Z_null, Z_getstatic, Z_iload0, Z_aload0, Z_aloadq0, Z_aloadn0, Z_istore0, Z_astore0, Z_astoreq0, Z_astoren0, Z_iinc0, Z_iload1, Z_aload1, Z_aloadq1, Z_aloadn1, Z_istore1, Z_astore1, Z_astoreq1, Z_astoren1, Z_iinc1, Z_iload2, Z_aload2, Z_aloadq2, Z_aloadn2, Z_istore2, Z_astore2, Z_astoreq2, Z_astoren2, Z_iinc2, Z_iload3, Z_aload3, Z_aloadq3, Z_aloadn3, Z_istore3, Z_astore3, Z_astoreq3, Z_astoren3, Z_iinc3, Z_iload4, Z_aload4, Z_aloadq4, Z_aloadn4, Z_istore4, Z_astore4, Z_astoreq4, Z_astoren4, Z_iinc4, Z_iload5, Z_aload5, Z_aloadq5, Z_aloadn5, Z_istore5, Z_astore5, Z_astoreq5, Z_astoren5, Z_iinc5, Z_iload6, Z_aload6, Z_aloadq6, Z_aloadn6, Z_istore6, Z_astore6, Z_astoreq6, Z_astoren6, Z_iinc6, Z_iload7, Z_aload7, Z_aloadq7, Z_aloadn7, Z_istore7, Z_astore7, Z_astoreq7, Z_astoren7, Z_iinc7, Z_iload8, Z_aload8, Z_aloadq8, Z_aloadn8, Z_istore8, Z_astore8, Z_astoreq8, Z_astoren8, Z_iinc8, Z_iload9, Z_aload9, Z_aloadq9, Z_aloadn9, Z_istore9, Z_astore9, Z_astoreq9, Z_astoren9, Z_iinc9, Z_iload10, Z_aload10, Z_aloadq10, Z_aloadn10, Z_istore10, Z_astore10, Z_astoreq10, Z_astoren10, Z_iinc10, Z_iload11, Z_aload11, Z_aloadq11, Z_aloadn11, Z_istore11, Z_astore11, Z_astoreq11, Z_astoren11, Z_iinc11, Z_iload12, Z_aload12, Z_aloadq12, Z_aloadn12, Z_istore12, Z_astore12, Z_astoreq12, Z_astoren12, Z_iinc12, Z_iadd, Z_isub, Z_imul, Z_iand, Z_ior, Z_ishl, Z_ishr, Z_iushr, Z_idiv, Z_irem, Z_dup, Z_dupx1, Z_dup2, Z_pop, Z_if_eq, Z_icmp_eq, Z_if_ne, Z_icmp_ne, Z_if_lt, Z_icmp_lt, Z_if_le, Z_icmp_le, Z_if_ge, Z_icmp_ge, Z_if_gt, Z_icmp_gt, Z_acmp_eqq1, Z_acmp_eqq2, Z_acmp_eqq3, Z_acmp_eqq4, Z_acmp_neq1, Z_acmp_neq2, Z_acmp_neq3, Z_acmp_neq4, Z_ifnull, Z_ifnullN, Z_ifnullq, Z_ifnonnull, Z_ifnonnullN, Z_ifnonnullq, Z_goto, Z_getI, Z_getZ, Z_getR, Z_putI, Z_putR, Z_putN, Z_putQ, Z_putZ, Z_new, Z_newarray, Z_anewarray, Z_alen, Z_cast, Z_objInit, Z_clone, Z_getClass, Z_copy, Z_max, Z_min, Y_iaload, Y_baload, Y_aaload, Y_iastore, Y_bastore, Y_aastore, Y_aastoreN, lt_0p, lt_1n, va_some, va_none, Option.toList_some, Option.toList_none, List.nil_append, List.cons_append, List.length_nil, List.length_cons, true_and, and_true, if_true, if_false, ite_true, ite_false, Nat.zero_le, Nat.not_lt_zero, Nat.reduceLeDiff, Nat.reduceEqDiff, Nat.reduceAdd, Nat.reduceMul, Nat.reduceSub, Nat.reduceLT, Nat.zero_add, not_true_eq_false, not_false_eq_true, true_or, or_true, false_or, or_false, Nat.add_zero, false_and, and_false, exists_eq_left', Option.some.injEq, k_X9_doOperation_0, sk_X9_doOperation_87, k_X9_doOperation_87, sk_X9_doOperation_93, k_X9_doOperation_93, Q_X9_doOperation, C_X9_ownerOf, E_X9_doOperation, nI_add, pk_mul, ar_lt, ar_le, ar_eq, z_lt, z_le, z_gt, z_ge, z_eq, z_eq2, ix_nI, nI_clamp, ne_eq, hM.k0, hM.f1, hM.k1, hM.l1, hM.f2, hM.k2, hM.l2, hM.f3, hM.k3, hM.l3, hM.f4, hM.k4, hM.l4, hM.f5, hM.k5, hM.l5, hM.f6, hM.k6, hM.l6, hM.f7, hM.k7, hM.l7, hM.f8, hM.k8, hM.l8, hM.f9, hM.k9, hM.l9, hM.f10, hM.k10, hM.l10, hM.f11, hM.k11, hM.l11, hM.f12, hM.k12, hM.l12, hM.f13, hM.k13, hM.l13, hM.f14, hM.k14, hM.l14, hM.f15, hM.k15, hM.l15, hM.f16, hM.k16, hM.l16, hM.f17, hM.k17, hM.l17, hM.f18, hM.k18, hM.l18, hM.f19, hM.k19, hM.l19, hM.f20, hM.k20, hM.l20, hM.f21, hM.k21, hM.l21, hM.f22, hM.k22, hM.l22, hM.f23, hM.k23, hM.l23, kd_wfI, ln_wfI, fI_wfI, fR_wfI, aI_wfI, aR_wfI, gc_wfI, sz_wfI, sl_wfI, kd_wfR, ln_wfR, fI_wfR, fR_wfR, aI_wfR, aR_wfR, gc_wfR, sz_wfR, sl_wfR, kd_waI, ln_waI, fI_waI, fR_waI, aI_waI, aR_waI, gc_waI, sz_waI, sl_waI, kd_waR, ln_waR, fI_waR, fR_waR, aI_waR, aR_waR, gc_waR, sz_waR, sl_waR, kd_hnew, ln_hnew, fI_hnew, fR_hnew, aI_hnew, aR_hnew, gc_hnew, sz_hnew, sl_hnew, ac_eq, e11, e9, e10, e6, e_ownerOf o ho, c1, z_eq2]
    exact hfin
theorem c_sendOperation {g f t o : Nat} {h : Hp} {s : St} {P : Option Value → Hp → Prop} (hM : ML g h) (hR : MR g h s) (hB : Bd s) (hf : f < 4) (ht : t < 4) (ho : o < 240) (hP : ∀ h', Fs g h h' → MR g h' (snd s (4 * f + t) (0, o, sCk s o)) → P none h') : Ev M_X9_sendOperation [.ref g, .int (nI f), .int (nI t), .int (nI o)] h P := by
  simp (disch := first | omega | assumption) only [Z_iconst, Z_bipush, Z_sipush, Z_ldc, Z_ldcM, Z_ldcw, Z_null, Z_getstatic, Z_iload0, Z_aload0, Z_aloadq0, Z_aloadn0, Z_istore0, Z_astore0, Z_astoreq0, Z_astoren0, Z_iinc0, Z_iload1, Z_aload1, Z_aloadq1, Z_aloadn1, Z_istore1, Z_astore1, Z_astoreq1, Z_astoren1, Z_iinc1, Z_iload2, Z_aload2, Z_aloadq2, Z_aloadn2, Z_istore2, Z_astore2, Z_astoreq2, Z_astoren2, Z_iinc2, Z_iload3, Z_aload3, Z_aloadq3, Z_aloadn3, Z_istore3, Z_astore3, Z_astoreq3, Z_astoren3, Z_iinc3, Z_iload4, Z_aload4, Z_aloadq4, Z_aloadn4, Z_istore4, Z_astore4, Z_astoreq4, Z_astoren4, Z_iinc4, Z_iload5, Z_aload5, Z_aloadq5, Z_aloadn5, Z_istore5, Z_astore5, Z_astoreq5, Z_astoren5, Z_iinc5, Z_iload6, Z_aload6, Z_aloadq6, Z_aloadn6, Z_istore6, Z_astore6, Z_astoreq6, Z_astoren6, Z_iinc6, Z_iload7, Z_aload7, Z_aloadq7, Z_aloadn7, Z_istore7, Z_astore7, Z_astoreq7, Z_astoren7, Z_iinc7, Z_iload8, Z_aload8, Z_aloadq8, Z_aloadn8, Z_istore8, Z_astore8, Z_astoreq8, Z_astoren8, Z_iinc8, Z_iload9, Z_aload9, Z_aloadq9, Z_aloadn9, Z_istore9, Z_astore9, Z_astoreq9, Z_astoren9, Z_iinc9, Z_iload10, Z_aload10, Z_aloadq10, Z_aloadn10, Z_istore10, Z_astore10, Z_astoreq10, Z_astoren10, Z_iinc10, Z_iload11, Z_aload11, Z_aloadq11, Z_aloadn11, Z_istore11, Z_astore11, Z_astoreq11, Z_astoren11, Z_iinc11, Z_iload12, Z_aload12, Z_aloadq12, Z_aloadn12, Z_istore12, Z_astore12, Z_astoreq12, Z_astoren12, Z_iinc12, Z_iadd, Z_isub, Z_imul, Z_iand, Z_ior, Z_ishl, Z_ishr, Z_iushr, Z_idiv, Z_irem, Z_dup, Z_dupx1, Z_dup2, Z_pop, Z_if_eq, Z_icmp_eq, Z_if_ne, Z_icmp_ne, Z_if_lt, Z_icmp_lt, Z_if_le, Z_icmp_le, Z_if_ge, Z_icmp_ge, Z_if_gt, Z_icmp_gt, Z_acmp_eqq1, Z_acmp_eqq2, Z_acmp_eqq3, Z_acmp_eqq4, Z_acmp_neq1, Z_acmp_neq2, Z_acmp_neq3, Z_acmp_neq4, Z_ifnull, Z_ifnullN, Z_ifnullq, Z_ifnonnull, Z_ifnonnullN, Z_ifnonnullq, Z_goto, Z_getI, Z_getZ, Z_getR, Z_putI, Z_putR, Z_putN, Z_putQ, Z_putZ, Z_new, Z_newarray, Z_anewarray, Z_alen, Z_cast, Z_objInit, Z_clone, Z_getClass, Z_copy, Z_max, Z_min, Y_iaload, Y_baload, Y_aaload, Y_iastore, Y_bastore, Y_aastore, Y_aastoreN, lt_0p, lt_1n, va_some, va_none, Option.toList_some, Option.toList_none, List.nil_append, List.cons_append, List.length_nil, List.length_cons, true_and, and_true, if_true, if_false, ite_true, ite_false, Nat.zero_le, Nat.not_lt_zero, Nat.reduceLeDiff, Nat.reduceEqDiff, Nat.reduceAdd, Nat.reduceMul, Nat.reduceSub, Nat.reduceLT, Nat.zero_add, not_true_eq_false, not_false_eq_true, true_or, or_true, false_or, or_false, Nat.add_zero, false_and, and_false, exists_eq_left', Option.some.injEq, k_X9_sendOperation_0, Q_X9_sendOperation, C_X9_send, E_X9_sendOperation, nI_add, pk_mul, ar_lt, ar_le, ar_eq, z_lt, z_le, z_gt, z_ge, z_eq, z_eq2, ix_nI, nI_clamp, ne_eq, hM.k0, hM.f1, hM.k1, hM.l1, hM.f2, hM.k2, hM.l2, hM.f3, hM.k3, hM.l3, hM.f4, hM.k4, hM.l4, hM.f5, hM.k5, hM.l5, hM.f6, hM.k6, hM.l6, hM.f7, hM.k7, hM.l7, hM.f8, hM.k8, hM.l8, hM.f9, hM.k9, hM.l9, hM.f10, hM.k10, hM.l10, hM.f11, hM.k11, hM.l11, hM.f12, hM.k12, hM.l12, hM.f13, hM.k13, hM.l13, hM.f14, hM.k14, hM.l14, hM.f15, hM.k15, hM.l15, hM.f16, hM.k16, hM.l16, hM.f17, hM.k17, hM.l17, hM.f18, hM.k18, hM.l18, hM.f19, hM.k19, hM.l19, hM.f20, hM.k20, hM.l20, hM.f21, hM.k21, hM.l21, hM.f22, hM.k22, hM.l22, hM.f23, hM.k23, hM.l23, kd_wfI, ln_wfI, fI_wfI, fR_wfI, aI_wfI, aR_wfI, gc_wfI, sz_wfI, sl_wfI, kd_wfR, ln_wfR, fI_wfR, fR_wfR, aI_wfR, aR_wfR, gc_wfR, sz_wfR, sl_wfR, kd_waI, ln_waI, fI_waI, fR_waI, aI_waI, aR_waI, gc_waI, sz_waI, sl_waI, kd_waR, ln_waR, fI_waR, fR_waR, aI_waR, aR_waR, gc_waR, sz_waR, sl_waR, kd_hnew, ln_hnew, fI_hnew, fR_hnew, aI_hnew, aR_hnew, gc_hnew, sz_hnew, sl_hnew, ac_eq]
  refine c_send hM hR hB hf ht (by omega) ho (Or.inl ⟨rfl, by omega⟩) (fun j hj => hR.c7 o j ho hj) (fun h' h1 h2 => ?_)
  simp (disch := first | omega | assumption) only [Z_iconst, Z_bipush, Z_sipush, Z_ldc, Z_ldcM, Z_ldcw, Z_null, Z_getstatic, Z_iload0, Z_aload0, Z_aloadq0, Z_aloadn0, Z_istore0, Z_astore0, Z_astoreq0, Z_astoren0, Z_iinc0, Z_iload1, Z_aload1, Z_aloadq1, Z_aloadn1, Z_istore1, Z_astore1, Z_astoreq1, Z_astoren1, Z_iinc1, Z_iload2, Z_aload2, Z_aloadq2, Z_aloadn2, Z_istore2, Z_astore2, Z_astoreq2, Z_astoren2, Z_iinc2, Z_iload3, Z_aload3, Z_aloadq3, Z_aloadn3, Z_istore3, Z_astore3, Z_astoreq3, Z_astoren3, Z_iinc3, Z_iload4, Z_aload4, Z_aloadq4, Z_aloadn4, Z_istore4, Z_astore4, Z_astoreq4, Z_astoren4, Z_iinc4, Z_iload5, Z_aload5, Z_aloadq5, Z_aloadn5, Z_istore5, Z_astore5, Z_astoreq5, Z_astoren5, Z_iinc5, Z_iload6, Z_aload6, Z_aloadq6, Z_aloadn6, Z_istore6, Z_astore6, Z_astoreq6, Z_astoren6, Z_iinc6, Z_iload7, Z_aload7, Z_aloadq7, Z_aloadn7, Z_istore7, Z_astore7, Z_astoreq7, Z_astoren7, Z_iinc7, Z_iload8, Z_aload8, Z_aloadq8, Z_aloadn8, Z_istore8, Z_astore8, Z_astoreq8, Z_astoren8, Z_iinc8, Z_iload9, Z_aload9, Z_aloadq9, Z_aloadn9, Z_istore9, Z_astore9, Z_astoreq9, Z_astoren9, Z_iinc9, Z_iload10, Z_aload10, Z_aloadq10, Z_aloadn10, Z_istore10, Z_astore10, Z_astoreq10, Z_astoren10, Z_iinc10, Z_iload11, Z_aload11, Z_aloadq11, Z_aloadn11, Z_istore11, Z_astore11, Z_astoreq11, Z_astoren11, Z_iinc11, Z_iload12, Z_aload12, Z_aloadq12, Z_aloadn12, Z_istore12, Z_astore12, Z_astoreq12, Z_astoren12, Z_iinc12, Z_iadd, Z_isub, Z_imul, Z_iand, Z_ior, Z_ishl, Z_ishr, Z_iushr, Z_idiv, Z_irem, Z_dup, Z_dupx1, Z_dup2, Z_pop, Z_if_eq, Z_icmp_eq, Z_if_ne, Z_icmp_ne, Z_if_lt, Z_icmp_lt, Z_if_le, Z_icmp_le, Z_if_ge, Z_icmp_ge, Z_if_gt, Z_icmp_gt, Z_acmp_eqq1, Z_acmp_eqq2, Z_acmp_eqq3, Z_acmp_eqq4, Z_acmp_neq1, Z_acmp_neq2, Z_acmp_neq3, Z_acmp_neq4, Z_ifnull, Z_ifnullN, Z_ifnullq, Z_ifnonnull, Z_ifnonnullN, Z_ifnonnullq, Z_goto, Z_getI, Z_getZ, Z_getR, Z_putI, Z_putR, Z_putN, Z_putQ, Z_putZ, Z_new, Z_newarray, Z_anewarray, Z_alen, Z_cast, Z_objInit, Z_clone, Z_getClass, Z_copy, Z_max, Z_min, Y_iaload, Y_baload, Y_aaload, Y_iastore, Y_bastore, Y_aastore, Y_aastoreN, lt_0p, lt_1n, va_some, va_none, Option.toList_some, Option.toList_none, List.nil_append, List.cons_append, List.length_nil, List.length_cons, true_and, and_true, if_true, if_false, ite_true, ite_false, Nat.zero_le, Nat.not_lt_zero, Nat.reduceLeDiff, Nat.reduceEqDiff, Nat.reduceAdd, Nat.reduceMul, Nat.reduceSub, Nat.reduceLT, Nat.zero_add, not_true_eq_false, not_false_eq_true, true_or, or_true, false_or, or_false, Nat.add_zero, false_and, and_false, exists_eq_left', Option.some.injEq, k_X9_sendOperation_0, Q_X9_sendOperation, C_X9_send]
  exact hP h' h1 h2
