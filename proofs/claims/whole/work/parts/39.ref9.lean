def wto (s : St) (r k : Nat) : St := w_sWt s (fu (sWt s) r ((sWt s r).eraseIdx k))
theorem wto_MR {g r k : Nat} {h h' : Hp} {s : St} (hR : MR g h s) (hr : r < 4) (hk : k < (sWt s r).length) (hB : Bd s) (H : Sw g (waI h (g + 14) r (nI ((sWt s r).length - 1))) h' r k ((sWt s r).length - 1)) : MR g h' (wto s r k) := by
  obtain ⟨f, s1, s4⟩ := H
  have hb := (hB.2.2.1 r hr).2.2.1
  have hle : ((sWt s r).eraseIdx k).length = (sWt s r).length - 1 := List.length_eraseIdx_of_lt hk
  have old : ∀ y, y ≠ 14 → y ≠ 15 → aI h' (g + y) = aI h (g + y) := by
    intro y h1 h2
    rw [s4 (g + y) (by omega)]
    funext x
    simp only [aI_waI, ac_eq, h1, false_and, if_false]
  refine ⟨?_, ?_, ?_, ?_, ?_, ?_, ?_, ?_, ?_, ?_, ?_, ?_, ?_, ?_, ?_, ?_, ?_, ?_, ?_, ?_⟩
  · intro r' hr'; rw [old 1 (by decide) (by decide)]; exact hR.c1 r' hr'
  · intro r' hr'; rw [old 2 (by decide) (by decide)]; exact hR.c2 r' hr'
  · intro r' hr'; rw [old 3 (by decide) (by decide)]; exact hR.c3 r' hr'
  · intro r' hr'; rw [old 4 (by decide) (by decide)]; exact hR.c4 r' hr'
  · intro r' hr'; rw [old 5 (by decide) (by decide)]; exact hR.c5 r' hr'
  · intro r' hr'; rw [old 6 (by decide) (by decide)]; exact hR.c6 r' hr'
  · intro r' j' hr' hj'; rw [old 7 (by decide) (by decide)]; exact hR.c7 r' j' hr' hj'
  · intro r' hr'; rw [old 8 (by decide) (by decide)]; exact hR.c8 r' hr'
  · intro r' j' hr' hj'; rw [old 9 (by decide) (by decide)]; exact hR.c9 r' j' hr' hj'
  · intro r' hr'; rw [old 10 (by decide) (by decide)]; exact hR.c10 r' hr'
  · intro r' hr'; rw [old 11 (by decide) (by decide)]; exact hR.c11 r' hr'
  · intro r' j' hr' hj'; rw [old 12 (by decide) (by decide)]; exact hR.c12 r' j' hr' hj'
  · intro r' j' hr' hj'; rw [old 13 (by decide) (by decide)]; exact hR.c13 r' j' hr' hj'
  · intro r' hr'
    rw [s4 (g + 14) (by omega)]
    simp only [aI_waI, true_and]
    show _ = nI (fu (sWt s) r ((sWt s r).eraseIdx k) r').length
    unfold fu
    by_cases hrr : r' = r
    · rw [if_pos hrr, if_pos hrr, hle]
    · rw [if_neg hrr, if_neg hrr]
      exact hR.c14 r' hr'
  · intro r' k' hr' hk'
    have hk' : k' < (fu (sWt s) r ((sWt s r).eraseIdx k) r').length := hk'
    rw [s1]
    simp only [aI_waI, ac_eq, Nat.reduceEqDiff, false_and, if_false]
    show _ = nI ((fu (sWt s) r ((sWt s r).eraseIdx k) r').getD k' 0)
    unfold fu at hk' ⊢
    by_cases hrr : r' = r
    · subst hrr
      rw [if_pos rfl] at hk' ⊢
      rw [hle] at hk'
      rw [gd_erase]
      by_cases hkk : k' < k
      · rw [if_neg (by omega), if_pos hkk]
        exact hR.c15 r' k' hr' (by omega)
      · rw [if_pos (by omega), if_neg hkk]
        exact hR.c15 r' (k' + 1) hr' (by omega)
    · rw [if_neg hrr] at hk' ⊢
      have := (hB.2.2.1 r' hr').2.2.1
      rw [if_neg (by omega)]
      exact hR.c15 r' k' hr' hk'
  · intro r' i' j' hr' hi' hj'; rw [old 16 (by decide) (by decide)]; exact hR.c16 r' i' j' hr' hi' hj'
  · intro r' hr'; rw [old 17 (by decide) (by decide)]; exact hR.c17 r' hr'
  · intro r' j' hr' hj'; rw [old 18 (by decide) (by decide)]; exact hR.c18 r' j' hr' hj'
  · intro r' j' hr' hj'; rw [old 19 (by decide) (by decide)]; exact hR.c19 r' j' hr' hj'
  · intro r' i' j' hr' hi' hj'; rw [old 20 (by decide) (by decide)]; exact hR.c20 r' i' j' hr' hi' hj'
theorem Bd_wto {s : St} {r k : Nat} (hB : Bd s) : Bd (wto s r k) := by
  refine ⟨hB.1, hB.2.1, fun r' hr' => ?_, hB.2.2.2⟩
  have h1 := hB.2.2.1 r' hr'
  refine ⟨h1.1, h1.2.1, ?_, h1.2.2.2.1, ?_, h1.2.2.2.2.2⟩
  · show (fu (sWt s) r ((sWt s r).eraseIdx k) r').length ≤ 240
    unfold fu
    split
    · rename_i hrr
      rw [hrr] at h1
      exact Nat.le_trans (List.length_eraseIdx_le _ _) h1.2.2.1
    · exact h1.2.2.1
  · show ∀ z ∈ fu (sWt s) r ((sWt s r).eraseIdx k) r', z < 240
    unfold fu
    split
    · rename_i hrr
      rw [hrr] at h1
      exact fun z hz => h1.2.2.2.2.1 z (List.mem_of_mem_eraseIdx hz)
    · exact h1.2.2.2.2.1
def s4 (f : Nat → Nat) : Nat := f 0 + f 1 + f 2 + f 3
theorem s4_fu (f : Nat → Nat) (k : Nat) (hk : k < 4) : s4 (fu f k (f k + 1)) = s4 f + 1 := by
  unfold s4 fu
  rcases (show k = 0 ∨ k = 1 ∨ k = 2 ∨ k = 3 by omega) with rfl | rfl | rfl | rfl <;> simp <;> omega
theorem fri_some {s : St} {r : Nat} : ∀ (l : List Nat) (k0 k : Nat), fri s r l k0 = some k → k0 ≤ k ∧ k < k0 + l.length ∧ rdy s r (l.getD (k - k0) 0) = true := by
  intro l
  induction l with
  | nil => intro k0 k h; cases h
  | cons o l ih =>
    intro k0 k h
    unfold fri at h
    split at h
    · rename_i hq
      cases h
      refine ⟨Nat.le_refl _, by rw [List.length_cons]; omega, ?_⟩
      rw [Nat.sub_self]
      exact hq
    · obtain ⟨h1, h2, h3⟩ := ih (k0 + 1) k h
      refine ⟨by omega, by rw [List.length_cons]; omega, ?_⟩
      rw [show k - k0 = (k - (k0 + 1)) + 1 by omega]
      exact h3
theorem rdy_ow {s : St} {r o : Nat} (h : rdy s r o = true) : sOw s r (o / 60) = o % 60 := by
  unfold rdy at h
  rw [Bool.and_eq_true, decide_eq_true_eq] at h
  omega
/-- all that can be done of what waits at r is done, one after the other -/
def tkF (r : Nat) : Nat → Nat → St → Nat × St
  | 0, c, s => (c, s)
  | n + 1, c, s => match fri s r (sWt s r) 0 with
    | none => (c, s)
    | some k => tkF r n (c + 1) (doo (wto s r k) r ((sWt s r).getD k 0))
set_option maxHeartbeats 1000000 in
theorem l_take {g r : Nat} {k2 : Option Value} {P : Option Value → Hp → Prop} (hr : r < 4) : ∀ (n c : Nat) (h : Hp) (s : St) (k5 k6 : Option Value), ML g h → MR g h s → Bd s → (sDn s r).length = s4 (sOw s r) → (sWt s r).length < n → c + n < 100000 → (∀ h', Fr g h h' → MR g h' (tkF r n c s).2 → P (some (.int (nI (tkF r n c s).1))) h') →
    Z M_X9_take_ k_X9_take__57 [some (.ref g), some (.int (nI r)), k2, some (.int (nI c)), some (.int (bhI (fri s r (sWt s r) 0))), k5, k6] [] h P := by
  intro n
  induction n with
  | zero => intro c h s k5 k6 hM hR hB hJ hn; omega
  | succ n ih =>
    intro c h s k5 k6 hM hR hB hJ hn hc hP
    unfold tkF at hP
    rw [k_X9_take__57]
    cases hf : fri s r (sWt s r) 0 with
    | none =>
      rw [hf] at hP
      simp only at hP
      simp (disch := first | omega | assumption) only [Z_iconst, Z_bipush, Z_sipush, Z_ldc, Z_ldcM, Z_ldcw, Z_null, Z_getstatic, Z_iload0, Z_aload0, Z_aloadq0, Z_aloadn0, Z_istore0, Z_astore0, Z_astoreq0, Z_astoren0, Z_iinc0, Z_iload1, Z_aload1, Z_aloadq1, Z_aloadn1, Z_istore1, Z_astore1, Z_astoreq1, Z_astoren1, Z_iinc1, Z_iload2, Z_aload2, Z_aloadq2, Z_aloadn2, Z_istore2, Z_astore2, Z_astoreq2, Z_astoren2, Z_iinc2, Z_iload3, Z_aload3, Z_aloadq3, Z_aloadn3, Z_istore3, Z_astore3, Z_astoreq3, Z_astoren3, Z_iinc3, Z_iload4, Z_aload4, Z_aloadq4, Z_aloadn4, Z_istore4, Z_astore4, Z_astoreq4, Z_astoren4, Z_iinc4, Z_iload5, Z_aload5, Z_aloadq5, Z_aloadn5, Z_istore5, Z_astore5, Z_astoreq5, Z_astoren5, Z_iinc5, Z_iload6, Z_aload6, Z_aloadq6, Z_aloadn6, Z_istore6, Z_astore6, Z_astoreq6, Z_astoren6, Z_iinc6, Z_iload7, Z_aload7, Z_aloadq7, Z_aloadn7, Z_istore7, Z_astore7, Z_astoreq7, Z_astoren7, Z_iinc7, Z_iload8, Z_aload8, Z_aloadq8, Z_aloadn8, Z_istore8, Z_astore8, Z_astoreq8, Z_astoren8, Z_iinc8, Z_iload9, Z_aload9, Z_aloadq9, Z_aloadn9, Z_istore9, Z_astore9, Z_astoreq9, Z_astoren9, Z_iinc9, Z_iload10, Z_aload10, Z_aloadq10, Z_aloadn10, Z_istore10, Z_astore10, Z_astoreq10, Z_astoren10, Z_iinc10, Z_iload11, Z_aload11, Z_aloadq11, Z_aloadn11, Z_istore11, Z_astore11, Z_astoreq11, Z_astoren11, Z_iinc11, Z_iload12, Z_aload12, Z_aloadq12, Z_aloadn12, Z_istore12, Z_astore12, Z_astoreq12, Z_astoren12, Z_iinc12, Z_iadd, Z_isub, Z_imul, Z_iand, Z_ior, Z_ishl, Z_ishr, Z_iushr, Z_idiv, Z_irem, Z_dup, Z_dupx1, Z_dup2, Z_pop, Z_if_eq, Z_icmp_eq, Z_if_ne, Z_icmp_ne, Z_if_lt, Z_icmp_lt, Z_if_le, Z_icmp_le, Z_if_ge, Z_icmp_ge, Z_if_gt, Z_icmp_gt, Z_acmp_eqq1, Z_acmp_eqq2, Z_acmp_eqq3, Z_acmp_eqq4, Z_acmp_neq1, Z_acmp_neq2, Z_acmp_neq3, Z_acmp_neq4, Z_ifnull, Z_ifnullN, Z_ifnullq, Z_ifnonnull, Z_ifnonnullN, Z_ifnonnullq, Z_goto, Z_getI, Z_getZ, Z_getR, Z_putI, Z_putR, Z_putN, Z_putQ, Z_putZ, Z_new, Z_newarray, Z_anewarray, Z_alen, Z_cast, Z_objInit, Z_clone, Z_getClass, Z_copy, Z_max, Z_min, Y_iaload, Y_baload, Y_aaload, Y_iastore, Y_bastore, Y_aastore, Y_aastoreN, lt_0p, lt_1n, va_some, va_none, Option.toList_some, Option.toList_none, List.nil_append, List.cons_append, List.length_nil, List.length_cons, true_and, and_true, if_true, if_false, ite_true, ite_false, Nat.zero_le, Nat.not_lt_zero, Nat.reduceLeDiff, Nat.reduceEqDiff, Nat.reduceAdd, Nat.reduceMul, Nat.reduceSub, Nat.reduceLT, Nat.zero_add, not_true_eq_false, not_false_eq_true, true_or, or_true, false_or, or_false, Nat.add_zero, false_and, and_false, exists_eq_left', Option.some.injEq, k_X9_take__0, sk_X9_take__18, k_X9_take__18, sk_X9_take__20, k_X9_take__20, sk_X9_take__57, sk_X9_take__91, sk_X9_take__136, k_X9_take__136, sk_X9_take__156, k_X9_take__156, Q_X9_take_, C_X9_was, C_X9_isWaiting, C_X9_firstReady, C_X9_doOperation, nI_add, pk_mul, ar_lt, ar_le, ar_eq, z_lt, z_le, z_gt, z_ge, z_eq, z_eq2, ix_nI, nI_clamp, ne_eq, bhI, show (- nI 1 : Int32) < 0 by decide]
      exact hP h Fr.rf hR
    | some k =>
      rw [hf] at hP
      simp only at hP
      obtain ⟨f1, f2, f3⟩ := fri_some _ _ _ hf
      rw [Nat.sub_zero] at f3
      rw [Nat.zero_add] at f2
      have hb := (hB.2.2.1 r hr).2.2.1
      have e14 := hR.c14 r hr
      have e15 := hR.c15 r k hr f2
      have ho := (hB.2.2.1 r hr).2.2.2.2.1 _ (getD_mem f2)
      have how := rdy_ow f3
      generalize hoe : (sWt s r).getD k 0 = o at e15 ho how hP
      simp (disch := first | omega | assumption) only [Z_iconst, Z_bipush, Z_sipush, Z_ldc, Z_ldcM, Z_ldcw, Z_null, Z_getstatic, Z_iload0, Z_aload0, Z_aloadq0, Z_aloadn0, Z_istore0, Z_astore0, Z_astoreq0, Z_astoren0, Z_iinc0, Z_iload1, Z_aload1, Z_aloadq1, Z_aloadn1, Z_istore1, Z_astore1, Z_astoreq1, Z_astoren1, Z_iinc1, Z_iload2, Z_aload2, Z_aloadq2, Z_aloadn2, Z_istore2, Z_astore2, Z_astoreq2, Z_astoren2, Z_iinc2, Z_iload3, Z_aload3, Z_aloadq3, Z_aloadn3, Z_istore3, Z_astore3, Z_astoreq3, Z_astoren3, Z_iinc3, Z_iload4, Z_aload4, Z_aloadq4, Z_aloadn4, Z_istore4, Z_astore4, Z_astoreq4, Z_astoren4, Z_iinc4, Z_iload5, Z_aload5, Z_aloadq5, Z_aloadn5, Z_istore5, Z_astore5, Z_astoreq5, Z_astoren5, Z_iinc5, Z_iload6, Z_aload6, Z_aloadq6, Z_aloadn6, Z_istore6, Z_astore6, Z_astoreq6, Z_astoren6, Z_iinc6, Z_iload7, Z_aload7, Z_aloadq7, Z_aloadn7, Z_istore7, Z_astore7, Z_astoreq7, Z_astoren7, Z_iinc7, Z_iload8, Z_aload8, Z_aloadq8, Z_aloadn8, Z_istore8, Z_astore8, Z_astoreq8, Z_astoren8, Z_iinc8, Z_iload9, Z_aload9, Z_aloadq9, Z_aloadn9, Z_istore9, Z_astore9, Z_astoreq9, Z_astoren9, Z_iinc9, Z_iload10, Z_aload10, Z_aloadq10, Z_aloadn10, Z_istore10, Z_astore10, Z_astoreq10, Z_astoren10, Z_iinc10, Z_iload11, Z_aload11, Z_aloadq11, Z_aloadn11, Z_istore11, Z_astore11, Z_astoreq11, Z_astoren11, Z_iinc11, Z_iload12, Z_aload12, Z_aloadq12, Z_aloadn12, Z_istore12, Z_astore12, Z_astoreq12, Z_astoren12, Z_iinc12, Z_iadd, Z_isub, Z_imul, Z_iand, Z_ior, Z_ishl, Z_ishr, Z_iushr, Z_idiv, Z_irem, Z_dup, Z_dupx1, Z_dup2, Z_pop, Z_if_eq, Z_icmp_eq, Z_if_ne, Z_icmp_ne, Z_if_lt, Z_icmp_lt, Z_if_le, Z_icmp_le, Z_if_ge, Z_icmp_ge, Z_if_gt, Z_icmp_gt, Z_acmp_eqq1, Z_acmp_eqq2, Z_acmp_eqq3, Z_acmp_eqq4, Z_acmp_neq1, Z_acmp_neq2, Z_acmp_neq3, Z_acmp_neq4, Z_ifnull, Z_ifnullN, Z_ifnullq, Z_ifnonnull, Z_ifnonnullN, Z_ifnonnullq, Z_goto, Z_getI, Z_getZ, Z_getR, Z_putI, Z_putR, Z_putN, Z_putQ, Z_putZ, Z_new, Z_newarray, Z_anewarray, Z_alen, Z_cast, Z_objInit, Z_clone, Z_getClass, Z_copy, Z_max, Z_min, Y_iaload, Y_baload, Y_aaload, Y_iastore, Y_bastore, Y_aastore, Y_aastoreN, lt_0p, lt_1n, va_some, va_none, Option.toList_some, Option.toList_none, List.nil_append, List.cons_append, List.length_nil, List.length_cons, true_and, and_true, if_true, if_false, ite_true, ite_false, Nat.zero_le, Nat.not_lt_zero, Nat.reduceLeDiff, Nat.reduceEqDiff, Nat.reduceAdd, Nat.reduceMul, Nat.reduceSub, Nat.reduceLT, Nat.zero_add, not_true_eq_false, not_false_eq_true, true_or, or_true, false_or, or_false, Nat.add_zero, false_and, and_false, exists_eq_left', Option.some.injEq, k_X9_take__0, sk_X9_take__18, k_X9_take__18, sk_X9_take__20, k_X9_take__20, sk_X9_take__57, sk_X9_take__91, sk_X9_take__136, k_X9_take__136, sk_X9_take__156, k_X9_take__156, Q_X9_take_, C_X9_was, C_X9_isWaiting, C_X9_firstReady, C_X9_doOperation, nI_add, pk_mul, ar_lt, ar_le, ar_eq, z_lt, z_le, z_gt, z_ge, z_eq, z_eq2, ix_nI, nI_clamp, ne_eq, hM.k0, hM.f1, hM.k1, hM.l1, hM.f2, hM.k2, hM.l2, hM.f3, hM.k3, hM.l3, hM.f4, hM.k4, hM.l4, hM.f5, hM.k5, hM.l5, hM.f6, hM.k6, hM.l6, hM.f7, hM.k7, hM.l7, hM.f8, hM.k8, hM.l8, hM.f9, hM.k9, hM.l9, hM.f10, hM.k10, hM.l10, hM.f11, hM.k11, hM.l11, hM.f12, hM.k12, hM.l12, hM.f13, hM.k13, hM.l13, hM.f14, hM.k14, hM.l14, hM.f15, hM.k15, hM.l15, hM.f16, hM.k16, hM.l16, hM.f17, hM.k17, hM.l17, hM.f18, hM.k18, hM.l18, hM.f19, hM.k19, hM.l19, hM.f20, hM.k20, hM.l20, hM.f21, hM.k21, hM.l21, hM.f22, hM.k22, hM.l22, hM.f23, hM.k23, hM.l23, kd_wfI, ln_wfI, fI_wfI, fR_wfI, aI_wfI, aR_wfI, gc_wfI, sz_wfI, sl_wfI, kd_wfR, ln_wfR, fI_wfR, fR_wfR, aI_wfR, aR_wfR, gc_wfR, sz_wfR, sl_wfR, kd_waI, ln_waI, fI_waI, fR_waI, aI_waI, aR_waI, gc_waI, sz_waI, sl_waI, kd_waR, ln_waR, fI_waR, fR_waR, aI_waR, aR_waR, gc_waR, sz_waR, sl_waR, kd_hnew, ln_hnew, fI_hnew, fR_hnew, aI_hnew, aR_hnew, gc_hnew, sz_hnew, sl_hnew, ac_eq, bhI, e14, e15, pk_sub]
      refine l_takeOut (h0 := waI h (g + 14) r (nI ((sWt s r).length - 1))) (n := (sWt s r).length - 1) (k := k) hM hr (by omega) (by simp only [aI_waI, true_and, if_true]) (fun h1 H => ?_) ((sWt s r).length - 1 - k) k _ (by omega) (Nat.le_refl _) ⟨Fr.rf, fun x => by rw [if_neg (by omega)], fun q _ => rfl⟩
      have m1 := wto_MR hR hr f2 hB H
      have fr1 : Fr g h h1 := (Fr.rf.wa (k := 14) (by decide) (by decide)).tr H.1
      have hM1 := fr1.ml hM
      have B1 : Bd (wto s r k) := Bd_wto hB
      have w0 := (hB.2.2.1 r hr).2.2.2.2.2.1
      have hsum : (sDn s r).length < 240 := by
        rw [hJ]
        unfold s4
        have a0 := w0 0 (by decide); have a1 := w0 1 (by decide); have a2 := w0 2 (by decide); have a3 := w0 3 (by decide)
        rcases (show o / 60 = 0 ∨ o / 60 = 1 ∨ o / 60 = 2 ∨ o / 60 = 3 by omega) with q | q | q | q <;> rw [q] at how <;> omega
      rw [k_X9_take__136]
      simp (disch := first | omega | assumption) only [Z_iconst, Z_bipush, Z_sipush, Z_ldc, Z_ldcM, Z_ldcw, Z_null, Z_getstatic, Z_iload0, Z_aload0, Z_aloadq0, Z_aloadn0, Z_istore0, Z_astore0, Z_astoreq0, Z_astoren0, Z_iinc0, Z_iload1, Z_aload1, Z_aloadq1, Z_aloadn1, Z_istore1, Z_astore1, Z_astoreq1, Z_astoren1, Z_iinc1, Z_iload2, Z_aload2, Z_aloadq2, Z_aloadn2, Z_istore2, Z_astore2, Z_astoreq2, Z_astoren2, Z_iinc2, Z_iload3, Z_aload3, Z_aloadq3, Z_aloadn3, Z_istore3, Z_astore3, Z_astoreq3, Z_astoren3, Z_iinc3, Z_iload4, Z_aload4, Z_aloadq4, Z_aloadn4, Z_istore4, Z_astore4, Z_astoreq4, Z_astoren4, Z_iinc4, Z_iload5, Z_aload5, Z_aloadq5, Z_aloadn5, Z_istore5, Z_astore5, Z_astoreq5, Z_astoren5, Z_iinc5, Z_iload6, Z_aload6, Z_aloadq6, Z_aloadn6, Z_istore6, Z_astore6, Z_astoreq6, Z_astoren6, Z_iinc6, Z_iload7, Z_aload7, Z_aloadq7, Z_aloadn7, Z_istore7, Z_astore7, Z_astoreq7, Z_astoren7, Z_iinc7, Z_iload8, Z_aload8, Z_aloadq8, Z_aloadn8, Z_istore8, Z_astore8, Z_astoreq8, Z_astoren8, Z_iinc8, Z_iload9, Z_aload9, Z_aloadq9, Z_aloadn9, Z_istore9, Z_astore9, Z_astoreq9, Z_astoren9, Z_iinc9, Z_iload10, Z_aload10, Z_aloadq10, Z_aloadn10, Z_istore10, Z_astore10, Z_astoreq10, Z_astoren10, Z_iinc10, Z_iload11, Z_aload11, Z_aloadq11, Z_aloadn11, Z_istore11, Z_astore11, Z_astoreq11, Z_astoren11, Z_iinc11, Z_iload12, Z_aload12, Z_aloadq12, Z_aloadn12, Z_istore12, Z_astore12, Z_astoreq12, Z_astoren12, Z_iinc12, Z_iadd, Z_isub, Z_imul, Z_iand, Z_ior, Z_ishl, Z_ishr, Z_iushr, Z_idiv, Z_irem, Z_dup, Z_dupx1, Z_dup2, Z_pop, Z_if_eq, Z_icmp_eq, Z_if_ne, Z_icmp_ne, Z_if_lt, Z_icmp_lt, Z_if_le, Z_icmp_le, Z_if_ge, Z_icmp_ge, Z_if_gt, Z_icmp_gt, Z_acmp_eqq1, Z_acmp_eqq2, Z_acmp_eqq3, Z_acmp_eqq4, Z_acmp_neq1, Z_acmp_neq2, Z_acmp_neq3, Z_acmp_neq4, Z_ifnull, Z_ifnullN, Z_ifnullq, Z_ifnonnull, Z_ifnonnullN, Z_ifnonnullq, Z_goto, Z_getI, Z_getZ, Z_getR, Z_putI, Z_putR, Z_putN, Z_putQ, Z_putZ, Z_new, Z_newarray, Z_anewarray, Z_alen, Z_cast, Z_objInit, Z_clone, Z_getClass, Z_copy, Z_max, Z_min, Y_iaload, Y_baload, Y_aaload, Y_iastore, Y_bastore, Y_aastore, Y_aastoreN, lt_0p, lt_1n, va_some, va_none, Option.toList_some, Option.toList_none, List.nil_append, List.cons_append, List.length_nil, List.length_cons, true_and, and_true, if_true, if_false, ite_true, ite_false, Nat.zero_le, Nat.not_lt_zero, Nat.reduceLeDiff, Nat.reduceEqDiff, Nat.reduceAdd, Nat.reduceMul, Nat.reduceSub, Nat.reduceLT, Nat.zero_add, not_true_eq_false, not_false_eq_true, true_or, or_true, false_or, or_false, Nat.add_zero, false_and, and_false, exists_eq_left', Option.some.injEq, k_X9_take__0, sk_X9_take__18, k_X9_take__18, sk_X9_take__20, k_X9_take__20, sk_X9_take__57, sk_X9_take__91, sk_X9_take__136, k_X9_take__136, sk_X9_take__156, k_X9_take__156, Q_X9_take_, C_X9_was, C_X9_isWaiting, C_X9_firstReady, C_X9_doOperation, nI_add, pk_mul, ar_lt, ar_le, ar_eq, z_lt, z_le, z_gt, z_ge, z_eq, z_eq2, ix_nI, nI_clamp, ne_eq, hM1.k0]
      refine c_doOperation hM1 m1 B1 hr ho hsum (fun h2 fr2 m2 => ?_)
      have hM2 := fr2.ml hM1
      have B2 : Bd (doo (wto s r k) r o) := Bd_doo B1 ho (by show sOw s r (o / 60) < 60; omega) hsum
      simp (disch := first | omega | assumption) only [Z_iconst, Z_bipush, Z_sipush, Z_ldc, Z_ldcM, Z_ldcw, Z_null, Z_getstatic, Z_iload0, Z_aload0, Z_aloadq0, Z_aloadn0, Z_istore0, Z_astore0, Z_astoreq0, Z_astoren0, Z_iinc0, Z_iload1, Z_aload1, Z_aloadq1, Z_aloadn1, Z_istore1, Z_astore1, Z_astoreq1, Z_astoren1, Z_iinc1, Z_iload2, Z_aload2, Z_aloadq2, Z_aloadn2, Z_istore2, Z_astore2, Z_astoreq2, Z_astoren2, Z_iinc2, Z_iload3, Z_aload3, Z_aloadq3, Z_aloadn3, Z_istore3, Z_astore3, Z_astoreq3, Z_astoren3, Z_iinc3, Z_iload4, Z_aload4, Z_aloadq4, Z_aloadn4, Z_istore4, Z_astore4, Z_astoreq4, Z_astoren4, Z_iinc4, Z_iload5, Z_aload5, Z_aloadq5, Z_aloadn5, Z_istore5, Z_astore5, Z_astoreq5, Z_astoren5, Z_iinc5, Z_iload6, Z_aload6, Z_aloadq6, Z_aloadn6, Z_istore6, Z_astore6, Z_astoreq6, Z_astoren6, Z_iinc6, Z_iload7, Z_aload7, Z_aloadq7, Z_aloadn7, Z_istore7, Z_astore7, Z_astoreq7, Z_astoren7, Z_iinc7, Z_iload8, Z_aload8, Z_aloadq8, Z_aloadn8, Z_istore8, Z_astore8, Z_astoreq8, Z_astoren8, Z_iinc8, Z_iload9, Z_aload9, Z_aloadq9, Z_aloadn9, Z_istore9, Z_astore9, Z_astoreq9, Z_astoren9, Z_iinc9, Z_iload10, Z_aload10, Z_aloadq10, Z_aloadn10, Z_istore10, Z_astore10, Z_astoreq10, Z_astoren10, Z_iinc10, Z_iload11, Z_aload11, Z_aloadq11, Z_aloadn11, Z_istore11, Z_astore11, Z_astoreq11, Z_astoren11, Z_iinc11, Z_iload12, Z_aload12, Z_aloadq12, Z_aloadn12, Z_istore12, Z_astore12, Z_astoreq12, Z_astoren12, Z_iinc12, Z_iadd, Z_isub, Z_imul, Z_iand, Z_ior, Z_ishl, Z_ishr, Z_iushr, Z_idiv, Z_irem, Z_dup, Z_dupx1, Z_dup2, Z_pop, Z_if_eq, Z_icmp_eq, Z_if_ne, Z_icmp_ne, Z_if_lt, Z_icmp_lt, Z_if_le, Z_icmp_le, Z_if_ge, Z_icmp_ge, Z_if_gt, Z_icmp_gt, Z_acmp_eqq1, Z_acmp_eqq2, Z_acmp_eqq3, Z_acmp_eqq4, Z_acmp_neq1, Z_acmp_neq2, Z_acmp_neq3, Z_acmp_neq4, Z_ifnull, Z_ifnullN, Z_ifnullq, Z_ifnonnull, Z_ifnonnullN, Z_ifnonnullq, Z_goto, Z_getI, Z_getZ, Z_getR, Z_putI, Z_putR, Z_putN, Z_putQ, Z_putZ, Z_new, Z_newarray, Z_anewarray, Z_alen, Z_cast, Z_objInit, Z_clone, Z_getClass, Z_copy, Z_max, Z_min, Y_iaload, Y_baload, Y_aaload, Y_iastore, Y_bastore, Y_aastore, Y_aastoreN, lt_0p, lt_1n, va_some, va_none, Option.toList_some, Option.toList_none, List.nil_append, List.cons_append, List.length_nil, List.length_cons, true_and, and_true, if_true, if_false, ite_true, ite_false, Nat.zero_le, Nat.not_lt_zero, Nat.reduceLeDiff, Nat.reduceEqDiff, Nat.reduceAdd, Nat.reduceMul, Nat.reduceSub, Nat.reduceLT, Nat.zero_add, not_true_eq_false, not_false_eq_true, true_or, or_true, false_or, or_false, Nat.add_zero, false_and, and_false, exists_eq_left', Option.some.injEq, k_X9_take__0, sk_X9_take__18, k_X9_take__18, sk_X9_take__20, k_X9_take__20, sk_X9_take__57, sk_X9_take__91, sk_X9_take__136, k_X9_take__136, sk_X9_take__156, k_X9_take__156, Q_X9_take_, C_X9_was, C_X9_isWaiting, C_X9_firstReady, C_X9_doOperation, nI_add, pk_mul, ar_lt, ar_le, ar_eq, z_lt, z_le, z_gt, z_ge, z_eq, z_eq2, ix_nI, nI_clamp, ne_eq, hM2.k0, e_firstReady hM2 m2 B2 hr]
      have hwt : sWt (doo (wto s r k) r o) r = (sWt s r).eraseIdx k := by
        show fu (sWt s) r ((sWt s r).eraseIdx k) r = _
        exact if_pos rfl
      have hJ2 : (sDn (doo (wto s r k) r o) r).length = s4 (sOw (doo (wto s r k) r o) r) := by
        have q1 : sDn (doo (wto s r k) r o) r = sDn s r ++ [o] := if_pos rfl
        have q2 : sOw (doo (wto s r k) r o) r = fu (sOw s r) (o / 60) (sOw s r (o / 60) + 1) := if_pos rfl
        rw [q1, q2, s4_fu _ _ (by omega), List.length_append, hJ]
        rfl
      refine ih (c + 1) h2 (doo (wto s r k) r o) _ _ hM2 m2 B2 hJ2 (by rw [hwt, List.length_eraseIdx_of_lt f2]; omega) (by omega) (fun h3 fr3 m3 => ?_)
      exact hP h3 ((fr1.tr fr2).tr fr3) m3
