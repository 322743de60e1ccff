/-! the class: what a replica receives -/
theorem rp_sx {ow oa : Nat → Nat} {la : Nat → Nat → Nat} {tx : Nat → Nat → List Nat} {h : Hp} {x r : Nat} {s s' : St} (H : RpR ow oa la tx h x s r) (E : Ed 240 s s') (hd : 240 ∉ sDn s r) (e1 : sTi s' r = sTi s r) (e2 : sUp s' r = sUp s r) (e3 : ∀ i j, kno s' r i j = kno s r i j) (e8 : sWt s' r = sWt s r) : RpR ow oa la tx h x s' r := by
  refine rp_st H e1 e2 e3 (fun c => E.xcs hd c) (E.xsp hd) (fun c => E.xwr hd c) ?_ e8 (fun q => E.xrmd hd q) rfl rfl
  unfold lg
  rw [E.2]
  apply List.filter_congr
  intro p _
  unfold lgd
  simp only [e3]
theorem op_ed {ow oa : Nat → Nat} {h : Hp} {s s' : St} {o : Nat} (H : OpR ow oa h s o) (E : Ed 240 s s') (ho : o < 240) : OpR ow oa h s' o := by
  obtain ⟨e1, e2, e3, e4, e5, e6⟩ := E.1 o (by omega)
  exact H.cg rfl e5 e6 e1 e2 e3 e4 (fun _ _ => rfl)
set_option maxHeartbeats 1000000 in
theorem l_raise {c c2 a e : Nat} {f g : Nat → Nat} {ow : Nat → Nat} {h0 : Hp} {P : Option Value → Hp → Prop} (k1 : kd h0 c = 2) (k2 : fR h0 32 c = some a) (k3 : kd h0 a = 20) (k4 : ln h0 a = 4) (k5 : kd h0 c2 = 2) (k6 : fR h0 32 c2 = some e) (k7 : kd h0 e = 20) (k8 : ln h0 e = 4) (hae : e ≠ a) (k9 : ∀ j, j < 4 → aI h0 a j = nI (f j)) (k10 : ∀ j, j < 4 → aI h0 e j = nI (g j)) (hf : ∀ j, j < 4 → f j ≤ 1000) (hg : ∀ j, j < 4 → g j ≤ 1000) (hP : ∀ h', Fz (fun q => q = ow a) ow h0 h' → (∀ j, j < 4 → aI h' a j = nI (max (f j) (g j))) → (∀ q, q ≠ a → aI h' q = aI h0 q) → sz h' = sz h0 → sl h' = sl h0 → fR h' = fR h0 → fI h' = fI h0 → P none h') : ∀ (n k : Nat) (h : Hp), k + n = 4 → Fz (fun q => q = ow a) ow h0 h → (∀ j, j < 4 → aI h a j = nI (if j < k then max (f j) (g j) else f j)) → (∀ q, q ≠ a → aI h q = aI h0 q) → sz h = sz h0 → sl h = sl h0 → fR h = fR h0 → fI h = fI h0 → kd h = kd h0 → ln h = ln h0 → Z M_X1_raiseTo k_X1_raiseTo_2 [some (.ref c), some (.ref c2), some (.int (nI k))] [] h P := by
  intro n
  induction n with
  | zero =>
    intro k h hk F A B z1 z2 z3 z4 z5 z6
    obtain rfl : k = 4 := by omega
    rw [k_X1_raiseTo_2]
    simp (disch := first | omega | assumption) only [Z_iconst, Z_bipush, Z_sipush, Z_ldc, Z_ldcM, Z_ldcw, Z_null, Z_getstatic, Z_iload0, Z_aload0, Z_aloadq0, Z_aloadn0, Z_istore0, Z_astore0, Z_astoreq0, Z_astoren0, Z_iinc0, Z_iload1, Z_aload1, Z_aloadq1, Z_aloadn1, Z_istore1, Z_astore1, Z_astoreq1, Z_astoren1, Z_iinc1, Z_iload2, Z_aload2, Z_aloadq2, Z_aloadn2, Z_istore2, Z_astore2, Z_astoreq2, Z_astoren2, Z_iinc2, Z_iload3, Z_aload3, Z_aloadq3, Z_aloadn3, Z_istore3, Z_astore3, Z_astoreq3, Z_astoren3, Z_iinc3, Z_iload4, Z_aload4, Z_aloadq4, Z_aloadn4, Z_istore4, Z_astore4, Z_astoreq4, Z_astoren4, Z_iinc4, Z_iload5, Z_aload5, Z_aloadq5, Z_aloadn5, Z_istore5, Z_astore5, Z_astoreq5, Z_astoren5, Z_iinc5, Z_iload6, Z_aload6, Z_aloadq6, Z_aloadn6, Z_istore6, Z_astore6, Z_astoreq6, Z_astoren6, Z_iinc6, Z_iload7, Z_aload7, Z_aloadq7, Z_aloadn7, Z_istore7, Z_astore7, Z_astoreq7, Z_astoren7, Z_iinc7, Z_iload8, Z_aload8, Z_aloadq8, Z_aloadn8, Z_istore8, Z_astore8, Z_astoreq8, Z_astoren8, Z_iinc8, Z_iload9, Z_aload9, Z_aloadq9, Z_aloadn9, Z_istore9, Z_astore9, Z_astoreq9, Z_astoren9, Z_iinc9, Z_iload10, Z_aload10, Z_aloadq10, Z_aloadn10, Z_istore10, Z_astore10, Z_astoreq10, Z_astoren10, Z_iinc10, Z_iload11, Z_aload11, Z_aloadq11, Z_aloadn11, Z_istore11, Z_astore11, Z_astoreq11, Z_astoren11, Z_iinc11, Z_iload12, Z_aload12, Z_aloadq12, Z_aloadn12, Z_istore12, Z_astore12, Z_astoreq12, Z_astoren12, Z_iinc12, Z_iadd, Z_isub, Z_imul, Z_iand, Z_ior, Z_ishl, Z_ishr, Z_iushr, Z_idiv, Z_irem, Z_dup, Z_dupx1, Z_dup2, Z_pop, Z_if_eq, Z_icmp_eq, Z_if_ne, Z_icmp_ne, Z_if_lt, Z_icmp_lt, Z_if_le, Z_icmp_le, Z_if_ge, Z_icmp_ge, Z_if_gt, Z_icmp_gt, Z_acmp_eqq1, Z_acmp_eqq2, Z_acmp_eqq3, Z_acmp_eqq4, Z_acmp_neq1, Z_acmp_neq2, Z_acmp_neq3, Z_acmp_neq4, Z_ifnull, Z_ifnullN, Z_ifnullq, Z_ifnonnull, Z_ifnonnullN, Z_ifnonnullq, Z_goto, Z_getI, Z_getZ, Z_getR, Z_putI, Z_putR, Z_putN, Z_putQ, Z_putZ, Z_new, Z_newarray, Z_anewarray, Z_alen, Z_cast, Z_objInit, Z_clone, Z_getClass, Z_copy, Z_max, Z_min, Y_iaload, Y_baload, Y_aaload, Y_iastore, Y_bastore, Y_aastore, Y_aastoreN, lt_0p, lt_1n, va_some, va_none, Option.toList_some, Option.toList_none, List.nil_append, List.cons_append, List.length_nil, List.length_cons, true_and, and_true, if_true, if_false, ite_true, ite_false, Nat.zero_le, Nat.not_lt_zero, Nat.reduceLeDiff, Nat.reduceEqDiff, Nat.reduceAdd, Nat.reduceMul, Nat.reduceSub, Nat.reduceLT, Nat.zero_add, not_true_eq_false, not_false_eq_true, true_or, or_true, false_or, or_false, Nat.add_zero, false_and, and_false, exists_eq_left', Option.some.injEq, k_X1_raiseTo_0, sk_X1_raiseTo_2, sk_X1_raiseTo_34, k_X1_raiseTo_34, Q_X1_raiseTo, nI_add, pk_mul, ar_lt, ar_le, ar_eq, z_lt, z_le, z_gt, z_ge, z_eq, z_eq2, ix_nI, nI_clamp, ne_eq, Nat.le_refl]
    exact hP h F (fun j hj => by rw [A j hj, if_pos hj]) B z1 z2 z3 z4
  | succ n ih =>
    intro k h hk F A B z1 z2 z3 z4 z5 z6
    have hk4 : k < 4 := by omega
    have a1 := A k hk4
    rw [if_neg (Nat.lt_irrefl _)] at a1
    have a2 : aI h e k = nI (g k) := by rw [B e hae]; exact k10 k hk4
    have hf4 := hf k hk4
    have hg4 := hg k hk4
    have emx := nI_mx (a := f k) (b := g k)
    rw [← z5] at k1 k3 k5 k7
    rw [← z6] at k4 k8
    rw [← z3] at k2 k6
    rw [k_X1_raiseTo_2]
    simp (disch := first | omega | assumption) only [Z_iconst, Z_bipush, Z_sipush, Z_ldc, Z_ldcM, Z_ldcw, Z_null, Z_getstatic, Z_iload0, Z_aload0, Z_aloadq0, Z_aloadn0, Z_istore0, Z_astore0, Z_astoreq0, Z_astoren0, Z_iinc0, Z_iload1, Z_aload1, Z_aloadq1, Z_aloadn1, Z_istore1, Z_astore1, Z_astoreq1, Z_astoren1, Z_iinc1, Z_iload2, Z_aload2, Z_aloadq2, Z_aloadn2, Z_istore2, Z_astore2, Z_astoreq2, Z_astoren2, Z_iinc2, Z_iload3, Z_aload3, Z_aloadq3, Z_aloadn3, Z_istore3, Z_astore3, Z_astoreq3, Z_astoren3, Z_iinc3, Z_iload4, Z_aload4, Z_aloadq4, Z_aloadn4, Z_istore4, Z_astore4, Z_astoreq4, Z_astoren4, Z_iinc4, Z_iload5, Z_aload5, Z_aloadq5, Z_aloadn5, Z_istore5, Z_astore5, Z_astoreq5, Z_astoren5, Z_iinc5, Z_iload6, Z_aload6, Z_aloadq6, Z_aloadn6, Z_istore6, Z_astore6, Z_astoreq6, Z_astoren6, Z_iinc6, Z_iload7, Z_aload7, Z_aloadq7, Z_aloadn7, Z_istore7, Z_astore7, Z_astoreq7, Z_astoren7, Z_iinc7, Z_iload8, Z_aload8, Z_aloadq8, Z_aloadn8, Z_istore8, Z_astore8, Z_astoreq8, Z_astoren8, Z_iinc8, Z_iload9, Z_aload9, Z_aloadq9, Z_aloadn9, Z_istore9, Z_astore9, Z_astoreq9, Z_astoren9, Z_iinc9, Z_iload10, Z_aload10, Z_aloadq10, Z_aloadn10, Z_istore10, Z_astore10, Z_astoreq10, Z_astoren10, Z_iinc10, Z_iload11, Z_aload11, Z_aloadq11, Z_aloadn11, Z_istore11, Z_astore11, Z_astoreq11, Z_astoren11, Z_iinc11, Z_iload12, Z_aload12, Z_aloadq12, Z_aloadn12, Z_istore12, Z_astore12, Z_astoreq12, Z_astoren12, Z_iinc12, Z_iadd, Z_isub, Z_imul, Z_iand, Z_ior, Z_ishl, Z_ishr, Z_iushr, Z_idiv, Z_irem, Z_dup, Z_dupx1, Z_dup2, Z_pop, Z_if_eq, Z_icmp_eq, Z_if_ne, Z_icmp_ne, Z_if_lt, Z_icmp_lt, Z_if_le, Z_icmp_le, Z_if_ge, Z_icmp_ge, Z_if_gt, Z_icmp_gt, Z_acmp_eqq1, Z_acmp_eqq2, Z_acmp_eqq3, Z_acmp_eqq4, Z_acmp_neq1, Z_acmp_neq2, Z_acmp_neq3, Z_acmp_neq4, Z_ifnull, Z_ifnullN, Z_ifnullq, Z_ifnonnull, Z_ifnonnullN, Z_ifnonnullq, Z_goto, Z_getI, Z_getZ, Z_getR, Z_putI, Z_putR, Z_putN, Z_putQ, Z_putZ, Z_new, Z_newarray, Z_anewarray, Z_alen, Z_cast, Z_objInit, Z_clone, Z_getClass, Z_copy, Z_max, Z_min, Y_iaload, Y_baload, Y_aaload, Y_iastore, Y_bastore, Y_aastore, Y_aastoreN, lt_0p, lt_1n, va_some, va_none, Option.toList_some, Option.toList_none, List.nil_append, List.cons_append, List.length_nil, List.length_cons, true_and, and_true, if_true, if_false, ite_true, ite_false, Nat.zero_le, Nat.not_lt_zero, Nat.reduceLeDiff, Nat.reduceEqDiff, Nat.reduceAdd, Nat.reduceMul, Nat.reduceSub, Nat.reduceLT, Nat.zero_add, not_true_eq_false, not_false_eq_true, true_or, or_true, false_or, or_false, Nat.add_zero, false_and, and_false, exists_eq_left', Option.some.injEq, k_X1_raiseTo_0, sk_X1_raiseTo_2, sk_X1_raiseTo_34, k_X1_raiseTo_34, Q_X1_raiseTo, nI_add, pk_mul, ar_lt, ar_le, ar_eq, z_lt, z_le, z_gt, z_ge, z_eq, z_eq2, ix_nI, nI_clamp, ne_eq, k1, k2, k3, k4, k5, k6, k7, k8, a1, a2, show ¬ 4 ≤ k by omega, hk4]
    rw [emx]
    refine ih (k + 1) _ (by omega) (F.waI (fun _ => rfl)) (fun j hj => ?_) (fun q hq => ?_) (by rw [sz_waI]; exact z1) (by rw [sl_waI]; exact z2) (by rw [fR_waI]; exact z3) (by rw [fI_waI]; exact z4) (by rw [kd_waI]; exact z5) (by rw [ln_waI]; exact z6)
    · rw [aI_waI]
      by_cases hjk : j = k
      · rw [if_pos ⟨rfl, hjk⟩, if_pos (by omega), hjk]
      · rw [if_neg (fun z => hjk z.2), A j hj]
        by_cases h1 : j < k
        · rw [if_pos h1, if_pos (by omega)]
        · rw [if_neg h1, if_neg (by omega)]
    · funext j
      rw [aI_waI, if_neg (fun z => hq z.1), B q hq]
theorem c_raise {c c2 a e : Nat} {f g : Nat → Nat} {ow : Nat → Nat} {h0 : Hp} {P : Option Value → Hp → Prop} (k1 : kd h0 c = 2) (k2 : fR h0 32 c = some a) (k3 : kd h0 a = 20) (k4 : ln h0 a = 4) (k5 : kd h0 c2 = 2) (k6 : fR h0 32 c2 = some e) (k7 : kd h0 e = 20) (k8 : ln h0 e = 4) (hae : e ≠ a) (k9 : ∀ j, j < 4 → aI h0 a j = nI (f j)) (k10 : ∀ j, j < 4 → aI h0 e j = nI (g j)) (hf : ∀ j, j < 4 → f j ≤ 1000) (hg : ∀ j, j < 4 → g j ≤ 1000) (hP : ∀ h', Fz (fun q => q = ow a) ow h0 h' → (∀ j, j < 4 → aI h' a j = nI (max (f j) (g j))) → (∀ q, q ≠ a → aI h' q = aI h0 q) → sz h' = sz h0 → sl h' = sl h0 → fR h' = fR h0 → fI h' = fI h0 → P none h') : Ev M_X1_raiseTo [.ref c, .ref c2] h0 P := by
  have := l_raise k1 k2 k3 k4 k5 k6 k7 k8 hae k9 k10 hf hg hP 4 0 h0 rfl Fz.rf (fun j hj => by rw [if_neg (by omega)]; exact k9 j hj) (fun _ _ => rfl) rfl rfl rfl rfl rfl rfl
  simp (disch := first | omega | assumption) only [Z_iconst, Z_bipush, Z_sipush, Z_ldc, Z_ldcM, Z_ldcw, Z_null, Z_getstatic, Z_iload0, Z_aload0, Z_aloadq0, Z_aloadn0, Z_istore0, Z_astore0, Z_astoreq0, Z_astoren0, Z_iinc0, Z_iload1, Z_aload1, Z_aloadq1, Z_aloadn1, Z_istore1, Z_astore1, Z_astoreq1, Z_astoren1, Z_iinc1, Z_iload2, Z_aload2, Z_aloadq2, Z_aloadn2, Z_istore2, Z_astore2, Z_astoreq2, Z_astoren2, Z_iinc2, Z_iload3, Z_aload3, Z_aloadq3, Z_aloadn3, Z_istore3, Z_astore3, Z_astoreq3, Z_astoren3, Z_iinc3, Z_iload4, Z_aload4, Z_aloadq4, Z_aloadn4, Z_istore4, Z_astore4, Z_astoreq4, Z_astoren4, Z_iinc4, Z_iload5, Z_aload5, Z_aloadq5, Z_aloadn5, Z_istore5, Z_astore5, Z_astoreq5, Z_astoren5, Z_iinc5, Z_iload6, Z_aload6, Z_aloadq6, Z_aloadn6, Z_istore6, Z_astore6, Z_astoreq6, Z_astoren6, Z_iinc6, Z_iload7, Z_aload7, Z_aloadq7, Z_aloadn7, Z_istore7, Z_astore7, Z_astoreq7, Z_astoren7, Z_iinc7, Z_iload8, Z_aload8, Z_aloadq8, Z_aloadn8, Z_istore8, Z_astore8, Z_astoreq8, Z_astoren8, Z_iinc8, Z_iload9, Z_aload9, Z_aloadq9, Z_aloadn9, Z_istore9, Z_astore9, Z_astoreq9, Z_astoren9, Z_iinc9, Z_iload10, Z_aload10, Z_aloadq10, Z_aloadn10, Z_istore10, Z_astore10, Z_astoreq10, Z_astoren10, Z_iinc10, Z_iload11, Z_aload11, Z_aloadq11, Z_aloadn11, Z_istore11, Z_astore11, Z_astoreq11, Z_astoren11, Z_iinc11, Z_iload12, Z_aload12, Z_aloadq12, Z_aloadn12, Z_istore12, Z_astore12, Z_astoreq12, Z_astoren12, Z_iinc12, Z_iadd, Z_isub, Z_imul, Z_iand, Z_ior, Z_ishl, Z_ishr, Z_iushr, Z_idiv, Z_irem, Z_dup, Z_dupx1, Z_dup2, Z_pop, Z_if_eq, Z_icmp_eq, Z_if_ne, Z_icmp_ne, Z_if_lt, Z_icmp_lt, Z_if_le, Z_icmp_le, Z_if_ge, Z_icmp_ge, Z_if_gt, Z_icmp_gt, Z_acmp_eqq1, Z_acmp_eqq2, Z_acmp_eqq3, Z_acmp_eqq4, Z_acmp_neq1, Z_acmp_neq2, Z_acmp_neq3, Z_acmp_neq4, Z_ifnull, Z_ifnullN, Z_ifnullq, Z_ifnonnull, Z_ifnonnullN, Z_ifnonnullq, Z_goto, Z_getI, Z_getZ, Z_getR, Z_putI, Z_putR, Z_putN, Z_putQ, Z_putZ, Z_new, Z_newarray, Z_anewarray, Z_alen, Z_cast, Z_objInit, Z_clone, Z_getClass, Z_copy, Z_max, Z_min, Y_iaload, Y_baload, Y_aaload, Y_iastore, Y_bastore, Y_aastore, Y_aastoreN, lt_0p, lt_1n, va_some, va_none, Option.toList_some, Option.toList_none, List.nil_append, List.cons_append, List.length_nil, List.length_cons, true_and, and_true, if_true, if_false, ite_true, ite_false, Nat.zero_le, Nat.not_lt_zero, Nat.reduceLeDiff, Nat.reduceEqDiff, Nat.reduceAdd, Nat.reduceMul, Nat.reduceSub, Nat.reduceLT, Nat.zero_add, not_true_eq_false, not_false_eq_true, true_or, or_true, false_or, or_false, Nat.add_zero, false_and, and_false, exists_eq_left', Option.some.injEq, k_X1_raiseTo_0, sk_X1_raiseTo_2, sk_X1_raiseTo_34, k_X1_raiseTo_34, Q_X1_raiseTo, E_X1_raiseTo, this]
theorem kno_kwn {s : St} {r q i j : Nat} {c : Nat → Nat} (hj : j < 4) (hq : q ≠ r) : kno (kwn s r q c 4) r i j = if i = q then max (kno s r q j) (c j) else kno s r i j := by
  unfold kno
  show (if r = i then sOw s r j else fu (sKw s) r (fu (sKw s r) q (fun j => if j < 4 then max (sKw s r q j) (c j) else sKw s r q j)) r i j) = _
  rw [fu_at, if_pos rfl, fu_at]
  by_cases h1 : i = q
  · rw [if_neg (by omega), if_pos h1, if_pos hj, if_pos h1, if_neg (fun z => hq z.symm)]
  · rw [if_neg h1, if_neg h1]
theorem kno_kwn0 {s : St} {r i j : Nat} {c : Nat → Nat} : kno (kwn s r r c 4) r i j = kno s r i j := by
  unfold kno
  show (if r = i then sOw s r j else fu (sKw s) r (fu (sKw s r) r (fun j => if j < 4 then max (sKw s r r j) (c j) else sKw s r r j)) r i j) = _
  rw [fu_at, if_pos rfl, fu_at]
  by_cases h1 : r = i
  · rw [if_pos h1, if_pos h1]
  · rw [if_neg h1, if_neg h1, if_neg (fun z => h1 z.symm)]
theorem kno_kwnx {s : St} {r r' q i j : Nat} {c : Nat → Nat} (h : r' ≠ r) : kno (kwn s r q c 4) r' i j = kno s r' i j := by
  unfold kno
  show (if r' = i then sOw s r' j else fu (sKw s) r _ r' i j) = _
  rw [fu_at, if_neg h]
theorem Ed_kwn (s : St) (r q : Nat) (c : Nat → Nat) : Ed 240 s (kwn s r q c 4) := gt_eta rfl rfl rfl rfl rfl rfl rfl
theorem lg_kwn {s : St} {r q : Nat} {c : Nat → Nat} (hB : Bd s) (hr : r < 4) (hq : q ≠ r) : (lg s r).filter (fun o => ! dnF (fun i => kno (kwn s r q c 4) r i (o / 60)) (o % 60 + 1) 4 0) = lg (kwn s r q c 4) r := by
  unfold lg
  rw [List.filter_filter]
  show _ = (sDn s r).filter _
  apply List.filter_congr
  intro p hp
  have hp2 := (hB.2.2.1 r hr).2.2.2.1 p hp
  rw [dnF_lgd, Bool.not_not]
  cases h1 : lgd (kwn s r q c 4) r p with
  | false => rfl
  | true =>
    rw [Bool.true_and]
    unfold lgd at h1 ⊢
    rw [decide_eq_true_eq] at h1 ⊢
    have le : ∀ i, kno s r i (p / 60) ≤ kno (kwn s r q c 4) r i (p / 60) := fun i => by
      rw [kno_kwn (by omega) hq]
      split
      · rename_i h; rw [h]; exact Nat.le_max_left _ _
      · exact Nat.le_refl _
    have := le 0; have := le 1; have := le 2; have := le 3
    omega
theorem TA_kwn {s : St} {tx : Nat → Nat → List Nat} {r q : Nat} {c : Nat → Nat} (hB : Bd s) (T : TA s tx) : TA (kwn s r q c 4) tx := (Ed_kwn s r q c).xTA (fun _ hr => dn_240 hB hr) T
theorem Ph_kwn {s : St} {r q : Nat} {c : Nat → Nat} : Ph (kwn s r q c 4) = Ph s := rfl
set_option maxHeartbeats 1000000 in
/-- what is known grows, and the log becomes shorter -/
theorem c_heed {x r sd c : Nat} {g : Nat → Nat} {ow oa : Nat → Nat} {la : Nat → Nat → Nat} {tx : Nat → Nat → List Nat} {h : Hp} {s : St} {E2 Q : Option Value → Hp → Prop} (C : CR ow oa la tx h x s) (G : GI s) (hr : r < 4) (hs : sd < 4) (hne : sd ≠ r) (K : CkR ow h c g) (hg : ∀ j, j < 4 → g j ≤ 60) (hP : ∀ h', CR ow oa la tx h' x (kwn s r sd g 4) → Fz (Bk x r) ow h h' → sz h' = sz h → sl h' = sl h → E2 none h') (hQ : ∀ h1, Ev M_X5_shortenLog [.ref (rb x r)] h1 E2 → kd h1 (rb x r) = 6 → Q none h1) : Ev M_X1_raiseTo [.ref (rb x r + 8 + 2 * sd), .ref c] h Q := by
  have X := C.fx.r r hr
  have R := C.rp r hr
  have hbz := rb_sz C.fx hr
  have hz := C.fx.s
  obtain ⟨c1, c2, c3, c4, c5, c6⟩ := X.ck sd hs
  obtain ⟨k1, k2, e, k3, k4, k5, k6, k7, k8⟩ := K
  have hkb : ∀ i j, i < 4 → j < 4 → kno s r i j ≤ 60 := fun i j hi hj => by
    have hb := G.1.2.2.1 r hr
    unfold kno
    split
    · exact hb.2.2.2.2.2.1 _ hj
    · exact hb.2.2.2.2.2.2 i _ hi hj
  refine c_raise (f := fun j => kno s r sd j) (g := g) (ow := ow) c2 c3 c4 c5 k2 k3 k5 k6 (fun z => by rw [z, c6] at k7; omega) (fun j hj => R.kn sd j hs hj) k8 (fun j hj => Nat.le_trans (hkb sd j hs hj) (by decide)) (fun j hj => Nat.le_trans (hg j hj) (by decide)) (fun h1 F1 a1 b1 z1 y1 e1 e2 => ?_)
  rw [c6] at F1
  have n0 : ¬ (0 = rb x r + 1) := by omega
  have X1 := X.fz F1 Og.rf n0 C.fx.o1 hr (by omega)
  have kn1 : ∀ i j, i < 4 → j < 4 → aI h1 (rb x r + 9 + 2 * i) j = nI (kno (kwn s r sd g 4) r i j) := fun i j hi hj => by
    rw [kno_kwn hj hne]
    by_cases hi2 : i = sd
    · rw [if_pos hi2, hi2]; exact a1 j hj
    · rw [if_neg hi2, b1 _ (by omega)]; exact R.kn i j hi hj
  have L1 := R.lg.fz F1 Og.rf (by omega)
  have hll : (lg s r).length ≤ 240 := Nat.le_trans (List.length_filter_le _ _) (G.1.2.2.1 r hr).2.1
  have G2 : GI (kwn s r sd g 4) := G.xkwn hr hs hg
  have hkb2 : ∀ i j, i < 4 → j < 4 → kno (kwn s r sd g 4) r i j ≤ 1000 := fun i j hi hj => by
    have hb := G2.1.2.2.1 r hr
    unfold kno
    split
    · exact Nat.le_trans (hb.2.2.2.2.2.1 _ hj) (by decide)
    · exact Nat.le_trans (hb.2.2.2.2.2.2 i _ hi hj) (by decide)
  refine hQ h1 ?_ X1.k
  refine c_cShort (s := s) X1 C.fx.o1 (by omega) hr kn1 hkb2 (fun o ho => ?_) hll L1 (fun h2 F2 L2 z2 y2 => ?_)
  · have hd : o ∈ sDn s r := (List.mem_filter.mp ho).1
    exact ⟨(G.1.2.2.1 r hr).2.2.2.1 o hd, (C.op o (mad_dn G.2 hr hd)).fz F1 Og.rf n0⟩
  · rw [lg_kwn G.1 hr hne] at L2
    have F : Fz (Bk x r) ow h h2 := (F1.mo (fun q hq => by unfold Bk; omega)).tr' (F2.mo (fun q hq => by unfold Bk; omega))
    have n6 : ¬ (0 = rb x r + 6) := by omega
    have X2 := X1.fz F2 Og.rf n6 C.fx.o1 hr (by omega)
    have E := Ed_kwn s r sd g
    refine hP h2 ⟨C.fx.fz F Og.rf bk_0, fun o ho => op_ed ((C.op o ho).fz F Og.rf bk_0) E ho.1, fun r' hr' => ?_, fun w hw => (C.wy w hw).fz F Og.rf bk_0 (fun z => wl_nb hr z rfl)⟩ F (z2.trans z1) (y2.trans y1)
    by_cases h1' : r' = r
    · subst h1'
      have hd := dn_240 G.1 hr
      have u2 := (F2.un (q := rb x r') (by omega) (by rw [X1.o0]; omega)).1
      have u1 := (F1.un (q := rb x r') (by omega) (by rw [X.o0]; omega)).1
      refine ⟨?_, ?_, fun i j hi hj => ?_, fun c hc => ?_, ?_, fun c hc => ?_, L2, (R.wt.fz F1 Og.rf (by omega)).fz F2 Og.rf (by omega), fun t ht => ?_⟩
      · exact ((u2 168).1.trans (u1 168).1).trans R.ti
      · exact ((u2 169).1.trans (u1 169).1).trans R.up
      · rw [(F2.un (by omega) (by rw [(X1.ck i hi).2.2.2.2.2]; omega)).2.1]; exact kn1 i j hi hj
      · rw [fz_sm (oa := oa) X1 F2 (by omega) (by omega), fz_sm (oa := oa) X F1 hbz (by omega), E.xcs hd]; exact R.sm c hc
      · rw [E.xsp hd]; exact (R.sp.fz F1 Og.rf (by omega)).fz F2 Og.rf (by omega)
      · rw [fz_wr (oa := oa) X1 F2 (by omega) (by omega), fz_wr (oa := oa) X F1 hbz (by omega), E.xwr hd]; exact R.wr c hc
      · rw [fz_t X1 F2 (by omega) ht (by omega), fz_t X F1 hbz ht (by omega), show rmd (kwn s r' sd g 4) r' = rmd s r' from funext (fun q => E.xrmd hd q)]
        exact Sgm.fz F2 Og.rf (by omega) _ _ (Sgm.fz F1 Og.rf (by omega) _ _ (R.tx t ht))
    · have R' := (C.rp r' hr').fz (C.fx.r r' hr') F Og.rf (fun q hq => rb_ne (fun z => h1' z.symm) hq) (rb_sz C.fx hr')
      exact rp_sx R' E (dn_240 G.1 hr') rfl rfl (fun i j => kno_kwnx h1') rfl
/-- a replica's own row is not written -/
theorem CR_kwn0 {x r : Nat} {g : Nat → Nat} {ow oa : Nat → Nat} {la : Nat → Nat → Nat} {tx : Nat → Nat → List Nat} {h : Hp} {s : St} (C : CR ow oa la tx h x s) (hB : Bd s) : CR ow oa la tx h x (kwn s r r g 4) := by
  have E := Ed_kwn s r r g
  refine ⟨C.fx, fun o ho => op_ed (C.op o ho) E ho.1, fun r' hr' => rp_sx (C.rp r' hr') E (dn_240 hB hr') rfl rfl (fun i j => ?_) rfl, fun w hw => C.wy w hw⟩
  by_cases h1 : r' = r
  · rw [h1]; exact kno_kwn0
  · exact kno_kwnx h1
/-! one waiting operation after the other is done -/
theorem CR_wt {x r : Nat} {l : List Nat} {S : Nat → Prop} {ow ow' oa : Nat → Nat} {la : Nat → Nat → Nat} {tx : Nat → Nat → List Nat} {h h' : Hp} {s : St} (C : CR ow oa la tx h x s) (hB : Bd s) (hr : r < 4) (F : Fz (fun q => q = rb x r + 7) ow h h') (O : Og (sz h) ow ow') (L : Ls ow' h' (rb x r + 7) (l.map oa)) : CR ow' oa la tx h' x (w_sWt s (fu (sWt s) r l)) := by
  have E : Ed 240 s (w_sWt s (fu (sWt s) r l)) := gt_eta rfl rfl rfl rfl rfl rfl rfl
  have n0 : ¬ (0 = rb x r + 7) := by omega
  have hbz := rb_sz C.fx hr
  refine ⟨C.fx.fz F O n0, fun o ho => op_ed ((C.op o ho).fz F O n0) E ho.1, fun r' hr' => ?_, fun w hw => (C.wy w hw).fz F O n0 (by unfold wl rb; omega)⟩
  by_cases h1 : r' = r
  · subst h1
    have X := C.fx.r r' hr'
    have R := C.rp r' hr'
    have hd := dn_240 hB hr'
    have u1 := (F.un (q := rb x r') (by omega) (by rw [X.o0]; omega)).1
    refine ⟨(u1 168).1.trans R.ti, (u1 169).1.trans R.up, fun i j hi hj => ?_, fun c hc => ?_, ?_, fun c hc => ?_, ?_, ?_, fun t ht => ?_⟩
    · rw [(F.un (by omega) (by rw [(X.ck i hi).2.2.2.2.2]; omega)).2.1]; exact R.kn i j hi hj
    · rw [fz_sm (oa := oa) X F hbz (by omega), E.xcs hd]; exact R.sm c hc
    · rw [E.xsp hd]; exact R.sp.fz F O (by omega)
    · rw [fz_wr (oa := oa) X F hbz (by omega), E.xwr hd]; exact R.wr c hc
    · exact R.lg.fz F O (by omega)
    · show Ls ow' h' _ ((fu (sWt s) r' l r').map oa)
      rw [fu_at, if_pos rfl]; exact L
    · rw [fz_t X F hbz ht (by omega), show rmd (w_sWt s (fu (sWt s) r' l)) r' = rmd s r' from funext (fun q => E.xrmd hd q)]
      exact Sgm.fz F O (by omega) _ _ (R.tx t ht)
  · have R' := (C.rp r' hr').fz (C.fx.r r' hr') F O (fun q hq => by unfold Bk rb at hq; unfold rb; omega) (rb_sz C.fx hr')
    exact rp_sx R' E (dn_240 hB hr') rfl rfl (fun i j => rfl) (by show fu (sWt s) r l r' = _; rw [fu_at, if_neg h1])
theorem TA_wt {s : St} {tx : Nat → Nat → List Nat} {v : Nat → List Nat} (hB : Bd s) (T : TA s tx) : TA (w_sWt s v) tx := (show Ed 240 s (w_sWt s v) from gt_eta rfl rfl rfl rfl rfl rfl rfl).xTA (fun _ hr => dn_240 hB hr) T
theorem Dk_stp {s : St} {r k : Nat} (G : GI s) (hr : r < 4) (hk : k < (sWt s r).length) (hy : rdy s r ((sWt s r).getD k 0) = true) : Dk (wto s r k) r ((sWt s r).getD k 0) := by
  have h6 := G.2.i6 r hr _ (getD_mem hk)
  exact ⟨hr, h6.1.1, (rdy_iff.mp hy).1, fun p hp j hj => G.2.i11 r hr p hp j hj, h6.2, G.xstp1 hr hk hy⟩
theorem fri_nil {s : St} {r : Nat} (h : sWt s r = []) : fri s r (sWt s r) 0 = none := by rw [h]; rfl
theorem nI_m1 {k : Nat} (hk : k < 1000) : (nI k = - nI 1) = False := propext ⟨fun z => by
  have : (nI k : Int32) < 0 := by rw [z]; decide
  rw [z_lt (by omega)] at this
  exact this, False.elim⟩
set_option maxHeartbeats 1000000 in
theorem l_cFin {x r most : Nat} {oa : Nat → Nat} {P : Option Value → Hp → Prop} (hr : r < 4) (hmo : most ≤ 240) : ∀ (d c : Nat) (ow : Nat → Nat) (la : Nat → Nat → Nat) (tx : Nat → Nat → List Nat) (h : Hp) (s : St) (v3 : Option Value), c + d = most → (sWt s r).length = d → CR ow oa la tx h x s → GI s → TA s tx → (∀ ow' la' tx' h', CR ow' oa la' tx' h' x (tkF r (d + 1) c s).2 → TA (tkF r (d + 1) c s).2 tx' → Nx x (Bk x r) ow ow' h h' s (tkF r (d + 1) c s).2 0 0 → P (some (.int (nI (tkF r (d + 1) c s).1))) h') → Z M_X5_finishWaiting k_X5_finishWaiting_10 [some (.ref (rb x r)), some (.int (nI most)), some (.int (nI c)), v3] [] h P := by
  intro d
  induction d with
  | zero =>
    intro c ow la tx h s v3 hc hw C G T hP
    obtain rfl : c = most := by omega
    have e : tkF r 1 c s = (c, s) := by
      unfold tkF
      rw [fri_nil (List.eq_nil_of_length_eq_zero hw)]
    rw [show (0 + 1 : Nat) = 1 from rfl, e] at hP
    rw [k_X5_finishWaiting_10]
    simp (disch := first | omega | assumption) only [Z_iconst, Z_bipush, Z_sipush, Z_ldc, Z_ldcM, Z_ldcw, Z_null, Z_getstatic, Z_iload0, Z_aload0, Z_aloadq0, Z_aloadn0, Z_istore0, Z_astore0, Z_astoreq0, Z_astoren0, Z_iinc0, Z_iload1, Z_aload1, Z_aloadq1, Z_aloadn1, Z_istore1, Z_astore1, Z_astoreq1, Z_astoren1, Z_iinc1, Z_iload2, Z_aload2, Z_aloadq2, Z_aloadn2, Z_istore2, Z_astore2, Z_astoreq2, Z_astoren2, Z_iinc2, Z_iload3, Z_aload3, Z_aloadq3, Z_aloadn3, Z_istore3, Z_astore3, Z_astoreq3, Z_astoren3, Z_iinc3, Z_iload4, Z_aload4, Z_aloadq4, Z_aloadn4, Z_istore4, Z_astore4, Z_astoreq4, Z_astoren4, Z_iinc4, Z_iload5, Z_aload5, Z_aloadq5, Z_aloadn5, Z_istore5, Z_astore5, Z_astoreq5, Z_astoren5, Z_iinc5, Z_iload6, Z_aload6, Z_aloadq6, Z_aloadn6, Z_istore6, Z_astore6, Z_astoreq6, Z_astoren6, Z_iinc6, Z_iload7, Z_aload7, Z_aloadq7, Z_aloadn7, Z_istore7, Z_astore7, Z_astoreq7, Z_astoren7, Z_iinc7, Z_iload8, Z_aload8, Z_aloadq8, Z_aloadn8, Z_istore8, Z_astore8, Z_astoreq8, Z_astoren8, Z_iinc8, Z_iload9, Z_aload9, Z_aloadq9, Z_aloadn9, Z_istore9, Z_astore9, Z_astoreq9, Z_astoren9, Z_iinc9, Z_iload10, Z_aload10, Z_aloadq10, Z_aloadn10, Z_istore10, Z_astore10, Z_astoreq10, Z_astoren10, Z_iinc10, Z_iload11, Z_aload11, Z_aloadq11, Z_aloadn11, Z_istore11, Z_astore11, Z_astoreq11, Z_astoren11, Z_iinc11, Z_iload12, Z_aload12, Z_aloadq12, Z_aloadn12, Z_istore12, Z_astore12, Z_astoreq12, Z_astoren12, Z_iinc12, Z_iadd, Z_isub, Z_imul, Z_iand, Z_ior, Z_ishl, Z_ishr, Z_iushr, Z_idiv, Z_irem, Z_dup, Z_dupx1, Z_dup2, Z_pop, Z_if_eq, Z_icmp_eq, Z_if_ne, Z_icmp_ne, Z_if_lt, Z_icmp_lt, Z_if_le, Z_icmp_le, Z_if_ge, Z_icmp_ge, Z_if_gt, Z_icmp_gt, Z_acmp_eqq1, Z_acmp_eqq2, Z_acmp_eqq3, Z_acmp_eqq4, Z_acmp_neq1, Z_acmp_neq2, Z_acmp_neq3, Z_acmp_neq4, Z_ifnull, Z_ifnullN, Z_ifnullq, Z_ifnonnull, Z_ifnonnullN, Z_ifnonnullq, Z_goto, Z_getI, Z_getZ, Z_getR, Z_putI, Z_putR, Z_putN, Z_putQ, Z_putZ, Z_new, Z_newarray, Z_anewarray, Z_alen, Z_cast, Z_objInit, Z_clone, Z_getClass, Z_copy, Z_max, Z_min, Y_iaload, Y_baload, Y_aaload, Y_iastore, Y_bastore, Y_aastore, Y_aastoreN, lt_0p, lt_1n, va_some, va_none, Option.toList_some, Option.toList_none, List.nil_append, List.cons_append, List.length_nil, List.length_cons, true_and, and_true, if_true, if_false, ite_true, ite_false, Nat.zero_le, Nat.not_lt_zero, Nat.reduceLeDiff, Nat.reduceEqDiff, Nat.reduceAdd, Nat.reduceMul, Nat.reduceSub, Nat.reduceLT, Nat.zero_add, not_true_eq_false, not_false_eq_true, true_or, or_true, false_or, or_false, Nat.add_zero, false_and, and_false, exists_eq_left', Option.some.injEq, k_X5_finishWaiting_0, sk_X5_finishWaiting_10, sk_X5_finishWaiting_27, k_X5_finishWaiting_27, sk_X5_finishWaiting_48, k_X5_finishWaiting_48, Q_X5_finishWaiting, C_AL_size_8abf5, C_X5_firstReady, C_AL_remove_915e3, C_X5_finish, nI_add, pk_mul, ar_lt, ar_le, ar_eq, z_lt, z_le, z_gt, z_ge, z_eq, z_eq2, ix_nI, nI_clamp, ne_eq, Nat.le_refl]
    exact hP ow la tx h C T ⟨Fz.rf, Og.rf, Nat.le_refl _, Nat.le_refl _⟩
  | succ d ih =>
    intro c ow la tx h s v3 hc hw C G T hP
    have X := C.fx.r r hr
    have R := C.rp r hr
    have ef := fun P => e_cFirst (P := P) X R C.op G hr
    unfold tkF at hP
    rw [k_X5_finishWaiting_10]
    cases hf : fri s r (sWt s r) 0 with
    | none =>
      rw [hf] at hP ef
      simp (disch := first | omega | assumption) only [Z_iconst, Z_bipush, Z_sipush, Z_ldc, Z_ldcM, Z_ldcw, Z_null, Z_getstatic, Z_iload0, Z_aload0, Z_aloadq0, Z_aloadn0, Z_istore0, Z_astore0, Z_astoreq0, Z_astoren0, Z_iinc0, Z_iload1, Z_aload1, Z_aloadq1, Z_aloadn1, Z_istore1, Z_astore1, Z_astoreq1, Z_astoren1, Z_iinc1, Z_iload2, Z_aload2, Z_aloadq2, Z_aloadn2, Z_istore2, Z_astore2, Z_astoreq2, Z_astoren2, Z_iinc2, Z_iload3, Z_aload3, Z_aloadq3, Z_aloadn3, Z_istore3, Z_astore3, Z_astoreq3, Z_astoren3, Z_iinc3, Z_iload4, Z_aload4, Z_aloadq4, Z_aloadn4, Z_istore4, Z_astore4, Z_astoreq4, Z_astoren4, Z_iinc4, Z_iload5, Z_aload5, Z_aloadq5, Z_aloadn5, Z_istore5, Z_astore5, Z_astoreq5, Z_astoren5, Z_iinc5, Z_iload6, Z_aload6, Z_aloadq6, Z_aloadn6, Z_istore6, Z_astore6, Z_astoreq6, Z_astoren6, Z_iinc6, Z_iload7, Z_aload7, Z_aloadq7, Z_aloadn7, Z_istore7, Z_astore7, Z_astoreq7, Z_astoren7, Z_iinc7, Z_iload8, Z_aload8, Z_aloadq8, Z_aloadn8, Z_istore8, Z_astore8, Z_astoreq8, Z_astoren8, Z_iinc8, Z_iload9, Z_aload9, Z_aloadq9, Z_aloadn9, Z_istore9, Z_astore9, Z_astoreq9, Z_astoren9, Z_iinc9, Z_iload10, Z_aload10, Z_aloadq10, Z_aloadn10, Z_istore10, Z_astore10, Z_astoreq10, Z_astoren10, Z_iinc10, Z_iload11, Z_aload11, Z_aloadq11, Z_aloadn11, Z_istore11, Z_astore11, Z_astoreq11, Z_astoren11, Z_iinc11, Z_iload12, Z_aload12, Z_aloadq12, Z_aloadn12, Z_istore12, Z_astore12, Z_astoreq12, Z_astoren12, Z_iinc12, Z_iadd, Z_isub, Z_imul, Z_iand, Z_ior, Z_ishl, Z_ishr, Z_iushr, Z_idiv, Z_irem, Z_dup, Z_dupx1, Z_dup2, Z_pop, Z_if_eq, Z_icmp_eq, Z_if_ne, Z_icmp_ne, Z_if_lt, Z_icmp_lt, Z_if_le, Z_icmp_le, Z_if_ge, Z_icmp_ge, Z_if_gt, Z_icmp_gt, Z_acmp_eqq1, Z_acmp_eqq2, Z_acmp_eqq3, Z_acmp_eqq4, Z_acmp_neq1, Z_acmp_neq2, Z_acmp_neq3, Z_acmp_neq4, Z_ifnull, Z_ifnullN, Z_ifnullq, Z_ifnonnull, Z_ifnonnullN, Z_ifnonnullq, Z_goto, Z_getI, Z_getZ, Z_getR, Z_putI, Z_putR, Z_putN, Z_putQ, Z_putZ, Z_new, Z_newarray, Z_anewarray, Z_alen, Z_cast, Z_objInit, Z_clone, Z_getClass, Z_copy, Z_max, Z_min, Y_iaload, Y_baload, Y_aaload, Y_iastore, Y_bastore, Y_aastore, Y_aastoreN, lt_0p, lt_1n, va_some, va_none, Option.toList_some, Option.toList_none, List.nil_append, List.cons_append, List.length_nil, List.length_cons, true_and, and_true, if_true, if_false, ite_true, ite_false, Nat.zero_le, Nat.not_lt_zero, Nat.reduceLeDiff, Nat.reduceEqDiff, Nat.reduceAdd, Nat.reduceMul, Nat.reduceSub, Nat.reduceLT, Nat.zero_add, not_true_eq_false, not_false_eq_true, true_or, or_true, false_or, or_false, Nat.add_zero, false_and, and_false, exists_eq_left', Option.some.injEq, k_X5_finishWaiting_0, sk_X5_finishWaiting_10, sk_X5_finishWaiting_27, k_X5_finishWaiting_27, sk_X5_finishWaiting_48, k_X5_finishWaiting_48, Q_X5_finishWaiting, C_AL_size_8abf5, C_X5_firstReady, C_AL_remove_915e3, C_X5_finish, nI_add, pk_mul, ar_lt, ar_le, ar_eq, z_lt, z_le, z_gt, z_ge, z_eq, z_eq2, ix_nI, nI_clamp, ne_eq, show ¬ most ≤ c by omega, X.k, ef, bhI]
      exact hP ow la tx h C T ⟨Fz.rf, Og.rf, Nat.le_refl _, Nat.le_refl _⟩
    | some k =>
      obtain ⟨hk, hy⟩ := fri_mem hf
      rw [hf] at hP ef
      have hB := G.1
      have D := Dk_stp G hr hk hy
      have hml : ((sWt s r).map oa).length = (sWt s r).length := List.length_map ..
      have O := C.op _ (G.2.i6 r hr _ (getD_mem hk)).1
      have ok := O.k
      have os := O.s
      have nk := nI_m1 (k := k) (by have := (G.1.2.2.1 r hr).2.2.1; omega)
      simp (disch := first | omega | assumption) only [Z_iconst, Z_bipush, Z_sipush, Z_ldc, Z_ldcM, Z_ldcw, Z_null, Z_getstatic, Z_iload0, Z_aload0, Z_aloadq0, Z_aloadn0, Z_istore0, Z_astore0, Z_astoreq0, Z_astoren0, Z_iinc0, Z_iload1, Z_aload1, Z_aloadq1, Z_aloadn1, Z_istore1, Z_astore1, Z_astoreq1, Z_astoren1, Z_iinc1, Z_iload2, Z_aload2, Z_aloadq2, Z_aloadn2, Z_istore2, Z_astore2, Z_astoreq2, Z_astoren2, Z_iinc2, Z_iload3, Z_aload3, Z_aloadq3, Z_aloadn3, Z_istore3, Z_astore3, Z_astoreq3, Z_astoren3, Z_iinc3, Z_iload4, Z_aload4, Z_aloadq4, Z_aloadn4, Z_istore4, Z_astore4, Z_astoreq4, Z_astoren4, Z_iinc4, Z_iload5, Z_aload5, Z_aloadq5, Z_aloadn5, Z_istore5, Z_astore5, Z_astoreq5, Z_astoren5, Z_iinc5, Z_iload6, Z_aload6, Z_aloadq6, Z_aloadn6, Z_istore6, Z_astore6, Z_astoreq6, Z_astoren6, Z_iinc6, Z_iload7, Z_aload7, Z_aloadq7, Z_aloadn7, Z_istore7, Z_astore7, Z_astoreq7, Z_astoren7, Z_iinc7, Z_iload8, Z_aload8, Z_aloadq8, Z_aloadn8, Z_istore8, Z_astore8, Z_astoreq8, Z_astoren8, Z_iinc8, Z_iload9, Z_aload9, Z_aloadq9, Z_aloadn9, Z_istore9, Z_astore9, Z_astoreq9, Z_astoren9, Z_iinc9, Z_iload10, Z_aload10, Z_aloadq10, Z_aloadn10, Z_istore10, Z_astore10, Z_astoreq10, Z_astoren10, Z_iinc10, Z_iload11, Z_aload11, Z_aloadq11, Z_aloadn11, Z_istore11, Z_astore11, Z_astoreq11, Z_astoren11, Z_iinc11, Z_iload12, Z_aload12, Z_aloadq12, Z_aloadn12, Z_istore12, Z_astore12, Z_astoreq12, Z_astoren12, Z_iinc12, Z_iadd, Z_isub, Z_imul, Z_iand, Z_ior, Z_ishl, Z_ishr, Z_iushr, Z_idiv, Z_irem, Z_dup, Z_dupx1, Z_dup2, Z_pop, Z_if_eq, Z_icmp_eq, Z_if_ne, Z_icmp_ne, Z_if_lt, Z_icmp_lt, Z_if_le, Z_icmp_le, Z_if_ge, Z_icmp_ge, Z_if_gt, Z_icmp_gt, Z_acmp_eqq1, Z_acmp_eqq2, Z_acmp_eqq3, Z_acmp_eqq4, Z_acmp_neq1, Z_acmp_neq2, Z_acmp_neq3, Z_acmp_neq4, Z_ifnull, Z_ifnullN, Z_ifnullq, Z_ifnonnull, Z_ifnonnullN, Z_ifnonnullq, Z_goto, Z_getI, Z_getZ, Z_getR, Z_putI, Z_putR, Z_putN, Z_putQ, Z_putZ, Z_new, Z_newarray, Z_anewarray, Z_alen, Z_cast, Z_objInit, Z_clone, Z_getClass, Z_copy, Z_max, Z_min, Y_iaload, Y_baload, Y_aaload, Y_iastore, Y_bastore, Y_aastore, Y_aastoreN, lt_0p, lt_1n, va_some, va_none, Option.toList_some, Option.toList_none, List.nil_append, List.cons_append, List.length_nil, List.length_cons, true_and, and_true, if_true, if_false, ite_true, ite_false, Nat.zero_le, Nat.not_lt_zero, Nat.reduceLeDiff, Nat.reduceEqDiff, Nat.reduceAdd, Nat.reduceMul, Nat.reduceSub, Nat.reduceLT, Nat.zero_add, not_true_eq_false, not_false_eq_true, true_or, or_true, false_or, or_false, Nat.add_zero, false_and, and_false, exists_eq_left', Option.some.injEq, k_X5_finishWaiting_0, sk_X5_finishWaiting_10, sk_X5_finishWaiting_27, k_X5_finishWaiting_27, sk_X5_finishWaiting_48, k_X5_finishWaiting_48, Q_X5_finishWaiting, C_AL_size_8abf5, C_X5_firstReady, C_AL_remove_915e3, C_X5_finish, nI_add, pk_mul, ar_lt, ar_le, ar_eq, z_lt, z_le, z_gt, z_ge, z_eq, z_eq2, ix_nI, nI_clamp, ne_eq, show ¬ most ≤ c by omega, X.k, X.f7, R.wt.1, ef, bhI, nk]
      refine c_alRem R.wt (by rw [hml]; exact hk) (fun h1 hm => ?_)
      obtain ⟨m1, m2, m3, m4⟩ := hm
      rw [map_getD hk]
      have ok1 : kd h1 (oa ((sWt s r).getD k 0)) = 5 := (m1.kp os).1.trans ok
      have X1 := X.fz m1 Og.rf (show ¬ (0 = rb x r + 7) by omega) C.fx.o1 hr (by have := C.fx.s; omega)
      rw [map_erase] at m2
      have C1 : CR ow oa la tx h1 x (wto s r k) := CR_wt (S := fun _ => False) C hB hr m1 Og.rf m2
      have T1 : TA (wto s r k) tx := TA_wt hB T
      simp (disch := first | omega | assumption) only [Z_iconst, Z_bipush, Z_sipush, Z_ldc, Z_ldcM, Z_ldcw, Z_null, Z_getstatic, Z_iload0, Z_aload0, Z_aloadq0, Z_aloadn0, Z_istore0, Z_astore0, Z_astoreq0, Z_astoren0, Z_iinc0, Z_iload1, Z_aload1, Z_aloadq1, Z_aloadn1, Z_istore1, Z_astore1, Z_astoreq1, Z_astoren1, Z_iinc1, Z_iload2, Z_aload2, Z_aloadq2, Z_aloadn2, Z_istore2, Z_astore2, Z_astoreq2, Z_astoren2, Z_iinc2, Z_iload3, Z_aload3, Z_aloadq3, Z_aloadn3, Z_istore3, Z_astore3, Z_astoreq3, Z_astoren3, Z_iinc3, Z_iload4, Z_aload4, Z_aloadq4, Z_aloadn4, Z_istore4, Z_astore4, Z_astoreq4, Z_astoren4, Z_iinc4, Z_iload5, Z_aload5, Z_aloadq5, Z_aloadn5, Z_istore5, Z_astore5, Z_astoreq5, Z_astoren5, Z_iinc5, Z_iload6, Z_aload6, Z_aloadq6, Z_aloadn6, Z_istore6, Z_astore6, Z_astoreq6, Z_astoren6, Z_iinc6, Z_iload7, Z_aload7, Z_aloadq7, Z_aloadn7, Z_istore7, Z_astore7, Z_astoreq7, Z_astoren7, Z_iinc7, Z_iload8, Z_aload8, Z_aloadq8, Z_aloadn8, Z_istore8, Z_astore8, Z_astoreq8, Z_astoren8, Z_iinc8, Z_iload9, Z_aload9, Z_aloadq9, Z_aloadn9, Z_istore9, Z_astore9, Z_astoreq9, Z_astoren9, Z_iinc9, Z_iload10, Z_aload10, Z_aloadq10, Z_aloadn10, Z_istore10, Z_astore10, Z_astoreq10, Z_astoren10, Z_iinc10, Z_iload11, Z_aload11, Z_aloadq11, Z_aloadn11, Z_istore11, Z_astore11, Z_astoreq11, Z_astoren11, Z_iinc11, Z_iload12, Z_aload12, Z_aloadq12, Z_aloadn12, Z_istore12, Z_astore12, Z_astoreq12, Z_astoren12, Z_iinc12, Z_iadd, Z_isub, Z_imul, Z_iand, Z_ior, Z_ishl, Z_ishr, Z_iushr, Z_idiv, Z_irem, Z_dup, Z_dupx1, Z_dup2, Z_pop, Z_if_eq, Z_icmp_eq, Z_if_ne, Z_icmp_ne, Z_if_lt, Z_icmp_lt, Z_if_le, Z_icmp_le, Z_if_ge, Z_icmp_ge, Z_if_gt, Z_icmp_gt, Z_acmp_eqq1, Z_acmp_eqq2, Z_acmp_eqq3, Z_acmp_eqq4, Z_acmp_neq1, Z_acmp_neq2, Z_acmp_neq3, Z_acmp_neq4, Z_ifnull, Z_ifnullN, Z_ifnullq, Z_ifnonnull, Z_ifnonnullN, Z_ifnonnullq, Z_goto, Z_getI, Z_getZ, Z_getR, Z_putI, Z_putR, Z_putN, Z_putQ, Z_putZ, Z_new, Z_newarray, Z_anewarray, Z_alen, Z_cast, Z_objInit, Z_clone, Z_getClass, Z_copy, Z_max, Z_min, Y_iaload, Y_baload, Y_aaload, Y_iastore, Y_bastore, Y_aastore, Y_aastoreN, lt_0p, lt_1n, va_some, va_none, Option.toList_some, Option.toList_none, List.nil_append, List.cons_append, List.length_nil, List.length_cons, true_and, and_true, if_true, if_false, ite_true, ite_false, Nat.zero_le, Nat.not_lt_zero, Nat.reduceLeDiff, Nat.reduceEqDiff, Nat.reduceAdd, Nat.reduceMul, Nat.reduceSub, Nat.reduceLT, Nat.zero_add, not_true_eq_false, not_false_eq_true, true_or, or_true, false_or, or_false, Nat.add_zero, false_and, and_false, exists_eq_left', Option.some.injEq, k_X5_finishWaiting_0, sk_X5_finishWaiting_10, sk_X5_finishWaiting_27, k_X5_finishWaiting_27, sk_X5_finishWaiting_48, k_X5_finishWaiting_48, Q_X5_finishWaiting, C_AL_size_8abf5, C_X5_firstReady, C_AL_remove_915e3, C_X5_finish, ok1, X1.k]
      refine c_finish C1 D (Bd_wto hB) T1 (fun ow2 la2 tx2 h2 C2 T2 F2 O2 z2 y2 => ?_)
      simp (disch := first | omega | assumption) only [Z_iconst, Z_bipush, Z_sipush, Z_ldc, Z_ldcM, Z_ldcw, Z_null, Z_getstatic, Z_iload0, Z_aload0, Z_aloadq0, Z_aloadn0, Z_istore0, Z_astore0, Z_astoreq0, Z_astoren0, Z_iinc0, Z_iload1, Z_aload1, Z_aloadq1, Z_aloadn1, Z_istore1, Z_astore1, Z_astoreq1, Z_astoren1, Z_iinc1, Z_iload2, Z_aload2, Z_aloadq2, Z_aloadn2, Z_istore2, Z_astore2, Z_astoreq2, Z_astoren2, Z_iinc2, Z_iload3, Z_aload3, Z_aloadq3, Z_aloadn3, Z_istore3, Z_astore3, Z_astoreq3, Z_astoren3, Z_iinc3, Z_iload4, Z_aload4, Z_aloadq4, Z_aloadn4, Z_istore4, Z_astore4, Z_astoreq4, Z_astoren4, Z_iinc4, Z_iload5, Z_aload5, Z_aloadq5, Z_aloadn5, Z_istore5, Z_astore5, Z_astoreq5, Z_astoren5, Z_iinc5, Z_iload6, Z_aload6, Z_aloadq6, Z_aloadn6, Z_istore6, Z_astore6, Z_astoreq6, Z_astoren6, Z_iinc6, Z_iload7, Z_aload7, Z_aloadq7, Z_aloadn7, Z_istore7, Z_astore7, Z_astoreq7, Z_astoren7, Z_iinc7, Z_iload8, Z_aload8, Z_aloadq8, Z_aloadn8, Z_istore8, Z_astore8, Z_astoreq8, Z_astoren8, Z_iinc8, Z_iload9, Z_aload9, Z_aloadq9, Z_aloadn9, Z_istore9, Z_astore9, Z_astoreq9, Z_astoren9, Z_iinc9, Z_iload10, Z_aload10, Z_aloadq10, Z_aloadn10, Z_istore10, Z_astore10, Z_astoreq10, Z_astoren10, Z_iinc10, Z_iload11, Z_aload11, Z_aloadq11, Z_aloadn11, Z_istore11, Z_astore11, Z_astoreq11, Z_astoren11, Z_iinc11, Z_iload12, Z_aload12, Z_aloadq12, Z_aloadn12, Z_istore12, Z_astore12, Z_astoreq12, Z_astoren12, Z_iinc12, Z_iadd, Z_isub, Z_imul, Z_iand, Z_ior, Z_ishl, Z_ishr, Z_iushr, Z_idiv, Z_irem, Z_dup, Z_dupx1, Z_dup2, Z_pop, Z_if_eq, Z_icmp_eq, Z_if_ne, Z_icmp_ne, Z_if_lt, Z_icmp_lt, Z_if_le, Z_icmp_le, Z_if_ge, Z_icmp_ge, Z_if_gt, Z_icmp_gt, Z_acmp_eqq1, Z_acmp_eqq2, Z_acmp_eqq3, Z_acmp_eqq4, Z_acmp_neq1, Z_acmp_neq2, Z_acmp_neq3, Z_acmp_neq4, Z_ifnull, Z_ifnullN, Z_ifnullq, Z_ifnonnull, Z_ifnonnullN, Z_ifnonnullq, Z_goto, Z_getI, Z_getZ, Z_getR, Z_putI, Z_putR, Z_putN, Z_putQ, Z_putZ, Z_new, Z_newarray, Z_anewarray, Z_alen, Z_cast, Z_objInit, Z_clone, Z_getClass, Z_copy, Z_max, Z_min, Y_iaload, Y_baload, Y_aaload, Y_iastore, Y_bastore, Y_aastore, Y_aastoreN, lt_0p, lt_1n, va_some, va_none, Option.toList_some, Option.toList_none, List.nil_append, List.cons_append, List.length_nil, List.length_cons, true_and, and_true, if_true, if_false, ite_true, ite_false, Nat.zero_le, Nat.not_lt_zero, Nat.reduceLeDiff, Nat.reduceEqDiff, Nat.reduceAdd, Nat.reduceMul, Nat.reduceSub, Nat.reduceLT, Nat.zero_add, not_true_eq_false, not_false_eq_true, true_or, or_true, false_or, or_false, Nat.add_zero, false_and, and_false, exists_eq_left', Option.some.injEq, k_X5_finishWaiting_0, sk_X5_finishWaiting_10, sk_X5_finishWaiting_27, k_X5_finishWaiting_27, sk_X5_finishWaiting_48, k_X5_finishWaiting_48, Q_X5_finishWaiting, C_AL_size_8abf5, C_X5_firstReady, C_AL_remove_915e3, C_X5_finish, nI_add, pk_mul, ar_lt, ar_le, ar_eq, z_lt, z_le, z_gt, z_ge, z_eq, z_eq2, ix_nI, nI_clamp, ne_eq]
      have G2 : GI (stp1 s r k) := G.xstp1 hr hk hy
      have hph : Ph (stp1 s r k) = Ph s + 1 := Ph_doo (s := wto s r k) hr
      have hw2 : (sWt (stp1 s r k) r).length = d := by
        show (fu (sWt s) r ((sWt s r).eraseIdx k) r).length = d
        rw [fu_at, if_pos rfl, List.length_eraseIdx_of_lt hk]
        omega
      refine ih (c + 1) ow2 la2 tx2 h2 (stp1 s r k) _ (by omega) hw2 C2 G2 T2 (fun ow3 la3 tx3 h3 C3 T3 N3 => hP ow3 la3 tx3 h3 C3 T3 ?_)
      have N1 : Nx x (Bk x r) ow ow2 h h2 s (stp1 s r k) 0 0 := ⟨(m1.mo (fun q hq => by unfold Bk; omega)).tr' F2, by rw [m3] at O2; exact O2, by rw [hph]; omega, by rw [hph]; omega⟩
      exact N1.tr N3 (fun _ z => z) (fun _ z => z) (by omega) (by omega)
theorem c_cFin {x r : Nat} {ow oa : Nat → Nat} {la : Nat → Nat → Nat} {tx : Nat → Nat → List Nat} {h : Hp} {s : St} {P : Option Value → Hp → Prop} (hr : r < 4) (C : CR ow oa la tx h x s) (G : GI s) (T : TA s tx) (hP : ∀ ow' la' tx' h', CR ow' oa la' tx' h' x (tkF r ((sWt s r).length + 1) 0 s).2 → TA (tkF r ((sWt s r).length + 1) 0 s).2 tx' → Nx x (Bk x r) ow ow' h h' s (tkF r ((sWt s r).length + 1) 0 s).2 0 0 → P (some (.int (nI (tkF r ((sWt s r).length + 1) 0 s).1))) h') : Ev M_X5_finishWaiting [.ref (rb x r)] h P := by
  have X := C.fx.r r hr
  have R := C.rp r hr
  have es := fun P => e_alSize (P := P) R.wt
  rw [List.length_map] at es
  have := l_cFin (most := (sWt s r).length) hr (G.1.2.2.1 r hr).2.2.1 (sWt s r).length 0 ow la tx h s none (by omega) rfl C G T hP
  simp (disch := first | omega | assumption) only [Z_iconst, Z_bipush, Z_sipush, Z_ldc, Z_ldcM, Z_ldcw, Z_null, Z_getstatic, Z_iload0, Z_aload0, Z_aloadq0, Z_aloadn0, Z_istore0, Z_astore0, Z_astoreq0, Z_astoren0, Z_iinc0, Z_iload1, Z_aload1, Z_aloadq1, Z_aloadn1, Z_istore1, Z_astore1, Z_astoreq1, Z_astoren1, Z_iinc1, Z_iload2, Z_aload2, Z_aloadq2, Z_aloadn2, Z_istore2, Z_astore2, Z_astoreq2, Z_astoren2, Z_iinc2, Z_iload3, Z_aload3, Z_aloadq3, Z_aloadn3, Z_istore3, Z_astore3, Z_astoreq3, Z_astoren3, Z_iinc3, Z_iload4, Z_aload4, Z_aloadq4, Z_aloadn4, Z_istore4, Z_astore4, Z_astoreq4, Z_astoren4, Z_iinc4, Z_iload5, Z_aload5, Z_aloadq5, Z_aloadn5, Z_istore5, Z_astore5, Z_astoreq5, Z_astoren5, Z_iinc5, Z_iload6, Z_aload6, Z_aloadq6, Z_aloadn6, Z_istore6, Z_astore6, Z_astoreq6, Z_astoren6, Z_iinc6, Z_iload7, Z_aload7, Z_aloadq7, Z_aloadn7, Z_istore7, Z_astore7, Z_astoreq7, Z_astoren7, Z_iinc7, Z_iload8, Z_aload8, Z_aloadq8, Z_aloadn8, Z_istore8, Z_astore8, Z_astoreq8, Z_astoren8, Z_iinc8, Z_iload9, Z_aload9, Z_aloadq9, Z_aloadn9, Z_istore9, Z_astore9, Z_astoreq9, Z_astoren9, Z_iinc9, Z_iload10, Z_aload10, Z_aloadq10, Z_aloadn10, Z_istore10, Z_astore10, Z_astoreq10, Z_astoren10, Z_iinc10, Z_iload11, Z_aload11, Z_aloadq11, Z_aloadn11, Z_istore11, Z_astore11, Z_astoreq11, Z_astoren11, Z_iinc11, Z_iload12, Z_aload12, Z_aloadq12, Z_aloadn12, Z_istore12, Z_astore12, Z_astoreq12, Z_astoren12, Z_iinc12, Z_iadd, Z_isub, Z_imul, Z_iand, Z_ior, Z_ishl, Z_ishr, Z_iushr, Z_idiv, Z_irem, Z_dup, Z_dupx1, Z_dup2, Z_pop, Z_if_eq, Z_icmp_eq, Z_if_ne, Z_icmp_ne, Z_if_lt, Z_icmp_lt, Z_if_le, Z_icmp_le, Z_if_ge, Z_icmp_ge, Z_if_gt, Z_icmp_gt, Z_acmp_eqq1, Z_acmp_eqq2, Z_acmp_eqq3, Z_acmp_eqq4, Z_acmp_neq1, Z_acmp_neq2, Z_acmp_neq3, Z_acmp_neq4, Z_ifnull, Z_ifnullN, Z_ifnullq, Z_ifnonnull, Z_ifnonnullN, Z_ifnonnullq, Z_goto, Z_getI, Z_getZ, Z_getR, Z_putI, Z_putR, Z_putN, Z_putQ, Z_putZ, Z_new, Z_newarray, Z_anewarray, Z_alen, Z_cast, Z_objInit, Z_clone, Z_getClass, Z_copy, Z_max, Z_min, Y_iaload, Y_baload, Y_aaload, Y_iastore, Y_bastore, Y_aastore, Y_aastoreN, lt_0p, lt_1n, va_some, va_none, Option.toList_some, Option.toList_none, List.nil_append, List.cons_append, List.length_nil, List.length_cons, true_and, and_true, if_true, if_false, ite_true, ite_false, Nat.zero_le, Nat.not_lt_zero, Nat.reduceLeDiff, Nat.reduceEqDiff, Nat.reduceAdd, Nat.reduceMul, Nat.reduceSub, Nat.reduceLT, Nat.zero_add, not_true_eq_false, not_false_eq_true, true_or, or_true, false_or, or_false, Nat.add_zero, false_and, and_false, exists_eq_left', Option.some.injEq, k_X5_finishWaiting_0, sk_X5_finishWaiting_10, sk_X5_finishWaiting_27, k_X5_finishWaiting_27, sk_X5_finishWaiting_48, k_X5_finishWaiting_48, Q_X5_finishWaiting, C_AL_size_8abf5, C_X5_firstReady, C_AL_remove_915e3, C_X5_finish, E_X5_finishWaiting, X.k, X.f7, R.wt.1, es, this]
