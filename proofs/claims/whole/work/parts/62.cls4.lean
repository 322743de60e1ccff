/-! the class: a letter comes in, a letter goes -/
/-- all is as it was but the link of the letter at b -/
def Ag (b : Nat) (ow ow' : Nat → Nat) (h h' : Hp) : Prop := sz h ≤ sz h' ∧ ∀ a, a < sz h → kd h' a = kd h a ∧ ow' a = ow a ∧ fR h' 64 a = fR h 64 a ∧ fI h' 65 a = fI h 65 a ∧ (a ≠ b → fR h' 66 a = fR h 66 a)
theorem Sgm.ag {b : Nat} {ow ow' oa la la' : Nat → Nat} {h h' : Hp} {T : Nat} {gn gn' : Nat → Bool} (A : Ag b ow ow' h h') : ∀ (l : List Nat) (p : Option Nat), (∀ q, q ∈ l → la' q = la q ∧ gn' q = gn q ∧ la q ≠ b) → Sgm ow oa la h T gn p l → Sgm ow' oa la' h' T gn' p l := by
  intro l
  induction l with
  | nil => intro p _ H; exact H
  | cons o l ih =>
    intro p e H
    obtain ⟨h1, h2, h3, h4, h5, h6, h7⟩ := H
    obtain ⟨e1, e2, e3⟩ := e o List.mem_cons_self
    obtain ⟨a1, a2, a3, a4, a5⟩ := A.2 _ h2
    have hz := A.1
    unfold Sgm
    rw [e1, e2, a5 e3]
    exact ⟨h1, by omega, a1.trans h3, a2.trans h4, a3.trans h5, a4.trans h6, ih _ (fun q hq => e q (List.mem_cons_of_mem _ hq)) h7⟩
/-- behind the letter of z the chain is another one -/
theorem Sgm.be {z : Nat} {ow ow' oa la la' : Nat → Nat} {h h' : Hp} {T : Nat} {gn gn' : Nat → Bool} {l2 l' : List Nat} (A : Ag (la z) ow ow' h h') (H' : Sgm ow' oa la' h' T gn' (fR h' 66 (la z)) l') : ∀ (l1 : List Nat) (p : Option Nat), (∀ q, q ∈ l1 → la q ≠ la z) → (∀ q, q ∈ l1 ++ [z] → la' q = la q ∧ gn' q = gn q) → Sgm ow oa la h T gn p (l1 ++ z :: l2) → Sgm ow' oa la' h' T gn' p (l1 ++ z :: l') := by
  intro l1
  have hz := A.1
  induction l1 with
  | nil =>
    intro p _ e H
    obtain ⟨h1, h2, h3, h4, h5, h6, h7⟩ := H
    obtain ⟨e1, e2⟩ := e z (by rw [List.nil_append]; exact List.mem_cons_self)
    obtain ⟨a1, a2, a3, a4, a5⟩ := A.2 _ h2
    rw [List.nil_append]
    unfold Sgm
    rw [e1, e2]
    exact ⟨h1, by omega, a1.trans h3, a2.trans h4, a3.trans h5, a4.trans h6, H'⟩
  | cons o l1 ih =>
    intro p hn e H
    obtain ⟨h1, h2, h3, h4, h5, h6, h7⟩ := H
    obtain ⟨e1, e2⟩ := e o List.mem_cons_self
    obtain ⟨a1, a2, a3, a4, a5⟩ := A.2 _ h2
    rw [List.cons_append]
    unfold Sgm
    rw [e1, e2, a5 (hn o List.mem_cons_self)]
    exact ⟨h1, by omega, a1.trans h3, a2.trans h4, a3.trans h5, a4.trans h6, ih _ (fun q hq => hn q (List.mem_cons_of_mem _ hq)) (fun q hq => e q (List.mem_cons_of_mem _ hq)) h7⟩
/-- the heap after a new letter of the operation at y came in behind the letter at b -/
def hin (h : Hp) (b y : Nat) : Hp := wfR (wfR (wfR (hnew h 3 0 3) 64 (sz h) (some y)) 66 (sz h) (fR h 66 b)) 66 b (some (sz h))
theorem hin_sz (h : Hp) (b y : Nat) : sz (hin h b y) = sz h + 1 := by unfold hin; rw [sz_wfR, sz_wfR, sz_wfR, sz_hnew]
theorem hin_sl (h : Hp) (b y : Nat) : sl (hin h b y) = sl h + 3 := by unfold hin; rw [sl_wfR, sl_wfR, sl_wfR, sl_hnew]
theorem mu66 : muF 66 := Or.inr (Or.inl rfl)
theorem mu65 : muF 65 := Or.inl rfl
theorem hin_fz {S : Nat → Prop} {ow : Nat → Nat} {h : Hp} {b y : Nat} (hb : S (ow b)) : Fz S ow h (hin h b y) := by
  unfold hin
  exact ((Fz.rf.hnew.wfR (fun z => absurd z (Nat.lt_irrefl _))).wfR (fun z => absurd z (Nat.lt_irrefl _))).wfR (fun _ => ⟨mu66, hb⟩)
theorem hin_ag {ow : Nat → Nat} {h : Hp} {b y T : Nat} (hb : b < sz h) : Ag b ow (fu ow (sz h) T) h (hin h b y) := by
  refine ⟨by rw [hin_sz]; omega, fun a ha => ?_⟩
  have hn : ¬ a = sz h := by omega
  unfold hin
  refine ⟨by rw [kd_wfR, kd_wfR, kd_wfR, kd_hnew, if_neg hn], by rw [fu_at, if_neg hn], ?_, by rw [fI_wfR, fI_wfR, fI_wfR, fI_hnew, if_neg hn], fun hab => ?_⟩
  · rw [fR_wfR, if_neg (by omega), fR_wfR, if_neg (by omega), fR_wfR, if_neg (by omega), fR_hnew, if_neg hn]
  · rw [fR_wfR, if_neg (fun z => hab z.2), fR_wfR, if_neg (fun z => hn z.2), fR_wfR, if_neg (by omega), fR_hnew, if_neg hn]
/-- the new letter and what stands behind it -/
theorem hin_sg {ow oa la : Nat → Nat} {h : Hp} {b T o : Nat} {gn gn' : Nat → Bool} {l : List Nat} (hb : b < sz h) (H : Sgm ow oa la h T gn (fR h 66 b) l) (hl : ∀ q, q ∈ l → q ≠ o ∧ gn' q = gn q ∧ la q ≠ b) (ho : gn' o = false) : Sgm (fu ow (sz h) T) oa (fu la o (sz h)) (hin h b (oa o)) T gn' (fR (hin h b (oa o)) 66 b) (o :: l) := by
  have hn : ¬ b = sz h := by omega
  have e0 : fR (hin h b (oa o)) 66 b = some (sz h) := by unfold hin; rw [fR_wfR, if_pos ⟨rfl, rfl⟩]
  have e1 : fR (hin h b (oa o)) 66 (sz h) = fR h 66 b := by unfold hin; rw [fR_wfR, if_neg (by omega), fR_wfR, if_pos ⟨rfl, rfl⟩]
  have e2 : fR (hin h b (oa o)) 64 (sz h) = some (oa o) := by unfold hin; rw [fR_wfR, if_neg (by omega), fR_wfR, if_neg (by omega), fR_wfR, if_pos ⟨rfl, rfl⟩]
  have e3 : kd (hin h b (oa o)) (sz h) = 3 := by unfold hin; rw [kd_wfR, kd_wfR, kd_wfR, kd_hnew, if_pos rfl]
  have e4 : fI (hin h b (oa o)) 65 (sz h) = 0 := by unfold hin; rw [fI_wfR, fI_wfR, fI_wfR, fI_hnew, if_pos rfl]
  unfold Sgm
  rw [fu_at, if_pos rfl, e0, e1, e2, e3, e4, ho, hin_sz, fu_at, if_pos rfl]
  refine ⟨rfl, by omega, rfl, rfl, rfl, rfl, ?_⟩
  exact Sgm.ag (hin_ag hb) l _ (fun q hq => ⟨by rw [fu_at, if_neg (hl q hq).1], (hl q hq).2.1, (hl q hq).2.2⟩) H
/-- where the greater marks end -/
theorem l_skip {ow oa la : Nat → Nat} {gn : Nat → Bool} {h : Hp} {s : St} {T T0 o : Nat} {P : Option Value → Hp → Prop} (O : OpR ow oa h s o) (ho : o < 240) (ht : sTm s o ≤ 100000) : ∀ (l : List Nat) (b : Nat) (pre : List Nat), b < sz h → kd h b = 3 → Sgm ow oa la h T gn (fR h 66 b) l → (∀ q, q ∈ l → q < 240 ∧ OpR ow oa h s q ∧ sTm s q ≤ 100000) → (∀ A B b2, l = A ++ B → insR s o l = A ++ o :: B → (A = [] → b2 = b) → (∀ z, A.getLast? = some z → b2 = la z) → Sgm ow oa la h T gn (fR h 66 b2) B → b2 < sz h → P none (hin h b2 (oa o))) → Z M_X6_bringIn k_X6_bringIn_17 [some (.ref T0), some (.ref (oa o)), some (.ref b), none] [] h P := by
  intro l
  have ok := O.k
  induction l with
  | nil =>
    intro b pre hb hk H _ hP
    have h0 : fR h 66 b = none := H
    have hn : ¬ b = sz h := by omega
    have hP2 := hP [] [] b rfl rfl (fun _ => rfl) (fun z hz => by cases hz) H hb
    unfold hin at hP2
    rw [h0] at hP2
    rw [k_X6_bringIn_17]
    simp (disch := first | omega | assumption) only [Z_iconst, Z_bipush, Z_sipush, Z_ldc, Z_ldcM, Z_ldcw, Z_null, Z_getstatic, Z_iload0, Z_aload0, Z_aloadq0, Z_aloadn0, Z_istore0, Z_astore0, Z_astoreq0, Z_astoren0, Z_iinc0, Z_iload1, Z_aload1, Z_aloadq1, Z_aloadn1, Z_istore1, Z_astore1, Z_astoreq1, Z_astoren1, Z_iinc1, Z_iload2, Z_aload2, Z_aloadq2, Z_aloadn2, Z_istore2, Z_astore2, Z_astoreq2, Z_astoren2, Z_iinc2, Z_iload3, Z_aload3, Z_aloadq3, Z_aloadn3, Z_istore3, Z_astore3, Z_astoreq3, Z_astoren3, Z_iinc3, Z_iload4, Z_aload4, Z_aloadq4, Z_aloadn4, Z_istore4, Z_astore4, Z_astoreq4, Z_astoren4, Z_iinc4, Z_iload5, Z_aload5, Z_aloadq5, Z_aloadn5, Z_istore5, Z_astore5, Z_astoreq5, Z_astoren5, Z_iinc5, Z_iload6, Z_aload6, Z_aloadq6, Z_aloadn6, Z_istore6, Z_astore6, Z_astoreq6, Z_astoren6, Z_iinc6, Z_iload7, Z_aload7, Z_aloadq7, Z_aloadn7, Z_istore7, Z_astore7, Z_astoreq7, Z_astoren7, Z_iinc7, Z_iload8, Z_aload8, Z_aloadq8, Z_aloadn8, Z_istore8, Z_astore8, Z_astoreq8, Z_astoren8, Z_iinc8, Z_iload9, Z_aload9, Z_aloadq9, Z_aloadn9, Z_istore9, Z_astore9, Z_astoreq9, Z_astoren9, Z_iinc9, Z_iload10, Z_aload10, Z_aloadq10, Z_aloadn10, Z_istore10, Z_astore10, Z_astoreq10, Z_astoren10, Z_iinc10, Z_iload11, Z_aload11, Z_aloadq11, Z_aloadn11, Z_istore11, Z_astore11, Z_astoreq11, Z_astoren11, Z_iinc11, Z_iload12, Z_aload12, Z_aloadq12, Z_aloadn12, Z_istore12, Z_astore12, Z_astoreq12, Z_astoren12, Z_iinc12, Z_iadd, Z_isub, Z_imul, Z_iand, Z_ior, Z_ishl, Z_ishr, Z_iushr, Z_idiv, Z_irem, Z_dup, Z_dupx1, Z_dup2, Z_pop, Z_if_eq, Z_icmp_eq, Z_if_ne, Z_icmp_ne, Z_if_lt, Z_icmp_lt, Z_if_le, Z_icmp_le, Z_if_ge, Z_icmp_ge, Z_if_gt, Z_icmp_gt, Z_acmp_eqq1, Z_acmp_eqq2, Z_acmp_eqq3, Z_acmp_eqq4, Z_acmp_neq1, Z_acmp_neq2, Z_acmp_neq3, Z_acmp_neq4, Z_ifnull, Z_ifnullN, Z_ifnullq, Z_ifnonnull, Z_ifnonnullN, Z_ifnonnullq, Z_goto, Z_getI, Z_getZ, Z_getR, Z_putI, Z_putR, Z_putN, Z_putQ, Z_putZ, Z_new, Z_newarray, Z_anewarray, Z_alen, Z_cast, Z_objInit, Z_clone, Z_getClass, Z_copy, Z_max, Z_min, Y_iaload, Y_baload, Y_aaload, Y_iastore, Y_bastore, Y_aastore, Y_aastoreN, lt_0p, lt_1n, va_some, va_none, Option.toList_some, Option.toList_none, List.nil_append, List.cons_append, List.length_nil, List.length_cons, true_and, and_true, if_true, if_false, ite_true, ite_false, Nat.zero_le, Nat.not_lt_zero, Nat.reduceLeDiff, Nat.reduceEqDiff, Nat.reduceAdd, Nat.reduceMul, Nat.reduceSub, Nat.reduceLT, Nat.zero_add, not_true_eq_false, not_false_eq_true, true_or, or_true, false_or, or_false, Nat.add_zero, false_and, and_false, exists_eq_left', Option.some.injEq, k_X6_bringIn_0, sk_X6_bringIn_17, sk_X6_bringIn_46, k_X6_bringIn_46, Q_X6_bringIn, C_X6_letterOf, C_X4_hasGreaterMarkThan, C_X2_init, k_X2_init_0, Q_X2_init, E_X2_init, kd_wfI', ln_wfI', fI_wfI', fR_wfI', aI_wfI', aR_wfI', gc_wfI', sz_wfI', sl_wfI', kd_wfR', ln_wfR', fI_wfR', fR_wfR', aI_wfR', aR_wfR', gc_wfR', sz_wfR', sl_wfR', kd_waI', ln_waI', fI_waI', fR_waI', aI_waI', aR_waI', gc_waI', sz_waI', sl_waI', kd_waR', ln_waR', fI_waR', fR_waR', aI_waR', aR_waR', gc_waR', sz_waR', sl_waR', kd_hnew', ln_hnew', fI_hnew', fR_hnew', aI_hnew', aR_hnew', gc_hnew', sz_hnew', sl_hnew', hk, h0, hn]
    exact hP2
  | cons q l ih =>
    intro b pre hb hk H hq hP
    have H0 := H
    obtain ⟨h1, h2, h3, h4, h5, h6, h7⟩ := H
    have hn : ¬ b = sz h := by omega
    obtain ⟨q1, q2, q3⟩ := hq q List.mem_cons_self
    have eg := fun P => e_gtMark (P := P) q2 O q1 ho q3 ht
    have qk := q2.k
    rw [k_X6_bringIn_17]
    cases hg : gtm s q o with
    | true =>
      simp (disch := first | omega | assumption) only [Z_iconst, Z_bipush, Z_sipush, Z_ldc, Z_ldcM, Z_ldcw, Z_null, Z_getstatic, Z_iload0, Z_aload0, Z_aloadq0, Z_aloadn0, Z_istore0, Z_astore0, Z_astoreq0, Z_astoren0, Z_iinc0, Z_iload1, Z_aload1, Z_aloadq1, Z_aloadn1, Z_istore1, Z_astore1, Z_astoreq1, Z_astoren1, Z_iinc1, Z_iload2, Z_aload2, Z_aloadq2, Z_aloadn2, Z_istore2, Z_astore2, Z_astoreq2, Z_astoren2, Z_iinc2, Z_iload3, Z_aload3, Z_aloadq3, Z_aloadn3, Z_istore3, Z_astore3, Z_astoreq3, Z_astoren3, Z_iinc3, Z_iload4, Z_aload4, Z_aloadq4, Z_aloadn4, Z_istore4, Z_astore4, Z_astoreq4, Z_astoren4, Z_iinc4, Z_iload5, Z_aload5, Z_aloadq5, Z_aloadn5, Z_istore5, Z_astore5, Z_astoreq5, Z_astoren5, Z_iinc5, Z_iload6, Z_aload6, Z_aloadq6, Z_aloadn6, Z_istore6, Z_astore6, Z_astoreq6, Z_astoren6, Z_iinc6, Z_iload7, Z_aload7, Z_aloadq7, Z_aloadn7, Z_istore7, Z_astore7, Z_astoreq7, Z_astoren7, Z_iinc7, Z_iload8, Z_aload8, Z_aloadq8, Z_aloadn8, Z_istore8, Z_astore8, Z_astoreq8, Z_astoren8, Z_iinc8, Z_iload9, Z_aload9, Z_aloadq9, Z_aloadn9, Z_istore9, Z_astore9, Z_astoreq9, Z_astoren9, Z_iinc9, Z_iload10, Z_aload10, Z_aloadq10, Z_aloadn10, Z_istore10, Z_astore10, Z_astoreq10, Z_astoren10, Z_iinc10, Z_iload11, Z_aload11, Z_aloadq11, Z_aloadn11, Z_istore11, Z_astore11, Z_astoreq11, Z_astoren11, Z_iinc11, Z_iload12, Z_aload12, Z_aloadq12, Z_aloadn12, Z_istore12, Z_astore12, Z_astoreq12, Z_astoren12, Z_iinc12, Z_iadd, Z_isub, Z_imul, Z_iand, Z_ior, Z_ishl, Z_ishr, Z_iushr, Z_idiv, Z_irem, Z_dup, Z_dupx1, Z_dup2, Z_pop, Z_if_eq, Z_icmp_eq, Z_if_ne, Z_icmp_ne, Z_if_lt, Z_icmp_lt, Z_if_le, Z_icmp_le, Z_if_ge, Z_icmp_ge, Z_if_gt, Z_icmp_gt, Z_acmp_eqq1, Z_acmp_eqq2, Z_acmp_eqq3, Z_acmp_eqq4, Z_acmp_neq1, Z_acmp_neq2, Z_acmp_neq3, Z_acmp_neq4, Z_ifnull, Z_ifnullN, Z_ifnullq, Z_ifnonnull, Z_ifnonnullN, Z_ifnonnullq, Z_goto, Z_getI, Z_getZ, Z_getR, Z_putI, Z_putR, Z_putN, Z_putQ, Z_putZ, Z_new, Z_newarray, Z_anewarray, Z_alen, Z_cast, Z_objInit, Z_clone, Z_getClass, Z_copy, Z_max, Z_min, Y_iaload, Y_baload, Y_aaload, Y_iastore, Y_bastore, Y_aastore, Y_aastoreN, lt_0p, lt_1n, va_some, va_none, Option.toList_some, Option.toList_none, List.nil_append, List.cons_append, List.length_nil, List.length_cons, true_and, and_true, if_true, if_false, ite_true, ite_false, Nat.zero_le, Nat.not_lt_zero, Nat.reduceLeDiff, Nat.reduceEqDiff, Nat.reduceAdd, Nat.reduceMul, Nat.reduceSub, Nat.reduceLT, Nat.zero_add, not_true_eq_false, not_false_eq_true, true_or, or_true, false_or, or_false, Nat.add_zero, false_and, and_false, exists_eq_left', Option.some.injEq, k_X6_bringIn_0, sk_X6_bringIn_17, sk_X6_bringIn_46, k_X6_bringIn_46, Q_X6_bringIn, C_X6_letterOf, C_X4_hasGreaterMarkThan, C_X2_init, nI_add, pk_mul, ar_lt, ar_le, ar_eq, z_lt, z_le, z_gt, z_ge, z_eq, z_eq2, ix_nI, nI_clamp, ne_eq, hk, h1, h3, h5, qk, eg, hg, nb_t]
      refine ih (la q) [] h2 h3 h7 (fun z hz => hq z (List.mem_cons_of_mem _ hz)) (fun A B b2 e1 e2 e3 e4 e5 e6 => hP (q :: A) B b2 (by rw [e1]; rfl) ?_ (fun z => by cases z) (fun z hz => ?_) e5 e6)
      · show (if gtm s q o = true then q :: insR s o l else o :: q :: l) = _
        rw [if_pos hg, e2]
        rfl
      · cases A with
        | nil => cases hz; exact e3 rfl
        | cons a A => rw [List.getLast?_cons_cons] at hz; exact e4 z hz
    | false =>
      have hP2 := hP [] (q :: l) b rfl (if_neg (by rw [hg]; exact Bool.false_ne_true)) (fun _ => rfl) (fun z hz => by cases hz) H0 hb
      unfold hin at hP2
      rw [h1] at hP2
      simp (disch := first | omega | assumption) only [Z_iconst, Z_bipush, Z_sipush, Z_ldc, Z_ldcM, Z_ldcw, Z_null, Z_getstatic, Z_iload0, Z_aload0, Z_aloadq0, Z_aloadn0, Z_istore0, Z_astore0, Z_astoreq0, Z_astoren0, Z_iinc0, Z_iload1, Z_aload1, Z_aloadq1, Z_aloadn1, Z_istore1, Z_astore1, Z_astoreq1, Z_astoren1, Z_iinc1, Z_iload2, Z_aload2, Z_aloadq2, Z_aloadn2, Z_istore2, Z_astore2, Z_astoreq2, Z_astoren2, Z_iinc2, Z_iload3, Z_aload3, Z_aloadq3, Z_aloadn3, Z_istore3, Z_astore3, Z_astoreq3, Z_astoren3, Z_iinc3, Z_iload4, Z_aload4, Z_aloadq4, Z_aloadn4, Z_istore4, Z_astore4, Z_astoreq4, Z_astoren4, Z_iinc4, Z_iload5, Z_aload5, Z_aloadq5, Z_aloadn5, Z_istore5, Z_astore5, Z_astoreq5, Z_astoren5, Z_iinc5, Z_iload6, Z_aload6, Z_aloadq6, Z_aloadn6, Z_istore6, Z_astore6, Z_astoreq6, Z_astoren6, Z_iinc6, Z_iload7, Z_aload7, Z_aloadq7, Z_aloadn7, Z_istore7, Z_astore7, Z_astoreq7, Z_astoren7, Z_iinc7, Z_iload8, Z_aload8, Z_aloadq8, Z_aloadn8, Z_istore8, Z_astore8, Z_astoreq8, Z_astoren8, Z_iinc8, Z_iload9, Z_aload9, Z_aloadq9, Z_aloadn9, Z_istore9, Z_astore9, Z_astoreq9, Z_astoren9, Z_iinc9, Z_iload10, Z_aload10, Z_aloadq10, Z_aloadn10, Z_istore10, Z_astore10, Z_astoreq10, Z_astoren10, Z_iinc10, Z_iload11, Z_aload11, Z_aloadq11, Z_aloadn11, Z_istore11, Z_astore11, Z_astoreq11, Z_astoren11, Z_iinc11, Z_iload12, Z_aload12, Z_aloadq12, Z_aloadn12, Z_istore12, Z_astore12, Z_astoreq12, Z_astoren12, Z_iinc12, Z_iadd, Z_isub, Z_imul, Z_iand, Z_ior, Z_ishl, Z_ishr, Z_iushr, Z_idiv, Z_irem, Z_dup, Z_dupx1, Z_dup2, Z_pop, Z_if_eq, Z_icmp_eq, Z_if_ne, Z_icmp_ne, Z_if_lt, Z_icmp_lt, Z_if_le, Z_icmp_le, Z_if_ge, Z_icmp_ge, Z_if_gt, Z_icmp_gt, Z_acmp_eqq1, Z_acmp_eqq2, Z_acmp_eqq3, Z_acmp_eqq4, Z_acmp_neq1, Z_acmp_neq2, Z_acmp_neq3, Z_acmp_neq4, Z_ifnull, Z_ifnullN, Z_ifnullq, Z_ifnonnull, Z_ifnonnullN, Z_ifnonnullq, Z_goto, Z_getI, Z_getZ, Z_getR, Z_putI, Z_putR, Z_putN, Z_putQ, Z_putZ, Z_new, Z_newarray, Z_anewarray, Z_alen, Z_cast, Z_objInit, Z_clone, Z_getClass, Z_copy, Z_max, Z_min, Y_iaload, Y_baload, Y_aaload, Y_iastore, Y_bastore, Y_aastore, Y_aastoreN, lt_0p, lt_1n, va_some, va_none, Option.toList_some, Option.toList_none, List.nil_append, List.cons_append, List.length_nil, List.length_cons, true_and, and_true, if_true, if_false, ite_true, ite_false, Nat.zero_le, Nat.not_lt_zero, Nat.reduceLeDiff, Nat.reduceEqDiff, Nat.reduceAdd, Nat.reduceMul, Nat.reduceSub, Nat.reduceLT, Nat.zero_add, not_true_eq_false, not_false_eq_true, true_or, or_true, false_or, or_false, Nat.add_zero, false_and, and_false, exists_eq_left', Option.some.injEq, k_X6_bringIn_0, sk_X6_bringIn_17, sk_X6_bringIn_46, k_X6_bringIn_46, Q_X6_bringIn, C_X6_letterOf, C_X4_hasGreaterMarkThan, C_X2_init, k_X2_init_0, Q_X2_init, E_X2_init, nI_add, pk_mul, ar_lt, ar_le, ar_eq, z_lt, z_le, z_gt, z_ge, z_eq, z_eq2, ix_nI, nI_clamp, ne_eq, kd_wfI', ln_wfI', fI_wfI', fR_wfI', aI_wfI', aR_wfI', gc_wfI', sz_wfI', sl_wfI', kd_wfR', ln_wfR', fI_wfR', fR_wfR', aI_wfR', aR_wfR', gc_wfR', sz_wfR', sl_wfR', kd_waI', ln_waI', fI_waI', fR_waI', aI_waI', aR_waI', gc_waI', sz_waI', sl_waI', kd_waR', ln_waR', fI_waR', fR_waR', aI_waR', aR_waR', gc_waR', sz_waR', sl_waR', kd_hnew', ln_hnew', fI_hnew', fR_hnew', aI_hnew', aR_hnew', gc_hnew', sz_hnew', sl_hnew', hk, h1, h3, h5, qk, eg, hg, nb_f, hn]
      exact hP2
theorem Sgm.mem {ow oa la : Nat → Nat} {h : Hp} {T : Nat} {gn : Nat → Bool} : ∀ (l : List Nat) (p : Option Nat), Sgm ow oa la h T gn p l → ∀ q, q ∈ l → la q < sz h ∧ kd h (la q) = 3 ∧ ow (la q) = T ∧ fR h 64 (la q) = some (oa q) := by
  intro l
  induction l with
  | nil => intro p _ q hq; exact absurd hq List.not_mem_nil
  | cons o l ih =>
    intro p H q hq
    obtain ⟨h1, h2, h3, h4, h5, h6, h7⟩ := H
    rcases List.mem_cons.mp hq with z | z
    · rw [z]; exact ⟨h2, h3, h4, h5⟩
    · exact ih _ h7 q z
theorem Sgm.inj {ow oa la : Nat → Nat} {h : Hp} {T : Nat} {gn : Nat → Bool} {l : List Nat} {p : Option Nat} (H : Sgm ow oa la h T gn p l) (hi : ∀ q z, q ∈ l → z ∈ l → oa q = oa z → q = z) {q z : Nat} (hq : q ∈ l) (hz : z ∈ l) (h : la q = la z) : q = z := by
  have h1 := (H.mem l p q hq).2.2.2
  have h2 := (H.mem l p z hz).2.2.2
  rw [h, h2] at h1
  exact hi q z hq hz (Option.some.inj h1).symm
theorem hin_all {ow oa la : Nat → Nat} {h : Hp} {b T o : Nat} {gn gn' : Nat → Bool} {pre B : List Nat} (c5 : fR h 64 (T + 1) = none) (ct : T + 1 < sz h) (hb : b < sz h) (h1 : pre = [] → b = T + 1) (h2 : ∀ z, pre.getLast? = some z → b = la z) (H : Sgm ow oa la h T gn (fR h 66 (T + 1)) (pre ++ B)) (HB : Sgm ow oa la h T gn (fR h 66 b) B) (hi : ∀ q z, q ∈ pre ++ B → z ∈ pre ++ B → oa q = oa z → q = z) (hd : (pre ++ B).Nodup) (hl : ∀ q, q ∈ pre ++ B → q ≠ o ∧ gn' q = gn q) (ho : gn' o = false) : Sgm (fu ow (sz h) T) oa (fu la o (sz h)) (hin h b (oa o)) T gn' (fR (hin h b (oa o)) 66 (T + 1)) (pre ++ o :: B) := by
  have hbg : ∀ q, q ∈ pre ++ B → la q ≠ T + 1 := fun q hq z => by
    have := (H.mem _ _ q hq).2.2.2
    rw [z, c5] at this
    cases this
  rcases List.eq_nil_or_concat pre with hp | ⟨A, z, hp⟩
  · subst hp
    have hb2 := h1 rfl
    subst hb2
    rw [List.nil_append] at *
    exact hin_sg ct HB (fun q hq => ⟨(hl q hq).1, (hl q hq).2, hbg q hq⟩) ho
  · rw [List.concat_eq_append] at hp
    have hb2 : b = la z := h2 z (by rw [hp, List.getLast?_concat])
    subst hb2
    rw [hp, List.append_assoc] at H hi hd hl hbg
    rw [List.singleton_append] at H hi hd hl hbg
    rw [hp, List.append_assoc, List.singleton_append]
    have hzm : z ∈ A ++ z :: B := List.mem_append.mpr (Or.inr List.mem_cons_self)
    obtain ⟨n1, n2, n3⟩ := List.nodup_append.mp hd
    obtain ⟨n4, n5⟩ := List.nodup_cons.mp n2
    have ag := hin_ag (ow := ow) (h := h) (b := la z) (y := oa o) (T := T) hb
    have e0 : fR (hin h (la z) (oa o)) 66 (T + 1) = fR h 66 (T + 1) := (ag.2 _ ct).2.2.2.2 (fun w => hbg z hzm w.symm)
    rw [e0]
    refine Sgm.be (l2 := B) ag ?_ A _ (fun q hq w => ?_) (fun q hq => ?_) H
    · exact hin_sg hb HB (fun q hq => ⟨(hl q (List.mem_append.mpr (Or.inr (List.mem_cons_of_mem _ hq)))).1, (hl q (List.mem_append.mpr (Or.inr (List.mem_cons_of_mem _ hq)))).2, fun w => n4 (by
        have := H.inj hi (List.mem_append.mpr (Or.inr (List.mem_cons_of_mem _ hq))) hzm w
        rw [← this]; exact hq)⟩) ho
    · have := H.inj hi (List.mem_append.mpr (Or.inl hq)) hzm w
      exact n3 q hq z List.mem_cons_self this
    · have hq2 : q ∈ A ++ z :: B := by
        rcases List.mem_append.mp hq with w | w
        · exact List.mem_append.mpr (Or.inl w)
        · rw [List.mem_singleton.mp w]; exact hzm
      exact ⟨by rw [fu_at, if_neg (hl q hq2).1], (hl q hq2).2⟩
/-- what a letter's coming in leaves -/
def Bi (ow oa la : Nat → Nat) (h : Hp) (T o : Nat) (gn' : Nat → Bool) (l : List Nat) (h' : Hp) : Prop := Fz (fun q => q = T) ow h h' ∧ sz h' = sz h + 1 ∧ sl h' = sl h + 3 ∧ Sgm (fu ow (sz h) T) oa (fu la o (sz h)) h' T gn' (fR h' 66 (T + 1)) l
theorem c_bringIn0 {ow oa la : Nat → Nat} {gn gn' : Nat → Bool} {h : Hp} {s : St} {T o : Nat} {l : List Nat} {P : Option Value → Hp → Prop} (c2 : kd h T = 7) (c3 : fR h 192 T = some (T + 1)) (c4 : kd h (T + 1) = 3) (c5 : fR h 64 (T + 1) = none) (c6 : ow (T + 1) = T) (ct : T + 1 < sz h) (O : OpR ow oa h s o) (hB : Bd s) (ho : o < 240) (hbh : sBh s o = none) (H : Sgm ow oa la h T gn (fR h 66 (T + 1)) l) (hO : ∀ q, q ∈ l → q < 240 ∧ OpR ow oa h s q) (hd : l.Nodup) (hl : ∀ q, q ∈ l → q ≠ o ∧ gn' q = gn q) (hog : gn' o = false) (hP : ∀ h', Bi ow oa la h T o gn' (insR s o l) h' → P none h') : Ev M_X6_bringIn [.ref T, .ref (oa o)] h P := by
  have ok := O.k
  obtain ⟨b, b1, b2, b3, b4, b5, b6, b7⟩ := O.ch
  rw [hbh, Option.map_none] at b7
  have e0 := fun P => e_of0 (P := P) c2 c3 c4 c5
  have hi : ∀ q z, q ∈ l → z ∈ l → oa q = oa z → q = z := fun q z hq hz e => (oa_inj (hO q hq).2 (hO z hz).2 (hO q hq).1 (hO z hz).1).mp e
  simp (disch := first | omega | assumption) only [Z_iconst, Z_bipush, Z_sipush, Z_ldc, Z_ldcM, Z_ldcw, Z_null, Z_getstatic, Z_iload0, Z_aload0, Z_aloadq0, Z_aloadn0, Z_istore0, Z_astore0, Z_astoreq0, Z_astoren0, Z_iinc0, Z_iload1, Z_aload1, Z_aloadq1, Z_aloadn1, Z_istore1, Z_astore1, Z_astoreq1, Z_astoren1, Z_iinc1, Z_iload2, Z_aload2, Z_aloadq2, Z_aloadn2, Z_istore2, Z_astore2, Z_astoreq2, Z_astoren2, Z_iinc2, Z_iload3, Z_aload3, Z_aloadq3, Z_aloadn3, Z_istore3, Z_astore3, Z_astoreq3, Z_astoren3, Z_iinc3, Z_iload4, Z_aload4, Z_aloadq4, Z_aloadn4, Z_istore4, Z_astore4, Z_astoreq4, Z_astoren4, Z_iinc4, Z_iload5, Z_aload5, Z_aloadq5, Z_aloadn5, Z_istore5, Z_astore5, Z_astoreq5, Z_astoren5, Z_iinc5, Z_iload6, Z_aload6, Z_aloadq6, Z_aloadn6, Z_istore6, Z_astore6, Z_astoreq6, Z_astoren6, Z_iinc6, Z_iload7, Z_aload7, Z_aloadq7, Z_aloadn7, Z_istore7, Z_astore7, Z_astoreq7, Z_astoren7, Z_iinc7, Z_iload8, Z_aload8, Z_aloadq8, Z_aloadn8, Z_istore8, Z_astore8, Z_astoreq8, Z_astoren8, Z_iinc8, Z_iload9, Z_aload9, Z_aloadq9, Z_aloadn9, Z_istore9, Z_astore9, Z_astoreq9, Z_astoren9, Z_iinc9, Z_iload10, Z_aload10, Z_aloadq10, Z_aloadn10, Z_istore10, Z_astore10, Z_astoreq10, Z_astoren10, Z_iinc10, Z_iload11, Z_aload11, Z_aloadq11, Z_aloadn11, Z_istore11, Z_astore11, Z_astoreq11, Z_astoren11, Z_iinc11, Z_iload12, Z_aload12, Z_aloadq12, Z_aloadn12, Z_istore12, Z_astore12, Z_astoreq12, Z_astoren12, Z_iinc12, Z_iadd, Z_isub, Z_imul, Z_iand, Z_ior, Z_ishl, Z_ishr, Z_iushr, Z_idiv, Z_irem, Z_dup, Z_dupx1, Z_dup2, Z_pop, Z_if_eq, Z_icmp_eq, Z_if_ne, Z_icmp_ne, Z_if_lt, Z_icmp_lt, Z_if_le, Z_icmp_le, Z_if_ge, Z_icmp_ge, Z_if_gt, Z_icmp_gt, Z_acmp_eqq1, Z_acmp_eqq2, Z_acmp_eqq3, Z_acmp_eqq4, Z_acmp_neq1, Z_acmp_neq2, Z_acmp_neq3, Z_acmp_neq4, Z_ifnull, Z_ifnullN, Z_ifnullq, Z_ifnonnull, Z_ifnonnullN, Z_ifnonnullq, Z_goto, Z_getI, Z_getZ, Z_getR, Z_putI, Z_putR, Z_putN, Z_putQ, Z_putZ, Z_new, Z_newarray, Z_anewarray, Z_alen, Z_cast, Z_objInit, Z_clone, Z_getClass, Z_copy, Z_max, Z_min, Y_iaload, Y_baload, Y_aaload, Y_iastore, Y_bastore, Y_aastore, Y_aastoreN, lt_0p, lt_1n, va_some, va_none, Option.toList_some, Option.toList_none, List.nil_append, List.cons_append, List.length_nil, List.length_cons, true_and, and_true, if_true, if_false, ite_true, ite_false, Nat.zero_le, Nat.not_lt_zero, Nat.reduceLeDiff, Nat.reduceEqDiff, Nat.reduceAdd, Nat.reduceMul, Nat.reduceSub, Nat.reduceLT, Nat.zero_add, not_true_eq_false, not_false_eq_true, true_or, or_true, false_or, or_false, Nat.add_zero, false_and, and_false, exists_eq_left', Option.some.injEq, k_X6_bringIn_0, sk_X6_bringIn_17, sk_X6_bringIn_46, k_X6_bringIn_46, Q_X6_bringIn, C_X6_letterOf, C_X4_hasGreaterMarkThan, C_X2_init, E_X6_bringIn, ok, b1, b3, b7, c2, e0]
  refine l_skip O ho (hB.2.1 o ho).2.2.1 l (T + 1) [] ct c4 H (fun q hq => ⟨(hO q hq).1, (hO q hq).2, (hB.2.1 q (hO q hq).1).2.2.1⟩) (fun A B b2 e1 e2 e3 e4 e5 e6 => hP _ ⟨hin_fz ?_, hin_sz .., hin_sl .., ?_⟩)
  · rcases List.eq_nil_or_concat A with hp | ⟨A', z, hp⟩
    · rw [e3 hp]; exact c6
    · rw [List.concat_eq_append] at hp
      rw [e4 z (by rw [hp, List.getLast?_concat])]
      exact (H.mem _ _ z (by rw [e1, hp]; exact List.mem_append.mpr (Or.inl (List.mem_append.mpr (Or.inr List.mem_cons_self))))).2.2.1
  · rw [e2]
    subst e1
    exact hin_all c5 ct e6 e3 e4 H e5 hi hd hl hog
theorem c_bringIn1 {ow oa la : Nat → Nat} {gn gn' : Nat → Bool} {h : Hp} {s : St} {T o p : Nat} {l1 l2 : List Nat} {P : Option Value → Hp → Prop} (c2 : kd h T = 7) (c3 : fR h 192 T = some (T + 1)) (c4 : kd h (T + 1) = 3) (c5 : fR h 64 (T + 1) = none) (ct : T + 1 < sz h) (O : OpR ow oa h s o) (hB : Bd s) (ho : o < 240) (hbh : sBh s o = some p) (H : Sgm ow oa la h T gn (fR h 66 (T + 1)) (l1 ++ p :: l2)) (hO : ∀ q, q ∈ l1 ++ p :: l2 → q < 240 ∧ OpR ow oa h s q) (hd : (l1 ++ p :: l2).Nodup) (hl : ∀ q, q ∈ l1 ++ p :: l2 → q ≠ o ∧ gn' q = gn q) (hog : gn' o = false) (hP : ∀ h', Bi ow oa la h T o gn' (l1 ++ p :: insR s o l2) h' → P none h') : Ev M_X6_bringIn [.ref T, .ref (oa o)] h P := by
  have ok := O.k
  obtain ⟨b, b1, b2, b3, b4, b5, b6, b7⟩ := O.ch
  rw [hbh, Option.map_some] at b7
  have hi : ∀ q z, q ∈ l1 ++ p :: l2 → z ∈ l1 ++ p :: l2 → oa q = oa z → q = z := fun q z hq hz e => (oa_inj (hO q hq).2 (hO z hz).2 (hO q hq).1 (hO z hz).1).mp e
  have hpm : p ∈ l1 ++ p :: l2 := List.mem_append.mpr (Or.inr List.mem_cons_self)
  obtain ⟨n1, n2, n3⟩ := List.nodup_append.mp hd
  have e0 := fun P => e_of (P := P) c2 c3 c4 c5 H (fun q hq w => n3 q hq p List.mem_cons_self (hi q p (List.mem_append.mpr (Or.inl hq)) hpm w))
  have hp4 := H.mem _ _ p hpm
  have HB : Sgm ow oa la h T gn (fR h 66 (la p)) l2 := by
    have : ∀ (l1 : List Nat) (q : Option Nat), Sgm ow oa la h T gn q (l1 ++ p :: l2) → Sgm ow oa la h T gn (fR h 66 (la p)) l2 := by
      intro l1
      induction l1 with
      | nil => intro q H; exact H.2.2.2.2.2.2
      | cons y l1 ih => intro q H; exact ih _ H.2.2.2.2.2.2
    exact this l1 _ H
  simp (disch := first | omega | assumption) only [Z_iconst, Z_bipush, Z_sipush, Z_ldc, Z_ldcM, Z_ldcw, Z_null, Z_getstatic, Z_iload0, Z_aload0, Z_aloadq0, Z_aloadn0, Z_istore0, Z_astore0, Z_astoreq0, Z_astoren0, Z_iinc0, Z_iload1, Z_aload1, Z_aloadq1, Z_aloadn1, Z_istore1, Z_astore1, Z_astoreq1, Z_astoren1, Z_iinc1, Z_iload2, Z_aload2, Z_aloadq2, Z_aloadn2, Z_istore2, Z_astore2, Z_astoreq2, Z_astoren2, Z_iinc2, Z_iload3, Z_aload3, Z_aloadq3, Z_aloadn3, Z_istore3, Z_astore3, Z_astoreq3, Z_astoren3, Z_iinc3, Z_iload4, Z_aload4, Z_aloadq4, Z_aloadn4, Z_istore4, Z_astore4, Z_astoreq4, Z_astoren4, Z_iinc4, Z_iload5, Z_aload5, Z_aloadq5, Z_aloadn5, Z_istore5, Z_astore5, Z_astoreq5, Z_astoren5, Z_iinc5, Z_iload6, Z_aload6, Z_aloadq6, Z_aloadn6, Z_istore6, Z_astore6, Z_astoreq6, Z_astoren6, Z_iinc6, Z_iload7, Z_aload7, Z_aloadq7, Z_aloadn7, Z_istore7, Z_astore7, Z_astoreq7, Z_astoren7, Z_iinc7, Z_iload8, Z_aload8, Z_aloadq8, Z_aloadn8, Z_istore8, Z_astore8, Z_astoreq8, Z_astoren8, Z_iinc8, Z_iload9, Z_aload9, Z_aloadq9, Z_aloadn9, Z_istore9, Z_astore9, Z_astoreq9, Z_astoren9, Z_iinc9, Z_iload10, Z_aload10, Z_aloadq10, Z_aloadn10, Z_istore10, Z_astore10, Z_astoreq10, Z_astoren10, Z_iinc10, Z_iload11, Z_aload11, Z_aloadq11, Z_aloadn11, Z_istore11, Z_astore11, Z_astoreq11, Z_astoren11, Z_iinc11, Z_iload12, Z_aload12, Z_aloadq12, Z_aloadn12, Z_istore12, Z_astore12, Z_astoreq12, Z_astoren12, Z_iinc12, Z_iadd, Z_isub, Z_imul, Z_iand, Z_ior, Z_ishl, Z_ishr, Z_iushr, Z_idiv, Z_irem, Z_dup, Z_dupx1, Z_dup2, Z_pop, Z_if_eq, Z_icmp_eq, Z_if_ne, Z_icmp_ne, Z_if_lt, Z_icmp_lt, Z_if_le, Z_icmp_le, Z_if_ge, Z_icmp_ge, Z_if_gt, Z_icmp_gt, Z_acmp_eqq1, Z_acmp_eqq2, Z_acmp_eqq3, Z_acmp_eqq4, Z_acmp_neq1, Z_acmp_neq2, Z_acmp_neq3, Z_acmp_neq4, Z_ifnull, Z_ifnullN, Z_ifnullq, Z_ifnonnull, Z_ifnonnullN, Z_ifnonnullq, Z_goto, Z_getI, Z_getZ, Z_getR, Z_putI, Z_putR, Z_putN, Z_putQ, Z_putZ, Z_new, Z_newarray, Z_anewarray, Z_alen, Z_cast, Z_objInit, Z_clone, Z_getClass, Z_copy, Z_max, Z_min, Y_iaload, Y_baload, Y_aaload, Y_iastore, Y_bastore, Y_aastore, Y_aastoreN, lt_0p, lt_1n, va_some, va_none, Option.toList_some, Option.toList_none, List.nil_append, List.cons_append, List.length_nil, List.length_cons, true_and, and_true, if_true, if_false, ite_true, ite_false, Nat.zero_le, Nat.not_lt_zero, Nat.reduceLeDiff, Nat.reduceEqDiff, Nat.reduceAdd, Nat.reduceMul, Nat.reduceSub, Nat.reduceLT, Nat.zero_add, not_true_eq_false, not_false_eq_true, true_or, or_true, false_or, or_false, Nat.add_zero, false_and, and_false, exists_eq_left', Option.some.injEq, k_X6_bringIn_0, sk_X6_bringIn_17, sk_X6_bringIn_46, k_X6_bringIn_46, Q_X6_bringIn, C_X6_letterOf, C_X4_hasGreaterMarkThan, C_X2_init, E_X6_bringIn, ok, b1, b3, b7, c2, e0]
  refine l_skip O ho (hB.2.1 o ho).2.2.1 l2 (la p) [] hp4.1 hp4.2.1 HB (fun q hq => ?_) (fun A B b2 e1 e2 e3 e4 e5 e6 => hP _ ⟨hin_fz ?_, hin_sz .., hin_sl .., ?_⟩)
  · have hq2 : q ∈ l1 ++ p :: l2 := List.mem_append.mpr (Or.inr (List.mem_cons_of_mem _ hq))
    exact ⟨(hO q hq2).1, (hO q hq2).2, (hB.2.1 q (hO q hq2).1).2.2.1⟩
  · rcases List.eq_nil_or_concat A with hp | ⟨A', z, hp⟩
    · rw [e3 hp]; exact hp4.2.2.1
    · rw [List.concat_eq_append] at hp
      rw [e4 z (by rw [hp, List.getLast?_concat])]
      exact (H.mem _ _ z (by rw [e1, hp]; exact List.mem_append.mpr (Or.inr (List.mem_cons_of_mem _ (List.mem_append.mpr (Or.inl (List.mem_append.mpr (Or.inr List.mem_cons_self)))))))).2.2.1
  · rw [e2]
    subst e1
    have ea : l1 ++ p :: (A ++ B) = (l1 ++ p :: A) ++ B := by rw [List.append_assoc]; rfl
    rw [ea] at H hi hd hl
    rw [show l1 ++ p :: (A ++ o :: B) = (l1 ++ p :: A) ++ o :: B by rw [List.append_assoc]; rfl]
    refine hin_all c5 ct e6 (fun z => absurd z (by simp)) (fun z hz => ?_) H e5 hi hd hl hog
    rw [List.getLast?_append, List.getLast?_cons] at hz
    cases hA : A.getLast? with
    | none =>
      have hA0 : A = [] := List.getLast?_eq_none_iff.mp hA
      subst hA0
      cases hz
      exact e3 rfl
    | some y =>
      rw [hA] at hz
      cases hz
      exact e4 y hA
/-- a letter goes -/
theorem Sgm.go {z : Nat} {ow oa la : Nat → Nat} {h : Hp} {T : Nat} {gn gn' : Nat → Bool} : ∀ (l : List Nat) (p : Option Nat), (∀ q, q ∈ l → q ≠ z → la q ≠ la z ∧ gn' q = gn q) → gn' z = true → Sgm ow oa la h T gn p l → Sgm ow oa la (wfI h 65 (la z) (nI 1)) T gn' p l := by
  intro l
  induction l with
  | nil => intro p _ _ H; exact H
  | cons o l ih =>
    intro p e hz H
    obtain ⟨h1, h2, h3, h4, h5, h6, h7⟩ := H
    unfold Sgm
    rw [sz_wfI, kd_wfI, fR_wfI, fI_wfI]
    refine ⟨h1, h2, h3, h4, h5, ?_, ih _ (fun q hq => e q (List.mem_cons_of_mem _ hq)) hz h7⟩
    by_cases ho : o = z
    · rw [if_pos ⟨rfl, by rw [ho]⟩, ho, hz]; rfl
    · obtain ⟨e1, e2⟩ := e o List.mem_cons_self ho
      rw [if_neg (fun w => e1 w.2), e2]
      exact h6
theorem c_bringOut {ow oa la : Nat → Nat} {gn gn' : Nat → Bool} {h : Hp} {s : St} {T o p : Nat} {l : List Nat} {P : Option Value → Hp → Prop} (c2 : kd h T = 7) (c3 : fR h 192 T = some (T + 1)) (c4 : kd h (T + 1) = 3) (c5 : fR h 64 (T + 1) = none) (O : OpR ow oa h s o) (hbh : sBh s o = some p) (H : Sgm ow oa la h T gn (fR h 66 (T + 1)) l) (hp : p ∈ l) (hO : ∀ q, q ∈ l → q < 240 ∧ OpR ow oa h s q) (hd : l.Nodup) (hl : ∀ q, q ∈ l → q ≠ p → gn' q = gn q) (hog : gn' p = true) (hP : ∀ h', Fz (fun q => q = T) ow h h' → sz h' = sz h → sl h' = sl h → Sgm ow oa la h' T gn' (fR h' 66 (T + 1)) l → P none h') : Ev M_X6_bringOut [.ref T, .ref (oa o)] h P := by
  have ok := O.k
  obtain ⟨b, b1, b2, b3, b4, b5, b6, b7⟩ := O.ch
  rw [hbh, Option.map_some] at b7
  have hi : ∀ q z, q ∈ l → z ∈ l → oa q = oa z → q = z := fun q z hq hz e => (oa_inj (hO q hq).2 (hO z hz).2 (hO q hq).1 (hO z hz).1).mp e
  have hp4 := H.mem _ _ p hp
  obtain ⟨l1, l2, rfl⟩ := List.append_of_mem hp
  obtain ⟨n1, n2, n3⟩ := List.nodup_append.mp hd
  have e0 := fun P => e_of (P := P) c2 c3 c4 c5 H (fun q hq w => n3 q hq p List.mem_cons_self (hi q p (List.mem_append.mpr (Or.inl hq)) hp w))
  have hk := hp4.2.1
  simp (disch := first | omega | assumption) only [Z_iconst, Z_bipush, Z_sipush, Z_ldc, Z_ldcM, Z_ldcw, Z_null, Z_getstatic, Z_iload0, Z_aload0, Z_aloadq0, Z_aloadn0, Z_istore0, Z_astore0, Z_astoreq0, Z_astoren0, Z_iinc0, Z_iload1, Z_aload1, Z_aloadq1, Z_aloadn1, Z_istore1, Z_astore1, Z_astoreq1, Z_astoren1, Z_iinc1, Z_iload2, Z_aload2, Z_aloadq2, Z_aloadn2, Z_istore2, Z_astore2, Z_astoreq2, Z_astoren2, Z_iinc2, Z_iload3, Z_aload3, Z_aloadq3, Z_aloadn3, Z_istore3, Z_astore3, Z_astoreq3, Z_astoren3, Z_iinc3, Z_iload4, Z_aload4, Z_aloadq4, Z_aloadn4, Z_istore4, Z_astore4, Z_astoreq4, Z_astoren4, Z_iinc4, Z_iload5, Z_aload5, Z_aloadq5, Z_aloadn5, Z_istore5, Z_astore5, Z_astoreq5, Z_astoren5, Z_iinc5, Z_iload6, Z_aload6, Z_aloadq6, Z_aloadn6, Z_istore6, Z_astore6, Z_astoreq6, Z_astoren6, Z_iinc6, Z_iload7, Z_aload7, Z_aloadq7, Z_aloadn7, Z_istore7, Z_astore7, Z_astoreq7, Z_astoren7, Z_iinc7, Z_iload8, Z_aload8, Z_aloadq8, Z_aloadn8, Z_istore8, Z_astore8, Z_astoreq8, Z_astoren8, Z_iinc8, Z_iload9, Z_aload9, Z_aloadq9, Z_aloadn9, Z_istore9, Z_astore9, Z_astoreq9, Z_astoren9, Z_iinc9, Z_iload10, Z_aload10, Z_aloadq10, Z_aloadn10, Z_istore10, Z_astore10, Z_astoreq10, Z_astoren10, Z_iinc10, Z_iload11, Z_aload11, Z_aloadq11, Z_aloadn11, Z_istore11, Z_astore11, Z_astoreq11, Z_astoren11, Z_iinc11, Z_iload12, Z_aload12, Z_aloadq12, Z_aloadn12, Z_istore12, Z_astore12, Z_astoreq12, Z_astoren12, Z_iinc12, Z_iadd, Z_isub, Z_imul, Z_iand, Z_ior, Z_ishl, Z_ishr, Z_iushr, Z_idiv, Z_irem, Z_dup, Z_dupx1, Z_dup2, Z_pop, Z_if_eq, Z_icmp_eq, Z_if_ne, Z_icmp_ne, Z_if_lt, Z_icmp_lt, Z_if_le, Z_icmp_le, Z_if_ge, Z_icmp_ge, Z_if_gt, Z_icmp_gt, Z_acmp_eqq1, Z_acmp_eqq2, Z_acmp_eqq3, Z_acmp_eqq4, Z_acmp_neq1, Z_acmp_neq2, Z_acmp_neq3, Z_acmp_neq4, Z_ifnull, Z_ifnullN, Z_ifnullq, Z_ifnonnull, Z_ifnonnullN, Z_ifnonnullq, Z_goto, Z_getI, Z_getZ, Z_getR, Z_putI, Z_putR, Z_putN, Z_putQ, Z_putZ, Z_new, Z_newarray, Z_anewarray, Z_alen, Z_cast, Z_objInit, Z_clone, Z_getClass, Z_copy, Z_max, Z_min, Y_iaload, Y_baload, Y_aaload, Y_iastore, Y_bastore, Y_aastore, Y_aastoreN, lt_0p, lt_1n, va_some, va_none, Option.toList_some, Option.toList_none, List.nil_append, List.cons_append, List.length_nil, List.length_cons, true_and, and_true, if_true, if_false, ite_true, ite_false, Nat.zero_le, Nat.not_lt_zero, Nat.reduceLeDiff, Nat.reduceEqDiff, Nat.reduceAdd, Nat.reduceMul, Nat.reduceSub, Nat.reduceLT, Nat.zero_add, not_true_eq_false, not_false_eq_true, true_or, or_true, false_or, or_false, Nat.add_zero, false_and, and_false, exists_eq_left', Option.some.injEq, k_X6_bringOut_0, sk_X6_bringOut_21, k_X6_bringOut_21, Q_X6_bringOut, C_X6_letterOf, E_X6_bringOut, ok, b1, b3, b7, c2, e0, hk]
  refine ⟨Or.inr rfl, ?_⟩
  refine hP (wfI h 65 (la p) (nI 1)) (Fz.rf.wfI (fun _ => ⟨mu65, hp4.2.2.1⟩)) (by rw [sz_wfI]) (by rw [sl_wfI]) ?_
  rw [fR_wfI]
  exact Sgm.go _ _ (fun q hq hne => ⟨fun w => hne (H.inj hi hq hp w), hl q hq hne⟩) hog H
