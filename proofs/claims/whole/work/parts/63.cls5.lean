/-! the class: an operation is done -/
/-- what apply may change -/
def Ap (ow oa la : Nat → Nat) (l0 l1 : List Nat) (h : Hp) (x : Nat) (s : St) (r : Nat) : Prop := (∀ c, c < 2 → aI h (rb x r + 2) c = cs s r (nI c)) ∧ Ls ow h (rb x r + 3) ((sp s r).map oa) ∧ (∀ c, c < 2 → aR h (rb x r + 4) c = (wr s r (nI c)).map oa) ∧ Sgm ow oa la h (rb x r + 16) (rmd s r) (fR h 66 (rb x r + 17)) l0 ∧ Sgm ow oa la h (rb x r + 18) (rmd s r) (fR h 66 (rb x r + 19)) l1
/-- the owners of what apply may change -/
def S3 (x r q : Nat) : Prop := (rb x r + 2 ≤ q ∧ q ≤ rb x r + 4) ∨ (rb x r + 16 ≤ q ∧ q ≤ rb x r + 18)
/-- the parts of Ap one by one under a frame -/
theorem fz_sm {S : Nat → Prop} {ow oa : Nat → Nat} {h h' : Hp} {x r : Nat} (X : FixR x r ow h) (F : Fz S ow h h') (hz : rb x r + 20 ≤ sz h) (hs : ¬ S (rb x r + 2)) : aI h' (rb x r + 2) = aI h (rb x r + 2) := (F.un (by omega) (by rw [X.o2]; exact hs)).2.1
theorem fz_wr {S : Nat → Prop} {ow oa : Nat → Nat} {h h' : Hp} {x r : Nat} (X : FixR x r ow h) (F : Fz S ow h h') (hz : rb x r + 20 ≤ sz h) (hs : ¬ S (rb x r + 4)) : aR h' (rb x r + 4) = aR h (rb x r + 4) := (F.un (by omega) (by rw [X.o4]; exact hs)).2.2
theorem fz_t {S : Nat → Prop} {ow : Nat → Nat} {h h' : Hp} {x r t : Nat} (X : FixR x r ow h) (F : Fz S ow h h') (hz : rb x r + 20 ≤ sz h) (ht : t < 2) (hs : ¬ S (rb x r + 16 + 2 * t)) : fR h' 66 (rb x r + 17 + 2 * t) = fR h 66 (rb x r + 17 + 2 * t) := ((F.un (by omega) (by rw [(X.tx t ht).2.2.2.2.2]; exact hs)).1 66).2
theorem Ap.fz {S : Nat → Prop} {ow ow' oa la : Nat → Nat} {l0 l1 : List Nat} {h h' : Hp} {x r : Nat} {s : St} (H : Ap ow oa la l0 l1 h x s r) (X : FixR x r ow h) (F : Fz S ow h h') (O : Og (sz h) ow ow') (hz : rb x r + 20 ≤ sz h) (hs : ∀ q, S3 x r q → ¬ S q) : Ap ow' oa la l0 l1 h' x s r := by
  obtain ⟨h1, h2, h3, h4, h5⟩ := H
  have t0 := fz_t X F hz (show 0 < 2 by decide) (hs _ (by unfold S3; omega))
  have t1 := fz_t X F hz (show 1 < 2 by decide) (hs _ (by unfold S3; omega))
  refine ⟨?_, h2.fz F O (hs _ (by unfold S3; omega)), ?_, ?_, ?_⟩
  · rw [fz_sm (oa := oa) X F hz (hs _ (by unfold S3; omega))]; exact h1
  · rw [fz_wr (oa := oa) X F hz (hs _ (by unfold S3; omega))]; exact h3
  · rw [show rb x r + 17 = rb x r + 17 + 2 * 0 from rfl, t0]; exact Sgm.fz F O (hs _ (by unfold S3; omega)) _ _ h4
  · rw [show rb x r + 19 = rb x r + 17 + 2 * 1 from rfl, t1]; exact Sgm.fz F O (hs _ (by unfold S3; omega)) _ _ h5
theorem Ap.cg {ow oa la : Nat → Nat} {l0 l1 : List Nat} {h : Hp} {x r : Nat} {s s' : St} (H : Ap ow oa la l0 l1 h x s r) (h1 : ∀ c, c < 2 → cs s' r (nI c) = cs s r (nI c)) (h2 : sp s' r = sp s r) (h3 : ∀ c, c < 2 → wr s' r (nI c) = wr s r (nI c)) (h4 : ∀ q, q ∈ l0 ∨ q ∈ l1 → rmd s' r q = rmd s r q) : Ap ow oa la l0 l1 h x s' r := by
  obtain ⟨g1, g2, g3, g4, g5⟩ := H
  exact ⟨fun c hc => (g1 c hc).trans (h1 c hc).symm, by rw [h2]; exact g2, fun c hc => (g3 c hc).trans (by rw [h3 c hc]), Sgm.cg _ _ (fun q hq => ⟨rfl, rfl, h4 q (Or.inl hq)⟩) g4, Sgm.cg _ _ (fun q hq => ⟨rfl, rfl, h4 q (Or.inr hq)⟩) g5⟩
theorem rmd_new {s : St} {r o : Nat} (H : Dk s r o) (hk : sKn s o = 4) : rmd (doo s r o) r o = false := by
  rw [Bool.eq_false_iff]
  intro z
  obtain ⟨p, h1, h2, h3, h4⟩ := rmd_iff.mp z
  obtain ⟨g1, g2, g3, -, -⟩ := H.gi.2.i14 p o (mad_dn H.gi.2 H.r4 h2) h4
  rcases dn_mem.mp h2 with q | q
  · exact H.nb q g2
  · exact g3 q.symm
theorem rmd_same {s : St} {r o q : Nat} (H : Dk s r o) (hk : sKn s o ≠ 5) : rmd (doo s r o) r q = rmd s r q := by
  rw [rmd_doo H, decide_eq_false (fun z => hk z.1), Bool.or_false]
theorem nI_tg {a b : Nat} (ha : a < 2) (hb : b < 2) : nI a = nI b ↔ a = b := nI_eq (by omega) (by omega)
/-- a target was done, and is a letter -/
theorem Dk.par {s : St} {r o p : Nat} (H : Dk s r o) (h : sBh s o = some p) : p ∈ sDn s r ∧ sKn s p = 4 ∧ sTg s p = sTg s o := by
  obtain ⟨g1, g2, g3, g4, g5⟩ := H.gi.2.i14 o p H.mo h
  refine ⟨?_, g4, g5⟩
  have hd : o ∈ sDn (doo s r o) r := dn_mem.mpr (Or.inr rfl)
  have h1 := H.gi.2.i11 r H.r4 o hd (p / 60) (by have := g1.1; omega)
  have h2 : p ∈ sDn (doo s r o) r := (H.gi.2.i2 r H.r4 p).mpr ⟨g1.1, Nat.lt_of_lt_of_le g2 h1⟩
  exact (dn_mem.mp h2).resolve_right g3
theorem sp_mem {s : St} {r p : Nat} (h : p ∈ sp s r) : p ∈ sDn s r := (List.mem_filter.mp h).1
theorem map_snoc {oa : Nat → Nat} (l : List Nat) (o : Nat) : l.map oa ++ [oa o] = (l ++ [o]).map oa := by rw [List.map_append]; rfl
/-- what apply leaves -/
def Aq (ow oa la : Nat → Nat) (l0 l1 : List Nat) (h : Hp) (x : Nat) (s : St) (r o : Nat) (h' : Hp) : Prop := ∃ ow' la' l0' l1', Og (sz h) ow ow' ∧ Fz (S3 x r) ow h h' ∧ Ap ow' oa la' l0' l1' h' x (doo s r o) r ∧ TL (doo s r o) r 0 l0' ∧ TL (doo s r o) r 1 l1' ∧ l0'.length + l1'.length = (if sKn s o = 4 then l0.length + l1.length + 1 else l0.length + l1.length) ∧ sz h' ≤ sz h + 1 ∧ sl h' ≤ sl h + 400
set_option maxHeartbeats 2000000 in
theorem c_apply {x r o : Nat} {ow oa la : Nat → Nat} {l0 l1 : List Nat} {h : Hp} {s : St} {P : Option Value → Hp → Prop} (X : FixR x r ow h) (hx : ow (x + 1) = 0) (hz : x + 83 ≤ sz h) (A : Ap ow oa la l0 l1 h x s r) (D : Dk s r o) (hB : Bd s) (hO : ∀ p, p ∈ sDn s r ∨ p = o → OpR ow oa h s p) (T0 : TL s r 0 l0) (T1 : TL s r 1 l1) (hP : ∀ h', Aq ow oa la l0 l1 h x s r o h' → P none h') : Ev M_X5_apply [.ref (rb x r), .ref (oa o)] h P := by
  have hr := D.r4
  have hbz : rb x r + 20 ≤ sz h := by unfold rb; omega
  have O := hO o (Or.inr rfl)
  have ok := O.k
  obtain ⟨b, b1, b2, b3, b4, b5, b6, b7⟩ := O.ch
  have hk := (hB.2.1 o D.o2).1
  have ht := (hB.2.1 o D.o2).2.1
  have ht2 : sTg s o < 2 := by omega
  obtain ⟨A1, A2, A3, A4, A5⟩ := A
  have A := show Ap ow oa la l0 l1 h x s r from ⟨A1, A2, A3, A4, A5⟩
  have lsp : (sp s r).length ≤ 240 := Nat.le_trans (List.length_filter_le _ _) (hB.2.2.1 r hr).2.1
  rcases (show sKn s o = 0 ∨ sKn s o = 1 ∨ sKn s o = 2 ∨ sKn s o = 3 ∨ sKn s o = 4 ∨ sKn s o = 5 by omega) with k | k | k | k | k | k <;> rw [k] at b4
  · have tb : sm_tab 9 98 0 4 #[35, 54, 66, 74, 82] (nI 0) = some 44 := rfl
    have e2 := A1 (sTg s o) ht2
    simp (disch := first | omega | assumption) only [Z_iconst, Z_bipush, Z_sipush, Z_ldc, Z_ldcM, Z_ldcw, Z_null, Z_getstatic, Z_iload0, Z_aload0, Z_aloadq0, Z_aloadn0, Z_istore0, Z_astore0, Z_astoreq0, Z_astoren0, Z_iinc0, Z_iload1, Z_aload1, Z_aloadq1, Z_aloadn1, Z_istore1, Z_astore1, Z_astoreq1, Z_astoren1, Z_iinc1, Z_iload2, Z_aload2, Z_aloadq2, Z_aloadn2, Z_istore2, Z_astore2, Z_astoreq2, Z_astoren2, Z_iinc2, Z_iload3, Z_aload3, Z_aloadq3, Z_aloadn3, Z_istore3, Z_astore3, Z_astoreq3, Z_astoren3, Z_iinc3, Z_iload4, Z_aload4, Z_aloadq4, Z_aloadn4, Z_istore4, Z_astore4, Z_astoreq4, Z_astoren4, Z_iinc4, Z_iload5, Z_aload5, Z_aloadq5, Z_aloadn5, Z_istore5, Z_astore5, Z_astoreq5, Z_astoren5, Z_iinc5, Z_iload6, Z_aload6, Z_aloadq6, Z_aloadn6, Z_istore6, Z_astore6, Z_astoreq6, Z_astoren6, Z_iinc6, Z_iload7, Z_aload7, Z_aloadq7, Z_aloadn7, Z_istore7, Z_astore7, Z_astoreq7, Z_astoren7, Z_iinc7, Z_iload8, Z_aload8, Z_aloadq8, Z_aloadn8, Z_istore8, Z_astore8, Z_astoreq8, Z_astoren8, Z_iinc8, Z_iload9, Z_aload9, Z_aloadq9, Z_aloadn9, Z_istore9, Z_astore9, Z_astoreq9, Z_astoren9, Z_iinc9, Z_iload10, Z_aload10, Z_aloadq10, Z_aloadn10, Z_istore10, Z_astore10, Z_astoreq10, Z_astoren10, Z_iinc10, Z_iload11, Z_aload11, Z_aloadq11, Z_aloadn11, Z_istore11, Z_astore11, Z_astoreq11, Z_astoren11, Z_iinc11, Z_iload12, Z_aload12, Z_aloadq12, Z_aloadn12, Z_istore12, Z_astore12, Z_astoreq12, Z_astoren12, Z_iinc12, Z_iadd, Z_isub, Z_imul, Z_iand, Z_ior, Z_ishl, Z_ishr, Z_iushr, Z_idiv, Z_irem, Z_dup, Z_dupx1, Z_dup2, Z_pop, Z_if_eq, Z_icmp_eq, Z_if_ne, Z_icmp_ne, Z_if_lt, Z_icmp_lt, Z_if_le, Z_icmp_le, Z_if_ge, Z_icmp_ge, Z_if_gt, Z_icmp_gt, Z_acmp_eqq1, Z_acmp_eqq2, Z_acmp_eqq3, Z_acmp_eqq4, Z_acmp_neq1, Z_acmp_neq2, Z_acmp_neq3, Z_acmp_neq4, Z_ifnull, Z_ifnullN, Z_ifnullq, Z_ifnonnull, Z_ifnonnullN, Z_ifnonnullq, Z_goto, Z_getI, Z_getZ, Z_getR, Z_putI, Z_putR, Z_putN, Z_putQ, Z_putZ, Z_new, Z_newarray, Z_anewarray, Z_alen, Z_cast, Z_objInit, Z_clone, Z_getClass, Z_copy, Z_max, Z_min, Y_iaload, Y_baload, Y_aaload, Y_iastore, Y_bastore, Y_aastore, Y_aastoreN, lt_0p, lt_1n, va_some, va_none, Option.toList_some, Option.toList_none, List.nil_append, List.cons_append, List.length_nil, List.length_cons, true_and, and_true, if_true, if_false, ite_true, ite_false, Nat.zero_le, Nat.not_lt_zero, Nat.reduceLeDiff, Nat.reduceEqDiff, Nat.reduceAdd, Nat.reduceMul, Nat.reduceSub, Nat.reduceLT, Nat.zero_add, not_true_eq_false, not_false_eq_true, true_or, or_true, false_or, or_false, Nat.add_zero, false_and, and_false, exists_eq_left', Option.some.injEq, k_X5_apply_0, sk_X5_apply_44, k_X5_apply_44, sk_X5_apply_63, k_X5_apply_63, sk_X5_apply_75, k_X5_apply_75, sk_X5_apply_83, k_X5_apply_83, sk_X5_apply_91, k_X5_apply_91, sk_X5_apply_107, k_X5_apply_107, sk_X5_apply_120, k_X5_apply_120, Q_X5_apply, C_AL_add_9ea2d, C_X5_dropPutsBefore, C_X5_keepGreaterMark, C_X6_bringIn, C_X6_bringOut, E_X5_apply, nI_add, pk_mul, ar_lt, ar_le, ar_eq, z_lt, z_le, z_gt, z_ge, z_eq, z_eq2, ix_nI, nI_clamp, ne_eq, ok, b1, b3, b4, b5, b6, Z_table tb, X.k, X.f2, X.k2, X.l2, ht2, e2]
    have F : Fz (S3 x r) ow h (waI h (rb x r + 2) (sTg s o) (cs s r (nI (sTg s o)) + sVl s o)) := Fz.rf.waI (fun _ => by rw [X.o2]; unfold S3; omega)
    refine hP _ ⟨ow, la, l0, l1, Og.rf, F, ⟨?_, ?_, ?_, ?_, ?_⟩, T0.not D (by omega), T1.not D (by omega), by rw [if_neg (by omega)], by rw [sz_waI]; omega, by rw [sl_waI]; omega⟩
    · intro c hc
      rw [aI_waI, cs_doo D]
      by_cases hcc : c = sTg s o
      · rw [if_pos ⟨rfl, hcc⟩, if_pos ⟨k, by rw [hcc]⟩, hcc]
      · rw [if_neg (fun z => hcc z.2), if_neg (fun z => hcc ((nI_tg ht2 hc).mp z.2).symm)]
        exact A1 c hc
    · have F2 : Fz (fun q => q = rb x r + 2) ow h (waI h (rb x r + 2) (sTg s o) (cs s r (nI (sTg s o)) + sVl s o)) := Fz.rf.waI (fun _ => X.o2)
      rw [sp_doo D, sp_ntk (by omega), if_neg (by omega), List.append_nil]
      exact A2.fz F2 Og.rf (by omega)
    · intro c hc
      rw [aR_waI, wr_doo D, if_neg (by omega)]
      exact A3 c hc
    · have F2 : Fz (fun q => q = rb x r + 2) ow h (waI h (rb x r + 2) (sTg s o) (cs s r (nI (sTg s o)) + sVl s o)) := Fz.rf.waI (fun _ => X.o2)
      rw [fR_waI]
      exact Sgm.cg _ _ (fun q _ => ⟨rfl, rfl, rmd_same D (by omega)⟩) (Sgm.fz F2 Og.rf (by omega) _ _ A4)
    · have F2 : Fz (fun q => q = rb x r + 2) ow h (waI h (rb x r + 2) (sTg s o) (cs s r (nI (sTg s o)) + sVl s o)) := Fz.rf.waI (fun _ => X.o2)
      rw [fR_waI]
      exact Sgm.cg _ _ (fun q _ => ⟨rfl, rfl, rmd_same D (by omega)⟩) (Sgm.fz F2 Og.rf (by omega) _ _ A5)
  · have tb : sm_tab 9 98 0 4 #[35, 54, 66, 74, 82] (nI 1) = some 63 := rfl
    simp (disch := first | omega | assumption) only [Z_iconst, Z_bipush, Z_sipush, Z_ldc, Z_ldcM, Z_ldcw, Z_null, Z_getstatic, Z_iload0, Z_aload0, Z_aloadq0, Z_aloadn0, Z_istore0, Z_astore0, Z_astoreq0, Z_astoren0, Z_iinc0, Z_iload1, Z_aload1, Z_aloadq1, Z_aloadn1, Z_istore1, Z_astore1, Z_astoreq1, Z_astoren1, Z_iinc1, Z_iload2, Z_aload2, Z_aloadq2, Z_aloadn2, Z_istore2, Z_astore2, Z_astoreq2, Z_astoren2, Z_iinc2, Z_iload3, Z_aload3, Z_aloadq3, Z_aloadn3, Z_istore3, Z_astore3, Z_astoreq3, Z_astoren3, Z_iinc3, Z_iload4, Z_aload4, Z_aloadq4, Z_aloadn4, Z_istore4, Z_astore4, Z_astoreq4, Z_astoren4, Z_iinc4, Z_iload5, Z_aload5, Z_aloadq5, Z_aloadn5, Z_istore5, Z_astore5, Z_astoreq5, Z_astoren5, Z_iinc5, Z_iload6, Z_aload6, Z_aloadq6, Z_aloadn6, Z_istore6, Z_astore6, Z_astoreq6, Z_astoren6, Z_iinc6, Z_iload7, Z_aload7, Z_aloadq7, Z_aloadn7, Z_istore7, Z_astore7, Z_astoreq7, Z_astoren7, Z_iinc7, Z_iload8, Z_aload8, Z_aloadq8, Z_aloadn8, Z_istore8, Z_astore8, Z_astoreq8, Z_astoren8, Z_iinc8, Z_iload9, Z_aload9, Z_aloadq9, Z_aloadn9, Z_istore9, Z_astore9, Z_astoreq9, Z_astoren9, Z_iinc9, Z_iload10, Z_aload10, Z_aloadq10, Z_aloadn10, Z_istore10, Z_astore10, Z_astoreq10, Z_astoren10, Z_iinc10, Z_iload11, Z_aload11, Z_aloadq11, Z_aloadn11, Z_istore11, Z_astore11, Z_astoreq11, Z_astoren11, Z_iinc11, Z_iload12, Z_aload12, Z_aloadq12, Z_aloadn12, Z_istore12, Z_astore12, Z_astoreq12, Z_astoren12, Z_iinc12, Z_iadd, Z_isub, Z_imul, Z_iand, Z_ior, Z_ishl, Z_ishr, Z_iushr, Z_idiv, Z_irem, Z_dup, Z_dupx1, Z_dup2, Z_pop, Z_if_eq, Z_icmp_eq, Z_if_ne, Z_icmp_ne, Z_if_lt, Z_icmp_lt, Z_if_le, Z_icmp_le, Z_if_ge, Z_icmp_ge, Z_if_gt, Z_icmp_gt, Z_acmp_eqq1, Z_acmp_eqq2, Z_acmp_eqq3, Z_acmp_eqq4, Z_acmp_neq1, Z_acmp_neq2, Z_acmp_neq3, Z_acmp_neq4, Z_ifnull, Z_ifnullN, Z_ifnullq, Z_ifnonnull, Z_ifnonnullN, Z_ifnonnullq, Z_goto, Z_getI, Z_getZ, Z_getR, Z_putI, Z_putR, Z_putN, Z_putQ, Z_putZ, Z_new, Z_newarray, Z_anewarray, Z_alen, Z_cast, Z_objInit, Z_clone, Z_getClass, Z_copy, Z_max, Z_min, Y_iaload, Y_baload, Y_aaload, Y_iastore, Y_bastore, Y_aastore, Y_aastoreN, lt_0p, lt_1n, va_some, va_none, Option.toList_some, Option.toList_none, List.nil_append, List.cons_append, List.length_nil, List.length_cons, true_and, and_true, if_true, if_false, ite_true, ite_false, Nat.zero_le, Nat.not_lt_zero, Nat.reduceLeDiff, Nat.reduceEqDiff, Nat.reduceAdd, Nat.reduceMul, Nat.reduceSub, Nat.reduceLT, Nat.zero_add, not_true_eq_false, not_false_eq_true, true_or, or_true, false_or, or_false, Nat.add_zero, false_and, and_false, exists_eq_left', Option.some.injEq, k_X5_apply_0, sk_X5_apply_44, k_X5_apply_44, sk_X5_apply_63, k_X5_apply_63, sk_X5_apply_75, k_X5_apply_75, sk_X5_apply_83, k_X5_apply_83, sk_X5_apply_91, k_X5_apply_91, sk_X5_apply_107, k_X5_apply_107, sk_X5_apply_120, k_X5_apply_120, Q_X5_apply, C_AL_add_9ea2d, C_X5_dropPutsBefore, C_X5_keepGreaterMark, C_X6_bringIn, C_X6_bringOut, E_X5_apply, nI_add, pk_mul, ar_lt, ar_le, ar_eq, z_lt, z_le, z_gt, z_ge, z_eq, z_eq2, ix_nI, nI_clamp, ne_eq, ok, b1, b3, b4, b5, b6, Z_table tb, X.k, X.f3, A2.1]
    refine c_alAdd A2 (by rw [List.length_map]; omega) (Or.inr ok) O.s (fun ow' h' hA => ?_)
    obtain ⟨d1, d2, d3, d4, d5, d6⟩ := hA
    simp (disch := first | omega | assumption) only [Z_iconst, Z_bipush, Z_sipush, Z_ldc, Z_ldcM, Z_ldcw, Z_null, Z_getstatic, Z_iload0, Z_aload0, Z_aloadq0, Z_aloadn0, Z_istore0, Z_astore0, Z_astoreq0, Z_astoren0, Z_iinc0, Z_iload1, Z_aload1, Z_aloadq1, Z_aloadn1, Z_istore1, Z_astore1, Z_astoreq1, Z_astoren1, Z_iinc1, Z_iload2, Z_aload2, Z_aloadq2, Z_aloadn2, Z_istore2, Z_astore2, Z_astoreq2, Z_astoren2, Z_iinc2, Z_iload3, Z_aload3, Z_aloadq3, Z_aloadn3, Z_istore3, Z_astore3, Z_astoreq3, Z_astoren3, Z_iinc3, Z_iload4, Z_aload4, Z_aloadq4, Z_aloadn4, Z_istore4, Z_astore4, Z_astoreq4, Z_astoren4, Z_iinc4, Z_iload5, Z_aload5, Z_aloadq5, Z_aloadn5, Z_istore5, Z_astore5, Z_astoreq5, Z_astoren5, Z_iinc5, Z_iload6, Z_aload6, Z_aloadq6, Z_aloadn6, Z_istore6, Z_astore6, Z_astoreq6, Z_astoren6, Z_iinc6, Z_iload7, Z_aload7, Z_aloadq7, Z_aloadn7, Z_istore7, Z_astore7, Z_astoreq7, Z_astoren7, Z_iinc7, Z_iload8, Z_aload8, Z_aloadq8, Z_aloadn8, Z_istore8, Z_astore8, Z_astoreq8, Z_astoren8, Z_iinc8, Z_iload9, Z_aload9, Z_aloadq9, Z_aloadn9, Z_istore9, Z_astore9, Z_astoreq9, Z_astoren9, Z_iinc9, Z_iload10, Z_aload10, Z_aloadq10, Z_aloadn10, Z_istore10, Z_astore10, Z_astoreq10, Z_astoren10, Z_iinc10, Z_iload11, Z_aload11, Z_aloadq11, Z_aloadn11, Z_istore11, Z_astore11, Z_astoreq11, Z_astoren11, Z_iinc11, Z_iload12, Z_aload12, Z_aloadq12, Z_aloadn12, Z_istore12, Z_astore12, Z_astoreq12, Z_astoren12, Z_iinc12, Z_iadd, Z_isub, Z_imul, Z_iand, Z_ior, Z_ishl, Z_ishr, Z_iushr, Z_idiv, Z_irem, Z_dup, Z_dupx1, Z_dup2, Z_pop, Z_if_eq, Z_icmp_eq, Z_if_ne, Z_icmp_ne, Z_if_lt, Z_icmp_lt, Z_if_le, Z_icmp_le, Z_if_ge, Z_icmp_ge, Z_if_gt, Z_icmp_gt, Z_acmp_eqq1, Z_acmp_eqq2, Z_acmp_eqq3, Z_acmp_eqq4, Z_acmp_neq1, Z_acmp_neq2, Z_acmp_neq3, Z_acmp_neq4, Z_ifnull, Z_ifnullN, Z_ifnullq, Z_ifnonnull, Z_ifnonnullN, Z_ifnonnullq, Z_goto, Z_getI, Z_getZ, Z_getR, Z_putI, Z_putR, Z_putN, Z_putQ, Z_putZ, Z_new, Z_newarray, Z_anewarray, Z_alen, Z_cast, Z_objInit, Z_clone, Z_getClass, Z_copy, Z_max, Z_min, Y_iaload, Y_baload, Y_aaload, Y_iastore, Y_bastore, Y_aastore, Y_aastoreN, lt_0p, lt_1n, va_some, va_none, Option.toList_some, Option.toList_none, List.nil_append, List.cons_append, List.length_nil, List.length_cons, true_and, and_true, if_true, if_false, ite_true, ite_false, Nat.zero_le, Nat.not_lt_zero, Nat.reduceLeDiff, Nat.reduceEqDiff, Nat.reduceAdd, Nat.reduceMul, Nat.reduceSub, Nat.reduceLT, Nat.zero_add, not_true_eq_false, not_false_eq_true, true_or, or_true, false_or, or_false, Nat.add_zero, false_and, and_false, exists_eq_left', Option.some.injEq, k_X5_apply_0, sk_X5_apply_44, k_X5_apply_44, sk_X5_apply_63, k_X5_apply_63, sk_X5_apply_75, k_X5_apply_75, sk_X5_apply_83, k_X5_apply_83, sk_X5_apply_91, k_X5_apply_91, sk_X5_apply_107, k_X5_apply_107, sk_X5_apply_120, k_X5_apply_120, Q_X5_apply, C_AL_add_9ea2d, C_X5_dropPutsBefore, C_X5_keepGreaterMark, C_X6_bringIn, C_X6_bringOut]
    have F : Fz (S3 x r) ow h h' := d2.mo (fun q hq => by unfold S3; omega)
    have C2 : Ap ow' oa la l0 l1 h' x (doo s r o) r := by
      have t0 := fz_t X d2 hbz (show 0 < 2 by decide) (by omega)
      have t1 := fz_t X d2 hbz (show 1 < 2 by decide) (by omega)
      refine ⟨?_, ?_, ?_, ?_, ?_⟩
      · intro c hc
        rw [fz_sm (oa := oa) X d2 hbz (by omega), cs_doo D, if_neg (by omega)]
        exact A1 c hc
      · rw [sp_doo D, sp_ntk (by omega), if_pos k, ← map_snoc]
        exact d3
      · intro c hc
        rw [fz_wr (oa := oa) X d2 hbz (by omega), wr_doo D, if_neg (by omega)]
        exact A3 c hc
      · rw [show rb x r + 17 = rb x r + 17 + 2 * 0 from rfl, t0]
        exact Sgm.cg _ _ (fun q _ => ⟨rfl, rfl, rmd_same D (by omega)⟩) (Sgm.fz d2 d1 (by omega) _ _ A4)
      · rw [show rb x r + 19 = rb x r + 17 + 2 * 1 from rfl, t1]
        exact Sgm.cg _ _ (fun q _ => ⟨rfl, rfl, rmd_same D (by omega)⟩) (Sgm.fz d2 d1 (by omega) _ _ A5)
    exact hP _ ⟨ow', la, l0, l1, d1, F, C2, T0.not D (by omega), T1.not D (by omega), by rw [if_neg (by omega)], d4, d5⟩
  · have tb : sm_tab 9 98 0 4 #[35, 54, 66, 74, 82] (nI 2) = some 75 := rfl
    simp (disch := first | omega | assumption) only [Z_iconst, Z_bipush, Z_sipush, Z_ldc, Z_ldcM, Z_ldcw, Z_null, Z_getstatic, Z_iload0, Z_aload0, Z_aloadq0, Z_aloadn0, Z_istore0, Z_astore0, Z_astoreq0, Z_astoren0, Z_iinc0, Z_iload1, Z_aload1, Z_aloadq1, Z_aloadn1, Z_istore1, Z_astore1, Z_astoreq1, Z_astoren1, Z_iinc1, Z_iload2, Z_aload2, Z_aloadq2, Z_aloadn2, Z_istore2, Z_astore2, Z_astoreq2, Z_astoren2, Z_iinc2, Z_iload3, Z_aload3, Z_aloadq3, Z_aloadn3, Z_istore3, Z_astore3, Z_astoreq3, Z_astoren3, Z_iinc3, Z_iload4, Z_aload4, Z_aloadq4, Z_aloadn4, Z_istore4, Z_astore4, Z_astoreq4, Z_astoren4, Z_iinc4, Z_iload5, Z_aload5, Z_aloadq5, Z_aloadn5, Z_istore5, Z_astore5, Z_astoreq5, Z_astoren5, Z_iinc5, Z_iload6, Z_aload6, Z_aloadq6, Z_aloadn6, Z_istore6, Z_astore6, Z_astoreq6, Z_astoren6, Z_iinc6, Z_iload7, Z_aload7, Z_aloadq7, Z_aloadn7, Z_istore7, Z_astore7, Z_astoreq7, Z_astoren7, Z_iinc7, Z_iload8, Z_aload8, Z_aloadq8, Z_aloadn8, Z_istore8, Z_astore8, Z_astoreq8, Z_astoren8, Z_iinc8, Z_iload9, Z_aload9, Z_aloadq9, Z_aloadn9, Z_istore9, Z_astore9, Z_astoreq9, Z_astoren9, Z_iinc9, Z_iload10, Z_aload10, Z_aloadq10, Z_aloadn10, Z_istore10, Z_astore10, Z_astoreq10, Z_astoren10, Z_iinc10, Z_iload11, Z_aload11, Z_aloadq11, Z_aloadn11, Z_istore11, Z_astore11, Z_astoreq11, Z_astoren11, Z_iinc11, Z_iload12, Z_aload12, Z_aloadq12, Z_aloadn12, Z_istore12, Z_astore12, Z_astoreq12, Z_astoren12, Z_iinc12, Z_iadd, Z_isub, Z_imul, Z_iand, Z_ior, Z_ishl, Z_ishr, Z_iushr, Z_idiv, Z_irem, Z_dup, Z_dupx1, Z_dup2, Z_pop, Z_if_eq, Z_icmp_eq, Z_if_ne, Z_icmp_ne, Z_if_lt, Z_icmp_lt, Z_if_le, Z_icmp_le, Z_if_ge, Z_icmp_ge, Z_if_gt, Z_icmp_gt, Z_acmp_eqq1, Z_acmp_eqq2, Z_acmp_eqq3, Z_acmp_eqq4, Z_acmp_neq1, Z_acmp_neq2, Z_acmp_neq3, Z_acmp_neq4, Z_ifnull, Z_ifnullN, Z_ifnullq, Z_ifnonnull, Z_ifnonnullN, Z_ifnonnullq, Z_goto, Z_getI, Z_getZ, Z_getR, Z_putI, Z_putR, Z_putN, Z_putQ, Z_putZ, Z_new, Z_newarray, Z_anewarray, Z_alen, Z_cast, Z_objInit, Z_clone, Z_getClass, Z_copy, Z_max, Z_min, Y_iaload, Y_baload, Y_aaload, Y_iastore, Y_bastore, Y_aastore, Y_aastoreN, lt_0p, lt_1n, va_some, va_none, Option.toList_some, Option.toList_none, List.nil_append, List.cons_append, List.length_nil, List.length_cons, true_and, and_true, if_true, if_false, ite_true, ite_false, Nat.zero_le, Nat.not_lt_zero, Nat.reduceLeDiff, Nat.reduceEqDiff, Nat.reduceAdd, Nat.reduceMul, Nat.reduceSub, Nat.reduceLT, Nat.zero_add, not_true_eq_false, not_false_eq_true, true_or, or_true, false_or, or_false, Nat.add_zero, false_and, and_false, exists_eq_left', Option.some.injEq, k_X5_apply_0, sk_X5_apply_44, k_X5_apply_44, sk_X5_apply_63, k_X5_apply_63, sk_X5_apply_75, k_X5_apply_75, sk_X5_apply_83, k_X5_apply_83, sk_X5_apply_91, k_X5_apply_91, sk_X5_apply_107, k_X5_apply_107, sk_X5_apply_120, k_X5_apply_120, Q_X5_apply, C_AL_add_9ea2d, C_X5_dropPutsBefore, C_X5_keepGreaterMark, C_X6_bringIn, C_X6_bringOut, E_X5_apply, nI_add, pk_mul, ar_lt, ar_le, ar_eq, z_lt, z_le, z_gt, z_ge, z_eq, z_eq2, ix_nI, nI_clamp, ne_eq, ok, b1, b3, b4, b5, b6, Z_table tb, X.k]
    refine c_cDrop X hx hz hr hB (fun p hp => ⟨(hB.2.2.1 r hr).2.2.2.1 p (sp_mem hp), hO p (Or.inl (sp_mem hp))⟩) D.o2 O k lsp A2 (fun h' d2 d3 d4 d5 => ?_)
    simp (disch := first | omega | assumption) only [Z_iconst, Z_bipush, Z_sipush, Z_ldc, Z_ldcM, Z_ldcw, Z_null, Z_getstatic, Z_iload0, Z_aload0, Z_aloadq0, Z_aloadn0, Z_istore0, Z_astore0, Z_astoreq0, Z_astoren0, Z_iinc0, Z_iload1, Z_aload1, Z_aloadq1, Z_aloadn1, Z_istore1, Z_astore1, Z_astoreq1, Z_astoren1, Z_iinc1, Z_iload2, Z_aload2, Z_aloadq2, Z_aloadn2, Z_istore2, Z_astore2, Z_astoreq2, Z_astoren2, Z_iinc2, Z_iload3, Z_aload3, Z_aloadq3, Z_aloadn3, Z_istore3, Z_astore3, Z_astoreq3, Z_astoren3, Z_iinc3, Z_iload4, Z_aload4, Z_aloadq4, Z_aloadn4, Z_istore4, Z_astore4, Z_astoreq4, Z_astoren4, Z_iinc4, Z_iload5, Z_aload5, Z_aloadq5, Z_aloadn5, Z_istore5, Z_astore5, Z_astoreq5, Z_astoren5, Z_iinc5, Z_iload6, Z_aload6, Z_aloadq6, Z_aloadn6, Z_istore6, Z_astore6, Z_astoreq6, Z_astoren6, Z_iinc6, Z_iload7, Z_aload7, Z_aloadq7, Z_aloadn7, Z_istore7, Z_astore7, Z_astoreq7, Z_astoren7, Z_iinc7, Z_iload8, Z_aload8, Z_aloadq8, Z_aloadn8, Z_istore8, Z_astore8, Z_astoreq8, Z_astoren8, Z_iinc8, Z_iload9, Z_aload9, Z_aloadq9, Z_aloadn9, Z_istore9, Z_astore9, Z_astoreq9, Z_astoren9, Z_iinc9, Z_iload10, Z_aload10, Z_aloadq10, Z_aloadn10, Z_istore10, Z_astore10, Z_astoreq10, Z_astoren10, Z_iinc10, Z_iload11, Z_aload11, Z_aloadq11, Z_aloadn11, Z_istore11, Z_astore11, Z_astoreq11, Z_astoren11, Z_iinc11, Z_iload12, Z_aload12, Z_aloadq12, Z_aloadn12, Z_istore12, Z_astore12, Z_astoreq12, Z_astoren12, Z_iinc12, Z_iadd, Z_isub, Z_imul, Z_iand, Z_ior, Z_ishl, Z_ishr, Z_iushr, Z_idiv, Z_irem, Z_dup, Z_dupx1, Z_dup2, Z_pop, Z_if_eq, Z_icmp_eq, Z_if_ne, Z_icmp_ne, Z_if_lt, Z_icmp_lt, Z_if_le, Z_icmp_le, Z_if_ge, Z_icmp_ge, Z_if_gt, Z_icmp_gt, Z_acmp_eqq1, Z_acmp_eqq2, Z_acmp_eqq3, Z_acmp_eqq4, Z_acmp_neq1, Z_acmp_neq2, Z_acmp_neq3, Z_acmp_neq4, Z_ifnull, Z_ifnullN, Z_ifnullq, Z_ifnonnull, Z_ifnonnullN, Z_ifnonnullq, Z_goto, Z_getI, Z_getZ, Z_getR, Z_putI, Z_putR, Z_putN, Z_putQ, Z_putZ, Z_new, Z_newarray, Z_anewarray, Z_alen, Z_cast, Z_objInit, Z_clone, Z_getClass, Z_copy, Z_max, Z_min, Y_iaload, Y_baload, Y_aaload, Y_iastore, Y_bastore, Y_aastore, Y_aastoreN, lt_0p, lt_1n, va_some, va_none, Option.toList_some, Option.toList_none, List.nil_append, List.cons_append, List.length_nil, List.length_cons, true_and, and_true, if_true, if_false, ite_true, ite_false, Nat.zero_le, Nat.not_lt_zero, Nat.reduceLeDiff, Nat.reduceEqDiff, Nat.reduceAdd, Nat.reduceMul, Nat.reduceSub, Nat.reduceLT, Nat.zero_add, not_true_eq_false, not_false_eq_true, true_or, or_true, false_or, or_false, Nat.add_zero, false_and, and_false, exists_eq_left', Option.some.injEq, k_X5_apply_0, sk_X5_apply_44, k_X5_apply_44, sk_X5_apply_63, k_X5_apply_63, sk_X5_apply_75, k_X5_apply_75, sk_X5_apply_83, k_X5_apply_83, sk_X5_apply_91, k_X5_apply_91, sk_X5_apply_107, k_X5_apply_107, sk_X5_apply_120, k_X5_apply_120, Q_X5_apply, C_AL_add_9ea2d, C_X5_dropPutsBefore, C_X5_keepGreaterMark, C_X6_bringIn, C_X6_bringOut]
    have F : Fz (S3 x r) ow h h' := d2.mo (fun q hq => by unfold S3; omega)
    have C2 : Ap ow oa la l0 l1 h' x (doo s r o) r := by
      have t0 := fz_t X d2 hbz (show 0 < 2 by decide) (by omega)
      have t1 := fz_t X d2 hbz (show 1 < 2 by decide) (by omega)
      refine ⟨?_, ?_, ?_, ?_, ?_⟩
      · intro c hc
        rw [fz_sm (oa := oa) X d2 hbz (by omega), cs_doo D, if_neg (by omega)]
        exact A1 c hc
      · rw [sp_doo D, if_neg (by omega), List.append_nil]
        exact d3
      · intro c hc
        rw [fz_wr (oa := oa) X d2 hbz (by omega), wr_doo D, if_neg (by omega)]
        exact A3 c hc
      · rw [show rb x r + 17 = rb x r + 17 + 2 * 0 from rfl, t0]
        exact Sgm.cg _ _ (fun q _ => ⟨rfl, rfl, rmd_same D (by omega)⟩) (Sgm.fz d2 Og.rf (by omega) _ _ A4)
      · rw [show rb x r + 19 = rb x r + 17 + 2 * 1 from rfl, t1]
        exact Sgm.cg _ _ (fun q _ => ⟨rfl, rfl, rmd_same D (by omega)⟩) (Sgm.fz d2 Og.rf (by omega) _ _ A5)
    exact hP _ ⟨ow, la, l0, l1, Og.rf, F, C2, T0.not D (by omega), T1.not D (by omega), by rw [if_neg (by omega)], by omega, by omega⟩
  · have tb : sm_tab 9 98 0 4 #[35, 54, 66, 74, 82] (nI 3) = some 83 := rfl
    simp (disch := first | omega | assumption) only [Z_iconst, Z_bipush, Z_sipush, Z_ldc, Z_ldcM, Z_ldcw, Z_null, Z_getstatic, Z_iload0, Z_aload0, Z_aloadq0, Z_aloadn0, Z_istore0, Z_astore0, Z_astoreq0, Z_astoren0, Z_iinc0, Z_iload1, Z_aload1, Z_aloadq1, Z_aloadn1, Z_istore1, Z_astore1, Z_astoreq1, Z_astoren1, Z_iinc1, Z_iload2, Z_aload2, Z_aloadq2, Z_aloadn2, Z_istore2, Z_astore2, Z_astoreq2, Z_astoren2, Z_iinc2, Z_iload3, Z_aload3, Z_aloadq3, Z_aloadn3, Z_istore3, Z_astore3, Z_astoreq3, Z_astoren3, Z_iinc3, Z_iload4, Z_aload4, Z_aloadq4, Z_aloadn4, Z_istore4, Z_astore4, Z_astoreq4, Z_astoren4, Z_iinc4, Z_iload5, Z_aload5, Z_aloadq5, Z_aloadn5, Z_istore5, Z_astore5, Z_astoreq5, Z_astoren5, Z_iinc5, Z_iload6, Z_aload6, Z_aloadq6, Z_aloadn6, Z_istore6, Z_astore6, Z_astoreq6, Z_astoren6, Z_iinc6, Z_iload7, Z_aload7, Z_aloadq7, Z_aloadn7, Z_istore7, Z_astore7, Z_astoreq7, Z_astoren7, Z_iinc7, Z_iload8, Z_aload8, Z_aloadq8, Z_aloadn8, Z_istore8, Z_astore8, Z_astoreq8, Z_astoren8, Z_iinc8, Z_iload9, Z_aload9, Z_aloadq9, Z_aloadn9, Z_istore9, Z_astore9, Z_astoreq9, Z_astoren9, Z_iinc9, Z_iload10, Z_aload10, Z_aloadq10, Z_aloadn10, Z_istore10, Z_astore10, Z_astoreq10, Z_astoren10, Z_iinc10, Z_iload11, Z_aload11, Z_aloadq11, Z_aloadn11, Z_istore11, Z_astore11, Z_astoreq11, Z_astoren11, Z_iinc11, Z_iload12, Z_aload12, Z_aloadq12, Z_aloadn12, Z_istore12, Z_astore12, Z_astoreq12, Z_astoren12, Z_iinc12, Z_iadd, Z_isub, Z_imul, Z_iand, Z_ior, Z_ishl, Z_ishr, Z_iushr, Z_idiv, Z_irem, Z_dup, Z_dupx1, Z_dup2, Z_pop, Z_if_eq, Z_icmp_eq, Z_if_ne, Z_icmp_ne, Z_if_lt, Z_icmp_lt, Z_if_le, Z_icmp_le, Z_if_ge, Z_icmp_ge, Z_if_gt, Z_icmp_gt, Z_acmp_eqq1, Z_acmp_eqq2, Z_acmp_eqq3, Z_acmp_eqq4, Z_acmp_neq1, Z_acmp_neq2, Z_acmp_neq3, Z_acmp_neq4, Z_ifnull, Z_ifnullN, Z_ifnullq, Z_ifnonnull, Z_ifnonnullN, Z_ifnonnullq, Z_goto, Z_getI, Z_getZ, Z_getR, Z_putI, Z_putR, Z_putN, Z_putQ, Z_putZ, Z_new, Z_newarray, Z_anewarray, Z_alen, Z_cast, Z_objInit, Z_clone, Z_getClass, Z_copy, Z_max, Z_min, Y_iaload, Y_baload, Y_aaload, Y_iastore, Y_bastore, Y_aastore, Y_aastoreN, lt_0p, lt_1n, va_some, va_none, Option.toList_some, Option.toList_none, List.nil_append, List.cons_append, List.length_nil, List.length_cons, true_and, and_true, if_true, if_false, ite_true, ite_false, Nat.zero_le, Nat.not_lt_zero, Nat.reduceLeDiff, Nat.reduceEqDiff, Nat.reduceAdd, Nat.reduceMul, Nat.reduceSub, Nat.reduceLT, Nat.zero_add, not_true_eq_false, not_false_eq_true, true_or, or_true, false_or, or_false, Nat.add_zero, false_and, and_false, exists_eq_left', Option.some.injEq, k_X5_apply_0, sk_X5_apply_44, k_X5_apply_44, sk_X5_apply_63, k_X5_apply_63, sk_X5_apply_75, k_X5_apply_75, sk_X5_apply_83, k_X5_apply_83, sk_X5_apply_91, k_X5_apply_91, sk_X5_apply_107, k_X5_apply_107, sk_X5_apply_120, k_X5_apply_120, Q_X5_apply, C_AL_add_9ea2d, C_X5_dropPutsBefore, C_X5_keepGreaterMark, C_X6_bringIn, C_X6_bringOut, E_X5_apply, nI_add, pk_mul, ar_lt, ar_le, ar_eq, z_lt, z_le, z_gt, z_ge, z_eq, z_eq2, ix_nI, nI_clamp, ne_eq, ok, b1, b3, b4, b5, b6, Z_table tb, X.k]
    refine c_cKeep (w := wr s r (nI (sTg s o))) X hB D.o2 O (fun p hp => ⟨(hB.2.2.1 r hr).2.2.2.1 p (wr_mem hp).1, hO p (Or.inl (wr_mem hp).1)⟩) (A3 _ ht2) ?_
    simp (disch := first | omega | assumption) only [Z_iconst, Z_bipush, Z_sipush, Z_ldc, Z_ldcM, Z_ldcw, Z_null, Z_getstatic, Z_iload0, Z_aload0, Z_aloadq0, Z_aloadn0, Z_istore0, Z_astore0, Z_astoreq0, Z_astoren0, Z_iinc0, Z_iload1, Z_aload1, Z_aloadq1, Z_aloadn1, Z_istore1, Z_astore1, Z_astoreq1, Z_astoren1, Z_iinc1, Z_iload2, Z_aload2, Z_aloadq2, Z_aloadn2, Z_istore2, Z_astore2, Z_astoreq2, Z_astoren2, Z_iinc2, Z_iload3, Z_aload3, Z_aloadq3, Z_aloadn3, Z_istore3, Z_astore3, Z_astoreq3, Z_astoren3, Z_iinc3, Z_iload4, Z_aload4, Z_aloadq4, Z_aloadn4, Z_istore4, Z_astore4, Z_astoreq4, Z_astoren4, Z_iinc4, Z_iload5, Z_aload5, Z_aloadq5, Z_aloadn5, Z_istore5, Z_astore5, Z_astoreq5, Z_astoren5, Z_iinc5, Z_iload6, Z_aload6, Z_aloadq6, Z_aloadn6, Z_istore6, Z_astore6, Z_astoreq6, Z_astoren6, Z_iinc6, Z_iload7, Z_aload7, Z_aloadq7, Z_aloadn7, Z_istore7, Z_astore7, Z_astoreq7, Z_astoren7, Z_iinc7, Z_iload8, Z_aload8, Z_aloadq8, Z_aloadn8, Z_istore8, Z_astore8, Z_astoreq8, Z_astoren8, Z_iinc8, Z_iload9, Z_aload9, Z_aloadq9, Z_aloadn9, Z_istore9, Z_astore9, Z_astoreq9, Z_astoren9, Z_iinc9, Z_iload10, Z_aload10, Z_aloadq10, Z_aloadn10, Z_istore10, Z_astore10, Z_astoreq10, Z_astoren10, Z_iinc10, Z_iload11, Z_aload11, Z_aloadq11, Z_aloadn11, Z_istore11, Z_astore11, Z_astoreq11, Z_astoren11, Z_iinc11, Z_iload12, Z_aload12, Z_aloadq12, Z_aloadn12, Z_istore12, Z_astore12, Z_astoreq12, Z_astoren12, Z_iinc12, Z_iadd, Z_isub, Z_imul, Z_iand, Z_ior, Z_ishl, Z_ishr, Z_iushr, Z_idiv, Z_irem, Z_dup, Z_dupx1, Z_dup2, Z_pop, Z_if_eq, Z_icmp_eq, Z_if_ne, Z_icmp_ne, Z_if_lt, Z_icmp_lt, Z_if_le, Z_icmp_le, Z_if_ge, Z_icmp_ge, Z_if_gt, Z_icmp_gt, Z_acmp_eqq1, Z_acmp_eqq2, Z_acmp_eqq3, Z_acmp_eqq4, Z_acmp_neq1, Z_acmp_neq2, Z_acmp_neq3, Z_acmp_neq4, Z_ifnull, Z_ifnullN, Z_ifnullq, Z_ifnonnull, Z_ifnonnullN, Z_ifnonnullq, Z_goto, Z_getI, Z_getZ, Z_getR, Z_putI, Z_putR, Z_putN, Z_putQ, Z_putZ, Z_new, Z_newarray, Z_anewarray, Z_alen, Z_cast, Z_objInit, Z_clone, Z_getClass, Z_copy, Z_max, Z_min, Y_iaload, Y_baload, Y_aaload, Y_iastore, Y_bastore, Y_aastore, Y_aastoreN, lt_0p, lt_1n, va_some, va_none, Option.toList_some, Option.toList_none, List.nil_append, List.cons_append, List.length_nil, List.length_cons, true_and, and_true, if_true, if_false, ite_true, ite_false, Nat.zero_le, Nat.not_lt_zero, Nat.reduceLeDiff, Nat.reduceEqDiff, Nat.reduceAdd, Nat.reduceMul, Nat.reduceSub, Nat.reduceLT, Nat.zero_add, not_true_eq_false, not_false_eq_true, true_or, or_true, false_or, or_false, Nat.add_zero, false_and, and_false, exists_eq_left', Option.some.injEq, k_X5_apply_0, sk_X5_apply_44, k_X5_apply_44, sk_X5_apply_63, k_X5_apply_63, sk_X5_apply_75, k_X5_apply_75, sk_X5_apply_83, k_X5_apply_83, sk_X5_apply_91, k_X5_apply_91, sk_X5_apply_107, k_X5_apply_107, sk_X5_apply_120, k_X5_apply_120, Q_X5_apply, C_AL_add_9ea2d, C_X5_dropPutsBefore, C_X5_keepGreaterMark, C_X6_bringIn, C_X6_bringOut]
    have ewr : ∀ c, c < 2 → wr (doo s r o) r (nI c) = if c = sTg s o then wrG s (wr s r (nI c)) o else wr s r (nI c) := fun c hc => by
      rw [wr_doo D]
      by_cases hcc : c = sTg s o
      · rw [if_pos ⟨k, by rw [hcc]⟩, if_pos hcc]
      · rw [if_neg (fun z => hcc ((nI_tg ht2 hc).mp z.2).symm), if_neg hcc]
    have C2 : ∀ h', (∀ q, aI h' q = aI h q) → fR h' = fR h → Fz (fun q => q = rb x r + 4) ow h h' → (∀ c, c < 2 → aR h' (rb x r + 4) c = (wr (doo s r o) r (nI c)).map oa) → Ap ow oa la l0 l1 h' x (doo s r o) r := by
      intro h' e1 e2 d2 e3
      refine ⟨?_, ?_, e3, ?_, ?_⟩
      · intro c hc
        rw [e1, cs_doo D, if_neg (by omega)]
        exact A1 c hc
      · rw [sp_doo D, sp_ntk (by omega), if_neg (by omega), List.append_nil]
        exact A2.fz d2 Og.rf (by omega)
      · rw [e2]
        exact Sgm.cg _ _ (fun q _ => ⟨rfl, rfl, rmd_same D (by omega)⟩) (Sgm.fz d2 Og.rf (by omega) _ _ A4)
      · rw [e2]
        exact Sgm.cg _ _ (fun q _ => ⟨rfl, rfl, rmd_same D (by omega)⟩) (Sgm.fz d2 Og.rf (by omega) _ _ A5)
    split
    · rename_i hg
      have d2 : Fz (fun q => q = rb x r + 4) ow h (waR h (rb x r + 4) (sTg s o) (some (oa o))) := Fz.rf.waR (fun _ => X.o4)
      refine hP _ ⟨ow, la, l0, l1, Og.rf, d2.mo (fun q hq => by unfold S3; omega), C2 _ (fun q => by rw [aI_waR]) (by rw [fR_waR]) d2 (fun c hc => ?_), T0.not D (by omega), T1.not D (by omega), by rw [if_neg (by omega)], by rw [sz_waR]; omega, by rw [sl_waR]; omega⟩
      rw [aR_waR, ewr c hc]
      by_cases hcc : c = sTg s o
      · rw [if_pos ⟨rfl, hcc⟩, if_pos hcc, hcc]
        unfold wrG
        rw [if_pos hg]
        rfl
      · rw [if_neg (fun z => hcc z.2), if_neg hcc]
        exact A3 c hc
    · rename_i hg
      refine hP _ ⟨ow, la, l0, l1, Og.rf, Fz.rf, C2 _ (fun q => rfl) rfl Fz.rf (fun c hc => ?_), T0.not D (by omega), T1.not D (by omega), by rw [if_neg (by omega)], by omega, by omega⟩
      rw [ewr c hc, A3 c hc]
      by_cases hcc : c = sTg s o
      · rw [if_pos hcc, hcc]
        unfold wrG
        rw [if_neg hg]
      · rw [if_neg hcc]
  · have tb : sm_tab 9 98 0 4 #[35, 54, 66, 74, 82] (nI 4) = some 91 := rfl
    obtain ⟨c1, c2, c3, c4, c5, c6⟩ := X.tx (sTg s o) ht2
    simp (disch := first | omega | assumption) only [Z_iconst, Z_bipush, Z_sipush, Z_ldc, Z_ldcM, Z_ldcw, Z_null, Z_getstatic, Z_iload0, Z_aload0, Z_aloadq0, Z_aloadn0, Z_istore0, Z_astore0, Z_astoreq0, Z_astoren0, Z_iinc0, Z_iload1, Z_aload1, Z_aloadq1, Z_aloadn1, Z_istore1, Z_astore1, Z_astoreq1, Z_astoren1, Z_iinc1, Z_iload2, Z_aload2, Z_aloadq2, Z_aloadn2, Z_istore2, Z_astore2, Z_astoreq2, Z_astoren2, Z_iinc2, Z_iload3, Z_aload3, Z_aloadq3, Z_aloadn3, Z_istore3, Z_astore3, Z_astoreq3, Z_astoren3, Z_iinc3, Z_iload4, Z_aload4, Z_aloadq4, Z_aloadn4, Z_istore4, Z_astore4, Z_astoreq4, Z_astoren4, Z_iinc4, Z_iload5, Z_aload5, Z_aloadq5, Z_aloadn5, Z_istore5, Z_astore5, Z_astoreq5, Z_astoren5, Z_iinc5, Z_iload6, Z_aload6, Z_aloadq6, Z_aloadn6, Z_istore6, Z_astore6, Z_astoreq6, Z_astoren6, Z_iinc6, Z_iload7, Z_aload7, Z_aloadq7, Z_aloadn7, Z_istore7, Z_astore7, Z_astoreq7, Z_astoren7, Z_iinc7, Z_iload8, Z_aload8, Z_aloadq8, Z_aloadn8, Z_istore8, Z_astore8, Z_astoreq8, Z_astoren8, Z_iinc8, Z_iload9, Z_aload9, Z_aloadq9, Z_aloadn9, Z_istore9, Z_astore9, Z_astoreq9, Z_astoren9, Z_iinc9, Z_iload10, Z_aload10, Z_aloadq10, Z_aloadn10, Z_istore10, Z_astore10, Z_astoreq10, Z_astoren10, Z_iinc10, Z_iload11, Z_aload11, Z_aloadq11, Z_aloadn11, Z_istore11, Z_astore11, Z_astoreq11, Z_astoren11, Z_iinc11, Z_iload12, Z_aload12, Z_aloadq12, Z_aloadn12, Z_istore12, Z_astore12, Z_astoreq12, Z_astoren12, Z_iinc12, Z_iadd, Z_isub, Z_imul, Z_iand, Z_ior, Z_ishl, Z_ishr, Z_iushr, Z_idiv, Z_irem, Z_dup, Z_dupx1, Z_dup2, Z_pop, Z_if_eq, Z_icmp_eq, Z_if_ne, Z_icmp_ne, Z_if_lt, Z_icmp_lt, Z_if_le, Z_icmp_le, Z_if_ge, Z_icmp_ge, Z_if_gt, Z_icmp_gt, Z_acmp_eqq1, Z_acmp_eqq2, Z_acmp_eqq3, Z_acmp_eqq4, Z_acmp_neq1, Z_acmp_neq2, Z_acmp_neq3, Z_acmp_neq4, Z_ifnull, Z_ifnullN, Z_ifnullq, Z_ifnonnull, Z_ifnonnullN, Z_ifnonnullq, Z_goto, Z_getI, Z_getZ, Z_getR, Z_putI, Z_putR, Z_putN, Z_putQ, Z_putZ, Z_new, Z_newarray, Z_anewarray, Z_alen, Z_cast, Z_objInit, Z_clone, Z_getClass, Z_copy, Z_max, Z_min, Y_iaload, Y_baload, Y_aaload, Y_iastore, Y_bastore, Y_aastore, Y_aastoreN, lt_0p, lt_1n, va_some, va_none, Option.toList_some, Option.toList_none, List.nil_append, List.cons_append, List.length_nil, List.length_cons, true_and, and_true, if_true, if_false, ite_true, ite_false, Nat.zero_le, Nat.not_lt_zero, Nat.reduceLeDiff, Nat.reduceEqDiff, Nat.reduceAdd, Nat.reduceMul, Nat.reduceSub, Nat.reduceLT, Nat.zero_add, not_true_eq_false, not_false_eq_true, true_or, or_true, false_or, or_false, Nat.add_zero, false_and, and_false, exists_eq_left', Option.some.injEq, k_X5_apply_0, sk_X5_apply_44, k_X5_apply_44, sk_X5_apply_63, k_X5_apply_63, sk_X5_apply_75, k_X5_apply_75, sk_X5_apply_83, k_X5_apply_83, sk_X5_apply_91, k_X5_apply_91, sk_X5_apply_107, k_X5_apply_107, sk_X5_apply_120, k_X5_apply_120, Q_X5_apply, C_AL_add_9ea2d, C_X5_dropPutsBefore, C_X5_keepGreaterMark, C_X6_bringIn, C_X6_bringOut, E_X5_apply, nI_add, pk_mul, ar_lt, ar_le, ar_eq, z_lt, z_le, z_gt, z_ge, z_eq, z_eq2, ix_nI, nI_clamp, ne_eq, ok, b1, b3, b4, b5, b6, Z_table tb, X.k, X.f5, X.k5, X.l5, ht2, c1, c2]
    have key : ∀ (l l' : List Nat) (h' : Hp), TL s r (sTg s o) l → Bi ow oa la h (rb x r + 16 + 2 * sTg s o) o (rmd (doo s r o) r) l' h' → TL (doo s r o) r (sTg s o) l' → l'.length = l.length + 1 → (sTg s o = 0 → l = l0) → (sTg s o = 1 → l = l1) → P none h' := by
      intro l l' h' Tl hb Tl' hlen e0 e1
      obtain ⟨d2, d3, d4, d5⟩ := hb
      have d1 : Og (sz h) ow (fu ow (sz h) (rb x r + 16 + 2 * sTg s o)) := fun q hq => by rw [fu_at, if_neg (by omega)]
      have F : Fz (S3 x r) ow h h' := d2.mo (fun q hq => by unfold S3; omega)
      have oth : ∀ (t : Nat) (m : List Nat), t < 2 → t ≠ sTg s o → TL s r t m → Sgm ow oa la h (rb x r + 16 + 2 * t) (rmd s r) (fR h 66 (rb x r + 17 + 2 * t)) m → Sgm (fu ow (sz h) (rb x r + 16 + 2 * sTg s o)) oa (fu la o (sz h)) h' (rb x r + 16 + 2 * t) (rmd (doo s r o) r) (fR h' 66 (rb x r + 17 + 2 * t)) m := by
        intro t m ht' hne Tm Hm
        rw [fz_t X d2 hbz ht' (by omega)]
        refine Sgm.cg _ _ (fun q hq => ⟨rfl, ?_, rmd_same D (by omega)⟩) (Sgm.fz d2 d1 (by omega) _ _ Hm)
        rw [fu_at, if_neg]
        rintro rfl
        exact D.nd ((Tm.2.2 _).mp hq).1
      have sm' : ∀ c, c < 2 → aI h' (rb x r + 2) c = cs (doo s r o) r (nI c) := fun c hc => by
        rw [fz_sm (oa := oa) X d2 hbz (by omega), cs_doo D, if_neg (by omega)]
        exact A1 c hc
      have sp' : Ls (fu ow (sz h) (rb x r + 16 + 2 * sTg s o)) h' (rb x r + 3) ((sp (doo s r o) r).map oa) := by
        rw [sp_doo D, sp_ntk (by omega), if_neg (by omega), List.append_nil]
        exact A2.fz d2 d1 (by omega)
      have wr' : ∀ c, c < 2 → aR h' (rb x r + 4) c = (wr (doo s r o) r (nI c)).map oa := fun c hc => by
        rw [fz_wr (oa := oa) X d2 hbz (by omega), wr_doo D, if_neg (by omega)]
        exact A3 c hc
      rcases (show sTg s o = 0 ∨ sTg s o = 1 by omega) with ht0 | ht0
      · have q1 := oth 1 l1 (by decide) (by omega) T1 A5
        rw [ht0] at d5 q1 sp' d1 Tl'
        cases e0 ht0
        exact hP _ ⟨_, _, l', l1, d1, F, ⟨sm', sp', wr', d5, q1⟩, Tl', T1.not D (by omega), by rw [if_pos k]; omega, by omega, by omega⟩
      · have q0 := oth 0 l0 (by decide) (by omega) T0 A4
        rw [ht0] at d5 q0 sp' d1 Tl'
        cases e1 ht0
        exact hP _ ⟨_, _, l0, l', d1, F, ⟨sm', sp', wr', q0, d5⟩, T0.not D (by omega), Tl', by rw [if_pos k]; omega, by omega, by omega⟩
    have key2 : ∀ (l : List Nat), TL s r (sTg s o) l → Sgm ow oa la h (rb x r + 16 + 2 * sTg s o) (rmd s r) (fR h 66 (rb x r + 16 + 2 * sTg s o + 1)) l → (sTg s o = 0 → l = l0) → (sTg s o = 1 → l = l1) → Ev M_X6_bringIn [.ref (rb x r + 16 + 2 * sTg s o), .ref (oa o)] h (fun r_1 h' => Z M_X5_apply k_X5_apply_120 [some (.ref (rb x r)), some (.ref (oa o)), some (.ref b)] (r_1.toList ++ []) h' P) := by
      intro l Tl Hl e0 e1
      have eb : rb x r + 17 + 2 * sTg s o = rb x r + 16 + 2 * sTg s o + 1 := by omega
      rw [eb] at c3 c4 c5 c6
      have hlO : ∀ q, q ∈ l → q < 240 ∧ OpR ow oa h s q := fun q hq => ⟨(hB.2.2.1 r hr).2.2.2.1 q ((Tl.2.2 q).mp hq).1, hO q (Or.inl ((Tl.2.2 q).mp hq).1)⟩
      have hlg : ∀ q, q ∈ l → q ≠ o ∧ rmd (doo s r o) r q = rmd s r q := fun q hq => ⟨fun z => D.nd (z ▸ ((Tl.2.2 q).mp hq).1), rmd_same D (by omega)⟩
      cases hbh : sBh s o with
      | none =>
        refine c_bringIn0 c2 c3 c4 c5 c6 (by omega) O hB D.o2 hbh Hl hlO Tl.2.1 hlg (rmd_new D k) (fun h' hb => ?_)
        simp (disch := first | omega | assumption) only [Z_iconst, Z_bipush, Z_sipush, Z_ldc, Z_ldcM, Z_ldcw, Z_null, Z_getstatic, Z_iload0, Z_aload0, Z_aloadq0, Z_aloadn0, Z_istore0, Z_astore0, Z_astoreq0, Z_astoren0, Z_iinc0, Z_iload1, Z_aload1, Z_aloadq1, Z_aloadn1, Z_istore1, Z_astore1, Z_astoreq1, Z_astoren1, Z_iinc1, Z_iload2, Z_aload2, Z_aloadq2, Z_aloadn2, Z_istore2, Z_astore2, Z_astoreq2, Z_astoren2, Z_iinc2, Z_iload3, Z_aload3, Z_aloadq3, Z_aloadn3, Z_istore3, Z_astore3, Z_astoreq3, Z_astoren3, Z_iinc3, Z_iload4, Z_aload4, Z_aloadq4, Z_aloadn4, Z_istore4, Z_astore4, Z_astoreq4, Z_astoren4, Z_iinc4, Z_iload5, Z_aload5, Z_aloadq5, Z_aloadn5, Z_istore5, Z_astore5, Z_astoreq5, Z_astoren5, Z_iinc5, Z_iload6, Z_aload6, Z_aloadq6, Z_aloadn6, Z_istore6, Z_astore6, Z_astoreq6, Z_astoren6, Z_iinc6, Z_iload7, Z_aload7, Z_aloadq7, Z_aloadn7, Z_istore7, Z_astore7, Z_astoreq7, Z_astoren7, Z_iinc7, Z_iload8, Z_aload8, Z_aloadq8, Z_aloadn8, Z_istore8, Z_astore8, Z_astoreq8, Z_astoren8, Z_iinc8, Z_iload9, Z_aload9, Z_aloadq9, Z_aloadn9, Z_istore9, Z_astore9, Z_astoreq9, Z_astoren9, Z_iinc9, Z_iload10, Z_aload10, Z_aloadq10, Z_aloadn10, Z_istore10, Z_astore10, Z_astoreq10, Z_astoren10, Z_iinc10, Z_iload11, Z_aload11, Z_aloadq11, Z_aloadn11, Z_istore11, Z_astore11, Z_astoreq11, Z_astoren11, Z_iinc11, Z_iload12, Z_aload12, Z_aloadq12, Z_aloadn12, Z_istore12, Z_astore12, Z_astoreq12, Z_astoren12, Z_iinc12, Z_iadd, Z_isub, Z_imul, Z_iand, Z_ior, Z_ishl, Z_ishr, Z_iushr, Z_idiv, Z_irem, Z_dup, Z_dupx1, Z_dup2, Z_pop, Z_if_eq, Z_icmp_eq, Z_if_ne, Z_icmp_ne, Z_if_lt, Z_icmp_lt, Z_if_le, Z_icmp_le, Z_if_ge, Z_icmp_ge, Z_if_gt, Z_icmp_gt, Z_acmp_eqq1, Z_acmp_eqq2, Z_acmp_eqq3, Z_acmp_eqq4, Z_acmp_neq1, Z_acmp_neq2, Z_acmp_neq3, Z_acmp_neq4, Z_ifnull, Z_ifnullN, Z_ifnullq, Z_ifnonnull, Z_ifnonnullN, Z_ifnonnullq, Z_goto, Z_getI, Z_getZ, Z_getR, Z_putI, Z_putR, Z_putN, Z_putQ, Z_putZ, Z_new, Z_newarray, Z_anewarray, Z_alen, Z_cast, Z_objInit, Z_clone, Z_getClass, Z_copy, Z_max, Z_min, Y_iaload, Y_baload, Y_aaload, Y_iastore, Y_bastore, Y_aastore, Y_aastoreN, lt_0p, lt_1n, va_some, va_none, Option.toList_some, Option.toList_none, List.nil_append, List.cons_append, List.length_nil, List.length_cons, true_and, and_true, if_true, if_false, ite_true, ite_false, Nat.zero_le, Nat.not_lt_zero, Nat.reduceLeDiff, Nat.reduceEqDiff, Nat.reduceAdd, Nat.reduceMul, Nat.reduceSub, Nat.reduceLT, Nat.zero_add, not_true_eq_false, not_false_eq_true, true_or, or_true, false_or, or_false, Nat.add_zero, false_and, and_false, exists_eq_left', Option.some.injEq, k_X5_apply_0, sk_X5_apply_44, k_X5_apply_44, sk_X5_apply_63, k_X5_apply_63, sk_X5_apply_75, k_X5_apply_75, sk_X5_apply_83, k_X5_apply_83, sk_X5_apply_91, k_X5_apply_91, sk_X5_apply_107, k_X5_apply_107, sk_X5_apply_120, k_X5_apply_120, Q_X5_apply, C_AL_add_9ea2d, C_X5_dropPutsBefore, C_X5_keepGreaterMark, C_X6_bringIn, C_X6_bringOut]
        have T' := Tl.top D k rfl hbh
        refine key l _ h' Tl hb T' ?_ e0 e1
        have : ∀ R : List Nat, (insR s o R).length = R.length + 1 := by
          intro R
          induction R with
          | nil => rfl
          | cons y R ih =>
            show (if gtm s y o = true then y :: insR s o R else o :: y :: R).length = _
            split
            · rw [List.length_cons, ih, List.length_cons]
            · rfl
        exact this l
      | some p =>
        obtain ⟨p1, p2, p3⟩ := D.par hbh
        have hpl : p ∈ l := (Tl.2.2 p).mpr ⟨p1, p2, p3⟩
        obtain ⟨m1, m2, rfl⟩ := List.append_of_mem hpl
        refine c_bringIn1 c2 c3 c4 c5 (by omega) O hB D.o2 hbh Hl hlO Tl.2.1 hlg (rmd_new D k) (fun h' hb => ?_)
        simp (disch := first | omega | assumption) only [Z_iconst, Z_bipush, Z_sipush, Z_ldc, Z_ldcM, Z_ldcw, Z_null, Z_getstatic, Z_iload0, Z_aload0, Z_aloadq0, Z_aloadn0, Z_istore0, Z_astore0, Z_astoreq0, Z_astoren0, Z_iinc0, Z_iload1, Z_aload1, Z_aloadq1, Z_aloadn1, Z_istore1, Z_astore1, Z_astoreq1, Z_astoren1, Z_iinc1, Z_iload2, Z_aload2, Z_aloadq2, Z_aloadn2, Z_istore2, Z_astore2, Z_astoreq2, Z_astoren2, Z_iinc2, Z_iload3, Z_aload3, Z_aloadq3, Z_aloadn3, Z_istore3, Z_astore3, Z_astoreq3, Z_astoren3, Z_iinc3, Z_iload4, Z_aload4, Z_aloadq4, Z_aloadn4, Z_istore4, Z_astore4, Z_astoreq4, Z_astoren4, Z_iinc4, Z_iload5, Z_aload5, Z_aloadq5, Z_aloadn5, Z_istore5, Z_astore5, Z_astoreq5, Z_astoren5, Z_iinc5, Z_iload6, Z_aload6, Z_aloadq6, Z_aloadn6, Z_istore6, Z_astore6, Z_astoreq6, Z_astoren6, Z_iinc6, Z_iload7, Z_aload7, Z_aloadq7, Z_aloadn7, Z_istore7, Z_astore7, Z_astoreq7, Z_astoren7, Z_iinc7, Z_iload8, Z_aload8, Z_aloadq8, Z_aloadn8, Z_istore8, Z_astore8, Z_astoreq8, Z_astoren8, Z_iinc8, Z_iload9, Z_aload9, Z_aloadq9, Z_aloadn9, Z_istore9, Z_astore9, Z_astoreq9, Z_astoren9, Z_iinc9, Z_iload10, Z_aload10, Z_aloadq10, Z_aloadn10, Z_istore10, Z_astore10, Z_astoreq10, Z_astoren10, Z_iinc10, Z_iload11, Z_aload11, Z_aloadq11, Z_aloadn11, Z_istore11, Z_astore11, Z_astoreq11, Z_astoren11, Z_iinc11, Z_iload12, Z_aload12, Z_aloadq12, Z_aloadn12, Z_istore12, Z_astore12, Z_astoreq12, Z_astoren12, Z_iinc12, Z_iadd, Z_isub, Z_imul, Z_iand, Z_ior, Z_ishl, Z_ishr, Z_iushr, Z_idiv, Z_irem, Z_dup, Z_dupx1, Z_dup2, Z_pop, Z_if_eq, Z_icmp_eq, Z_if_ne, Z_icmp_ne, Z_if_lt, Z_icmp_lt, Z_if_le, Z_icmp_le, Z_if_ge, Z_icmp_ge, Z_if_gt, Z_icmp_gt, Z_acmp_eqq1, Z_acmp_eqq2, Z_acmp_eqq3, Z_acmp_eqq4, Z_acmp_neq1, Z_acmp_neq2, Z_acmp_neq3, Z_acmp_neq4, Z_ifnull, Z_ifnullN, Z_ifnullq, Z_ifnonnull, Z_ifnonnullN, Z_ifnonnullq, Z_goto, Z_getI, Z_getZ, Z_getR, Z_putI, Z_putR, Z_putN, Z_putQ, Z_putZ, Z_new, Z_newarray, Z_anewarray, Z_alen, Z_cast, Z_objInit, Z_clone, Z_getClass, Z_copy, Z_max, Z_min, Y_iaload, Y_baload, Y_aaload, Y_iastore, Y_bastore, Y_aastore, Y_aastoreN, lt_0p, lt_1n, va_some, va_none, Option.toList_some, Option.toList_none, List.nil_append, List.cons_append, List.length_nil, List.length_cons, true_and, and_true, if_true, if_false, ite_true, ite_false, Nat.zero_le, Nat.not_lt_zero, Nat.reduceLeDiff, Nat.reduceEqDiff, Nat.reduceAdd, Nat.reduceMul, Nat.reduceSub, Nat.reduceLT, Nat.zero_add, not_true_eq_false, not_false_eq_true, true_or, or_true, false_or, or_false, Nat.add_zero, false_and, and_false, exists_eq_left', Option.some.injEq, k_X5_apply_0, sk_X5_apply_44, k_X5_apply_44, sk_X5_apply_63, k_X5_apply_63, sk_X5_apply_75, k_X5_apply_75, sk_X5_apply_83, k_X5_apply_83, sk_X5_apply_91, k_X5_apply_91, sk_X5_apply_107, k_X5_apply_107, sk_X5_apply_120, k_X5_apply_120, Q_X5_apply, C_AL_add_9ea2d, C_X5_dropPutsBefore, C_X5_keepGreaterMark, C_X6_bringIn, C_X6_bringOut]
        have T' := Tl.behind D k rfl hbh
        refine key _ _ h' Tl hb T' ?_ e0 e1
        have : ∀ R : List Nat, (insR s o R).length = R.length + 1 := by
          intro R
          induction R with
          | nil => rfl
          | cons y R ih =>
            show (if gtm s y o = true then y :: insR s o R else o :: y :: R).length = _
            split
            · rw [List.length_cons, ih, List.length_cons]
            · rfl
        rw [List.length_append, List.length_cons, this, List.length_append, List.length_cons]
        omega
    rcases (show sTg s o = 0 ∨ sTg s o = 1 by omega) with ht0 | ht0
    · exact key2 l0 (by rw [ht0]; exact T0) (by rw [ht0]; exact A4) (fun _ => rfl) (fun z => by omega)
    · exact key2 l1 (by rw [ht0]; exact T1) (by rw [ht0]; exact A5) (fun z => by omega) (fun _ => rfl)
  · have tb : sm_tab 9 98 0 4 #[35, 54, 66, 74, 82] (nI 5) = some 107 := rfl
    obtain ⟨c1, c2, c3, c4, c5, c6⟩ := X.tx (sTg s o) ht2
    simp (disch := first | omega | assumption) only [Z_iconst, Z_bipush, Z_sipush, Z_ldc, Z_ldcM, Z_ldcw, Z_null, Z_getstatic, Z_iload0, Z_aload0, Z_aloadq0, Z_aloadn0, Z_istore0, Z_astore0, Z_astoreq0, Z_astoren0, Z_iinc0, Z_iload1, Z_aload1, Z_aloadq1, Z_aloadn1, Z_istore1, Z_astore1, Z_astoreq1, Z_astoren1, Z_iinc1, Z_iload2, Z_aload2, Z_aloadq2, Z_aloadn2, Z_istore2, Z_astore2, Z_astoreq2, Z_astoren2, Z_iinc2, Z_iload3, Z_aload3, Z_aloadq3, Z_aloadn3, Z_istore3, Z_astore3, Z_astoreq3, Z_astoren3, Z_iinc3, Z_iload4, Z_aload4, Z_aloadq4, Z_aloadn4, Z_istore4, Z_astore4, Z_astoreq4, Z_astoren4, Z_iinc4, Z_iload5, Z_aload5, Z_aloadq5, Z_aloadn5, Z_istore5, Z_astore5, Z_astoreq5, Z_astoren5, Z_iinc5, Z_iload6, Z_aload6, Z_aloadq6, Z_aloadn6, Z_istore6, Z_astore6, Z_astoreq6, Z_astoren6, Z_iinc6, Z_iload7, Z_aload7, Z_aloadq7, Z_aloadn7, Z_istore7, Z_astore7, Z_astoreq7, Z_astoren7, Z_iinc7, Z_iload8, Z_aload8, Z_aloadq8, Z_aloadn8, Z_istore8, Z_astore8, Z_astoreq8, Z_astoren8, Z_iinc8, Z_iload9, Z_aload9, Z_aloadq9, Z_aloadn9, Z_istore9, Z_astore9, Z_astoreq9, Z_astoren9, Z_iinc9, Z_iload10, Z_aload10, Z_aloadq10, Z_aloadn10, Z_istore10, Z_astore10, Z_astoreq10, Z_astoren10, Z_iinc10, Z_iload11, Z_aload11, Z_aloadq11, Z_aloadn11, Z_istore11, Z_astore11, Z_astoreq11, Z_astoren11, Z_iinc11, Z_iload12, Z_aload12, Z_aloadq12, Z_aloadn12, Z_istore12, Z_astore12, Z_astoreq12, Z_astoren12, Z_iinc12, Z_iadd, Z_isub, Z_imul, Z_iand, Z_ior, Z_ishl, Z_ishr, Z_iushr, Z_idiv, Z_irem, Z_dup, Z_dupx1, Z_dup2, Z_pop, Z_if_eq, Z_icmp_eq, Z_if_ne, Z_icmp_ne, Z_if_lt, Z_icmp_lt, Z_if_le, Z_icmp_le, Z_if_ge, Z_icmp_ge, Z_if_gt, Z_icmp_gt, Z_acmp_eqq1, Z_acmp_eqq2, Z_acmp_eqq3, Z_acmp_eqq4, Z_acmp_neq1, Z_acmp_neq2, Z_acmp_neq3, Z_acmp_neq4, Z_ifnull, Z_ifnullN, Z_ifnullq, Z_ifnonnull, Z_ifnonnullN, Z_ifnonnullq, Z_goto, Z_getI, Z_getZ, Z_getR, Z_putI, Z_putR, Z_putN, Z_putQ, Z_putZ, Z_new, Z_newarray, Z_anewarray, Z_alen, Z_cast, Z_objInit, Z_clone, Z_getClass, Z_copy, Z_max, Z_min, Y_iaload, Y_baload, Y_aaload, Y_iastore, Y_bastore, Y_aastore, Y_aastoreN, lt_0p, lt_1n, va_some, va_none, Option.toList_some, Option.toList_none, List.nil_append, List.cons_append, List.length_nil, List.length_cons, true_and, and_true, if_true, if_false, ite_true, ite_false, Nat.zero_le, Nat.not_lt_zero, Nat.reduceLeDiff, Nat.reduceEqDiff, Nat.reduceAdd, Nat.reduceMul, Nat.reduceSub, Nat.reduceLT, Nat.zero_add, not_true_eq_false, not_false_eq_true, true_or, or_true, false_or, or_false, Nat.add_zero, false_and, and_false, exists_eq_left', Option.some.injEq, k_X5_apply_0, sk_X5_apply_44, k_X5_apply_44, sk_X5_apply_63, k_X5_apply_63, sk_X5_apply_75, k_X5_apply_75, sk_X5_apply_83, k_X5_apply_83, sk_X5_apply_91, k_X5_apply_91, sk_X5_apply_107, k_X5_apply_107, sk_X5_apply_120, k_X5_apply_120, Q_X5_apply, C_AL_add_9ea2d, C_X5_dropPutsBefore, C_X5_keepGreaterMark, C_X6_bringIn, C_X6_bringOut, E_X5_apply, nI_add, pk_mul, ar_lt, ar_le, ar_eq, z_lt, z_le, z_gt, z_ge, z_eq, z_eq2, ix_nI, nI_clamp, ne_eq, ok, b1, b3, b4, b5, b6, Z_table tb, X.k, X.f5, X.k5, X.l5, ht2, c1, c2]
    obtain ⟨p, hbh⟩ := D.gi.2.i15 o D.mo k
    have hbh : sBh s o = some p := hbh
    obtain ⟨p1, p2, p3⟩ := D.par hbh
    have erm : ∀ q, rmd (doo s r o) r q = (rmd s r q || decide (q = p)) := fun q => by
      rw [rmd_doo D, hbh]
      congr 1
      simp only [k, true_and, Option.some.injEq, eq_comm]
    have key2 : ∀ (l : List Nat), TL s r (sTg s o) l → Sgm ow oa la h (rb x r + 16 + 2 * sTg s o) (rmd s r) (fR h 66 (rb x r + 16 + 2 * sTg s o + 1)) l → (sTg s o = 0 → l = l0) → (sTg s o = 1 → l = l1) → Ev M_X6_bringOut [.ref (rb x r + 16 + 2 * sTg s o), .ref (oa o)] h (fun r_1 h' => Z M_X5_apply k_X5_apply_120 [some (.ref (rb x r)), some (.ref (oa o)), some (.ref b)] (r_1.toList ++ []) h' P) := by
      intro l Tl Hl e0 e1
      have eb : rb x r + 17 + 2 * sTg s o = rb x r + 16 + 2 * sTg s o + 1 := by omega
      rw [eb] at c3 c4 c5 c6
      have hlO : ∀ q, q ∈ l → q < 240 ∧ OpR ow oa h s q := fun q hq => ⟨(hB.2.2.1 r hr).2.2.2.1 q ((Tl.2.2 q).mp hq).1, hO q (Or.inl ((Tl.2.2 q).mp hq).1)⟩
      have hpl : p ∈ l := (Tl.2.2 p).mpr ⟨p1, p2, p3⟩
      refine c_bringOut c2 c3 c4 c5 O hbh Hl hpl hlO Tl.2.1 (gn' := rmd (doo s r o) r) (fun q _ hq => by rw [erm, decide_eq_false hq, Bool.or_false]) (by rw [erm, decide_eq_true rfl, Bool.or_true]) (fun h' d2 d3 d4 d5 => ?_)
      simp (disch := first | omega | assumption) only [Z_iconst, Z_bipush, Z_sipush, Z_ldc, Z_ldcM, Z_ldcw, Z_null, Z_getstatic, Z_iload0, Z_aload0, Z_aloadq0, Z_aloadn0, Z_istore0, Z_astore0, Z_astoreq0, Z_astoren0, Z_iinc0, Z_iload1, Z_aload1, Z_aloadq1, Z_aloadn1, Z_istore1, Z_astore1, Z_astoreq1, Z_astoren1, Z_iinc1, Z_iload2, Z_aload2, Z_aloadq2, Z_aloadn2, Z_istore2, Z_astore2, Z_astoreq2, Z_astoren2, Z_iinc2, Z_iload3, Z_aload3, Z_aloadq3, Z_aloadn3, Z_istore3, Z_astore3, Z_astoreq3, Z_astoren3, Z_iinc3, Z_iload4, Z_aload4, Z_aloadq4, Z_aloadn4, Z_istore4, Z_astore4, Z_astoreq4, Z_astoren4, Z_iinc4, Z_iload5, Z_aload5, Z_aloadq5, Z_aloadn5, Z_istore5, Z_astore5, Z_astoreq5, Z_astoren5, Z_iinc5, Z_iload6, Z_aload6, Z_aloadq6, Z_aloadn6, Z_istore6, Z_astore6, Z_astoreq6, Z_astoren6, Z_iinc6, Z_iload7, Z_aload7, Z_aloadq7, Z_aloadn7, Z_istore7, Z_astore7, Z_astoreq7, Z_astoren7, Z_iinc7, Z_iload8, Z_aload8, Z_aloadq8, Z_aloadn8, Z_istore8, Z_astore8, Z_astoreq8, Z_astoren8, Z_iinc8, Z_iload9, Z_aload9, Z_aloadq9, Z_aloadn9, Z_istore9, Z_astore9, Z_astoreq9, Z_astoren9, Z_iinc9, Z_iload10, Z_aload10, Z_aloadq10, Z_aloadn10, Z_istore10, Z_astore10, Z_astoreq10, Z_astoren10, Z_iinc10, Z_iload11, Z_aload11, Z_aloadq11, Z_aloadn11, Z_istore11, Z_astore11, Z_astoreq11, Z_astoren11, Z_iinc11, Z_iload12, Z_aload12, Z_aloadq12, Z_aloadn12, Z_istore12, Z_astore12, Z_astoreq12, Z_astoren12, Z_iinc12, Z_iadd, Z_isub, Z_imul, Z_iand, Z_ior, Z_ishl, Z_ishr, Z_iushr, Z_idiv, Z_irem, Z_dup, Z_dupx1, Z_dup2, Z_pop, Z_if_eq, Z_icmp_eq, Z_if_ne, Z_icmp_ne, Z_if_lt, Z_icmp_lt, Z_if_le, Z_icmp_le, Z_if_ge, Z_icmp_ge, Z_if_gt, Z_icmp_gt, Z_acmp_eqq1, Z_acmp_eqq2, Z_acmp_eqq3, Z_acmp_eqq4, Z_acmp_neq1, Z_acmp_neq2, Z_acmp_neq3, Z_acmp_neq4, Z_ifnull, Z_ifnullN, Z_ifnullq, Z_ifnonnull, Z_ifnonnullN, Z_ifnonnullq, Z_goto, Z_getI, Z_getZ, Z_getR, Z_putI, Z_putR, Z_putN, Z_putQ, Z_putZ, Z_new, Z_newarray, Z_anewarray, Z_alen, Z_cast, Z_objInit, Z_clone, Z_getClass, Z_copy, Z_max, Z_min, Y_iaload, Y_baload, Y_aaload, Y_iastore, Y_bastore, Y_aastore, Y_aastoreN, lt_0p, lt_1n, va_some, va_none, Option.toList_some, Option.toList_none, List.nil_append, List.cons_append, List.length_nil, List.length_cons, true_and, and_true, if_true, if_false, ite_true, ite_false, Nat.zero_le, Nat.not_lt_zero, Nat.reduceLeDiff, Nat.reduceEqDiff, Nat.reduceAdd, Nat.reduceMul, Nat.reduceSub, Nat.reduceLT, Nat.zero_add, not_true_eq_false, not_false_eq_true, true_or, or_true, false_or, or_false, Nat.add_zero, false_and, and_false, exists_eq_left', Option.some.injEq, k_X5_apply_0, sk_X5_apply_44, k_X5_apply_44, sk_X5_apply_63, k_X5_apply_63, sk_X5_apply_75, k_X5_apply_75, sk_X5_apply_83, k_X5_apply_83, sk_X5_apply_91, k_X5_apply_91, sk_X5_apply_107, k_X5_apply_107, sk_X5_apply_120, k_X5_apply_120, Q_X5_apply, C_AL_add_9ea2d, C_X5_dropPutsBefore, C_X5_keepGreaterMark, C_X6_bringIn, C_X6_bringOut]
      have F : Fz (S3 x r) ow h h' := d2.mo (fun q hq => by unfold S3; omega)
      have oth : ∀ (t : Nat) (m : List Nat), t < 2 → t ≠ sTg s o → TL s r t m → Sgm ow oa la h (rb x r + 16 + 2 * t) (rmd s r) (fR h 66 (rb x r + 17 + 2 * t)) m → Sgm ow oa la h' (rb x r + 16 + 2 * t) (rmd (doo s r o) r) (fR h' 66 (rb x r + 17 + 2 * t)) m := by
        intro t m ht' hne Tm Hm
        rw [fz_t X d2 hbz ht' (by omega)]
        refine Sgm.cg _ _ (fun q hq => ⟨rfl, rfl, ?_⟩) (Sgm.fz d2 Og.rf (by omega) _ _ Hm)
        rw [erm, decide_eq_false, Bool.or_false]
        rintro rfl
        exact hne (((Tm.2.2 _).mp hq).2.2.symm.trans p3)
      have sm' : ∀ c, c < 2 → aI h' (rb x r + 2) c = cs (doo s r o) r (nI c) := fun c hc => by
        rw [fz_sm (oa := oa) X d2 hbz (by omega), cs_doo D, if_neg (by omega)]
        exact A1 c hc
      have sp' : Ls ow h' (rb x r + 3) ((sp (doo s r o) r).map oa) := by
        rw [sp_doo D, sp_ntk (by omega), if_neg (by omega), List.append_nil]
        exact A2.fz d2 Og.rf (by omega)
      have wr' : ∀ c, c < 2 → aR h' (rb x r + 4) c = (wr (doo s r o) r (nI c)).map oa := fun c hc => by
        rw [fz_wr (oa := oa) X d2 hbz (by omega), wr_doo D, if_neg (by omega)]
        exact A3 c hc
      rcases (show sTg s o = 0 ∨ sTg s o = 1 by omega) with ht0 | ht0
      · have q1 := oth 1 l1 (by decide) (by omega) T1 A5
        rw [ht0] at d5
        cases e0 ht0
        exact hP _ ⟨ow, la, l0, l1, Og.rf, F, ⟨sm', sp', wr', d5, q1⟩, T0.not D (by omega), T1.not D (by omega), by rw [if_neg (by omega)], by omega, by omega⟩
      · have q0 := oth 0 l0 (by decide) (by omega) T0 A4
        rw [ht0] at d5
        cases e1 ht0
        exact hP _ ⟨ow, la, l0, l1, Og.rf, F, ⟨sm', sp', wr', q0, d5⟩, T0.not D (by omega), T1.not D (by omega), by rw [if_neg (by omega)], by omega, by omega⟩
    rcases (show sTg s o = 0 ∨ sTg s o = 1 by omega) with ht0 | ht0
    · exact key2 l0 (by rw [ht0]; exact T0) (by rw [ht0]; exact A4) (fun _ => rfl) (fun z => by omega)
    · exact key2 l1 (by rw [ht0]; exact T1) (by rw [ht0]; exact A5) (fun z => by omega) (fun _ => rfl)
