/-! what the reference's own changes leave alone -/
def Fr (g : Nat) (h h' : Hp) : Prop := kd h' = kd h ∧ ln h' = ln h ∧ fR h' = fR h ∧ aR h' = aR h ∧ gc h' = gc h ∧ sz h' = sz h ∧ sl h' = sl h ∧ (∀ f q, ¬ (f = 309 ∧ q = g) → fI h' f q = fI h f q) ∧ (∀ q, (q < g + 1 ∨ g + 23 < q) → aI h' q = aI h q)
theorem Fr.rf {g : Nat} {h : Hp} : Fr g h h := ⟨rfl, rfl, rfl, rfl, rfl, rfl, rfl, fun _ _ _ => rfl, fun _ _ => rfl⟩
theorem Fr.tr {g : Nat} {h h1 h2 : Hp} (a : Fr g h h1) (b : Fr g h1 h2) : Fr g h h2 := ⟨b.1.trans a.1, b.2.1.trans a.2.1, b.2.2.1.trans a.2.2.1, b.2.2.2.1.trans a.2.2.2.1, b.2.2.2.2.1.trans a.2.2.2.2.1, b.2.2.2.2.2.1.trans a.2.2.2.2.2.1, b.2.2.2.2.2.2.1.trans a.2.2.2.2.2.2.1, fun f q hn => (b.2.2.2.2.2.2.2.1 f q hn).trans (a.2.2.2.2.2.2.2.1 f q hn), fun q hq => (b.2.2.2.2.2.2.2.2 q hq).trans (a.2.2.2.2.2.2.2.2 q hq)⟩
theorem Fr.wa {g k j : Nat} {h h1 : Hp} {v : Int32} (a : Fr g h h1) (h1' : 1 ≤ k) (h2 : k ≤ 23) : Fr g h (waI h1 (g + k) j v) := a.tr ⟨rfl, rfl, rfl, rfl, rfl, rfl, rfl, fun _ _ _ => rfl, fun q hq => by
  funext i
  show (if q = g + k ∧ i = j then v else aI h1 q i) = _
  rw [if_neg (by omega)]⟩
theorem Fr.wo {g : Nat} {h h1 : Hp} {v : Int32} (a : Fr g h h1) : Fr g h (wfI h1 309 g v) := a.tr ⟨rfl, rfl, rfl, rfl, rfl, rfl, rfl, fun f q hn => by
  show (if f = 309 ∧ q = g then v else fI h1 f q) = _
  rw [if_neg hn], fun _ _ => rfl⟩
theorem Fr.ml {g : Nat} {h h1 : Hp} (a : Fr g h h1) (hM : ML g h) : ML g h1 := by
  unfold ML
  rw [a.1, a.2.1, a.2.2.1, a.2.2.2.2.2.1]
  exact hM
/-- .. and its scratch rows (order, pile, asked) stay too -/
def Fs (g : Nat) (h h' : Hp) : Prop := Fr g h h' ∧ (∀ k, 21 ≤ k → k ≤ 23 → aI h' (g + k) = aI h (g + k)) ∧ fI h' 309 g = fI h 309 g
theorem Fs.rf {g : Nat} {h : Hp} : Fs g h h := ⟨Fr.rf, fun _ _ _ => rfl, rfl⟩
theorem Fs.tr {g : Nat} {h h1 h2 : Hp} (a : Fs g h h1) (b : Fs g h1 h2) : Fs g h h2 := ⟨a.1.tr b.1, fun k h3 h4 => (b.2.1 k h3 h4).trans (a.2.1 k h3 h4), b.2.2.trans a.2.2⟩
theorem Fs.wa {g k j : Nat} {h h1 : Hp} {v : Int32} (a : Fs g h h1) (h1' : 1 ≤ k) (h2 : k ≤ 20) : Fs g h (waI h1 (g + k) j v) := ⟨a.1.wa h1' (by omega), fun y h3 h4 => by
  rw [← a.2.1 y h3 h4]
  funext i
  show (if g + y = g + k ∧ i = j then v else aI h1 (g + y) i) = _
  rw [if_neg (by omega)], a.2.2⟩
theorem gd_app {α : Type} (l : List α) (q d : α) (k : Nat) : (l ++ [q]).getD k d = if k < l.length then l.getD k d else if k = l.length then q else d := by
  by_cases h1 : k < l.length
  · rw [if_pos h1, List.getD_eq_getElem?_getD, List.getElem?_append_left h1, ← List.getD_eq_getElem?_getD]
  · rw [if_neg h1, List.getD_eq_getElem?_getD, List.getElem?_append_right (by omega)]
    by_cases h2 : k = l.length
    · rw [if_pos h2, h2, Nat.sub_self]
      rfl
    · rw [if_neg h2]
      have : k - l.length ≠ 0 := by omega
      obtain ⟨z, hz⟩ : ∃ z, k - l.length = z + 1 := ⟨k - l.length - 1, by omega⟩
      rw [hz]
      rfl
/-- a message is sent on way w; on a full one it is lost -/
def snd (s : St) (w : Nat) (q : Mg) : St := if (sWy s w).length = 30 then s else w_sWy s (fu (sWy s) w (sWy s w ++ [q]))
abbrev nc (g x y : Nat) : Prop := g + x = g + y
theorem ac_eq (g x y : Nat) : (g + x = g + y) = (x = y) := propext ⟨fun h => by omega, fun h => by omega⟩
theorem fr_chk {g : Nat} {h : Hp} : Fr g h h := Fr.rf
theorem snd_MR {g f t k of n : Nat} {h : Hp} {s : St} {c : Nat → Nat} (hR : MR g h s) (hf : f < 4) (ht : t < 4) (hn : (sWy s (4 * f + t)).length = n) (hn30 : n < 30) (hB : Bd s) : MR g (waI (waI (waI (waI (waI (waI (waI h (g + 17) (4 * f + t) (nI (n + 1))) (g + 18) (30 * (4 * f + t) + n) (nI k)) (g + 19) (30 * (4 * f + t) + n) (nI of)) (g + 20) (4 * (30 * (4 * f + t) + n)) (nI (c 0))) (g + 20) (4 * (30 * (4 * f + t) + n) + 1) (nI (c 1))) (g + 20) (4 * (30 * (4 * f + t) + n) + 2) (nI (c 2))) (g + 20) (4 * (30 * (4 * f + t) + n) + 3) (nI (c 3))) (w_sWy s (fu (sWy s) (4 * f + t) (sWy s (4 * f + t) ++ [(k, of, c)]))) := by
  generalize hwe : 4 * f + t = w at *
  have hw16 : w < 16 := by omega
  refine ⟨?_, ?_, ?_, ?_, ?_, ?_, ?_, ?_, ?_, ?_, ?_, ?_, ?_, ?_, ?_, ?_, ?_, ?_, ?_, ?_⟩
  · intro r' hr'; simp only [aI_waI, aI_wfI, ac_eq, Nat.reduceEqDiff, false_and, if_false, ite_false]; exact hR.c1 r' hr'
  · intro o' ho'; simp only [aI_waI, aI_wfI, ac_eq, Nat.reduceEqDiff, false_and, if_false, ite_false]; exact hR.c2 o' ho'
  · intro o' ho'; simp only [aI_waI, aI_wfI, ac_eq, Nat.reduceEqDiff, false_and, if_false, ite_false]; exact hR.c3 o' ho'
  · intro o' ho'; simp only [aI_waI, aI_wfI, ac_eq, Nat.reduceEqDiff, false_and, if_false, ite_false]; exact hR.c4 o' ho'
  · intro o' ho'; simp only [aI_waI, aI_wfI, ac_eq, Nat.reduceEqDiff, false_and, if_false, ite_false]; exact hR.c5 o' ho'
  · intro o' ho'; simp only [aI_waI, aI_wfI, ac_eq, Nat.reduceEqDiff, false_and, if_false, ite_false]; exact hR.c6 o' ho'
  · intro o' j' ho' hj'; simp only [aI_waI, aI_wfI, ac_eq, Nat.reduceEqDiff, false_and, if_false, ite_false]; exact hR.c7 o' j' ho' hj'
  · intro r' hr'; simp only [aI_waI, aI_wfI, ac_eq, Nat.reduceEqDiff, false_and, if_false, ite_false]; exact hR.c8 r' hr'
  · intro r' j' hr' hj'; simp only [aI_waI, aI_wfI, ac_eq, Nat.reduceEqDiff, false_and, if_false, ite_false]; exact hR.c9 r' j' hr' hj'
  · intro r' hr'; simp only [aI_waI, aI_wfI, ac_eq, Nat.reduceEqDiff, false_and, if_false, ite_false]; exact hR.c10 r' hr'
  · intro r' hr'; simp only [aI_waI, aI_wfI, ac_eq, Nat.reduceEqDiff, false_and, if_false, ite_false]; exact hR.c11 r' hr'
  · intro r' k' hr' hk'; simp only [aI_waI, aI_wfI, ac_eq, Nat.reduceEqDiff, false_and, if_false, ite_false]; exact hR.c12 r' k' hr' hk'
  · intro r' o' hr' ho'; simp only [aI_waI, aI_wfI, ac_eq, Nat.reduceEqDiff, false_and, if_false, ite_false]; exact hR.c13 r' o' hr' ho'
  · intro r' hr'; simp only [aI_waI, aI_wfI, ac_eq, Nat.reduceEqDiff, false_and, if_false, ite_false]; exact hR.c14 r' hr'
  · intro r' k' hr' hk'; simp only [aI_waI, aI_wfI, ac_eq, Nat.reduceEqDiff, false_and, if_false, ite_false]; exact hR.c15 r' k' hr' hk'
  · intro r' i' j' hr' hi' hj'; simp only [aI_waI, aI_wfI, ac_eq, Nat.reduceEqDiff, false_and, if_false, ite_false]; exact hR.c16 r' i' j' hr' hi' hj'
  · intro w' hw'
    simp only [aI_waI, ac_eq, Nat.reduceEqDiff, false_and, if_false, true_and]
    show _ = nI (fu (sWy s) w (sWy s w ++ [(k, of, c)]) w').length
    unfold fu
    by_cases hww : w' = w
    · rw [if_pos hww, if_pos hww, List.length_append, hn]
      rfl
    · rw [if_neg hww, if_neg hww]
      exact hR.c17 w' hw'
  · intro w' k' hw' hk'
    have hk' : k' < (fu (sWy s) w (sWy s w ++ [(k, of, c)]) w').length := hk'
    simp only [aI_waI, ac_eq, Nat.reduceEqDiff, false_and, if_false, true_and]
    show _ = nI ((fu (sWy s) w (sWy s w ++ [(k, of, c)]) w').getD k' (0, 0, fun _ => 0)).1
    unfold fu at hk' ⊢
    by_cases hww : w' = w
    · subst hww
      rw [if_pos rfl] at hk' ⊢
      rw [List.length_append, hn] at hk'
      rw [gd_app, hn]
      by_cases hkn : k' = n
      · rw [if_pos (by omega), if_neg (by omega), if_pos hkn]
      · rw [if_neg (by omega), if_pos (by simp at hk'; omega)]
        exact hR.c18 w' k' hw' (by simp at hk'; omega)
    · rw [if_neg hww] at hk' ⊢
      have := (hB.2.2.2 w' hw').1
      rw [if_neg (by omega)]
      exact hR.c18 w' k' hw' hk'
  · intro w' k' hw' hk'
    have hk' : k' < (fu (sWy s) w (sWy s w ++ [(k, of, c)]) w').length := hk'
    simp only [aI_waI, ac_eq, Nat.reduceEqDiff, false_and, if_false, true_and]
    show _ = nI ((fu (sWy s) w (sWy s w ++ [(k, of, c)]) w').getD k' (0, 0, fun _ => 0)).2.1
    unfold fu at hk' ⊢
    by_cases hww : w' = w
    · subst hww
      rw [if_pos rfl] at hk' ⊢
      rw [List.length_append, hn] at hk'
      rw [gd_app, hn]
      by_cases hkn : k' = n
      · rw [if_pos (by omega), if_neg (by omega), if_pos hkn]
      · rw [if_neg (by omega), if_pos (by simp at hk'; omega)]
        exact hR.c19 w' k' hw' (by simp at hk'; omega)
    · rw [if_neg hww] at hk' ⊢
      have := (hB.2.2.2 w' hw').1
      rw [if_neg (by omega)]
      exact hR.c19 w' k' hw' hk'
  · intro w' k' j' hw' hk' hj'
    have hk' : k' < (fu (sWy s) w (sWy s w ++ [(k, of, c)]) w').length := hk'
    simp only [aI_waI, ac_eq, Nat.reduceEqDiff, false_and, if_false, true_and]
    show _ = nI (((fu (sWy s) w (sWy s w ++ [(k, of, c)]) w').getD k' (0, 0, fun _ => 0)).2.2 j')
    unfold fu at hk' ⊢
    by_cases hww : w' = w
    · subst hww
      rw [if_pos rfl] at hk' ⊢
      rw [List.length_append, hn] at hk'
      rw [gd_app, hn]
      by_cases hkn : k' = n
      · subst hkn
        rw [if_neg (Nat.lt_irrefl k'), if_pos rfl]
        rcases (show j' = 0 ∨ j' = 1 ∨ j' = 2 ∨ j' = 3 by omega) with rfl | rfl | rfl | rfl
        · rw [if_neg (by omega), if_neg (by omega), if_neg (by omega), if_pos (by omega)]
        · rw [if_neg (by omega), if_neg (by omega), if_pos (by omega)]
        · rw [if_neg (by omega), if_pos (by omega)]
        · rw [if_pos (by omega)]
      · rw [if_neg (by omega), if_neg (by omega), if_neg (by omega), if_neg (by omega), if_pos (by simp at hk'; omega)]
        exact hR.c20 w' k' j' hw' (by simp at hk'; omega) hj'
    · rw [if_neg hww] at hk' ⊢
      have := (hB.2.2.2 w' hw').1
      rw [if_neg (by omega), if_neg (by omega), if_neg (by omega), if_neg (by omega)]
      exact hR.c20 w' k' j' hw' hk' hj'
set_option maxHeartbeats 4000000 in
theorem c_send {g f t k of x at_ : Nat} {h : Hp} {s : St} {P : Option Value → Hp → Prop} {c : Nat → Nat} (hM : ML g h) (hR : MR g h s) (hB : Bd s) (hf : f < 4) (ht : t < 4) (hk : k ≤ 2) (hof : of < 240) (hx : (x = g + 7 ∧ at_ + 4 ≤ 960) ∨ (x = g + 9 ∧ at_ + 4 ≤ 16)) (hc : ∀ j, j < 4 → aI h x (at_ + j) = nI (c j))
    (hP : ∀ h', Fs g h h' → MR g h' (snd s (4 * f + t) (k, of, c)) → P none h') : Ev M_X9_send [.ref g, .int (nI f), .int (nI t), .int (nI k), .int (nI of), .ref x, .int (nI at_)] h P := by
  have hw : 4 * f + t < 16 := by omega
  have e17 := hR.c17 (4 * f + t) hw
  have hb := (hB.2.2.2 (4 * f + t) hw).1
  have c0 := hc 0 (by decide); have c1 := hc 1 (by decide); have c2 := hc 2 (by decide); have c3 := hc 3 (by decide)
  simp only [Nat.add_zero] at c0
  generalize hn : (sWy s (4 * f + t)).length = n at e17 hb
  by_cases hfull : n = 30
  · have hs : snd s (4 * f + t) (k, of, c) = s := by unfold snd; rw [if_pos (by rw [hn]; exact hfull)]
    rw [hs] at hP
    subst hfull
    simp (disch := first | omega | assumption) only [Z_iconst, Z_bipush, Z_sipush, Z_ldc, Z_ldcM, Z_ldcw, Z_null, Z_getstatic, Z_iload0, Z_aload0, Z_aloadq0, Z_aloadn0, Z_istore0, Z_astore0, Z_astoreq0, Z_astoren0, Z_iinc0, Z_iload1, Z_aload1, Z_aloadq1, Z_aloadn1, Z_istore1, Z_astore1, Z_astoreq1, Z_astoren1, Z_iinc1, Z_iload2, Z_aload2, Z_aloadq2, Z_aloadn2, Z_istore2, Z_astore2, Z_astoreq2, Z_astoren2, Z_iinc2, Z_iload3, Z_aload3, Z_aloadq3, Z_aloadn3, Z_istore3, Z_astore3, Z_astoreq3, Z_astoren3, Z_iinc3, Z_iload4, Z_aload4, Z_aloadq4, Z_aloadn4, Z_istore4, Z_astore4, Z_astoreq4, Z_astoren4, Z_iinc4, Z_iload5, Z_aload5, Z_aloadq5, Z_aloadn5, Z_istore5, Z_astore5, Z_astoreq5, Z_astoren5, Z_iinc5, Z_iload6, Z_aload6, Z_aloadq6, Z_aloadn6, Z_istore6, Z_astore6, Z_astoreq6, Z_astoren6, Z_iinc6, Z_iload7, Z_aload7, Z_aloadq7, Z_aloadn7, Z_istore7, Z_astore7, Z_astoreq7, Z_astoren7, Z_iinc7, Z_iload8, Z_aload8, Z_aloadq8, Z_aloadn8, Z_istore8, Z_astore8, Z_astoreq8, Z_astoren8, Z_iinc8, Z_iload9, Z_aload9, Z_aloadq9, Z_aloadn9, Z_istore9, Z_astore9, Z_astoreq9, Z_astoren9, Z_iinc9, Z_iload10, Z_aload10, Z_aloadq10, Z_aloadn10, Z_istore10, Z_astore10, Z_astoreq10, Z_astoren10, Z_iinc10, Z_iload11, Z_aload11, Z_aloadq11, Z_aloadn11, Z_istore11, Z_astore11, Z_astoreq11, Z_astoren11, Z_iinc11, Z_iload12, Z_aload12, Z_aloadq12, Z_aloadn12, Z_istore12, Z_astore12, Z_astoreq12, Z_astoren12, Z_iinc12, Z_iadd, Z_isub, Z_imul, Z_iand, Z_ior, Z_ishl, Z_ishr, Z_iushr, Z_idiv, Z_irem, Z_dup, Z_dupx1, Z_dup2, Z_pop, Z_if_eq, Z_icmp_eq, Z_if_ne, Z_icmp_ne, Z_if_lt, Z_icmp_lt, Z_if_le, Z_icmp_le, Z_if_ge, Z_icmp_ge, Z_if_gt, Z_icmp_gt, Z_acmp_eqq1, Z_acmp_eqq2, Z_acmp_eqq3, Z_acmp_eqq4, Z_acmp_neq1, Z_acmp_neq2, Z_acmp_neq3, Z_acmp_neq4, Z_ifnull, Z_ifnullN, Z_ifnullq, Z_ifnonnull, Z_ifnonnullN, Z_ifnonnullq, Z_goto, Z_getI, Z_getZ, Z_getR, Z_putI, Z_putR, Z_putN, Z_putQ, Z_putZ, Z_new, Z_newarray, Z_anewarray, Z_alen, Z_cast, Z_objInit, Z_clone, Z_getClass, Z_copy, Z_max, Z_min, Y_iaload, Y_baload, Y_aaload, Y_iastore, Y_bastore, Y_aastore, Y_aastoreN, lt_0p, lt_1n, va_some, va_none, Option.toList_some, Option.toList_none, List.nil_append, List.cons_append, List.length_nil, List.length_cons, true_and, and_true, if_true, if_false, ite_true, ite_false, Nat.zero_le, Nat.not_lt_zero, Nat.reduceLeDiff, Nat.reduceEqDiff, Nat.reduceAdd, Nat.reduceMul, Nat.reduceSub, Nat.reduceLT, Nat.zero_add, not_true_eq_false, not_false_eq_true, true_or, or_true, false_or, or_false, Nat.add_zero, false_and, and_false, exists_eq_left', Option.some.injEq, k_X9_send_0, sk_X9_send_20, k_X9_send_20, sk_X9_send_66, sk_X9_send_98, k_X9_send_98, Q_X9_send, E_X9_send, nI_add, pk_mul, ar_lt, ar_le, ar_eq, z_lt, z_le, z_gt, z_ge, z_eq, z_eq2, ix_nI, nI_clamp, ne_eq, hM.k0, hM.f1, hM.k1, hM.l1, hM.f2, hM.k2, hM.l2, hM.f3, hM.k3, hM.l3, hM.f4, hM.k4, hM.l4, hM.f5, hM.k5, hM.l5, hM.f6, hM.k6, hM.l6, hM.f7, hM.k7, hM.l7, hM.f8, hM.k8, hM.l8, hM.f9, hM.k9, hM.l9, hM.f10, hM.k10, hM.l10, hM.f11, hM.k11, hM.l11, hM.f12, hM.k12, hM.l12, hM.f13, hM.k13, hM.l13, hM.f14, hM.k14, hM.l14, hM.f15, hM.k15, hM.l15, hM.f16, hM.k16, hM.l16, hM.f17, hM.k17, hM.l17, hM.f18, hM.k18, hM.l18, hM.f19, hM.k19, hM.l19, hM.f20, hM.k20, hM.l20, hM.f21, hM.k21, hM.l21, hM.f22, hM.k22, hM.l22, hM.f23, hM.k23, hM.l23, e17]
    exact hP h Fs.rf hR
  · have hs : snd s (4 * f + t) (k, of, c) = w_sWy s (fu (sWy s) (4 * f + t) (sWy s (4 * f + t) ++ [(k, of, c)])) := by unfold snd; rw [if_neg (by rw [hn]; exact hfull)]
    rw [hs] at hP
    have hfin := hP _ ((((((((Fs.rf.wa (k := 17) (j := 4 * f + t) (v := nI (n + 1)) (by decide) (by decide)).wa (k := 18) (j := 30 * (4 * f + t) + n) (v := nI k) (by decide) (by decide)).wa (k := 19) (j := 30 * (4 * f + t) + n) (v := nI of) (by decide) (by decide)).wa (k := 20) (j := 4 * (30 * (4 * f + t) + n)) (v := nI (c 0)) (by decide) (by decide)).wa (k := 20) (j := 4 * (30 * (4 * f + t) + n) + 1) (v := nI (c 1)) (by decide) (by decide)).wa (k := 20) (j := 4 * (30 * (4 * f + t) + n) + 2) (v := nI (c 2)) (by decide) (by decide)).wa (k := 20) (j := 4 * (30 * (4 * f + t) + n) + 3) (v := nI (c 3)) (by decide) (by decide))) (snd_MR hR hf ht hn (by omega) hB)
    rcases hx with ⟨rfl, hat⟩ | ⟨rfl, hat⟩
    · simp (disch := first | omega | assumption) only [Z_iconst, Z_bipush, Z_sipush, Z_ldc, Z_ldcM, Z_ldcw, Z_null, Z_getstatic, Z_iload0, Z_aload0, Z_aloadq0, Z_aloadn0, Z_istore0, Z_astore0, Z_astoreq0, Z_astoren0, Z_iinc0, Z_iload1, Z_aload1, Z_aloadq1, Z_aloadn1, Z_istore1, Z_astore1, Z_astoreq1, Z_astoren1, Z_iinc1, Z_iload2, Z_aload2, Z_aloadq2, Z_aloadn2, Z_istore2, Z_astore2, Z_astoreq2, Z_astoren2, Z_iinc2, Z_iload3, Z_aload3, Z_aloadq3, Z_aloadn3, Z_istore3, Z_astore3, Z_astoreq3, Z_astoren3, Z_iinc3, Z_iload4, Z_aload4, Z_aloadq4, Z_aloadn4, Z_istore4, Z_astore4, Z_astoreq4, Z_astoren4, Z_iinc4, Z_iload5, Z_aload5, Z_aloadq5, Z_aloadn5, Z_istore5, Z_astore5, Z_astoreq5, Z_astoren5, Z_iinc5, Z_iload6, Z_aload6, Z_aloadq6, Z_aloadn6, Z_istore6, Z_astore6, Z_astoreq6, Z_astoren6, Z_iinc6, Z_iload7, Z_aload7, Z_aloadq7, Z_aloadn7, Z_istore7, Z_astore7, Z_astoreq7, Z_astoren7, Z_iinc7, Z_iload8, Z_aload8, Z_aloadq8, Z_aloadn8, Z_istore8, Z_astore8, Z_astoreq8, Z_astoren8, Z_iinc8, Z_iload9, Z_aload9, Z_aloadq9, Z_aloadn9, Z_istore9, Z_astore9, Z_astoreq9, Z_astoren9, Z_iinc9, Z_iload10, Z_aload10, Z_aloadq10, Z_aloadn10, Z_istore10, Z_astore10, Z_astoreq10, Z_astoren10, Z_iinc10, Z_iload11, Z_aload11, Z_aloadq11, Z_aloadn11, Z_istore11, Z_astore11, Z_astoreq11, Z_astoren11, Z_iinc11, Z_iload12, Z_aload12, Z_aloadq12, Z_aloadn12, Z_istore12, Z_astore12, Z_astoreq12, Z_astoren12, Z_iinc12, Z_iadd, Z_isub, Z_imul, Z_iand, Z_ior, Z_ishl, Z_ishr, Z_iushr, Z_idiv, Z_irem, Z_dup, Z_dupx1, Z_dup2, Z_pop, Z_if_eq, Z_icmp_eq, Z_if_ne, Z_icmp_ne, Z_if_lt, Z_icmp_lt, Z_if_le, Z_icmp_le, Z_if_ge, Z_icmp_ge, Z_if_gt, Z_icmp_gt, Z_acmp_eqq1, Z_acmp_eqq2, Z_acmp_eqq3, Z_acmp_eqq4, Z_acmp_neq1, Z_acmp_neq2, Z_acmp_neq3, Z_acmp_neq4, Z_ifnull, Z_ifnullN, Z_ifnullq, Z_ifnonnull, Z_ifnonnullN, Z_ifnonnullq, Z_goto, Z_getI, Z_getZ, Z_getR, Z_putI, Z_putR, Z_putN, Z_putQ, Z_putZ, Z_new, Z_newarray, Z_anewarray, Z_alen, Z_cast, Z_objInit, Z_clone, Z_getClass, Z_copy, Z_max, Z_min, Y_iaload, Y_baload, Y_aaload, Y_iastore, Y_bastore, Y_aastore, Y_aastoreN, lt_0p, lt_1n, va_some, va_none, Option.toList_some, Option.toList_none, List.nil_append, List.cons_append, List.length_nil, List.length_cons, true_and, and_true, if_true, if_false, ite_true, ite_false, Nat.zero_le, Nat.not_lt_zero, Nat.reduceLeDiff, Nat.reduceEqDiff, Nat.reduceAdd, Nat.reduceMul, Nat.reduceSub, Nat.reduceLT, Nat.zero_add, not_true_eq_false, not_false_eq_true, true_or, or_true, false_or, or_false, Nat.add_zero, false_and, and_false, exists_eq_left', Option.some.injEq, k_X9_send_0, sk_X9_send_20, k_X9_send_20, sk_X9_send_66, sk_X9_send_98, k_X9_send_98, Q_X9_send, E_X9_send, nI_add, pk_mul, ar_lt, ar_le, ar_eq, z_lt, z_le, z_gt, z_ge, z_eq, z_eq2, ix_nI, nI_clamp, ne_eq, hM.k0, hM.f1, hM.k1, hM.l1, hM.f2, hM.k2, hM.l2, hM.f3, hM.k3, hM.l3, hM.f4, hM.k4, hM.l4, hM.f5, hM.k5, hM.l5, hM.f6, hM.k6, hM.l6, hM.f7, hM.k7, hM.l7, hM.f8, hM.k8, hM.l8, hM.f9, hM.k9, hM.l9, hM.f10, hM.k10, hM.l10, hM.f11, hM.k11, hM.l11, hM.f12, hM.k12, hM.l12, hM.f13, hM.k13, hM.l13, hM.f14, hM.k14, hM.l14, hM.f15, hM.k15, hM.l15, hM.f16, hM.k16, hM.l16, hM.f17, hM.k17, hM.l17, hM.f18, hM.k18, hM.l18, hM.f19, hM.k19, hM.l19, hM.f20, hM.k20, hM.l20, hM.f21, hM.k21, hM.l21, hM.f22, hM.k22, hM.l22, hM.f23, hM.k23, hM.l23, kd_wfI, ln_wfI, fI_wfI, fR_wfI, aI_wfI, aR_wfI, gc_wfI, sz_wfI, sl_wfI, kd_wfR, ln_wfR, fI_wfR, fR_wfR, aI_wfR, aR_wfR, gc_wfR, sz_wfR, sl_wfR, kd_waI, ln_waI, fI_waI, fR_waI, aI_waI, aR_waI, gc_waI, sz_waI, sl_waI, kd_waR, ln_waR, fI_waR, fR_waR, aI_waR, aR_waR, gc_waR, sz_waR, sl_waR, kd_hnew, ln_hnew, fI_hnew, fR_hnew, aI_hnew, aR_hnew, gc_hnew, sz_hnew, sl_hnew, e17, hfull, ac_eq, c0, c1, c2, c3]
      iterate 5 (rw [k_X9_send_66]; simp (disch := first | omega | assumption) only [Z_iconst, Z_bipush, Z_sipush, Z_ldc, Z_ldcM, Z_ldcw, Z_null, Z_getstatic, Z_iload0, Z_aload0, Z_aloadq0, Z_aloadn0, Z_istore0, Z_astore0, Z_astoreq0, Z_astoren0, Z_iinc0, Z_iload1, Z_aload1, Z_aloadq1, Z_aloadn1, Z_istore1, Z_astore1, Z_astoreq1, Z_astoren1, Z_iinc1, Z_iload2, Z_aload2, Z_aloadq2, Z_aloadn2, Z_istore2, Z_astore2, Z_astoreq2, Z_astoren2, Z_iinc2, Z_iload3, Z_aload3, Z_aloadq3, Z_aloadn3, Z_istore3, Z_astore3, Z_astoreq3, Z_astoren3, Z_iinc3, Z_iload4, Z_aload4, Z_aloadq4, Z_aloadn4, Z_istore4, Z_astore4, Z_astoreq4, Z_astoren4, Z_iinc4, Z_iload5, Z_aload5, Z_aloadq5, Z_aloadn5, Z_istore5, Z_astore5, Z_astoreq5, Z_astoren5, Z_iinc5, Z_iload6, Z_aload6, Z_aloadq6, Z_aloadn6, Z_istore6, Z_astore6, Z_astoreq6, Z_astoren6, Z_iinc6, Z_iload7, Z_aload7, Z_aloadq7, Z_aloadn7, Z_istore7, Z_astore7, Z_astoreq7, Z_astoren7, Z_iinc7, Z_iload8, Z_aload8, Z_aloadq8, Z_aloadn8, Z_istore8, Z_astore8, Z_astoreq8, Z_astoren8, Z_iinc8, Z_iload9, Z_aload9, Z_aloadq9, Z_aloadn9, Z_istore9, Z_astore9, Z_astoreq9, Z_astoren9, Z_iinc9, Z_iload10, Z_aload10, Z_aloadq10, Z_aloadn10, Z_istore10, Z_astore10, Z_astoreq10, Z_astoren10, Z_iinc10, Z_iload11, Z_aload11, Z_aloadq11, Z_aloadn11, Z_istore11, Z_astore11, Z_astoreq11, Z_astoren11, Z_iinc11, Z_iload12, Z_aload12, Z_aloadq12, Z_aloadn12, Z_istore12, Z_astore12, Z_astoreq12, Z_astoren12, Z_iinc12, Z_iadd, Z_isub, Z_imul, Z_iand, Z_ior, Z_ishl, Z_ishr, Z_iushr, Z_idiv, Z_irem, Z_dup, Z_dupx1, Z_dup2, Z_pop, Z_if_eq, Z_icmp_eq, Z_if_ne, Z_icmp_ne, Z_if_lt, Z_icmp_lt, Z_if_le, Z_icmp_le, Z_if_ge, Z_icmp_ge, Z_if_gt, Z_icmp_gt, Z_acmp_eqq1, Z_acmp_eqq2, Z_acmp_eqq3, Z_acmp_eqq4, Z_acmp_neq1, Z_acmp_neq2, Z_acmp_neq3, Z_acmp_neq4, Z_ifnull, Z_ifnullN, Z_ifnullq, Z_ifnonnull, Z_ifnonnullN, Z_ifnonnullq, Z_goto, Z_getI, Z_getZ, Z_getR, Z_putI, Z_putR, Z_putN, Z_putQ, Z_putZ, Z_new, Z_newarray, Z_anewarray, Z_alen, Z_cast, Z_objInit, Z_clone, Z_getClass, Z_copy, Z_max, Z_min, Y_iaload, Y_baload, Y_aaload, Y_iastore, Y_bastore, Y_aastore, Y_aastoreN, lt_0p, lt_1n, va_some, va_none, Option.toList_some, Option.toList_none, List.nil_append, List.cons_append, List.length_nil, List.length_cons, true_and, and_true, if_true, if_false, ite_true, ite_false, Nat.zero_le, Nat.not_lt_zero, Nat.reduceLeDiff, Nat.reduceEqDiff, Nat.reduceAdd, Nat.reduceMul, Nat.reduceSub, Nat.reduceLT, Nat.zero_add, not_true_eq_false, not_false_eq_true, true_or, or_true, false_or, or_false, Nat.add_zero, false_and, and_false, exists_eq_left', Option.some.injEq, k_X9_send_0, sk_X9_send_20, k_X9_send_20, sk_X9_send_66, sk_X9_send_98, k_X9_send_98, Q_X9_send, nI_add, pk_mul, ar_lt, ar_le, ar_eq, z_lt, z_le, z_gt, z_ge, z_eq, z_eq2, ix_nI, nI_clamp, ne_eq, hM.k0, hM.f1, hM.k1, hM.l1, hM.f2, hM.k2, hM.l2, hM.f3, hM.k3, hM.l3, hM.f4, hM.k4, hM.l4, hM.f5, hM.k5, hM.l5, hM.f6, hM.k6, hM.l6, hM.f7, hM.k7, hM.l7, hM.f8, hM.k8, hM.l8, hM.f9, hM.k9, hM.l9, hM.f10, hM.k10, hM.l10, hM.f11, hM.k11, hM.l11, hM.f12, hM.k12, hM.l12, hM.f13, hM.k13, hM.l13, hM.f14, hM.k14, hM.l14, hM.f15, hM.k15, hM.l15, hM.f16, hM.k16, hM.l16, hM.f17, hM.k17, hM.l17, hM.f18, hM.k18, hM.l18, hM.f19, hM.k19, hM.l19, hM.f20, hM.k20, hM.l20, hM.f21, hM.k21, hM.l21, hM.f22, hM.k22, hM.l22, hM.f23, hM.k23, hM.l23, kd_wfI, ln_wfI, fI_wfI, fR_wfI, aI_wfI, aR_wfI, gc_wfI, sz_wfI, sl_wfI, kd_wfR, ln_wfR, fI_wfR, fR_wfR, aI_wfR, aR_wfR, gc_wfR, sz_wfR, sl_wfR, kd_waI, ln_waI, fI_waI, fR_waI, aI_waI, aR_waI, gc_waI, sz_waI, sl_waI, kd_waR, ln_waR, fI_waR, fR_waR, aI_waR, aR_waR, gc_waR, sz_waR, sl_waR, kd_hnew, ln_hnew, fI_hnew, fR_hnew, aI_hnew, aR_hnew, gc_hnew, sz_hnew, sl_hnew, e17, hfull, ac_eq, c0, c1, c2, c3])
      exact hfin
    · simp (disch := first | omega | assumption) only [Z_iconst, Z_bipush, Z_sipush, Z_ldc, Z_ldcM, Z_ldcw, Z_null, Z_getstatic, Z_iload0, Z_aload0, Z_aloadq0, Z_aloadn0, Z_istore0, Z_astore0, Z_astoreq0, Z_astoren0, Z_iinc0, Z_iload1, Z_aload1, Z_aloadq1, Z_aloadn1, Z_istore1, Z_astore1, Z_astoreq1, Z_astoren1, Z_iinc1, Z_iload2, Z_aload2, Z_aloadq2, Z_aloadn2, Z_istore2, Z_astore2, Z_astoreq2, Z_astoren2, Z_iinc2, Z_iload3, Z_aload3, Z_aloadq3, Z_aloadn3, Z_istore3, Z_astore3, Z_astoreq3, Z_astoren3, Z_iinc3, Z_iload4, Z_aload4, Z_aloadq4, Z_aloadn4, Z_istore4, Z_astore4, Z_astoreq4, Z_astoren4, Z_iinc4, Z_iload5, Z_aload5, Z_aloadq5, Z_aloadn5, Z_istore5, Z_astore5, Z_astoreq5, Z_astoren5, Z_iinc5, Z_iload6, Z_aload6, Z_aloadq6, Z_aloadn6, Z_istore6, Z_astore6, Z_astoreq6, Z_astoren6, Z_iinc6, Z_iload7, Z_aload7, Z_aloadq7, Z_aloadn7, Z_istore7, Z_astore7, Z_astoreq7, Z_astoren7, Z_iinc7, Z_iload8, Z_aload8, Z_aloadq8, Z_aloadn8, Z_istore8, Z_astore8, Z_astoreq8, Z_astoren8, Z_iinc8, Z_iload9, Z_aload9, Z_aloadq9, Z_aloadn9, Z_istore9, Z_astore9, Z_astoreq9, Z_astoren9, Z_iinc9, Z_iload10, Z_aload10, Z_aloadq10, Z_aloadn10, Z_istore10, Z_astore10, Z_astoreq10, Z_astoren10, Z_iinc10, Z_iload11, Z_aload11, Z_aloadq11, Z_aloadn11, Z_istore11, Z_astore11, Z_astoreq11, Z_astoren11, Z_iinc11, Z_iload12, Z_aload12, Z_aloadq12, Z_aloadn12, Z_istore12, Z_astore12, Z_astoreq12, Z_astoren12, Z_iinc12, Z_iadd, Z_isub, Z_imul, Z_iand, Z_ior, Z_ishl, Z_ishr, Z_iushr, Z_idiv, Z_irem, Z_dup, Z_dupx1, Z_dup2, Z_pop, Z_if_eq, Z_icmp_eq, Z_if_ne, Z_icmp_ne, Z_if_lt, Z_icmp_lt, Z_if_le, Z_icmp_le, Z_if_ge, Z_icmp_ge, Z_if_gt, Z_icmp_gt, Z_acmp_eqq1, Z_acmp_eqq2, Z_acmp_eqq3, Z_acmp_eqq4, Z_acmp_neq1, Z_acmp_neq2, Z_acmp_neq3, Z_acmp_neq4, Z_ifnull, Z_ifnullN, Z_ifnullq, Z_ifnonnull, Z_ifnonnullN, Z_ifnonnullq, Z_goto, Z_getI, Z_getZ, Z_getR, Z_putI, Z_putR, Z_putN, Z_putQ, Z_putZ, Z_new, Z_newarray, Z_anewarray, Z_alen, Z_cast, Z_objInit, Z_clone, Z_getClass, Z_copy, Z_max, Z_min, Y_iaload, Y_baload, Y_aaload, Y_iastore, Y_bastore, Y_aastore, Y_aastoreN, lt_0p, lt_1n, va_some, va_none, Option.toList_some, Option.toList_none, List.nil_append, List.cons_append, List.length_nil, List.length_cons, true_and, and_true, if_true, if_false, ite_true, ite_false, Nat.zero_le, Nat.not_lt_zero, Nat.reduceLeDiff, Nat.reduceEqDiff, Nat.reduceAdd, Nat.reduceMul, Nat.reduceSub, Nat.reduceLT, Nat.zero_add, not_true_eq_false, not_false_eq_true, true_or, or_true, false_or, or_false, Nat.add_zero, false_and, and_false, exists_eq_left', Option.some.injEq, k_X9_send_0, sk_X9_send_20, k_X9_send_20, sk_X9_send_66, sk_X9_send_98, k_X9_send_98, Q_X9_send, E_X9_send, nI_add, pk_mul, ar_lt, ar_le, ar_eq, z_lt, z_le, z_gt, z_ge, z_eq, z_eq2, ix_nI, nI_clamp, ne_eq, hM.k0, hM.f1, hM.k1, hM.l1, hM.f2, hM.k2, hM.l2, hM.f3, hM.k3, hM.l3, hM.f4, hM.k4, hM.l4, hM.f5, hM.k5, hM.l5, hM.f6, hM.k6, hM.l6, hM.f7, hM.k7, hM.l7, hM.f8, hM.k8, hM.l8, hM.f9, hM.k9, hM.l9, hM.f10, hM.k10, hM.l10, hM.f11, hM.k11, hM.l11, hM.f12, hM.k12, hM.l12, hM.f13, hM.k13, hM.l13, hM.f14, hM.k14, hM.l14, hM.f15, hM.k15, hM.l15, hM.f16, hM.k16, hM.l16, hM.f17, hM.k17, hM.l17, hM.f18, hM.k18, hM.l18, hM.f19, hM.k19, hM.l19, hM.f20, hM.k20, hM.l20, hM.f21, hM.k21, hM.l21, hM.f22, hM.k22, hM.l22, hM.f23, hM.k23, hM.l23, kd_wfI, ln_wfI, fI_wfI, fR_wfI, aI_wfI, aR_wfI, gc_wfI, sz_wfI, sl_wfI, kd_wfR, ln_wfR, fI_wfR, fR_wfR, aI_wfR, aR_wfR, gc_wfR, sz_wfR, sl_wfR, kd_waI, ln_waI, fI_waI, fR_waI, aI_waI, aR_waI, gc_waI, sz_waI, sl_waI, kd_waR, ln_waR, fI_waR, fR_waR, aI_waR, aR_waR, gc_waR, sz_waR, sl_waR, kd_hnew, ln_hnew, fI_hnew, fR_hnew, aI_hnew, aR_hnew, gc_hnew, sz_hnew, sl_hnew, e17, hfull, ac_eq, c0, c1, c2, c3]
      iterate 5 (rw [k_X9_send_66]; simp (disch := first | omega | assumption) only [Z_iconst, Z_bipush, Z_sipush, Z_ldc, Z_ldcM, Z_ldcw, Z_null, Z_getstatic, Z_iload0, Z_aload0, Z_aloadq0, Z_aloadn0, Z_istore0, Z_astore0, Z_astoreq0, Z_astoren0, Z_iinc0, Z_iload1, Z_aload1, Z_aloadq1, Z_aloadn1, Z_istore1, Z_astore1, Z_astoreq1, Z_astoren1, Z_iinc1, Z_iload2, Z_aload2, Z_aloadq2, Z_aloadn2, Z_istore2, Z_astore2, Z_astoreq2, Z_astoren2, Z_iinc2, Z_iload3, Z_aload3, Z_aloadq3, Z_aloadn3, Z_istore3, Z_astore3, Z_astoreq3, Z_astoren3, Z_iinc3, Z_iload4, Z_aload4, Z_aloadq4, Z_aloadn4, Z_istore4, Z_astore4, Z_astoreq4, Z_astoren4, Z_iinc4, Z_iload5, Z_aload5, Z_aloadq5, Z_aloadn5, Z_istore5, Z_astore5, Z_astoreq5, Z_astoren5, Z_iinc5, Z_iload6, Z_aload6, Z_aloadq6, Z_aloadn6, Z_istore6, Z_astore6, Z_astoreq6, Z_astoren6, Z_iinc6, Z_iload7, Z_aload7, Z_aloadq7, Z_aloadn7, Z_istore7, Z_astore7, Z_astoreq7, Z_astoren7, Z_iinc7, Z_iload8, Z_aload8, Z_aloadq8, Z_aloadn8, Z_istore8, Z_astore8, Z_astoreq8, Z_astoren8, Z_iinc8, Z_iload9, Z_aload9, Z_aloadq9, Z_aloadn9, Z_istore9, Z_astore9, Z_astoreq9, Z_astoren9, Z_iinc9, Z_iload10, Z_aload10, Z_aloadq10, Z_aloadn10, Z_istore10, Z_astore10, Z_astoreq10, Z_astoren10, Z_iinc10, Z_iload11, Z_aload11, Z_aloadq11, Z_aloadn11, Z_istore11, Z_astore11, Z_astoreq11, Z_astoren11, Z_iinc11, Z_iload12, Z_aload12, Z_aloadq12, Z_aloadn12, Z_istore12, Z_astore12, Z_astoreq12, Z_astoren12, Z_iinc12, Z_iadd, Z_isub, Z_imul, Z_iand, Z_ior, Z_ishl, Z_ishr, Z_iushr, Z_idiv, Z_irem, Z_dup, Z_dupx1, Z_dup2, Z_pop, Z_if_eq, Z_icmp_eq, Z_if_ne, Z_icmp_ne, Z_if_lt, Z_icmp_lt, Z_if_le, Z_icmp_le, Z_if_ge, Z_icmp_ge, Z_if_gt, Z_icmp_gt, Z_acmp_eqq1, Z_acmp_eqq2, Z_acmp_eqq3, Z_acmp_eqq4, Z_acmp_neq1, Z_acmp_neq2, Z_acmp_neq3, Z_acmp_neq4, Z_ifnull, Z_ifnullN, Z_ifnullq, Z_ifnonnull, Z_ifnonnullN, Z_ifnonnullq, Z_goto, Z_getI, Z_getZ, Z_getR, Z_putI, Z_putR, Z_putN, Z_putQ, Z_putZ, Z_new, Z_newarray, Z_anewarray, Z_alen, Z_cast, Z_objInit, Z_clone, Z_getClass, Z_copy, Z_max, Z_min, Y_iaload, Y_baload, Y_aaload, Y_iastore, Y_bastore, Y_aastore, Y_aastoreN, lt_0p, lt_1n, va_some, va_none, Option.toList_some, Option.toList_none, List.nil_append, List.cons_append, List.length_nil, List.length_cons, true_and, and_true, if_true, if_false, ite_true, ite_false, Nat.zero_le, Nat.not_lt_zero, Nat.reduceLeDiff, Nat.reduceEqDiff, Nat.reduceAdd, Nat.reduceMul, Nat.reduceSub, Nat.reduceLT, Nat.zero_add, not_true_eq_false, not_false_eq_true, true_or, or_true, false_or, or_false, Nat.add_zero, false_and, and_false, exists_eq_left', Option.some.injEq, k_X9_send_0, sk_X9_send_20, k_X9_send_20, sk_X9_send_66, sk_X9_send_98, k_X9_send_98, Q_X9_send, nI_add, pk_mul, ar_lt, ar_le, ar_eq, z_lt, z_le, z_gt, z_ge, z_eq, z_eq2, ix_nI, nI_clamp, ne_eq, hM.k0, hM.f1, hM.k1, hM.l1, hM.f2, hM.k2, hM.l2, hM.f3, hM.k3, hM.l3, hM.f4, hM.k4, hM.l4, hM.f5, hM.k5, hM.l5, hM.f6, hM.k6, hM.l6, hM.f7, hM.k7, hM.l7, hM.f8, hM.k8, hM.l8, hM.f9, hM.k9, hM.l9, hM.f10, hM.k10, hM.l10, hM.f11, hM.k11, hM.l11, hM.f12, hM.k12, hM.l12, hM.f13, hM.k13, hM.l13, hM.f14, hM.k14, hM.l14, hM.f15, hM.k15, hM.l15, hM.f16, hM.k16, hM.l16, hM.f17, hM.k17, hM.l17, hM.f18, hM.k18, hM.l18, hM.f19, hM.k19, hM.l19, hM.f20, hM.k20, hM.l20, hM.f21, hM.k21, hM.l21, hM.f22, hM.k22, hM.l22, hM.f23, hM.k23, hM.l23, kd_wfI, ln_wfI, fI_wfI, fR_wfI, aI_wfI, aR_wfI, gc_wfI, sz_wfI, sl_wfI, kd_wfR, ln_wfR, fI_wfR, fR_wfR, aI_wfR, aR_wfR, gc_wfR, sz_wfR, sl_wfR, kd_waI, ln_waI, fI_waI, fR_waI, aI_waI, aR_waI, gc_waI, sz_waI, sl_waI, kd_waR, ln_waR, fI_waR, fR_waR, aI_waR, aR_waR, gc_waR, sz_waR, sl_waR, kd_hnew, ln_hnew, fI_hnew, fR_hnew, aI_hnew, aR_hnew, gc_hnew, sz_hnew, sl_hnew, e17, hfull, ac_eq, c0, c1, c2, c3])
      exact hfin
