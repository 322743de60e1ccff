/-! bounds stay -/
theorem mem_app1 {α : Type} {l : List α} {q x : α} (h : x ∈ l ++ [q]) : x ∈ l ∨ x = q := by
  rcases List.mem_append.mp h with h | h
  · exact Or.inl h
  · exact Or.inr (List.mem_singleton.mp h)
theorem Bd_snd {s : St} {w : Nat} {q : Mg} (hB : Bd s) (hq : q.1 ≤ 2 ∧ (q.1 = 0 → q.2.1 < 240) ∧ (q.1 ≠ 0 → q.2.1 < 4) ∧ ∀ j, j < 4 → q.2.2 j ≤ 60) : Bd (snd s w q) := by
  unfold snd
  split
  · exact hB
  · rename_i hne
    refine ⟨hB.1, hB.2.1, hB.2.2.1, fun w' hw' => ?_⟩
    show (fu (sWy s) w (sWy s w ++ [q]) w').length ≤ 30 ∧ ∀ z ∈ fu (sWy s) w (sWy s w ++ [q]) w', _
    have h1 := hB.2.2.2 w' hw'
    unfold fu
    by_cases hww : w' = w
    · subst hww
      rw [if_pos rfl]
      refine ⟨by rw [List.length_append, List.length_singleton]; omega, fun z hz => ?_⟩
      rcases mem_app1 hz with hz | rfl
      · exact h1.2 z hz
      · exact hq
    · rw [if_neg hww]
      exact h1
theorem Bd_doo {s : St} {r o : Nat} (hB : Bd s) (ho : o < 240) (how : sOw s r (o / 60) < 60) (hlen : (sDn s r).length < 240) : Bd (doo s r o) := by
  refine ⟨hB.1, hB.2.1, fun r' hr' => ?_, hB.2.2.2⟩
  have h1 := hB.2.2.1 r' hr'
  have h2 := (hB.2.1 o ho).2.2.1
  show fu (sTi s) r (max (sTi s r) (sTm s o)) r' ≤ 100000 ∧ (fu (sDn s) r (sDn s r ++ [o]) r').length ≤ 240 ∧ (sWt s r').length ≤ 240 ∧ (∀ z ∈ fu (sDn s) r (sDn s r ++ [o]) r', z < 240) ∧ (∀ z ∈ sWt s r', z < 240) ∧ (∀ j, j < 4 → fu (sOw s) r (fu (sOw s r) (o / 60) (sOw s r (o / 60) + 1)) r' j ≤ 60) ∧ ∀ i j, i < 4 → j < 4 → sKw s r' i j ≤ 60
  unfold fu
  by_cases hrr : r' = r
  · subst hrr
    rw [if_pos rfl, if_pos rfl, if_pos rfl]
    refine ⟨Nat.max_le.mpr ⟨h1.1, h2⟩, by rw [List.length_append, List.length_singleton]; omega, h1.2.2.1, fun z hz => ?_, h1.2.2.2.2.1, fun j hj => ?_, h1.2.2.2.2.2.2⟩
    · rcases mem_app1 hz with hz | rfl
      · exact h1.2.2.2.1 z hz
      · exact ho
    · by_cases hjo : j = o / 60
      · rw [if_pos hjo]
        omega
      · rw [if_neg hjo]
        exact h1.2.2.2.2.2.1 j hj
  · rw [if_neg hrr, if_neg hrr, if_neg hrr]
    exact h1
/-- a new operation's own data -/
def rec_ (s : St) (r k t : Nat) (v : Int32) (b : Option Nat) : St := w_sMk (w_sKn (w_sTg (w_sVl (w_sBh (w_sTm s (fu (sTm s) (60 * r + sMk s r) (sTi s r + 1))) (fu (sBh s) (60 * r + sMk s r) b)) (fu (sVl s) (60 * r + sMk s r) v)) (fu (sTg s) (60 * r + sMk s r) t)) (fu (sKn s) (60 * r + sMk s r) k)) (fu (sMk s) r (sMk s r + 1))
theorem Bd_rec {s : St} {r k t : Nat} {v : Int32} {b : Option Nat} (hB : Bd s) (hm : sMk s r < 60) (hk : k ≤ 5) (ht : t ≤ 1) (hb : ∀ p, b = some p → p < 240) (hti : sTi s r < 100000) : Bd (rec_ s r k t v b) := by
  refine ⟨fun r' hr' => ?_, fun o ho => ?_, hB.2.2.1, hB.2.2.2⟩
  · show fu (sMk s) r (sMk s r + 1) r' ≤ 60
    unfold fu
    split
    · omega
    · exact hB.1 r' hr'
  · have h1 := hB.2.1 o ho
    show fu (sKn s) (60 * r + sMk s r) k o ≤ 5 ∧ fu (sTg s) (60 * r + sMk s r) t o ≤ 1 ∧ fu (sTm s) (60 * r + sMk s r) (sTi s r + 1) o ≤ 100000 ∧ (∀ p, fu (sBh s) (60 * r + sMk s r) b o = some p → p < 240) ∧ ∀ j, j < 4 → sCk s o j ≤ 60
    unfold fu
    by_cases hoo : o = 60 * r + sMk s r
    · rw [if_pos hoo, if_pos hoo, if_pos hoo, if_pos hoo]
      exact ⟨hk, ht, by omega, hb, h1.2.2.2.2⟩
    · rw [if_neg hoo, if_neg hoo, if_neg hoo, if_neg hoo]
      exact h1
def clk_ (s : St) (r o : Nat) : St := w_sCk s (fu (sCk s) o (sOw s r))
theorem Bd_clk {s : St} {r o : Nat} (hB : Bd s) (hr : r < 4) : Bd (clk_ s r o) := by
  refine ⟨hB.1, fun o' ho' => ?_, hB.2.2.1, hB.2.2.2⟩
  have h1 := hB.2.1 o' ho'
  refine ⟨h1.1, h1.2.1, h1.2.2.1, h1.2.2.2.1, fun j hj => ?_⟩
  show fu (sCk s) o (sOw s r) o' j ≤ 60
  unfold fu
  split
  · exact (hB.2.2.1 r hr).2.2.2.2.2.1 j hj
  · exact h1.2.2.2.2 j hj
theorem rec_MR {g r k t : Nat} {v : Int32} {b : Option Nat} {h : Hp} {s : St} (hR : MR g h s) : MR g (waI (waI (waI (waI (waI (waI h (g + 1) r (nI (sMk s r + 1))) (g + 2) (60 * r + sMk s r) (nI k)) (g + 3) (60 * r + sMk s r) (nI t)) (g + 4) (60 * r + sMk s r) v) (g + 5) (60 * r + sMk s r) (bhI b)) (g + 6) (60 * r + sMk s r) (nI (sTi s r + 1))) (rec_ s r k t v b) := by
  refine ⟨?_, ?_, ?_, ?_, ?_, ?_, ?_, ?_, ?_, ?_, ?_, ?_, ?_, ?_, ?_, ?_, ?_, ?_, ?_, ?_⟩
  · intro r' hr'
    simp only [aI_waI, ac_eq, Nat.reduceEqDiff, false_and, if_false, true_and]
    show _ = nI (fu (sMk s) r (sMk s r + 1) r')
    unfold fu
    split
    · rfl
    · exact hR.c1 r' hr'
  · intro o' ho'
    simp only [aI_waI, ac_eq, Nat.reduceEqDiff, false_and, if_false, true_and]
    show _ = nI (fu (sKn s) (60 * r + sMk s r) k o')
    unfold fu
    split
    · rfl
    · exact hR.c2 o' ho'
  · intro o' ho'
    simp only [aI_waI, ac_eq, Nat.reduceEqDiff, false_and, if_false, true_and]
    show _ = nI (fu (sTg s) (60 * r + sMk s r) t o')
    unfold fu
    split
    · rfl
    · exact hR.c3 o' ho'
  · intro o' ho'
    simp only [aI_waI, ac_eq, Nat.reduceEqDiff, false_and, if_false, true_and]
    show _ = fu (sVl s) (60 * r + sMk s r) v o'
    unfold fu
    split
    · rfl
    · exact hR.c4 o' ho'
  · intro o' ho'
    simp only [aI_waI, ac_eq, Nat.reduceEqDiff, false_and, if_false, true_and]
    show _ = bhI (fu (sBh s) (60 * r + sMk s r) b o')
    unfold fu
    split
    · rfl
    · exact hR.c5 o' ho'
  · intro o' ho'
    simp only [aI_waI, ac_eq, Nat.reduceEqDiff, false_and, if_false, true_and]
    show _ = nI (fu (sTm s) (60 * r + sMk s r) (sTi s r + 1) o')
    unfold fu
    split
    · rfl
    · exact hR.c6 o' ho'
  · intro o' j' ho' hj'; simp only [aI_waI, aI_wfI, ac_eq, Nat.reduceEqDiff, false_and, if_false, ite_false]; exact hR.c7 o' j' ho' hj'
  · intro r' hr'; simp only [aI_waI, aI_wfI, ac_eq, Nat.reduceEqDiff, false_and, if_false, ite_false]; exact hR.c8 r' hr'
  · intro r' j' hr' hj'; simp only [aI_waI, aI_wfI, ac_eq, Nat.reduceEqDiff, false_and, if_false, ite_false]; exact hR.c9 r' j' hr' hj'
  · intro r' hr'; simp only [aI_waI, aI_wfI, ac_eq, Nat.reduceEqDiff, false_and, if_false, ite_false]; exact hR.c10 r' hr'
  · intro r' hr'; simp only [aI_waI, aI_wfI, ac_eq, Nat.reduceEqDiff, false_and, if_false, ite_false]; exact hR.c11 r' hr'
  · intro r' k' hr' hk'; simp only [aI_waI, aI_wfI, ac_eq, Nat.reduceEqDiff, false_and, if_false, ite_false]; exact hR.c12 r' k' hr' hk'
  · intro r' o' hr' ho'; simp only [aI_waI, aI_wfI, ac_eq, Nat.reduceEqDiff, false_and, if_false, ite_false]; exact hR.c13 r' o' hr' ho'
  · intro r' hr'; simp only [aI_waI, aI_wfI, ac_eq, Nat.reduceEqDiff, false_and, if_false, ite_false]; exact hR.c14 r' hr'
  · intro r' k' hr' hk'; simp only [aI_waI, aI_wfI, ac_eq, Nat.reduceEqDiff, false_and, if_false, ite_false]; exact hR.c15 r' k' hr' hk'
  · intro r' i' j' hr' hi' hj'; simp only [aI_waI, aI_wfI, ac_eq, Nat.reduceEqDiff, false_and, if_false, ite_false]; exact hR.c16 r' i' j' hr' hi' hj'
  · intro w' hw'; simp only [aI_waI, aI_wfI, ac_eq, Nat.reduceEqDiff, false_and, if_false, ite_false]; exact hR.c17 w' hw'
  · intro w' k' hw' hk'; simp only [aI_waI, aI_wfI, ac_eq, Nat.reduceEqDiff, false_and, if_false, ite_false]; exact hR.c18 w' k' hw' hk'
  · intro w' k' hw' hk'; simp only [aI_waI, aI_wfI, ac_eq, Nat.reduceEqDiff, false_and, if_false, ite_false]; exact hR.c19 w' k' hw' hk'
  · intro w' k' j' hw' hk' hj'; simp only [aI_waI, aI_wfI, ac_eq, Nat.reduceEqDiff, false_and, if_false, ite_false]; exact hR.c20 w' k' j' hw' hk' hj'
theorem clk_MR {g r o : Nat} {h : Hp} {s : St} (hR : MR g h s) (ho : o < 240) : MR g (waI (waI (waI (waI h (g + 7) (4 * o) (nI (sOw s r 0))) (g + 7) (4 * o + 1) (nI (sOw s r 1))) (g + 7) (4 * o + 2) (nI (sOw s r 2))) (g + 7) (4 * o + 3) (nI (sOw s r 3))) (clk_ s r o) := by
  refine ⟨?_, ?_, ?_, ?_, ?_, ?_, ?_, ?_, ?_, ?_, ?_, ?_, ?_, ?_, ?_, ?_, ?_, ?_, ?_, ?_⟩
  · intro r' hr'; simp only [aI_waI, aI_wfI, ac_eq, Nat.reduceEqDiff, false_and, if_false, ite_false]; exact hR.c1 r' hr'
  · intro o' ho'; simp only [aI_waI, aI_wfI, ac_eq, Nat.reduceEqDiff, false_and, if_false, ite_false]; exact hR.c2 o' ho'
  · intro o' ho'; simp only [aI_waI, aI_wfI, ac_eq, Nat.reduceEqDiff, false_and, if_false, ite_false]; exact hR.c3 o' ho'
  · intro o' ho'; simp only [aI_waI, aI_wfI, ac_eq, Nat.reduceEqDiff, false_and, if_false, ite_false]; exact hR.c4 o' ho'
  · intro o' ho'; simp only [aI_waI, aI_wfI, ac_eq, Nat.reduceEqDiff, false_and, if_false, ite_false]; exact hR.c5 o' ho'
  · intro o' ho'; simp only [aI_waI, aI_wfI, ac_eq, Nat.reduceEqDiff, false_and, if_false, ite_false]; exact hR.c6 o' ho'
  · intro o' j' ho' hj'
    simp only [aI_waI, ac_eq, Nat.reduceEqDiff, false_and, if_false, true_and]
    show _ = nI (fu (sCk s) o (sOw s r) o' j')
    unfold fu
    by_cases hoo : o' = o
    · subst hoo
      rw [if_pos rfl]
      rcases (show j' = 0 ∨ j' = 1 ∨ j' = 2 ∨ j' = 3 by omega) with rfl | rfl | rfl | rfl
      · rw [if_neg (by omega), if_neg (by omega), if_neg (by omega), if_pos (by omega)]
      · rw [if_neg (by omega), if_neg (by omega), if_pos (by omega)]
      · rw [if_neg (by omega), if_pos (by omega)]
      · rw [if_pos (by omega)]
    · rw [if_neg hoo, if_neg (by omega), if_neg (by omega), if_neg (by omega), if_neg (by omega)]
      exact hR.c7 o' j' ho' hj'
  · intro r' hr'; simp only [aI_waI, aI_wfI, ac_eq, Nat.reduceEqDiff, false_and, if_false, ite_false]; exact hR.c8 r' hr'
  · intro r' j' hr' hj'; simp only [aI_waI, aI_wfI, ac_eq, Nat.reduceEqDiff, false_and, if_false, ite_false]; exact hR.c9 r' j' hr' hj'
  · intro r' hr'; simp only [aI_waI, aI_wfI, ac_eq, Nat.reduceEqDiff, false_and, if_false, ite_false]; exact hR.c10 r' hr'
  · intro r' hr'; simp only [aI_waI, aI_wfI, ac_eq, Nat.reduceEqDiff, false_and, if_false, ite_false]; exact hR.c11 r' hr'
  · intro r' k' hr' hk'; simp only [aI_waI, aI_wfI, ac_eq, Nat.reduceEqDiff, false_and, if_false, ite_false]; exact hR.c12 r' k' hr' hk'
  · intro r' o' hr' ho'; simp only [aI_waI, aI_wfI, ac_eq, Nat.reduceEqDiff, false_and, if_false, ite_false]; exact hR.c13 r' o' hr' ho'
  · intro r' hr'; simp only [aI_waI, aI_wfI, ac_eq, Nat.reduceEqDiff, false_and, if_false, ite_false]; exact hR.c14 r' hr'
  · intro r' k' hr' hk'; simp only [aI_waI, aI_wfI, ac_eq, Nat.reduceEqDiff, false_and, if_false, ite_false]; exact hR.c15 r' k' hr' hk'
  · intro r' i' j' hr' hi' hj'; simp only [aI_waI, aI_wfI, ac_eq, Nat.reduceEqDiff, false_and, if_false, ite_false]; exact hR.c16 r' i' j' hr' hi' hj'
  · intro w' hw'; simp only [aI_waI, aI_wfI, ac_eq, Nat.reduceEqDiff, false_and, if_false, ite_false]; exact hR.c17 w' hw'
  · intro w' k' hw' hk'; simp only [aI_waI, aI_wfI, ac_eq, Nat.reduceEqDiff, false_and, if_false, ite_false]; exact hR.c18 w' k' hw' hk'
  · intro w' k' hw' hk'; simp only [aI_waI, aI_wfI, ac_eq, Nat.reduceEqDiff, false_and, if_false, ite_false]; exact hR.c19 w' k' hw' hk'
  · intro w' k' j' hw' hk' hj'; simp only [aI_waI, aI_wfI, ac_eq, Nat.reduceEqDiff, false_and, if_false, ite_false]; exact hR.c20 w' k' j' hw' hk' hj'
