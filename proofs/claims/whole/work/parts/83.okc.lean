/-! the law's own entries are all in order; the walk -/
theorem cut50 {l : List Ent} {k : Nat} {e : Ent} (h : e ∈ l.drop k) : e ∈ (l.drop k).take 50 ∨ e ∈ l.drop (k + 50) := by
  rw [← List.take_append_drop 50 (l.drop k)] at h
  rcases List.mem_append.mp h with h | h
  · exact Or.inl h
  · rw [List.drop_drop] at h
    exact Or.inr h
theorem cutA {l : List Ent} {k : Nat} {m : MI} (h1 : ((l.drop k).take 50).all (ckE m) = true) (h2 : ∀ e ∈ l.drop (k + 50), ckE m e = true) : ∀ e ∈ l.drop k, ckE m e = true := fun e he => by
  rcases cut50 he with h | h
  · exact List.all_eq_true.mp h1 e h
  · exact h2 e h
theorem law_len : k_L_law_0.length ≤ 850 := by decide +kernel
theorem law_ok : OkC M_L_law k_L_law_0 := by
  refine ⟨?_, ckL_n⟩
  have z : ∀ e ∈ k_L_law_0.drop 850, ckE M_L_law e = true := fun e he => by
    rw [List.drop_eq_nil_of_le law_len] at he
    exact absurd he List.not_mem_nil
  have : ∀ e ∈ k_L_law_0.drop 0, ckE M_L_law e = true := cutA ckL_0 (cutA ckL_1 (cutA ckL_2 (cutA ckL_3 (cutA ckL_4 (cutA ckL_5 (cutA ckL_6 (cutA ckL_7 (cutA ckL_8 (cutA ckL_9 (cutA ckL_10 (cutA ckL_11 (cutA ckL_12 (cutA ckL_13 (cutA ckL_14 (cutA ckL_15 (cutA ckL_16 z))))))))))))))))
  exact this
theorem whole_start {p : Program} {e : Env} {s : State} {m : MethodId} {below : List Frame} {meth : Method} {c : Code} (l : Launch) {b L : Nat} {xs : Nat → Int32} (hL : L ≤ 2560) (C0 : lw_At p s m meth c b L xs) : W p l e room_1 s m #[Value.ref b] below meth c s.heap [] 0 0 (lw_Z below #[Value.ref b] s) (entryFrame m ([Value.ref b] : List Value).toArray 4) := whole_of law_pure law_ok l hL C0
