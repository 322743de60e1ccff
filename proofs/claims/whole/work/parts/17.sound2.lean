theorem tM_lt : tM.all (fun r => Nat.blt r.2.2.1 145) = true := by decide +kernel
theorem tM_lt' {o i k z : Nat} (h : (o, i, k, z) ∈ tM) : k < 145 := Nat.le_of_ble_eq_true (List.all_eq_true.mp tM_lt _ h)
def RetOk (mi : MI) (ins : Instr) (st : List Value) (r : Option Value) : Prop := (ins = .return_ ∧ st = [] ∧ mR mi = none ∧ r = none) ∨ (ins = .ireturn ∧ ∃ x, st = [.int x] ∧ r = some (.int x) ∧ (mR mi = some .int ∨ (mR mi = some .boolean ∧ (x = 0 ∨ x = 1)))) ∨ (ins = .areturn ∧ ∃ v, st = [va_rf v] ∧ r = some (va_rf v) ∧ ((∃ n, mR mi = some (.object n)) ∨ ∃ t, mR mi = some (.array t)))
/-- what holds of every method but the law -/
def GoodM (m : MI) : Prop := OkC m (mP m) ∧ pcOf (mP m) = 0 ∧ mP m ≠ []
theorem GoodM.of {m : MI} (h : ckM m = true) : GoodM m := by
  unfold ckM at h
  simp only [Bool.and_eq_true] at h
  obtain ⟨⟨h1, h2⟩, h3⟩ := h
  refine ⟨⟨List.all_eq_true.mp h1, h2⟩, ?_, ?_⟩
  · cases hp : mP m with
    | nil => rw [hp] at h3; cases h3
    | cons e r => rw [hp] at h3; exact Nat.eq_of_beq_eq_true h3
  · intro hp
    rw [hp] at h3
    cases h3
theorem l0_LRp {m : MI} {As : List Value} (hc : ∀ v ∈ As, v.category = 1) (hn : As.length ≤ mL m) : LRp (sm_l0 m As) ((As.map Slot.val ++ List.replicate (mL m - As.length) Slot.unset).toArray) ∧ (sm_l0 m As).length = mL m := by
  have hlen : (sm_l0 m As).length = mL m := by
    unfold sm_l0
    rw [List.length_append, List.length_map, List.length_replicate]
    omega
  refine ⟨⟨?_, ⟨?_, ?_⟩, ?_⟩, hlen⟩
  · rw [hlen]
    simp
    omega
  · intro i v hi h2
    rw [List.getElem?_toArray] at hi
    have hm := List.mem_of_getElem? hi
    rcases List.mem_append.mp hm with h | h
    · obtain ⟨w, hw, he⟩ := List.mem_map.mp h
      cases he
      rw [hc v hw] at h2
      cases h2
    · have := List.eq_of_mem_replicate h
      cases this
  · intro i hi
    rw [List.getElem?_toArray] at hi
    have hm := List.mem_of_getElem? hi
    rcases List.mem_append.mp hm with h | h
    · obtain ⟨w, hw, he⟩ := List.mem_map.mp h
      cases he
    · have := List.eq_of_mem_replicate h
      cases this
  · intro i v hi
    unfold sm_l0 at hi
    by_cases hl : i < As.length
    · rw [List.getElem?_append_left (by rw [List.length_map]; exact hl), List.getElem?_map] at hi
      cases hv : As[i]? with
      | none => rw [hv] at hi; cases hi
      | some w =>
        rw [hv] at hi
        cases hi
        refine ⟨?_, hc v (List.mem_of_getElem? hv)⟩
        rw [List.getElem?_toArray, List.getElem?_append_left (by rw [List.length_map]; exact hl), List.getElem?_map, hv]
        rfl
    · rw [List.getElem?_append_right (by rw [List.length_map]; omega)] at hi
      have := List.eq_of_mem_replicate (List.mem_of_getElem? hi)
      cases this
theorem Kx.warm {D : va_G} {b g0 g1 : Nat} {s U : State} {H : Heap} {locs : List Loc} (h : Kx D b g0 g1 s) (hW : s.WarmedH U.vm) (hS : va_S (fun q => b ≤ q) s.heap H locs) (hU : U.heap = H) : Kx D b g0 g1 U := by
  obtain ⟨h1, h2, h3, h4⟩ := h
  refine ⟨h1.moved hW.alike, h2.warm hW, ?_, h4.moved hW.alike⟩
  rw [hU]
  exact (h3.moved hW.alike).kept hS.2.1
/-- a method's contract in the small machine's words -/
def mPc (D : va_G) (b g0 g1 : Nat) (As : List Value) (h : Hp) : Array Value → State → Prop := fun v U => v = As.toArray ∧ Rp D b g0 g1 U h U.heap ∧ Kx D b g0 g1 U ∧ b ≤ U.heap.size
def mQc (D : va_G) (b g0 g1 : Nat) (r : Option Value) (h' : Hp) : Array Value → State → Outcome → State → Prop := fun _ st oc t => oc = .returned r ∧ Rp D b g0 g1 t h' t.heap ∧ va_F (fun q => b ≤ q) st t
theorem mPc_blind {D : va_G} {b g0 g1 : Nat} {As : List Value} {h : Hp} : FrameBlind (mPc D b g0 g1 As h) := by
  intro a U g mk ⟨q1, q2, ⟨k1, k2, k3, k4⟩, q4⟩
  have hal : U.vm.Alike (U.calling g mk a).vm := Vm.Alike.refl U.vm
  refine ⟨q1, q2.moved hal, ⟨va_K.moved hal k1, fun w hw hs => ?_, k3.moved hal, k4.moved hal⟩, q4⟩
  have h1 := k2 w hw hs
  cases w <;> first | (simp [isSp] at hs; done) | exact va_Nw.same (u := U) (U := U.calling g mk a) rfl rfl h1 | (rename_i t; cases t <;> first | exact va_AO.moved hal h1 | (simp [isSp] at hs; done))
section CALL
variable {p : Program} {l : Launch} {e : Env} {R : Room} {s : State} {m : MethodId} {args : Array Value} {below : List Frame} {meth : Method} {c : Code} {H : Heap} {locs : List Loc} {cells slots : Nat} {Q : State → Prop}
variable {pc : Nat} {ls : Array Slot} {rest st0 : List Value} {D : va_G} {b g0 g1 : Nat} {mc ms : Nat} {a : Array Value} {r : Option Value} {h' : Hp}
theorem run_call (hr : va_Run p l e R s m args below meth c H locs cells slots mc ms (F0 m pc ls st0) rest (mQc D b g0 g1 r h' a) (fun q => b ≤ q)) (hS : va_S (fun q => b ≤ q) s.heap H locs)
    (kk : ∀ (H1 : Heap) (locs1 : List Loc), Rp D b g0 g1 s h' H1 → va_S (fun q => b ≤ q) s.heap H1 locs1 → W p l e R s m args below meth c H1 locs1 (cells + mc) (slots + ms) Q (F0 m (pc + 3) ls (r.toList ++ rest))) : W p l e R s m args below meth c H locs cells slots Q (F0 m pc ls st0) := by
  intro T hT X
  obtain ⟨v, st₀, t, T', L, h0, X', hL, e1, e2, ⟨hv, hRp, hz, hk⟩, st⟩ := hr T hT X
  cases hv
  rw [h0] at hz hk
  have hal : s.vm.Alike t.vm := by rw [← e2]; exact X'.warmed.alike
  obtain ⟨t2, a1, b1⟩ := kk T'.heap (locs ++ L) (by rw [e1]; exact hRp.moved hal.symm)
    ⟨Nat.le_trans hS.1 (by rw [e1]; exact hz), fun q h1 h2 => by rw [e1, hk q (Nat.lt_of_lt_of_le h1 hS.1) h2]; exact hS.2.1 q h1 h2, fun q hq => by
      rcases List.mem_append.mp hq with h | h
      · exact hS.2.2 q h
      · exact hL q h⟩ T' rfl X'
  exact ⟨t2, st t2 a1, b1⟩
end CALL
theorem bw_good {m : MI} (hc : Cond.code (mY m) (mC m) (mL m) (mR m) ∈ bw) : GoodIn bw (Cond.code (mY m) (mC m) (mL m) (mR m) :: bw) := by
  have h1 : ∀ w ∈ bw, w ∈ bw ∧ ((w.onTables && w.keeps) = true ∨ ∃ ty, w = .arrayClass ty) := fun w hw => ⟨hw, good_of_word (List.mem_filter.mp hw).2⟩
  intro w hw
  rcases List.mem_cons.mp hw with rfl | hw
  · exact h1 _ hc
  · exact h1 _ hw
