theorem okY_facts {m : MI} {q : Nat × Nat × Nat × Nat} (h : okY m q = true) : Cond.code (mY m) (mC m) (mL m) (mR m) ∈ bw ∧ Cond.initialized (mY m).cls ∈ bw ∧ (mY m).cls = owN m ∧ ((mY m).cls ≠ "java/lang/invoke/MethodHandle" ∧ (mY m).cls ≠ "java/lang/invoke/VarHandle") ∧ plainName (mY m).cls = true ∧ mN m ≤ mL m ∧
    (mK m = 0 → (parseMethodDescriptor (mY m).desc).map (fun d => d.parameters.length) = some (mN m) ∧ Cond.static (mY m) ∈ bw) ∧
    (mK m = 1 → (parseMethodDescriptor (mY m).desc).map (fun d => d.parameters.length + 1) = some (mN m) ∧ Cond.instanceMethod (mY m) ∈ bw ∧ (mY m).name = "<init>" ∧ mR m = none) ∧
    (∀ k, mK m = k + 2 → (parseMethodDescriptor (mY m).desc).map (fun d => d.parameters.length + 1) = some (mN m) ∧ Cond.instanceMethod (mY m) ∈ bw ∧ Cond.selects (mY m).cls (mY m) (mY m) ∈ bw ∧ (wc[k]?).map (fun q => q.1) = some (mY m).cls) := by
  unfold okY at h
  simp only [Bool.and_eq_true, decide_eq_true_eq] at h
  obtain ⟨⟨⟨⟨⟨⟨⟨⟨a1, a2⟩, a3⟩, a4⟩, a5⟩, a6⟩, a7⟩, -⟩, a8⟩ := h
  refine ⟨wat_in a1, wat_in a2, a3, ⟨a4, a5⟩, a6, Nat.le_of_ble_eq_true a7, fun hk => ?_, fun hk => ?_, fun k hk => ?_⟩
  · rw [hk] at a8
    simp only [Bool.and_eq_true, decide_eq_true_eq] at a8
    exact ⟨a8.1, wat_in a8.2⟩
  · rw [hk] at a8
    simp only [Bool.and_eq_true, decide_eq_true_eq] at a8
    exact ⟨a8.1.1.1, wat_in a8.1.1.2, a8.1.2, a8.2⟩
  · rw [hk] at a8
    simp only [Bool.and_eq_true, decide_eq_true_eq] at a8
    exact ⟨a8.1.1.1, wat_in a8.1.1.2, wat_in a8.1.2, a8.2⟩
/-- soundness at fuel n: of a walk in any method -/
def Snd (l : Launch) (D : va_G) (b g0 g1 n : Nat) : Prop := ∀ (mi : MI) (code : List Ent) (L : Lv) (st : List Value) (h : Hp) (r : Option Value) (h' : Hp), sm_run MT n mi code L st h = some (r, h') → OkC mi (mP mi) → OkC mi code →
  ∀ (p : Program) (env : Env) (R : Room) (s : State) (m : MethodId) (args : Array Value) (below : List Frame) (meth : Method) (c : Code) (H : Heap) (locs : List Loc) (cells slots : Nat) (Q : State → Prop) (ls : Array Slot), Cx D b g0 g1 p R s m args meth c mi → Rp D b g0 g1 s h H → LRp L ls → L.length = mL mi → (∀ v ∈ st, v.category = 1) → va_S (fun q => b ≤ q) s.heap H locs → cells + (sz h' - sz h) ≤ R.cells → slots + (sl h' - sl h) ≤ R.slots →
  (∀ (H1 : Heap) (locs1 : List Loc) (ls1 : Array Slot) (pc : Nat) (ins : Instr) (st1 : List Value), Rp D b g0 g1 s h' H1 → va_S (fun q => b ≤ q) s.heap H1 locs1 → decode (mC mi) pc = .ok (ins, 1) → RetOk mi ins st1 r → W p l env R s m args below meth c H1 locs1 (cells + (sz h' - sz h)) (slots + (sl h' - sl h)) Q (F0 m pc ls1 st1)) →
  W p l env R s m args below meth c H locs cells slots Q (F0 m (pcOf code) ls st)
/-- a method's contract out of its run -/
theorem snd_met {l : Launch} {D : va_G} {b g0 g1 n : Nat} (ih : Snd l D b g0 g1 n) {m' : MI} {As : List Value} {h h' : Hp} {r : Option Value} {q : Nat × Nat × Nat × Nat} (hok : okY m' q = true) (hg : GoodM m') (hcat : ∀ v ∈ As, v.category = 1) (hlen : As.length ≤ mL m') (hrun : sm_run MT n m' (mP m') (sm_l0 m' As) [] h = some (r, h')) :
    Met l (mY m') (Cond.code (mY m') (mC m') (mL m') (mR m') :: bw) { frames := mF m', cells := sz h' - sz h, slots := sl h' - sl h, locals := mO m' } (mPc D b g0 g1 As h) (mQc D b g0 g1 r h') (sz h' - sz h) (sl h' - sl h) (fun q => b ≤ q) := by
  obtain ⟨y1, y2, y3, y4, y5, y6, y7, y8, y9⟩ := okY_facts hok
  refine Met.ofW (cc := mC m') (maxL := mL m') (ret := mR m') y5 rfl ?_
  intro p env s m args below meth c s₁ B hml hv
  obtain ⟨rfl, hR, hKx, hbs⟩ := hv
  have hx := B.exec
  have hb := B.bytes
  have hr := B.returns
  have hts := atoms_spec (ws := Cond.code (mY m') (mC m') (mL m') (mR m') :: bw) B.pre
  have hown : s.vm.findClass (mY m').cls = some m.cls := findClass_of_methodNamed B.named
  have hlocks := B.notSynchronized
  have hin := (name_of_methodNamed B.named B.method).1
  rw [entry_eq m As hcat (mL m')]
  obtain ⟨hL, hLl⟩ := l0_LRp hcat hlen
  have hpc := hg.2.1
  have Cc : Cx D b g0 g1 p ({ frames := mF m', cells := sz h' - sz h, slots := sl h' - sl h, locals := mO m' } : Room) s m As.toArray meth c m' := ⟨hx, hb, hml, by rw [← y3]; exact hown, fun w hw => hts w (List.mem_cons_of_mem _ hw), hKx, hbs, Nat.le_refl _, Nat.le_refl _, fun hk => hin.trans (y8 hk).2.2.1⟩
  have key := ih m' (mP m') (sm_l0 m' As) [] h r h' hrun hg.1 hg.1 p env { frames := mF m', cells := sz h' - sz h, slots := sl h' - sl h, locals := mO m' } s m As.toArray below meth c s.heap [] 0 0 (MQ below (mQc D b g0 g1 r h') As.toArray s (sz h' - sz h) (sl h' - sl h) (fun q => b ≤ q)) _ Cc hR hL hLl (fun v hv => by cases hv) va_S.rf (by rw [Nat.zero_add]; exact Nat.le_refl _) (by rw [Nat.zero_add]; exact Nat.le_refl _) ?_
  · rw [hpc] at key
    exact key
  · intro H1 locs1 ls1 pc ins st1 hR1 hS1 hdg hret
    rw [Nat.zero_add, Nat.zero_add]
    rcases hret with ⟨rfl, rfl, e3, rfl⟩ | ⟨rfl, x, rfl, rfl, e3⟩ | ⟨rfl, v, rfl, rfl, e3⟩
    · exact W.vret hx hb (hr.trans e3) (fun t ht hW => ⟨rfl, by rw [ht]; exact hR1.moved hW.alike, hS1.F ht⟩) hS1.2.2 hdg
    · rcases e3 with e3 | ⟨e3, e4⟩
      · exact W.iret hx hb (hr.trans e3) (fun t ht hW => ⟨rfl, by rw [ht]; exact hR1.moved hW.alike, hS1.F ht⟩) hS1.2.2 hdg
      · exact W.zret hx hb (hr.trans e3) (by rcases e4 with rfl | rfl <;> rfl) (fun t ht hW => ⟨rfl, by rw [ht]; exact hR1.moved hW.alike, hS1.F ht⟩) hS1.2.2 hdg
    · have hv : va_rf v = .null ∨ ∃ a, va_rf v = .ref a := by
        cases v with
        | none => exact Or.inl rfl
        | some a => exact Or.inr ⟨a, rfl⟩
      rcases e3 with ⟨k, e3⟩ | ⟨k, e3⟩
      · exact W.aret hx hb (hr.trans e3) (Or.inl ⟨_, rfl⟩) hv (fun t ht hW => ⟨rfl, by rw [ht]; exact hR1.moved hW.alike, hS1.F ht⟩) hS1.2.2 hdg
      · exact W.aret hx hb (hr.trans e3) (Or.inr ⟨_, rfl⟩) hv (fun t ht hW => ⟨rfl, by rw [ht]; exact hR1.moved hW.alike, hS1.F ht⟩) hS1.2.2 hdg
