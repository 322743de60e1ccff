/-! ROWS: an instruction of the real machine over a heap that is tied to a small one -/
def Cx (D : va_G) (b g0 g1 : Nat) (p : Program) (R : Room) (s : State) (m : MethodId) (args : Array Value) (meth : Method) (c : Code) (mi : MI) : Prop :=
  p.tables.exec = Jvm.exec ∧ c.code = mC mi ∧ c.maxLocals = mL mi ∧ s.vm.findClass (owN mi) = some m.cls ∧ (∀ w ∈ bw, w.before args s = true) ∧ Kx D b g0 g1 s ∧ b ≤ s.heap.size ∧ mF mi ≤ R.frames ∧ mO mi ≤ R.locals ∧ (mK mi = 1 → meth.name = "<init>")
theorem own_owN (mi : MI) : own (mW mi) = owN mi := rfl
def Put1 (h h' : Hp) (fid a : Nat) : Prop := kd h' = kd h ∧ ln h' = ln h ∧ aI h' = aI h ∧ aR h' = aR h ∧ gc h' = gc h ∧ sz h' = sz h ∧ ∀ f q, ¬ (f = fid ∧ q = a) → fI h' f q = fI h f q ∧ fR h' f q = fR h f q
def PutA (h h' : Hp) (a : Nat) : Prop := kd h' = kd h ∧ ln h' = ln h ∧ fI h' = fI h ∧ fR h' = fR h ∧ gc h' = gc h ∧ sz h' = sz h ∧ ∀ q, q ≠ a → aI h' q = aI h q ∧ aR h' q = aR h q
theorem put1_I (h : Hp) (f a : Nat) (x : Int32) : Put1 h (wfI h f a x) f a := ⟨rfl, rfl, rfl, rfl, rfl, rfl, fun f' q hn => ⟨by show (if f' = f ∧ q = a then _ else _) = _; rw [if_neg hn], rfl⟩⟩
theorem put1_R (h : Hp) (f a : Nat) (x : Option Nat) : Put1 h (wfR h f a x) f a := ⟨rfl, rfl, rfl, rfl, rfl, rfl, fun f' q hn => ⟨rfl, by show (if f' = f ∧ q = a then _ else _) = _; rw [if_neg hn]⟩⟩
theorem putA_I (h : Hp) (a j : Nat) (x : Int32) : PutA h (waI h a j x) a := ⟨rfl, rfl, rfl, rfl, rfl, rfl, fun q hn => ⟨by funext i; show (if q = a ∧ i = j then _ else _) = _; rw [if_neg (fun z => hn z.1)], rfl⟩⟩
theorem putA_R (h : Hp) (a j : Nat) (x : Option Nat) : PutA h (waR h a j x) a := ⟨rfl, rfl, rfl, rfl, rfl, rfl, fun q hn => ⟨rfl, by funext i; show (if q = a ∧ i = j then _ else _) = _; rw [if_neg (fun z => hn z.1)]⟩⟩
theorem putA_c (h : Hp) (a0 sp a dp n : Nat) : PutA h (hcpy h a0 sp a dp n) a := ⟨rfl, rfl, rfl, rfl, rfl, rfl, fun q hn => ⟨rfl, by funext i; show (if q = a ∧ dp ≤ i ∧ i < dp + n then _ else _) = _; rw [if_neg (fun z => hn z.1)]⟩⟩
theorem Rp.obj {D : va_G} {b g0 g1 : Nat} {s : State} {h : Hp} {H : Heap} (r : Rp D b g0 g1 s h H) {a : Nat} (h1 : 1 ≤ kd h a) (h2 : kd h a ≤ 11) : b ≤ a ∧ RpO D h H a := by
  rcases r.2.2.1 a (by omega) with q | q | q | q
  · exact q.2.2
  · omega
  · omega
  · omega
theorem Rp.arr {D : va_G} {b g0 g1 : Nat} {s : State} {h : Hp} {H : Heap} (r : Rp D b g0 g1 s h H) {a : Nat} (h1 : 20 ≤ kd h a) (h2 : kd h a ≤ 27) : b ≤ a ∧ RpA s h H a := by
  rcases r.2.2.1 a (by omega) with q | q | q | q
  · omega
  · exact q.2.2
  · omega
  · omega
theorem Rp.put1 {D : va_G} {b g0 g1 : Nat} {s : State} {h h' : Hp} {H H1 : Heap} {fid a : Nat} (r : Rp D b g0 g1 s h H) (hp : Put1 h h' fid a) (hz : H1.size = H.size) (ho : ∀ q, q ≠ a → H1[q]? = H[q]?) (ha : Rp1 D b s h' H1 a) : Rp D b g0 g1 s h' H1 := by
  obtain ⟨e1, e2, e3, e4, e5, e6, e7⟩ := hp
  refine ⟨by rw [hz, e6]; exact r.1, by rw [e6]; exact r.2.1, fun q hq => ?_, fun q hq j y hy => ?_, by rw [e5]; exact r.2.2.2.2.1, by rw [e5]; exact r.2.2.2.2.2⟩
  · by_cases hqa : q = a
    · subst hqa
      exact ha
    · rw [e1] at hq
      exact (r.2.2.1 q hq).kept (ho q hqa) (by rw [e1]) (by rw [e2]) (fun f => (e7 f q (fun z => hqa z.2)).1) (fun f => (e7 f q (fun z => hqa z.2)).2) (by rw [e3]) (by rw [e4])
  · rw [e1] at hq ⊢
    rw [e4] at hy
    exact r.2.2.2.1 q hq j y hy
theorem Rp.putA {D : va_G} {b g0 g1 : Nat} {s : State} {h h' : Hp} {H H1 : Heap} {a : Nat} (r : Rp D b g0 g1 s h H) (hp : PutA h h' a) (hz : H1.size = H.size) (ho : ∀ q, q ≠ a → H1[q]? = H[q]?) (ha : Rp1 D b s h' H1 a) (h22 : kd h a = 22 → ∀ j y, aR h' a j = some y → kd h y = 4 ∨ kd h y = 5) : Rp D b g0 g1 s h' H1 := by
  obtain ⟨e1, e2, e3, e4, e5, e6, e7⟩ := hp
  refine ⟨by rw [hz, e6]; exact r.1, by rw [e6]; exact r.2.1, fun q hq => ?_, fun q hq j y hy => ?_, by rw [e5]; exact r.2.2.2.2.1, by rw [e5]; exact r.2.2.2.2.2⟩
  · by_cases hqa : q = a
    · subst hqa
      exact ha
    · rw [e1] at hq
      exact (r.2.2.1 q hq).kept (ho q hqa) (by rw [e1]) (by rw [e2]) (fun f => by rw [e3]) (fun f => by rw [e4]) (e7 q hqa).1 (e7 q hqa).2
  · rw [e1] at hq ⊢
    by_cases hqa : q = a
    · subst hqa
      exact h22 hq j y hy
    · rw [(e7 q hqa).2] at hy
      exact r.2.2.2.1 q hq j y hy
/-- a new cell -/
theorem Rp.new {D : va_G} {b g0 g1 : Nat} {s : State} {h h' : Hp} {H H1 : Heap} (r : Rp D b g0 g1 s h H) (hz : H1.size = H.size + 1) (ho : ∀ q, q < H.size → H1[q]? = H[q]?) (e0 : sz h' = sz h + 1) (e5 : gc h' = gc h) (e1 : ∀ q, q ≠ sz h → kd h' q = kd h q ∧ ln h' q = ln h q ∧ (∀ f, fI h' f q = fI h f q) ∧ (∀ f, fR h' f q = fR h f q) ∧ aI h' q = aI h q ∧ aR h' q = aR h q) (ha : Rp1 D b s h' H1 (sz h)) (h22 : ∀ j, aR h' (sz h) j = none) : Rp D b g0 g1 s h' H1 := by
  have hlt : ∀ q, kd h q ≠ 0 → q < sz h := fun q hq => by rw [← r.1]; exact (r.2.2.1 q hq).lt
  refine ⟨by rw [hz, e0, r.1], by rw [e0]; have := r.2.1; omega, fun q hq => ?_, fun q hq j y hy => ?_, by rw [e5]; exact r.2.2.2.2.1, by rw [e5]; exact r.2.2.2.2.2⟩
  · by_cases hqa : q = sz h
    · subst hqa
      exact ha
    · obtain ⟨f1, f2, f3, f4, f5, f6⟩ := e1 q hqa
      rw [f1] at hq
      exact (r.2.2.1 q hq).kept (ho q (by rw [r.1]; exact hlt q hq)) f1 f2 f3 f4 f5 f6
  · by_cases hqa : q = sz h
    · subst hqa
      rw [h22] at hy
      cases hy
    · obtain ⟨f1, f2, f3, f4, f5, f6⟩ := e1 q hqa
      rw [f1] at hq
      rw [f6] at hy
      have h1 := r.2.2.2.1 q hq j y hy
      rw [(e1 y (fun z => by have := hlt y (by omega); omega)).1]
      exact h1
section ROWS
variable {p : Program} {l : Launch} {e : Env} {R : Room} {s : State} {m : MethodId} {args : Array Value} {below : List Frame} {meth : Method} {c : Code} {H : Heap} {locs : List Loc} {cells slots : Nat} {Q : State → Prop}
variable {pc : Nat} {ls : Array Slot} {rest : List Value} {D : va_G} {b g0 g1 : Nat} {mi : MI} {h : Hp} {a : Nat}
theorem sr_get (C : Cx D b g0 g1 p R s m args meth c mi) (hR : Rp D b g0 g1 s h H) {i kf fid : Nat} (hF : (mW mi, i, kf, fid) ∈ tF) (hk : kd h a = kf) (hdg : decode (mC mi) pc = .ok (.getfield i, 3))
    (kk : W p l e R s m args below meth c H locs cells slots Q (F0 m (pc + 3) ls (vO h (kf - 1) (fid - 32 * (kf - 1)) a :: rest))) : W p l e R s m args below meth c H locs cells slots Q (F0 m pc ls (.ref a :: rest)) := by
  obtain ⟨hx, hb, hml, hown, hts, ⟨hK, -⟩, -⟩ := C
  obtain ⟨q, ref, q1, q2, q3, q4, q5, q6⟩ := tF_get hF
  obtain ⟨w1, w2, w3, w4, w5⟩ := wc_facts q1
  have h11 := wc_lt q1
  obtain ⟨-, r, r1, cell, r2, r3, r4, r5⟩ := hR.obj (a := a) (by omega) (by omega)
  rw [hk] at r1 r3 r5
  cases q1.symm.trans r1
  obtain ⟨hS, hfc, kC, hkC, hkind⟩ := hK.1 _ _ q1
  obtain ⟨cf, kf', fi, f, hi, hsl⟩ := hS _ q4
  have hsame : ∀ x, s.fieldFound? (q.2.1 (fid - 32 * (kf - 1))).1 (q.2.1 (fid - 32 * (kf - 1))).2.1 (q.2.1 (fid - 32 * (kf - 1))).2.2.1 = some x → s.fieldFound? ref (q.2.1 (fid - 32 * (kf - 1))).2.1 (q.2.1 (fid - 32 * (kf - 1))).2.2.1 = some x := by
    rcases q6 with q6 | q6
    · rw [q6]
      exact fun x hx => hx
    · exact u_same (hts _ q6)
  refine W.getf hx hb hown (hts _ q5) (hsame _ hi) (u_facts hfc hkC (u_lays hts w1 q4) hi).1 r2 (by rw [r4]; exact fun z => by cases z) (v := vO h (kf - 1) (fid - 32 * (kf - 1)) a) ?_ rfl rfl hdg kk
  rw [hsl, r5 _ q4]
theorem sr_put (C : Cx D b g0 g1 p R s m args meth c mi) (hR : Rp D b g0 g1 s h H) (hS0 : va_S (fun q => b ≤ q) s.heap H locs) {i kf fid : Nat} (hF : (mW mi, i, kf, fid) ∈ tF) (hk : kd h a = kf) (hckP : ckP mi kf fid = true) (hdg : decode (mC mi) pc = .ok (.putfield i, 3)) {v : Value} {h' : Hp} (hp : Put1 h h' fid a) (hv : vO h' (kf - 1) (fid - 32 * (kf - 1)) a = v)
    (hn : narrow (wty (kf - 1) (fid - 32 * (kf - 1))) v = v) (hfit : fits (wty (kf - 1) (fid - 32 * (kf - 1))) v = true)
    (kk : ∀ (H1 : Heap) (locs1 : List Loc), Rp D b g0 g1 s h' H1 → va_S (fun q => b ≤ q) s.heap H1 locs1 → W p l e R s m args below meth c H1 locs1 cells slots Q (F0 m (pc + 3) ls rest)) : W p l e R s m args below meth c H locs cells slots Q (F0 m pc ls (v :: .ref a :: rest)) := by
  obtain ⟨hx, hb, hml, hown, hts, ⟨hK, -⟩, -, -, -, hini⟩ := C
  obtain ⟨q, ref, q1, q2, q3, q4, q5, q6⟩ := tF_get hF
  obtain ⟨w1, w2, w3, w4, w5⟩ := wc_facts q1
  have h11 := wc_lt q1
  obtain ⟨hba, r, r1, cell, r2, r3, r4, r5⟩ := hR.obj (a := a) (by omega) (by omega)
  rw [hk] at r1 r3 r5
  cases q1.symm.trans r1
  have hap := va_apart (own := "") hts w1 (wty (kf - 1)) (fun k hk => (w2 k hk).1) w3 hK q1
  obtain ⟨hS, hfc, kC, hkC, hkind⟩ := hK.1 _ _ q1
  obtain ⟨cf, kf', fi, f, hi, hsl⟩ := hS _ q4
  have hsame : ∀ x, s.fieldFound? (q.2.1 (fid - 32 * (kf - 1))).1 (q.2.1 (fid - 32 * (kf - 1))).2.1 (q.2.1 (fid - 32 * (kf - 1))).2.2.1 = some x → s.fieldFound? ref (q.2.1 (fid - 32 * (kf - 1))).2.1 (q.2.1 (fid - 32 * (kf - 1))).2.2.1 = some x := by
    rcases q6 with q6 | q6
    · rw [q6]
      exact fun x hx => hx
    · exact u_same (hts _ q6)
  have hst := (u_facts hfc hkC (u_lays hts w1 q4) hi).1
  have hlay := hts _ (w1 _ (u_in_lay q4))
  have hfin : ∀ (H1 : Heap), H1[a]? = some (cell.setSlot f.slot v) → H1.size = H.size → (∀ z, z ≠ a → H1[z]? = H[z]?) → Rp D b g0 g1 s h' H1 := by
    intro H1 e1 e2 e3
    refine hR.put1 hp e2 e3 (Or.inl ⟨by rw [hp.1]; omega, by rw [hp.1]; omega, hba, q, by rw [hp.1, hk]; exact q1, ?_⟩)
    rw [hp.1, hk]
    rw [hsl] at e1
    refine t_OB.to (V := updV (fun k => vO h (kf - 1) k a) (fid - 32 * (kf - 1)) v) ⟨_, e1, r3, r4, t_set r5 hap q4 v⟩ (fun j hj => ?_)
    by_cases hjk : j = fid - 32 * (kf - 1)
    · subst hjk
      rw [hv]
      simp [updV]
    · have hne : ¬ (32 * (kf - 1) + j = fid ∧ a = a) := fun z => hjk (by omega)
      simp only [updV, if_neg hjk, vO, (hp.2.2.2.2.2.2 _ _ hne).1, (hp.2.2.2.2.2.2 _ _ hne).2]
  unfold u_lay at hlay
  cases hfl : (q.2.1 (fid - 32 * (kf - 1))).2.2.2 with
  | false =>
    rw [if_neg (by rw [hfl]; decide)] at hlay
    have h6 := u_store hfc hkC hkind hlay hi (w2 _ q4).1 hn hfit
    refine W.putK hx hb (f := f) ⟨hown, hts _ q5, ⟨_, _, _, hsame _ hi⟩, hst⟩ (by rw [r3]; exact h6) r2 r4 (by rw [hsl]; exact k2_hasslot (r5 _ q4)) rfl rfl hdg fun H' e1 e2 e3 => ?_
    exact kk H' _ (hfin H' e1 e2 e3) (hS0.put e2 e3 hba)
  | true =>
    rw [if_pos hfl] at hlay
    unfold ckP at hckP
    rw [q1] at hckP
    dsimp only at hckP
    rw [hfl] at hckP
    simp only [Bool.and_eq_true, decide_eq_true_eq] at hckP
    have hcf : m.cls = cf := by
      obtain ⟨_, _, c', _, _, _, -, -, hf', -, -, -, hown2, -⟩ := Cond.laysFinal_spec hlay
      have e1 : c' = cf := by have := hi.symm.trans hf'; simp at this; exact this.1.symm
      rw [hckP.2] at hown2
      rw [← e1]; exact Option.some.inj (hown.symm.trans hown2)
    have h6 := u_fits hfc hkC hkind (Or.inr hlay) hi (w2 _ q4).1 hn hfit
    refine W.putFinK hx hb hown (hts _ q5) (hsame _ hi) hst hcf (hini (Nat.eq_of_beq_eq_true hckP.1)) (by rw [r3]; exact h6) r2 r4 (by rw [hsl]; exact k2_hasslot (r5 _ q4)) rfl rfl hdg fun H' e1 e2 e3 => ?_
    exact kk H' _ (hfin H' e1 e2 e3) (hS0.put e2 e3 hba)
end ROWS
