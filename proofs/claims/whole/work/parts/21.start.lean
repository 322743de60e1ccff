def R_law : String := "ReplicaStoreLaw"
def lw_P (b : Addr) (xs : List Int32) (args : Array Value) (s : State) : Prop := args = #[.ref b] ∧ s.IntsAt b xs ∧ xs.length ≤ 2560 ∧ (Jvm.Cond.and given_1 narrow_1).before args s = true
def lw_Q (_ : Array Value) (s : State) (o : Outcome) (t : State) : Prop := o = .returned (some (.int 1)) ∧ Framed s o t [] 600000 7302250
def lw_Z (below : List Frame) (a : Array Value) (s : State) : State → Prop := fun t => ∃ o, t.status = .running ∧ Ended t below o ∧ lw_Q a s o t
/-- the law's own end, with 1 on the stack, nothing written that was there before, its room as the claim has it -/
theorem lw_ret {p : Program} {l : Launch} {e : Env} {s : State} {m : MethodId} {below : List Frame} {meth : Method} {c : Code} {b : Nat} (hx : p.tables.exec = Jvm.exec) (hb : c.code = code) (hr : meth.sig.returnType = ret) (hlocks : meth.locks = false) {pc : Nat} {H : Heap} {ls : Array Slot} (hdg : decode code pc = .ok (.ireturn, 1)) : W p l e room_1 s m #[Value.ref b] below meth c H [] 600000 7302250 (lw_Z below #[Value.ref b] s) (F0 m pc ls [.int 1]) := by
  intro T hT X
  obtain ⟨fs, hret, hrun, hended, hW, hframe⟩ := X.leave (v := some (.int 1)) (hlocks := hlocks) (fun h => by rw [hr] at h; cases h)
  have hmeth' : T.vm.method? m = some meth := X.method'
  refine ⟨T.setFrames fs, ?_, .returned (some (.int 1)), hrun, hended, rfl, ⟨_, rfl⟩, hW, hframe⟩
  jvm_step X.here [X.here.top, hx, hb, hdg, hmeth', hr, ret, narrow_b1]
  (try refine ⟨rfl, ?_⟩); (try refine ⟨rfl, ?_⟩)
  first | (intro acts; rw [hret _ acts rfl rfl rfl]) | rw [hret _ _ rfl rfl rfl]
  exact Steps.refl _
/-- what holds at the law's entry -/
def lw_At (p : Program) (s : State) (m : MethodId) (meth : Method) (c : Code) (b L : Nat) (xs : Nat → Int32) : Prop :=
  p.tables.exec = Jvm.exec ∧ c.code = code ∧ meth.sig.returnType = ret ∧ c.maxLocals = 4 ∧ s.vm.findClass R_law = some m.cls ∧ (∀ w ∈ lw_tbl, w.before #[Value.ref b] s = true) ∧ va_X b L xs s s.heap ∧ b < s.heap.size ∧ meth.locks = false ∧ (Jvm.Cond.and given_1 narrow_1).before #[Value.ref b] s = true
/-- the small heap at the law's start: the script at bs, the empty array at e0, nothing else -/
def h_start (bs e0 mi L n : Nat) (xs : Nat → Int32) : Hp := ((fun a => if a = bs then 41 else if a = e0 then 42 else 0), (fun a => if a = bs then L else 0), (fun _ _ => 0), (fun _ _ => none), (fun a j => if a = bs then xs j else 0), (fun _ _ => none), (fun k => if k = 0 then e0 else mi), n, 0)
/-- what is to be shown of the small machine alone -/
def LawPure : Prop := ∀ (bs e0 mi L sz0 : Nat) (xs : Nat → Int32), bs < sz0 → e0 < sz0 → bs ≠ e0 → L ≤ 2560 → ∃ (n : Nat) (h' : Hp), sm_run MT n M_L_law k_L_law_0 [some (.ref bs), none, none, none] [] (h_start bs e0 mi L sz0 xs) = some (some (.int 1), h') ∧ sz h' - sz0 ≤ 600000 ∧ sl h' ≤ 7302250
theorem whole_of (hP : LawPure) (hLaw : OkC M_L_law k_L_law_0) {p : Program} {e : Env} {s : State} {m : MethodId} {below : List Frame} {meth : Method} {c : Code} (l : Launch) {b L : Nat} {xs : Nat → Int32} (hL : L ≤ 2560) (C0 : lw_At p s m meth c b L xs) : W p l e room_1 s m #[Value.ref b] below meth c s.heap [] 0 0 (lw_Z below #[Value.ref b] s) (entryFrame m ([Value.ref b] : List Value).toArray 4) := by
  obtain ⟨hx, hb, hr, hml, hown, hts, hX, hbl, hlocks, hgv⟩ := id C0
  have hfl := flat_of_before _ hgv
  have hA : ∀ a : Nat, a < s.heap.size → ¬ (fun q : Nat => s.heap.size ≤ q) a := fun a h => Nat.not_le.mpr h
  obtain ⟨e0, he0, hT⟩ := va_Tof (N := 0) (f := fun _ => .null) (A := fun q : Nat => s.heap.size ≤ q) (by decide) (hfl (Cond.arrayOf (.static "java/util/ArrayList" "DEFAULTCAPACITY_EMPTY_ELEMENTDATA" "[Ljava/lang/Object;") (.object "java/lang/Object")) (by decide +kernel)) (va_eqt (hfl (Cond.eq (.length (.static "java/util/ArrayList" "DEFAULTCAPACITY_EMPTY_ELEMENTDATA" "[Ljava/lang/Object;")) (.int 0)) (by decide +kernel))) (fun j hj => absurd hj (Nat.not_lt_zero j)) hA
  obtain ⟨cellE, t1, t2, t3, -, t5, -, t7⟩ := hT
  have hZ := va_Zof (A := fun q : Nat => s.heap.size ≤ q) (hts _ w_lS) (hts (.initialized "java/util/ArrayList") (by decide +kernel)) he0 hA
  obtain ⟨mi, hM⟩ := va_Mi.of (hfl (Cond.isRef (.mirror "[Ljava/lang/Object;")) (by decide +kernel))
  obtain ⟨scr, x1, x2, x3, x4, x5⟩ := hX
  have hne : b ≠ e0 := by
    intro z
    subst z
    cases t1.symm.trans x1
    obtain ⟨-, k1, hk1, c1, hkk1⟩ := x2
    obtain ⟨-, k2, hk2, c2, hkk2⟩ := t2
    cases hk1.symm.trans hk2
    rw [hkk1] at hkk2
    cases hkk2
  have he0l : e0 < s.heap.size := (Array.getElem?_eq_some_iff.mp t1).1
  have hKnown : ∃ (dC : Nat → ClassId) (dI : Nat → Nat → Nat), ∀ (k : Nat) (q : vw_C), wc[k]? = some q → u_Kn s q.1 q.2.1 q.2.2 (dC k) (dI k) := by
    have h1 : ∀ k : Nat, ∃ (q : ClassId × (Nat → Nat)), ∀ (z : vw_C), wc[k]? = some z → u_Kn s z.1 z.2.1 z.2.2 q.1 q.2 := by
      intro k
      cases hz : wc[k]? with
      | none => exact ⟨(0, fun _ => 0), fun z h => by cases h⟩
      | some z =>
        obtain ⟨w1, -, -, w4, -⟩ := wc_facts hz
        obtain ⟨cC, iS, hk⟩ := u_known (C := z.1) (T := z.2.1) (N := z.2.2) (n := z.2.2) hts (fun w hw => bw_in (w1 w hw)) (hts _ (bw_in w4))
        exact ⟨(cC, iS), fun z' h => by cases h; exact hk⟩
    exact ⟨fun k => (Classical.choose (h1 k)).1, fun k => (Classical.choose (h1 k)).2, fun k q hq => Classical.choose_spec (h1 k) q hq⟩
  obtain ⟨dC, dI, hKn⟩ := hKnown
  have hKx : Kx (dC, dI) s.heap.size e0 mi s := ⟨⟨hKn, fun k q h => by simp at h⟩, fun w hw hs => by
      have hw1 := hts w hw
      cases w <;> first | (simp [isSp] at hs; done) | exact va_Nw.of rfl hw1 | exact va_AO.of hw1 | (rename_i t; cases t <;> first | exact va_AO.of hw1 | (simp [isSp] at hs; done)), hZ, hM⟩
  obtain ⟨n, h', hrun, hsz', hsl'⟩ := hP b e0 mi L s.heap.size xs hbl he0l hne hL
  have hR : Rp (dC, dI) s.heap.size e0 mi s (h_start b e0 mi L s.heap.size xs) s.heap := by
    refine ⟨rfl, Nat.le_refl _, fun a ha => ?_, fun a ha => ?_, rfl, rfl⟩
    · by_cases h1 : a = b
      · subst h1
        refine Or.inr (Or.inr (Or.inl ⟨if_pos rfl, hbl, scr, x1, x2, x3, ?_, fun j hj => ?_⟩))
        · rw [x4]
          exact (if_pos rfl).symm
        · have h2 : ln (h_start a e0 mi L s.heap.size xs) a = L := if_pos rfl
          rw [h2] at hj
          rw [x5 j hj]
          congr 2
          exact (if_pos rfl).symm
      · by_cases h2 : a = e0
        · subst h2
          refine Or.inr (Or.inr (Or.inr ⟨?_, he0l, cellE, t1, t2, t3, ?_⟩))
          · show (if a = b then 41 else if a = a then 42 else 0) = 42
            rw [if_neg h1, if_pos rfl]
          · have h3 : ln (h_start b a mi L s.heap.size xs) a = 0 := if_neg h1
            rw [h3]
            exact t5
        · exact absurd (show (if a = b then 41 else if a = e0 then 42 else 0) = 0 by rw [if_neg h1, if_neg h2]) ha
    · have ha : (if a = b then 41 else if a = e0 then 42 else 0) = 22 := ha
      split at ha
      · cases ha
      · split at ha
        · cases ha
        · cases ha
  have hcat : ∀ v ∈ ([Value.ref b] : List Value), v.category = 1 := by
    intro v hv
    simp at hv
    rw [hv]
    rfl
  rw [entry_eq m [Value.ref b] hcat 4]
  obtain ⟨hLr, hLl⟩ := l0_LRp (m := M_L_law) (As := [Value.ref b]) hcat (show 1 ≤ 4 by decide)
  have Cc : Cx (dC, dI) s.heap.size e0 mi p room_1 s m #[Value.ref b] meth c M_L_law := ⟨hx, hb, hml, hown, fun w hw => hts w (bw_in hw), hKx, Nat.le_refl _, by decide, by decide, fun h => by cases h⟩
  have hsl0 : sl (h_start b e0 mi L s.heap.size xs) = 0 := rfl
  have hsz0 : sz (h_start b e0 mi L s.heap.size xs) = s.heap.size := rfl
  refine sm_sound (l := l) (D := (dC, dI)) (b := s.heap.size) (g0 := e0) (g1 := mi) ck_good n M_L_law k_L_law_0 [some (.ref b), none, none, none] [] _ _ h' hrun hLaw hLaw p e room_1 s m #[Value.ref b] below meth c s.heap [] 0 0 _ _ Cc hR hLr hLl (fun v hv => by cases hv) va_S.rf (by rw [hsz0]; show 0 + _ ≤ 600000; omega) (by rw [hsl0]; show 0 + _ ≤ 7302250; omega) ?_
  intro H1 locs1 ls1 pc ins st1 hR1 hS1 hdg hret
  rcases hret with ⟨rfl, rfl, e3, e4⟩ | ⟨rfl, x, rfl, e4, e3⟩ | ⟨rfl, v, rfl, e4, e3⟩
  · cases e4
  · cases e4
    refine va_forget (fun q hq => hS1.2.2 q hq) ?_
    refine W.widen (k := 600000) (n := 7302250) (by rw [hsz0]; omega) (by rw [hsl0]; omega) ?_
    exact lw_ret hx hb hr hlocks hdg
  · cases v <;> cases e4
