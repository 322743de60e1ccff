/-! THE TIE of the small machine's heap to the real one -/
def vO (h : Hp) (c k a : Nat) : Value := if cty c k = 1 then va_rf (fR h (32 * c + k) a) else .int (fI h (32 * c + k) a)
def vA (h : Hp) (a j : Nat) : Value := if kd h a < 22 then .int (aI h a j) else va_rf (aR h a j)
def aty (k : Nat) : FieldType := if k = 20 then .int else if k = 21 then .boolean else .object (anm k)
def RpO (D : va_G) (h : Hp) (H : Heap) (a : Nat) : Prop := ∃ r : vw_C, wc[kd h a - 1]? = some r ∧ t_OB a (D.1 (kd h a - 1)) r.2.2 (D.2 (kd h a - 1)) H (fun k => vO h (kd h a - 1) k a)
def RpA (s : State) (h : Hp) (H : Heap) (a : Nat) : Prop := ∃ cA : ClassId, H[a]? = some (arrV cA (ln h a) (vA h a)) ∧ ArrOfT s cA (aty (kd h a)) ∧ va_RA s cA (aty (kd h a))
def RpS (s : State) (h : Hp) (H : Heap) (a : Nat) : Prop := ∃ c : Cell, H[a]? = some c ∧ s.isArrayOf c .int ∧ c.vm ≠ .unknown ∧ c.slots.size = ln h a ∧ ∀ j : Nat, j < ln h a → c.slots[j]? = some (.int (aI h a j))
def RpE (s : State) (h : Hp) (H : Heap) (a : Nat) : Prop := ∃ c : Cell, H[a]? = some c ∧ s.isArrayOf c (.object "java/lang/Object") ∧ c.vm ≠ .unknown ∧ c.slots.size.toInt32 = nI (ln h a)
def Rp1 (D : va_G) (b : Nat) (s : State) (h : Hp) (H : Heap) (a : Nat) : Prop := (1 ≤ kd h a ∧ kd h a ≤ 11 ∧ b ≤ a ∧ RpO D h H a) ∨ (20 ≤ kd h a ∧ kd h a ≤ 27 ∧ b ≤ a ∧ RpA s h H a) ∨ (kd h a = 41 ∧ a < b ∧ RpS s h H a) ∨ (kd h a = 42 ∧ a < b ∧ RpE s h H a)
def Rp (D : va_G) (b g0 g1 : Nat) (s : State) (h : Hp) (H : Heap) : Prop := H.size = sz h ∧ b ≤ sz h ∧ (∀ a, kd h a ≠ 0 → Rp1 D b s h H a) ∧ (∀ a, kd h a = 22 → ∀ j y, aR h a j = some y → kd h y = 4 ∨ kd h y = 5) ∧ gc h 0 = g0 ∧ gc h 1 = g1
theorem Rp1.moved {D : va_G} {b : Nat} {s U : State} {h : Hp} {H : Heap} {a : Nat} (hvm : s.vm.Alike U.vm) (r : Rp1 D b s h H a) : Rp1 D b U h H a := by
  rcases r with r | ⟨r1, r2, r3, cA, r4, r5, r6⟩ | ⟨r1, r2, c, r3, r4, r5⟩ | ⟨r1, r2, c, r3, r4, r5⟩
  · exact Or.inl r
  · exact Or.inr (Or.inl ⟨r1, r2, r3, cA, r4, arrOfT_moved hvm r5, r6.moved hvm⟩)
  · exact Or.inr (Or.inr (Or.inl ⟨r1, r2, c, r3, State.isArrayOf_alike hvm r4, r5⟩))
  · exact Or.inr (Or.inr (Or.inr ⟨r1, r2, c, r3, State.isArrayOf_alike hvm r4, r5⟩))
theorem Rp.moved {D : va_G} {b g0 g1 : Nat} {s U : State} {h : Hp} {H : Heap} (hvm : s.vm.Alike U.vm) (r : Rp D b g0 g1 s h H) : Rp D b g0 g1 U h H := ⟨r.1, r.2.1, fun a ha => (r.2.2.1 a ha).moved hvm, r.2.2.2⟩
theorem Rp1.lt {D : va_G} {b : Nat} {s : State} {h : Hp} {H : Heap} {a : Nat} (r : Rp1 D b s h H a) : a < H.size := by
  rcases r with ⟨-, -, -, r, -, cell, h2, -⟩ | ⟨-, -, -, cA, r4, -⟩ | ⟨-, -, c, r3, -⟩ | ⟨-, -, c, r3, -⟩
  · exact (Array.getElem?_eq_some_iff.mp h2).1
  · exact (Array.getElem?_eq_some_iff.mp r4).1
  · exact (Array.getElem?_eq_some_iff.mp r3).1
  · exact (Array.getElem?_eq_some_iff.mp r3).1
/-- a cell that is not touched, and of which the small heap says the same -/
theorem Rp1.kept {D : va_G} {b : Nat} {s : State} {h h1 : Hp} {H H1 : Heap} {a : Nat} (r : Rp1 D b s h H a) (hH : H1[a]? = H[a]?) (e1 : kd h1 a = kd h a) (e2 : ln h1 a = ln h a) (e3 : ∀ f, fI h1 f a = fI h f a) (e4 : ∀ f, fR h1 f a = fR h f a) (e5 : aI h1 a = aI h a) (e6 : aR h1 a = aR h a) : Rp1 D b s h1 H1 a := by
  have eV : vA h1 a = vA h a := by
    funext j
    simp only [vA, e1, e5, e6]
  have eO : ∀ c k, vO h1 c k a = vO h c k a := by
    intro c k
    simp only [vO, e3, e4]
  rcases r with ⟨r1, r2, r3, q, h1', h2⟩ | ⟨r1, r2, r3, cA, r4, r5, r6⟩ | ⟨r1, r2, c, r3, r4, r5, r6, r7⟩ | ⟨r1, r2, c, r3, r4, r5⟩
  · refine Or.inl ⟨by rw [e1]; exact r1, by rw [e1]; exact r2, r3, q, by rw [e1]; exact h1', ?_⟩
    rw [e1]
    exact (h2.kept hH).to (fun k _ => (eO _ k).symm)
  · exact Or.inr (Or.inl ⟨by rw [e1]; exact r1, by rw [e1]; exact r2, r3, cA, by rw [hH, e2, eV]; exact r4, by rw [e1]; exact r5, by rw [e1]; exact r6⟩)
  · exact Or.inr (Or.inr (Or.inl ⟨by rw [e1]; exact r1, r2, c, hH.trans r3, r4, r5, by rw [e2]; exact r6, fun j hj => by rw [e5]; exact r7 j (by rw [e2] at hj; exact hj)⟩))
  · exact Or.inr (Or.inr (Or.inr ⟨by rw [e1]; exact r1, r2, c, hH.trans r3, r4, by rw [e2]; exact r5⟩))
def isSp (w : Cond) : Bool := match w with
  | .castable .. => true
  | .methodLinkNest .. => true
  | .declares _ => true
  | .arrayOver (.object _) => true
  | _ => false
def Sp (s : State) : Prop := ∀ w ∈ lw_tbl, isSp w = true → va_Nw w s
/-- what a method's start knows of the tables -/
def Kx (D : va_G) (b g0 g1 : Nat) (s : State) : Prop := va_K D wc [] s ∧ Sp s ∧ va_Z "java/util/ArrayList" "DEFAULTCAPACITY_EMPTY_ELEMENTDATA" "[Ljava/lang/Object;" (.ref g0) (fun q => b ≤ q) s s.heap ∧ va_Mi "[Ljava/lang/Object;" g1 s
theorem Sp.warm {s U : State} (hW : s.WarmedH U.vm) (h : Sp s) : Sp U := by
  intro w hw hs
  have h1 := h w hw hs
  cases w <;> first | exact va_Nw.warmC hW h1 | exact va_Nw.warmM hW h1 | exact va_Nw.warmD hW h1 | (rename_i t; cases t <;> first | exact va_AO.moved hW.alike h1 | (simp [isSp] at hs; done) | skip) | (simp [isSp] at hs; done)
