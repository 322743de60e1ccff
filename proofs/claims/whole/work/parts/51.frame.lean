/-! frames: every address has an owner; only what the owners in S hold, and of it only what may change, was changed -/
def muF (f : Nat) : Prop := f = 65 ∨ f = 66 ∨ f = 168 ∨ f = 169 ∨ f = 309 ∨ f = 320 ∨ f = 321 ∨ f = 322
def Fz (S : Nat → Prop) (ow : Nat → Nat) (h h' : Hp) : Prop := sz h ≤ sz h' ∧ gc h' = gc h ∧ ∀ q, q < sz h → kd h' q = kd h q ∧ ln h' q = ln h q ∧ (∀ f, ¬ muF f → fI h' f q = fI h f q ∧ fR h' f q = fR h f q) ∧ (¬ S (ow q) → (∀ f, fI h' f q = fI h f q ∧ fR h' f q = fR h f q) ∧ aI h' q = aI h q ∧ aR h' q = aR h q)
/-- two owners' rows that say the same below n -/
def Og (n : Nat) (ow ow' : Nat → Nat) : Prop := ∀ q, q < n → ow' q = ow q
theorem Og.rf {n : Nat} {ow : Nat → Nat} : Og n ow ow := fun _ _ => rfl
theorem Og.tr {n n1 : Nat} {ow ow1 ow2 : Nat → Nat} (a : Og n ow ow1) (b : Og n1 ow1 ow2) (h : n ≤ n1) : Og n ow ow2 := fun q hq => (b q (by omega)).trans (a q hq)
theorem Fz.rf {S : Nat → Prop} {ow : Nat → Nat} {h : Hp} : Fz S ow h h := ⟨Nat.le_refl _, rfl, fun _ _ => ⟨rfl, rfl, fun _ _ => ⟨rfl, rfl⟩, fun _ => ⟨fun _ => ⟨rfl, rfl⟩, rfl, rfl⟩⟩⟩
theorem Fz.tr {S : Nat → Prop} {ow ow1 : Nat → Nat} {h h1 h2 : Hp} (a : Fz S ow h h1) (o : Og (sz h) ow ow1) (b : Fz S ow1 h1 h2) : Fz S ow h h2 := by
  obtain ⟨a1, a2, a3⟩ := a
  obtain ⟨b1, b2, b3⟩ := b
  refine ⟨by omega, b2.trans a2, fun q hq => ?_⟩
  obtain ⟨c1, c2, c3, c4⟩ := a3 q hq
  obtain ⟨d1, d2, d3, d4⟩ := b3 q (by omega)
  rw [o q hq] at d4
  refine ⟨d1.trans c1, d2.trans c2, fun f hf => ⟨(d3 f hf).1.trans (c3 f hf).1, (d3 f hf).2.trans (c3 f hf).2⟩, fun hs => ?_⟩
  obtain ⟨e1, e2, e3⟩ := c4 hs
  obtain ⟨f1, f2, f3⟩ := d4 hs
  exact ⟨fun f => ⟨(f1 f).1.trans (e1 f).1, (f1 f).2.trans (e1 f).2⟩, f2.trans e2, f3.trans e3⟩
theorem Fz.tr' {S : Nat → Prop} {ow : Nat → Nat} {h h1 h2 : Hp} (a : Fz S ow h h1) (b : Fz S ow h1 h2) : Fz S ow h h2 := a.tr Og.rf b
theorem Fz.mo {S T : Nat → Prop} {ow : Nat → Nat} {h h1 : Hp} (a : Fz S ow h h1) (hs : ∀ q, S q → T q) : Fz T ow h h1 := ⟨a.1, a.2.1, fun q hq => ⟨(a.2.2 q hq).1, (a.2.2 q hq).2.1, (a.2.2 q hq).2.2.1, fun hn => (a.2.2 q hq).2.2.2 (fun z => hn (hs _ z))⟩⟩
theorem Fz.og {S : Nat → Prop} {ow ow1 : Nat → Nat} {h h1 : Hp} (a : Fz S ow h h1) (o : Og (sz h) ow ow1) : Fz S ow1 h h1 := ⟨a.1, a.2.1, fun q hq => ⟨(a.2.2 q hq).1, (a.2.2 q hq).2.1, (a.2.2 q hq).2.2.1, fun hn => (a.2.2 q hq).2.2.2 (by rw [o q hq] at hn; exact hn)⟩⟩
theorem Fz.wfI {S : Nat → Prop} {ow : Nat → Nat} {h h1 : Hp} {f x : Nat} {v : Int32} (a : Fz S ow h h1) (hx : x < sz h → muF f ∧ S (ow x)) : Fz S ow h (wfI h1 f x v) := by
  refine ⟨by rw [sz_wfI]; exact a.1, by rw [gc_wfI]; exact a.2.1, fun q hq => ?_⟩
  obtain ⟨c1, c2, c3, c4⟩ := a.2.2 q hq
  refine ⟨by rw [kd_wfI]; exact c1, by rw [ln_wfI]; exact c2, fun y hy => ⟨?_, by rw [fR_wfI]; exact (c3 y hy).2⟩, fun hs => ⟨fun y => ⟨?_, by rw [fR_wfI]; exact ((c4 hs).1 y).2⟩, by rw [aI_wfI]; exact (c4 hs).2.1, by rw [aR_wfI]; exact (c4 hs).2.2⟩⟩
  · rw [fI_wfI, if_neg]
    · exact (c3 y hy).1
    · rintro ⟨rfl, rfl⟩; exact hy (hx hq).1
  · rw [fI_wfI, if_neg]
    · exact ((c4 hs).1 y).1
    · rintro ⟨rfl, rfl⟩; exact hs (hx hq).2
theorem Fz.wfR {S : Nat → Prop} {ow : Nat → Nat} {h h1 : Hp} {f x : Nat} {v : Option Nat} (a : Fz S ow h h1) (hx : x < sz h → muF f ∧ S (ow x)) : Fz S ow h (wfR h1 f x v) := by
  refine ⟨by rw [sz_wfR]; exact a.1, by rw [gc_wfR]; exact a.2.1, fun q hq => ?_⟩
  obtain ⟨c1, c2, c3, c4⟩ := a.2.2 q hq
  refine ⟨by rw [kd_wfR]; exact c1, by rw [ln_wfR]; exact c2, fun y hy => ⟨by rw [fI_wfR]; exact (c3 y hy).1, ?_⟩, fun hs => ⟨fun y => ⟨by rw [fI_wfR]; exact ((c4 hs).1 y).1, ?_⟩, by rw [aI_wfR]; exact (c4 hs).2.1, by rw [aR_wfR]; exact (c4 hs).2.2⟩⟩
  · rw [fR_wfR, if_neg]
    · exact (c3 y hy).2
    · rintro ⟨rfl, rfl⟩; exact hy (hx hq).1
  · rw [fR_wfR, if_neg]
    · exact ((c4 hs).1 y).2
    · rintro ⟨rfl, rfl⟩; exact hs (hx hq).2
theorem Fz.waI {S : Nat → Prop} {ow : Nat → Nat} {h h1 : Hp} {x j : Nat} {v : Int32} (a : Fz S ow h h1) (hx : x < sz h → S (ow x)) : Fz S ow h (waI h1 x j v) := by
  refine ⟨by rw [sz_waI]; exact a.1, by rw [gc_waI]; exact a.2.1, fun q hq => ?_⟩
  obtain ⟨c1, c2, c3, c4⟩ := a.2.2 q hq
  refine ⟨by rw [kd_waI]; exact c1, by rw [ln_waI]; exact c2, fun y hy => ⟨by rw [fI_waI]; exact (c3 y hy).1, by rw [fR_waI]; exact (c3 y hy).2⟩, fun hs => ⟨fun y => ⟨by rw [fI_waI]; exact ((c4 hs).1 y).1, by rw [fR_waI]; exact ((c4 hs).1 y).2⟩, ?_, by rw [aR_waI]; exact (c4 hs).2.2⟩⟩
  funext i
  rw [aI_waI, if_neg]
  · rw [(c4 hs).2.1]
  · rintro ⟨rfl, _⟩; exact hs (hx hq)
theorem Fz.waR {S : Nat → Prop} {ow : Nat → Nat} {h h1 : Hp} {x j : Nat} {v : Option Nat} (a : Fz S ow h h1) (hx : x < sz h → S (ow x)) : Fz S ow h (waR h1 x j v) := by
  refine ⟨by rw [sz_waR]; exact a.1, by rw [gc_waR]; exact a.2.1, fun q hq => ?_⟩
  obtain ⟨c1, c2, c3, c4⟩ := a.2.2 q hq
  refine ⟨by rw [kd_waR]; exact c1, by rw [ln_waR]; exact c2, fun y hy => ⟨by rw [fI_waR]; exact (c3 y hy).1, by rw [fR_waR]; exact (c3 y hy).2⟩, fun hs => ⟨fun y => ⟨by rw [fI_waR]; exact ((c4 hs).1 y).1, by rw [fR_waR]; exact ((c4 hs).1 y).2⟩, by rw [aI_waR]; exact (c4 hs).2.1, ?_⟩⟩
  funext i
  rw [aR_waR, if_neg]
  · rw [(c4 hs).2.2]
  · rintro ⟨rfl, _⟩; exact hs (hx hq)
theorem Fz.hnew {S : Nat → Prop} {ow : Nat → Nat} {h h1 : Hp} {k n w : Nat} (a : Fz S ow h h1) : Fz S ow h (hnew h1 k n w) := by
  have h0 := a.1
  refine ⟨by rw [sz_hnew]; omega, by rw [gc_hnew]; exact a.2.1, fun q hq => ?_⟩
  obtain ⟨c1, c2, c3, c4⟩ := a.2.2 q hq
  have hn : ¬ q = sz h1 := by omega
  refine ⟨by rw [kd_hnew, if_neg hn]; exact c1, by rw [ln_hnew, if_neg hn]; exact c2, fun y hy => ⟨by rw [fI_hnew, if_neg hn]; exact (c3 y hy).1, by rw [fR_hnew, if_neg hn]; exact (c3 y hy).2⟩, fun hs => ⟨fun y => ⟨by rw [fI_hnew, if_neg hn]; exact ((c4 hs).1 y).1, by rw [fR_hnew, if_neg hn]; exact ((c4 hs).1 y).2⟩, ?_, ?_⟩⟩
  · funext j; rw [aI_hnew, if_neg hn, (c4 hs).2.1]
  · funext j; rw [aR_hnew, if_neg hn, (c4 hs).2.2]
theorem kd_hcln (h : Hp) (a q : Nat) : kd (hcln h a) q = if q = sz h then 20 else kd h q := rfl
theorem ln_hcln (h : Hp) (a q : Nat) : ln (hcln h a) q = if q = sz h then ln h a else ln h q := rfl
theorem fI_hcln (h : Hp) (a f q : Nat) : fI (hcln h a) f q = if q = sz h then 0 else fI h f q := rfl
theorem fR_hcln (h : Hp) (a f q : Nat) : fR (hcln h a) f q = if q = sz h then none else fR h f q := rfl
theorem aI_hcln (h : Hp) (a q j : Nat) : aI (hcln h a) q j = if q = sz h then aI h a j else aI h q j := rfl
theorem aR_hcln (h : Hp) (a q j : Nat) : aR (hcln h a) q j = if q = sz h then none else aR h q j := rfl
theorem gc_hcln (h : Hp) (a : Nat) : gc (hcln h a) = gc h := rfl
theorem sz_hcln (h : Hp) (a : Nat) : sz (hcln h a) = sz h + 1 := rfl
theorem sl_hcln (h : Hp) (a : Nat) : sl (hcln h a) = sl h + ln h a := rfl
theorem kd_hcpy (h : Hp) (x y z u v : Nat) : kd (hcpy h x y z u v) = kd h := rfl
theorem ln_hcpy (h : Hp) (x y z u v : Nat) : ln (hcpy h x y z u v) = ln h := rfl
theorem fI_hcpy (h : Hp) (x y z u v : Nat) : fI (hcpy h x y z u v) = fI h := rfl
theorem fR_hcpy (h : Hp) (x y z u v : Nat) : fR (hcpy h x y z u v) = fR h := rfl
theorem aI_hcpy (h : Hp) (x y z u v : Nat) : aI (hcpy h x y z u v) = aI h := rfl
theorem aR_hcpy (h : Hp) (a0 sp a dp n q j : Nat) : aR (hcpy h a0 sp a dp n) q j = if q = a ∧ dp ≤ j ∧ j < dp + n then aR h a0 (sp + (j - dp)) else aR h q j := rfl
theorem gc_hcpy (h : Hp) (x y z u v : Nat) : gc (hcpy h x y z u v) = gc h := rfl
theorem sz_hcpy (h : Hp) (x y z u v : Nat) : sz (hcpy h x y z u v) = sz h := rfl
theorem sl_hcpy (h : Hp) (x y z u v : Nat) : sl (hcpy h x y z u v) = sl h := rfl
theorem Fz.hcln {S : Nat → Prop} {ow : Nat → Nat} {h h1 : Hp} {x : Nat} (a : Fz S ow h h1) : Fz S ow h (hcln h1 x) := by
  have h0 := a.1
  refine ⟨by rw [sz_hcln]; omega, by rw [gc_hcln]; exact a.2.1, fun q hq => ?_⟩
  obtain ⟨c1, c2, c3, c4⟩ := a.2.2 q hq
  have hn : ¬ q = sz h1 := by omega
  refine ⟨by rw [kd_hcln, if_neg hn]; exact c1, by rw [ln_hcln, if_neg hn]; exact c2, fun y hy => ⟨by rw [fI_hcln, if_neg hn]; exact (c3 y hy).1, by rw [fR_hcln, if_neg hn]; exact (c3 y hy).2⟩, fun hs => ⟨fun y => ⟨by rw [fI_hcln, if_neg hn]; exact ((c4 hs).1 y).1, by rw [fR_hcln, if_neg hn]; exact ((c4 hs).1 y).2⟩, ?_, ?_⟩⟩
  · funext j; rw [aI_hcln, if_neg hn, (c4 hs).2.1]
  · funext j; rw [aR_hcln, if_neg hn, (c4 hs).2.2]
theorem Fz.hcpy {S : Nat → Prop} {ow : Nat → Nat} {h h1 : Hp} {x y z u v : Nat} (a : Fz S ow h h1) (hx : z < sz h → S (ow z)) : Fz S ow h (hcpy h1 x y z u v) := by
  refine ⟨by rw [sz_hcpy]; exact a.1, by rw [gc_hcpy]; exact a.2.1, fun q hq => ?_⟩
  obtain ⟨c1, c2, c3, c4⟩ := a.2.2 q hq
  refine ⟨by rw [kd_hcpy]; exact c1, by rw [ln_hcpy]; exact c2, fun y hy => ⟨by rw [fI_hcpy]; exact (c3 y hy).1, by rw [fR_hcpy]; exact (c3 y hy).2⟩, fun hs => ⟨fun y => ⟨by rw [fI_hcpy]; exact ((c4 hs).1 y).1, by rw [fR_hcpy]; exact ((c4 hs).1 y).2⟩, by rw [aI_hcpy]; exact (c4 hs).2.1, ?_⟩⟩
  funext i
  rw [aR_hcpy, if_neg]
  · rw [(c4 hs).2.2]
  · rintro ⟨rfl, _⟩; exact hs (hx hq)
/-- what the reference changes -/
theorem Fz_Fr {S : Nat → Prop} {ow : Nat → Nat} {g : Nat} {h h' : Hp} (a : Fr g h h') (hg : ∀ k, k ≤ 23 → S (ow (g + k))) : Fz S ow h h' := by
  obtain ⟨a1, a2, a3, a4, a5, a6, a7, a8, a9⟩ := a
  refine ⟨by rw [a6]; exact Nat.le_refl _, a5, fun q hq => ⟨by rw [a1], by rw [a2], fun f hf => ⟨a8 f q (fun z => hf (by rw [z.1]; exact Or.inr (Or.inr (Or.inr (Or.inr (Or.inl rfl)))))), by rw [a3]⟩, fun hs => ⟨fun f => ⟨a8 f q (fun z => hs (by rw [z.2]; exact hg 0 (by omega))), by rw [a3]⟩, ?_, by rw [a4]⟩⟩⟩
  by_cases hq2 : q < g + 1 ∨ g + 23 < q
  · exact a9 q hq2
  · exact absurd (by have := hg (q - g) (by omega); rw [show g + (q - g) = q by omega] at this; exact this) hs
/-! lists -/
def Ls (ow : Nat → Nat) (h : Hp) (a : Nat) (l : List Nat) : Prop := kd h a = 11 ∧ a < sz h ∧ ow a = a ∧ fI h 322 a = nI l.length ∧ ∃ e, fR h 321 a = some e ∧ ((e = gc h 0 ∧ e < sz h ∧ kd h e = 42 ∧ ln h e = 0 ∧ l = []) ∨ (e < sz h ∧ kd h e = 22 ∧ l.length ≤ ln h e ∧ 10 ≤ ln h e ∧ ln h e ≤ 400 ∧ ow e = a ∧ ∀ i, i < l.length → aR h e i = some (l.getD i 0)))
theorem Ls.fz {S : Nat → Prop} {ow ow' : Nat → Nat} {h h' : Hp} {a : Nat} {l : List Nat} (H : Ls ow h a l) (f : Fz S ow h h') (o : Og (sz h) ow ow') (hs : ¬ S a) : Ls ow' h' a l := by
  obtain ⟨h1, h2, h3, h4, e, h5, h6⟩ := H
  have h0 := f.1
  obtain ⟨c1, c2, c3, c4⟩ := f.2.2 a h2
  rw [h3] at c4
  obtain ⟨d1, d2, d3⟩ := c4 hs
  refine ⟨c1.trans h1, by omega, (o a h2).trans h3, (d1 322).1.trans h4, e, (d1 321).2.trans h5, ?_⟩
  rcases h6 with ⟨k1, k2, k3, k4, k5⟩ | ⟨k1, k2, k3, k4, k5, k6, k7⟩
  · obtain ⟨g1, g2, g3, g4⟩ := f.2.2 e k2
    exact Or.inl ⟨by rw [f.2.1]; exact k1, by omega, g1.trans k3, g2.trans k4, k5⟩
  · obtain ⟨g1, g2, g3, g4⟩ := f.2.2 e k1
    rw [k6] at g4
    exact Or.inr ⟨by omega, g1.trans k2, by rw [g2]; exact k3, by rw [g2]; exact k4, by rw [g2]; exact k5, (o e k1).trans k6, fun i hi => by rw [(g4 hs).2.2]; exact k7 i hi⟩
theorem e_alSize {ow : Nat → Nat} {h : Hp} {a : Nat} {l : List Nat} {P : Option Value → Hp → Prop} (H : Ls ow h a l) : Ev M_AL_size_8abf5 [.ref a] h P ↔ P (some (.int (nI l.length))) h := by
  simp (disch := first | omega | assumption) only [Z_iconst, Z_bipush, Z_sipush, Z_ldc, Z_ldcM, Z_ldcw, Z_null, Z_getstatic, Z_iload0, Z_aload0, Z_aloadq0, Z_aloadn0, Z_istore0, Z_astore0, Z_astoreq0, Z_astoren0, Z_iinc0, Z_iload1, Z_aload1, Z_aloadq1, Z_aloadn1, Z_istore1, Z_astore1, Z_astoreq1, Z_astoren1, Z_iinc1, Z_iload2, Z_aload2, Z_aloadq2, Z_aloadn2, Z_istore2, Z_astore2, Z_astoreq2, Z_astoren2, Z_iinc2, Z_iload3, Z_aload3, Z_aloadq3, Z_aloadn3, Z_istore3, Z_astore3, Z_astoreq3, Z_astoren3, Z_iinc3, Z_iload4, Z_aload4, Z_aloadq4, Z_aloadn4, Z_istore4, Z_astore4, Z_astoreq4, Z_astoren4, Z_iinc4, Z_iload5, Z_aload5, Z_aloadq5, Z_aloadn5, Z_istore5, Z_astore5, Z_astoreq5, Z_astoren5, Z_iinc5, Z_iload6, Z_aload6, Z_aloadq6, Z_aloadn6, Z_istore6, Z_astore6, Z_astoreq6, Z_astoren6, Z_iinc6, Z_iload7, Z_aload7, Z_aloadq7, Z_aloadn7, Z_istore7, Z_astore7, Z_astoreq7, Z_astoren7, Z_iinc7, Z_iload8, Z_aload8, Z_aloadq8, Z_aloadn8, Z_istore8, Z_astore8, Z_astoreq8, Z_astoren8, Z_iinc8, Z_iload9, Z_aload9, Z_aloadq9, Z_aloadn9, Z_istore9, Z_astore9, Z_astoreq9, Z_astoren9, Z_iinc9, Z_iload10, Z_aload10, Z_aloadq10, Z_aloadn10, Z_istore10, Z_astore10, Z_astoreq10, Z_astoren10, Z_iinc10, Z_iload11, Z_aload11, Z_aloadq11, Z_aloadn11, Z_istore11, Z_astore11, Z_astoreq11, Z_astoren11, Z_iinc11, Z_iload12, Z_aload12, Z_aloadq12, Z_aloadn12, Z_istore12, Z_astore12, Z_astoreq12, Z_astoren12, Z_iinc12, Z_iadd, Z_isub, Z_imul, Z_iand, Z_ior, Z_ishl, Z_ishr, Z_iushr, Z_idiv, Z_irem, Z_dup, Z_dupx1, Z_dup2, Z_pop, Z_if_eq, Z_icmp_eq, Z_if_ne, Z_icmp_ne, Z_if_lt, Z_icmp_lt, Z_if_le, Z_icmp_le, Z_if_ge, Z_icmp_ge, Z_if_gt, Z_icmp_gt, Z_acmp_eqq1, Z_acmp_eqq2, Z_acmp_eqq3, Z_acmp_eqq4, Z_acmp_neq1, Z_acmp_neq2, Z_acmp_neq3, Z_acmp_neq4, Z_ifnull, Z_ifnullN, Z_ifnullq, Z_ifnonnull, Z_ifnonnullN, Z_ifnonnullq, Z_goto, Z_getI, Z_getZ, Z_getR, Z_putI, Z_putR, Z_putN, Z_putQ, Z_putZ, Z_new, Z_newarray, Z_anewarray, Z_alen, Z_cast, Z_objInit, Z_clone, Z_getClass, Z_copy, Z_max, Z_min, Y_iaload, Y_baload, Y_aaload, Y_iastore, Y_bastore, Y_aastore, Y_aastoreN, lt_0p, lt_1n, va_some, va_none, Option.toList_some, Option.toList_none, List.nil_append, List.cons_append, List.length_nil, List.length_cons, true_and, and_true, if_true, if_false, ite_true, ite_false, Nat.zero_le, Nat.not_lt_zero, Nat.reduceLeDiff, Nat.reduceEqDiff, Nat.reduceAdd, Nat.reduceMul, Nat.reduceSub, Nat.reduceLT, Nat.zero_add, not_true_eq_false, not_false_eq_true, true_or, or_true, false_or, or_false, Nat.add_zero, false_and, and_false, exists_eq_left', Option.some.injEq, k_AL_size_8abf5_0, Q_AL_size_8abf5, E_AL_size_8abf5, H.1, H.2.2.2.1]
theorem e_alEmpty {ow : Nat → Nat} {h : Hp} {a : Nat} {l : List Nat} {P : Option Value → Hp → Prop} (H : Ls ow h a l) (hl : l.length ≤ 1000) : Ev M_AL_isEmpty_aae02 [.ref a] h P ↔ P (some (.int (nI (nb l.isEmpty)))) h := by
  cases l with
  | nil => simp (disch := first | omega | assumption) only [Z_iconst, Z_bipush, Z_sipush, Z_ldc, Z_ldcM, Z_ldcw, Z_null, Z_getstatic, Z_iload0, Z_aload0, Z_aloadq0, Z_aloadn0, Z_istore0, Z_astore0, Z_astoreq0, Z_astoren0, Z_iinc0, Z_iload1, Z_aload1, Z_aloadq1, Z_aloadn1, Z_istore1, Z_astore1, Z_astoreq1, Z_astoren1, Z_iinc1, Z_iload2, Z_aload2, Z_aloadq2, Z_aloadn2, Z_istore2, Z_astore2, Z_astoreq2, Z_astoren2, Z_iinc2, Z_iload3, Z_aload3, Z_aloadq3, Z_aloadn3, Z_istore3, Z_astore3, Z_astoreq3, Z_astoren3, Z_iinc3, Z_iload4, Z_aload4, Z_aloadq4, Z_aloadn4, Z_istore4, Z_astore4, Z_astoreq4, Z_astoren4, Z_iinc4, Z_iload5, Z_aload5, Z_aloadq5, Z_aloadn5, Z_istore5, Z_astore5, Z_astoreq5, Z_astoren5, Z_iinc5, Z_iload6, Z_aload6, Z_aloadq6, Z_aloadn6, Z_istore6, Z_astore6, Z_astoreq6, Z_astoren6, Z_iinc6, Z_iload7, Z_aload7, Z_aloadq7, Z_aloadn7, Z_istore7, Z_astore7, Z_astoreq7, Z_astoren7, Z_iinc7, Z_iload8, Z_aload8, Z_aloadq8, Z_aloadn8, Z_istore8, Z_astore8, Z_astoreq8, Z_astoren8, Z_iinc8, Z_iload9, Z_aload9, Z_aloadq9, Z_aloadn9, Z_istore9, Z_astore9, Z_astoreq9, Z_astoren9, Z_iinc9, Z_iload10, Z_aload10, Z_aloadq10, Z_aloadn10, Z_istore10, Z_astore10, Z_astoreq10, Z_astoren10, Z_iinc10, Z_iload11, Z_aload11, Z_aloadq11, Z_aloadn11, Z_istore11, Z_astore11, Z_astoreq11, Z_astoren11, Z_iinc11, Z_iload12, Z_aload12, Z_aloadq12, Z_aloadn12, Z_istore12, Z_astore12, Z_astoreq12, Z_astoren12, Z_iinc12, Z_iadd, Z_isub, Z_imul, Z_iand, Z_ior, Z_ishl, Z_ishr, Z_iushr, Z_idiv, Z_irem, Z_dup, Z_dupx1, Z_dup2, Z_pop, Z_if_eq, Z_icmp_eq, Z_if_ne, Z_icmp_ne, Z_if_lt, Z_icmp_lt, Z_if_le, Z_icmp_le, Z_if_ge, Z_icmp_ge, Z_if_gt, Z_icmp_gt, Z_acmp_eqq1, Z_acmp_eqq2, Z_acmp_eqq3, Z_acmp_eqq4, Z_acmp_neq1, Z_acmp_neq2, Z_acmp_neq3, Z_acmp_neq4, Z_ifnull, Z_ifnullN, Z_ifnullq, Z_ifnonnull, Z_ifnonnullN, Z_ifnonnullq, Z_goto, Z_getI, Z_getZ, Z_getR, Z_putI, Z_putR, Z_putN, Z_putQ, Z_putZ, Z_new, Z_newarray, Z_anewarray, Z_alen, Z_cast, Z_objInit, Z_clone, Z_getClass, Z_copy, Z_max, Z_min, Y_iaload, Y_baload, Y_aaload, Y_iastore, Y_bastore, Y_aastore, Y_aastoreN, lt_0p, lt_1n, va_some, va_none, Option.toList_some, Option.toList_none, List.nil_append, List.cons_append, List.length_nil, List.length_cons, true_and, and_true, if_true, if_false, ite_true, ite_false, Nat.zero_le, Nat.not_lt_zero, Nat.reduceLeDiff, Nat.reduceEqDiff, Nat.reduceAdd, Nat.reduceMul, Nat.reduceSub, Nat.reduceLT, Nat.zero_add, not_true_eq_false, not_false_eq_true, true_or, or_true, false_or, or_false, Nat.add_zero, false_and, and_false, exists_eq_left', Option.some.injEq, k_AL_isEmpty_aae02_0, sk_AL_isEmpty_aae02_11, k_AL_isEmpty_aae02_11, sk_AL_isEmpty_aae02_12, k_AL_isEmpty_aae02_12, Q_AL_isEmpty_aae02_0, Q_AL_isEmpty_aae02_1, E_AL_isEmpty_aae02, nI_add, pk_mul, ar_lt, ar_le, ar_eq, z_lt, z_le, z_gt, z_ge, z_eq, z_eq2, ix_nI, nI_clamp, ne_eq, H.1, H.2.2.2.1, List.length_nil, List.isEmpty_nil, nb_t]
  | cons b l =>
    rw [List.length_cons] at hl
    simp (disch := first | omega | assumption) only [Z_iconst, Z_bipush, Z_sipush, Z_ldc, Z_ldcM, Z_ldcw, Z_null, Z_getstatic, Z_iload0, Z_aload0, Z_aloadq0, Z_aloadn0, Z_istore0, Z_astore0, Z_astoreq0, Z_astoren0, Z_iinc0, Z_iload1, Z_aload1, Z_aloadq1, Z_aloadn1, Z_istore1, Z_astore1, Z_astoreq1, Z_astoren1, Z_iinc1, Z_iload2, Z_aload2, Z_aloadq2, Z_aloadn2, Z_istore2, Z_astore2, Z_astoreq2, Z_astoren2, Z_iinc2, Z_iload3, Z_aload3, Z_aloadq3, Z_aloadn3, Z_istore3, Z_astore3, Z_astoreq3, Z_astoren3, Z_iinc3, Z_iload4, Z_aload4, Z_aloadq4, Z_aloadn4, Z_istore4, Z_astore4, Z_astoreq4, Z_astoren4, Z_iinc4, Z_iload5, Z_aload5, Z_aloadq5, Z_aloadn5, Z_istore5, Z_astore5, Z_astoreq5, Z_astoren5, Z_iinc5, Z_iload6, Z_aload6, Z_aloadq6, Z_aloadn6, Z_istore6, Z_astore6, Z_astoreq6, Z_astoren6, Z_iinc6, Z_iload7, Z_aload7, Z_aloadq7, Z_aloadn7, Z_istore7, Z_astore7, Z_astoreq7, Z_astoren7, Z_iinc7, Z_iload8, Z_aload8, Z_aloadq8, Z_aloadn8, Z_istore8, Z_astore8, Z_astoreq8, Z_astoren8, Z_iinc8, Z_iload9, Z_aload9, Z_aloadq9, Z_aloadn9, Z_istore9, Z_astore9, Z_astoreq9, Z_astoren9, Z_iinc9, Z_iload10, Z_aload10, Z_aloadq10, Z_aloadn10, Z_istore10, Z_astore10, Z_astoreq10, Z_astoren10, Z_iinc10, Z_iload11, Z_aload11, Z_aloadq11, Z_aloadn11, Z_istore11, Z_astore11, Z_astoreq11, Z_astoren11, Z_iinc11, Z_iload12, Z_aload12, Z_aloadq12, Z_aloadn12, Z_istore12, Z_astore12, Z_astoreq12, Z_astoren12, Z_iinc12, Z_iadd, Z_isub, Z_imul, Z_iand, Z_ior, Z_ishl, Z_ishr, Z_iushr, Z_idiv, Z_irem, Z_dup, Z_dupx1, Z_dup2, Z_pop, Z_if_eq, Z_icmp_eq, Z_if_ne, Z_icmp_ne, Z_if_lt, Z_icmp_lt, Z_if_le, Z_icmp_le, Z_if_ge, Z_icmp_ge, Z_if_gt, Z_icmp_gt, Z_acmp_eqq1, Z_acmp_eqq2, Z_acmp_eqq3, Z_acmp_eqq4, Z_acmp_neq1, Z_acmp_neq2, Z_acmp_neq3, Z_acmp_neq4, Z_ifnull, Z_ifnullN, Z_ifnullq, Z_ifnonnull, Z_ifnonnullN, Z_ifnonnullq, Z_goto, Z_getI, Z_getZ, Z_getR, Z_putI, Z_putR, Z_putN, Z_putQ, Z_putZ, Z_new, Z_newarray, Z_anewarray, Z_alen, Z_cast, Z_objInit, Z_clone, Z_getClass, Z_copy, Z_max, Z_min, Y_iaload, Y_baload, Y_aaload, Y_iastore, Y_bastore, Y_aastore, Y_aastoreN, lt_0p, lt_1n, va_some, va_none, Option.toList_some, Option.toList_none, List.nil_append, List.cons_append, List.length_nil, List.length_cons, true_and, and_true, if_true, if_false, ite_true, ite_false, Nat.zero_le, Nat.not_lt_zero, Nat.reduceLeDiff, Nat.reduceEqDiff, Nat.reduceAdd, Nat.reduceMul, Nat.reduceSub, Nat.reduceLT, Nat.zero_add, not_true_eq_false, not_false_eq_true, true_or, or_true, false_or, or_false, Nat.add_zero, false_and, and_false, exists_eq_left', Option.some.injEq, k_AL_isEmpty_aae02_0, sk_AL_isEmpty_aae02_11, k_AL_isEmpty_aae02_11, sk_AL_isEmpty_aae02_12, k_AL_isEmpty_aae02_12, Q_AL_isEmpty_aae02_0, Q_AL_isEmpty_aae02_1, E_AL_isEmpty_aae02, nI_add, pk_mul, ar_lt, ar_le, ar_eq, z_lt, z_le, z_gt, z_ge, z_eq, z_eq2, ix_nI, nI_clamp, ne_eq, H.1, H.2.2.2.1, List.length_cons, List.isEmpty_cons, nb_f, show ¬ l.length + 1 = 0 by omega]
theorem e_chk {n k : Nat} {h : Hp} {P : Option Value → Hp → Prop} (hk : k < n) (hn : n ≤ 1000) : Ev M_J15_checkIndex_7cf53 [.int (nI k), .int (nI n)] h P ↔ P (some (.int (nI k))) h := by
  simp (disch := first | omega | assumption) only [Z_iconst, Z_bipush, Z_sipush, Z_ldc, Z_ldcM, Z_ldcw, Z_null, Z_getstatic, Z_iload0, Z_aload0, Z_aloadq0, Z_aloadn0, Z_istore0, Z_astore0, Z_astoreq0, Z_astoren0, Z_iinc0, Z_iload1, Z_aload1, Z_aloadq1, Z_aloadn1, Z_istore1, Z_astore1, Z_astoreq1, Z_astoren1, Z_iinc1, Z_iload2, Z_aload2, Z_aloadq2, Z_aloadn2, Z_istore2, Z_astore2, Z_astoreq2, Z_astoren2, Z_iinc2, Z_iload3, Z_aload3, Z_aloadq3, Z_aloadn3, Z_istore3, Z_astore3, Z_astoreq3, Z_astoren3, Z_iinc3, Z_iload4, Z_aload4, Z_aloadq4, Z_aloadn4, Z_istore4, Z_astore4, Z_astoreq4, Z_astoren4, Z_iinc4, Z_iload5, Z_aload5, Z_aloadq5, Z_aloadn5, Z_istore5, Z_astore5, Z_astoreq5, Z_astoren5, Z_iinc5, Z_iload6, Z_aload6, Z_aloadq6, Z_aloadn6, Z_istore6, Z_astore6, Z_astoreq6, Z_astoren6, Z_iinc6, Z_iload7, Z_aload7, Z_aloadq7, Z_aloadn7, Z_istore7, Z_astore7, Z_astoreq7, Z_astoren7, Z_iinc7, Z_iload8, Z_aload8, Z_aloadq8, Z_aloadn8, Z_istore8, Z_astore8, Z_astoreq8, Z_astoren8, Z_iinc8, Z_iload9, Z_aload9, Z_aloadq9, Z_aloadn9, Z_istore9, Z_astore9, Z_astoreq9, Z_astoren9, Z_iinc9, Z_iload10, Z_aload10, Z_aloadq10, Z_aloadn10, Z_istore10, Z_astore10, Z_astoreq10, Z_astoren10, Z_iinc10, Z_iload11, Z_aload11, Z_aloadq11, Z_aloadn11, Z_istore11, Z_astore11, Z_astoreq11, Z_astoren11, Z_iinc11, Z_iload12, Z_aload12, Z_aloadq12, Z_aloadn12, Z_istore12, Z_astore12, Z_astoreq12, Z_astoren12, Z_iinc12, Z_iadd, Z_isub, Z_imul, Z_iand, Z_ior, Z_ishl, Z_ishr, Z_iushr, Z_idiv, Z_irem, Z_dup, Z_dupx1, Z_dup2, Z_pop, Z_if_eq, Z_icmp_eq, Z_if_ne, Z_icmp_ne, Z_if_lt, Z_icmp_lt, Z_if_le, Z_icmp_le, Z_if_ge, Z_icmp_ge, Z_if_gt, Z_icmp_gt, Z_acmp_eqq1, Z_acmp_eqq2, Z_acmp_eqq3, Z_acmp_eqq4, Z_acmp_neq1, Z_acmp_neq2, Z_acmp_neq3, Z_acmp_neq4, Z_ifnull, Z_ifnullN, Z_ifnullq, Z_ifnonnull, Z_ifnonnullN, Z_ifnonnullq, Z_goto, Z_getI, Z_getZ, Z_getR, Z_putI, Z_putR, Z_putN, Z_putQ, Z_putZ, Z_new, Z_newarray, Z_anewarray, Z_alen, Z_cast, Z_objInit, Z_clone, Z_getClass, Z_copy, Z_max, Z_min, Y_iaload, Y_baload, Y_aaload, Y_iastore, Y_bastore, Y_aastore, Y_aastoreN, lt_0p, lt_1n, va_some, va_none, Option.toList_some, Option.toList_none, List.nil_append, List.cons_append, List.length_nil, List.length_cons, true_and, and_true, if_true, if_false, ite_true, ite_false, Nat.zero_le, Nat.not_lt_zero, Nat.reduceLeDiff, Nat.reduceEqDiff, Nat.reduceAdd, Nat.reduceMul, Nat.reduceSub, Nat.reduceLT, Nat.zero_add, not_true_eq_false, not_false_eq_true, true_or, or_true, false_or, or_false, Nat.add_zero, false_and, and_false, exists_eq_left', Option.some.injEq, k_J15_checkIndex_7cf53_0, Q_J15_checkIndex_7cf53, C_J3_checkIndex_8e157, E_J15_checkIndex_7cf53, k_J3_checkIndex_8e157_0, sk_J3_checkIndex_8e157_9, k_J3_checkIndex_8e157_9, sk_J3_checkIndex_8e157_16, k_J3_checkIndex_8e157_16, Q_J3_checkIndex_8e157, E_J3_checkIndex_8e157, nI_add, pk_mul, ar_lt, ar_le, ar_eq, z_lt, z_le, z_gt, z_ge, z_eq, z_eq2, ix_nI, nI_clamp, ne_eq, hk]
theorem e_alGet {ow : Nat → Nat} {h : Hp} {a k : Nat} {l : List Nat} {P : Option Value → Hp → Prop} (H : Ls ow h a l) (hk : k < l.length) (hl : l.length ≤ 400) : Ev M_AL_get_915e3 [.ref a, .int (nI k)] h P ↔ P (some (.ref (l.getD k 0))) h := by
  obtain ⟨h1, h2, h3, h4, e, h5, h6⟩ := H
  rcases h6 with ⟨k1, k2, k3, k4, k5⟩ | ⟨k1, k2, k3, k4, k5, k6, k7⟩
  · rw [k5] at hk; cases hk
  · have e1 := k7 k hk
    generalize l.getD k 0 = y at e1
    simp (disch := first | omega | assumption) only [Z_iconst, Z_bipush, Z_sipush, Z_ldc, Z_ldcM, Z_ldcw, Z_null, Z_getstatic, Z_iload0, Z_aload0, Z_aloadq0, Z_aloadn0, Z_istore0, Z_astore0, Z_astoreq0, Z_astoren0, Z_iinc0, Z_iload1, Z_aload1, Z_aloadq1, Z_aloadn1, Z_istore1, Z_astore1, Z_astoreq1, Z_astoren1, Z_iinc1, Z_iload2, Z_aload2, Z_aloadq2, Z_aloadn2, Z_istore2, Z_astore2, Z_astoreq2, Z_astoren2, Z_iinc2, Z_iload3, Z_aload3, Z_aloadq3, Z_aloadn3, Z_istore3, Z_astore3, Z_astoreq3, Z_astoren3, Z_iinc3, Z_iload4, Z_aload4, Z_aloadq4, Z_aloadn4, Z_istore4, Z_astore4, Z_astoreq4, Z_astoren4, Z_iinc4, Z_iload5, Z_aload5, Z_aloadq5, Z_aloadn5, Z_istore5, Z_astore5, Z_astoreq5, Z_astoren5, Z_iinc5, Z_iload6, Z_aload6, Z_aloadq6, Z_aloadn6, Z_istore6, Z_astore6, Z_astoreq6, Z_astoren6, Z_iinc6, Z_iload7, Z_aload7, Z_aloadq7, Z_aloadn7, Z_istore7, Z_astore7, Z_astoreq7, Z_astoren7, Z_iinc7, Z_iload8, Z_aload8, Z_aloadq8, Z_aloadn8, Z_istore8, Z_astore8, Z_astoreq8, Z_astoren8, Z_iinc8, Z_iload9, Z_aload9, Z_aloadq9, Z_aloadn9, Z_istore9, Z_astore9, Z_astoreq9, Z_astoren9, Z_iinc9, Z_iload10, Z_aload10, Z_aloadq10, Z_aloadn10, Z_istore10, Z_astore10, Z_astoreq10, Z_astoren10, Z_iinc10, Z_iload11, Z_aload11, Z_aloadq11, Z_aloadn11, Z_istore11, Z_astore11, Z_astoreq11, Z_astoren11, Z_iinc11, Z_iload12, Z_aload12, Z_aloadq12, Z_aloadn12, Z_istore12, Z_astore12, Z_astoreq12, Z_astoren12, Z_iinc12, Z_iadd, Z_isub, Z_imul, Z_iand, Z_ior, Z_ishl, Z_ishr, Z_iushr, Z_idiv, Z_irem, Z_dup, Z_dupx1, Z_dup2, Z_pop, Z_if_eq, Z_icmp_eq, Z_if_ne, Z_icmp_ne, Z_if_lt, Z_icmp_lt, Z_if_le, Z_icmp_le, Z_if_ge, Z_icmp_ge, Z_if_gt, Z_icmp_gt, Z_acmp_eqq1, Z_acmp_eqq2, Z_acmp_eqq3, Z_acmp_eqq4, Z_acmp_neq1, Z_acmp_neq2, Z_acmp_neq3, Z_acmp_neq4, Z_ifnull, Z_ifnullN, Z_ifnullq, Z_ifnonnull, Z_ifnonnullN, Z_ifnonnullq, Z_goto, Z_getI, Z_getZ, Z_getR, Z_putI, Z_putR, Z_putN, Z_putQ, Z_putZ, Z_new, Z_newarray, Z_anewarray, Z_alen, Z_cast, Z_objInit, Z_clone, Z_getClass, Z_copy, Z_max, Z_min, Y_iaload, Y_baload, Y_aaload, Y_iastore, Y_bastore, Y_aastore, Y_aastoreN, lt_0p, lt_1n, va_some, va_none, Option.toList_some, Option.toList_none, List.nil_append, List.cons_append, List.length_nil, List.length_cons, true_and, and_true, if_true, if_false, ite_true, ite_false, Nat.zero_le, Nat.not_lt_zero, Nat.reduceLeDiff, Nat.reduceEqDiff, Nat.reduceAdd, Nat.reduceMul, Nat.reduceSub, Nat.reduceLT, Nat.zero_add, not_true_eq_false, not_false_eq_true, true_or, or_true, false_or, or_false, Nat.add_zero, false_and, and_false, exists_eq_left', Option.some.injEq, k_AL_get_915e3_0, Q_AL_get_915e3_r, Q_AL_get_915e3_q, Q_AL_get_915e3_n, C_J15_checkIndex_7cf53, C_AL_elementData_915e3, E_AL_get_915e3, k_AL_elementData_915e3_0, Q_AL_elementData_915e3_r, Q_AL_elementData_915e3_q, Q_AL_elementData_915e3_n, E_AL_elementData_915e3, nI_add, pk_mul, ar_lt, ar_le, ar_eq, z_lt, z_le, z_gt, z_ge, z_eq, z_eq2, ix_nI, nI_clamp, ne_eq, h1, h4, h5, k2, e1, e_chk hk (show l.length ≤ 1000 by omega)]
