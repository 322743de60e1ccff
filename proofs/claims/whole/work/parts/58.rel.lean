/-! the class: where its objects lie and what they hold -/
def rb (x r : Nat) : Nat := x + 3 + 20 * r
def wl (x w : Nat) : Nat := x + 84 + 2 * w
/-- the block of a replica -/
def Bk (x r q : Nat) : Prop := rb x r ≤ q ∧ q < rb x r + 20
/-- the places of one replica -/
def FixR (x : Nat) (r : Nat) (ow : Nat → Nat) (h : Hp) : Prop := (aR h (x + 1) r = some (rb x r)) ∧ (kd h (rb x r) = 6) ∧ (fI h 160 (rb x r) = nI r) ∧ (fR h 161 (rb x r) = some (rb x r + 1)) ∧ (fR h 162 (rb x r) = some (rb x r + 2)) ∧ (fR h 163 (rb x r) = some (rb x r + 3)) ∧ (fR h 164 (rb x r) = some (rb x r + 4)) ∧ (fR h 165 (rb x r) = some (rb x r + 5)) ∧ (fR h 166 (rb x r) = some (rb x r + 6)) ∧ (fR h 167 (rb x r) = some (rb x r + 7)) ∧ (kd h (rb x r + 1) = 25) ∧ (ln h (rb x r + 1) = 4) ∧ (ow (rb x r + 1) = 0) ∧ (kd h (rb x r + 2) = 20) ∧ (ln h (rb x r + 2) = 2) ∧ (ow (rb x r + 2) = rb x r + 2) ∧ (kd h (rb x r + 4) = 26) ∧ (ln h (rb x r + 4) = 2) ∧ (ow (rb x r + 4) = rb x r + 4) ∧ (kd h (rb x r + 5) = 27) ∧ (ln h (rb x r + 5) = 2) ∧ (ow (rb x r + 5) = 0) ∧ (ow (rb x r) = rb x r) ∧ (∀ i, i < 4 → aR h (rb x r + 1) i = some (rb x r + 8 + 2 * i) ∧ kd h (rb x r + 8 + 2 * i) = 2 ∧ fR h 32 (rb x r + 8 + 2 * i) = some (rb x r + 9 + 2 * i) ∧ kd h (rb x r + 9 + 2 * i) = 20 ∧ ln h (rb x r + 9 + 2 * i) = 4 ∧ ow (rb x r + 9 + 2 * i) = rb x r + 1) ∧ (∀ t, t < 2 → aR h (rb x r + 5) t = some (rb x r + 16 + 2 * t) ∧ kd h (rb x r + 16 + 2 * t) = 7 ∧ fR h 192 (rb x r + 16 + 2 * t) = some (rb x r + 17 + 2 * t) ∧ kd h (rb x r + 17 + 2 * t) = 3 ∧ fR h 64 (rb x r + 17 + 2 * t) = none ∧ ow (rb x r + 17 + 2 * t) = rb x r + 16 + 2 * t)
theorem FixR.ar {x : Nat} {r : Nat} {ow : Nat → Nat} {h : Hp} (H : FixR x r ow h) : aR h (x + 1) r = some (rb x r) := H.1
theorem FixR.k {x : Nat} {r : Nat} {ow : Nat → Nat} {h : Hp} (H : FixR x r ow h) : kd h (rb x r) = 6 := H.2.1
theorem FixR.sf {x : Nat} {r : Nat} {ow : Nat → Nat} {h : Hp} (H : FixR x r ow h) : fI h 160 (rb x r) = nI r := H.2.2.1
theorem FixR.f1 {x : Nat} {r : Nat} {ow : Nat → Nat} {h : Hp} (H : FixR x r ow h) : fR h 161 (rb x r) = some (rb x r + 1) := H.2.2.2.1
theorem FixR.f2 {x : Nat} {r : Nat} {ow : Nat → Nat} {h : Hp} (H : FixR x r ow h) : fR h 162 (rb x r) = some (rb x r + 2) := H.2.2.2.2.1
theorem FixR.f3 {x : Nat} {r : Nat} {ow : Nat → Nat} {h : Hp} (H : FixR x r ow h) : fR h 163 (rb x r) = some (rb x r + 3) := H.2.2.2.2.2.1
theorem FixR.f4 {x : Nat} {r : Nat} {ow : Nat → Nat} {h : Hp} (H : FixR x r ow h) : fR h 164 (rb x r) = some (rb x r + 4) := H.2.2.2.2.2.2.1
theorem FixR.f5 {x : Nat} {r : Nat} {ow : Nat → Nat} {h : Hp} (H : FixR x r ow h) : fR h 165 (rb x r) = some (rb x r + 5) := H.2.2.2.2.2.2.2.1
theorem FixR.f6 {x : Nat} {r : Nat} {ow : Nat → Nat} {h : Hp} (H : FixR x r ow h) : fR h 166 (rb x r) = some (rb x r + 6) := H.2.2.2.2.2.2.2.2.1
theorem FixR.f7 {x : Nat} {r : Nat} {ow : Nat → Nat} {h : Hp} (H : FixR x r ow h) : fR h 167 (rb x r) = some (rb x r + 7) := H.2.2.2.2.2.2.2.2.2.1
theorem FixR.k1 {x : Nat} {r : Nat} {ow : Nat → Nat} {h : Hp} (H : FixR x r ow h) : kd h (rb x r + 1) = 25 := H.2.2.2.2.2.2.2.2.2.2.1
theorem FixR.l1 {x : Nat} {r : Nat} {ow : Nat → Nat} {h : Hp} (H : FixR x r ow h) : ln h (rb x r + 1) = 4 := H.2.2.2.2.2.2.2.2.2.2.2.1
theorem FixR.o1 {x : Nat} {r : Nat} {ow : Nat → Nat} {h : Hp} (H : FixR x r ow h) : ow (rb x r + 1) = 0 := H.2.2.2.2.2.2.2.2.2.2.2.2.1
theorem FixR.k2 {x : Nat} {r : Nat} {ow : Nat → Nat} {h : Hp} (H : FixR x r ow h) : kd h (rb x r + 2) = 20 := H.2.2.2.2.2.2.2.2.2.2.2.2.2.1
theorem FixR.l2 {x : Nat} {r : Nat} {ow : Nat → Nat} {h : Hp} (H : FixR x r ow h) : ln h (rb x r + 2) = 2 := H.2.2.2.2.2.2.2.2.2.2.2.2.2.2.1
theorem FixR.o2 {x : Nat} {r : Nat} {ow : Nat → Nat} {h : Hp} (H : FixR x r ow h) : ow (rb x r + 2) = rb x r + 2 := H.2.2.2.2.2.2.2.2.2.2.2.2.2.2.2.1
theorem FixR.k4 {x : Nat} {r : Nat} {ow : Nat → Nat} {h : Hp} (H : FixR x r ow h) : kd h (rb x r + 4) = 26 := H.2.2.2.2.2.2.2.2.2.2.2.2.2.2.2.2.1
theorem FixR.l4 {x : Nat} {r : Nat} {ow : Nat → Nat} {h : Hp} (H : FixR x r ow h) : ln h (rb x r + 4) = 2 := H.2.2.2.2.2.2.2.2.2.2.2.2.2.2.2.2.2.1
theorem FixR.o4 {x : Nat} {r : Nat} {ow : Nat → Nat} {h : Hp} (H : FixR x r ow h) : ow (rb x r + 4) = rb x r + 4 := H.2.2.2.2.2.2.2.2.2.2.2.2.2.2.2.2.2.2.1
theorem FixR.k5 {x : Nat} {r : Nat} {ow : Nat → Nat} {h : Hp} (H : FixR x r ow h) : kd h (rb x r + 5) = 27 := H.2.2.2.2.2.2.2.2.2.2.2.2.2.2.2.2.2.2.2.1
theorem FixR.l5 {x : Nat} {r : Nat} {ow : Nat → Nat} {h : Hp} (H : FixR x r ow h) : ln h (rb x r + 5) = 2 := H.2.2.2.2.2.2.2.2.2.2.2.2.2.2.2.2.2.2.2.2.1
theorem FixR.o5 {x : Nat} {r : Nat} {ow : Nat → Nat} {h : Hp} (H : FixR x r ow h) : ow (rb x r + 5) = 0 := H.2.2.2.2.2.2.2.2.2.2.2.2.2.2.2.2.2.2.2.2.2.1
theorem FixR.o0 {x : Nat} {r : Nat} {ow : Nat → Nat} {h : Hp} (H : FixR x r ow h) : ow (rb x r) = rb x r := H.2.2.2.2.2.2.2.2.2.2.2.2.2.2.2.2.2.2.2.2.2.2.1
theorem FixR.ck {x : Nat} {r : Nat} {ow : Nat → Nat} {h : Hp} (H : FixR x r ow h) : ∀ i, i < 4 → aR h (rb x r + 1) i = some (rb x r + 8 + 2 * i) ∧ kd h (rb x r + 8 + 2 * i) = 2 ∧ fR h 32 (rb x r + 8 + 2 * i) = some (rb x r + 9 + 2 * i) ∧ kd h (rb x r + 9 + 2 * i) = 20 ∧ ln h (rb x r + 9 + 2 * i) = 4 ∧ ow (rb x r + 9 + 2 * i) = rb x r + 1 := H.2.2.2.2.2.2.2.2.2.2.2.2.2.2.2.2.2.2.2.2.2.2.2.1
theorem FixR.tx {x : Nat} {r : Nat} {ow : Nat → Nat} {h : Hp} (H : FixR x r ow h) : ∀ t, t < 2 → aR h (rb x r + 5) t = some (rb x r + 16 + 2 * t) ∧ kd h (rb x r + 16 + 2 * t) = 7 ∧ fR h 192 (rb x r + 16 + 2 * t) = some (rb x r + 17 + 2 * t) ∧ kd h (rb x r + 17 + 2 * t) = 3 ∧ fR h 64 (rb x r + 17 + 2 * t) = none ∧ ow (rb x r + 17 + 2 * t) = rb x r + 16 + 2 * t := H.2.2.2.2.2.2.2.2.2.2.2.2.2.2.2.2.2.2.2.2.2.2.2.2
/-- all places -/
def Fix (x : Nat) (ow : Nat → Nat) (h : Hp) : Prop := (kd h x = 9) ∧ (fR h 256 x = some (x + 1)) ∧ (fR h 257 x = some (x + 2)) ∧ (kd h (x + 1) = 23) ∧ (ln h (x + 1) = 4) ∧ (ow (x + 1) = 0) ∧ (kd h (x + 2) = 24) ∧ (ln h (x + 2) = 16) ∧ (ow (x + 2) = 0) ∧ (x + 115 ≤ sz h) ∧ (∀ r, r < 4 → FixR x r ow h) ∧ (∀ w, w < 16 → aR h (x + 2) w = some (x + 83 + 2 * w) ∧ kd h (x + 83 + 2 * w) = 8 ∧ fR h 224 (x + 83 + 2 * w) = some (wl x w))
theorem Fix.k {x : Nat} {ow : Nat → Nat} {h : Hp} (H : Fix x ow h) : kd h x = 9 := H.1
theorem Fix.f1 {x : Nat} {ow : Nat → Nat} {h : Hp} (H : Fix x ow h) : fR h 256 x = some (x + 1) := H.2.1
theorem Fix.f2 {x : Nat} {ow : Nat → Nat} {h : Hp} (H : Fix x ow h) : fR h 257 x = some (x + 2) := H.2.2.1
theorem Fix.k1 {x : Nat} {ow : Nat → Nat} {h : Hp} (H : Fix x ow h) : kd h (x + 1) = 23 := H.2.2.2.1
theorem Fix.l1 {x : Nat} {ow : Nat → Nat} {h : Hp} (H : Fix x ow h) : ln h (x + 1) = 4 := H.2.2.2.2.1
theorem Fix.o1 {x : Nat} {ow : Nat → Nat} {h : Hp} (H : Fix x ow h) : ow (x + 1) = 0 := H.2.2.2.2.2.1
theorem Fix.k2 {x : Nat} {ow : Nat → Nat} {h : Hp} (H : Fix x ow h) : kd h (x + 2) = 24 := H.2.2.2.2.2.2.1
theorem Fix.l2 {x : Nat} {ow : Nat → Nat} {h : Hp} (H : Fix x ow h) : ln h (x + 2) = 16 := H.2.2.2.2.2.2.2.1
theorem Fix.o2 {x : Nat} {ow : Nat → Nat} {h : Hp} (H : Fix x ow h) : ow (x + 2) = 0 := H.2.2.2.2.2.2.2.2.1
theorem Fix.s {x : Nat} {ow : Nat → Nat} {h : Hp} (H : Fix x ow h) : x + 115 ≤ sz h := H.2.2.2.2.2.2.2.2.2.1
theorem Fix.r {x : Nat} {ow : Nat → Nat} {h : Hp} (H : Fix x ow h) : ∀ r, r < 4 → FixR x r ow h := H.2.2.2.2.2.2.2.2.2.2.1
theorem Fix.w {x : Nat} {ow : Nat → Nat} {h : Hp} (H : Fix x ow h) : ∀ w, w < 16 → aR h (x + 2) w = some (x + 83 + 2 * w) ∧ kd h (x + 83 + 2 * w) = 8 ∧ fR h 224 (x + 83 + 2 * w) = some (wl x w) := H.2.2.2.2.2.2.2.2.2.2.2
/-- what is not written stays -/
theorem Fz.kp {S : Nat → Prop} {ow : Nat → Nat} {h h' : Hp} (F : Fz S ow h h') {q : Nat} (hq : q < sz h) : kd h' q = kd h q ∧ ln h' q = ln h q := ⟨(F.2.2 q hq).1, (F.2.2 q hq).2.1⟩
theorem Fz.im {S : Nat → Prop} {ow : Nat → Nat} {h h' : Hp} (F : Fz S ow h h') {q f : Nat} (hq : q < sz h) (hf : ¬ muF f) : fI h' f q = fI h f q ∧ fR h' f q = fR h f q := (F.2.2 q hq).2.2.1 f hf
theorem Fz.un {S : Nat → Prop} {ow : Nat → Nat} {h h' : Hp} (F : Fz S ow h h') {q : Nat} (hq : q < sz h) (hs : ¬ S (ow q)) : (∀ f, fI h' f q = fI h f q ∧ fR h' f q = fR h f q) ∧ aI h' q = aI h q ∧ aR h' q = aR h q := (F.2.2 q hq).2.2.2 hs
theorem nmu {f : Nat} (h : f ≠ 65 ∧ f ≠ 66 ∧ f ≠ 168 ∧ f ≠ 169 ∧ f ≠ 309 ∧ f ≠ 320 ∧ f ≠ 321 ∧ f ≠ 322) : ¬ muF f := by unfold muF; omega
theorem FixR.fz {x r : Nat} {S : Nat → Prop} {ow ow' : Nat → Nat} {h h' : Hp} (H : FixR x r ow h) (F : Fz S ow h h') (O : Og (sz h) ow ow') (hs : ¬ S 0) (hx : ow (x + 1) = 0) (hr : r < 4) (hz : x + 83 ≤ sz h) : FixR x r ow' h' := by
  have hb : rb x r + 20 ≤ x + 83 := by unfold rb; omega
  have k_ := fun (q : Nat) (hq : q < sz h) => (F.kp hq).1
  have l_ := fun (q : Nat) (hq : q < sz h) => (F.kp hq).2
  have fI_ := fun (f q : Nat) (hq : q < sz h) (hf : ¬ muF f) => (F.im hq hf).1
  have fR_ := fun (f q : Nat) (hq : q < sz h) (hf : ¬ muF f) => (F.im hq hf).2
  have a_ := fun (q : Nat) (hq : q < sz h) (ho : ow q = 0) => (F.un hq (by rw [ho]; exact hs)).2.2
  refine ⟨by rw [a_ _ (by omega) hx]; exact H.ar, (k_ _ (by omega)).trans H.k, (fI_ _ _ (by omega) (nmu (by decide))).trans H.sf, (fR_ _ _ (by omega) (nmu (by decide))).trans H.f1, (fR_ _ _ (by omega) (nmu (by decide))).trans H.f2, (fR_ _ _ (by omega) (nmu (by decide))).trans H.f3, (fR_ _ _ (by omega) (nmu (by decide))).trans H.f4, (fR_ _ _ (by omega) (nmu (by decide))).trans H.f5, (fR_ _ _ (by omega) (nmu (by decide))).trans H.f6, (fR_ _ _ (by omega) (nmu (by decide))).trans H.f7, (k_ _ (by omega)).trans H.k1, (l_ _ (by omega)).trans H.l1, (O _ (by omega)).trans H.o1, (k_ _ (by omega)).trans H.k2, (l_ _ (by omega)).trans H.l2, (O _ (by omega)).trans H.o2, (k_ _ (by omega)).trans H.k4, (l_ _ (by omega)).trans H.l4, (O _ (by omega)).trans H.o4, (k_ _ (by omega)).trans H.k5, (l_ _ (by omega)).trans H.l5, (O _ (by omega)).trans H.o5, (O _ (by omega)).trans H.o0, fun i hi => ?_, fun t ht => ?_⟩
  · obtain ⟨c1, c2, c3, c4, c5, c6⟩ := H.ck i hi
    exact ⟨by rw [a_ _ (by omega) H.o1]; exact c1, (k_ _ (by omega)).trans c2, (fR_ _ _ (by omega) (nmu (by decide))).trans c3, (k_ _ (by omega)).trans c4, (l_ _ (by omega)).trans c5, (O _ (by omega)).trans c6⟩
  · obtain ⟨c1, c2, c3, c4, c5, c6⟩ := H.tx t ht
    exact ⟨by rw [a_ _ (by omega) H.o5]; exact c1, (k_ _ (by omega)).trans c2, (fR_ _ _ (by omega) (nmu (by decide))).trans c3, (k_ _ (by omega)).trans c4, (fR_ _ _ (by omega) (nmu (by decide))).trans c5, (O _ (by omega)).trans c6⟩
theorem Fix.fz {x : Nat} {S : Nat → Prop} {ow ow' : Nat → Nat} {h h' : Hp} (H : Fix x ow h) (F : Fz S ow h h') (O : Og (sz h) ow ow') (hs : ¬ S 0) : Fix x ow' h' := by
  have hz := H.s
  have k_ := fun (q : Nat) (hq : q < sz h) => (F.kp hq).1
  have l_ := fun (q : Nat) (hq : q < sz h) => (F.kp hq).2
  have fR_ := fun (f q : Nat) (hq : q < sz h) (hf : ¬ muF f) => (F.im hq hf).2
  have a_ := fun (q : Nat) (hq : q < sz h) (ho : ow q = 0) => (F.un hq (by rw [ho]; exact hs)).2.2
  refine ⟨(k_ _ (by omega)).trans H.k, (fR_ _ _ (by omega) (nmu (by decide))).trans H.f1, (fR_ _ _ (by omega) (nmu (by decide))).trans H.f2, (k_ _ (by omega)).trans H.k1, (l_ _ (by omega)).trans H.l1, (O _ (by omega)).trans H.o1, (k_ _ (by omega)).trans H.k2, (l_ _ (by omega)).trans H.l2, (O _ (by omega)).trans H.o2, Nat.le_trans H.s F.1, fun r hr => (H.r r hr).fz F O hs H.o1 hr (by omega), fun w hw => ?_⟩
  obtain ⟨c1, c2, c3⟩ := H.w w hw
  exact ⟨by rw [a_ _ (by omega) H.o2]; exact c1, (k_ _ (by omega)).trans c2, (fR_ _ _ (by omega) (nmu (by decide))).trans c3⟩
/-! clocks, operations, messages: they never change once made -/
def CkR (ow : Nat → Nat) (h : Hp) (c : Nat) (f : Nat → Nat) : Prop := c < sz h ∧ kd h c = 2 ∧ ∃ e, fR h 32 c = some e ∧ e < sz h ∧ kd h e = 20 ∧ ln h e = 4 ∧ ow e = 0 ∧ ∀ j, j < 4 → aI h e j = nI (f j)
theorem CkR.fz {S : Nat → Prop} {ow ow' : Nat → Nat} {h h' : Hp} {c : Nat} {f : Nat → Nat} (H : CkR ow h c f) (F : Fz S ow h h') (O : Og (sz h) ow ow') (hs : ¬ S 0) : CkR ow' h' c f := by
  obtain ⟨h1, h2, e, h3, h4, h5, h6, h7, h8⟩ := H
  have hz := F.1
  exact ⟨by omega, (F.kp h1).1.trans h2, e, (F.im h1 (nmu (by decide))).2.trans h3, by omega, (F.kp h4).1.trans h5, (F.kp h4).2.trans h6, (O e h4).trans h7, fun j hj => by rw [(F.un h4 (by rw [h7]; exact hs)).2.1]; exact h8 j hj⟩
theorem CkR.cg {ow : Nat → Nat} {h : Hp} {c : Nat} {f g : Nat → Nat} (H : CkR ow h c f) (hf : ∀ j, j < 4 → f j = g j) : CkR ow h c g := by
  obtain ⟨h1, h2, e, h3, h4, h5, h6, h7, h8⟩ := H
  exact ⟨h1, h2, e, h3, h4, h5, h6, h7, fun j hj => by rw [h8 j hj, hf j hj]⟩
/-- the object of an operation -/
def OpR (ow : Nat → Nat) (oa : Nat → Nat) (h : Hp) (s : St) (o : Nat) : Prop := (oa o < sz h) ∧ (kd h (oa o) = 5) ∧ (fI h 129 (oa o) = nI (o / 60)) ∧ (fI h 130 (oa o) = nI (o % 60 + 1)) ∧ (fI h 131 (oa o) = nI (sTm s o)) ∧ (∃ c, fR h 132 (oa o) = some c ∧ CkR ow h c (sCk s o)) ∧ (∃ b, fR h 128 (oa o) = some b ∧ b < sz h ∧ kd h b = 1 ∧ fI h 0 b = nI (sKn s o) ∧ fI h 1 b = nI (sTg s o) ∧ fI h 2 b = sVl s o ∧ fR h 3 b = (sBh s o).map oa)
theorem OpR.s {ow : Nat → Nat} {oa : Nat → Nat} {h : Hp} {s : St} {o : Nat} (H : OpR ow oa h s o) : oa o < sz h := H.1
theorem OpR.k {ow : Nat → Nat} {oa : Nat → Nat} {h : Hp} {s : St} {o : Nat} (H : OpR ow oa h s o) : kd h (oa o) = 5 := H.2.1
theorem OpR.r {ow : Nat → Nat} {oa : Nat → Nat} {h : Hp} {s : St} {o : Nat} (H : OpR ow oa h s o) : fI h 129 (oa o) = nI (o / 60) := H.2.2.1
theorem OpR.n {ow : Nat → Nat} {oa : Nat → Nat} {h : Hp} {s : St} {o : Nat} (H : OpR ow oa h s o) : fI h 130 (oa o) = nI (o % 60 + 1) := H.2.2.2.1
theorem OpR.t {ow : Nat → Nat} {oa : Nat → Nat} {h : Hp} {s : St} {o : Nat} (H : OpR ow oa h s o) : fI h 131 (oa o) = nI (sTm s o) := H.2.2.2.2.1
theorem OpR.c {ow : Nat → Nat} {oa : Nat → Nat} {h : Hp} {s : St} {o : Nat} (H : OpR ow oa h s o) : ∃ c, fR h 132 (oa o) = some c ∧ CkR ow h c (sCk s o) := H.2.2.2.2.2.1
theorem OpR.ch {ow : Nat → Nat} {oa : Nat → Nat} {h : Hp} {s : St} {o : Nat} (H : OpR ow oa h s o) : ∃ b, fR h 128 (oa o) = some b ∧ b < sz h ∧ kd h b = 1 ∧ fI h 0 b = nI (sKn s o) ∧ fI h 1 b = nI (sTg s o) ∧ fI h 2 b = sVl s o ∧ fR h 3 b = (sBh s o).map oa := H.2.2.2.2.2.2
theorem OpR.fz {S : Nat → Prop} {ow ow' oa : Nat → Nat} {h h' : Hp} {s : St} {o : Nat} (H : OpR ow oa h s o) (F : Fz S ow h h') (O : Og (sz h) ow ow') (hs : ¬ S 0) : OpR ow' oa h' s o := by
  have hz := F.1
  have h1 := H.s
  obtain ⟨c, c1, c2⟩ := H.c
  obtain ⟨b, b1, b2, b3, b4, b5, b6, b7⟩ := H.ch
  exact ⟨by omega, (F.kp h1).1.trans H.k, (F.im h1 (nmu (by decide))).1.trans H.r, (F.im h1 (nmu (by decide))).1.trans H.n, (F.im h1 (nmu (by decide))).1.trans H.t, ⟨c, (F.im h1 (nmu (by decide))).2.trans c1, c2.fz F O hs⟩, ⟨b, (F.im h1 (nmu (by decide))).2.trans b1, by omega, (F.kp b2).1.trans b3, (F.im b2 (nmu (by decide))).1.trans b4, (F.im b2 (nmu (by decide))).1.trans b5, (F.im b2 (nmu (by decide))).1.trans b6, (F.im b2 (nmu (by decide))).2.trans b7⟩⟩
/-- the same operation in another state -/
theorem OpR.cg {ow oa oa' : Nat → Nat} {h : Hp} {s s' : St} {o : Nat} (H : OpR ow oa h s o) (e0 : oa' o = oa o) (e1 : sTm s' o = sTm s o) (e2 : sCk s' o = sCk s o) (e3 : sKn s' o = sKn s o) (e4 : sTg s' o = sTg s o) (e5 : sVl s' o = sVl s o) (e6 : sBh s' o = sBh s o) (e7 : ∀ p, sBh s o = some p → oa' p = oa p) : OpR ow oa' h s' o := by
  unfold OpR
  rw [e0, e1, e2, e3, e4, e5, e6]
  have : (sBh s o).map oa' = (sBh s o).map oa := by
    cases hb : sBh s o with
    | none => rfl
    | some p => exact congrArg some (e7 p hb)
  rw [this]
  exact H
/-- a message at address m -/
def MsR (ow oa : Nat → Nat) (h : Hp) (m : Nat) (q : Mg) : Prop := m < sz h ∧ kd h m = 4 ∧ fI h 96 m = nI q.1 ∧ fI h 97 m = nI (if q.1 = 0 then q.2.1 / 60 else q.2.1) ∧ (∃ c, fR h 98 m = some c ∧ CkR ow h c q.2.2) ∧ fR h 99 m = if q.1 = 0 then some (oa q.2.1) else none
theorem MsR.fz {S : Nat → Prop} {ow ow' oa : Nat → Nat} {h h' : Hp} {m : Nat} {q : Mg} (H : MsR ow oa h m q) (F : Fz S ow h h') (O : Og (sz h) ow ow') (hs : ¬ S 0) : MsR ow' oa h' m q := by
  obtain ⟨h1, h2, h3, h4, ⟨c, c1, c2⟩, h5⟩ := H
  have hz := F.1
  exact ⟨by omega, (F.kp h1).1.trans h2, (F.im h1 (nmu (by decide))).1.trans h3, (F.im h1 (nmu (by decide))).1.trans h4, ⟨c, (F.im h1 (nmu (by decide))).2.trans c1, c2.fz F O hs⟩, (F.im h1 (nmu (by decide))).2.trans h5⟩
theorem MsR.cg {ow oa oa' : Nat → Nat} {h : Hp} {m : Nat} {q : Mg} (H : MsR ow oa h m q) (e : q.1 = 0 → oa' q.2.1 = oa q.2.1) : MsR ow oa' h m q := by
  obtain ⟨h1, h2, h3, h4, h6, h5⟩ := H
  refine ⟨h1, h2, h3, h4, h6, h5.trans ?_⟩
  split
  · rename_i h; rw [e h]
  · rfl
/-- the messages of a way -/
def WyR (ow oa : Nat → Nat) (h : Hp) (x w : Nat) (l : List Mg) : Prop := ∃ ms : List Nat, Ls ow h (wl x w) ms ∧ ms.length = l.length ∧ ∀ k, k < l.length → MsR ow oa h (ms.getD k 0) (l.getD k (0, 0, fun _ => 0))
theorem WyR.fz {S : Nat → Prop} {ow ow' oa : Nat → Nat} {h h' : Hp} {x w : Nat} {l : List Mg} (H : WyR ow oa h x w l) (F : Fz S ow h h') (O : Og (sz h) ow ow') (hs : ¬ S 0) (hw : ¬ S (wl x w)) : WyR ow' oa h' x w l := by
  obtain ⟨ms, h1, h2, h3⟩ := H
  exact ⟨ms, h1.fz F O hw, h2, fun k hk => (h3 k hk).fz F O hs⟩
/-- letters from a link on; the letter of o lies at la o -/
def Sgm (ow oa la : Nat → Nat) (h : Hp) (T : Nat) (gn : Nat → Bool) : Option Nat → List Nat → Prop
  | p, [] => p = none
  | p, o :: l => p = some (la o) ∧ la o < sz h ∧ kd h (la o) = 3 ∧ ow (la o) = T ∧ fR h 64 (la o) = some (oa o) ∧ fI h 65 (la o) = nI (nb (gn o)) ∧ Sgm ow oa la h T gn (fR h 66 (la o)) l
theorem Sgm.fz {S : Nat → Prop} {ow ow' oa la : Nat → Nat} {h h' : Hp} {T : Nat} {gn : Nat → Bool} (F : Fz S ow h h') (O : Og (sz h) ow ow') (hs : ¬ S T) : ∀ (l : List Nat) (p : Option Nat), Sgm ow oa la h T gn p l → Sgm ow' oa la h' T gn p l := by
  intro l
  have hz := F.1
  induction l with
  | nil => intro p H; exact H
  | cons o l ih =>
    intro p H
    obtain ⟨h1, h2, h3, h4, h5, h6, h7⟩ := H
    have u := (F.un h2 (by rw [h4]; exact hs)).1
    refine ⟨h1, by omega, (F.kp h2).1.trans h3, (O _ h2).trans h4, (u 64).2.trans h5, (u 65).1.trans h6, ?_⟩
    rw [(u 66).2]
    exact ih _ h7
theorem Sgm.cg {ow oa oa' la la' : Nat → Nat} {h : Hp} {T : Nat} {gn gn' : Nat → Bool} : ∀ (l : List Nat) (p : Option Nat), (∀ o, o ∈ l → oa' o = oa o ∧ la' o = la o ∧ gn' o = gn o) → Sgm ow oa la h T gn p l → Sgm ow oa' la' h T gn' p l := by
  intro l
  induction l with
  | nil => intro p _ H; exact H
  | cons o l ih =>
    intro p e H
    obtain ⟨h1, h2, h3, h4, h5, h6, h7⟩ := H
    obtain ⟨e1, e2, e3⟩ := e o List.mem_cons_self
    unfold Sgm
    rw [e1, e2, e3]
    exact ⟨h1, h2, h3, h4, h5, h6, ih _ (fun q hq => e q (List.mem_cons_of_mem _ hq)) h7⟩
/-- what a replica holds -/
def RpR (ow : Nat → Nat) (oa : Nat → Nat) (la : Nat → Nat → Nat) (tx : Nat → Nat → List Nat) (h : Hp) (x : Nat) (s : St) (r : Nat) : Prop := (fI h 168 (rb x r) = nI (sTi s r)) ∧ (fI h 169 (rb x r) = nI (nb (sUp s r))) ∧ (∀ i j, i < 4 → j < 4 → aI h (rb x r + 9 + 2 * i) j = nI (kno s r i j)) ∧ (∀ c, c < 2 → aI h (rb x r + 2) c = cs s r (nI c)) ∧ (Ls ow h (rb x r + 3) ((sp s r).map oa)) ∧ (∀ c, c < 2 → aR h (rb x r + 4) c = (wr s r (nI c)).map oa) ∧ (Ls ow h (rb x r + 6) ((lg s r).map oa)) ∧ (Ls ow h (rb x r + 7) ((sWt s r).map oa)) ∧ (∀ t, t < 2 → Sgm ow oa (la r) h (rb x r + 16 + 2 * t) (rmd s r) (fR h 66 (rb x r + 17 + 2 * t)) (tx r t))
theorem RpR.ti {ow : Nat → Nat} {oa : Nat → Nat} {la : Nat → Nat → Nat} {tx : Nat → Nat → List Nat} {h : Hp} {x : Nat} {s : St} {r : Nat} (H : RpR ow oa la tx h x s r) : fI h 168 (rb x r) = nI (sTi s r) := H.1
theorem RpR.up {ow : Nat → Nat} {oa : Nat → Nat} {la : Nat → Nat → Nat} {tx : Nat → Nat → List Nat} {h : Hp} {x : Nat} {s : St} {r : Nat} (H : RpR ow oa la tx h x s r) : fI h 169 (rb x r) = nI (nb (sUp s r)) := H.2.1
theorem RpR.kn {ow : Nat → Nat} {oa : Nat → Nat} {la : Nat → Nat → Nat} {tx : Nat → Nat → List Nat} {h : Hp} {x : Nat} {s : St} {r : Nat} (H : RpR ow oa la tx h x s r) : ∀ i j, i < 4 → j < 4 → aI h (rb x r + 9 + 2 * i) j = nI (kno s r i j) := H.2.2.1
theorem RpR.sm {ow : Nat → Nat} {oa : Nat → Nat} {la : Nat → Nat → Nat} {tx : Nat → Nat → List Nat} {h : Hp} {x : Nat} {s : St} {r : Nat} (H : RpR ow oa la tx h x s r) : ∀ c, c < 2 → aI h (rb x r + 2) c = cs s r (nI c) := H.2.2.2.1
theorem RpR.sp {ow : Nat → Nat} {oa : Nat → Nat} {la : Nat → Nat → Nat} {tx : Nat → Nat → List Nat} {h : Hp} {x : Nat} {s : St} {r : Nat} (H : RpR ow oa la tx h x s r) : Ls ow h (rb x r + 3) ((sp s r).map oa) := H.2.2.2.2.1
theorem RpR.wr {ow : Nat → Nat} {oa : Nat → Nat} {la : Nat → Nat → Nat} {tx : Nat → Nat → List Nat} {h : Hp} {x : Nat} {s : St} {r : Nat} (H : RpR ow oa la tx h x s r) : ∀ c, c < 2 → aR h (rb x r + 4) c = (wr s r (nI c)).map oa := H.2.2.2.2.2.1
theorem RpR.lg {ow : Nat → Nat} {oa : Nat → Nat} {la : Nat → Nat → Nat} {tx : Nat → Nat → List Nat} {h : Hp} {x : Nat} {s : St} {r : Nat} (H : RpR ow oa la tx h x s r) : Ls ow h (rb x r + 6) ((lg s r).map oa) := H.2.2.2.2.2.2.1
theorem RpR.wt {ow : Nat → Nat} {oa : Nat → Nat} {la : Nat → Nat → Nat} {tx : Nat → Nat → List Nat} {h : Hp} {x : Nat} {s : St} {r : Nat} (H : RpR ow oa la tx h x s r) : Ls ow h (rb x r + 7) ((sWt s r).map oa) := H.2.2.2.2.2.2.2.1
theorem RpR.tx {ow : Nat → Nat} {oa : Nat → Nat} {la : Nat → Nat → Nat} {tx : Nat → Nat → List Nat} {h : Hp} {x : Nat} {s : St} {r : Nat} (H : RpR ow oa la tx h x s r) : ∀ t, t < 2 → Sgm ow oa (la r) h (rb x r + 16 + 2 * t) (rmd s r) (fR h 66 (rb x r + 17 + 2 * t)) (tx r t) := H.2.2.2.2.2.2.2.2
theorem RpR.fz {S : Nat → Prop} {ow ow' oa : Nat → Nat} {la : Nat → Nat → Nat} {tx : Nat → Nat → List Nat} {h h' : Hp} {x r : Nat} {s : St} (H : RpR ow oa la tx h x s r) (X : FixR x r ow h) (F : Fz S ow h h') (O : Og (sz h) ow ow') (hs : ∀ q, Bk x r q → ¬ S q) (hz : rb x r + 20 ≤ sz h) : RpR ow' oa la tx h' x s r := by
  have b_ := fun (k : Nat) (hk : k < 20) => hs (rb x r + k) ⟨by omega, by omega⟩
  have u0 := (F.un (q := rb x r) (by omega) (by rw [X.o0]; exact b_ 0 (by omega))).1
  refine ⟨(u0 168).1.trans H.ti, (u0 169).1.trans H.up, fun i j hi hj => ?_, fun c hc => ?_, H.sp.fz F O (b_ 3 (by omega)), fun c hc => ?_, H.lg.fz F O (b_ 6 (by omega)), H.wt.fz F O (b_ 7 (by omega)), fun t ht => ?_⟩
  · rw [(F.un (by omega) (by rw [(X.ck i hi).2.2.2.2.2]; exact b_ 1 (by omega))).2.1]; exact H.kn i j hi hj
  · rw [(F.un (by omega) (by rw [X.o2]; exact b_ 2 (by omega))).2.1]; exact H.sm c hc
  · rw [(F.un (by omega) (by rw [X.o4]; exact b_ 4 (by omega))).2.2]; exact H.wr c hc
  · have hT : ¬ S (rb x r + 16 + 2 * t) := by rw [Nat.add_assoc]; exact b_ (16 + 2 * t) (by omega)
    rw [((F.un (q := rb x r + 17 + 2 * t) (by omega) (by rw [(X.tx t ht).2.2.2.2.2]; exact hT)).1 66).2]
    exact Sgm.fz F O hT _ _ (H.tx t ht)
/-- what the class holds -/
def CR (ow : Nat → Nat) (oa : Nat → Nat) (la : Nat → Nat → Nat) (tx : Nat → Nat → List Nat) (h : Hp) (x : Nat) (s : St) : Prop := (Fix x ow h) ∧ (∀ o, mad s o → OpR ow oa h s o) ∧ (∀ r, r < 4 → RpR ow oa la tx h x s r) ∧ (∀ w, w < 16 → WyR ow oa h x w (sWy s w))
theorem CR.fx {ow : Nat → Nat} {oa : Nat → Nat} {la : Nat → Nat → Nat} {tx : Nat → Nat → List Nat} {h : Hp} {x : Nat} {s : St} (H : CR ow oa la tx h x s) : Fix x ow h := H.1
theorem CR.op {ow : Nat → Nat} {oa : Nat → Nat} {la : Nat → Nat → Nat} {tx : Nat → Nat → List Nat} {h : Hp} {x : Nat} {s : St} (H : CR ow oa la tx h x s) : ∀ o, mad s o → OpR ow oa h s o := H.2.1
theorem CR.rp {ow : Nat → Nat} {oa : Nat → Nat} {la : Nat → Nat → Nat} {tx : Nat → Nat → List Nat} {h : Hp} {x : Nat} {s : St} (H : CR ow oa la tx h x s) : ∀ r, r < 4 → RpR ow oa la tx h x s r := H.2.2.1
theorem CR.wy {ow : Nat → Nat} {oa : Nat → Nat} {la : Nat → Nat → Nat} {tx : Nat → Nat → List Nat} {h : Hp} {x : Nat} {s : St} (H : CR ow oa la tx h x s) : ∀ w, w < 16 → WyR ow oa h x w (sWy s w) := H.2.2.2
/-- two made operations are two objects -/
theorem oa_inj {ow oa : Nat → Nat} {h : Hp} {s s' : St} {o p : Nat} (H : OpR ow oa h s o) (K : OpR ow oa h s' p) (ho : o < 240) (hp : p < 240) : oa o = oa p ↔ o = p := by
  refine ⟨fun e => ?_, fun e => by rw [e]⟩
  have h1 := H.r
  have h2 := H.n
  rw [e, K.r, ar_eq (by omega) (by omega)] at h1
  rw [e, K.n, ar_eq (by omega) (by omega)] at h2
  exact op_eq h1.symm (by omega)
theorem rb_ne {x r r' q : Nat} (h : r' ≠ r) (hq : Bk x r q) : ¬ Bk x r' q := by unfold Bk rb at *; omega
theorem wl_nb {x r w q : Nat} (hr : r < 4) (hq : Bk x r q) : q ≠ wl x w := by unfold Bk rb wl at *; omega
theorem rb_sz {x r : Nat} {ow : Nat → Nat} {h : Hp} (H : Fix x ow h) (hr : r < 4) : rb x r + 20 ≤ sz h := by have := H.s; unfold rb; omega
theorem bk_0 {x r : Nat} : ¬ Bk x r 0 := by unfold Bk rb; omega
