/-! texts: a new letter -/
theorem insR_m2 {s : St} {o z : Nat} : ∀ R : List Nat, z ∈ insR s o R ↔ z = o ∨ z ∈ R := by
  intro R
  induction R with
  | nil => exact List.mem_singleton.trans ⟨Or.inl, fun h => h.resolve_right List.not_mem_nil⟩
  | cons y R ih =>
    show z ∈ (if gtm s y o = true then y :: insR s o R else o :: y :: R) ↔ _
    split
    · rw [List.mem_cons, ih, List.mem_cons]
      exact ⟨fun h => by rcases h with h | h | h <;> simp [h], fun h => by rcases h with h | h | h <;> simp [h]⟩
    · rw [List.mem_cons]
/-- strictly falling marks -/
abbrev Dn_ (s : St) (l : List Nat) : Prop := l.Pairwise (fun a b => gtm s a b = true)
theorem insR_dn {s : St} {o : Nat} : ∀ R : List Nat, Dn_ s R → (∀ y, y ∈ R → gtm s y o = true ∨ gtm s o y = true) → Dn_ s (insR s o R) := by
  intro R
  induction R with
  | nil => intro _ _; exact List.pairwise_singleton _ _
  | cons y R ih =>
    intro hd hc
    obtain ⟨d1, d2⟩ := List.pairwise_cons.mp hd
    show Dn_ s (if gtm s y o = true then y :: insR s o R else o :: y :: R)
    split
    · rename_i h
      refine List.pairwise_cons.mpr ⟨fun z hz => ?_, ih d2 (fun z hz => hc z (List.mem_cons_of_mem _ hz))⟩
      rcases (insR_m2 R).mp hz with h1 | h1
      · rw [h1]; exact h
      · exact d1 z h1
    · rename_i h
      have h1 := (hc y List.mem_cons_self).resolve_left h
      refine List.pairwise_cons.mpr ⟨fun z hz => ?_, hd⟩
      rcases List.mem_cons.mp hz with h2 | h2
      · rw [h2]; exact h1
      · exact gtm_tr h1 (d1 z h2)
theorem insR_cm {s : St} {a b : Nat} (h : gtm s a b = true ∨ gtm s b a = true) (R : List Nat) : insR s b (insR s a R) = insR s a (insR s b R) := by
  have key : ∀ a b : Nat, gtm s a b = true → ∀ R, insR s b (insR s a R) = insR s a (insR s b R) := by
    intro a b h R
    have h' := gtm_as h
    induction R with
    | nil =>
      show (if gtm s a b = true then a :: [b] else b :: a :: []) = (if gtm s b a = true then b :: [a] else a :: b :: [])
      rw [if_pos h, if_neg (by rw [h']; exact Bool.false_ne_true)]
    | cons y R ih =>
      by_cases h1 : gtm s y a = true
      · have h2 : gtm s y b = true := gtm_tr h1 h
        simp only [insR, h1, h2, if_true, ih]
      · by_cases h2 : gtm s y b = true
        · simp only [insR, h1, h2, h, if_true, if_false, Bool.false_eq_true]
        · simp only [insR, h1, h2, h, h', if_true, if_false, Bool.false_eq_true]
  rcases h with h | h
  · exact key a b h R
  · exact (key b a h R).symm
theorem insR_doo (s : St) (r o x : Nat) : ∀ R : List Nat, insR (doo s r o) x R = insR s x R := by
  intro R
  induction R with
  | nil => rfl
  | cons y R ih =>
    show (if gtm (doo s r o) y x = true then y :: insR (doo s r o) x R else x :: y :: R) = (if gtm s y x = true then y :: insR s x R else x :: y :: R)
    rw [ih]
    rfl
theorem chl_eq (s : St) (r t : Nat) (a : Option Nat) : chl s r t a = rg.foldl (fun R x => if isCh s r t a x = true then insR s x R else R) [] := rfl
theorem chl_all {s : St} {r t : Nat} {a : Option Nat} (H : Inv s) (hr : r < 4) : Dn_ s (chl s r t a) ∧ ∀ z, z ∈ chl s r t a ↔ z < 240 ∧ isCh s r t a z = true := by
  have : ∀ (l R : List Nat), l.Nodup → (∀ x ∈ l, x ∉ R) → Dn_ s R → (∀ z ∈ R, isCh s r t a z = true) → Dn_ s (l.foldl (chF s r t a) R) ∧ ∀ z, z ∈ l.foldl (chF s r t a) R ↔ z ∈ R ∨ (z ∈ l ∧ isCh s r t a z = true) := by
    intro l
    induction l with
    | nil => intro R _ _ h1 _; exact ⟨h1, fun z => ⟨Or.inl, fun h => h.resolve_right (fun q => List.not_mem_nil q.1)⟩⟩
    | cons y l ih =>
      intro R hd hn h1 h2
      obtain ⟨d1, d2⟩ := List.nodup_cons.mp hd
      rw [List.foldl_cons]
      by_cases hc : isCh s r t a y = true
      · have e : chF s r t a R y = insR s y R := if_pos hc
        rw [e]
        have hyR := hn y List.mem_cons_self
        obtain ⟨g1, g2⟩ := ih (insR s y R) d2 (fun x hx z => by
          rcases (insR_m2 R).mp z with q | q
          · exact d1 (q ▸ hx)
          · exact hn x (List.mem_cons_of_mem _ hx) q) (insR_dn R h1 (fun z hz => gtm_tot H (mad_dn H hr (of_decide_eq_true (h2 z hz)).1) (mad_dn H hr (of_decide_eq_true hc).1) (fun q => hyR (q ▸ hz)))) (fun z hz => by
          rcases (insR_m2 R).mp hz with q | q
          · rw [q]; exact hc
          · exact h2 z q)
        refine ⟨g1, fun z => (g2 z).trans ?_⟩
        rw [insR_m2, List.mem_cons]
        constructor
        · rintro ((q | q) | ⟨q1, q2⟩)
          · exact Or.inr ⟨Or.inl q, q ▸ hc⟩
          · exact Or.inl q
          · exact Or.inr ⟨Or.inr q1, q2⟩
        · rintro (q | ⟨q1 | q1, q2⟩)
          · exact Or.inl (Or.inr q)
          · exact Or.inl (Or.inl q1)
          · exact Or.inr ⟨q1, q2⟩
      · have e : chF s r t a R y = R := if_neg hc
        rw [e]
        obtain ⟨g1, g2⟩ := ih R d2 (fun x hx => hn x (List.mem_cons_of_mem _ hx)) h1 h2
        refine ⟨g1, fun z => (g2 z).trans ?_⟩
        rw [List.mem_cons]
        constructor
        · rintro (q | ⟨q1, q2⟩)
          · exact Or.inl q
          · exact Or.inr ⟨Or.inr q1, q2⟩
        · rintro (q | ⟨q1 | q1, q2⟩)
          · exact Or.inl q
          · exact absurd (q1 ▸ q2) hc
          · exact Or.inr ⟨q1, q2⟩
  obtain ⟨g1, g2⟩ := this rg [] rg_nd (fun _ _ => List.not_mem_nil) List.Pairwise.nil (fun _ h => absurd h List.not_mem_nil)
  refine ⟨g1, fun z => (g2 z).trans ?_⟩
  rw [rg_mem]
  exact ⟨fun h => h.resolve_left List.not_mem_nil, Or.inr⟩
theorem isCh_ne {s : St} {r o t x : Nat} {a : Option Nat} (h : x ≠ o) : isCh (doo s r o) r t a x = isCh s r t a x := by
  unfold isCh
  simp only [dn_ne h]
  rfl
theorem isCh_o {s : St} {r o t : Nat} {a : Option Nat} : isCh (doo s r o) r t a o = decide (sKn s o = 4 ∧ sTg s o = t ∧ sBh s o = a) := by
  unfold isCh
  simp only [dn_mem, or_true, true_and]
  rfl
theorem isCh_n {s : St} {r o t : Nat} {a : Option Nat} (h : o ∉ sDn s r) : isCh s r t a o = false := decide_eq_false (fun z => h z.1)
theorem chl_doo {s : St} {r o t : Nat} {a : Option Nat} (H : Dk s r o) : chl (doo s r o) r t a = if sKn s o = 4 ∧ sTg s o = t ∧ sBh s o = a then insR s o (chl s r t a) else chl s r t a := by
  rw [chl_eq, chl_eq]
  simp only [insR_doo]
  split
  · rename_i h
    refine fold_one (fun R x => insR s x R) (isCh s r t a) (isCh (doo s r o) r t a) o rg [] rg_nd (rg_mem.mpr H.o2) (isCh_n H.nd) (by rw [isCh_o]; exact decide_eq_true h) (fun x hx => isCh_ne hx) (fun x _ hx b => insR_cm ?_ b)
    have hd := (of_decide_eq_true hx).1
    exact H.tot H.mo (H.mp hd) (fun z => H.nd (z ▸ hd))
  · rename_i h
    exact fold_same (fun R x => insR s x R) (isCh s r t a) (isCh (doo s r o) r t a) (fun x => by
      by_cases hx : x = o
      · rw [hx, isCh_o, isCh_n H.nd]; exact decide_eq_false h
      · exact isCh_ne hx) rg []
theorem chl_oth {s : St} {r o r' t : Nat} {a : Option Nat} (h : r' ≠ r) : chl (doo s r o) r' t a = chl s r' t a := by
  unfold chl
  congr 1
  funext R x
  unfold chF isCh
  simp only [dn_oth h, insR_doo]
  rfl
theorem Dfs_cg {ch ch' : Nat → List Nat} : ∀ (l S : List Nat), (∀ a, a ∈ l → ch' a = ch a) → Dfs ch l S → Dfs ch' l S := by
  intro l
  induction l with
  | nil => intro S _ h; exact h
  | cons y l ih =>
    intro S hc h
    obtain ⟨S', h1, h2⟩ := h
    refine ⟨S', h1, ?_⟩
    rw [hc y List.mem_cons_self]
    exact ih _ (fun a ha => hc a (List.mem_cons_of_mem _ ha)) h2
theorem Dfs_2 {s : St} {o : Nat} {ch ch' : Nat → List Nat} (ho : ch' o = []) : ∀ (l A B : List Nat), (∀ a, a ∈ l → ch' a = ch a) → (∀ y, y ∈ l → ∀ z, z ∈ ch y → gtm s z y = true) → (∀ y, y ∈ A → gtm s y o = true) → (∀ y, y ∈ B → ¬ gtm s y o = true) → Dfs ch l (A ++ B) → Dfs ch' (insR s o l) (A ++ o :: B) := by
  intro l
  induction l with
  | nil =>
    intro A B _ _ _ _ h
    obtain ⟨h1, h2⟩ := List.append_eq_nil_iff.mp (show A ++ B = [] from h)
    rw [h1, h2]
    exact ⟨[], rfl, by rw [ho]; rfl⟩
  | cons y l ih =>
    intro A B hc hg hA hB h
    obtain ⟨S', h1, h2⟩ := h
    cases A with
    | nil =>
      have hy : ¬ gtm s y o = true := hB y (by rw [show B = y :: S' from h1]; exact List.mem_cons_self)
      have e : insR s o (y :: l) = o :: y :: l := if_neg hy
      rw [e]
      refine ⟨B, rfl, ?_⟩
      rw [ho]
      exact Dfs_cg (y :: l) B hc ⟨S', h1, h2⟩
    | cons a A =>
      have ha : a = y ∧ A ++ B = S' := by
        have := List.cons.inj (show a :: (A ++ B) = y :: S' from h1)
        exact this
      obtain ⟨rfl, rfl⟩ := ha
      have hy := hA a List.mem_cons_self
      have e : insR s o (a :: l) = a :: insR s o l := if_pos hy
      rw [e]
      refine ⟨A ++ o :: B, rfl, ?_⟩
      rw [hc a List.mem_cons_self, ← List.append_assoc]
      rw [← List.append_assoc] at h2
      refine ih (ch a ++ A) B (fun x hx => hc x (List.mem_cons_of_mem _ hx)) (fun x hx => hg x (List.mem_cons_of_mem _ hx)) (fun x hx => ?_) hB h2
      rcases List.mem_append.mp hx with q | q
      · exact gtm_tr (hg a List.mem_cons_self x q) hy
      · exact hA x (List.mem_cons_of_mem _ q)
theorem insR_split {s : St} {o : Nat} : ∀ R : List Nat, Dn_ s R → ∃ A B, R = A ++ B ∧ insR s o R = A ++ o :: B ∧ (∀ y, y ∈ A → gtm s y o = true) ∧ ∀ y, y ∈ B → ¬ gtm s y o = true := by
  intro R
  induction R with
  | nil => intro _; exact ⟨[], [], rfl, rfl, fun _ h => absurd h List.not_mem_nil, fun _ h => absurd h List.not_mem_nil⟩
  | cons y R ih =>
    intro hd
    obtain ⟨d1, d2⟩ := List.pairwise_cons.mp hd
    by_cases hy : gtm s y o = true
    · obtain ⟨A, B, h1, h2, h3, h4⟩ := ih d2
      refine ⟨y :: A, B, by rw [h1]; rfl, ?_, fun z hz => ?_, h4⟩
      · show (if gtm s y o = true then y :: insR s o R else o :: y :: R) = _
        rw [if_pos hy, h2]; rfl
      · rcases List.mem_cons.mp hz with q | q
        · rw [q]; exact hy
        · exact h3 z q
    · refine ⟨[], y :: R, rfl, if_neg hy, fun _ h => absurd h List.not_mem_nil, fun z hz => ?_⟩
      rcases List.mem_cons.mp hz with q | q
      · rw [q]; exact hy
      · exact fun w => hy (gtm_tr (d1 z q) w)
theorem Dfs_1 {s : St} {o p : Nat} {ch ch' : Nat → List Nat} (ho : ch' o = []) (hp : ch' p = insR s o (ch p)) (hop : gtm s o p = true) (l2 : List Nat) : ∀ (l1 S : List Nat), (l1 ++ p :: l2).Nodup → (∀ a, a ∈ l1 ++ p :: l2 → a ≠ p → ch' a = ch a) → (∀ y, y ∈ l1 ++ p :: l2 → Dn_ s (ch y) ∧ ∀ z, z ∈ ch y → gtm s z y = true) → Dn_ s S → Dfs ch (l1 ++ p :: l2) S → Dfs ch' (l1 ++ p :: insR s o l2) S := by
  intro l1
  induction l1 with
  | nil =>
    intro S hd hc hg hS h
    obtain ⟨S', h1, h2⟩ := h
    refine ⟨S', h1, ?_⟩
    have hd2 := (List.nodup_cons.mp hd).1
    obtain ⟨gp, gp2⟩ := hg p List.mem_cons_self
    obtain ⟨A, B, e1, e2, e3, e4⟩ := insR_split (o := o) (ch p) gp
    rw [hp, e2, List.append_assoc, List.cons_append]
    rw [e1, List.append_assoc] at h2
    subst h1
    have hS2 := (List.pairwise_cons.mp hS).1
    refine Dfs_2 ho l2 A (B ++ S') (fun a ha => hc a (List.mem_cons_of_mem _ ha) (fun z => hd2 (z ▸ ha))) (fun y hy => (hg y (List.mem_cons_of_mem _ hy)).2) e3 (fun y hy => ?_) h2
    rcases List.mem_append.mp hy with q | q
    · exact e4 y q
    · intro w
      have := gtm_as (gtm_tr hop (hS2 y q))
      rw [this] at w
      cases w
  | cons y l1 ih =>
    intro S hd hc hg hS h
    obtain ⟨S', h1, h2⟩ := h
    refine ⟨S', h1, ?_⟩
    subst h1
    obtain ⟨hS1, hS2⟩ := List.pairwise_cons.mp hS
    obtain ⟨d1, d2⟩ := List.nodup_cons.mp hd
    have hyp : y ≠ p := fun z => d1 (by rw [z]; exact List.mem_append.mpr (Or.inr List.mem_cons_self))
    obtain ⟨g1, g2⟩ := hg y List.mem_cons_self
    rw [hc y List.mem_cons_self hyp]
    refine ih _ d2 (fun a ha => hc a (List.mem_cons_of_mem _ ha)) (fun a ha => hg a (List.mem_cons_of_mem _ ha)) ?_ h2
    exact List.pairwise_append.mpr ⟨g1, hS2, fun a ha b hb => gtm_tr (g2 a ha) (hS1 b hb)⟩
/-- the letters of a text, in their order -/
def TL (s : St) (r t : Nat) (l : List Nat) : Prop := TX s r t l ∧ l.Nodup ∧ ∀ o, o ∈ l ↔ o ∈ sDn s r ∧ sKn s o = 4 ∧ sTg s o = t
theorem TL.same {s s' : St} {r t : Nat} {l : List Nat} (H : TL s r t l) (h1 : ∀ a, chl s' r t a = chl s r t a) (h2 : ∀ o, (o ∈ sDn s' r ∧ sKn s' o = 4 ∧ sTg s' o = t) ↔ (o ∈ sDn s r ∧ sKn s o = 4 ∧ sTg s o = t)) : TL s' r t l := by
  refine ⟨⟨?_, H.1.2⟩, H.2.1, fun o => (H.2.2 o).trans (h2 o).symm⟩
  have := H.1.1
  rw [h1, show (fun o => chl s' r t (some o)) = (fun o => chl s r t (some o)) from funext (fun o => h1 _)]
  exact this
theorem TL.oth {s : St} {r o r' t : Nat} {l : List Nat} (H : TL s r' t l) (h : r' ≠ r) : TL (doo s r o) r' t l := H.same (fun _ => chl_oth h) (fun x => by rw [dn_oth h]; exact Iff.rfl)
theorem TL.not {s : St} {r o t : Nat} {l : List Nat} (H : TL s r t l) (hk : Dk s r o) (h : ¬ (sKn s o = 4 ∧ sTg s o = t)) : TL (doo s r o) r t l := H.same (fun a => by rw [chl_doo hk, if_neg (fun z => h ⟨z.1, z.2.1⟩)]) (fun x => by
  rw [dn_mem]
  constructor
  · rintro ⟨h1 | h1, h2, h3⟩
    · exact ⟨h1, h2, h3⟩
    · rw [h1] at h2 h3; exact absurd ⟨h2, h3⟩ h
  · rintro ⟨h1, h2⟩
    exact ⟨Or.inl h1, h2⟩)
/-- a child's mark is greater than its parent's -/
theorem Dk.chi {s : St} {r o t y z : Nat} (H : Dk s r o) (h : z ∈ chl s r t (some y)) : gtm s z y = true := by
  have h1 : z < 240 ∧ isCh s r t (some y) z = true := by
    have : ∀ (l R : List Nat), (∀ x ∈ R, x < 240 ∧ isCh s r t (some y) x = true) → (∀ x ∈ l, x < 240) → ∀ x ∈ l.foldl (chF s r t (some y)) R, x < 240 ∧ isCh s r t (some y) x = true := by
      intro l
      induction l with
      | nil => intro R h _; exact h
      | cons w l ih =>
        intro R h h2
        refine ih _ ?_ (fun x hx => h2 x (List.mem_cons_of_mem _ hx))
        intro x hx
        unfold chF at hx
        split at hx
        · rename_i hc
          rcases (insR_m2 R).mp hx with q | q
          · rw [q]; exact ⟨h2 w List.mem_cons_self, hc⟩
          · exact h x q
        · exact h x hx
    exact this rg [] (fun _ h => absurd h List.not_mem_nil) (fun x hx => rg_mem.mp hx) z h
  have h2 := of_decide_eq_true h1.2
  have hm := H.mp h2.1
  obtain ⟨g1, g2, g3, -, -⟩ := H.gi.2.i14 z y hm h2.2.2.2
  have := (H.gi.2.i10 z y hm g1 g2).2 g3
  exact gtm_iff.mpr (Or.inl this)
theorem Dk.chd {s : St} {r o t : Nat} {a : Option Nat} (H : Dk s r o) : Dn_ s (chl s r t a) := by
  have h1 := (chl_all (t := t) (a := a) H.gi.2 H.r4).1
  rw [chl_doo H] at h1
  split at h1
  · exact (show Dn_ s (insR s o (chl s r t a)) from h1).sublist (by
      have : ∀ R : List Nat, List.Sublist R (insR s o R) := by
        intro R
        induction R with
        | nil => exact List.nil_sublist _
        | cons y R ih =>
          show List.Sublist _ (if gtm s y o = true then y :: insR s o R else o :: y :: R)
          split
          · exact ih.cons_cons y
          · exact List.sublist_cons_self _ _
      exact this _)
  · exact h1
theorem Dk.leaf {s : St} {r o t : Nat} (H : Dk s r o) : chl (doo s r o) r t (some o) = [] := by
  rcases hl : chl (doo s r o) r t (some o) with _ | ⟨z, l⟩
  · rfl
  · exfalso
    have hz := ((chl_all (t := t) (a := some o) H.gi.2 H.r4).2 z).mp (by rw [hl]; exact List.mem_cons_self)
    have h2 := of_decide_eq_true hz.2
    obtain ⟨g1, g2, g3, -, -⟩ := H.gi.2.i14 z o (mad_dn H.gi.2 H.r4 h2.1) h2.2.2.2
    rcases dn_mem.mp h2.1 with q | q
    · exact H.nb q g2
    · exact g3 q.symm
theorem nd_ins {s : St} {o : Nat} : ∀ l : List Nat, l.Nodup → o ∉ l → (insR s o l).Nodup := by
  intro l
  induction l with
  | nil => intro _ _; exact List.nodup_cons.mpr ⟨List.not_mem_nil, List.nodup_nil⟩
  | cons y l ih =>
    intro hd hn
    obtain ⟨d1, d2⟩ := List.nodup_cons.mp hd
    show (if gtm s y o = true then y :: insR s o l else o :: y :: l).Nodup
    split
    · refine List.nodup_cons.mpr ⟨fun z => ?_, ih d2 (fun z => hn (List.mem_cons_of_mem _ z))⟩
      rcases (insR_m2 l).mp z with q | q
      · exact hn (by rw [q]; exact List.mem_cons_self)
      · exact d1 q
    · exact List.nodup_cons.mpr ⟨hn, hd⟩
theorem TL.fin {s : St} {r o t : Nat} {l l' : List Nat} (H : TL s r t l) (hk : Dk s r o) (h4 : sKn s o = 4) (ht : sTg s o = t) (hd : Dfs (fun x => chl (doo s r o) r t (some x)) l' (chl (doo s r o) r t none)) (hn : l'.Nodup) (hm : ∀ x, x ∈ l' ↔ x = o ∨ x ∈ l) : TL (doo s r o) r t l' := by
  have hlt : ∀ x, x ∈ l' → x < 240 := fun x hx => by
    rcases (hm x).mp hx with q | q
    · rw [q]; exact hk.o2
    · exact H.1.2.1 x q
  refine ⟨⟨hd, hlt, nd_len 240 l' hn hlt⟩, hn, fun x => ?_⟩
  rw [hm, H.2.2, dn_mem]
  constructor
  · rintro (q | ⟨q1, q2⟩)
    · rw [q]; exact ⟨Or.inr rfl, h4, ht⟩
    · exact ⟨Or.inl q1, q2⟩
  · rintro ⟨q1 | q1, q2⟩
    · exact Or.inr ⟨q1, q2⟩
    · exact Or.inl q1
theorem TL.top {s : St} {r o t : Nat} {l : List Nat} (H : TL s r t l) (hk : Dk s r o) (h4 : sKn s o = 4) (ht : sTg s o = t) (hb : sBh s o = none) : TL (doo s r o) r t (insR s o l) := by
  have hol : o ∉ l := fun z => hk.nd ((H.2.2 o).mp z).1
  refine H.fin hk h4 ht ?_ (nd_ins l H.2.1 hol) (fun x => insR_m2 l)
  have e : chl (doo s r o) r t none = insR s o (chl s r t none) := by rw [chl_doo hk, if_pos ⟨h4, ht, hb⟩]
  obtain ⟨A, B, e1, e2, e3, e4⟩ := insR_split (o := o) (chl s r t none) hk.chd
  rw [e, e2]
  have h1 := H.1.1
  rw [e1] at h1
  exact Dfs_2 (s := s) (o := o) (ch := fun x => chl s r t (some x)) (ch' := fun x => chl (doo s r o) r t (some x)) hk.leaf l A B (fun a ha => by
    show chl (doo s r o) r t (some a) = chl s r t (some a)
    rw [chl_doo hk, if_neg (fun z => by rw [hb] at z; cases z.2.2)]) (fun y _ z hz => hk.chi hz) e3 e4 h1
theorem TL.behind {s : St} {r o t p : Nat} {l1 l2 : List Nat} (H : TL s r t (l1 ++ p :: l2)) (hk : Dk s r o) (h4 : sKn s o = 4) (ht : sTg s o = t) (hb : sBh s o = some p) : TL (doo s r o) r t (l1 ++ p :: insR s o l2) := by
  have hol : o ∉ l1 ++ p :: l2 := fun z => hk.nd ((H.2.2 o).mp z).1
  obtain ⟨n1, n2, n3⟩ := List.nodup_append.mp H.2.1
  obtain ⟨n4, n5⟩ := List.nodup_cons.mp n2
  have ho2 : o ∉ l2 := fun z => hol (List.mem_append.mpr (Or.inr (List.mem_cons_of_mem _ z)))
  have hop : o ≠ p := fun z => hol (List.mem_append.mpr (Or.inr (by rw [z]; exact List.mem_cons_self)))
  have ho1 : o ∉ l1 := fun z => hol (List.mem_append.mpr (Or.inl z))
  have hgt : gtm s o p = true := by
    obtain ⟨g1, g2, g3, -, -⟩ := hk.gi.2.i14 o p hk.mo hb
    exact gtm_iff.mpr (Or.inl ((hk.gi.2.i10 o p hk.mo g1 g2).2 g3))
  refine H.fin hk h4 ht ?_ ?_ ?_
  · have e0 : chl (doo s r o) r t none = chl s r t none := by rw [chl_doo hk, if_neg (fun z => by rw [hb] at z; cases z.2.2)]
    rw [e0]
    refine Dfs_1 (s := s) (o := o) (p := p) (ch := fun x => chl s r t (some x)) (ch' := fun x => chl (doo s r o) r t (some x)) hk.leaf ?_ hgt l2 l1 _ H.2.1 (fun a _ ha => ?_) (fun y _ => ⟨hk.chd, fun z hz => hk.chi hz⟩) hk.chd H.1.1
    · show chl (doo s r o) r t (some p) = _
      rw [chl_doo hk, if_pos ⟨h4, ht, hb⟩]
    · show chl (doo s r o) r t (some a) = _
      rw [chl_doo hk, if_neg (fun z => by rw [hb] at z; exact ha (Option.some.inj z.2.2).symm)]
  · refine List.nodup_append.mpr ⟨n1, List.nodup_cons.mpr ⟨fun z => ?_, nd_ins l2 n5 ho2⟩, fun a ha b hb2 => ?_⟩
    · rcases (insR_m2 l2).mp z with q | q
      · exact hop q.symm
      · exact n4 q
    · rcases List.mem_cons.mp hb2 with q | q
      · exact n3 a ha b (by rw [q]; exact List.mem_cons_self)
      · rcases (insR_m2 l2).mp q with q | q
        · rw [q]; exact fun z => ho1 (z ▸ ha)
        · exact n3 a ha b (List.mem_cons_of_mem _ q)
  · intro x
    rw [List.mem_append, List.mem_cons, insR_m2, List.mem_append, List.mem_cons]
    constructor
    · rintro (q | q | q | q)
      · exact Or.inr (Or.inl q)
      · exact Or.inr (Or.inr (Or.inl q))
      · exact Or.inl q
      · exact Or.inr (Or.inr (Or.inr q))
    · rintro (q | q | q | q)
      · exact Or.inr (Or.inr (Or.inl q))
      · exact Or.inl q
      · exact Or.inr (Or.inl q)
      · exact Or.inr (Or.inr (Or.inr q))
