/-! what one more done operation changes -/
theorem fold_one {β : Type} (g : β → Nat → β) (P P' : Nat → Bool) (o : Nat) : ∀ (l : List Nat) (b : β), l.Nodup → o ∈ l → P o = false → P' o = true → (∀ x, x ≠ o → P' x = P x) → (∀ x, x ∈ l → P x = true → ∀ b, g (g b o) x = g (g b x) o) → l.foldl (fun b x => if P' x = true then g b x else b) b = g (l.foldl (fun b x => if P x = true then g b x else b) b) o := by
  intro l
  induction l with
  | nil => intro b _ h; cases h
  | cons y l ih =>
    intro b hd ho h1 h2 h3 h4
    obtain ⟨d1, d2⟩ := List.nodup_cons.mp hd
    rw [List.foldl_cons, List.foldl_cons]
    by_cases hy : y = o
    · subst hy
      rw [if_pos h2, if_neg (by rw [h1]; exact Bool.false_ne_true)]
      have : ∀ (m : List Nat) (b : β), (∀ x, x ∈ m → x ∈ l) → m.foldl (fun b x => if P' x = true then g b x else b) (g b y) = g (m.foldl (fun b x => if P x = true then g b x else b) b) y := by
        intro m
        induction m with
        | nil => intro b _; rfl
        | cons z m im =>
          intro b hm
          have hz := hm z List.mem_cons_self
          have zy : z ≠ y := by rintro rfl; exact d1 hz
          rw [List.foldl_cons, List.foldl_cons, h3 z zy]
          by_cases hp : P z = true
          · rw [if_pos hp, if_pos hp, h4 z (List.mem_cons_of_mem _ hz) hp]
            exact im _ (fun x hx => hm x (List.mem_cons_of_mem _ hx))
          · rw [if_neg hp, if_neg hp]
            exact im _ (fun x hx => hm x (List.mem_cons_of_mem _ hx))
      exact this l b (fun _ h => h)
    · rw [h3 y hy]
      have ho2 : o ∈ l := by
        rcases List.mem_cons.mp ho with h | h
        · exact absurd h.symm hy
        · exact h
      exact ih _ d2 ho2 h1 h2 h3 (fun x hx => h4 x (List.mem_cons_of_mem _ hx))
theorem fold_same {β : Type} (g : β → Nat → β) (P P' : Nat → Bool) (h : ∀ x, P' x = P x) (l : List Nat) (b : β) : l.foldl (fun b x => if P' x = true then g b x else b) b = l.foldl (fun b x => if P x = true then g b x else b) b := by
  rw [show P' = P from funext h]
theorem rg_nd : rg.Nodup := List.nodup_range'
theorem rg_mem {o : Nat} : o ∈ rg ↔ o < 240 := by
  rw [List.mem_range'_1]
  omega
/-! the done operations after one more -/
theorem dn_doo (s : St) (r o r' : Nat) : sDn (doo s r o) r' = if r' = r then sDn s r ++ [o] else sDn s r' := rfl
theorem dn_mem {s : St} {r o x : Nat} : x ∈ sDn (doo s r o) r ↔ x ∈ sDn s r ∨ x = o := by
  rw [dn_doo, if_pos rfl, List.mem_append, List.mem_singleton]
theorem dn_ne {s : St} {r o x : Nat} (h : x ≠ o) : x ∈ sDn (doo s r o) r ↔ x ∈ sDn s r := by
  rw [dn_mem]
  exact ⟨fun z => z.resolve_right h, Or.inl⟩
theorem dn_oth {s : St} {r o r' : Nat} (h : r' ≠ r) : sDn (doo s r o) r' = sDn s r' := by
  rw [dn_doo, if_neg h]
/-- what is known when an operation is done next -/
def Dk (s : St) (r o : Nat) : Prop := r < 4 ∧ o < 240 ∧ o % 60 = sOw s r (o / 60) ∧ (∀ p, p ∈ sDn s r → ∀ j, j < 4 → sCk s p j ≤ sOw s r j) ∧ o ∉ sDn s r ∧ GI (doo s r o)
theorem Dk.r4 {s : St} {r o : Nat} (H : Dk s r o) : r < 4 := H.1
theorem Dk.o2 {s : St} {r o : Nat} (H : Dk s r o) : o < 240 := H.2.1
theorem Dk.nx {s : St} {r o : Nat} (H : Dk s r o) : o % 60 = sOw s r (o / 60) := H.2.2.1
theorem Dk.ck {s : St} {r o : Nat} (H : Dk s r o) : ∀ p, p ∈ sDn s r → ∀ j, j < 4 → sCk s p j ≤ sOw s r j := H.2.2.2.1
theorem Dk.nd {s : St} {r o : Nat} (H : Dk s r o) : o ∉ sDn s r := H.2.2.2.2.1
theorem Dk.gi {s : St} {r o : Nat} (H : Dk s r o) : GI (doo s r o) := H.2.2.2.2.2
theorem Dk.mo {s : St} {r o : Nat} (H : Dk s r o) : mad s o := mad_dn (s := doo s r o) H.gi.2 H.r4 (dn_mem.mpr (Or.inr rfl))
theorem Dk.mp {s : St} {r o p : Nat} (H : Dk s r o) (h : p ∈ sDn s r) : mad s p := mad_dn (s := doo s r o) H.gi.2 H.r4 (dn_mem.mpr (Or.inl h))
/-- nothing done has the new one before it -/
theorem Dk.nb {s : St} {r o p : Nat} (H : Dk s r o) (h : p ∈ sDn s r) : ¬ o % 60 + 1 ≤ sCk s p (o / 60) := by
  have h1 := H.ck p h (o / 60) (by have := H.o2; omega)
  have h2 := H.nx
  omega
theorem gtm_iff {s : St} {a b : Nat} : gtm s a b = true ↔ sTm s b < sTm s a ∨ (sTm s a = sTm s b ∧ b / 60 < a / 60) := by
  unfold gtm
  rw [decide_eq_true_eq]
  split <;> omega
theorem gtm_tr {s : St} {a b c : Nat} (h1 : gtm s a b = true) (h2 : gtm s b c = true) : gtm s a c = true := by
  rw [gtm_iff] at *
  omega
theorem gtm_as {s : St} {a b : Nat} (h1 : gtm s a b = true) : gtm s b a = false := by
  rw [Bool.eq_false_iff]
  intro h2
  rw [gtm_iff] at *
  omega
/-- two made operations have different marks -/
theorem gtm_tot {s : St} (H : Inv s) {a b : Nat} (ha : mad s a) (hb : mad s b) (h : a ≠ b) : gtm s a b = true ∨ gtm s b a = true := by
  rw [gtm_iff, gtm_iff]
  by_cases h1 : a / 60 = b / 60
  · have h2 : a % 60 ≠ b % 60 := fun z => h (op_eq h1 z)
    rcases Nat.lt_or_gt_of_ne h2 with h3 | h3
    · have := (H.i10 b a hb ha (by rw [h1, (H.i9 b hb).1]; omega)).2 h
      omega
    · have := (H.i10 a b ha hb (by rw [← h1, (H.i9 a ha).1]; omega)).2 (fun z => h z.symm)
      omega
  · omega
theorem Dk.tot {s : St} {r o a b : Nat} (H : Dk s r o) (ha : mad s a) (hb : mad s b) (h : a ≠ b) : gtm s a b = true ∨ gtm s b a = true := gtm_tot (s := doo s r o) H.gi.2 ha hb h
/-! counters -/
def cs (s : St) (r : Nat) (c : Int32) : Int32 := rg.foldl (addF s r c) 0
theorem cs_eq (s : St) (r : Nat) (c : Int32) : cs s r c = rg.foldl (fun b x => if isAdd s r c x = true then b + sVl s x else b) 0 := rfl
theorem isAdd_ne {s : St} {r o x : Nat} {c : Int32} (h : x ≠ o) : isAdd (doo s r o) r c x = isAdd s r c x := by
  unfold isAdd
  simp only [dn_ne h]
  rfl
theorem isAdd_o {s : St} {r o : Nat} {c : Int32} : isAdd (doo s r o) r c o = decide (sKn s o = 0 ∧ nI (sTg s o) = c) := by
  unfold isAdd
  simp only [dn_mem, or_true, true_and]
  rfl
theorem isAdd_n {s : St} {r o : Nat} {c : Int32} (h : o ∉ sDn s r) : isAdd s r c o = false := decide_eq_false (fun z => h z.1)
theorem add_rc (a b c : Int32) : a + b + c = a + c + b := by rw [Int32.add_assoc, Int32.add_comm b c, ← Int32.add_assoc]
theorem cs_doo {s : St} {r o : Nat} (H : Dk s r o) (c : Int32) : cs (doo s r o) r c = if sKn s o = 0 ∧ nI (sTg s o) = c then cs s r c + sVl s o else cs s r c := by
  rw [cs_eq, cs_eq]
  split
  · rename_i h
    exact fold_one (fun b x => b + sVl s x) (isAdd s r c) (isAdd (doo s r o) r c) o rg 0 rg_nd (rg_mem.mpr H.o2) (isAdd_n H.nd) (by rw [isAdd_o]; exact decide_eq_true h) (fun x hx => isAdd_ne hx) (fun x _ _ b => add_rc _ _ _)
  · rename_i h
    exact fold_same (fun b x => b + sVl s x) (isAdd s r c) (isAdd (doo s r o) r c) (fun x => by
      by_cases hx : x = o
      · rw [hx, isAdd_o, isAdd_n H.nd]; exact decide_eq_false h
      · exact isAdd_ne hx) rg 0
theorem cs_oth {s : St} {r o r' : Nat} (h : r' ≠ r) (c : Int32) : cs (doo s r o) r' c = cs s r' c := by
  unfold cs
  congr 1
  funext a x
  unfold addF isAdd
  rw [dn_oth h]
  rfl
/-! registers -/
def wr (s : St) (r : Nat) (c : Int32) : Option Nat := rg.foldl (regF s r c) none
def wrG (s : St) (b : Option Nat) (x : Nat) : Option Nat := if gtO s x b = true then some x else b
theorem regF_eq (s : St) (r : Nat) (c : Int32) : regF s r c = fun b x => if isWr s r c x = true then wrG s b x else b := by
  funext b x
  unfold regF wrG
  cases isWr s r c x <;> cases gtO s x b <;> rfl
theorem isWr_ne {s : St} {r o x : Nat} {c : Int32} (h : x ≠ o) : isWr (doo s r o) r c x = isWr s r c x := by
  unfold isWr
  simp only [dn_ne h]
  rfl
theorem isWr_o {s : St} {r o : Nat} {c : Int32} : isWr (doo s r o) r c o = decide (sKn s o = 3 ∧ nI (sTg s o) = c) := by
  unfold isWr
  simp only [dn_mem, or_true, true_and]
  rfl
theorem isWr_n {s : St} {r o : Nat} {c : Int32} (h : o ∉ sDn s r) : isWr s r c o = false := decide_eq_false (fun z => h z.1)
theorem wrG_cm {s : St} {a b : Nat} (h : gtm s a b = true ∨ gtm s b a = true) (q : Option Nat) : wrG s (wrG s q a) b = wrG s (wrG s q b) a := by
  have key : ∀ a b : Nat, gtm s a b = true → wrG s (wrG s q a) b = wrG s (wrG s q b) a := by
    intro a b h
    have h' := gtm_as h
    cases q with
    | none =>
      show (if gtO s b (some a) = true then some b else some a) = (if gtO s a (some b) = true then some a else some b)
      rw [if_pos (show gtO s a (some b) = true from h), if_neg (by rw [show gtO s b (some a) = false from h']; exact Bool.false_ne_true)]
    | some q =>
      unfold wrG
      by_cases h1 : gtO s a (some q) = true
      · rw [if_pos h1, if_neg (by rw [show gtO s b (some a) = false from h']; exact Bool.false_ne_true)]
        by_cases h2 : gtO s b (some q) = true
        · rw [if_pos h2, if_pos (show gtO s a (some b) = true from h)]
        · rw [if_neg h2, if_pos h1]
      · have h2 : ¬ gtO s b (some q) = true := fun z => h1 (gtm_tr h z)
        rw [if_neg h1, if_neg h2, if_neg h1]
  rcases h with h | h
  · exact key a b h
  · exact (key b a h).symm
theorem wr_doo {s : St} {r o : Nat} (H : Dk s r o) (c : Int32) : wr (doo s r o) r c = if sKn s o = 3 ∧ nI (sTg s o) = c then wrG s (wr s r c) o else wr s r c := by
  unfold wr
  rw [regF_eq, regF_eq]
  show rg.foldl (fun b x => if isWr (doo s r o) r c x = true then wrG s b x else b) none = _
  split
  · rename_i h
    refine fold_one (wrG s) (isWr s r c) (isWr (doo s r o) r c) o rg none rg_nd (rg_mem.mpr H.o2) (isWr_n H.nd) (by rw [isWr_o]; exact decide_eq_true h) (fun x hx => isWr_ne hx) (fun x _ hx b => wrG_cm ?_ b)
    have hd := (of_decide_eq_true hx).1
    exact H.tot H.mo (H.mp hd) (fun z => H.nd (z ▸ hd))
  · rename_i h
    exact fold_same (wrG s) (isWr s r c) (isWr (doo s r o) r c) (fun x => by
      by_cases hx : x = o
      · rw [hx, isWr_o, isWr_n H.nd]; exact decide_eq_false h
      · exact isWr_ne hx) rg none
theorem wr_oth {s : St} {r o r' : Nat} (h : r' ≠ r) (c : Int32) : wr (doo s r o) r' c = wr s r' c := by
  unfold wr
  congr 1
  funext a x
  unfold regF isWr
  rw [dn_oth h]
  rfl
theorem wr_mem {s : St} {r o : Nat} {c : Int32} (h : wr s r c = some o) : o ∈ sDn s r ∧ sKn s o = 3 ∧ nI (sTg s o) = c := by
  have : ∀ (l : List Nat) (b : Option Nat), (∀ q, b = some q → isWr s r c q = true) → ∀ q, l.foldl (regF s r c) b = some q → isWr s r c q = true := by
    intro l
    induction l with
    | nil => intro b hb q hq; exact hb q hq
    | cons y l ih =>
      intro b hb q hq
      refine ih _ ?_ q hq
      intro z hz
      unfold regF at hz
      split at hz
      · rename_i h1
        cases hz
        exact (Bool.and_eq_true_iff.mp h1).1
      · exact hb z hz
  exact of_decide_eq_true (this rg none (fun _ h => by cases h) o h)
/-! letters ever -/
theorem chs_eq (s : St) (r : Nat) : chs s r = rg.foldl (fun b x => if decide (x ∈ sDn s r ∧ sKn s x = 4) = true then b + 1 else b) 0 := by
  unfold chs
  congr 1
  funext n x
  unfold chrF
  simp only [decide_eq_true_eq]
theorem chs_doo {s : St} {r o : Nat} (H : Dk s r o) : chs (doo s r o) r = if sKn s o = 4 then chs s r + 1 else chs s r := by
  rw [chs_eq, chs_eq]
  have ne : ∀ x, x ≠ o → decide (x ∈ sDn (doo s r o) r ∧ sKn (doo s r o) x = 4) = decide (x ∈ sDn s r ∧ sKn s x = 4) := fun x hx => by simp only [dn_ne hx]; rfl
  have eo : decide (o ∈ sDn (doo s r o) r ∧ sKn (doo s r o) o = 4) = decide (sKn s o = 4) := by
    simp only [dn_mem, or_true, true_and]
    rfl
  have no : decide (o ∈ sDn s r ∧ sKn s o = 4) = false := decide_eq_false (fun z => H.nd z.1)
  split
  · rename_i h
    exact fold_one (fun b _ => b + 1) (fun x => decide (x ∈ sDn s r ∧ sKn s x = 4)) (fun x => decide (x ∈ sDn (doo s r o) r ∧ sKn (doo s r o) x = 4)) o rg 0 rg_nd (rg_mem.mpr H.o2) no (by rw [eo]; exact decide_eq_true h) ne (fun _ _ _ _ => rfl)
  · rename_i h
    exact fold_same (fun b _ => b + 1) (fun x => decide (x ∈ sDn s r ∧ sKn s x = 4)) (fun x => decide (x ∈ sDn (doo s r o) r ∧ sKn (doo s r o) x = 4)) (fun x => by
      by_cases hx : x = o
      · rw [hx, eo, no]; exact decide_eq_false h
      · exact ne x hx) rg 0
theorem chs_oth {s : St} {r o r' : Nat} (h : r' ≠ r) : chs (doo s r o) r' = chs s r' := by
  rw [chs_eq, chs_eq, dn_oth h]
  rfl
/-! standing puts -/
def sp (s : St) (r : Nat) : List Nat := (sDn s r).filter (fun p => decide (sKn s p = 1) && ! tak s r p)
theorem tak_iff {s : St} {r p : Nat} : tak s r p = true ↔ ∃ o, o < 240 ∧ tkn s r p o = true := by
  unfold tak
  rw [List.any_eq_true]
  exact ⟨fun ⟨o, h1, h2⟩ => ⟨o, rg_mem.mp h1, h2⟩, fun ⟨o, h1, h2⟩ => ⟨o, rg_mem.mpr h1, h2⟩⟩
theorem tkn_ne {s : St} {r o p x : Nat} (h : x ≠ o) : tkn (doo s r o) r p x = tkn s r p x := by
  unfold tkn
  simp only [dn_ne h]
  rfl
/-- the new one takes p away -/
def tkO (s : St) (p o : Nat) : Bool := decide (sKn s o = 2 ∧ sTg s o = sTg s p ∧ sVl s o = sVl s p ∧ p % 60 + 1 ≤ sCk s o (p / 60))
theorem tkn_o {s : St} {r p o : Nat} (h : p ≠ o) : tkn (doo s r o) r p o = tkO s p o := by
  unfold tkn tkO bef
  simp only [dn_mem, or_true, true_and, decide_eq_true_eq]
  show decide (sKn s o = 2 ∧ sTg s o = sTg s p ∧ sVl s o = sVl s p ∧ ¬ p = o ∧ p % 60 + 1 ≤ sCk s o (p / 60)) = _
  simp only [h, not_false_eq_true, true_and]
theorem tak_doo {s : St} {r o p : Nat} (H : Dk s r o) (h : p ∈ sDn s r) : tak (doo s r o) r p = (tak s r p || tkO s p o) := by
  have hpo : p ≠ o := fun z => H.nd (z ▸ h)
  rw [Bool.eq_iff_iff, Bool.or_eq_true, tak_iff, tak_iff]
  constructor
  · rintro ⟨x, h1, h2⟩
    by_cases hx : x = o
    · rw [hx, tkn_o hpo] at h2; exact Or.inr h2
    · rw [tkn_ne hx] at h2; exact Or.inl ⟨x, h1, h2⟩
  · rintro (⟨x, h1, h2⟩ | h2)
    · have hx : x ≠ o := fun z => by
        rw [z] at h2
        exact H.nd (of_decide_eq_true h2).1
      exact ⟨x, h1, by rw [tkn_ne hx]; exact h2⟩
    · exact ⟨o, H.o2, by rw [tkn_o hpo]; exact h2⟩
theorem tak_new {s : St} {r o : Nat} (H : Dk s r o) (hk : sKn s o = 1) : tak (doo s r o) r o = false := by
  rw [Bool.eq_false_iff]
  intro z
  obtain ⟨x, h1, h2⟩ := tak_iff.mp z
  by_cases hx : x = o
  · rw [hx] at h2
    have := (of_decide_eq_true h2).2.1
    have : sKn s o = 2 := this
    omega
  · rw [tkn_ne hx] at h2
    have h3 := of_decide_eq_true h2
    have h4 := of_decide_eq_true h3.2.2.2.2
    exact H.nb h3.1 h4.2
theorem sp_doo {s : St} {r o : Nat} (H : Dk s r o) : sp (doo s r o) r = (sp s r).filter (fun p => ! tkO s p o) ++ (if sKn s o = 1 then [o] else []) := by
  unfold sp
  rw [dn_doo, if_pos rfl, List.filter_append, List.filter_filter]
  congr 1
  · apply List.filter_congr
    intro p hp
    rw [tak_doo H hp]
    show (decide (sKn s p = 1) && !(tak s r p || tkO s p o)) = _
    cases decide (sKn s p = 1) <;> cases tak s r p <;> cases tkO s p o <;> rfl
  · split
    · rename_i h
      rw [List.filter_cons_of_pos]
      · rfl
      · rw [tak_new H h]
        show (decide (sKn s o = 1) && ! false) = true
        rw [decide_eq_true h]
        rfl
    · rename_i h
      rw [List.filter_cons_of_neg]
      · rfl
      · show ¬ (decide (sKn s o = 1) && _) = true
        rw [decide_eq_false h]
        exact Bool.false_ne_true
theorem tak_oth {s : St} {r o r' p : Nat} (h : r' ≠ r) : tak (doo s r o) r' p = tak s r' p := by
  unfold tak
  congr 1
  funext x
  unfold tkn
  rw [dn_oth h]
  rfl
theorem sp_oth {s : St} {r o r' : Nat} (h : r' ≠ r) : sp (doo s r o) r' = sp s r' := by
  unfold sp
  rw [dn_oth h]
  congr 1
  funext p
  rw [tak_oth h]
  rfl
theorem tkO_n {s : St} {p o : Nat} (h : sKn s o ≠ 2) : tkO s p o = false := decide_eq_false (fun z => h z.1)
theorem sp_ntk {s : St} {r o : Nat} (h : sKn s o ≠ 2) : (sp s r).filter (fun p => ! tkO s p o) = sp s r := List.filter_eq_self.mpr (fun p _ => by rw [tkO_n h]; rfl)
/-! letters gone -/
theorem rmd_iff {s : St} {r p : Nat} : rmd s r p = true ↔ ∃ o, o < 240 ∧ o ∈ sDn s r ∧ sKn s o = 5 ∧ sBh s o = some p := by
  unfold rmd
  rw [List.any_eq_true]
  exact ⟨fun ⟨o, h1, h2⟩ => ⟨o, rg_mem.mp h1, of_decide_eq_true h2⟩, fun ⟨o, h1, h2⟩ => ⟨o, rg_mem.mpr h1, decide_eq_true h2⟩⟩
theorem rmd_doo {s : St} {r o p : Nat} (H : Dk s r o) : rmd (doo s r o) r p = (rmd s r p || decide (sKn s o = 5 ∧ sBh s o = some p)) := by
  rw [Bool.eq_iff_iff, Bool.or_eq_true, rmd_iff, rmd_iff, decide_eq_true_eq]
  constructor
  · rintro ⟨x, h1, h2, h3, h4⟩
    rcases dn_mem.mp h2 with h5 | h5
    · exact Or.inl ⟨x, h1, h5, h3, h4⟩
    · rw [h5] at h3 h4; exact Or.inr ⟨h3, h4⟩
  · rintro (⟨x, h1, h2, h3, h4⟩ | ⟨h3, h4⟩)
    · exact ⟨x, h1, dn_mem.mpr (Or.inl h2), h3, h4⟩
    · exact ⟨o, H.o2, dn_mem.mpr (Or.inr rfl), h3, h4⟩
theorem rmd_oth {s : St} {r o r' p : Nat} (h : r' ≠ r) : rmd (doo s r o) r' p = rmd s r' p := by
  unfold rmd
  rw [dn_oth h]
  rfl
