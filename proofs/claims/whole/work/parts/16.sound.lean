/-! THE SMALL MACHINE IS SOUND -/
set_option maxHeartbeats 2000000 in
theorem step_mono {mi : MI} {e : Ent} {code code' : List Ent} {L L' : Lv} {st st' : List Value} {h h' : Hp} (hs : sm_step mi e code L st h = some (code', L', st', h')) : sz h ≤ sz h' ∧ sl h ≤ sl h' := by
  have key : h' = h ∨ (∃ f a v, h' = wfI h f a v) ∨ (∃ f a v, h' = wfR h f a v) ∨ (∃ f a v, h' = waI h f a v) ∨ (∃ f a v, h' = waR h f a v) ∨ (∃ k n w, h' = hnew h k n w) ∨ (∃ a, h' = hcln h a) ∨ (∃ a0 sp a dp n, h' = hcpy h a0 sp a dp n) := by
    unfold sm_step at hs
    split at hs <;> (try unfold sm_ild at hs) <;> (try unfold sm_ald at hs) <;> (try unfold sm_ist at hs) <;> (try unfold sm_ast at hs) <;> (try unfold sm_bin at hs) <;> (try unfold sm_binD at hs) <;> (repeat' split at hs) <;> first | (cases hs; done) | (cases hb : Nat.blt _ L.length <;> rw [hb] at hs <;> cases hs <;> exact Or.inl rfl) | (cases hs; first | exact Or.inl rfl | exact Or.inr (Or.inl ⟨_, _, _, rfl⟩) | exact Or.inr (Or.inr (Or.inl ⟨_, _, _, rfl⟩)) | exact Or.inr (Or.inr (Or.inr (Or.inl ⟨_, _, _, rfl⟩))) | exact Or.inr (Or.inr (Or.inr (Or.inr (Or.inl ⟨_, _, _, rfl⟩)))) | exact Or.inr (Or.inr (Or.inr (Or.inr (Or.inr (Or.inl ⟨_, _, _, rfl⟩))))) | exact Or.inr (Or.inr (Or.inr (Or.inr (Or.inr (Or.inr (Or.inl ⟨_, rfl⟩)))))) | exact Or.inr (Or.inr (Or.inr (Or.inr (Or.inr (Or.inr (Or.inr ⟨_, _, _, _, _, rfl⟩)))))))
  rcases key with rfl | ⟨_, _, _, rfl⟩ | ⟨_, _, _, rfl⟩ | ⟨_, _, _, rfl⟩ | ⟨_, _, _, rfl⟩ | ⟨_, _, _, rfl⟩ | ⟨_, rfl⟩ | ⟨_, _, _, _, _, rfl⟩
  · exact ⟨Nat.le_refl _, Nat.le_refl _⟩
  · exact ⟨Nat.le_refl _, Nat.le_refl _⟩
  · exact ⟨Nat.le_refl _, Nat.le_refl _⟩
  · exact ⟨Nat.le_refl _, Nat.le_refl _⟩
  · exact ⟨Nat.le_refl _, Nat.le_refl _⟩
  · exact ⟨Nat.le_succ _, Nat.le_add_right _ _⟩
  · exact ⟨Nat.le_succ _, Nat.le_add_right _ _⟩
  · exact ⟨Nat.le_refl _, Nat.le_refl _⟩
theorem ret_spec {mi : MI} {e : Ent} {st : List Value} {h h' : Hp} {r : Option Value} (hs : sm_ret mi e st h = some (r, h')) : h' = h ∧ ((e.2.1 = .return_ ∧ st = [] ∧ mR mi = none ∧ r = none) ∨ (e.2.1 = .ireturn ∧ ∃ x, st = [.int x] ∧ r = some (.int x) ∧ (mR mi = some .int ∨ (mR mi = some .boolean ∧ (x = 0 ∨ x = 1)))) ∨ (e.2.1 = .areturn ∧ ∃ v, st = [va_rf v] ∧ r = some (va_rf v) ∧ ((∃ n, mR mi = some (.object n)) ∨ ∃ t, mR mi = some (.array t)))) := by
  unfold sm_ret at hs
  split at hs
  · rename_i he
    split at hs
    · rename_i hr
      cases hs
      exact ⟨rfl, Or.inl ⟨he, rfl, hr, rfl⟩⟩
    · cases hs
  · rename_i he
    split at hs
    · rename_i v
      split at hs
      · rename_i x hx
        have ev := sm_in_eq hx
        subst ev
        split at hs
        · rename_i hr
          cases hs
          exact ⟨rfl, Or.inr (Or.inl ⟨he, x, rfl, rfl, Or.inl hr⟩)⟩
        · rename_i hr
          split at hs
          · rename_i h01
            cases hs
            exact ⟨rfl, Or.inr (Or.inl ⟨he, x, rfl, rfl, Or.inr ⟨hr, h01⟩⟩)⟩
          · cases hs
        · cases hs
      · cases hs
    · cases hs
  · rename_i he
    split at hs
    · rename_i v
      split at hs
      · rename_i x hx
        have ev := sm_rf_eq hx
        subst ev
        split at hs
        · rename_i n hr
          cases hs
          exact ⟨rfl, Or.inr (Or.inr ⟨he, x, rfl, rfl, Or.inl ⟨_, hr⟩⟩)⟩
        · rename_i n hr
          cases hs
          exact ⟨rfl, Or.inr (Or.inr ⟨he, x, rfl, rfl, Or.inr ⟨_, hr⟩⟩)⟩
        · cases hs
      · cases hs
    · cases hs
  · cases hs
theorem run_mono : ∀ (n : Nat) (mi : MI) (code : List Ent) (L : Lv) (st : List Value) (h : Hp) (r : Option Value) (h' : Hp), sm_run MT n mi code L st h = some (r, h') → sz h ≤ sz h' ∧ sl h ≤ sl h' := by
  intro n
  induction n with
  | zero => intro mi code L st h r h' hs; cases hs
  | succ n ih =>
    intro mi code L st h r h' hs
    cases code with
    | nil => cases hs
    | cons e code =>
      unfold sm_run at hs
      split at hs
      · split at hs
        · rename_i q hq
          obtain ⟨a1, a2⟩ := step_mono (code' := q.1) (L' := q.2.1) (st' := q.2.2.1) (h' := q.2.2.2) hq
          obtain ⟨b1, b2⟩ := ih _ _ _ _ _ _ _ hs
          exact ⟨Nat.le_trans a1 b1, Nat.le_trans a2 b2⟩
        · cases hs
      · split at hs
        · split at hs
          · split at hs
            · rename_i q hq
              obtain ⟨a1, a2⟩ := ih _ _ _ _ _ q.1 q.2 hq
              obtain ⟨b1, b2⟩ := ih _ _ _ _ _ _ _ hs
              exact ⟨Nat.le_trans a1 b1, Nat.le_trans a2 b2⟩
            · cases hs
          · cases hs
        · cases hs
      · obtain ⟨rfl, -⟩ := ret_spec hs
        exact ⟨Nat.le_refl _, Nat.le_refl _⟩
      · cases hs
/-- a piece of code whose rows are checked -/
def OkC (mi : MI) (code : List Ent) : Prop := (∀ e ∈ code, ckE mi e = true) ∧ ckN code = true
theorem OkC.tail {mi : MI} {e : Ent} {code : List Ent} (h : OkC mi (e :: code)) : OkC mi code := by
  refine ⟨fun x hx => h.1 x (List.mem_cons_of_mem _ hx), ?_⟩
  cases code with
  | nil => rfl
  | cons e' r =>
    have := h.2
    unfold ckN at this
    rw [Bool.and_eq_true] at this
    exact this.2
theorem OkC.next {mi : MI} {e : Ent} {code : List Ent} (h : OkC mi (e :: code)) (hne : code ≠ []) : pcOf code = e.1 + e.2.2.1 := by
  cases code with
  | nil => exact absurd rfl hne
  | cons e' r =>
    have := h.2
    unfold ckN at this
    rw [Bool.and_eq_true] at this
    exact Nat.eq_of_beq_eq_true this.1
theorem OkC.seek {mi : MI} {p : List Ent} (t : Nat) (h : OkC mi p) : OkC mi (sm_seek p t) := by
  induction p with
  | nil => exact h
  | cons a q ih =>
    unfold sm_seek
    cases hb : Nat.beq a.1 t with
    | true => exact h
    | false => exact ih h.tail
theorem step_code {mi : MI} {e : Ent} {code code' : List Ent} {L L' : Lv} {st st' : List Value} {h h' : Hp} (hs : sm_step mi e code L st h = some (code', L', st', h')) : code' = code ∨ ∃ t, code' = sm_seek (mP mi) t := by
  unfold sm_step at hs
  split at hs <;> (try unfold sm_ild at hs) <;> (try unfold sm_ald at hs) <;> (try unfold sm_ist at hs) <;> (try unfold sm_ast at hs) <;> (try unfold sm_bin at hs) <;> (try unfold sm_binD at hs) <;> (repeat' split at hs) <;> first | (cases hs; done) | (cases hb : Nat.blt _ L.length <;> rw [hb] at hs <;> cases hs <;> exact Or.inl rfl) | (cases hs; first | exact Or.inl rfl | exact Or.inr ⟨_, rfl⟩)
