/-! REASONING about the small machine: rules as equivalences -/
def Z (m : MI) (code : List Ent) (L : Lv) (st : List Value) (h : Hp) (P : Option Value → Hp → Prop) : Prop := ∃ n r h', sm_run MT n m code L st h = some (r, h') ∧ P r h'
def Ev (m : MI) (As : List Value) (h : Hp) (P : Option Value → Hp → Prop) : Prop := Z m (mP m) (sm_l0 m As) [] h P
theorem run_more1 : ∀ (n : Nat) (m : MI) (code : List Ent) (L : Lv) (st : List Value) (h : Hp) (x : Option Value × Hp), sm_run MT n m code L st h = some x → sm_run MT (n + 1) m code L st h = some x := by
  intro n
  induction n with
  | zero => intro m code L st h x hs; cases hs
  | succ n ih =>
    intro m code L st h x hs
    cases code with
    | nil => cases hs
    | cons e code =>
      unfold sm_run at hs ⊢
      cases hc : sm_cls e with
      | zero =>
        rw [hc] at hs
        simp only at hs ⊢
        cases hq : sm_step m e code L st h with
        | none => rw [hq] at hs; cases hs
        | some q =>
          rw [hq] at hs
          exact ih _ _ _ _ _ _ hs
      | succ k =>
        cases k with
        | zero =>
          rw [hc] at hs
          simp only at hs ⊢
          cases hm : MT[e.2.2.2.1]? with
          | none => rw [hm] at hs; cases hs
          | some m' =>
            rw [hm] at hs
            simp only at hs ⊢
            split at hs
            · rename_i hcond
              rw [if_pos hcond]
              cases hq : sm_run MT n m' (mP m') (sm_l0 m' (st.take (mN m')).reverse) [] h with
              | none => rw [hq] at hs; cases hs
              | some q =>
                rw [hq] at hs
                rw [ih _ _ _ _ _ _ hq]
                exact ih _ _ _ _ _ _ hs
            · cases hs
        | succ k =>
          rw [hc] at hs
          cases k with
          | zero => exact hs
          | succ k => cases hs
theorem run_more {n k : Nat} {m : MI} {code : List Ent} {L : Lv} {st : List Value} {h : Hp} {x : Option Value × Hp} (hs : sm_run MT n m code L st h = some x) : sm_run MT (n + k) m code L st h = some x := by
  induction k with
  | zero => exact hs
  | succ k ih => exact run_more1 _ _ _ _ _ _ _ ih
theorem Z.mono {m : MI} {code : List Ent} {L : Lv} {st : List Value} {h : Hp} {P Q : Option Value → Hp → Prop} (hz : Z m code L st h P) (hpq : ∀ r h', P r h' → Q r h') : Z m code L st h Q := by
  obtain ⟨n, r, h', h1, h2⟩ := hz
  exact ⟨n, r, h', h1, hpq r h' h2⟩
theorem Ev.mono {m : MI} {As : List Value} {h : Hp} {P Q : Option Value → Hp → Prop} (hz : Ev m As h P) (hpq : ∀ r h', P r h' → Q r h') : Ev m As h Q := Z.mono hz hpq
section ZR
variable {m : MI} {code : List Ent} {L : Lv} {st : List Value} {h : Hp} {P : Option Value → Hp → Prop}
theorem Z_go {e : Ent} {code' : List Ent} {L' : Lv} {st' : List Value} {h' : Hp} (hc : sm_cls e = 0) (hs : sm_step m e code L st h = some (code', L', st', h')) : Z m (e :: code) L st h P ↔ Z m code' L' st' h' P := by
  constructor
  · rintro ⟨n, r, h', h1, h2⟩
    cases n with
    | zero => cases h1
    | succ n =>
      unfold sm_run at h1
      rw [hc, hs] at h1
      exact ⟨n, r, h', h1, h2⟩
  · rintro ⟨n, r, h', h1, h2⟩
    refine ⟨n + 1, r, h', ?_, h2⟩
    unfold sm_run
    rw [hc, hs]
    exact h1
theorem Z_no {e : Ent} (hc : sm_cls e = 0) (hs : sm_step m e code L st h = none) : Z m (e :: code) L st h P ↔ False := by
  constructor
  · rintro ⟨n, r, h', h1, h2⟩
    cases n with
    | zero => cases h1
    | succ n =>
      unfold sm_run at h1
      rw [hc, hs] at h1
      cases h1
  · exact False.elim
theorem Z_rt {e : Ent} {r : Option Value} {h1 : Hp} (hc : sm_cls e = 2) (hs : sm_ret m e st h = some (r, h1)) : Z m (e :: code) L st h P ↔ P r h1 := by
  constructor
  · rintro ⟨n, r', h', h3, h2⟩
    cases n with
    | zero => cases h3
    | succ n =>
      unfold sm_run at h3
      rw [hc] at h3
      simp only at h3
      rw [hs] at h3
      cases h3
      exact h2
  · intro h2
    refine ⟨1, r, h1, ?_, h2⟩
    unfold sm_run
    rw [hc]
    exact hs
theorem Z_call {e : Ent} {m' : MI} (hc : sm_cls e = 1) (hm : MT[e.2.2.2.1]? = some m') : Z m (e :: code) L st h P ↔ (mN m' ≤ st.length ∧ (st.drop (mN m')).length ≤ 8 ∧ sm_rcv m' (st.take (mN m')).reverse h = true) ∧ Ev m' (st.take (mN m')).reverse h (fun r h' => Z m code L (r.toList ++ st.drop (mN m')) h' P) := by
  constructor
  · rintro ⟨n, r, h', h1, h2⟩
    cases n with
    | zero => cases h1
    | succ n =>
      unfold sm_run at h1
      rw [hc] at h1
      simp only at h1
      rw [hm] at h1
      simp only at h1
      split at h1
      · rename_i hcond
        refine ⟨hcond, ?_⟩
        cases hq : sm_run MT n m' (mP m') (sm_l0 m' (st.take (mN m')).reverse) [] h with
        | none => rw [hq] at h1; cases h1
        | some q =>
          rw [hq] at h1
          exact ⟨n, q.1, q.2, hq, n, r, h', h1, h2⟩
      · cases h1
  · rintro ⟨hcond, n, r, h1, hq, n2, r2, h2, h3, h4⟩
    refine ⟨n + n2 + 1, r2, h2, ?_, h4⟩
    unfold sm_run
    rw [hc]
    simp only
    rw [hm]
    simp only
    rw [if_pos hcond, run_more hq]
    simp only
    rw [Nat.add_comm n n2]
    exact run_more h3
theorem Z_iconst {pc len a b : Nat} {n : Int} : Z m ((pc, .iconst n, len, a, b, 0) :: code) L st h P ↔ Z m code L (.int (sm_lit a b) :: st) h P := Z_go rfl rfl
theorem Z_bipush {pc len a b : Nat} {n : Int} : Z m ((pc, .bipush n, len, a, b, 0) :: code) L st h P ↔ Z m code L (.int (sm_lit a b) :: st) h P := Z_go rfl rfl
theorem Z_sipush {pc len a b : Nat} {n : Int} : Z m ((pc, .sipush n, len, a, b, 0) :: code) L st h P ↔ Z m code L (.int (sm_lit a b) :: st) h P := Z_go rfl rfl
theorem Z_ldc {pc len a b : Nat} {n : Nat} : Z m ((pc, .ldc n, len, a, b, 0) :: code) L st h P ↔ Z m code L (.int (sm_lit a b) :: st) h P := Z_go rfl rfl
theorem Z_ldcM {pc len a b : Nat} {n : Nat} : Z m ((pc, .ldc n, len, a, b, 1) :: code) L st h P ↔ Z m code L (.ref (gc h 1) :: st) h P := Z_go rfl rfl
theorem Z_ldcw {pc len a b : Nat} {n : Nat} : Z m ((pc, .ldc_w n, len, a, b, 0) :: code) L st h P ↔ Z m code L (.int (sm_lit a b) :: st) h P := Z_go rfl rfl
theorem Z_null {pc len a b : Nat} : Z m ((pc, .aconst_null, len, a, b, 0) :: code) L st h P ↔ Z m code L (.null :: st) h P := Z_go rfl rfl
theorem Z_getstatic {pc len a b : Nat} {n : Nat} : Z m ((pc, .getstatic n, len, a, b, 0) :: code) L st h P ↔ Z m code L (.ref (gc h 0) :: st) h P := Z_go rfl rfl
theorem Z_iload0 {pc len a b : Nat}{x : Int32} : Z m ((pc, .iload_n 0, len, a, b, 0) :: code) (some (.int x) :: L) st h P ↔ Z m code (some (.int x) :: L) (.int x :: st) h P := Z_go rfl rfl
theorem Z_aload0 {pc len a b : Nat}{x : Nat} : Z m ((pc, .aload_n 0, len, a, b, 0) :: code) (some (.ref x) :: L) st h P ↔ Z m code (some (.ref x) :: L) (.ref x :: st) h P := Z_go rfl rfl
theorem Z_aloadq0 {pc len a b : Nat}{x : Option Nat} : Z m ((pc, .aload_n 0, len, a, b, 0) :: code) (some (va_rf x) :: L) st h P ↔ Z m code (some (va_rf x) :: L) (va_rf x :: st) h P := by cases x <;> exact Z_go rfl rfl
theorem Z_aloadn0 {pc len a b : Nat} : Z m ((pc, .aload_n 0, len, a, b, 0) :: code) (some .null :: L) st h P ↔ Z m code (some .null :: L) (.null :: st) h P := Z_go rfl rfl
theorem Z_istore0 {pc len a b : Nat}{o0 : Option Value} {x : Int32} : Z m ((pc, .istore_n 0, len, a, b, 0) :: code) (o0 :: L) (.int x :: st) h P ↔ Z m code (some (.int x) :: L) st h P := Z_go rfl rfl
theorem Z_astore0 {pc len a b : Nat}{o0 : Option Value} {x : Nat} : Z m ((pc, .astore_n 0, len, a, b, 0) :: code) (o0 :: L) (.ref x :: st) h P ↔ Z m code (some (.ref x) :: L) st h P := Z_go rfl rfl
theorem Z_astoreq0 {pc len a b : Nat}{o0 : Option Value} {x : Option Nat} : Z m ((pc, .astore_n 0, len, a, b, 0) :: code) (o0 :: L) (va_rf x :: st) h P ↔ Z m code (some (va_rf x) :: L) st h P := by cases x <;> exact Z_go rfl rfl
theorem Z_astoren0 {pc len a b : Nat}{o0 : Option Value} : Z m ((pc, .astore_n 0, len, a, b, 0) :: code) (o0 :: L) (.null :: st) h P ↔ Z m code (some .null :: L) st h P := Z_go rfl rfl
theorem Z_iinc0 {pc len a b : Nat}{x : Int32} {n : Int} : Z m ((pc, .iinc 0 n, len, a, b, 0) :: code) (some (.int x) :: L) st h P ↔ Z m code (some (.int (x + sm_lit a b)) :: L) st h P := Z_go rfl rfl
theorem Z_iload1 {pc len a b : Nat}{l0 : Option Value} {x : Int32} : Z m ((pc, .iload_n 1, len, a, b, 0) :: code) (l0 :: some (.int x) :: L) st h P ↔ Z m code (l0 :: some (.int x) :: L) (.int x :: st) h P := Z_go rfl rfl
theorem Z_aload1 {pc len a b : Nat}{l0 : Option Value} {x : Nat} : Z m ((pc, .aload_n 1, len, a, b, 0) :: code) (l0 :: some (.ref x) :: L) st h P ↔ Z m code (l0 :: some (.ref x) :: L) (.ref x :: st) h P := Z_go rfl rfl
theorem Z_aloadq1 {pc len a b : Nat}{l0 : Option Value} {x : Option Nat} : Z m ((pc, .aload_n 1, len, a, b, 0) :: code) (l0 :: some (va_rf x) :: L) st h P ↔ Z m code (l0 :: some (va_rf x) :: L) (va_rf x :: st) h P := by cases x <;> exact Z_go rfl rfl
theorem Z_aloadn1 {pc len a b : Nat}{l0 : Option Value}  : Z m ((pc, .aload_n 1, len, a, b, 0) :: code) (l0 :: some .null :: L) st h P ↔ Z m code (l0 :: some .null :: L) (.null :: st) h P := Z_go rfl rfl
theorem Z_istore1 {pc len a b : Nat}{l0 : Option Value} {o0 : Option Value} {x : Int32} : Z m ((pc, .istore_n 1, len, a, b, 0) :: code) (l0 :: o0 :: L) (.int x :: st) h P ↔ Z m code (l0 :: some (.int x) :: L) st h P := Z_go rfl rfl
theorem Z_astore1 {pc len a b : Nat}{l0 : Option Value} {o0 : Option Value} {x : Nat} : Z m ((pc, .astore_n 1, len, a, b, 0) :: code) (l0 :: o0 :: L) (.ref x :: st) h P ↔ Z m code (l0 :: some (.ref x) :: L) st h P := Z_go rfl rfl
theorem Z_astoreq1 {pc len a b : Nat}{l0 : Option Value} {o0 : Option Value} {x : Option Nat} : Z m ((pc, .astore_n 1, len, a, b, 0) :: code) (l0 :: o0 :: L) (va_rf x :: st) h P ↔ Z m code (l0 :: some (va_rf x) :: L) st h P := by cases x <;> exact Z_go rfl rfl
theorem Z_astoren1 {pc len a b : Nat}{l0 : Option Value} {o0 : Option Value} : Z m ((pc, .astore_n 1, len, a, b, 0) :: code) (l0 :: o0 :: L) (.null :: st) h P ↔ Z m code (l0 :: some .null :: L) st h P := Z_go rfl rfl
theorem Z_iinc1 {pc len a b : Nat}{l0 : Option Value} {x : Int32} {n : Int} : Z m ((pc, .iinc 1 n, len, a, b, 0) :: code) (l0 :: some (.int x) :: L) st h P ↔ Z m code (l0 :: some (.int (x + sm_lit a b)) :: L) st h P := Z_go rfl rfl
theorem Z_iload2 {pc len a b : Nat}{l0 l1 : Option Value} {x : Int32} : Z m ((pc, .iload_n 2, len, a, b, 0) :: code) (l0 :: l1 :: some (.int x) :: L) st h P ↔ Z m code (l0 :: l1 :: some (.int x) :: L) (.int x :: st) h P := Z_go rfl rfl
theorem Z_aload2 {pc len a b : Nat}{l0 l1 : Option Value} {x : Nat} : Z m ((pc, .aload_n 2, len, a, b, 0) :: code) (l0 :: l1 :: some (.ref x) :: L) st h P ↔ Z m code (l0 :: l1 :: some (.ref x) :: L) (.ref x :: st) h P := Z_go rfl rfl
theorem Z_aloadq2 {pc len a b : Nat}{l0 l1 : Option Value} {x : Option Nat} : Z m ((pc, .aload_n 2, len, a, b, 0) :: code) (l0 :: l1 :: some (va_rf x) :: L) st h P ↔ Z m code (l0 :: l1 :: some (va_rf x) :: L) (va_rf x :: st) h P := by cases x <;> exact Z_go rfl rfl
theorem Z_aloadn2 {pc len a b : Nat}{l0 l1 : Option Value}  : Z m ((pc, .aload_n 2, len, a, b, 0) :: code) (l0 :: l1 :: some .null :: L) st h P ↔ Z m code (l0 :: l1 :: some .null :: L) (.null :: st) h P := Z_go rfl rfl
theorem Z_istore2 {pc len a b : Nat}{l0 l1 : Option Value} {o0 : Option Value} {x : Int32} : Z m ((pc, .istore_n 2, len, a, b, 0) :: code) (l0 :: l1 :: o0 :: L) (.int x :: st) h P ↔ Z m code (l0 :: l1 :: some (.int x) :: L) st h P := Z_go rfl rfl
theorem Z_astore2 {pc len a b : Nat}{l0 l1 : Option Value} {o0 : Option Value} {x : Nat} : Z m ((pc, .astore_n 2, len, a, b, 0) :: code) (l0 :: l1 :: o0 :: L) (.ref x :: st) h P ↔ Z m code (l0 :: l1 :: some (.ref x) :: L) st h P := Z_go rfl rfl
theorem Z_astoreq2 {pc len a b : Nat}{l0 l1 : Option Value} {o0 : Option Value} {x : Option Nat} : Z m ((pc, .astore_n 2, len, a, b, 0) :: code) (l0 :: l1 :: o0 :: L) (va_rf x :: st) h P ↔ Z m code (l0 :: l1 :: some (va_rf x) :: L) st h P := by cases x <;> exact Z_go rfl rfl
theorem Z_astoren2 {pc len a b : Nat}{l0 l1 : Option Value} {o0 : Option Value} : Z m ((pc, .astore_n 2, len, a, b, 0) :: code) (l0 :: l1 :: o0 :: L) (.null :: st) h P ↔ Z m code (l0 :: l1 :: some .null :: L) st h P := Z_go rfl rfl
theorem Z_iinc2 {pc len a b : Nat}{l0 l1 : Option Value} {x : Int32} {n : Int} : Z m ((pc, .iinc 2 n, len, a, b, 0) :: code) (l0 :: l1 :: some (.int x) :: L) st h P ↔ Z m code (l0 :: l1 :: some (.int (x + sm_lit a b)) :: L) st h P := Z_go rfl rfl
theorem Z_iload3 {pc len a b : Nat}{l0 l1 l2 : Option Value} {x : Int32} : Z m ((pc, .iload_n 3, len, a, b, 0) :: code) (l0 :: l1 :: l2 :: some (.int x) :: L) st h P ↔ Z m code (l0 :: l1 :: l2 :: some (.int x) :: L) (.int x :: st) h P := Z_go rfl rfl
theorem Z_aload3 {pc len a b : Nat}{l0 l1 l2 : Option Value} {x : Nat} : Z m ((pc, .aload_n 3, len, a, b, 0) :: code) (l0 :: l1 :: l2 :: some (.ref x) :: L) st h P ↔ Z m code (l0 :: l1 :: l2 :: some (.ref x) :: L) (.ref x :: st) h P := Z_go rfl rfl
theorem Z_aloadq3 {pc len a b : Nat}{l0 l1 l2 : Option Value} {x : Option Nat} : Z m ((pc, .aload_n 3, len, a, b, 0) :: code) (l0 :: l1 :: l2 :: some (va_rf x) :: L) st h P ↔ Z m code (l0 :: l1 :: l2 :: some (va_rf x) :: L) (va_rf x :: st) h P := by cases x <;> exact Z_go rfl rfl
theorem Z_aloadn3 {pc len a b : Nat}{l0 l1 l2 : Option Value}  : Z m ((pc, .aload_n 3, len, a, b, 0) :: code) (l0 :: l1 :: l2 :: some .null :: L) st h P ↔ Z m code (l0 :: l1 :: l2 :: some .null :: L) (.null :: st) h P := Z_go rfl rfl
theorem Z_istore3 {pc len a b : Nat}{l0 l1 l2 : Option Value} {o0 : Option Value} {x : Int32} : Z m ((pc, .istore_n 3, len, a, b, 0) :: code) (l0 :: l1 :: l2 :: o0 :: L) (.int x :: st) h P ↔ Z m code (l0 :: l1 :: l2 :: some (.int x) :: L) st h P := Z_go rfl rfl
theorem Z_astore3 {pc len a b : Nat}{l0 l1 l2 : Option Value} {o0 : Option Value} {x : Nat} : Z m ((pc, .astore_n 3, len, a, b, 0) :: code) (l0 :: l1 :: l2 :: o0 :: L) (.ref x :: st) h P ↔ Z m code (l0 :: l1 :: l2 :: some (.ref x) :: L) st h P := Z_go rfl rfl
theorem Z_astoreq3 {pc len a b : Nat}{l0 l1 l2 : Option Value} {o0 : Option Value} {x : Option Nat} : Z m ((pc, .astore_n 3, len, a, b, 0) :: code) (l0 :: l1 :: l2 :: o0 :: L) (va_rf x :: st) h P ↔ Z m code (l0 :: l1 :: l2 :: some (va_rf x) :: L) st h P := by cases x <;> exact Z_go rfl rfl
theorem Z_astoren3 {pc len a b : Nat}{l0 l1 l2 : Option Value} {o0 : Option Value} : Z m ((pc, .astore_n 3, len, a, b, 0) :: code) (l0 :: l1 :: l2 :: o0 :: L) (.null :: st) h P ↔ Z m code (l0 :: l1 :: l2 :: some .null :: L) st h P := Z_go rfl rfl
theorem Z_iinc3 {pc len a b : Nat}{l0 l1 l2 : Option Value} {x : Int32} {n : Int} : Z m ((pc, .iinc 3 n, len, a, b, 0) :: code) (l0 :: l1 :: l2 :: some (.int x) :: L) st h P ↔ Z m code (l0 :: l1 :: l2 :: some (.int (x + sm_lit a b)) :: L) st h P := Z_go rfl rfl
theorem Z_iload4 {pc len a b : Nat}{l0 l1 l2 l3 : Option Value} {x : Int32} : Z m ((pc, .iload 4, len, a, b, 0) :: code) (l0 :: l1 :: l2 :: l3 :: some (.int x) :: L) st h P ↔ Z m code (l0 :: l1 :: l2 :: l3 :: some (.int x) :: L) (.int x :: st) h P := Z_go rfl rfl
theorem Z_aload4 {pc len a b : Nat}{l0 l1 l2 l3 : Option Value} {x : Nat} : Z m ((pc, .aload 4, len, a, b, 0) :: code) (l0 :: l1 :: l2 :: l3 :: some (.ref x) :: L) st h P ↔ Z m code (l0 :: l1 :: l2 :: l3 :: some (.ref x) :: L) (.ref x :: st) h P := Z_go rfl rfl
theorem Z_aloadq4 {pc len a b : Nat}{l0 l1 l2 l3 : Option Value} {x : Option Nat} : Z m ((pc, .aload 4, len, a, b, 0) :: code) (l0 :: l1 :: l2 :: l3 :: some (va_rf x) :: L) st h P ↔ Z m code (l0 :: l1 :: l2 :: l3 :: some (va_rf x) :: L) (va_rf x :: st) h P := by cases x <;> exact Z_go rfl rfl
theorem Z_aloadn4 {pc len a b : Nat}{l0 l1 l2 l3 : Option Value}  : Z m ((pc, .aload 4, len, a, b, 0) :: code) (l0 :: l1 :: l2 :: l3 :: some .null :: L) st h P ↔ Z m code (l0 :: l1 :: l2 :: l3 :: some .null :: L) (.null :: st) h P := Z_go rfl rfl
theorem Z_istore4 {pc len a b : Nat}{l0 l1 l2 l3 : Option Value} {o0 : Option Value} {x : Int32} : Z m ((pc, .istore 4, len, a, b, 0) :: code) (l0 :: l1 :: l2 :: l3 :: o0 :: L) (.int x :: st) h P ↔ Z m code (l0 :: l1 :: l2 :: l3 :: some (.int x) :: L) st h P := Z_go rfl rfl
theorem Z_astore4 {pc len a b : Nat}{l0 l1 l2 l3 : Option Value} {o0 : Option Value} {x : Nat} : Z m ((pc, .astore 4, len, a, b, 0) :: code) (l0 :: l1 :: l2 :: l3 :: o0 :: L) (.ref x :: st) h P ↔ Z m code (l0 :: l1 :: l2 :: l3 :: some (.ref x) :: L) st h P := Z_go rfl rfl
theorem Z_astoreq4 {pc len a b : Nat}{l0 l1 l2 l3 : Option Value} {o0 : Option Value} {x : Option Nat} : Z m ((pc, .astore 4, len, a, b, 0) :: code) (l0 :: l1 :: l2 :: l3 :: o0 :: L) (va_rf x :: st) h P ↔ Z m code (l0 :: l1 :: l2 :: l3 :: some (va_rf x) :: L) st h P := by cases x <;> exact Z_go rfl rfl
theorem Z_astoren4 {pc len a b : Nat}{l0 l1 l2 l3 : Option Value} {o0 : Option Value} : Z m ((pc, .astore 4, len, a, b, 0) :: code) (l0 :: l1 :: l2 :: l3 :: o0 :: L) (.null :: st) h P ↔ Z m code (l0 :: l1 :: l2 :: l3 :: some .null :: L) st h P := Z_go rfl rfl
theorem Z_iinc4 {pc len a b : Nat}{l0 l1 l2 l3 : Option Value} {x : Int32} {n : Int} : Z m ((pc, .iinc 4 n, len, a, b, 0) :: code) (l0 :: l1 :: l2 :: l3 :: some (.int x) :: L) st h P ↔ Z m code (l0 :: l1 :: l2 :: l3 :: some (.int (x + sm_lit a b)) :: L) st h P := Z_go rfl rfl
theorem Z_iload5 {pc len a b : Nat}{l0 l1 l2 l3 l4 : Option Value} {x : Int32} : Z m ((pc, .iload 5, len, a, b, 0) :: code) (l0 :: l1 :: l2 :: l3 :: l4 :: some (.int x) :: L) st h P ↔ Z m code (l0 :: l1 :: l2 :: l3 :: l4 :: some (.int x) :: L) (.int x :: st) h P := Z_go rfl rfl
theorem Z_aload5 {pc len a b : Nat}{l0 l1 l2 l3 l4 : Option Value} {x : Nat} : Z m ((pc, .aload 5, len, a, b, 0) :: code) (l0 :: l1 :: l2 :: l3 :: l4 :: some (.ref x) :: L) st h P ↔ Z m code (l0 :: l1 :: l2 :: l3 :: l4 :: some (.ref x) :: L) (.ref x :: st) h P := Z_go rfl rfl
theorem Z_aloadq5 {pc len a b : Nat}{l0 l1 l2 l3 l4 : Option Value} {x : Option Nat} : Z m ((pc, .aload 5, len, a, b, 0) :: code) (l0 :: l1 :: l2 :: l3 :: l4 :: some (va_rf x) :: L) st h P ↔ Z m code (l0 :: l1 :: l2 :: l3 :: l4 :: some (va_rf x) :: L) (va_rf x :: st) h P := by cases x <;> exact Z_go rfl rfl
theorem Z_aloadn5 {pc len a b : Nat}{l0 l1 l2 l3 l4 : Option Value}  : Z m ((pc, .aload 5, len, a, b, 0) :: code) (l0 :: l1 :: l2 :: l3 :: l4 :: some .null :: L) st h P ↔ Z m code (l0 :: l1 :: l2 :: l3 :: l4 :: some .null :: L) (.null :: st) h P := Z_go rfl rfl
theorem Z_istore5 {pc len a b : Nat}{l0 l1 l2 l3 l4 : Option Value} {o0 : Option Value} {x : Int32} : Z m ((pc, .istore 5, len, a, b, 0) :: code) (l0 :: l1 :: l2 :: l3 :: l4 :: o0 :: L) (.int x :: st) h P ↔ Z m code (l0 :: l1 :: l2 :: l3 :: l4 :: some (.int x) :: L) st h P := Z_go rfl rfl
theorem Z_astore5 {pc len a b : Nat}{l0 l1 l2 l3 l4 : Option Value} {o0 : Option Value} {x : Nat} : Z m ((pc, .astore 5, len, a, b, 0) :: code) (l0 :: l1 :: l2 :: l3 :: l4 :: o0 :: L) (.ref x :: st) h P ↔ Z m code (l0 :: l1 :: l2 :: l3 :: l4 :: some (.ref x) :: L) st h P := Z_go rfl rfl
theorem Z_astoreq5 {pc len a b : Nat}{l0 l1 l2 l3 l4 : Option Value} {o0 : Option Value} {x : Option Nat} : Z m ((pc, .astore 5, len, a, b, 0) :: code) (l0 :: l1 :: l2 :: l3 :: l4 :: o0 :: L) (va_rf x :: st) h P ↔ Z m code (l0 :: l1 :: l2 :: l3 :: l4 :: some (va_rf x) :: L) st h P := by cases x <;> exact Z_go rfl rfl
theorem Z_astoren5 {pc len a b : Nat}{l0 l1 l2 l3 l4 : Option Value} {o0 : Option Value} : Z m ((pc, .astore 5, len, a, b, 0) :: code) (l0 :: l1 :: l2 :: l3 :: l4 :: o0 :: L) (.null :: st) h P ↔ Z m code (l0 :: l1 :: l2 :: l3 :: l4 :: some .null :: L) st h P := Z_go rfl rfl
theorem Z_iinc5 {pc len a b : Nat}{l0 l1 l2 l3 l4 : Option Value} {x : Int32} {n : Int} : Z m ((pc, .iinc 5 n, len, a, b, 0) :: code) (l0 :: l1 :: l2 :: l3 :: l4 :: some (.int x) :: L) st h P ↔ Z m code (l0 :: l1 :: l2 :: l3 :: l4 :: some (.int (x + sm_lit a b)) :: L) st h P := Z_go rfl rfl
theorem Z_iload6 {pc len a b : Nat}{l0 l1 l2 l3 l4 l5 : Option Value} {x : Int32} : Z m ((pc, .iload 6, len, a, b, 0) :: code) (l0 :: l1 :: l2 :: l3 :: l4 :: l5 :: some (.int x) :: L) st h P ↔ Z m code (l0 :: l1 :: l2 :: l3 :: l4 :: l5 :: some (.int x) :: L) (.int x :: st) h P := Z_go rfl rfl
theorem Z_aload6 {pc len a b : Nat}{l0 l1 l2 l3 l4 l5 : Option Value} {x : Nat} : Z m ((pc, .aload 6, len, a, b, 0) :: code) (l0 :: l1 :: l2 :: l3 :: l4 :: l5 :: some (.ref x) :: L) st h P ↔ Z m code (l0 :: l1 :: l2 :: l3 :: l4 :: l5 :: some (.ref x) :: L) (.ref x :: st) h P := Z_go rfl rfl
theorem Z_aloadq6 {pc len a b : Nat}{l0 l1 l2 l3 l4 l5 : Option Value} {x : Option Nat} : Z m ((pc, .aload 6, len, a, b, 0) :: code) (l0 :: l1 :: l2 :: l3 :: l4 :: l5 :: some (va_rf x) :: L) st h P ↔ Z m code (l0 :: l1 :: l2 :: l3 :: l4 :: l5 :: some (va_rf x) :: L) (va_rf x :: st) h P := by cases x <;> exact Z_go rfl rfl
theorem Z_aloadn6 {pc len a b : Nat}{l0 l1 l2 l3 l4 l5 : Option Value}  : Z m ((pc, .aload 6, len, a, b, 0) :: code) (l0 :: l1 :: l2 :: l3 :: l4 :: l5 :: some .null :: L) st h P ↔ Z m code (l0 :: l1 :: l2 :: l3 :: l4 :: l5 :: some .null :: L) (.null :: st) h P := Z_go rfl rfl
theorem Z_istore6 {pc len a b : Nat}{l0 l1 l2 l3 l4 l5 : Option Value} {o0 : Option Value} {x : Int32} : Z m ((pc, .istore 6, len, a, b, 0) :: code) (l0 :: l1 :: l2 :: l3 :: l4 :: l5 :: o0 :: L) (.int x :: st) h P ↔ Z m code (l0 :: l1 :: l2 :: l3 :: l4 :: l5 :: some (.int x) :: L) st h P := Z_go rfl rfl
theorem Z_astore6 {pc len a b : Nat}{l0 l1 l2 l3 l4 l5 : Option Value} {o0 : Option Value} {x : Nat} : Z m ((pc, .astore 6, len, a, b, 0) :: code) (l0 :: l1 :: l2 :: l3 :: l4 :: l5 :: o0 :: L) (.ref x :: st) h P ↔ Z m code (l0 :: l1 :: l2 :: l3 :: l4 :: l5 :: some (.ref x) :: L) st h P := Z_go rfl rfl
theorem Z_astoreq6 {pc len a b : Nat}{l0 l1 l2 l3 l4 l5 : Option Value} {o0 : Option Value} {x : Option Nat} : Z m ((pc, .astore 6, len, a, b, 0) :: code) (l0 :: l1 :: l2 :: l3 :: l4 :: l5 :: o0 :: L) (va_rf x :: st) h P ↔ Z m code (l0 :: l1 :: l2 :: l3 :: l4 :: l5 :: some (va_rf x) :: L) st h P := by cases x <;> exact Z_go rfl rfl
theorem Z_astoren6 {pc len a b : Nat}{l0 l1 l2 l3 l4 l5 : Option Value} {o0 : Option Value} : Z m ((pc, .astore 6, len, a, b, 0) :: code) (l0 :: l1 :: l2 :: l3 :: l4 :: l5 :: o0 :: L) (.null :: st) h P ↔ Z m code (l0 :: l1 :: l2 :: l3 :: l4 :: l5 :: some .null :: L) st h P := Z_go rfl rfl
theorem Z_iinc6 {pc len a b : Nat}{l0 l1 l2 l3 l4 l5 : Option Value} {x : Int32} {n : Int} : Z m ((pc, .iinc 6 n, len, a, b, 0) :: code) (l0 :: l1 :: l2 :: l3 :: l4 :: l5 :: some (.int x) :: L) st h P ↔ Z m code (l0 :: l1 :: l2 :: l3 :: l4 :: l5 :: some (.int (x + sm_lit a b)) :: L) st h P := Z_go rfl rfl
theorem Z_iload7 {pc len a b : Nat}{l0 l1 l2 l3 l4 l5 l6 : Option Value} {x : Int32} : Z m ((pc, .iload 7, len, a, b, 0) :: code) (l0 :: l1 :: l2 :: l3 :: l4 :: l5 :: l6 :: some (.int x) :: L) st h P ↔ Z m code (l0 :: l1 :: l2 :: l3 :: l4 :: l5 :: l6 :: some (.int x) :: L) (.int x :: st) h P := Z_go rfl rfl
theorem Z_aload7 {pc len a b : Nat}{l0 l1 l2 l3 l4 l5 l6 : Option Value} {x : Nat} : Z m ((pc, .aload 7, len, a, b, 0) :: code) (l0 :: l1 :: l2 :: l3 :: l4 :: l5 :: l6 :: some (.ref x) :: L) st h P ↔ Z m code (l0 :: l1 :: l2 :: l3 :: l4 :: l5 :: l6 :: some (.ref x) :: L) (.ref x :: st) h P := Z_go rfl rfl
theorem Z_aloadq7 {pc len a b : Nat}{l0 l1 l2 l3 l4 l5 l6 : Option Value} {x : Option Nat} : Z m ((pc, .aload 7, len, a, b, 0) :: code) (l0 :: l1 :: l2 :: l3 :: l4 :: l5 :: l6 :: some (va_rf x) :: L) st h P ↔ Z m code (l0 :: l1 :: l2 :: l3 :: l4 :: l5 :: l6 :: some (va_rf x) :: L) (va_rf x :: st) h P := by cases x <;> exact Z_go rfl rfl
theorem Z_aloadn7 {pc len a b : Nat}{l0 l1 l2 l3 l4 l5 l6 : Option Value}  : Z m ((pc, .aload 7, len, a, b, 0) :: code) (l0 :: l1 :: l2 :: l3 :: l4 :: l5 :: l6 :: some .null :: L) st h P ↔ Z m code (l0 :: l1 :: l2 :: l3 :: l4 :: l5 :: l6 :: some .null :: L) (.null :: st) h P := Z_go rfl rfl
theorem Z_istore7 {pc len a b : Nat}{l0 l1 l2 l3 l4 l5 l6 : Option Value} {o0 : Option Value} {x : Int32} : Z m ((pc, .istore 7, len, a, b, 0) :: code) (l0 :: l1 :: l2 :: l3 :: l4 :: l5 :: l6 :: o0 :: L) (.int x :: st) h P ↔ Z m code (l0 :: l1 :: l2 :: l3 :: l4 :: l5 :: l6 :: some (.int x) :: L) st h P := Z_go rfl rfl
theorem Z_astore7 {pc len a b : Nat}{l0 l1 l2 l3 l4 l5 l6 : Option Value} {o0 : Option Value} {x : Nat} : Z m ((pc, .astore 7, len, a, b, 0) :: code) (l0 :: l1 :: l2 :: l3 :: l4 :: l5 :: l6 :: o0 :: L) (.ref x :: st) h P ↔ Z m code (l0 :: l1 :: l2 :: l3 :: l4 :: l5 :: l6 :: some (.ref x) :: L) st h P := Z_go rfl rfl
theorem Z_astoreq7 {pc len a b : Nat}{l0 l1 l2 l3 l4 l5 l6 : Option Value} {o0 : Option Value} {x : Option Nat} : Z m ((pc, .astore 7, len, a, b, 0) :: code) (l0 :: l1 :: l2 :: l3 :: l4 :: l5 :: l6 :: o0 :: L) (va_rf x :: st) h P ↔ Z m code (l0 :: l1 :: l2 :: l3 :: l4 :: l5 :: l6 :: some (va_rf x) :: L) st h P := by cases x <;> exact Z_go rfl rfl
theorem Z_astoren7 {pc len a b : Nat}{l0 l1 l2 l3 l4 l5 l6 : Option Value} {o0 : Option Value} : Z m ((pc, .astore 7, len, a, b, 0) :: code) (l0 :: l1 :: l2 :: l3 :: l4 :: l5 :: l6 :: o0 :: L) (.null :: st) h P ↔ Z m code (l0 :: l1 :: l2 :: l3 :: l4 :: l5 :: l6 :: some .null :: L) st h P := Z_go rfl rfl
theorem Z_iinc7 {pc len a b : Nat}{l0 l1 l2 l3 l4 l5 l6 : Option Value} {x : Int32} {n : Int} : Z m ((pc, .iinc 7 n, len, a, b, 0) :: code) (l0 :: l1 :: l2 :: l3 :: l4 :: l5 :: l6 :: some (.int x) :: L) st h P ↔ Z m code (l0 :: l1 :: l2 :: l3 :: l4 :: l5 :: l6 :: some (.int (x + sm_lit a b)) :: L) st h P := Z_go rfl rfl
theorem Z_iload8 {pc len a b : Nat}{l0 l1 l2 l3 l4 l5 l6 l7 : Option Value} {x : Int32} : Z m ((pc, .iload 8, len, a, b, 0) :: code) (l0 :: l1 :: l2 :: l3 :: l4 :: l5 :: l6 :: l7 :: some (.int x) :: L) st h P ↔ Z m code (l0 :: l1 :: l2 :: l3 :: l4 :: l5 :: l6 :: l7 :: some (.int x) :: L) (.int x :: st) h P := Z_go rfl rfl
theorem Z_aload8 {pc len a b : Nat}{l0 l1 l2 l3 l4 l5 l6 l7 : Option Value} {x : Nat} : Z m ((pc, .aload 8, len, a, b, 0) :: code) (l0 :: l1 :: l2 :: l3 :: l4 :: l5 :: l6 :: l7 :: some (.ref x) :: L) st h P ↔ Z m code (l0 :: l1 :: l2 :: l3 :: l4 :: l5 :: l6 :: l7 :: some (.ref x) :: L) (.ref x :: st) h P := Z_go rfl rfl
theorem Z_aloadq8 {pc len a b : Nat}{l0 l1 l2 l3 l4 l5 l6 l7 : Option Value} {x : Option Nat} : Z m ((pc, .aload 8, len, a, b, 0) :: code) (l0 :: l1 :: l2 :: l3 :: l4 :: l5 :: l6 :: l7 :: some (va_rf x) :: L) st h P ↔ Z m code (l0 :: l1 :: l2 :: l3 :: l4 :: l5 :: l6 :: l7 :: some (va_rf x) :: L) (va_rf x :: st) h P := by cases x <;> exact Z_go rfl rfl
theorem Z_aloadn8 {pc len a b : Nat}{l0 l1 l2 l3 l4 l5 l6 l7 : Option Value}  : Z m ((pc, .aload 8, len, a, b, 0) :: code) (l0 :: l1 :: l2 :: l3 :: l4 :: l5 :: l6 :: l7 :: some .null :: L) st h P ↔ Z m code (l0 :: l1 :: l2 :: l3 :: l4 :: l5 :: l6 :: l7 :: some .null :: L) (.null :: st) h P := Z_go rfl rfl
theorem Z_istore8 {pc len a b : Nat}{l0 l1 l2 l3 l4 l5 l6 l7 : Option Value} {o0 : Option Value} {x : Int32} : Z m ((pc, .istore 8, len, a, b, 0) :: code) (l0 :: l1 :: l2 :: l3 :: l4 :: l5 :: l6 :: l7 :: o0 :: L) (.int x :: st) h P ↔ Z m code (l0 :: l1 :: l2 :: l3 :: l4 :: l5 :: l6 :: l7 :: some (.int x) :: L) st h P := Z_go rfl rfl
theorem Z_astore8 {pc len a b : Nat}{l0 l1 l2 l3 l4 l5 l6 l7 : Option Value} {o0 : Option Value} {x : Nat} : Z m ((pc, .astore 8, len, a, b, 0) :: code) (l0 :: l1 :: l2 :: l3 :: l4 :: l5 :: l6 :: l7 :: o0 :: L) (.ref x :: st) h P ↔ Z m code (l0 :: l1 :: l2 :: l3 :: l4 :: l5 :: l6 :: l7 :: some (.ref x) :: L) st h P := Z_go rfl rfl
theorem Z_astoreq8 {pc len a b : Nat}{l0 l1 l2 l3 l4 l5 l6 l7 : Option Value} {o0 : Option Value} {x : Option Nat} : Z m ((pc, .astore 8, len, a, b, 0) :: code) (l0 :: l1 :: l2 :: l3 :: l4 :: l5 :: l6 :: l7 :: o0 :: L) (va_rf x :: st) h P ↔ Z m code (l0 :: l1 :: l2 :: l3 :: l4 :: l5 :: l6 :: l7 :: some (va_rf x) :: L) st h P := by cases x <;> exact Z_go rfl rfl
theorem Z_astoren8 {pc len a b : Nat}{l0 l1 l2 l3 l4 l5 l6 l7 : Option Value} {o0 : Option Value} : Z m ((pc, .astore 8, len, a, b, 0) :: code) (l0 :: l1 :: l2 :: l3 :: l4 :: l5 :: l6 :: l7 :: o0 :: L) (.null :: st) h P ↔ Z m code (l0 :: l1 :: l2 :: l3 :: l4 :: l5 :: l6 :: l7 :: some .null :: L) st h P := Z_go rfl rfl
theorem Z_iinc8 {pc len a b : Nat}{l0 l1 l2 l3 l4 l5 l6 l7 : Option Value} {x : Int32} {n : Int} : Z m ((pc, .iinc 8 n, len, a, b, 0) :: code) (l0 :: l1 :: l2 :: l3 :: l4 :: l5 :: l6 :: l7 :: some (.int x) :: L) st h P ↔ Z m code (l0 :: l1 :: l2 :: l3 :: l4 :: l5 :: l6 :: l7 :: some (.int (x + sm_lit a b)) :: L) st h P := Z_go rfl rfl
theorem Z_iload9 {pc len a b : Nat}{l0 l1 l2 l3 l4 l5 l6 l7 l8 : Option Value} {x : Int32} : Z m ((pc, .iload 9, len, a, b, 0) :: code) (l0 :: l1 :: l2 :: l3 :: l4 :: l5 :: l6 :: l7 :: l8 :: some (.int x) :: L) st h P ↔ Z m code (l0 :: l1 :: l2 :: l3 :: l4 :: l5 :: l6 :: l7 :: l8 :: some (.int x) :: L) (.int x :: st) h P := Z_go rfl rfl
theorem Z_aload9 {pc len a b : Nat}{l0 l1 l2 l3 l4 l5 l6 l7 l8 : Option Value} {x : Nat} : Z m ((pc, .aload 9, len, a, b, 0) :: code) (l0 :: l1 :: l2 :: l3 :: l4 :: l5 :: l6 :: l7 :: l8 :: some (.ref x) :: L) st h P ↔ Z m code (l0 :: l1 :: l2 :: l3 :: l4 :: l5 :: l6 :: l7 :: l8 :: some (.ref x) :: L) (.ref x :: st) h P := Z_go rfl rfl
theorem Z_aloadq9 {pc len a b : Nat}{l0 l1 l2 l3 l4 l5 l6 l7 l8 : Option Value} {x : Option Nat} : Z m ((pc, .aload 9, len, a, b, 0) :: code) (l0 :: l1 :: l2 :: l3 :: l4 :: l5 :: l6 :: l7 :: l8 :: some (va_rf x) :: L) st h P ↔ Z m code (l0 :: l1 :: l2 :: l3 :: l4 :: l5 :: l6 :: l7 :: l8 :: some (va_rf x) :: L) (va_rf x :: st) h P := by cases x <;> exact Z_go rfl rfl
theorem Z_aloadn9 {pc len a b : Nat}{l0 l1 l2 l3 l4 l5 l6 l7 l8 : Option Value}  : Z m ((pc, .aload 9, len, a, b, 0) :: code) (l0 :: l1 :: l2 :: l3 :: l4 :: l5 :: l6 :: l7 :: l8 :: some .null :: L) st h P ↔ Z m code (l0 :: l1 :: l2 :: l3 :: l4 :: l5 :: l6 :: l7 :: l8 :: some .null :: L) (.null :: st) h P := Z_go rfl rfl
theorem Z_istore9 {pc len a b : Nat}{l0 l1 l2 l3 l4 l5 l6 l7 l8 : Option Value} {o0 : Option Value} {x : Int32} : Z m ((pc, .istore 9, len, a, b, 0) :: code) (l0 :: l1 :: l2 :: l3 :: l4 :: l5 :: l6 :: l7 :: l8 :: o0 :: L) (.int x :: st) h P ↔ Z m code (l0 :: l1 :: l2 :: l3 :: l4 :: l5 :: l6 :: l7 :: l8 :: some (.int x) :: L) st h P := Z_go rfl rfl
theorem Z_astore9 {pc len a b : Nat}{l0 l1 l2 l3 l4 l5 l6 l7 l8 : Option Value} {o0 : Option Value} {x : Nat} : Z m ((pc, .astore 9, len, a, b, 0) :: code) (l0 :: l1 :: l2 :: l3 :: l4 :: l5 :: l6 :: l7 :: l8 :: o0 :: L) (.ref x :: st) h P ↔ Z m code (l0 :: l1 :: l2 :: l3 :: l4 :: l5 :: l6 :: l7 :: l8 :: some (.ref x) :: L) st h P := Z_go rfl rfl
theorem Z_astoreq9 {pc len a b : Nat}{l0 l1 l2 l3 l4 l5 l6 l7 l8 : Option Value} {o0 : Option Value} {x : Option Nat} : Z m ((pc, .astore 9, len, a, b, 0) :: code) (l0 :: l1 :: l2 :: l3 :: l4 :: l5 :: l6 :: l7 :: l8 :: o0 :: L) (va_rf x :: st) h P ↔ Z m code (l0 :: l1 :: l2 :: l3 :: l4 :: l5 :: l6 :: l7 :: l8 :: some (va_rf x) :: L) st h P := by cases x <;> exact Z_go rfl rfl
theorem Z_astoren9 {pc len a b : Nat}{l0 l1 l2 l3 l4 l5 l6 l7 l8 : Option Value} {o0 : Option Value} : Z m ((pc, .astore 9, len, a, b, 0) :: code) (l0 :: l1 :: l2 :: l3 :: l4 :: l5 :: l6 :: l7 :: l8 :: o0 :: L) (.null :: st) h P ↔ Z m code (l0 :: l1 :: l2 :: l3 :: l4 :: l5 :: l6 :: l7 :: l8 :: some .null :: L) st h P := Z_go rfl rfl
theorem Z_iinc9 {pc len a b : Nat}{l0 l1 l2 l3 l4 l5 l6 l7 l8 : Option Value} {x : Int32} {n : Int} : Z m ((pc, .iinc 9 n, len, a, b, 0) :: code) (l0 :: l1 :: l2 :: l3 :: l4 :: l5 :: l6 :: l7 :: l8 :: some (.int x) :: L) st h P ↔ Z m code (l0 :: l1 :: l2 :: l3 :: l4 :: l5 :: l6 :: l7 :: l8 :: some (.int (x + sm_lit a b)) :: L) st h P := Z_go rfl rfl
theorem Z_iload10 {pc len a b : Nat}{l0 l1 l2 l3 l4 l5 l6 l7 l8 l9 : Option Value} {x : Int32} : Z m ((pc, .iload 10, len, a, b, 0) :: code) (l0 :: l1 :: l2 :: l3 :: l4 :: l5 :: l6 :: l7 :: l8 :: l9 :: some (.int x) :: L) st h P ↔ Z m code (l0 :: l1 :: l2 :: l3 :: l4 :: l5 :: l6 :: l7 :: l8 :: l9 :: some (.int x) :: L) (.int x :: st) h P := Z_go rfl rfl
theorem Z_aload10 {pc len a b : Nat}{l0 l1 l2 l3 l4 l5 l6 l7 l8 l9 : Option Value} {x : Nat} : Z m ((pc, .aload 10, len, a, b, 0) :: code) (l0 :: l1 :: l2 :: l3 :: l4 :: l5 :: l6 :: l7 :: l8 :: l9 :: some (.ref x) :: L) st h P ↔ Z m code (l0 :: l1 :: l2 :: l3 :: l4 :: l5 :: l6 :: l7 :: l8 :: l9 :: some (.ref x) :: L) (.ref x :: st) h P := Z_go rfl rfl
theorem Z_aloadq10 {pc len a b : Nat}{l0 l1 l2 l3 l4 l5 l6 l7 l8 l9 : Option Value} {x : Option Nat} : Z m ((pc, .aload 10, len, a, b, 0) :: code) (l0 :: l1 :: l2 :: l3 :: l4 :: l5 :: l6 :: l7 :: l8 :: l9 :: some (va_rf x) :: L) st h P ↔ Z m code (l0 :: l1 :: l2 :: l3 :: l4 :: l5 :: l6 :: l7 :: l8 :: l9 :: some (va_rf x) :: L) (va_rf x :: st) h P := by cases x <;> exact Z_go rfl rfl
theorem Z_aloadn10 {pc len a b : Nat}{l0 l1 l2 l3 l4 l5 l6 l7 l8 l9 : Option Value}  : Z m ((pc, .aload 10, len, a, b, 0) :: code) (l0 :: l1 :: l2 :: l3 :: l4 :: l5 :: l6 :: l7 :: l8 :: l9 :: some .null :: L) st h P ↔ Z m code (l0 :: l1 :: l2 :: l3 :: l4 :: l5 :: l6 :: l7 :: l8 :: l9 :: some .null :: L) (.null :: st) h P := Z_go rfl rfl
theorem Z_istore10 {pc len a b : Nat}{l0 l1 l2 l3 l4 l5 l6 l7 l8 l9 : Option Value} {o0 : Option Value} {x : Int32} : Z m ((pc, .istore 10, len, a, b, 0) :: code) (l0 :: l1 :: l2 :: l3 :: l4 :: l5 :: l6 :: l7 :: l8 :: l9 :: o0 :: L) (.int x :: st) h P ↔ Z m code (l0 :: l1 :: l2 :: l3 :: l4 :: l5 :: l6 :: l7 :: l8 :: l9 :: some (.int x) :: L) st h P := Z_go rfl rfl
theorem Z_astore10 {pc len a b : Nat}{l0 l1 l2 l3 l4 l5 l6 l7 l8 l9 : Option Value} {o0 : Option Value} {x : Nat} : Z m ((pc, .astore 10, len, a, b, 0) :: code) (l0 :: l1 :: l2 :: l3 :: l4 :: l5 :: l6 :: l7 :: l8 :: l9 :: o0 :: L) (.ref x :: st) h P ↔ Z m code (l0 :: l1 :: l2 :: l3 :: l4 :: l5 :: l6 :: l7 :: l8 :: l9 :: some (.ref x) :: L) st h P := Z_go rfl rfl
theorem Z_astoreq10 {pc len a b : Nat}{l0 l1 l2 l3 l4 l5 l6 l7 l8 l9 : Option Value} {o0 : Option Value} {x : Option Nat} : Z m ((pc, .astore 10, len, a, b, 0) :: code) (l0 :: l1 :: l2 :: l3 :: l4 :: l5 :: l6 :: l7 :: l8 :: l9 :: o0 :: L) (va_rf x :: st) h P ↔ Z m code (l0 :: l1 :: l2 :: l3 :: l4 :: l5 :: l6 :: l7 :: l8 :: l9 :: some (va_rf x) :: L) st h P := by cases x <;> exact Z_go rfl rfl
theorem Z_astoren10 {pc len a b : Nat}{l0 l1 l2 l3 l4 l5 l6 l7 l8 l9 : Option Value} {o0 : Option Value} : Z m ((pc, .astore 10, len, a, b, 0) :: code) (l0 :: l1 :: l2 :: l3 :: l4 :: l5 :: l6 :: l7 :: l8 :: l9 :: o0 :: L) (.null :: st) h P ↔ Z m code (l0 :: l1 :: l2 :: l3 :: l4 :: l5 :: l6 :: l7 :: l8 :: l9 :: some .null :: L) st h P := Z_go rfl rfl
theorem Z_iinc10 {pc len a b : Nat}{l0 l1 l2 l3 l4 l5 l6 l7 l8 l9 : Option Value} {x : Int32} {n : Int} : Z m ((pc, .iinc 10 n, len, a, b, 0) :: code) (l0 :: l1 :: l2 :: l3 :: l4 :: l5 :: l6 :: l7 :: l8 :: l9 :: some (.int x) :: L) st h P ↔ Z m code (l0 :: l1 :: l2 :: l3 :: l4 :: l5 :: l6 :: l7 :: l8 :: l9 :: some (.int (x + sm_lit a b)) :: L) st h P := Z_go rfl rfl
theorem Z_iload11 {pc len a b : Nat}{l0 l1 l2 l3 l4 l5 l6 l7 l8 l9 l10 : Option Value} {x : Int32} : Z m ((pc, .iload 11, len, a, b, 0) :: code) (l0 :: l1 :: l2 :: l3 :: l4 :: l5 :: l6 :: l7 :: l8 :: l9 :: l10 :: some (.int x) :: L) st h P ↔ Z m code (l0 :: l1 :: l2 :: l3 :: l4 :: l5 :: l6 :: l7 :: l8 :: l9 :: l10 :: some (.int x) :: L) (.int x :: st) h P := Z_go rfl rfl
theorem Z_aload11 {pc len a b : Nat}{l0 l1 l2 l3 l4 l5 l6 l7 l8 l9 l10 : Option Value} {x : Nat} : Z m ((pc, .aload 11, len, a, b, 0) :: code) (l0 :: l1 :: l2 :: l3 :: l4 :: l5 :: l6 :: l7 :: l8 :: l9 :: l10 :: some (.ref x) :: L) st h P ↔ Z m code (l0 :: l1 :: l2 :: l3 :: l4 :: l5 :: l6 :: l7 :: l8 :: l9 :: l10 :: some (.ref x) :: L) (.ref x :: st) h P := Z_go rfl rfl
theorem Z_aloadq11 {pc len a b : Nat}{l0 l1 l2 l3 l4 l5 l6 l7 l8 l9 l10 : Option Value} {x : Option Nat} : Z m ((pc, .aload 11, len, a, b, 0) :: code) (l0 :: l1 :: l2 :: l3 :: l4 :: l5 :: l6 :: l7 :: l8 :: l9 :: l10 :: some (va_rf x) :: L) st h P ↔ Z m code (l0 :: l1 :: l2 :: l3 :: l4 :: l5 :: l6 :: l7 :: l8 :: l9 :: l10 :: some (va_rf x) :: L) (va_rf x :: st) h P := by cases x <;> exact Z_go rfl rfl
theorem Z_aloadn11 {pc len a b : Nat}{l0 l1 l2 l3 l4 l5 l6 l7 l8 l9 l10 : Option Value}  : Z m ((pc, .aload 11, len, a, b, 0) :: code) (l0 :: l1 :: l2 :: l3 :: l4 :: l5 :: l6 :: l7 :: l8 :: l9 :: l10 :: some .null :: L) st h P ↔ Z m code (l0 :: l1 :: l2 :: l3 :: l4 :: l5 :: l6 :: l7 :: l8 :: l9 :: l10 :: some .null :: L) (.null :: st) h P := Z_go rfl rfl
theorem Z_istore11 {pc len a b : Nat}{l0 l1 l2 l3 l4 l5 l6 l7 l8 l9 l10 : Option Value} {o0 : Option Value} {x : Int32} : Z m ((pc, .istore 11, len, a, b, 0) :: code) (l0 :: l1 :: l2 :: l3 :: l4 :: l5 :: l6 :: l7 :: l8 :: l9 :: l10 :: o0 :: L) (.int x :: st) h P ↔ Z m code (l0 :: l1 :: l2 :: l3 :: l4 :: l5 :: l6 :: l7 :: l8 :: l9 :: l10 :: some (.int x) :: L) st h P := Z_go rfl rfl
theorem Z_astore11 {pc len a b : Nat}{l0 l1 l2 l3 l4 l5 l6 l7 l8 l9 l10 : Option Value} {o0 : Option Value} {x : Nat} : Z m ((pc, .astore 11, len, a, b, 0) :: code) (l0 :: l1 :: l2 :: l3 :: l4 :: l5 :: l6 :: l7 :: l8 :: l9 :: l10 :: o0 :: L) (.ref x :: st) h P ↔ Z m code (l0 :: l1 :: l2 :: l3 :: l4 :: l5 :: l6 :: l7 :: l8 :: l9 :: l10 :: some (.ref x) :: L) st h P := Z_go rfl rfl
theorem Z_astoreq11 {pc len a b : Nat}{l0 l1 l2 l3 l4 l5 l6 l7 l8 l9 l10 : Option Value} {o0 : Option Value} {x : Option Nat} : Z m ((pc, .astore 11, len, a, b, 0) :: code) (l0 :: l1 :: l2 :: l3 :: l4 :: l5 :: l6 :: l7 :: l8 :: l9 :: l10 :: o0 :: L) (va_rf x :: st) h P ↔ Z m code (l0 :: l1 :: l2 :: l3 :: l4 :: l5 :: l6 :: l7 :: l8 :: l9 :: l10 :: some (va_rf x) :: L) st h P := by cases x <;> exact Z_go rfl rfl
theorem Z_astoren11 {pc len a b : Nat}{l0 l1 l2 l3 l4 l5 l6 l7 l8 l9 l10 : Option Value} {o0 : Option Value} : Z m ((pc, .astore 11, len, a, b, 0) :: code) (l0 :: l1 :: l2 :: l3 :: l4 :: l5 :: l6 :: l7 :: l8 :: l9 :: l10 :: o0 :: L) (.null :: st) h P ↔ Z m code (l0 :: l1 :: l2 :: l3 :: l4 :: l5 :: l6 :: l7 :: l8 :: l9 :: l10 :: some .null :: L) st h P := Z_go rfl rfl
theorem Z_iinc11 {pc len a b : Nat}{l0 l1 l2 l3 l4 l5 l6 l7 l8 l9 l10 : Option Value} {x : Int32} {n : Int} : Z m ((pc, .iinc 11 n, len, a, b, 0) :: code) (l0 :: l1 :: l2 :: l3 :: l4 :: l5 :: l6 :: l7 :: l8 :: l9 :: l10 :: some (.int x) :: L) st h P ↔ Z m code (l0 :: l1 :: l2 :: l3 :: l4 :: l5 :: l6 :: l7 :: l8 :: l9 :: l10 :: some (.int (x + sm_lit a b)) :: L) st h P := Z_go rfl rfl
theorem Z_iload12 {pc len a b : Nat}{l0 l1 l2 l3 l4 l5 l6 l7 l8 l9 l10 l11 : Option Value} {x : Int32} : Z m ((pc, .iload 12, len, a, b, 0) :: code) (l0 :: l1 :: l2 :: l3 :: l4 :: l5 :: l6 :: l7 :: l8 :: l9 :: l10 :: l11 :: some (.int x) :: L) st h P ↔ Z m code (l0 :: l1 :: l2 :: l3 :: l4 :: l5 :: l6 :: l7 :: l8 :: l9 :: l10 :: l11 :: some (.int x) :: L) (.int x :: st) h P := Z_go rfl rfl
theorem Z_aload12 {pc len a b : Nat}{l0 l1 l2 l3 l4 l5 l6 l7 l8 l9 l10 l11 : Option Value} {x : Nat} : Z m ((pc, .aload 12, len, a, b, 0) :: code) (l0 :: l1 :: l2 :: l3 :: l4 :: l5 :: l6 :: l7 :: l8 :: l9 :: l10 :: l11 :: some (.ref x) :: L) st h P ↔ Z m code (l0 :: l1 :: l2 :: l3 :: l4 :: l5 :: l6 :: l7 :: l8 :: l9 :: l10 :: l11 :: some (.ref x) :: L) (.ref x :: st) h P := Z_go rfl rfl
theorem Z_aloadq12 {pc len a b : Nat}{l0 l1 l2 l3 l4 l5 l6 l7 l8 l9 l10 l11 : Option Value} {x : Option Nat} : Z m ((pc, .aload 12, len, a, b, 0) :: code) (l0 :: l1 :: l2 :: l3 :: l4 :: l5 :: l6 :: l7 :: l8 :: l9 :: l10 :: l11 :: some (va_rf x) :: L) st h P ↔ Z m code (l0 :: l1 :: l2 :: l3 :: l4 :: l5 :: l6 :: l7 :: l8 :: l9 :: l10 :: l11 :: some (va_rf x) :: L) (va_rf x :: st) h P := by cases x <;> exact Z_go rfl rfl
theorem Z_aloadn12 {pc len a b : Nat}{l0 l1 l2 l3 l4 l5 l6 l7 l8 l9 l10 l11 : Option Value}  : Z m ((pc, .aload 12, len, a, b, 0) :: code) (l0 :: l1 :: l2 :: l3 :: l4 :: l5 :: l6 :: l7 :: l8 :: l9 :: l10 :: l11 :: some .null :: L) st h P ↔ Z m code (l0 :: l1 :: l2 :: l3 :: l4 :: l5 :: l6 :: l7 :: l8 :: l9 :: l10 :: l11 :: some .null :: L) (.null :: st) h P := Z_go rfl rfl
theorem Z_istore12 {pc len a b : Nat}{l0 l1 l2 l3 l4 l5 l6 l7 l8 l9 l10 l11 : Option Value} {o0 : Option Value} {x : Int32} : Z m ((pc, .istore 12, len, a, b, 0) :: code) (l0 :: l1 :: l2 :: l3 :: l4 :: l5 :: l6 :: l7 :: l8 :: l9 :: l10 :: l11 :: o0 :: L) (.int x :: st) h P ↔ Z m code (l0 :: l1 :: l2 :: l3 :: l4 :: l5 :: l6 :: l7 :: l8 :: l9 :: l10 :: l11 :: some (.int x) :: L) st h P := Z_go rfl rfl
theorem Z_astore12 {pc len a b : Nat}{l0 l1 l2 l3 l4 l5 l6 l7 l8 l9 l10 l11 : Option Value} {o0 : Option Value} {x : Nat} : Z m ((pc, .astore 12, len, a, b, 0) :: code) (l0 :: l1 :: l2 :: l3 :: l4 :: l5 :: l6 :: l7 :: l8 :: l9 :: l10 :: l11 :: o0 :: L) (.ref x :: st) h P ↔ Z m code (l0 :: l1 :: l2 :: l3 :: l4 :: l5 :: l6 :: l7 :: l8 :: l9 :: l10 :: l11 :: some (.ref x) :: L) st h P := Z_go rfl rfl
theorem Z_astoreq12 {pc len a b : Nat}{l0 l1 l2 l3 l4 l5 l6 l7 l8 l9 l10 l11 : Option Value} {o0 : Option Value} {x : Option Nat} : Z m ((pc, .astore 12, len, a, b, 0) :: code) (l0 :: l1 :: l2 :: l3 :: l4 :: l5 :: l6 :: l7 :: l8 :: l9 :: l10 :: l11 :: o0 :: L) (va_rf x :: st) h P ↔ Z m code (l0 :: l1 :: l2 :: l3 :: l4 :: l5 :: l6 :: l7 :: l8 :: l9 :: l10 :: l11 :: some (va_rf x) :: L) st h P := by cases x <;> exact Z_go rfl rfl
theorem Z_astoren12 {pc len a b : Nat}{l0 l1 l2 l3 l4 l5 l6 l7 l8 l9 l10 l11 : Option Value} {o0 : Option Value} : Z m ((pc, .astore 12, len, a, b, 0) :: code) (l0 :: l1 :: l2 :: l3 :: l4 :: l5 :: l6 :: l7 :: l8 :: l9 :: l10 :: l11 :: o0 :: L) (.null :: st) h P ↔ Z m code (l0 :: l1 :: l2 :: l3 :: l4 :: l5 :: l6 :: l7 :: l8 :: l9 :: l10 :: l11 :: some .null :: L) st h P := Z_go rfl rfl
theorem Z_iinc12 {pc len a b : Nat}{l0 l1 l2 l3 l4 l5 l6 l7 l8 l9 l10 l11 : Option Value} {x : Int32} {n : Int} : Z m ((pc, .iinc 12 n, len, a, b, 0) :: code) (l0 :: l1 :: l2 :: l3 :: l4 :: l5 :: l6 :: l7 :: l8 :: l9 :: l10 :: l11 :: some (.int x) :: L) st h P ↔ Z m code (l0 :: l1 :: l2 :: l3 :: l4 :: l5 :: l6 :: l7 :: l8 :: l9 :: l10 :: l11 :: some (.int (x + sm_lit a b)) :: L) st h P := Z_go rfl rfl
theorem Z_iadd {pc len a b : Nat} {x y : Int32} : Z m ((pc, .iadd, len, a, b, 0) :: code) L (.int y :: .int x :: st) h P ↔ Z m code L (.int (x + y) :: st) h P := Z_go rfl rfl
theorem Z_isub {pc len a b : Nat} {x y : Int32} : Z m ((pc, .isub, len, a, b, 0) :: code) L (.int y :: .int x :: st) h P ↔ Z m code L (.int (x - y) :: st) h P := Z_go rfl rfl
theorem Z_imul {pc len a b : Nat} {x y : Int32} : Z m ((pc, .imul, len, a, b, 0) :: code) L (.int y :: .int x :: st) h P ↔ Z m code L (.int (x * y) :: st) h P := Z_go rfl rfl
theorem Z_iand {pc len a b : Nat} {x y : Int32} : Z m ((pc, .iand, len, a, b, 0) :: code) L (.int y :: .int x :: st) h P ↔ Z m code L (.int (x &&& y) :: st) h P := Z_go rfl rfl
theorem Z_ior {pc len a b : Nat} {x y : Int32} : Z m ((pc, .ior, len, a, b, 0) :: code) L (.int y :: .int x :: st) h P ↔ Z m code L (.int (x ||| y) :: st) h P := Z_go rfl rfl
theorem Z_ishl {pc len a b : Nat} {x y : Int32} : Z m ((pc, .ishl, len, a, b, 0) :: code) L (.int y :: .int x :: st) h P ↔ Z m code L (.int (x <<< (y &&& 31)) :: st) h P := Z_go rfl rfl
theorem Z_ishr {pc len a b : Nat} {x y : Int32} : Z m ((pc, .ishr, len, a, b, 0) :: code) L (.int y :: .int x :: st) h P ↔ Z m code L (.int (x >>> (y &&& 31)) :: st) h P := Z_go rfl rfl
theorem Z_iushr {pc len a b : Nat} {x y : Int32} : Z m ((pc, .iushr, len, a, b, 0) :: code) L (.int y :: .int x :: st) h P ↔ Z m code L (.int ((x.toUInt32 >>> (y.toUInt32 &&& Int32.toUInt32 31)).toInt32) :: st) h P := Z_go rfl rfl
theorem Z_idiv {pc len a b : Nat} {x y : Int32} : Z m ((pc, .idiv, len, a, b, 0) :: code) L (.int y :: .int x :: st) h P ↔ (y ≠ 0 ∧ Z m code L (.int (x / y) :: st) h P) := by
  by_cases hy : y = 0
  · rw [Z_no rfl (by show (if y = 0 then _ else _) = _; rw [if_pos hy])]
    exact ⟨False.elim, fun z => z.1 hy⟩
  · rw [Z_go rfl (by show (if y = 0 then _ else _) = _; rw [if_neg hy])]
    exact ⟨fun z => ⟨hy, z⟩, fun z => z.2⟩
theorem Z_irem {pc len a b : Nat} {x y : Int32} : Z m ((pc, .irem, len, a, b, 0) :: code) L (.int y :: .int x :: st) h P ↔ (y ≠ 0 ∧ Z m code L (.int (x - x / y * y) :: st) h P) := by
  by_cases hy : y = 0
  · rw [Z_no rfl (by show (if y = 0 then _ else _) = _; rw [if_pos hy])]
    exact ⟨False.elim, fun z => z.1 hy⟩
  · rw [Z_go rfl (by show (if y = 0 then _ else _) = _; rw [if_neg hy])]
    exact ⟨fun z => ⟨hy, z⟩, fun z => z.2⟩
theorem Z_dup {pc len a b : Nat} {v : Value} : Z m ((pc, .dup, len, a, b, 0) :: code) L (v :: st) h P ↔ Z m code L (v :: v :: st) h P := Z_go rfl rfl
theorem Z_dupx1 {pc len a b : Nat} {v w : Value} : Z m ((pc, .dup_x1, len, a, b, 0) :: code) L (v :: w :: st) h P ↔ Z m code L (v :: w :: v :: st) h P := Z_go rfl rfl
theorem Z_dup2 {pc len a b : Nat} {v w : Value} : Z m ((pc, .dup2, len, a, b, 0) :: code) L (v :: w :: st) h P ↔ Z m code L (v :: w :: v :: w :: st) h P := Z_go rfl rfl
theorem Z_pop {pc len a b : Nat} {v : Value} : Z m ((pc, .pop, len, a, b, 0) :: code) L (v :: st) h P ↔ Z m code L st h P := Z_go rfl rfl
theorem Z_if_eq {pc len a b : Nat} {x : Int32} {o : Int} : Z m ((pc, .ifCond .eq o, len, a, b, 0) :: code) L (.int x :: st) h P ↔ if x = 0 then Z m (sm_seek (mP m) a) L st h P else Z m code L st h P := by
  by_cases hx : x = 0
  · rw [if_pos hx]
    exact Z_go rfl (by show (if sm_cmp .eq x 0 = true then _ else _) = _; rw [if_pos (by rw [cmp_eq]; exact hx)])
  · rw [if_neg hx]
    exact Z_go rfl (by show (if sm_cmp .eq x 0 = true then _ else _) = _; rw [if_neg (by rw [cmp_eq]; exact hx)])
theorem Z_icmp_eq {pc len a b : Nat} {x y : Int32} {o : Int} : Z m ((pc, .if_icmp .eq o, len, a, b, 0) :: code) L (.int y :: .int x :: st) h P ↔ if x = y then Z m (sm_seek (mP m) a) L st h P else Z m code L st h P := by
  by_cases hx : x = y
  · rw [if_pos hx]
    exact Z_go rfl (by show (if sm_cmp .eq x y = true then _ else _) = _; rw [if_pos (by rw [cmp_eq]; exact hx)])
  · rw [if_neg hx]
    exact Z_go rfl (by show (if sm_cmp .eq x y = true then _ else _) = _; rw [if_neg (by rw [cmp_eq]; exact hx)])
theorem Z_if_ne {pc len a b : Nat} {x : Int32} {o : Int} : Z m ((pc, .ifCond .ne o, len, a, b, 0) :: code) L (.int x :: st) h P ↔ if x ≠ 0 then Z m (sm_seek (mP m) a) L st h P else Z m code L st h P := by
  by_cases hx : x ≠ 0
  · rw [if_pos hx]
    exact Z_go rfl (by show (if sm_cmp .ne x 0 = true then _ else _) = _; rw [if_pos (by rw [cmp_ne]; exact hx)])
  · rw [if_neg hx]
    exact Z_go rfl (by show (if sm_cmp .ne x 0 = true then _ else _) = _; rw [if_neg (by rw [cmp_ne]; exact hx)])
theorem Z_icmp_ne {pc len a b : Nat} {x y : Int32} {o : Int} : Z m ((pc, .if_icmp .ne o, len, a, b, 0) :: code) L (.int y :: .int x :: st) h P ↔ if x ≠ y then Z m (sm_seek (mP m) a) L st h P else Z m code L st h P := by
  by_cases hx : x ≠ y
  · rw [if_pos hx]
    exact Z_go rfl (by show (if sm_cmp .ne x y = true then _ else _) = _; rw [if_pos (by rw [cmp_ne]; exact hx)])
  · rw [if_neg hx]
    exact Z_go rfl (by show (if sm_cmp .ne x y = true then _ else _) = _; rw [if_neg (by rw [cmp_ne]; exact hx)])
theorem Z_if_lt {pc len a b : Nat} {x : Int32} {o : Int} : Z m ((pc, .ifCond .lt o, len, a, b, 0) :: code) L (.int x :: st) h P ↔ if x < 0 then Z m (sm_seek (mP m) a) L st h P else Z m code L st h P := by
  by_cases hx : x < 0
  · rw [if_pos hx]
    exact Z_go rfl (by show (if sm_cmp .lt x 0 = true then _ else _) = _; rw [if_pos (by rw [cmp_lt]; exact hx)])
  · rw [if_neg hx]
    exact Z_go rfl (by show (if sm_cmp .lt x 0 = true then _ else _) = _; rw [if_neg (by rw [cmp_lt]; exact hx)])
theorem Z_icmp_lt {pc len a b : Nat} {x y : Int32} {o : Int} : Z m ((pc, .if_icmp .lt o, len, a, b, 0) :: code) L (.int y :: .int x :: st) h P ↔ if x < y then Z m (sm_seek (mP m) a) L st h P else Z m code L st h P := by
  by_cases hx : x < y
  · rw [if_pos hx]
    exact Z_go rfl (by show (if sm_cmp .lt x y = true then _ else _) = _; rw [if_pos (by rw [cmp_lt]; exact hx)])
  · rw [if_neg hx]
    exact Z_go rfl (by show (if sm_cmp .lt x y = true then _ else _) = _; rw [if_neg (by rw [cmp_lt]; exact hx)])
theorem Z_if_le {pc len a b : Nat} {x : Int32} {o : Int} : Z m ((pc, .ifCond .le o, len, a, b, 0) :: code) L (.int x :: st) h P ↔ if x ≤ 0 then Z m (sm_seek (mP m) a) L st h P else Z m code L st h P := by
  by_cases hx : x ≤ 0
  · rw [if_pos hx]
    exact Z_go rfl (by show (if sm_cmp .le x 0 = true then _ else _) = _; rw [if_pos (by rw [cmp_le]; exact hx)])
  · rw [if_neg hx]
    exact Z_go rfl (by show (if sm_cmp .le x 0 = true then _ else _) = _; rw [if_neg (by rw [cmp_le]; exact hx)])
theorem Z_icmp_le {pc len a b : Nat} {x y : Int32} {o : Int} : Z m ((pc, .if_icmp .le o, len, a, b, 0) :: code) L (.int y :: .int x :: st) h P ↔ if x ≤ y then Z m (sm_seek (mP m) a) L st h P else Z m code L st h P := by
  by_cases hx : x ≤ y
  · rw [if_pos hx]
    exact Z_go rfl (by show (if sm_cmp .le x y = true then _ else _) = _; rw [if_pos (by rw [cmp_le]; exact hx)])
  · rw [if_neg hx]
    exact Z_go rfl (by show (if sm_cmp .le x y = true then _ else _) = _; rw [if_neg (by rw [cmp_le]; exact hx)])
theorem Z_if_ge {pc len a b : Nat} {x : Int32} {o : Int} : Z m ((pc, .ifCond .ge o, len, a, b, 0) :: code) L (.int x :: st) h P ↔ if 0 ≤ x then Z m (sm_seek (mP m) a) L st h P else Z m code L st h P := by
  by_cases hx : 0 ≤ x
  · rw [if_pos hx]
    exact Z_go rfl (by show (if sm_cmp .ge x 0 = true then _ else _) = _; rw [if_pos (by rw [cmp_ge]; exact hx)])
  · rw [if_neg hx]
    exact Z_go rfl (by show (if sm_cmp .ge x 0 = true then _ else _) = _; rw [if_neg (by rw [cmp_ge]; exact hx)])
theorem Z_icmp_ge {pc len a b : Nat} {x y : Int32} {o : Int} : Z m ((pc, .if_icmp .ge o, len, a, b, 0) :: code) L (.int y :: .int x :: st) h P ↔ if y ≤ x then Z m (sm_seek (mP m) a) L st h P else Z m code L st h P := by
  by_cases hx : y ≤ x
  · rw [if_pos hx]
    exact Z_go rfl (by show (if sm_cmp .ge x y = true then _ else _) = _; rw [if_pos (by rw [cmp_ge]; exact hx)])
  · rw [if_neg hx]
    exact Z_go rfl (by show (if sm_cmp .ge x y = true then _ else _) = _; rw [if_neg (by rw [cmp_ge]; exact hx)])
theorem Z_if_gt {pc len a b : Nat} {x : Int32} {o : Int} : Z m ((pc, .ifCond .gt o, len, a, b, 0) :: code) L (.int x :: st) h P ↔ if 0 < x then Z m (sm_seek (mP m) a) L st h P else Z m code L st h P := by
  by_cases hx : 0 < x
  · rw [if_pos hx]
    exact Z_go rfl (by show (if sm_cmp .gt x 0 = true then _ else _) = _; rw [if_pos (by rw [cmp_gt]; exact hx)])
  · rw [if_neg hx]
    exact Z_go rfl (by show (if sm_cmp .gt x 0 = true then _ else _) = _; rw [if_neg (by rw [cmp_gt]; exact hx)])
theorem Z_icmp_gt {pc len a b : Nat} {x y : Int32} {o : Int} : Z m ((pc, .if_icmp .gt o, len, a, b, 0) :: code) L (.int y :: .int x :: st) h P ↔ if y < x then Z m (sm_seek (mP m) a) L st h P else Z m code L st h P := by
  by_cases hx : y < x
  · rw [if_pos hx]
    exact Z_go rfl (by show (if sm_cmp .gt x y = true then _ else _) = _; rw [if_pos (by rw [cmp_gt]; exact hx)])
  · rw [if_neg hx]
    exact Z_go rfl (by show (if sm_cmp .gt x y = true then _ else _) = _; rw [if_neg (by rw [cmp_gt]; exact hx)])
theorem Z_acmp_eqq {pc len a b : Nat} {x y : Option Nat} {o : Int} : Z m ((pc, .if_acmp .eq o, len, a, b, 0) :: code) L (va_rf y :: va_rf x :: st) h P ↔ if x = y then Z m (sm_seek (mP m) a) L st h P else Z m code L st h P := by
  by_cases hx : x = y
  · rw [if_pos hx]
    refine Z_go rfl ?_
    show (match sm_rf (va_rf y), sm_rf (va_rf x) with | some y, some x => (if x = y then _ else _) | _, _ => none) = _
    rw [sm_rf_va, sm_rf_va]
    exact if_pos hx
  · rw [if_neg hx]
    refine Z_go rfl ?_
    show (match sm_rf (va_rf y), sm_rf (va_rf x) with | some y, some x => (if x = y then _ else _) | _, _ => none) = _
    rw [sm_rf_va, sm_rf_va]
    exact if_neg hx
theorem Z_acmp_neq {pc len a b : Nat} {x y : Option Nat} {o : Int} : Z m ((pc, .if_acmp .ne o, len, a, b, 0) :: code) L (va_rf y :: va_rf x :: st) h P ↔ if x = y then Z m code L st h P else Z m (sm_seek (mP m) a) L st h P := by
  by_cases hx : x = y
  · rw [if_pos hx]
    refine Z_go rfl ?_
    show (match sm_rf (va_rf y), sm_rf (va_rf x) with | some y, some x => (if x = y then _ else _) | _, _ => none) = _
    rw [sm_rf_va, sm_rf_va]
    exact if_pos hx
  · rw [if_neg hx]
    refine Z_go rfl ?_
    show (match sm_rf (va_rf y), sm_rf (va_rf x) with | some y, some x => (if x = y then _ else _) | _, _ => none) = _
    rw [sm_rf_va, sm_rf_va]
    exact if_neg hx
theorem Z_acmp_eqq1 {pc len a b : Nat} {x y : Option Nat} {o : Int} : Z m ((pc, .if_acmp .eq o, len, a, b, 0) :: code) L (va_rf y :: va_rf x :: st) h P ↔ if x = y then Z m (sm_seek (mP m) a) L st h P else Z m code L st h P := Z_acmp_eqq
theorem Z_acmp_eqq2 {pc len a b : Nat} {x y : Nat} {o : Int} : Z m ((pc, .if_acmp .eq o, len, a, b, 0) :: code) L (.ref y :: .ref x :: st) h P ↔ if x = y then Z m (sm_seek (mP m) a) L st h P else Z m code L st h P := (Z_acmp_eqq (x := some x) (y := some y)).trans (by simp only [Option.some.injEq])
theorem Z_acmp_eqq3 {pc len a b : Nat} {x : Nat} {y : Option Nat} {o : Int} : Z m ((pc, .if_acmp .eq o, len, a, b, 0) :: code) L (va_rf y :: .ref x :: st) h P ↔ if some x = y then Z m (sm_seek (mP m) a) L st h P else Z m code L st h P := Z_acmp_eqq (x := some x) (y := y)
theorem Z_acmp_eqq4 {pc len a b : Nat} {x : Option Nat} {y : Nat} {o : Int} : Z m ((pc, .if_acmp .eq o, len, a, b, 0) :: code) L (.ref y :: va_rf x :: st) h P ↔ if x = some y then Z m (sm_seek (mP m) a) L st h P else Z m code L st h P := Z_acmp_eqq (x := x) (y := some y)
theorem Z_acmp_neq1 {pc len a b : Nat} {x y : Option Nat} {o : Int} : Z m ((pc, .if_acmp .ne o, len, a, b, 0) :: code) L (va_rf y :: va_rf x :: st) h P ↔ if x = y then Z m code L st h P else Z m (sm_seek (mP m) a) L st h P := Z_acmp_neq
theorem Z_acmp_neq2 {pc len a b : Nat} {x y : Nat} {o : Int} : Z m ((pc, .if_acmp .ne o, len, a, b, 0) :: code) L (.ref y :: .ref x :: st) h P ↔ if x = y then Z m code L st h P else Z m (sm_seek (mP m) a) L st h P := (Z_acmp_neq (x := some x) (y := some y)).trans (by simp only [Option.some.injEq])
theorem Z_acmp_neq3 {pc len a b : Nat} {x : Nat} {y : Option Nat} {o : Int} : Z m ((pc, .if_acmp .ne o, len, a, b, 0) :: code) L (va_rf y :: .ref x :: st) h P ↔ if some x = y then Z m code L st h P else Z m (sm_seek (mP m) a) L st h P := Z_acmp_neq (x := some x) (y := y)
theorem Z_acmp_neq4 {pc len a b : Nat} {x : Option Nat} {y : Nat} {o : Int} : Z m ((pc, .if_acmp .ne o, len, a, b, 0) :: code) L (.ref y :: va_rf x :: st) h P ↔ if x = some y then Z m code L st h P else Z m (sm_seek (mP m) a) L st h P := Z_acmp_neq (x := x) (y := some y)
theorem Z_ifnull {pc len a b : Nat} {x : Nat} {o : Int} : Z m ((pc, .ifnull o, len, a, b, 0) :: code) L (.ref x :: st) h P ↔ Z m code L st h P := Z_go rfl rfl
theorem Z_ifnullN {pc len a b : Nat} {o : Int} : Z m ((pc, .ifnull o, len, a, b, 0) :: code) L (.null :: st) h P ↔ Z m (sm_seek (mP m) a) L st h P := Z_go rfl rfl
theorem Z_ifnullq {pc len a b : Nat} {x : Option Nat} {o : Int} : Z m ((pc, .ifnull o, len, a, b, 0) :: code) L (va_rf x :: st) h P ↔ if x = none then Z m (sm_seek (mP m) a) L st h P else Z m code L st h P := by
  cases x with
  | none => rw [if_pos rfl]; exact Z_go rfl rfl
  | some y => rw [if_neg (fun z => by cases z)]; exact Z_go rfl rfl
theorem Z_ifnonnull {pc len a b : Nat} {x : Nat} {o : Int} : Z m ((pc, .ifnonnull o, len, a, b, 0) :: code) L (.ref x :: st) h P ↔ Z m (sm_seek (mP m) a) L st h P := Z_go rfl rfl
theorem Z_ifnonnullN {pc len a b : Nat} {o : Int} : Z m ((pc, .ifnonnull o, len, a, b, 0) :: code) L (.null :: st) h P ↔ Z m code L st h P := Z_go rfl rfl
theorem Z_ifnonnullq {pc len a b : Nat} {x : Option Nat} {o : Int} : Z m ((pc, .ifnonnull o, len, a, b, 0) :: code) L (va_rf x :: st) h P ↔ if x = none then Z m code L st h P else Z m (sm_seek (mP m) a) L st h P := by
  cases x with
  | none => rw [if_pos rfl]; exact Z_go rfl rfl
  | some y => rw [if_neg (fun z => by cases z)]; exact Z_go rfl rfl
theorem Z_goto {pc len a b : Nat} {o : Int} : Z m ((pc, .goto o, len, a, b, 0) :: code) L st h P ↔ Z m (sm_seek (mP m) a) L st h P := Z_go rfl rfl
theorem Z_table {pc len a b : Nat} {d lo hi : Int} {offs : Array Int} {x : Int32} {t : Nat} (ht : sm_tab pc d lo hi offs x = some t) : Z m ((pc, .tableswitch d lo hi offs, len, a, b, 0) :: code) L (.int x :: st) h P ↔ Z m (sm_seek (mP m) t) L st h P := Z_go rfl (by show (match sm_tab pc d lo hi offs x with | some t => some (sm_seek (mP m) t, L, st, h) | none => none) = _; rw [ht])
theorem Z_getI {pc len a b : Nat} {i x : Nat} : Z m ((pc, .getfield i, len, a, b, 0) :: code) L (.ref x :: st) h P ↔ (kd h x = a ∧ Z m code L (.int (fI h b x) :: st) h P) := by
  by_cases hx : kd h x = a
  · rw [Z_go rfl (by show (if kd h x = a then _ else _) = _; rw [if_pos hx])]
    exact ⟨fun z => ⟨hx, z⟩, fun z => z.2⟩
  · rw [Z_no rfl (by show (if kd h x = a then _ else _) = _; rw [if_neg hx])]
    exact ⟨False.elim, fun z => hx z.1⟩
theorem Z_getZ {pc len a b : Nat} {i x : Nat} : Z m ((pc, .getfield i, len, a, b, 2) :: code) L (.ref x :: st) h P ↔ (kd h x = a ∧ Z m code L (.int (fI h b x) :: st) h P) := by
  by_cases hx : kd h x = a
  · rw [Z_go rfl (by show (if kd h x = a then _ else _) = _; rw [if_pos hx])]
    exact ⟨fun z => ⟨hx, z⟩, fun z => z.2⟩
  · rw [Z_no rfl (by show (if kd h x = a then _ else _) = _; rw [if_neg hx])]
    exact ⟨False.elim, fun z => hx z.1⟩
theorem Z_getR {pc len a b : Nat} {i x : Nat} : Z m ((pc, .getfield i, len, a, b, 1) :: code) L (.ref x :: st) h P ↔ (kd h x = a ∧ Z m code L (va_rf (fR h b x) :: st) h P) := by
  by_cases hx : kd h x = a
  · rw [Z_go rfl (by show (if kd h x = a then _ else _) = _; rw [if_pos hx])]
    exact ⟨fun z => ⟨hx, z⟩, fun z => z.2⟩
  · rw [Z_no rfl (by show (if kd h x = a then _ else _) = _; rw [if_neg hx])]
    exact ⟨False.elim, fun z => hx z.1⟩
theorem Z_putI {pc len a b : Nat} {i x : Nat} {v : Int32} : Z m ((pc, .putfield i, len, a, b, 0) :: code) L (.int v :: .ref x :: st) h P ↔ (kd h x = a ∧ Z m code L st (wfI h b x v) P) := by
  by_cases hx : kd h x = a
  · rw [Z_go rfl (by show (if kd h x = a then _ else _) = _; rw [if_pos hx])]
    exact ⟨fun z => ⟨hx, z⟩, fun z => z.2⟩
  · rw [Z_no rfl (by show (if kd h x = a then _ else _) = _; rw [if_neg hx])]
    exact ⟨False.elim, fun z => hx z.1⟩
theorem Z_putR {pc len a b : Nat} {i x v : Nat} : Z m ((pc, .putfield i, len, a, b, 1) :: code) L (.ref v :: .ref x :: st) h P ↔ (kd h x = a ∧ Z m code L st (wfR h b x (some v)) P) := by
  by_cases hx : kd h x = a
  · rw [Z_go rfl (by show (if kd h x = a then _ else _) = _; rw [if_pos hx])]
    exact ⟨fun z => ⟨hx, z⟩, fun z => z.2⟩
  · rw [Z_no rfl (by show (if kd h x = a then _ else _) = _; rw [if_neg hx])]
    exact ⟨False.elim, fun z => hx z.1⟩
theorem Z_putN {pc len a b : Nat} {i x : Nat} : Z m ((pc, .putfield i, len, a, b, 1) :: code) L (.null :: .ref x :: st) h P ↔ (kd h x = a ∧ Z m code L st (wfR h b x none) P) := by
  by_cases hx : kd h x = a
  · rw [Z_go rfl (by show (if kd h x = a then _ else _) = _; rw [if_pos hx])]
    exact ⟨fun z => ⟨hx, z⟩, fun z => z.2⟩
  · rw [Z_no rfl (by show (if kd h x = a then _ else _) = _; rw [if_neg hx])]
    exact ⟨False.elim, fun z => hx z.1⟩
theorem Z_putQ {pc len a b : Nat} {i x : Nat} {v : Option Nat} : Z m ((pc, .putfield i, len, a, b, 1) :: code) L (va_rf v :: .ref x :: st) h P ↔ (kd h x = a ∧ Z m code L st (wfR h b x v) P) := by
  cases v with
  | none => exact Z_putN
  | some y => exact Z_putR
theorem Z_putZ {pc len a b : Nat} {i x : Nat} {v : Int32} : Z m ((pc, .putfield i, len, a, b, 2) :: code) L (.int v :: .ref x :: st) h P ↔ (kd h x = a ∧ (v = 0 ∨ v = 1) ∧ Z m code L st (wfI h b x v) P) := by
  by_cases hx : kd h x = a
  · by_cases hv : v = 0 ∨ v = 1
    · rw [Z_go rfl (by show (if kd h x = a then (if v = 0 ∨ v = 1 then _ else _) else _) = _; rw [if_pos hx, if_pos hv])]
      exact ⟨fun z => ⟨hx, hv, z⟩, fun z => z.2.2⟩
    · rw [Z_no rfl (by show (if kd h x = a then (if v = 0 ∨ v = 1 then _ else _) else _) = _; rw [if_pos hx, if_neg hv])]
      exact ⟨False.elim, fun z => hv z.2.1⟩
  · rw [Z_no rfl (by show (if kd h x = a then _ else _) = _; rw [if_neg hx])]
    exact ⟨False.elim, fun z => hx z.1⟩
theorem Z_new {pc len a b : Nat} {i : Nat} : Z m ((pc, .new i, len, a, b, 0) :: code) L st h P ↔ Z m code L (.ref (sz h) :: st) (hnew h a 0 b) P := Z_go rfl rfl
theorem Z_newarray {pc len a b : Nat} {t : ArrayType} {x : Int32} : Z m ((pc, .newarray t, len, a, b, 0) :: code) L (.int x :: st) h P ↔ (¬ x < 0 ∧ x.toNatClampNeg ≤ 100000000 ∧ Z m code L (.ref (sz h) :: st) (hnew h a x.toNatClampNeg x.toNatClampNeg) P) := by
  by_cases hx : ¬ x < 0 ∧ x.toNatClampNeg ≤ 100000000
  · rw [Z_go rfl (by show (match sm_nat x with | some n => some (code, L, Value.ref (sz h) :: st, hnew h a n n) | none => none) = _; unfold sm_nat; rw [if_pos hx])]
    exact ⟨fun z => ⟨hx.1, hx.2, z⟩, fun z => z.2.2⟩
  · rw [Z_no rfl (by show (match sm_nat x with | some n => some (code, L, Value.ref (sz h) :: st, hnew h a n n) | none => none) = _; unfold sm_nat; rw [if_neg hx])]
    exact ⟨False.elim, fun z => hx ⟨z.1, z.2.1⟩⟩
theorem Z_anewarray {pc len a b : Nat} {t : Nat} {x : Int32} : Z m ((pc, .anewarray t, len, a, b, 0) :: code) L (.int x :: st) h P ↔ (¬ x < 0 ∧ x.toNatClampNeg ≤ 100000000 ∧ Z m code L (.ref (sz h) :: st) (hnew h a x.toNatClampNeg x.toNatClampNeg) P) := by
  by_cases hx : ¬ x < 0 ∧ x.toNatClampNeg ≤ 100000000
  · rw [Z_go rfl (by show (match sm_nat x with | some n => some (code, L, Value.ref (sz h) :: st, hnew h a n n) | none => none) = _; unfold sm_nat; rw [if_pos hx])]
    exact ⟨fun z => ⟨hx.1, hx.2, z⟩, fun z => z.2.2⟩
  · rw [Z_no rfl (by show (match sm_nat x with | some n => some (code, L, Value.ref (sz h) :: st, hnew h a n n) | none => none) = _; unfold sm_nat; rw [if_neg hx])]
    exact ⟨False.elim, fun z => hx ⟨z.1, z.2.1⟩⟩
theorem Z_alen {pc len a b : Nat} {x : Nat} : Z m ((pc, .arraylength, len, a, b, 0) :: code) L (.ref x :: st) h P ↔ (sm_isA (kd h x) = true ∧ Z m code L (.int (nI (ln h x)) :: st) h P) := by
  by_cases hx : sm_isA (kd h x) = true
  · rw [Z_go rfl (by show (if sm_isA (kd h x) = true then _ else _) = _; rw [if_pos hx])]
    exact ⟨fun z => ⟨hx, z⟩, fun z => z.2⟩
  · rw [Z_no rfl (by show (if sm_isA (kd h x) = true then _ else _) = _; rw [if_neg hx])]
    exact ⟨False.elim, fun z => hx z.1⟩
theorem Z_iaload {pc len a b : Nat} {i : Int32} {x j : Nat}  (hi : sm_ix i (ln h x) = some j) : Z m ((pc, .iaload, len, a, b, 0) :: code) L (.int i :: .ref x :: st) h P ↔ ((kd h x = 20 ∨ kd h x = 41) ∧ Z m code L (.int (aI h x j) :: st) h P) := by
  have harr : sm_arr (.int i :: .ref x :: st) h = some (x, j, st) := by
    show (match sm_ix i (ln h x) with | some j => some (x, j, st) | none => none) = _
    rw [hi]
  by_cases hx : (kd h x = 20 ∨ kd h x = 41)
  · rw [Z_go rfl (by simp only [sm_step, harr, sm_in_int]; rw [if_pos hx])]
    exact ⟨fun z => ⟨hx, z⟩, fun z => z.2⟩
  · rw [Z_no rfl (by simp only [sm_step, harr, sm_in_int]; rw [if_neg hx])]
    exact ⟨False.elim, fun z => hx z.1⟩
theorem Z_baload {pc len a b : Nat} {i : Int32} {x j : Nat}  (hi : sm_ix i (ln h x) = some j) : Z m ((pc, .baload, len, a, b, 0) :: code) L (.int i :: .ref x :: st) h P ↔ (kd h x = 21 ∧ Z m code L (.int (aI h x j) :: st) h P) := by
  have harr : sm_arr (.int i :: .ref x :: st) h = some (x, j, st) := by
    show (match sm_ix i (ln h x) with | some j => some (x, j, st) | none => none) = _
    rw [hi]
  by_cases hx : kd h x = 21
  · rw [Z_go rfl (by simp only [sm_step, harr, sm_in_int]; rw [if_pos hx])]
    exact ⟨fun z => ⟨hx, z⟩, fun z => z.2⟩
  · rw [Z_no rfl (by simp only [sm_step, harr, sm_in_int]; rw [if_neg hx])]
    exact ⟨False.elim, fun z => hx z.1⟩
theorem Z_aaload {pc len a b : Nat} {i : Int32} {x j : Nat}  (hi : sm_ix i (ln h x) = some j) : Z m ((pc, .aaload, len, a, b, 0) :: code) L (.int i :: .ref x :: st) h P ↔ ((22 ≤ kd h x ∧ kd h x ≤ 27) ∧ Z m code L (va_rf (aR h x j) :: st) h P) := by
  have harr : sm_arr (.int i :: .ref x :: st) h = some (x, j, st) := by
    show (match sm_ix i (ln h x) with | some j => some (x, j, st) | none => none) = _
    rw [hi]
  by_cases hx : (22 ≤ kd h x ∧ kd h x ≤ 27)
  · rw [Z_go rfl (by simp only [sm_step, harr, sm_in_int]; rw [if_pos hx])]
    exact ⟨fun z => ⟨hx, z⟩, fun z => z.2⟩
  · rw [Z_no rfl (by simp only [sm_step, harr, sm_in_int]; rw [if_neg hx])]
    exact ⟨False.elim, fun z => hx z.1⟩
theorem Z_iastore {pc len a b : Nat} {i : Int32} {x j : Nat} {v : Int32} (hi : sm_ix i (ln h x) = some j) : Z m ((pc, .iastore, len, a, b, 0) :: code) L (.int v :: .int i :: .ref x :: st) h P ↔ (kd h x = 20 ∧ Z m code L st (waI h x j v) P) := by
  have harr : sm_arr (.int i :: .ref x :: st) h = some (x, j, st) := by
    show (match sm_ix i (ln h x) with | some j => some (x, j, st) | none => none) = _
    rw [hi]
  by_cases hx : kd h x = 20
  · rw [Z_go rfl (by simp only [sm_step, harr, sm_in_int]; rw [if_pos hx])]
    exact ⟨fun z => ⟨hx, z⟩, fun z => z.2⟩
  · rw [Z_no rfl (by simp only [sm_step, harr, sm_in_int]; rw [if_neg hx])]
    exact ⟨False.elim, fun z => hx z.1⟩
theorem Z_bastore {pc len a b : Nat} {i : Int32} {x j : Nat} {v : Int32} (hi : sm_ix i (ln h x) = some j) : Z m ((pc, .bastore, len, a, b, 0) :: code) L (.int v :: .int i :: .ref x :: st) h P ↔ ((kd h x = 21 ∧ (v = 0 ∨ v = 1)) ∧ Z m code L st (waI h x j v) P) := by
  have harr : sm_arr (.int i :: .ref x :: st) h = some (x, j, st) := by
    show (match sm_ix i (ln h x) with | some j => some (x, j, st) | none => none) = _
    rw [hi]
  by_cases hx : (kd h x = 21 ∧ (v = 0 ∨ v = 1))
  · rw [Z_go rfl (by simp only [sm_step, harr, sm_in_int]; rw [if_pos hx])]
    exact ⟨fun z => ⟨hx, z⟩, fun z => z.2⟩
  · rw [Z_no rfl (by simp only [sm_step, harr, sm_in_int]; rw [if_neg hx])]
    exact ⟨False.elim, fun z => hx z.1⟩
theorem Z_aastore {pc len a b : Nat} {i : Int32} {x j : Nat} {v : Nat} (hi : sm_ix i (ln h x) = some j) : Z m ((pc, .aastore, len, a, b, 0) :: code) L (.ref v :: .int i :: .ref x :: st) h P ↔ (sm_may (kd h x) (kd h v) = true ∧ Z m code L st (waR h x j (some v)) P) := by
  have harr : sm_arr (.int i :: .ref x :: st) h = some (x, j, st) := by
    show (match sm_ix i (ln h x) with | some j => some (x, j, st) | none => none) = _
    rw [hi]
  by_cases hx : sm_may (kd h x) (kd h v) = true
  · rw [Z_go rfl (by simp only [sm_step, harr, sm_in_int, sm_rf]; rw [if_pos hx])]
    exact ⟨fun z => ⟨hx, z⟩, fun z => z.2⟩
  · rw [Z_no rfl (by simp only [sm_step, harr, sm_in_int, sm_rf]; rw [if_neg hx])]
    exact ⟨False.elim, fun z => hx z.1⟩
theorem Z_aastoreN {pc len a b : Nat} {i : Int32} {x j : Nat}  (hi : sm_ix i (ln h x) = some j) : Z m ((pc, .aastore, len, a, b, 0) :: code) L (.null :: .int i :: .ref x :: st) h P ↔ ((22 ≤ kd h x ∧ kd h x ≤ 27) ∧ Z m code L st (waR h x j none) P) := by
  have harr : sm_arr (.int i :: .ref x :: st) h = some (x, j, st) := by
    show (match sm_ix i (ln h x) with | some j => some (x, j, st) | none => none) = _
    rw [hi]
  by_cases hx : (22 ≤ kd h x ∧ kd h x ≤ 27)
  · rw [Z_go rfl (by simp only [sm_step, harr, sm_in_int, sm_rf]; rw [if_pos hx])]
    exact ⟨fun z => ⟨hx, z⟩, fun z => z.2⟩
  · rw [Z_no rfl (by simp only [sm_step, harr, sm_in_int, sm_rf]; rw [if_neg hx])]
    exact ⟨False.elim, fun z => hx z.1⟩
theorem Z_cast {pc len a b : Nat} {i x : Nat} : Z m ((pc, .checkcast i, len, a, b, 0) :: code) L (.ref x :: st) h P ↔ (kd h x = a ∧ Z m code L (.ref x :: st) h P) := by
  by_cases hx : kd h x = a
  · rw [Z_go rfl (by show (if kd h x = a then _ else _) = _; rw [if_pos hx])]
    exact ⟨fun z => ⟨hx, z⟩, fun z => z.2⟩
  · rw [Z_no rfl (by show (if kd h x = a then _ else _) = _; rw [if_neg hx])]
    exact ⟨False.elim, fun z => hx z.1⟩
theorem Z_objInit {pc len b : Nat} {i x : Nat} : Z m ((pc, .invokespecial i, len, 1000, b, 1) :: code) L (.ref x :: st) h P ↔ (st.length ≤ 8 ∧ Z m code L st h P) := by
  by_cases hx : st.length ≤ 8
  · rw [Z_go rfl (by show (if st.length ≤ 8 then _ else _) = _; rw [if_pos hx])]
    exact ⟨fun z => ⟨hx, z⟩, fun z => z.2⟩
  · rw [Z_no rfl (by show (if st.length ≤ 8 then _ else _) = _; rw [if_neg hx])]
    exact ⟨False.elim, fun z => hx z.1⟩
theorem Z_clone {pc len b : Nat} {i x : Nat} : Z m ((pc, .invokevirtual i, len, 1001, b, 0) :: code) L (.ref x :: st) h P ↔ ((kd h x = 20 ∧ st.length ≤ 8) ∧ Z m code L (.ref (sz h) :: st) (hcln h x) P) := by
  by_cases hx : (kd h x = 20 ∧ st.length ≤ 8)
  · rw [Z_go rfl (by show (if kd h x = 20 ∧ st.length ≤ 8 then _ else _) = _; rw [if_pos hx])]
    exact ⟨fun z => ⟨hx, z⟩, fun z => z.2⟩
  · rw [Z_no rfl (by show (if kd h x = 20 ∧ st.length ≤ 8 then _ else _) = _; rw [if_neg hx])]
    exact ⟨False.elim, fun z => hx z.1⟩
theorem Z_getClass {pc len b : Nat} {i x : Nat} : Z m ((pc, .invokevirtual i, len, 1003, b, 0) :: code) L (.ref x :: st) h P ↔ ((kd h x = 22 ∧ st.length ≤ 8) ∧ Z m code L (.ref (gc h 1) :: st) h P) := by
  by_cases hx : (kd h x = 22 ∧ st.length ≤ 8)
  · rw [Z_go rfl (by show (if kd h x = 22 ∧ st.length ≤ 8 then _ else _) = _; rw [if_pos hx])]
    exact ⟨fun z => ⟨hx, z⟩, fun z => z.2⟩
  · rw [Z_no rfl (by show (if kd h x = 22 ∧ st.length ≤ 8 then _ else _) = _; rw [if_neg hx])]
    exact ⟨False.elim, fun z => hx z.1⟩
theorem Z_copy {pc len b : Nat} {i x x0 : Nat} {n dp sp : Int32} : Z m ((pc, .invokestatic i, len, 1002, b, 2) :: code) L (.int n :: .int dp :: .ref x :: .int sp :: .ref x0 :: st) h P ↔ ((kd h x = 22 ∧ kd h x0 = 22 ∧ ¬ n < 0 ∧ ¬ dp < 0 ∧ ¬ sp < 0 ∧ sp.toNatClampNeg + n.toNatClampNeg ≤ ln h x0 ∧ dp.toNatClampNeg + n.toNatClampNeg ≤ ln h x ∧ st.length ≤ 8) ∧ Z m code L st (hcpy h x0 sp.toNatClampNeg x dp.toNatClampNeg n.toNatClampNeg) P) := by
  by_cases hx : (kd h x = 22 ∧ kd h x0 = 22 ∧ ¬ n < 0 ∧ ¬ dp < 0 ∧ ¬ sp < 0 ∧ sp.toNatClampNeg + n.toNatClampNeg ≤ ln h x0 ∧ dp.toNatClampNeg + n.toNatClampNeg ≤ ln h x ∧ st.length ≤ 8)
  · rw [Z_go rfl (by show (if (kd h x = 22 ∧ kd h x0 = 22 ∧ ¬ n < 0 ∧ ¬ dp < 0 ∧ ¬ sp < 0 ∧ sp.toNatClampNeg + n.toNatClampNeg ≤ ln h x0 ∧ dp.toNatClampNeg + n.toNatClampNeg ≤ ln h x ∧ st.length ≤ 8) then _ else _) = _; rw [if_pos hx])]
    exact ⟨fun z => ⟨hx, z⟩, fun z => z.2⟩
  · rw [Z_no rfl (by show (if (kd h x = 22 ∧ kd h x0 = 22 ∧ ¬ n < 0 ∧ ¬ dp < 0 ∧ ¬ sp < 0 ∧ sp.toNatClampNeg + n.toNatClampNeg ≤ ln h x0 ∧ dp.toNatClampNeg + n.toNatClampNeg ≤ ln h x ∧ st.length ≤ 8) then _ else _) = _; rw [if_neg hx])]
    exact ⟨False.elim, fun z => hx z.1⟩
theorem Z_max {pc len b : Nat} {i : Nat} {x y : Int32} : Z m ((pc, .invokestatic i, len, 1004, b, 2) :: code) L (.int y :: .int x :: st) h P ↔ (st.length ≤ 8 ∧ Z m code L (.int (if x < y then y else x) :: st) h P) := by
  by_cases hx : st.length ≤ 8
  · rw [Z_go rfl (by show (if st.length ≤ 8 then _ else _) = _; rw [if_pos hx])]
    exact ⟨fun z => ⟨hx, z⟩, fun z => z.2⟩
  · rw [Z_no rfl (by show (if st.length ≤ 8 then _ else _) = _; rw [if_neg hx])]
    exact ⟨False.elim, fun z => hx z.1⟩
theorem Z_min {pc len b : Nat} {i : Nat} {x y : Int32} : Z m ((pc, .invokestatic i, len, 1005, b, 2) :: code) L (.int y :: .int x :: st) h P ↔ (st.length ≤ 8 ∧ Z m code L (.int (if y < x then y else x) :: st) h P) := by
  by_cases hx : st.length ≤ 8
  · rw [Z_go rfl (by show (if st.length ≤ 8 then _ else _) = _; rw [if_pos hx])]
    exact ⟨fun z => ⟨hx, z⟩, fun z => z.2⟩
  · rw [Z_no rfl (by show (if st.length ≤ 8 then _ else _) = _; rw [if_neg hx])]
    exact ⟨False.elim, fun z => hx z.1⟩
theorem Z_ret {pc len a b : Nat} (hr : mR m = none) : Z m ((pc, .return_, len, a, b, 0) :: code) L [] h P ↔ P none h := Z_rt rfl (by show (match ([] : List Value), mR m with | [], none => some (none, h) | _, _ => none) = _; rw [hr])
theorem Z_iret {pc len a b : Nat} {x : Int32} (hr : mR m = some .int) : Z m ((pc, .ireturn, len, a, b, 0) :: code) L [.int x] h P ↔ P (some (.int x)) h := Z_rt rfl (by simp only [sm_ret, sm_in_int, hr])
theorem Z_zret {pc len a b : Nat} {x : Int32} (hr : mR m = some .boolean) (hx : x = 0 ∨ x = 1) : Z m ((pc, .ireturn, len, a, b, 0) :: code) L [.int x] h P ↔ P (some (.int x)) h := Z_rt rfl (by simp only [sm_ret, sm_in_int, hr, if_pos hx])
theorem Z_aretq {pc len a b : Nat} {x : Option Nat} {n : String} (hr : mR m = some (.object n)) : Z m ((pc, .areturn, len, a, b, 0) :: code) L [va_rf x] h P ↔ P (some (va_rf x)) h := Z_rt rfl (by simp only [sm_ret, sm_rf_va, hr])
theorem Z_aret {pc len a b : Nat} {x : Nat} {n : String} (hr : mR m = some (.object n)) : Z m ((pc, .areturn, len, a, b, 0) :: code) L [.ref x] h P ↔ P (some (.ref x)) h := Z_aretq (x := some x) hr
theorem Z_aretn {pc len a b : Nat} {n : String} (hr : mR m = some (.object n)) : Z m ((pc, .areturn, len, a, b, 0) :: code) L [.null] h P ↔ P (some .null) h := Z_aretq (x := none) hr
theorem Z_aretA {pc len a b : Nat} {x : Nat} {n : FieldType} (hr : mR m = some (.array n)) : Z m ((pc, .areturn, len, a, b, 0) :: code) L [.ref x] h P ↔ P (some (.ref x)) h := Z_rt rfl (by simp only [sm_ret, sm_rf, hr])
end ZR
theorem beq_of2 {a b : Nat} (h : a = b) : Nat.beq a b = true := by rw [h]; exact Nat.beq_refl b
theorem lt_0p (a : Nat) : sm_lit a 0 = nI a := rfl
theorem lt_1n (a : Nat) : sm_lit a 1 = - nI a := rfl
theorem va_some (a : Nat) : va_rf (some a) = .ref a := rfl
theorem va_none : va_rf none = .null := rfl
theorem ix_nI {j n : Nat} (h : j < n) (hn : n < 2 ^ 31) : sm_ix (nI j) n = some j := by
  unfold sm_ix
  rw [nI_clamp (by omega), if_pos ⟨nI_pos (by omega), h⟩]
