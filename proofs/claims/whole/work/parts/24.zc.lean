section ZC
variable {m : MI} {code : List Ent} {L : Lv} {st : List Value} {h : Hp} {P : Option Value → Hp → Prop} {pc len b i : Nat}
theorem C_X0_init {x : Nat} {v1 v2 v3 v4 : Value} : Z m ((pc, .invokespecial i, len, 0, b, 1) :: code) L (v4 :: v3 :: v2 :: v1 :: .ref x :: st) h P ↔ (st.length ≤ 8 ∧ Ev M_X0_init [.ref x, v1, v2, v3, v4] h (fun r h' => Z m code L (r.toList ++ st) h' P)) := by
  rw [Z_call (m' := M_X0_init) rfl rfl]
  exact ⟨fun q => ⟨q.1.2.1, q.2⟩, fun q => ⟨⟨Nat.le_add_left _ _, q.1, rfl⟩, q.2⟩⟩
theorem C_X0_init_n {x : Nat} {v1 v2 v3 v4 : Value} : Z m ((pc, .invokespecial i, len, 0, b, 3) :: code) L (v4 :: v3 :: v2 :: v1 :: .ref x :: st) h P ↔ (st.length ≤ 8 ∧ Ev M_X0_init [.ref x, v1, v2, v3, v4] h (fun r h' => Z m code L (r.toList ++ st) h' P)) := by
  rw [Z_call (m' := M_X0_init) rfl rfl]
  exact ⟨fun q => ⟨q.1.2.1, q.2⟩, fun q => ⟨⟨Nat.le_add_left _ _, q.1, rfl⟩, q.2⟩⟩
theorem E_X0_init {v0 v1 v2 v3 v4 : Value} : Ev M_X0_init [v0, v1, v2, v3, v4] h P ↔ Z M_X0_init k_X0_init_0 [some v0, some v1, some v2, some v3, some v4] [] h P := Iff.rfl
theorem R_X0_init : mR M_X0_init = none := rfl
theorem C_X1_init {x : Nat} {v1 : Value} : Z m ((pc, .invokespecial i, len, 1, b, 1) :: code) L (v1 :: .ref x :: st) h P ↔ (st.length ≤ 8 ∧ Ev M_X1_init [.ref x, v1] h (fun r h' => Z m code L (r.toList ++ st) h' P)) := by
  rw [Z_call (m' := M_X1_init) rfl rfl]
  exact ⟨fun q => ⟨q.1.2.1, q.2⟩, fun q => ⟨⟨Nat.le_add_left _ _, q.1, rfl⟩, q.2⟩⟩
theorem C_X1_init_n {x : Nat} {v1 : Value} : Z m ((pc, .invokespecial i, len, 1, b, 3) :: code) L (v1 :: .ref x :: st) h P ↔ (st.length ≤ 8 ∧ Ev M_X1_init [.ref x, v1] h (fun r h' => Z m code L (r.toList ++ st) h' P)) := by
  rw [Z_call (m' := M_X1_init) rfl rfl]
  exact ⟨fun q => ⟨q.1.2.1, q.2⟩, fun q => ⟨⟨Nat.le_add_left _ _, q.1, rfl⟩, q.2⟩⟩
theorem E_X1_init {v0 v1 : Value} : Ev M_X1_init [v0, v1] h P ↔ Z M_X1_init k_X1_init_0 [some v0, some v1] [] h P := Iff.rfl
theorem R_X1_init : mR M_X1_init = none := rfl
theorem C_X1_covers {x : Nat} {v1 : Value} : Z m ((pc, .invokevirtual i, len, 2, b, 0) :: code) L (v1 :: .ref x :: st) h P ↔ ((st.length ≤ 8 ∧ kd h x = 2) ∧ Ev M_X1_covers [.ref x, v1] h (fun r h' => Z m code L (r.toList ++ st) h' P)) := by
  rw [Z_call (m' := M_X1_covers) rfl rfl]
  exact ⟨fun q => ⟨⟨q.1.2.1, Nat.eq_of_beq_eq_true q.1.2.2⟩, q.2⟩, fun q => ⟨⟨Nat.le_add_left _ _, q.1.1, beq_of2 q.1.2⟩, q.2⟩⟩
theorem E_X1_covers {v0 v1 : Value} : Ev M_X1_covers [v0, v1] h P ↔ Z M_X1_covers k_X1_covers_0 [some v0, some v1] [] h P := Iff.rfl
theorem R_X1_covers : mR M_X1_covers = (some .boolean) := rfl
theorem C_X1_raiseTo {x : Nat} {v1 : Value} : Z m ((pc, .invokevirtual i, len, 3, b, 0) :: code) L (v1 :: .ref x :: st) h P ↔ ((st.length ≤ 8 ∧ kd h x = 2) ∧ Ev M_X1_raiseTo [.ref x, v1] h (fun r h' => Z m code L (r.toList ++ st) h' P)) := by
  rw [Z_call (m' := M_X1_raiseTo) rfl rfl]
  exact ⟨fun q => ⟨⟨q.1.2.1, Nat.eq_of_beq_eq_true q.1.2.2⟩, q.2⟩, fun q => ⟨⟨Nat.le_add_left _ _, q.1.1, beq_of2 q.1.2⟩, q.2⟩⟩
theorem E_X1_raiseTo {v0 v1 : Value} : Ev M_X1_raiseTo [v0, v1] h P ↔ Z M_X1_raiseTo k_X1_raiseTo_0 [some v0, some v1, none] [] h P := Iff.rfl
theorem R_X1_raiseTo : mR M_X1_raiseTo = none := rfl
theorem C_X2_init {x : Nat} {v1 : Value} : Z m ((pc, .invokespecial i, len, 4, b, 1) :: code) L (v1 :: .ref x :: st) h P ↔ (st.length ≤ 8 ∧ Ev M_X2_init [.ref x, v1] h (fun r h' => Z m code L (r.toList ++ st) h' P)) := by
  rw [Z_call (m' := M_X2_init) rfl rfl]
  exact ⟨fun q => ⟨q.1.2.1, q.2⟩, fun q => ⟨⟨Nat.le_add_left _ _, q.1, rfl⟩, q.2⟩⟩
theorem C_X2_init_n {x : Nat} {v1 : Value} : Z m ((pc, .invokespecial i, len, 4, b, 3) :: code) L (v1 :: .ref x :: st) h P ↔ (st.length ≤ 8 ∧ Ev M_X2_init [.ref x, v1] h (fun r h' => Z m code L (r.toList ++ st) h' P)) := by
  rw [Z_call (m' := M_X2_init) rfl rfl]
  exact ⟨fun q => ⟨q.1.2.1, q.2⟩, fun q => ⟨⟨Nat.le_add_left _ _, q.1, rfl⟩, q.2⟩⟩
theorem E_X2_init {v0 v1 : Value} : Ev M_X2_init [v0, v1] h P ↔ Z M_X2_init k_X2_init_0 [some v0, some v1] [] h P := Iff.rfl
theorem R_X2_init : mR M_X2_init = none := rfl
theorem C_X3_init {x : Nat} {v1 : Value} : Z m ((pc, .invokespecial i, len, 5, b, 1) :: code) L (v1 :: .ref x :: st) h P ↔ (st.length ≤ 8 ∧ Ev M_X3_init [.ref x, v1] h (fun r h' => Z m code L (r.toList ++ st) h' P)) := by
  rw [Z_call (m' := M_X3_init) rfl rfl]
  exact ⟨fun q => ⟨q.1.2.1, q.2⟩, fun q => ⟨⟨Nat.le_add_left _ _, q.1, rfl⟩, q.2⟩⟩
theorem C_X3_init_n {x : Nat} {v1 : Value} : Z m ((pc, .invokespecial i, len, 5, b, 3) :: code) L (v1 :: .ref x :: st) h P ↔ (st.length ≤ 8 ∧ Ev M_X3_init [.ref x, v1] h (fun r h' => Z m code L (r.toList ++ st) h' P)) := by
  rw [Z_call (m' := M_X3_init) rfl rfl]
  exact ⟨fun q => ⟨q.1.2.1, q.2⟩, fun q => ⟨⟨Nat.le_add_left _ _, q.1, rfl⟩, q.2⟩⟩
theorem E_X3_init {v0 v1 : Value} : Ev M_X3_init [v0, v1] h P ↔ Z M_X3_init k_X3_init_0 [some v0, some v1] [] h P := Iff.rfl
theorem R_X3_init : mR M_X3_init = none := rfl
theorem C_X3_init_ {x : Nat} {v1 v2 v3 : Value} : Z m ((pc, .invokespecial i, len, 6, b, 1) :: code) L (v3 :: v2 :: v1 :: .ref x :: st) h P ↔ (st.length ≤ 8 ∧ Ev M_X3_init_ [.ref x, v1, v2, v3] h (fun r h' => Z m code L (r.toList ++ st) h' P)) := by
  rw [Z_call (m' := M_X3_init_) rfl rfl]
  exact ⟨fun q => ⟨q.1.2.1, q.2⟩, fun q => ⟨⟨Nat.le_add_left _ _, q.1, rfl⟩, q.2⟩⟩
theorem C_X3_init__n {x : Nat} {v1 v2 v3 : Value} : Z m ((pc, .invokespecial i, len, 6, b, 3) :: code) L (v3 :: v2 :: v1 :: .ref x :: st) h P ↔ (st.length ≤ 8 ∧ Ev M_X3_init_ [.ref x, v1, v2, v3] h (fun r h' => Z m code L (r.toList ++ st) h' P)) := by
  rw [Z_call (m' := M_X3_init_) rfl rfl]
  exact ⟨fun q => ⟨q.1.2.1, q.2⟩, fun q => ⟨⟨Nat.le_add_left _ _, q.1, rfl⟩, q.2⟩⟩
theorem E_X3_init_ {v0 v1 v2 v3 : Value} : Ev M_X3_init_ [v0, v1, v2, v3] h P ↔ Z M_X3_init_ k_X3_init__0 [some v0, some v1, some v2, some v3] [] h P := Iff.rfl
theorem R_X3_init_ : mR M_X3_init_ = none := rfl
theorem C_X4_init {x : Nat} {v1 v2 v3 v4 : Value} : Z m ((pc, .invokespecial i, len, 7, b, 1) :: code) L (v4 :: v3 :: v2 :: v1 :: .ref x :: st) h P ↔ (st.length ≤ 8 ∧ Ev M_X4_init [.ref x, v1, v2, v3, v4] h (fun r h' => Z m code L (r.toList ++ st) h' P)) := by
  rw [Z_call (m' := M_X4_init) rfl rfl]
  exact ⟨fun q => ⟨q.1.2.1, q.2⟩, fun q => ⟨⟨Nat.le_add_left _ _, q.1, rfl⟩, q.2⟩⟩
theorem C_X4_init_n {x : Nat} {v1 v2 v3 v4 : Value} : Z m ((pc, .invokespecial i, len, 7, b, 3) :: code) L (v4 :: v3 :: v2 :: v1 :: .ref x :: st) h P ↔ (st.length ≤ 8 ∧ Ev M_X4_init [.ref x, v1, v2, v3, v4] h (fun r h' => Z m code L (r.toList ++ st) h' P)) := by
  rw [Z_call (m' := M_X4_init) rfl rfl]
  exact ⟨fun q => ⟨q.1.2.1, q.2⟩, fun q => ⟨⟨Nat.le_add_left _ _, q.1, rfl⟩, q.2⟩⟩
theorem E_X4_init {v0 v1 v2 v3 v4 : Value} : Ev M_X4_init [v0, v1, v2, v3, v4] h P ↔ Z M_X4_init k_X4_init_0 [some v0, some v1, some v2, some v3, some v4] [] h P := Iff.rfl
theorem R_X4_init : mR M_X4_init = none := rfl
theorem C_X4_hasGreaterMarkThan {x : Nat} {v1 : Value} : Z m ((pc, .invokevirtual i, len, 8, b, 0) :: code) L (v1 :: .ref x :: st) h P ↔ ((st.length ≤ 8 ∧ kd h x = 5) ∧ Ev M_X4_hasGreaterMarkThan [.ref x, v1] h (fun r h' => Z m code L (r.toList ++ st) h' P)) := by
  rw [Z_call (m' := M_X4_hasGreaterMarkThan) rfl rfl]
  exact ⟨fun q => ⟨⟨q.1.2.1, Nat.eq_of_beq_eq_true q.1.2.2⟩, q.2⟩, fun q => ⟨⟨Nat.le_add_left _ _, q.1.1, beq_of2 q.1.2⟩, q.2⟩⟩
theorem E_X4_hasGreaterMarkThan {v0 v1 : Value} : Ev M_X4_hasGreaterMarkThan [v0, v1] h P ↔ Z M_X4_hasGreaterMarkThan k_X4_hasGreaterMarkThan_0 [some v0, some v1] [] h P := Iff.rfl
theorem R_X4_hasGreaterMarkThan : mR M_X4_hasGreaterMarkThan = (some .boolean) := rfl
theorem C_X4_isOfSameElementAs {x : Nat} {v1 : Value} : Z m ((pc, .invokevirtual i, len, 9, b, 0) :: code) L (v1 :: .ref x :: st) h P ↔ ((st.length ≤ 8 ∧ kd h x = 5) ∧ Ev M_X4_isOfSameElementAs [.ref x, v1] h (fun r h' => Z m code L (r.toList ++ st) h' P)) := by
  rw [Z_call (m' := M_X4_isOfSameElementAs) rfl rfl]
  exact ⟨fun q => ⟨⟨q.1.2.1, Nat.eq_of_beq_eq_true q.1.2.2⟩, q.2⟩, fun q => ⟨⟨Nat.le_add_left _ _, q.1.1, beq_of2 q.1.2⟩, q.2⟩⟩
theorem E_X4_isOfSameElementAs {v0 v1 : Value} : Ev M_X4_isOfSameElementAs [v0, v1] h P ↔ Z M_X4_isOfSameElementAs k_X4_isOfSameElementAs_0 [some v0, some v1] [] h P := Iff.rfl
theorem R_X4_isOfSameElementAs : mR M_X4_isOfSameElementAs = (some .boolean) := rfl
theorem C_X5_init {x : Nat} {v1 : Value} : Z m ((pc, .invokespecial i, len, 10, b, 1) :: code) L (v1 :: .ref x :: st) h P ↔ (st.length ≤ 8 ∧ Ev M_X5_init [.ref x, v1] h (fun r h' => Z m code L (r.toList ++ st) h' P)) := by
  rw [Z_call (m' := M_X5_init) rfl rfl]
  exact ⟨fun q => ⟨q.1.2.1, q.2⟩, fun q => ⟨⟨Nat.le_add_left _ _, q.1, rfl⟩, q.2⟩⟩
theorem C_X5_init_n {x : Nat} {v1 : Value} : Z m ((pc, .invokespecial i, len, 10, b, 3) :: code) L (v1 :: .ref x :: st) h P ↔ (st.length ≤ 8 ∧ Ev M_X5_init [.ref x, v1] h (fun r h' => Z m code L (r.toList ++ st) h' P)) := by
  rw [Z_call (m' := M_X5_init) rfl rfl]
  exact ⟨fun q => ⟨q.1.2.1, q.2⟩, fun q => ⟨⟨Nat.le_add_left _ _, q.1, rfl⟩, q.2⟩⟩
theorem E_X5_init {v0 v1 : Value} : Ev M_X5_init [v0, v1] h P ↔ Z M_X5_init k_X5_init_0 [some v0, some v1, none] [] h P := Iff.rfl
theorem R_X5_init : mR M_X5_init = none := rfl
theorem C_X5_hasMostOperations {x : Nat} : Z m ((pc, .invokevirtual i, len, 11, b, 0) :: code) L (.ref x :: st) h P ↔ ((st.length ≤ 8 ∧ kd h x = 6) ∧ Ev M_X5_hasMostOperations [.ref x] h (fun r h' => Z m code L (r.toList ++ st) h' P)) := by
  rw [Z_call (m' := M_X5_hasMostOperations) rfl rfl]
  exact ⟨fun q => ⟨⟨q.1.2.1, Nat.eq_of_beq_eq_true q.1.2.2⟩, q.2⟩, fun q => ⟨⟨Nat.le_add_left _ _, q.1.1, beq_of2 q.1.2⟩, q.2⟩⟩
theorem E_X5_hasMostOperations {v0 : Value} : Ev M_X5_hasMostOperations [v0] h P ↔ Z M_X5_hasMostOperations k_X5_hasMostOperations_0 [some v0] [] h P := Iff.rfl
theorem R_X5_hasMostOperations : mR M_X5_hasMostOperations = (some .boolean) := rfl
theorem C_X5_ownClock {x : Nat} : Z m ((pc, .invokevirtual i, len, 12, b, 0) :: code) L (.ref x :: st) h P ↔ ((st.length ≤ 8 ∧ kd h x = 6) ∧ Ev M_X5_ownClock [.ref x] h (fun r h' => Z m code L (r.toList ++ st) h' P)) := by
  rw [Z_call (m' := M_X5_ownClock) rfl rfl]
  exact ⟨fun q => ⟨⟨q.1.2.1, Nat.eq_of_beq_eq_true q.1.2.2⟩, q.2⟩, fun q => ⟨⟨Nat.le_add_left _ _, q.1.1, beq_of2 q.1.2⟩, q.2⟩⟩
theorem E_X5_ownClock {v0 : Value} : Ev M_X5_ownClock [v0] h P ↔ Z M_X5_ownClock k_X5_ownClock_0 [some v0] [] h P := Iff.rfl
theorem R_X5_ownClock : mR M_X5_ownClock = (some (.object "ReplicaStore$Clock")) := rfl
theorem C_X5_elementBits {x : Nat} {v1 : Value} : Z m ((pc, .invokevirtual i, len, 13, b, 0) :: code) L (v1 :: .ref x :: st) h P ↔ ((st.length ≤ 8 ∧ kd h x = 6) ∧ Ev M_X5_elementBits [.ref x, v1] h (fun r h' => Z m code L (r.toList ++ st) h' P)) := by
  rw [Z_call (m' := M_X5_elementBits) rfl rfl]
  exact ⟨fun q => ⟨⟨q.1.2.1, Nat.eq_of_beq_eq_true q.1.2.2⟩, q.2⟩, fun q => ⟨⟨Nat.le_add_left _ _, q.1.1, beq_of2 q.1.2⟩, q.2⟩⟩
theorem E_X5_elementBits {v0 v1 : Value} : Ev M_X5_elementBits [v0, v1] h P ↔ Z M_X5_elementBits k_X5_elementBits_0 [some v0, some v1, none, none, none] [] h P := Iff.rfl
theorem R_X5_elementBits : mR M_X5_elementBits = (some .int) := rfl
theorem C_X5_begin {x : Nat} {v1 : Value} : Z m ((pc, .invokevirtual i, len, 14, b, 0) :: code) L (v1 :: .ref x :: st) h P ↔ ((st.length ≤ 8 ∧ kd h x = 6) ∧ Ev M_X5_begin [.ref x, v1] h (fun r h' => Z m code L (r.toList ++ st) h' P)) := by
  rw [Z_call (m' := M_X5_begin) rfl rfl]
  exact ⟨fun q => ⟨⟨q.1.2.1, Nat.eq_of_beq_eq_true q.1.2.2⟩, q.2⟩, fun q => ⟨⟨Nat.le_add_left _ _, q.1.1, beq_of2 q.1.2⟩, q.2⟩⟩
theorem E_X5_begin {v0 v1 : Value} : Ev M_X5_begin [v0, v1] h P ↔ Z M_X5_begin k_X5_begin_0 [some v0, some v1, none, none] [] h P := Iff.rfl
theorem R_X5_begin : mR M_X5_begin = (some (.object "ReplicaStore$Operation")) := rfl
theorem C_X5_receive {x : Nat} {v1 : Value} : Z m ((pc, .invokevirtual i, len, 15, b, 0) :: code) L (v1 :: .ref x :: st) h P ↔ ((st.length ≤ 8 ∧ kd h x = 6) ∧ Ev M_X5_receive [.ref x, v1] h (fun r h' => Z m code L (r.toList ++ st) h' P)) := by
  rw [Z_call (m' := M_X5_receive) rfl rfl]
  exact ⟨fun q => ⟨⟨q.1.2.1, Nat.eq_of_beq_eq_true q.1.2.2⟩, q.2⟩, fun q => ⟨⟨Nat.le_add_left _ _, q.1.1, beq_of2 q.1.2⟩, q.2⟩⟩
theorem E_X5_receive {v0 v1 : Value} : Ev M_X5_receive [v0, v1] h P ↔ Z M_X5_receive k_X5_receive_0 [some v0, some v1, none] [] h P := Iff.rfl
theorem R_X5_receive : mR M_X5_receive = (some .int) := rfl
theorem C_X5_isWaiting {x : Nat} {v1 : Value} : Z m ((pc, .invokevirtual i, len, 16, b, 0) :: code) L (v1 :: .ref x :: st) h P ↔ ((st.length ≤ 8 ∧ kd h x = 6) ∧ Ev M_X5_isWaiting [.ref x, v1] h (fun r h' => Z m code L (r.toList ++ st) h' P)) := by
  rw [Z_call (m' := M_X5_isWaiting) rfl rfl]
  exact ⟨fun q => ⟨⟨q.1.2.1, Nat.eq_of_beq_eq_true q.1.2.2⟩, q.2⟩, fun q => ⟨⟨Nat.le_add_left _ _, q.1.1, beq_of2 q.1.2⟩, q.2⟩⟩
theorem E_X5_isWaiting {v0 v1 : Value} : Ev M_X5_isWaiting [v0, v1] h P ↔ Z M_X5_isWaiting k_X5_isWaiting_0 [some v0, some v1, none] [] h P := Iff.rfl
theorem R_X5_isWaiting : mR M_X5_isWaiting = (some .boolean) := rfl
theorem C_X5_finishWaiting {x : Nat} : Z m ((pc, .invokevirtual i, len, 17, b, 0) :: code) L (.ref x :: st) h P ↔ ((st.length ≤ 8 ∧ kd h x = 6) ∧ Ev M_X5_finishWaiting [.ref x] h (fun r h' => Z m code L (r.toList ++ st) h' P)) := by
  rw [Z_call (m' := M_X5_finishWaiting) rfl rfl]
  exact ⟨fun q => ⟨⟨q.1.2.1, Nat.eq_of_beq_eq_true q.1.2.2⟩, q.2⟩, fun q => ⟨⟨Nat.le_add_left _ _, q.1.1, beq_of2 q.1.2⟩, q.2⟩⟩
theorem E_X5_finishWaiting {v0 : Value} : Ev M_X5_finishWaiting [v0] h P ↔ Z M_X5_finishWaiting k_X5_finishWaiting_0 [some v0, none, none, none] [] h P := Iff.rfl
theorem R_X5_finishWaiting : mR M_X5_finishWaiting = (some .int) := rfl
theorem C_X5_firstReady {x : Nat} : Z m ((pc, .invokevirtual i, len, 18, b, 0) :: code) L (.ref x :: st) h P ↔ ((st.length ≤ 8 ∧ kd h x = 6) ∧ Ev M_X5_firstReady [.ref x] h (fun r h' => Z m code L (r.toList ++ st) h' P)) := by
  rw [Z_call (m' := M_X5_firstReady) rfl rfl]
  exact ⟨fun q => ⟨⟨q.1.2.1, Nat.eq_of_beq_eq_true q.1.2.2⟩, q.2⟩, fun q => ⟨⟨Nat.le_add_left _ _, q.1.1, beq_of2 q.1.2⟩, q.2⟩⟩
theorem E_X5_firstReady {v0 : Value} : Ev M_X5_firstReady [v0] h P ↔ Z M_X5_firstReady k_X5_firstReady_0 [some v0, none] [] h P := Iff.rfl
theorem R_X5_firstReady : mR M_X5_firstReady = (some .int) := rfl
theorem C_X5_isReady {x : Nat} {v1 : Value} : Z m ((pc, .invokevirtual i, len, 19, b, 0) :: code) L (v1 :: .ref x :: st) h P ↔ ((st.length ≤ 8 ∧ kd h x = 6) ∧ Ev M_X5_isReady [.ref x, v1] h (fun r h' => Z m code L (r.toList ++ st) h' P)) := by
  rw [Z_call (m' := M_X5_isReady) rfl rfl]
  exact ⟨fun q => ⟨⟨q.1.2.1, Nat.eq_of_beq_eq_true q.1.2.2⟩, q.2⟩, fun q => ⟨⟨Nat.le_add_left _ _, q.1.1, beq_of2 q.1.2⟩, q.2⟩⟩
theorem E_X5_isReady {v0 v1 : Value} : Ev M_X5_isReady [v0, v1] h P ↔ Z M_X5_isReady k_X5_isReady_0 [some v0, some v1, none, none, none] [] h P := Iff.rfl
theorem R_X5_isReady : mR M_X5_isReady = (some .boolean) := rfl
theorem C_X5_finish {x : Nat} {v1 : Value} : Z m ((pc, .invokevirtual i, len, 20, b, 0) :: code) L (v1 :: .ref x :: st) h P ↔ ((st.length ≤ 8 ∧ kd h x = 6) ∧ Ev M_X5_finish [.ref x, v1] h (fun r h' => Z m code L (r.toList ++ st) h' P)) := by
  rw [Z_call (m' := M_X5_finish) rfl rfl]
  exact ⟨fun q => ⟨⟨q.1.2.1, Nat.eq_of_beq_eq_true q.1.2.2⟩, q.2⟩, fun q => ⟨⟨Nat.le_add_left _ _, q.1.1, beq_of2 q.1.2⟩, q.2⟩⟩
theorem E_X5_finish {v0 v1 : Value} : Ev M_X5_finish [v0, v1] h P ↔ Z M_X5_finish k_X5_finish_0 [some v0, some v1] [] h P := Iff.rfl
theorem R_X5_finish : mR M_X5_finish = none := rfl
theorem C_X5_apply {x : Nat} {v1 : Value} : Z m ((pc, .invokevirtual i, len, 21, b, 0) :: code) L (v1 :: .ref x :: st) h P ↔ ((st.length ≤ 8 ∧ kd h x = 6) ∧ Ev M_X5_apply [.ref x, v1] h (fun r h' => Z m code L (r.toList ++ st) h' P)) := by
  rw [Z_call (m' := M_X5_apply) rfl rfl]
  exact ⟨fun q => ⟨⟨q.1.2.1, Nat.eq_of_beq_eq_true q.1.2.2⟩, q.2⟩, fun q => ⟨⟨Nat.le_add_left _ _, q.1.1, beq_of2 q.1.2⟩, q.2⟩⟩
theorem E_X5_apply {v0 v1 : Value} : Ev M_X5_apply [v0, v1] h P ↔ Z M_X5_apply k_X5_apply_0 [some v0, some v1, none] [] h P := Iff.rfl
theorem R_X5_apply : mR M_X5_apply = none := rfl
theorem C_X5_dropPutsBefore {x : Nat} {v1 : Value} : Z m ((pc, .invokevirtual i, len, 22, b, 0) :: code) L (v1 :: .ref x :: st) h P ↔ ((st.length ≤ 8 ∧ kd h x = 6) ∧ Ev M_X5_dropPutsBefore [.ref x, v1] h (fun r h' => Z m code L (r.toList ++ st) h' P)) := by
  rw [Z_call (m' := M_X5_dropPutsBefore) rfl rfl]
  exact ⟨fun q => ⟨⟨q.1.2.1, Nat.eq_of_beq_eq_true q.1.2.2⟩, q.2⟩, fun q => ⟨⟨Nat.le_add_left _ _, q.1.1, beq_of2 q.1.2⟩, q.2⟩⟩
theorem E_X5_dropPutsBefore {v0 v1 : Value} : Ev M_X5_dropPutsBefore [v0, v1] h P ↔ Z M_X5_dropPutsBefore k_X5_dropPutsBefore_0 [some v0, some v1, none, none] [] h P := Iff.rfl
theorem R_X5_dropPutsBefore : mR M_X5_dropPutsBefore = none := rfl
theorem C_X5_keepGreaterMark {x : Nat} {v1 : Value} : Z m ((pc, .invokevirtual i, len, 23, b, 0) :: code) L (v1 :: .ref x :: st) h P ↔ ((st.length ≤ 8 ∧ kd h x = 6) ∧ Ev M_X5_keepGreaterMark [.ref x, v1] h (fun r h' => Z m code L (r.toList ++ st) h' P)) := by
  rw [Z_call (m' := M_X5_keepGreaterMark) rfl rfl]
  exact ⟨fun q => ⟨⟨q.1.2.1, Nat.eq_of_beq_eq_true q.1.2.2⟩, q.2⟩, fun q => ⟨⟨Nat.le_add_left _ _, q.1.1, beq_of2 q.1.2⟩, q.2⟩⟩
theorem E_X5_keepGreaterMark {v0 v1 : Value} : Ev M_X5_keepGreaterMark [v0, v1] h P ↔ Z M_X5_keepGreaterMark k_X5_keepGreaterMark_0 [some v0, some v1, none] [] h P := Iff.rfl
theorem R_X5_keepGreaterMark : mR M_X5_keepGreaterMark = none := rfl
theorem C_X5_isDoneEverywhere {x : Nat} {v1 : Value} : Z m ((pc, .invokevirtual i, len, 24, b, 0) :: code) L (v1 :: .ref x :: st) h P ↔ ((st.length ≤ 8 ∧ kd h x = 6) ∧ Ev M_X5_isDoneEverywhere [.ref x, v1] h (fun r h' => Z m code L (r.toList ++ st) h' P)) := by
  rw [Z_call (m' := M_X5_isDoneEverywhere) rfl rfl]
  exact ⟨fun q => ⟨⟨q.1.2.1, Nat.eq_of_beq_eq_true q.1.2.2⟩, q.2⟩, fun q => ⟨⟨Nat.le_add_left _ _, q.1.1, beq_of2 q.1.2⟩, q.2⟩⟩
theorem E_X5_isDoneEverywhere {v0 v1 : Value} : Ev M_X5_isDoneEverywhere [v0, v1] h P ↔ Z M_X5_isDoneEverywhere k_X5_isDoneEverywhere_0 [some v0, some v1, none] [] h P := Iff.rfl
theorem R_X5_isDoneEverywhere : mR M_X5_isDoneEverywhere = (some .boolean) := rfl
theorem C_X5_shortenLog {x : Nat} : Z m ((pc, .invokevirtual i, len, 25, b, 0) :: code) L (.ref x :: st) h P ↔ ((st.length ≤ 8 ∧ kd h x = 6) ∧ Ev M_X5_shortenLog [.ref x] h (fun r h' => Z m code L (r.toList ++ st) h' P)) := by
  rw [Z_call (m' := M_X5_shortenLog) rfl rfl]
  exact ⟨fun q => ⟨⟨q.1.2.1, Nat.eq_of_beq_eq_true q.1.2.2⟩, q.2⟩, fun q => ⟨⟨Nat.le_add_left _ _, q.1.1, beq_of2 q.1.2⟩, q.2⟩⟩
theorem E_X5_shortenLog {v0 : Value} : Ev M_X5_shortenLog [v0] h P ↔ Z M_X5_shortenLog k_X5_shortenLog_0 [some v0, none] [] h P := Iff.rfl
theorem R_X5_shortenLog : mR M_X5_shortenLog = none := rfl
theorem C_X6_init {x : Nat} : Z m ((pc, .invokespecial i, len, 26, b, 1) :: code) L (.ref x :: st) h P ↔ (st.length ≤ 8 ∧ Ev M_X6_init [.ref x] h (fun r h' => Z m code L (r.toList ++ st) h' P)) := by
  rw [Z_call (m' := M_X6_init) rfl rfl]
  exact ⟨fun q => ⟨q.1.2.1, q.2⟩, fun q => ⟨⟨Nat.le_add_left _ _, q.1, rfl⟩, q.2⟩⟩
theorem C_X6_init_n {x : Nat} : Z m ((pc, .invokespecial i, len, 26, b, 3) :: code) L (.ref x :: st) h P ↔ (st.length ≤ 8 ∧ Ev M_X6_init [.ref x] h (fun r h' => Z m code L (r.toList ++ st) h' P)) := by
  rw [Z_call (m' := M_X6_init) rfl rfl]
  exact ⟨fun q => ⟨q.1.2.1, q.2⟩, fun q => ⟨⟨Nat.le_add_left _ _, q.1, rfl⟩, q.2⟩⟩
theorem E_X6_init {v0 : Value} : Ev M_X6_init [v0] h P ↔ Z M_X6_init k_X6_init_0 [some v0] [] h P := Iff.rfl
theorem R_X6_init : mR M_X6_init = none := rfl
theorem C_X6_lettersEver {x : Nat} : Z m ((pc, .invokevirtual i, len, 27, b, 0) :: code) L (.ref x :: st) h P ↔ ((st.length ≤ 8 ∧ kd h x = 7) ∧ Ev M_X6_lettersEver [.ref x] h (fun r h' => Z m code L (r.toList ++ st) h' P)) := by
  rw [Z_call (m' := M_X6_lettersEver) rfl rfl]
  exact ⟨fun q => ⟨⟨q.1.2.1, Nat.eq_of_beq_eq_true q.1.2.2⟩, q.2⟩, fun q => ⟨⟨Nat.le_add_left _ _, q.1.1, beq_of2 q.1.2⟩, q.2⟩⟩
theorem E_X6_lettersEver {v0 : Value} : Ev M_X6_lettersEver [v0] h P ↔ Z M_X6_lettersEver k_X6_lettersEver_0 [some v0, none, none] [] h P := Iff.rfl
theorem R_X6_lettersEver : mR M_X6_lettersEver = (some .int) := rfl
theorem C_X6_lettersThere {x : Nat} : Z m ((pc, .invokevirtual i, len, 28, b, 0) :: code) L (.ref x :: st) h P ↔ ((st.length ≤ 8 ∧ kd h x = 7) ∧ Ev M_X6_lettersThere [.ref x] h (fun r h' => Z m code L (r.toList ++ st) h' P)) := by
  rw [Z_call (m' := M_X6_lettersThere) rfl rfl]
  exact ⟨fun q => ⟨⟨q.1.2.1, Nat.eq_of_beq_eq_true q.1.2.2⟩, q.2⟩, fun q => ⟨⟨Nat.le_add_left _ _, q.1.1, beq_of2 q.1.2⟩, q.2⟩⟩
theorem E_X6_lettersThere {v0 : Value} : Ev M_X6_lettersThere [v0] h P ↔ Z M_X6_lettersThere k_X6_lettersThere_0 [some v0, none, none] [] h P := Iff.rfl
theorem R_X6_lettersThere : mR M_X6_lettersThere = (some .int) := rfl
theorem C_X6_letterAt {x : Nat} {v1 : Value} : Z m ((pc, .invokevirtual i, len, 29, b, 0) :: code) L (v1 :: .ref x :: st) h P ↔ ((st.length ≤ 8 ∧ kd h x = 7) ∧ Ev M_X6_letterAt [.ref x, v1] h (fun r h' => Z m code L (r.toList ++ st) h' P)) := by
  rw [Z_call (m' := M_X6_letterAt) rfl rfl]
  exact ⟨fun q => ⟨⟨q.1.2.1, Nat.eq_of_beq_eq_true q.1.2.2⟩, q.2⟩, fun q => ⟨⟨Nat.le_add_left _ _, q.1.1, beq_of2 q.1.2⟩, q.2⟩⟩
theorem E_X6_letterAt {v0 v1 : Value} : Ev M_X6_letterAt [v0, v1] h P ↔ Z M_X6_letterAt k_X6_letterAt_0 [some v0, some v1, none, none] [] h P := Iff.rfl
theorem R_X6_letterAt : mR M_X6_letterAt = (some (.object "ReplicaStore$Letter")) := rfl
theorem C_X6_bringIn {x : Nat} {v1 : Value} : Z m ((pc, .invokevirtual i, len, 30, b, 0) :: code) L (v1 :: .ref x :: st) h P ↔ ((st.length ≤ 8 ∧ kd h x = 7) ∧ Ev M_X6_bringIn [.ref x, v1] h (fun r h' => Z m code L (r.toList ++ st) h' P)) := by
  rw [Z_call (m' := M_X6_bringIn) rfl rfl]
  exact ⟨fun q => ⟨⟨q.1.2.1, Nat.eq_of_beq_eq_true q.1.2.2⟩, q.2⟩, fun q => ⟨⟨Nat.le_add_left _ _, q.1.1, beq_of2 q.1.2⟩, q.2⟩⟩
theorem E_X6_bringIn {v0 v1 : Value} : Ev M_X6_bringIn [v0, v1] h P ↔ Z M_X6_bringIn k_X6_bringIn_0 [some v0, some v1, none, none] [] h P := Iff.rfl
theorem R_X6_bringIn : mR M_X6_bringIn = none := rfl
theorem C_X6_bringOut {x : Nat} {v1 : Value} : Z m ((pc, .invokevirtual i, len, 31, b, 0) :: code) L (v1 :: .ref x :: st) h P ↔ ((st.length ≤ 8 ∧ kd h x = 7) ∧ Ev M_X6_bringOut [.ref x, v1] h (fun r h' => Z m code L (r.toList ++ st) h' P)) := by
  rw [Z_call (m' := M_X6_bringOut) rfl rfl]
  exact ⟨fun q => ⟨⟨q.1.2.1, Nat.eq_of_beq_eq_true q.1.2.2⟩, q.2⟩, fun q => ⟨⟨Nat.le_add_left _ _, q.1.1, beq_of2 q.1.2⟩, q.2⟩⟩
theorem E_X6_bringOut {v0 v1 : Value} : Ev M_X6_bringOut [v0, v1] h P ↔ Z M_X6_bringOut k_X6_bringOut_0 [some v0, some v1, none] [] h P := Iff.rfl
theorem R_X6_bringOut : mR M_X6_bringOut = none := rfl
theorem C_X6_letterOf {x : Nat} {v1 : Value} : Z m ((pc, .invokevirtual i, len, 32, b, 0) :: code) L (v1 :: .ref x :: st) h P ↔ ((st.length ≤ 8 ∧ kd h x = 7) ∧ Ev M_X6_letterOf [.ref x, v1] h (fun r h' => Z m code L (r.toList ++ st) h' P)) := by
  rw [Z_call (m' := M_X6_letterOf) rfl rfl]
  exact ⟨fun q => ⟨⟨q.1.2.1, Nat.eq_of_beq_eq_true q.1.2.2⟩, q.2⟩, fun q => ⟨⟨Nat.le_add_left _ _, q.1.1, beq_of2 q.1.2⟩, q.2⟩⟩
theorem E_X6_letterOf {v0 v1 : Value} : Ev M_X6_letterOf [v0, v1] h P ↔ Z M_X6_letterOf k_X6_letterOf_0 [some v0, some v1, none] [] h P := Iff.rfl
theorem R_X6_letterOf : mR M_X6_letterOf = (some (.object "ReplicaStore$Letter")) := rfl
theorem C_X7_init {x : Nat} : Z m ((pc, .invokespecial i, len, 33, b, 1) :: code) L (.ref x :: st) h P ↔ (st.length ≤ 8 ∧ Ev M_X7_init [.ref x] h (fun r h' => Z m code L (r.toList ++ st) h' P)) := by
  rw [Z_call (m' := M_X7_init) rfl rfl]
  exact ⟨fun q => ⟨q.1.2.1, q.2⟩, fun q => ⟨⟨Nat.le_add_left _ _, q.1, rfl⟩, q.2⟩⟩
theorem C_X7_init_n {x : Nat} : Z m ((pc, .invokespecial i, len, 33, b, 3) :: code) L (.ref x :: st) h P ↔ (st.length ≤ 8 ∧ Ev M_X7_init [.ref x] h (fun r h' => Z m code L (r.toList ++ st) h' P)) := by
  rw [Z_call (m' := M_X7_init) rfl rfl]
  exact ⟨fun q => ⟨q.1.2.1, q.2⟩, fun q => ⟨⟨Nat.le_add_left _ _, q.1, rfl⟩, q.2⟩⟩
theorem E_X7_init {v0 : Value} : Ev M_X7_init [v0] h P ↔ Z M_X7_init k_X7_init_0 [some v0] [] h P := Iff.rfl
theorem R_X7_init : mR M_X7_init = none := rfl
theorem C_X7_isFull {x : Nat} : Z m ((pc, .invokevirtual i, len, 34, b, 0) :: code) L (.ref x :: st) h P ↔ ((st.length ≤ 8 ∧ kd h x = 8) ∧ Ev M_X7_isFull [.ref x] h (fun r h' => Z m code L (r.toList ++ st) h' P)) := by
  rw [Z_call (m' := M_X7_isFull) rfl rfl]
  exact ⟨fun q => ⟨⟨q.1.2.1, Nat.eq_of_beq_eq_true q.1.2.2⟩, q.2⟩, fun q => ⟨⟨Nat.le_add_left _ _, q.1.1, beq_of2 q.1.2⟩, q.2⟩⟩
theorem E_X7_isFull {v0 : Value} : Ev M_X7_isFull [v0] h P ↔ Z M_X7_isFull k_X7_isFull_0 [some v0] [] h P := Iff.rfl
theorem R_X7_isFull : mR M_X7_isFull = (some .boolean) := rfl
theorem C_X7_send {x : Nat} {v1 : Value} : Z m ((pc, .invokevirtual i, len, 35, b, 0) :: code) L (v1 :: .ref x :: st) h P ↔ ((st.length ≤ 8 ∧ kd h x = 8) ∧ Ev M_X7_send [.ref x, v1] h (fun r h' => Z m code L (r.toList ++ st) h' P)) := by
  rw [Z_call (m' := M_X7_send) rfl rfl]
  exact ⟨fun q => ⟨⟨q.1.2.1, Nat.eq_of_beq_eq_true q.1.2.2⟩, q.2⟩, fun q => ⟨⟨Nat.le_add_left _ _, q.1.1, beq_of2 q.1.2⟩, q.2⟩⟩
theorem E_X7_send {v0 v1 : Value} : Ev M_X7_send [v0, v1] h P ↔ Z M_X7_send k_X7_send_0 [some v0, some v1] [] h P := Iff.rfl
theorem R_X7_send : mR M_X7_send = none := rfl
theorem C_X8_init {x : Nat} : Z m ((pc, .invokespecial i, len, 36, b, 1) :: code) L (.ref x :: st) h P ↔ (st.length ≤ 8 ∧ Ev M_X8_init [.ref x] h (fun r h' => Z m code L (r.toList ++ st) h' P)) := by
  rw [Z_call (m' := M_X8_init) rfl rfl]
  exact ⟨fun q => ⟨q.1.2.1, q.2⟩, fun q => ⟨⟨Nat.le_add_left _ _, q.1, rfl⟩, q.2⟩⟩
theorem C_X8_init_n {x : Nat} : Z m ((pc, .invokespecial i, len, 36, b, 3) :: code) L (.ref x :: st) h P ↔ (st.length ≤ 8 ∧ Ev M_X8_init [.ref x] h (fun r h' => Z m code L (r.toList ++ st) h' P)) := by
  rw [Z_call (m' := M_X8_init) rfl rfl]
  exact ⟨fun q => ⟨q.1.2.1, q.2⟩, fun q => ⟨⟨Nat.le_add_left _ _, q.1, rfl⟩, q.2⟩⟩
theorem E_X8_init {v0 : Value} : Ev M_X8_init [v0] h P ↔ Z M_X8_init k_X8_init_0 [some v0, none] [] h P := Iff.rfl
theorem R_X8_init : mR M_X8_init = none := rfl
theorem C_X8_add {x : Nat} {v1 v2 v3 : Value} : Z m ((pc, .invokevirtual i, len, 37, b, 0) :: code) L (v3 :: v2 :: v1 :: .ref x :: st) h P ↔ ((st.length ≤ 8 ∧ kd h x = 9) ∧ Ev M_X8_add [.ref x, v1, v2, v3] h (fun r h' => Z m code L (r.toList ++ st) h' P)) := by
  rw [Z_call (m' := M_X8_add) rfl rfl]
  exact ⟨fun q => ⟨⟨q.1.2.1, Nat.eq_of_beq_eq_true q.1.2.2⟩, q.2⟩, fun q => ⟨⟨Nat.le_add_left _ _, q.1.1, beq_of2 q.1.2⟩, q.2⟩⟩
theorem E_X8_add {v0 v1 v2 v3 : Value} : Ev M_X8_add [v0, v1, v2, v3] h P ↔ Z M_X8_add k_X8_add_0 [some v0, some v1, some v2, some v3] [] h P := Iff.rfl
theorem R_X8_add : mR M_X8_add = (some .int) := rfl
theorem C_X8_put {x : Nat} {v1 v2 v3 : Value} : Z m ((pc, .invokevirtual i, len, 38, b, 0) :: code) L (v3 :: v2 :: v1 :: .ref x :: st) h P ↔ ((st.length ≤ 8 ∧ kd h x = 9) ∧ Ev M_X8_put [.ref x, v1, v2, v3] h (fun r h' => Z m code L (r.toList ++ st) h' P)) := by
  rw [Z_call (m' := M_X8_put) rfl rfl]
  exact ⟨fun q => ⟨⟨q.1.2.1, Nat.eq_of_beq_eq_true q.1.2.2⟩, q.2⟩, fun q => ⟨⟨Nat.le_add_left _ _, q.1.1, beq_of2 q.1.2⟩, q.2⟩⟩
theorem E_X8_put {v0 v1 v2 v3 : Value} : Ev M_X8_put [v0, v1, v2, v3] h P ↔ Z M_X8_put k_X8_put_0 [some v0, some v1, some v2, some v3] [] h P := Iff.rfl
theorem R_X8_put : mR M_X8_put = (some .int) := rfl
theorem C_X8_take {x : Nat} {v1 v2 v3 : Value} : Z m ((pc, .invokevirtual i, len, 39, b, 0) :: code) L (v3 :: v2 :: v1 :: .ref x :: st) h P ↔ ((st.length ≤ 8 ∧ kd h x = 9) ∧ Ev M_X8_take [.ref x, v1, v2, v3] h (fun r h' => Z m code L (r.toList ++ st) h' P)) := by
  rw [Z_call (m' := M_X8_take) rfl rfl]
  exact ⟨fun q => ⟨⟨q.1.2.1, Nat.eq_of_beq_eq_true q.1.2.2⟩, q.2⟩, fun q => ⟨⟨Nat.le_add_left _ _, q.1.1, beq_of2 q.1.2⟩, q.2⟩⟩
theorem E_X8_take {v0 v1 v2 v3 : Value} : Ev M_X8_take [v0, v1, v2, v3] h P ↔ Z M_X8_take k_X8_take_0 [some v0, some v1, some v2, some v3] [] h P := Iff.rfl
theorem R_X8_take : mR M_X8_take = (some .int) := rfl
theorem C_X8_write {x : Nat} {v1 v2 v3 : Value} : Z m ((pc, .invokevirtual i, len, 40, b, 0) :: code) L (v3 :: v2 :: v1 :: .ref x :: st) h P ↔ ((st.length ≤ 8 ∧ kd h x = 9) ∧ Ev M_X8_write [.ref x, v1, v2, v3] h (fun r h' => Z m code L (r.toList ++ st) h' P)) := by
  rw [Z_call (m' := M_X8_write) rfl rfl]
  exact ⟨fun q => ⟨⟨q.1.2.1, Nat.eq_of_beq_eq_true q.1.2.2⟩, q.2⟩, fun q => ⟨⟨Nat.le_add_left _ _, q.1.1, beq_of2 q.1.2⟩, q.2⟩⟩
theorem E_X8_write {v0 v1 v2 v3 : Value} : Ev M_X8_write [v0, v1, v2, v3] h P ↔ Z M_X8_write k_X8_write_0 [some v0, some v1, some v2, some v3] [] h P := Iff.rfl
theorem R_X8_write : mR M_X8_write = (some .int) := rfl
theorem C_X8_insert {x : Nat} {v1 v2 v3 v4 : Value} : Z m ((pc, .invokevirtual i, len, 41, b, 0) :: code) L (v4 :: v3 :: v2 :: v1 :: .ref x :: st) h P ↔ ((st.length ≤ 8 ∧ kd h x = 9) ∧ Ev M_X8_insert [.ref x, v1, v2, v3, v4] h (fun r h' => Z m code L (r.toList ++ st) h' P)) := by
  rw [Z_call (m' := M_X8_insert) rfl rfl]
  exact ⟨fun q => ⟨⟨q.1.2.1, Nat.eq_of_beq_eq_true q.1.2.2⟩, q.2⟩, fun q => ⟨⟨Nat.le_add_left _ _, q.1.1, beq_of2 q.1.2⟩, q.2⟩⟩
theorem E_X8_insert {v0 v1 v2 v3 v4 : Value} : Ev M_X8_insert [v0, v1, v2, v3, v4] h P ↔ Z M_X8_insert k_X8_insert_0 [some v0, some v1, some v2, some v3, some v4, none] [] h P := Iff.rfl
theorem R_X8_insert : mR M_X8_insert = (some .int) := rfl
theorem C_X8_remove {x : Nat} {v1 v2 v3 : Value} : Z m ((pc, .invokevirtual i, len, 42, b, 0) :: code) L (v3 :: v2 :: v1 :: .ref x :: st) h P ↔ ((st.length ≤ 8 ∧ kd h x = 9) ∧ Ev M_X8_remove [.ref x, v1, v2, v3] h (fun r h' => Z m code L (r.toList ++ st) h' P)) := by
  rw [Z_call (m' := M_X8_remove) rfl rfl]
  exact ⟨fun q => ⟨⟨q.1.2.1, Nat.eq_of_beq_eq_true q.1.2.2⟩, q.2⟩, fun q => ⟨⟨Nat.le_add_left _ _, q.1.1, beq_of2 q.1.2⟩, q.2⟩⟩
theorem E_X8_remove {v0 v1 v2 v3 : Value} : Ev M_X8_remove [v0, v1, v2, v3] h P ↔ Z M_X8_remove k_X8_remove_0 [some v0, some v1, some v2, some v3, none] [] h P := Iff.rfl
theorem R_X8_remove : mR M_X8_remove = (some .int) := rfl
theorem C_X8_deliver {x : Nat} {v1 v2 v3 : Value} : Z m ((pc, .invokevirtual i, len, 43, b, 0) :: code) L (v3 :: v2 :: v1 :: .ref x :: st) h P ↔ ((st.length ≤ 8 ∧ kd h x = 9) ∧ Ev M_X8_deliver [.ref x, v1, v2, v3] h (fun r h' => Z m code L (r.toList ++ st) h' P)) := by
  rw [Z_call (m' := M_X8_deliver) rfl rfl]
  exact ⟨fun q => ⟨⟨q.1.2.1, Nat.eq_of_beq_eq_true q.1.2.2⟩, q.2⟩, fun q => ⟨⟨Nat.le_add_left _ _, q.1.1, beq_of2 q.1.2⟩, q.2⟩⟩
theorem E_X8_deliver {v0 v1 v2 v3 : Value} : Ev M_X8_deliver [v0, v1, v2, v3] h P ↔ Z M_X8_deliver k_X8_deliver_0 [some v0, some v1, some v2, some v3, none, none, none] [] h P := Iff.rfl
theorem R_X8_deliver : mR M_X8_deliver = (some .int) := rfl
theorem C_X8_copy {x : Nat} {v1 v2 v3 : Value} : Z m ((pc, .invokevirtual i, len, 44, b, 0) :: code) L (v3 :: v2 :: v1 :: .ref x :: st) h P ↔ ((st.length ≤ 8 ∧ kd h x = 9) ∧ Ev M_X8_copy [.ref x, v1, v2, v3] h (fun r h' => Z m code L (r.toList ++ st) h' P)) := by
  rw [Z_call (m' := M_X8_copy) rfl rfl]
  exact ⟨fun q => ⟨⟨q.1.2.1, Nat.eq_of_beq_eq_true q.1.2.2⟩, q.2⟩, fun q => ⟨⟨Nat.le_add_left _ _, q.1.1, beq_of2 q.1.2⟩, q.2⟩⟩
theorem E_X8_copy {v0 v1 v2 v3 : Value} : Ev M_X8_copy [v0, v1, v2, v3] h P ↔ Z M_X8_copy k_X8_copy_0 [some v0, some v1, some v2, some v3, none] [] h P := Iff.rfl
theorem R_X8_copy : mR M_X8_copy = (some .int) := rfl
theorem C_X8_lose {x : Nat} {v1 v2 v3 : Value} : Z m ((pc, .invokevirtual i, len, 45, b, 0) :: code) L (v3 :: v2 :: v1 :: .ref x :: st) h P ↔ ((st.length ≤ 8 ∧ kd h x = 9) ∧ Ev M_X8_lose [.ref x, v1, v2, v3] h (fun r h' => Z m code L (r.toList ++ st) h' P)) := by
  rw [Z_call (m' := M_X8_lose) rfl rfl]
  exact ⟨fun q => ⟨⟨q.1.2.1, Nat.eq_of_beq_eq_true q.1.2.2⟩, q.2⟩, fun q => ⟨⟨Nat.le_add_left _ _, q.1.1, beq_of2 q.1.2⟩, q.2⟩⟩
theorem E_X8_lose {v0 v1 v2 v3 : Value} : Ev M_X8_lose [v0, v1, v2, v3] h P ↔ Z M_X8_lose k_X8_lose_0 [some v0, some v1, some v2, some v3, none] [] h P := Iff.rfl
theorem R_X8_lose : mR M_X8_lose = (some .int) := rfl
theorem C_X8_ask {x : Nat} {v1 v2 : Value} : Z m ((pc, .invokevirtual i, len, 46, b, 0) :: code) L (v2 :: v1 :: .ref x :: st) h P ↔ ((st.length ≤ 8 ∧ kd h x = 9) ∧ Ev M_X8_ask [.ref x, v1, v2] h (fun r h' => Z m code L (r.toList ++ st) h' P)) := by
  rw [Z_call (m' := M_X8_ask) rfl rfl]
  exact ⟨fun q => ⟨⟨q.1.2.1, Nat.eq_of_beq_eq_true q.1.2.2⟩, q.2⟩, fun q => ⟨⟨Nat.le_add_left _ _, q.1.1, beq_of2 q.1.2⟩, q.2⟩⟩
theorem E_X8_ask {v0 v1 v2 : Value} : Ev M_X8_ask [v0, v1, v2] h P ↔ Z M_X8_ask k_X8_ask_0 [some v0, some v1, some v2] [] h P := Iff.rfl
theorem R_X8_ask : mR M_X8_ask = (some .int) := rfl
theorem C_X8_tell {x : Nat} {v1 v2 : Value} : Z m ((pc, .invokevirtual i, len, 47, b, 0) :: code) L (v2 :: v1 :: .ref x :: st) h P ↔ ((st.length ≤ 8 ∧ kd h x = 9) ∧ Ev M_X8_tell [.ref x, v1, v2] h (fun r h' => Z m code L (r.toList ++ st) h' P)) := by
  rw [Z_call (m' := M_X8_tell) rfl rfl]
  exact ⟨fun q => ⟨⟨q.1.2.1, Nat.eq_of_beq_eq_true q.1.2.2⟩, q.2⟩, fun q => ⟨⟨Nat.le_add_left _ _, q.1.1, beq_of2 q.1.2⟩, q.2⟩⟩
theorem E_X8_tell {v0 v1 v2 : Value} : Ev M_X8_tell [v0, v1, v2] h P ↔ Z M_X8_tell k_X8_tell_0 [some v0, some v1, some v2] [] h P := Iff.rfl
theorem R_X8_tell : mR M_X8_tell = (some .int) := rfl
theorem C_X8_power {x : Nat} {v1 v2 : Value} : Z m ((pc, .invokevirtual i, len, 48, b, 0) :: code) L (v2 :: v1 :: .ref x :: st) h P ↔ ((st.length ≤ 8 ∧ kd h x = 9) ∧ Ev M_X8_power [.ref x, v1, v2] h (fun r h' => Z m code L (r.toList ++ st) h' P)) := by
  rw [Z_call (m' := M_X8_power) rfl rfl]
  exact ⟨fun q => ⟨⟨q.1.2.1, Nat.eq_of_beq_eq_true q.1.2.2⟩, q.2⟩, fun q => ⟨⟨Nat.le_add_left _ _, q.1.1, beq_of2 q.1.2⟩, q.2⟩⟩
theorem E_X8_power {v0 v1 v2 : Value} : Ev M_X8_power [v0, v1, v2] h P ↔ Z M_X8_power k_X8_power_0 [some v0, some v1, some v2, none] [] h P := Iff.rfl
theorem R_X8_power : mR M_X8_power = (some .int) := rfl
theorem C_X8_counter {x : Nat} {v1 v2 : Value} : Z m ((pc, .invokevirtual i, len, 49, b, 0) :: code) L (v2 :: v1 :: .ref x :: st) h P ↔ ((st.length ≤ 8 ∧ kd h x = 9) ∧ Ev M_X8_counter [.ref x, v1, v2] h (fun r h' => Z m code L (r.toList ++ st) h' P)) := by
  rw [Z_call (m' := M_X8_counter) rfl rfl]
  exact ⟨fun q => ⟨⟨q.1.2.1, Nat.eq_of_beq_eq_true q.1.2.2⟩, q.2⟩, fun q => ⟨⟨Nat.le_add_left _ _, q.1.1, beq_of2 q.1.2⟩, q.2⟩⟩
theorem E_X8_counter {v0 v1 v2 : Value} : Ev M_X8_counter [v0, v1, v2] h P ↔ Z M_X8_counter k_X8_counter_0 [some v0, some v1, some v2] [] h P := Iff.rfl
theorem R_X8_counter : mR M_X8_counter = (some .int) := rfl
theorem C_X8_has {x : Nat} {v1 v2 v3 : Value} : Z m ((pc, .invokevirtual i, len, 50, b, 0) :: code) L (v3 :: v2 :: v1 :: .ref x :: st) h P ↔ ((st.length ≤ 8 ∧ kd h x = 9) ∧ Ev M_X8_has [.ref x, v1, v2, v3] h (fun r h' => Z m code L (r.toList ++ st) h' P)) := by
  rw [Z_call (m' := M_X8_has) rfl rfl]
  exact ⟨fun q => ⟨⟨q.1.2.1, Nat.eq_of_beq_eq_true q.1.2.2⟩, q.2⟩, fun q => ⟨⟨Nat.le_add_left _ _, q.1.1, beq_of2 q.1.2⟩, q.2⟩⟩
theorem E_X8_has {v0 v1 v2 v3 : Value} : Ev M_X8_has [v0, v1, v2, v3] h P ↔ Z M_X8_has k_X8_has_0 [some v0, some v1, some v2, some v3] [] h P := Iff.rfl
theorem R_X8_has : mR M_X8_has = (some .int) := rfl
theorem C_X8_size {x : Nat} {v1 v2 : Value} : Z m ((pc, .invokevirtual i, len, 51, b, 0) :: code) L (v2 :: v1 :: .ref x :: st) h P ↔ ((st.length ≤ 8 ∧ kd h x = 9) ∧ Ev M_X8_size [.ref x, v1, v2] h (fun r h' => Z m code L (r.toList ++ st) h' P)) := by
  rw [Z_call (m' := M_X8_size) rfl rfl]
  exact ⟨fun q => ⟨⟨q.1.2.1, Nat.eq_of_beq_eq_true q.1.2.2⟩, q.2⟩, fun q => ⟨⟨Nat.le_add_left _ _, q.1.1, beq_of2 q.1.2⟩, q.2⟩⟩
theorem E_X8_size {v0 v1 v2 : Value} : Ev M_X8_size [v0, v1, v2] h P ↔ Z M_X8_size k_X8_size_0 [some v0, some v1, some v2] [] h P := Iff.rfl
theorem R_X8_size : mR M_X8_size = (some .int) := rfl
theorem C_X8_register {x : Nat} {v1 v2 : Value} : Z m ((pc, .invokevirtual i, len, 52, b, 0) :: code) L (v2 :: v1 :: .ref x :: st) h P ↔ ((st.length ≤ 8 ∧ kd h x = 9) ∧ Ev M_X8_register [.ref x, v1, v2] h (fun r h' => Z m code L (r.toList ++ st) h' P)) := by
  rw [Z_call (m' := M_X8_register) rfl rfl]
  exact ⟨fun q => ⟨⟨q.1.2.1, Nat.eq_of_beq_eq_true q.1.2.2⟩, q.2⟩, fun q => ⟨⟨Nat.le_add_left _ _, q.1.1, beq_of2 q.1.2⟩, q.2⟩⟩
theorem E_X8_register {v0 v1 v2 : Value} : Ev M_X8_register [v0, v1, v2] h P ↔ Z M_X8_register k_X8_register_0 [some v0, some v1, some v2, none] [] h P := Iff.rfl
theorem R_X8_register : mR M_X8_register = (some .int) := rfl
theorem C_X8_length {x : Nat} {v1 v2 : Value} : Z m ((pc, .invokevirtual i, len, 53, b, 0) :: code) L (v2 :: v1 :: .ref x :: st) h P ↔ ((st.length ≤ 8 ∧ kd h x = 9) ∧ Ev M_X8_length [.ref x, v1, v2] h (fun r h' => Z m code L (r.toList ++ st) h' P)) := by
  rw [Z_call (m' := M_X8_length) rfl rfl]
  exact ⟨fun q => ⟨⟨q.1.2.1, Nat.eq_of_beq_eq_true q.1.2.2⟩, q.2⟩, fun q => ⟨⟨Nat.le_add_left _ _, q.1.1, beq_of2 q.1.2⟩, q.2⟩⟩
theorem E_X8_length {v0 v1 v2 : Value} : Ev M_X8_length [v0, v1, v2] h P ↔ Z M_X8_length k_X8_length_0 [some v0, some v1, some v2] [] h P := Iff.rfl
theorem R_X8_length : mR M_X8_length = (some .int) := rfl
theorem C_X8_character {x : Nat} {v1 v2 v3 : Value} : Z m ((pc, .invokevirtual i, len, 54, b, 0) :: code) L (v3 :: v2 :: v1 :: .ref x :: st) h P ↔ ((st.length ≤ 8 ∧ kd h x = 9) ∧ Ev M_X8_character [.ref x, v1, v2, v3] h (fun r h' => Z m code L (r.toList ++ st) h' P)) := by
  rw [Z_call (m' := M_X8_character) rfl rfl]
  exact ⟨fun q => ⟨⟨q.1.2.1, Nat.eq_of_beq_eq_true q.1.2.2⟩, q.2⟩, fun q => ⟨⟨Nat.le_add_left _ _, q.1.1, beq_of2 q.1.2⟩, q.2⟩⟩
theorem E_X8_character {v0 v1 v2 v3 : Value} : Ev M_X8_character [v0, v1, v2, v3] h P ↔ Z M_X8_character k_X8_character_0 [some v0, some v1, some v2, some v3, none] [] h P := Iff.rfl
theorem R_X8_character : mR M_X8_character = (some .int) := rfl
theorem C_X8_clock {x : Nat} {v1 v2 : Value} : Z m ((pc, .invokevirtual i, len, 55, b, 0) :: code) L (v2 :: v1 :: .ref x :: st) h P ↔ ((st.length ≤ 8 ∧ kd h x = 9) ∧ Ev M_X8_clock [.ref x, v1, v2] h (fun r h' => Z m code L (r.toList ++ st) h' P)) := by
  rw [Z_call (m' := M_X8_clock) rfl rfl]
  exact ⟨fun q => ⟨⟨q.1.2.1, Nat.eq_of_beq_eq_true q.1.2.2⟩, q.2⟩, fun q => ⟨⟨Nat.le_add_left _ _, q.1.1, beq_of2 q.1.2⟩, q.2⟩⟩
theorem E_X8_clock {v0 v1 v2 : Value} : Ev M_X8_clock [v0, v1, v2] h P ↔ Z M_X8_clock k_X8_clock_0 [some v0, some v1, some v2] [] h P := Iff.rfl
theorem R_X8_clock : mR M_X8_clock = (some .int) := rfl
theorem C_X8_knows {x : Nat} {v1 v2 v3 : Value} : Z m ((pc, .invokevirtual i, len, 56, b, 0) :: code) L (v3 :: v2 :: v1 :: .ref x :: st) h P ↔ ((st.length ≤ 8 ∧ kd h x = 9) ∧ Ev M_X8_knows [.ref x, v1, v2, v3] h (fun r h' => Z m code L (r.toList ++ st) h' P)) := by
  rw [Z_call (m' := M_X8_knows) rfl rfl]
  exact ⟨fun q => ⟨⟨q.1.2.1, Nat.eq_of_beq_eq_true q.1.2.2⟩, q.2⟩, fun q => ⟨⟨Nat.le_add_left _ _, q.1.1, beq_of2 q.1.2⟩, q.2⟩⟩
theorem E_X8_knows {v0 v1 v2 v3 : Value} : Ev M_X8_knows [v0, v1, v2, v3] h P ↔ Z M_X8_knows k_X8_knows_0 [some v0, some v1, some v2, some v3] [] h P := Iff.rfl
theorem R_X8_knows : mR M_X8_knows = (some .int) := rfl
theorem C_X8_count {x : Nat} {v1 v2 : Value} : Z m ((pc, .invokevirtual i, len, 57, b, 0) :: code) L (v2 :: v1 :: .ref x :: st) h P ↔ ((st.length ≤ 8 ∧ kd h x = 9) ∧ Ev M_X8_count [.ref x, v1, v2] h (fun r h' => Z m code L (r.toList ++ st) h' P)) := by
  rw [Z_call (m' := M_X8_count) rfl rfl]
  exact ⟨fun q => ⟨⟨q.1.2.1, Nat.eq_of_beq_eq_true q.1.2.2⟩, q.2⟩, fun q => ⟨⟨Nat.le_add_left _ _, q.1.1, beq_of2 q.1.2⟩, q.2⟩⟩
theorem E_X8_count {v0 v1 v2 : Value} : Ev M_X8_count [v0, v1, v2] h P ↔ Z M_X8_count k_X8_count_0 [some v0, some v1, some v2, none] [] h P := Iff.rfl
theorem R_X8_count : mR M_X8_count = (some .int) := rfl
theorem C_X8_message {x : Nat} {v1 v2 v3 v4 : Value} : Z m ((pc, .invokevirtual i, len, 58, b, 0) :: code) L (v4 :: v3 :: v2 :: v1 :: .ref x :: st) h P ↔ ((st.length ≤ 8 ∧ kd h x = 9) ∧ Ev M_X8_message [.ref x, v1, v2, v3, v4] h (fun r h' => Z m code L (r.toList ++ st) h' P)) := by
  rw [Z_call (m' := M_X8_message) rfl rfl]
  exact ⟨fun q => ⟨⟨q.1.2.1, Nat.eq_of_beq_eq_true q.1.2.2⟩, q.2⟩, fun q => ⟨⟨Nat.le_add_left _ _, q.1.1, beq_of2 q.1.2⟩, q.2⟩⟩
theorem E_X8_message {v0 v1 v2 v3 v4 : Value} : Ev M_X8_message [v0, v1, v2, v3, v4] h P ↔ Z M_X8_message k_X8_message_0 [some v0, some v1, some v2, some v3, some v4, none] [] h P := Iff.rfl
theorem R_X8_message : mR M_X8_message = (some .int) := rfl
theorem C_X8_way {x : Nat} {v1 v2 : Value} : Z m ((pc, .invokevirtual i, len, 59, b, 0) :: code) L (v2 :: v1 :: .ref x :: st) h P ↔ ((st.length ≤ 8 ∧ kd h x = 9) ∧ Ev M_X8_way [.ref x, v1, v2] h (fun r h' => Z m code L (r.toList ++ st) h' P)) := by
  rw [Z_call (m' := M_X8_way) rfl rfl]
  exact ⟨fun q => ⟨⟨q.1.2.1, Nat.eq_of_beq_eq_true q.1.2.2⟩, q.2⟩, fun q => ⟨⟨Nat.le_add_left _ _, q.1.1, beq_of2 q.1.2⟩, q.2⟩⟩
theorem E_X8_way {v0 v1 v2 : Value} : Ev M_X8_way [v0, v1, v2] h P ↔ Z M_X8_way k_X8_way_0 [some v0, some v1, some v2] [] h P := Iff.rfl
theorem R_X8_way : mR M_X8_way = (some .int) := rfl
theorem C_X8_isReplica {v0 : Value} : Z m ((pc, .invokestatic i, len, 60, b, 2) :: code) L (v0 :: st) h P ↔ (st.length ≤ 8 ∧ Ev M_X8_isReplica [v0] h (fun r h' => Z m code L (r.toList ++ st) h' P)) := by
  rw [Z_call (m' := M_X8_isReplica) rfl rfl]
  exact ⟨fun q => ⟨q.1.2.1, q.2⟩, fun q => ⟨⟨Nat.le_add_left _ _, q.1, rfl⟩, q.2⟩⟩
theorem E_X8_isReplica {v0 : Value} : Ev M_X8_isReplica [v0] h P ↔ Z M_X8_isReplica k_X8_isReplica_0 [some v0] [] h P := Iff.rfl
theorem R_X8_isReplica : mR M_X8_isReplica = (some .boolean) := rfl
theorem C_X8_isOfPair {v0 : Value} : Z m ((pc, .invokestatic i, len, 61, b, 2) :: code) L (v0 :: st) h P ↔ (st.length ≤ 8 ∧ Ev M_X8_isOfPair [v0] h (fun r h' => Z m code L (r.toList ++ st) h' P)) := by
  rw [Z_call (m' := M_X8_isOfPair) rfl rfl]
  exact ⟨fun q => ⟨q.1.2.1, q.2⟩, fun q => ⟨⟨Nat.le_add_left _ _, q.1, rfl⟩, q.2⟩⟩
theorem E_X8_isOfPair {v0 : Value} : Ev M_X8_isOfPair [v0] h P ↔ Z M_X8_isOfPair k_X8_isOfPair_0 [some v0] [] h P := Iff.rfl
theorem R_X8_isOfPair : mR M_X8_isOfPair = (some .boolean) := rfl
theorem C_X8_isElement {v0 : Value} : Z m ((pc, .invokestatic i, len, 62, b, 2) :: code) L (v0 :: st) h P ↔ (st.length ≤ 8 ∧ Ev M_X8_isElement [v0] h (fun r h' => Z m code L (r.toList ++ st) h' P)) := by
  rw [Z_call (m' := M_X8_isElement) rfl rfl]
  exact ⟨fun q => ⟨q.1.2.1, q.2⟩, fun q => ⟨⟨Nat.le_add_left _ _, q.1, rfl⟩, q.2⟩⟩
theorem E_X8_isElement {v0 : Value} : Ev M_X8_isElement [v0] h P ↔ Z M_X8_isElement k_X8_isElement_0 [some v0] [] h P := Iff.rfl
theorem R_X8_isElement : mR M_X8_isElement = (some .boolean) := rfl
theorem C_X8_isCharacter {v0 : Value} : Z m ((pc, .invokestatic i, len, 63, b, 2) :: code) L (v0 :: st) h P ↔ (st.length ≤ 8 ∧ Ev M_X8_isCharacter [v0] h (fun r h' => Z m code L (r.toList ++ st) h' P)) := by
  rw [Z_call (m' := M_X8_isCharacter) rfl rfl]
  exact ⟨fun q => ⟨q.1.2.1, q.2⟩, fun q => ⟨⟨Nat.le_add_left _ _, q.1, rfl⟩, q.2⟩⟩
theorem E_X8_isCharacter {v0 : Value} : Ev M_X8_isCharacter [v0] h P ↔ Z M_X8_isCharacter k_X8_isCharacter_0 [some v0] [] h P := Iff.rfl
theorem R_X8_isCharacter : mR M_X8_isCharacter = (some .boolean) := rfl
theorem C_X8_isWay {v0 v1 : Value} : Z m ((pc, .invokestatic i, len, 64, b, 2) :: code) L (v1 :: v0 :: st) h P ↔ (st.length ≤ 8 ∧ Ev M_X8_isWay [v0, v1] h (fun r h' => Z m code L (r.toList ++ st) h' P)) := by
  rw [Z_call (m' := M_X8_isWay) rfl rfl]
  exact ⟨fun q => ⟨q.1.2.1, q.2⟩, fun q => ⟨⟨Nat.le_add_left _ _, q.1, rfl⟩, q.2⟩⟩
theorem E_X8_isWay {v0 v1 : Value} : Ev M_X8_isWay [v0, v1] h P ↔ Z M_X8_isWay k_X8_isWay_0 [some v0, some v1] [] h P := Iff.rfl
theorem R_X8_isWay : mR M_X8_isWay = (some .boolean) := rfl
theorem C_X8_oneIf {v0 : Value} : Z m ((pc, .invokestatic i, len, 65, b, 2) :: code) L (v0 :: st) h P ↔ (st.length ≤ 8 ∧ Ev M_X8_oneIf [v0] h (fun r h' => Z m code L (r.toList ++ st) h' P)) := by
  rw [Z_call (m' := M_X8_oneIf) rfl rfl]
  exact ⟨fun q => ⟨q.1.2.1, q.2⟩, fun q => ⟨⟨Nat.le_add_left _ _, q.1, rfl⟩, q.2⟩⟩
theorem E_X8_oneIf {v0 : Value} : Ev M_X8_oneIf [v0] h P ↔ Z M_X8_oneIf k_X8_oneIf_0 [some v0] [] h P := Iff.rfl
theorem R_X8_oneIf : mR M_X8_oneIf = (some .int) := rfl
theorem C_X8_isOnWay {x : Nat} {v1 v2 v3 : Value} : Z m ((pc, .invokevirtual i, len, 66, b, 0) :: code) L (v3 :: v2 :: v1 :: .ref x :: st) h P ↔ ((st.length ≤ 8 ∧ kd h x = 9) ∧ Ev M_X8_isOnWay [.ref x, v1, v2, v3] h (fun r h' => Z m code L (r.toList ++ st) h' P)) := by
  rw [Z_call (m' := M_X8_isOnWay) rfl rfl]
  exact ⟨fun q => ⟨⟨q.1.2.1, Nat.eq_of_beq_eq_true q.1.2.2⟩, q.2⟩, fun q => ⟨⟨Nat.le_add_left _ _, q.1.1, beq_of2 q.1.2⟩, q.2⟩⟩
theorem E_X8_isOnWay {v0 v1 v2 v3 : Value} : Ev M_X8_isOnWay [v0, v1, v2, v3] h P ↔ Z M_X8_isOnWay k_X8_isOnWay_0 [some v0, some v1, some v2, some v3] [] h P := Iff.rfl
theorem R_X8_isOnWay : mR M_X8_isOnWay = (some .boolean) := rfl
theorem C_X8_wayBetween {x : Nat} {v1 v2 : Value} : Z m ((pc, .invokevirtual i, len, 67, b, 0) :: code) L (v2 :: v1 :: .ref x :: st) h P ↔ ((st.length ≤ 8 ∧ kd h x = 9) ∧ Ev M_X8_wayBetween [.ref x, v1, v2] h (fun r h' => Z m code L (r.toList ++ st) h' P)) := by
  rw [Z_call (m' := M_X8_wayBetween) rfl rfl]
  exact ⟨fun q => ⟨⟨q.1.2.1, Nat.eq_of_beq_eq_true q.1.2.2⟩, q.2⟩, fun q => ⟨⟨Nat.le_add_left _ _, q.1.1, beq_of2 q.1.2⟩, q.2⟩⟩
theorem E_X8_wayBetween {v0 v1 v2 : Value} : Ev M_X8_wayBetween [v0, v1, v2] h P ↔ Z M_X8_wayBetween k_X8_wayBetween_0 [some v0, some v1, some v2] [] h P := Iff.rfl
theorem R_X8_wayBetween : mR M_X8_wayBetween = (some (.object "ReplicaStore$Way")) := rfl
theorem C_X8_operate {x : Nat} {v1 v2 : Value} : Z m ((pc, .invokevirtual i, len, 68, b, 0) :: code) L (v2 :: v1 :: .ref x :: st) h P ↔ ((st.length ≤ 8 ∧ kd h x = 9) ∧ Ev M_X8_operate [.ref x, v1, v2] h (fun r h' => Z m code L (r.toList ++ st) h' P)) := by
  rw [Z_call (m' := M_X8_operate) rfl rfl]
  exact ⟨fun q => ⟨⟨q.1.2.1, Nat.eq_of_beq_eq_true q.1.2.2⟩, q.2⟩, fun q => ⟨⟨Nat.le_add_left _ _, q.1.1, beq_of2 q.1.2⟩, q.2⟩⟩
theorem E_X8_operate {v0 v1 v2 : Value} : Ev M_X8_operate [v0, v1, v2] h P ↔ Z M_X8_operate k_X8_operate_0 [some v0, some v1, some v2, none, none, none, none] [] h P := Iff.rfl
theorem R_X8_operate : mR M_X8_operate = (some .int) := rfl
theorem C_X8_sendClock {x : Nat} {v1 v2 v3 : Value} : Z m ((pc, .invokevirtual i, len, 69, b, 0) :: code) L (v3 :: v2 :: v1 :: .ref x :: st) h P ↔ ((st.length ≤ 8 ∧ kd h x = 9) ∧ Ev M_X8_sendClock [.ref x, v1, v2, v3] h (fun r h' => Z m code L (r.toList ++ st) h' P)) := by
  rw [Z_call (m' := M_X8_sendClock) rfl rfl]
  exact ⟨fun q => ⟨⟨q.1.2.1, Nat.eq_of_beq_eq_true q.1.2.2⟩, q.2⟩, fun q => ⟨⟨Nat.le_add_left _ _, q.1.1, beq_of2 q.1.2⟩, q.2⟩⟩
theorem E_X8_sendClock {v0 v1 v2 v3 : Value} : Ev M_X8_sendClock [v0, v1, v2, v3] h P ↔ Z M_X8_sendClock k_X8_sendClock_0 [some v0, some v1, some v2, some v3, none] [] h P := Iff.rfl
theorem R_X8_sendClock : mR M_X8_sendClock = (some .int) := rfl
theorem C_X8_answer {x : Nat} {v1 v2 v3 : Value} : Z m ((pc, .invokevirtual i, len, 70, b, 0) :: code) L (v3 :: v2 :: v1 :: .ref x :: st) h P ↔ ((st.length ≤ 8 ∧ kd h x = 9) ∧ Ev M_X8_answer [.ref x, v1, v2, v3] h (fun r h' => Z m code L (r.toList ++ st) h' P)) := by
  rw [Z_call (m' := M_X8_answer) rfl rfl]
  exact ⟨fun q => ⟨⟨q.1.2.1, Nat.eq_of_beq_eq_true q.1.2.2⟩, q.2⟩, fun q => ⟨⟨Nat.le_add_left _ _, q.1.1, beq_of2 q.1.2⟩, q.2⟩⟩
theorem E_X8_answer {v0 v1 v2 v3 : Value} : Ev M_X8_answer [v0, v1, v2, v3] h P ↔ Z M_X8_answer k_X8_answer_0 [some v0, some v1, some v2, some v3, none, none, none, none] [] h P := Iff.rfl
theorem R_X8_answer : mR M_X8_answer = none := rfl
theorem C_X9_init {x : Nat} : Z m ((pc, .invokespecial i, len, 71, b, 1) :: code) L (.ref x :: st) h P ↔ (st.length ≤ 8 ∧ Ev M_X9_init [.ref x] h (fun r h' => Z m code L (r.toList ++ st) h' P)) := by
  rw [Z_call (m' := M_X9_init) rfl rfl]
  exact ⟨fun q => ⟨q.1.2.1, q.2⟩, fun q => ⟨⟨Nat.le_add_left _ _, q.1, rfl⟩, q.2⟩⟩
theorem C_X9_init_n {x : Nat} : Z m ((pc, .invokespecial i, len, 71, b, 3) :: code) L (.ref x :: st) h P ↔ (st.length ≤ 8 ∧ Ev M_X9_init [.ref x] h (fun r h' => Z m code L (r.toList ++ st) h' P)) := by
  rw [Z_call (m' := M_X9_init) rfl rfl]
  exact ⟨fun q => ⟨q.1.2.1, q.2⟩, fun q => ⟨⟨Nat.le_add_left _ _, q.1, rfl⟩, q.2⟩⟩
theorem E_X9_init {v0 : Value} : Ev M_X9_init [v0] h P ↔ Z M_X9_init k_X9_init_0 [some v0] [] h P := Iff.rfl
theorem R_X9_init : mR M_X9_init = none := rfl
theorem C_X9_in {v0 v1 v2 : Value} : Z m ((pc, .invokestatic i, len, 72, b, 2) :: code) L (v2 :: v1 :: v0 :: st) h P ↔ (st.length ≤ 8 ∧ Ev M_X9_in [v0, v1, v2] h (fun r h' => Z m code L (r.toList ++ st) h' P)) := by
  rw [Z_call (m' := M_X9_in) rfl rfl]
  exact ⟨fun q => ⟨q.1.2.1, q.2⟩, fun q => ⟨⟨Nat.le_add_left _ _, q.1, rfl⟩, q.2⟩⟩
theorem E_X9_in {v0 v1 v2 : Value} : Ev M_X9_in [v0, v1, v2] h P ↔ Z M_X9_in k_X9_in_0 [some v0, some v1, some v2] [] h P := Iff.rfl
theorem R_X9_in : mR M_X9_in = (some .boolean) := rfl
theorem C_X9_isReplica {v0 : Value} : Z m ((pc, .invokestatic i, len, 73, b, 2) :: code) L (v0 :: st) h P ↔ (st.length ≤ 8 ∧ Ev M_X9_isReplica [v0] h (fun r h' => Z m code L (r.toList ++ st) h' P)) := by
  rw [Z_call (m' := M_X9_isReplica) rfl rfl]
  exact ⟨fun q => ⟨q.1.2.1, q.2⟩, fun q => ⟨⟨Nat.le_add_left _ _, q.1, rfl⟩, q.2⟩⟩
theorem E_X9_isReplica {v0 : Value} : Ev M_X9_isReplica [v0] h P ↔ Z M_X9_isReplica k_X9_isReplica_0 [some v0] [] h P := Iff.rfl
theorem R_X9_isReplica : mR M_X9_isReplica = (some .boolean) := rfl
theorem C_X9_isTwo {v0 : Value} : Z m ((pc, .invokestatic i, len, 74, b, 2) :: code) L (v0 :: st) h P ↔ (st.length ≤ 8 ∧ Ev M_X9_isTwo [v0] h (fun r h' => Z m code L (r.toList ++ st) h' P)) := by
  rw [Z_call (m' := M_X9_isTwo) rfl rfl]
  exact ⟨fun q => ⟨q.1.2.1, q.2⟩, fun q => ⟨⟨Nat.le_add_left _ _, q.1, rfl⟩, q.2⟩⟩
theorem E_X9_isTwo {v0 : Value} : Ev M_X9_isTwo [v0] h P ↔ Z M_X9_isTwo k_X9_isTwo_0 [some v0] [] h P := Iff.rfl
theorem R_X9_isTwo : mR M_X9_isTwo = (some .boolean) := rfl
theorem C_X9_ownerOf {v0 : Value} : Z m ((pc, .invokestatic i, len, 75, b, 2) :: code) L (v0 :: st) h P ↔ (st.length ≤ 8 ∧ Ev M_X9_ownerOf [v0] h (fun r h' => Z m code L (r.toList ++ st) h' P)) := by
  rw [Z_call (m' := M_X9_ownerOf) rfl rfl]
  exact ⟨fun q => ⟨q.1.2.1, q.2⟩, fun q => ⟨⟨Nat.le_add_left _ _, q.1, rfl⟩, q.2⟩⟩
theorem E_X9_ownerOf {v0 : Value} : Ev M_X9_ownerOf [v0] h P ↔ Z M_X9_ownerOf k_X9_ownerOf_0 [some v0] [] h P := Iff.rfl
theorem R_X9_ownerOf : mR M_X9_ownerOf = (some .int) := rfl
theorem C_X9_numberOf {v0 : Value} : Z m ((pc, .invokestatic i, len, 76, b, 2) :: code) L (v0 :: st) h P ↔ (st.length ≤ 8 ∧ Ev M_X9_numberOf [v0] h (fun r h' => Z m code L (r.toList ++ st) h' P)) := by
  rw [Z_call (m' := M_X9_numberOf) rfl rfl]
  exact ⟨fun q => ⟨q.1.2.1, q.2⟩, fun q => ⟨⟨Nat.le_add_left _ _, q.1, rfl⟩, q.2⟩⟩
theorem E_X9_numberOf {v0 : Value} : Ev M_X9_numberOf [v0] h P ↔ Z M_X9_numberOf k_X9_numberOf_0 [some v0] [] h P := Iff.rfl
theorem R_X9_numberOf : mR M_X9_numberOf = (some .int) := rfl
theorem C_X9_isBefore {x : Nat} {v1 v2 : Value} : Z m ((pc, .invokevirtual i, len, 77, b, 0) :: code) L (v2 :: v1 :: .ref x :: st) h P ↔ ((st.length ≤ 8 ∧ kd h x = 10) ∧ Ev M_X9_isBefore [.ref x, v1, v2] h (fun r h' => Z m code L (r.toList ++ st) h' P)) := by
  rw [Z_call (m' := M_X9_isBefore) rfl rfl]
  exact ⟨fun q => ⟨⟨q.1.2.1, Nat.eq_of_beq_eq_true q.1.2.2⟩, q.2⟩, fun q => ⟨⟨Nat.le_add_left _ _, q.1.1, beq_of2 q.1.2⟩, q.2⟩⟩
theorem E_X9_isBefore {v0 v1 v2 : Value} : Ev M_X9_isBefore [v0, v1, v2] h P ↔ Z M_X9_isBefore k_X9_isBefore_0 [some v0, some v1, some v2] [] h P := Iff.rfl
theorem R_X9_isBefore : mR M_X9_isBefore = (some .boolean) := rfl
theorem C_X9_hasGreaterMark {x : Nat} {v1 v2 : Value} : Z m ((pc, .invokevirtual i, len, 78, b, 0) :: code) L (v2 :: v1 :: .ref x :: st) h P ↔ ((st.length ≤ 8 ∧ kd h x = 10) ∧ Ev M_X9_hasGreaterMark [.ref x, v1, v2] h (fun r h' => Z m code L (r.toList ++ st) h' P)) := by
  rw [Z_call (m' := M_X9_hasGreaterMark) rfl rfl]
  exact ⟨fun q => ⟨⟨q.1.2.1, Nat.eq_of_beq_eq_true q.1.2.2⟩, q.2⟩, fun q => ⟨⟨Nat.le_add_left _ _, q.1.1, beq_of2 q.1.2⟩, q.2⟩⟩
theorem E_X9_hasGreaterMark {v0 v1 v2 : Value} : Ev M_X9_hasGreaterMark [v0, v1, v2] h P ↔ Z M_X9_hasGreaterMark k_X9_hasGreaterMark_0 [some v0, some v1, some v2] [] h P := Iff.rfl
theorem R_X9_hasGreaterMark : mR M_X9_hasGreaterMark = (some .boolean) := rfl
theorem C_X9_was {x : Nat} {v1 v2 : Value} : Z m ((pc, .invokevirtual i, len, 79, b, 0) :: code) L (v2 :: v1 :: .ref x :: st) h P ↔ ((st.length ≤ 8 ∧ kd h x = 10) ∧ Ev M_X9_was [.ref x, v1, v2] h (fun r h' => Z m code L (r.toList ++ st) h' P)) := by
  rw [Z_call (m' := M_X9_was) rfl rfl]
  exact ⟨fun q => ⟨⟨q.1.2.1, Nat.eq_of_beq_eq_true q.1.2.2⟩, q.2⟩, fun q => ⟨⟨Nat.le_add_left _ _, q.1.1, beq_of2 q.1.2⟩, q.2⟩⟩
theorem E_X9_was {v0 v1 v2 : Value} : Ev M_X9_was [v0, v1, v2] h P ↔ Z M_X9_was k_X9_was_0 [some v0, some v1, some v2] [] h P := Iff.rfl
theorem R_X9_was : mR M_X9_was = (some .boolean) := rfl
theorem C_X9_doOperation {x : Nat} {v1 v2 : Value} : Z m ((pc, .invokevirtual i, len, 80, b, 0) :: code) L (v2 :: v1 :: .ref x :: st) h P ↔ ((st.length ≤ 8 ∧ kd h x = 10) ∧ Ev M_X9_doOperation [.ref x, v1, v2] h (fun r h' => Z m code L (r.toList ++ st) h' P)) := by
  rw [Z_call (m' := M_X9_doOperation) rfl rfl]
  exact ⟨fun q => ⟨⟨q.1.2.1, Nat.eq_of_beq_eq_true q.1.2.2⟩, q.2⟩, fun q => ⟨⟨Nat.le_add_left _ _, q.1.1, beq_of2 q.1.2⟩, q.2⟩⟩
theorem E_X9_doOperation {v0 v1 v2 : Value} : Ev M_X9_doOperation [v0, v1, v2] h P ↔ Z M_X9_doOperation k_X9_doOperation_0 [some v0, some v1, some v2] [] h P := Iff.rfl
theorem R_X9_doOperation : mR M_X9_doOperation = none := rfl
theorem C_X9_newOperation {x : Nat} {v1 v2 v3 v4 v5 : Value} : Z m ((pc, .invokevirtual i, len, 81, b, 0) :: code) L (v5 :: v4 :: v3 :: v2 :: v1 :: .ref x :: st) h P ↔ ((st.length ≤ 8 ∧ kd h x = 10) ∧ Ev M_X9_newOperation [.ref x, v1, v2, v3, v4, v5] h (fun r h' => Z m code L (r.toList ++ st) h' P)) := by
  rw [Z_call (m' := M_X9_newOperation) rfl rfl]
  exact ⟨fun q => ⟨⟨q.1.2.1, Nat.eq_of_beq_eq_true q.1.2.2⟩, q.2⟩, fun q => ⟨⟨Nat.le_add_left _ _, q.1.1, beq_of2 q.1.2⟩, q.2⟩⟩
theorem E_X9_newOperation {v0 v1 v2 v3 v4 v5 : Value} : Ev M_X9_newOperation [v0, v1, v2, v3, v4, v5] h P ↔ Z M_X9_newOperation k_X9_newOperation_0 [some v0, some v1, some v2, some v3, some v4, some v5, none, none] [] h P := Iff.rfl
theorem R_X9_newOperation : mR M_X9_newOperation = (some .int) := rfl
theorem C_X9_add {x : Nat} {v1 v2 v3 : Value} : Z m ((pc, .invokevirtual i, len, 82, b, 0) :: code) L (v3 :: v2 :: v1 :: .ref x :: st) h P ↔ ((st.length ≤ 8 ∧ kd h x = 10) ∧ Ev M_X9_add [.ref x, v1, v2, v3] h (fun r h' => Z m code L (r.toList ++ st) h' P)) := by
  rw [Z_call (m' := M_X9_add) rfl rfl]
  exact ⟨fun q => ⟨⟨q.1.2.1, Nat.eq_of_beq_eq_true q.1.2.2⟩, q.2⟩, fun q => ⟨⟨Nat.le_add_left _ _, q.1.1, beq_of2 q.1.2⟩, q.2⟩⟩
theorem E_X9_add {v0 v1 v2 v3 : Value} : Ev M_X9_add [v0, v1, v2, v3] h P ↔ Z M_X9_add k_X9_add_0 [some v0, some v1, some v2, some v3] [] h P := Iff.rfl
theorem R_X9_add : mR M_X9_add = (some .int) := rfl
theorem C_X9_isElement {v0 v1 v2 : Value} : Z m ((pc, .invokestatic i, len, 83, b, 2) :: code) L (v2 :: v1 :: v0 :: st) h P ↔ (st.length ≤ 8 ∧ Ev M_X9_isElement [v0, v1, v2] h (fun r h' => Z m code L (r.toList ++ st) h' P)) := by
  rw [Z_call (m' := M_X9_isElement) rfl rfl]
  exact ⟨fun q => ⟨q.1.2.1, q.2⟩, fun q => ⟨⟨Nat.le_add_left _ _, q.1, rfl⟩, q.2⟩⟩
theorem E_X9_isElement {v0 v1 v2 : Value} : Ev M_X9_isElement [v0, v1, v2] h P ↔ Z M_X9_isElement k_X9_isElement_0 [some v0, some v1, some v2] [] h P := Iff.rfl
theorem R_X9_isElement : mR M_X9_isElement = (some .boolean) := rfl
theorem C_X9_put {x : Nat} {v1 v2 v3 : Value} : Z m ((pc, .invokevirtual i, len, 84, b, 0) :: code) L (v3 :: v2 :: v1 :: .ref x :: st) h P ↔ ((st.length ≤ 8 ∧ kd h x = 10) ∧ Ev M_X9_put [.ref x, v1, v2, v3] h (fun r h' => Z m code L (r.toList ++ st) h' P)) := by
  rw [Z_call (m' := M_X9_put) rfl rfl]
  exact ⟨fun q => ⟨⟨q.1.2.1, Nat.eq_of_beq_eq_true q.1.2.2⟩, q.2⟩, fun q => ⟨⟨Nat.le_add_left _ _, q.1.1, beq_of2 q.1.2⟩, q.2⟩⟩
theorem E_X9_put {v0 v1 v2 v3 : Value} : Ev M_X9_put [v0, v1, v2, v3] h P ↔ Z M_X9_put k_X9_put_0 [some v0, some v1, some v2, some v3] [] h P := Iff.rfl
theorem R_X9_put : mR M_X9_put = (some .int) := rfl
theorem C_X9_take {x : Nat} {v1 v2 v3 : Value} : Z m ((pc, .invokevirtual i, len, 85, b, 0) :: code) L (v3 :: v2 :: v1 :: .ref x :: st) h P ↔ ((st.length ≤ 8 ∧ kd h x = 10) ∧ Ev M_X9_take [.ref x, v1, v2, v3] h (fun r h' => Z m code L (r.toList ++ st) h' P)) := by
  rw [Z_call (m' := M_X9_take) rfl rfl]
  exact ⟨fun q => ⟨⟨q.1.2.1, Nat.eq_of_beq_eq_true q.1.2.2⟩, q.2⟩, fun q => ⟨⟨Nat.le_add_left _ _, q.1.1, beq_of2 q.1.2⟩, q.2⟩⟩
theorem E_X9_take {v0 v1 v2 v3 : Value} : Ev M_X9_take [v0, v1, v2, v3] h P ↔ Z M_X9_take k_X9_take_0 [some v0, some v1, some v2, some v3] [] h P := Iff.rfl
theorem R_X9_take : mR M_X9_take = (some .int) := rfl
theorem C_X9_write {x : Nat} {v1 v2 v3 : Value} : Z m ((pc, .invokevirtual i, len, 86, b, 0) :: code) L (v3 :: v2 :: v1 :: .ref x :: st) h P ↔ ((st.length ≤ 8 ∧ kd h x = 10) ∧ Ev M_X9_write [.ref x, v1, v2, v3] h (fun r h' => Z m code L (r.toList ++ st) h' P)) := by
  rw [Z_call (m' := M_X9_write) rfl rfl]
  exact ⟨fun q => ⟨⟨q.1.2.1, Nat.eq_of_beq_eq_true q.1.2.2⟩, q.2⟩, fun q => ⟨⟨Nat.le_add_left _ _, q.1.1, beq_of2 q.1.2⟩, q.2⟩⟩
theorem E_X9_write {v0 v1 v2 v3 : Value} : Ev M_X9_write [v0, v1, v2, v3] h P ↔ Z M_X9_write k_X9_write_0 [some v0, some v1, some v2, some v3] [] h P := Iff.rfl
theorem R_X9_write : mR M_X9_write = (some .int) := rfl
theorem C_X9_insert {x : Nat} {v1 v2 v3 v4 : Value} : Z m ((pc, .invokevirtual i, len, 87, b, 0) :: code) L (v4 :: v3 :: v2 :: v1 :: .ref x :: st) h P ↔ ((st.length ≤ 8 ∧ kd h x = 10) ∧ Ev M_X9_insert [.ref x, v1, v2, v3, v4] h (fun r h' => Z m code L (r.toList ++ st) h' P)) := by
  rw [Z_call (m' := M_X9_insert) rfl rfl]
  exact ⟨fun q => ⟨⟨q.1.2.1, Nat.eq_of_beq_eq_true q.1.2.2⟩, q.2⟩, fun q => ⟨⟨Nat.le_add_left _ _, q.1.1, beq_of2 q.1.2⟩, q.2⟩⟩
theorem E_X9_insert {v0 v1 v2 v3 v4 : Value} : Ev M_X9_insert [v0, v1, v2, v3, v4] h P ↔ Z M_X9_insert k_X9_insert_0 [some v0, some v1, some v2, some v3, some v4] [] h P := Iff.rfl
theorem R_X9_insert : mR M_X9_insert = (some .int) := rfl
theorem C_X9_remove {x : Nat} {v1 v2 v3 : Value} : Z m ((pc, .invokevirtual i, len, 88, b, 0) :: code) L (v3 :: v2 :: v1 :: .ref x :: st) h P ↔ ((st.length ≤ 8 ∧ kd h x = 10) ∧ Ev M_X9_remove [.ref x, v1, v2, v3] h (fun r h' => Z m code L (r.toList ++ st) h' P)) := by
  rw [Z_call (m' := M_X9_remove) rfl rfl]
  exact ⟨fun q => ⟨⟨q.1.2.1, Nat.eq_of_beq_eq_true q.1.2.2⟩, q.2⟩, fun q => ⟨⟨Nat.le_add_left _ _, q.1.1, beq_of2 q.1.2⟩, q.2⟩⟩
theorem E_X9_remove {v0 v1 v2 v3 : Value} : Ev M_X9_remove [v0, v1, v2, v3] h P ↔ Z M_X9_remove k_X9_remove_0 [some v0, some v1, some v2, some v3] [] h P := Iff.rfl
theorem R_X9_remove : mR M_X9_remove = (some .int) := rfl
theorem C_X9_counter {x : Nat} {v1 v2 : Value} : Z m ((pc, .invokevirtual i, len, 89, b, 0) :: code) L (v2 :: v1 :: .ref x :: st) h P ↔ ((st.length ≤ 8 ∧ kd h x = 10) ∧ Ev M_X9_counter [.ref x, v1, v2] h (fun r h' => Z m code L (r.toList ++ st) h' P)) := by
  rw [Z_call (m' := M_X9_counter) rfl rfl]
  exact ⟨fun q => ⟨⟨q.1.2.1, Nat.eq_of_beq_eq_true q.1.2.2⟩, q.2⟩, fun q => ⟨⟨Nat.le_add_left _ _, q.1.1, beq_of2 q.1.2⟩, q.2⟩⟩
theorem E_X9_counter {v0 v1 v2 : Value} : Ev M_X9_counter [v0, v1, v2] h P ↔ Z M_X9_counter k_X9_counter_0 [some v0, some v1, some v2, none, none] [] h P := Iff.rfl
theorem R_X9_counter : mR M_X9_counter = (some .int) := rfl
theorem C_X9_isTaken {x : Nat} {v1 v2 : Value} : Z m ((pc, .invokevirtual i, len, 90, b, 0) :: code) L (v2 :: v1 :: .ref x :: st) h P ↔ ((st.length ≤ 8 ∧ kd h x = 10) ∧ Ev M_X9_isTaken [.ref x, v1, v2] h (fun r h' => Z m code L (r.toList ++ st) h' P)) := by
  rw [Z_call (m' := M_X9_isTaken) rfl rfl]
  exact ⟨fun q => ⟨⟨q.1.2.1, Nat.eq_of_beq_eq_true q.1.2.2⟩, q.2⟩, fun q => ⟨⟨Nat.le_add_left _ _, q.1.1, beq_of2 q.1.2⟩, q.2⟩⟩
theorem E_X9_isTaken {v0 v1 v2 : Value} : Ev M_X9_isTaken [v0, v1, v2] h P ↔ Z M_X9_isTaken k_X9_isTaken_0 [some v0, some v1, some v2, none, none] [] h P := Iff.rfl
theorem R_X9_isTaken : mR M_X9_isTaken = (some .boolean) := rfl
theorem C_X9_has {x : Nat} {v1 v2 v3 : Value} : Z m ((pc, .invokevirtual i, len, 91, b, 0) :: code) L (v3 :: v2 :: v1 :: .ref x :: st) h P ↔ ((st.length ≤ 8 ∧ kd h x = 10) ∧ Ev M_X9_has [.ref x, v1, v2, v3] h (fun r h' => Z m code L (r.toList ++ st) h' P)) := by
  rw [Z_call (m' := M_X9_has) rfl rfl]
  exact ⟨fun q => ⟨⟨q.1.2.1, Nat.eq_of_beq_eq_true q.1.2.2⟩, q.2⟩, fun q => ⟨⟨Nat.le_add_left _ _, q.1.1, beq_of2 q.1.2⟩, q.2⟩⟩
theorem E_X9_has {v0 v1 v2 v3 : Value} : Ev M_X9_has [v0, v1, v2, v3] h P ↔ Z M_X9_has k_X9_has_0 [some v0, some v1, some v2, some v3, none, none] [] h P := Iff.rfl
theorem R_X9_has : mR M_X9_has = (some .int) := rfl
theorem C_X9_size {x : Nat} {v1 v2 : Value} : Z m ((pc, .invokevirtual i, len, 92, b, 0) :: code) L (v2 :: v1 :: .ref x :: st) h P ↔ ((st.length ≤ 8 ∧ kd h x = 10) ∧ Ev M_X9_size [.ref x, v1, v2] h (fun r h' => Z m code L (r.toList ++ st) h' P)) := by
  rw [Z_call (m' := M_X9_size) rfl rfl]
  exact ⟨fun q => ⟨⟨q.1.2.1, Nat.eq_of_beq_eq_true q.1.2.2⟩, q.2⟩, fun q => ⟨⟨Nat.le_add_left _ _, q.1.1, beq_of2 q.1.2⟩, q.2⟩⟩
theorem E_X9_size {v0 v1 v2 : Value} : Ev M_X9_size [v0, v1, v2] h P ↔ Z M_X9_size k_X9_size_0 [some v0, some v1, some v2, none, none] [] h P := Iff.rfl
theorem R_X9_size : mR M_X9_size = (some .int) := rfl
theorem C_X9_register {x : Nat} {v1 v2 : Value} : Z m ((pc, .invokevirtual i, len, 93, b, 0) :: code) L (v2 :: v1 :: .ref x :: st) h P ↔ ((st.length ≤ 8 ∧ kd h x = 10) ∧ Ev M_X9_register [.ref x, v1, v2] h (fun r h' => Z m code L (r.toList ++ st) h' P)) := by
  rw [Z_call (m' := M_X9_register) rfl rfl]
  exact ⟨fun q => ⟨⟨q.1.2.1, Nat.eq_of_beq_eq_true q.1.2.2⟩, q.2⟩, fun q => ⟨⟨Nat.le_add_left _ _, q.1.1, beq_of2 q.1.2⟩, q.2⟩⟩
theorem E_X9_register {v0 v1 v2 : Value} : Ev M_X9_register [v0, v1, v2] h P ↔ Z M_X9_register k_X9_register_0 [some v0, some v1, some v2, none, none, none] [] h P := Iff.rfl
theorem R_X9_register : mR M_X9_register = (some .int) := rfl
theorem C_X9_isRemoved {x : Nat} {v1 v2 : Value} : Z m ((pc, .invokevirtual i, len, 94, b, 0) :: code) L (v2 :: v1 :: .ref x :: st) h P ↔ ((st.length ≤ 8 ∧ kd h x = 10) ∧ Ev M_X9_isRemoved [.ref x, v1, v2] h (fun r h' => Z m code L (r.toList ++ st) h' P)) := by
  rw [Z_call (m' := M_X9_isRemoved) rfl rfl]
  exact ⟨fun q => ⟨⟨q.1.2.1, Nat.eq_of_beq_eq_true q.1.2.2⟩, q.2⟩, fun q => ⟨⟨Nat.le_add_left _ _, q.1.1, beq_of2 q.1.2⟩, q.2⟩⟩
theorem E_X9_isRemoved {v0 v1 v2 : Value} : Ev M_X9_isRemoved [v0, v1, v2] h P ↔ Z M_X9_isRemoved k_X9_isRemoved_0 [some v0, some v1, some v2, none] [] h P := Iff.rfl
theorem R_X9_isRemoved : mR M_X9_isRemoved = (some .boolean) := rfl
theorem C_X9_pileUp {x : Nat} {v1 v2 v3 v4 : Value} : Z m ((pc, .invokevirtual i, len, 95, b, 0) :: code) L (v4 :: v3 :: v2 :: v1 :: .ref x :: st) h P ↔ ((st.length ≤ 8 ∧ kd h x = 10) ∧ Ev M_X9_pileUp [.ref x, v1, v2, v3, v4] h (fun r h' => Z m code L (r.toList ++ st) h' P)) := by
  rw [Z_call (m' := M_X9_pileUp) rfl rfl]
  exact ⟨fun q => ⟨⟨q.1.2.1, Nat.eq_of_beq_eq_true q.1.2.2⟩, q.2⟩, fun q => ⟨⟨Nat.le_add_left _ _, q.1.1, beq_of2 q.1.2⟩, q.2⟩⟩
theorem E_X9_pileUp {v0 v1 v2 v3 v4 : Value} : Ev M_X9_pileUp [v0, v1, v2, v3, v4] h P ↔ Z M_X9_pileUp k_X9_pileUp_0 [some v0, some v1, some v2, some v3, some v4, none, none, none] [] h P := Iff.rfl
theorem R_X9_pileUp : mR M_X9_pileUp = (some .int) := rfl
theorem C_X9_lay {x : Nat} {v1 v2 v3 : Value} : Z m ((pc, .invokevirtual i, len, 96, b, 0) :: code) L (v3 :: v2 :: v1 :: .ref x :: st) h P ↔ ((st.length ≤ 8 ∧ kd h x = 10) ∧ Ev M_X9_lay [.ref x, v1, v2, v3] h (fun r h' => Z m code L (r.toList ++ st) h' P)) := by
  rw [Z_call (m' := M_X9_lay) rfl rfl]
  exact ⟨fun q => ⟨⟨q.1.2.1, Nat.eq_of_beq_eq_true q.1.2.2⟩, q.2⟩, fun q => ⟨⟨Nat.le_add_left _ _, q.1.1, beq_of2 q.1.2⟩, q.2⟩⟩
theorem E_X9_lay {v0 v1 v2 v3 : Value} : Ev M_X9_lay [v0, v1, v2, v3] h P ↔ Z M_X9_lay k_X9_lay_0 [some v0, some v1, some v2, some v3, none, none] [] h P := Iff.rfl
theorem R_X9_lay : mR M_X9_lay = none := rfl
theorem C_X9_length {x : Nat} {v1 v2 : Value} : Z m ((pc, .invokevirtual i, len, 97, b, 0) :: code) L (v2 :: v1 :: .ref x :: st) h P ↔ ((st.length ≤ 8 ∧ kd h x = 10) ∧ Ev M_X9_length [.ref x, v1, v2] h (fun r h' => Z m code L (r.toList ++ st) h' P)) := by
  rw [Z_call (m' := M_X9_length) rfl rfl]
  exact ⟨fun q => ⟨⟨q.1.2.1, Nat.eq_of_beq_eq_true q.1.2.2⟩, q.2⟩, fun q => ⟨⟨Nat.le_add_left _ _, q.1.1, beq_of2 q.1.2⟩, q.2⟩⟩
theorem E_X9_length {v0 v1 v2 : Value} : Ev M_X9_length [v0, v1, v2] h P ↔ Z M_X9_length k_X9_length_0 [some v0, some v1, some v2] [] h P := Iff.rfl
theorem R_X9_length : mR M_X9_length = (some .int) := rfl
theorem C_X9_character {x : Nat} {v1 v2 v3 : Value} : Z m ((pc, .invokevirtual i, len, 98, b, 0) :: code) L (v3 :: v2 :: v1 :: .ref x :: st) h P ↔ ((st.length ≤ 8 ∧ kd h x = 10) ∧ Ev M_X9_character [.ref x, v1, v2, v3] h (fun r h' => Z m code L (r.toList ++ st) h' P)) := by
  rw [Z_call (m' := M_X9_character) rfl rfl]
  exact ⟨fun q => ⟨⟨q.1.2.1, Nat.eq_of_beq_eq_true q.1.2.2⟩, q.2⟩, fun q => ⟨⟨Nat.le_add_left _ _, q.1.1, beq_of2 q.1.2⟩, q.2⟩⟩
theorem E_X9_character {v0 v1 v2 v3 : Value} : Ev M_X9_character [v0, v1, v2, v3] h P ↔ Z M_X9_character k_X9_character_0 [some v0, some v1, some v2, some v3] [] h P := Iff.rfl
theorem R_X9_character : mR M_X9_character = (some .int) := rfl
theorem C_X9_isWay {v0 v1 : Value} : Z m ((pc, .invokestatic i, len, 99, b, 2) :: code) L (v1 :: v0 :: st) h P ↔ (st.length ≤ 8 ∧ Ev M_X9_isWay [v0, v1] h (fun r h' => Z m code L (r.toList ++ st) h' P)) := by
  rw [Z_call (m' := M_X9_isWay) rfl rfl]
  exact ⟨fun q => ⟨q.1.2.1, q.2⟩, fun q => ⟨⟨Nat.le_add_left _ _, q.1, rfl⟩, q.2⟩⟩
theorem E_X9_isWay {v0 v1 : Value} : Ev M_X9_isWay [v0, v1] h P ↔ Z M_X9_isWay k_X9_isWay_0 [some v0, some v1] [] h P := Iff.rfl
theorem R_X9_isWay : mR M_X9_isWay = (some .boolean) := rfl
theorem C_X9_isMessage {x : Nat} {v1 v2 v3 : Value} : Z m ((pc, .invokevirtual i, len, 100, b, 0) :: code) L (v3 :: v2 :: v1 :: .ref x :: st) h P ↔ ((st.length ≤ 8 ∧ kd h x = 10) ∧ Ev M_X9_isMessage [.ref x, v1, v2, v3] h (fun r h' => Z m code L (r.toList ++ st) h' P)) := by
  rw [Z_call (m' := M_X9_isMessage) rfl rfl]
  exact ⟨fun q => ⟨⟨q.1.2.1, Nat.eq_of_beq_eq_true q.1.2.2⟩, q.2⟩, fun q => ⟨⟨Nat.le_add_left _ _, q.1.1, beq_of2 q.1.2⟩, q.2⟩⟩
theorem E_X9_isMessage {v0 v1 v2 v3 : Value} : Ev M_X9_isMessage [v0, v1, v2, v3] h P ↔ Z M_X9_isMessage k_X9_isMessage_0 [some v0, some v1, some v2, some v3] [] h P := Iff.rfl
theorem R_X9_isMessage : mR M_X9_isMessage = (some .boolean) := rfl
theorem C_X9_send {x : Nat} {v1 v2 v3 v4 v5 v6 : Value} : Z m ((pc, .invokevirtual i, len, 101, b, 0) :: code) L (v6 :: v5 :: v4 :: v3 :: v2 :: v1 :: .ref x :: st) h P ↔ ((st.length ≤ 8 ∧ kd h x = 10) ∧ Ev M_X9_send [.ref x, v1, v2, v3, v4, v5, v6] h (fun r h' => Z m code L (r.toList ++ st) h' P)) := by
  rw [Z_call (m' := M_X9_send) rfl rfl]
  exact ⟨fun q => ⟨⟨q.1.2.1, Nat.eq_of_beq_eq_true q.1.2.2⟩, q.2⟩, fun q => ⟨⟨Nat.le_add_left _ _, q.1.1, beq_of2 q.1.2⟩, q.2⟩⟩
theorem E_X9_send {v0 v1 v2 v3 v4 v5 v6 : Value} : Ev M_X9_send [v0, v1, v2, v3, v4, v5, v6] h P ↔ Z M_X9_send k_X9_send_0 [some v0, some v1, some v2, some v3, some v4, some v5, some v6, none, none, none] [] h P := Iff.rfl
theorem R_X9_send : mR M_X9_send = none := rfl
theorem C_X9_sendOperation {x : Nat} {v1 v2 v3 : Value} : Z m ((pc, .invokevirtual i, len, 102, b, 0) :: code) L (v3 :: v2 :: v1 :: .ref x :: st) h P ↔ ((st.length ≤ 8 ∧ kd h x = 10) ∧ Ev M_X9_sendOperation [.ref x, v1, v2, v3] h (fun r h' => Z m code L (r.toList ++ st) h' P)) := by
  rw [Z_call (m' := M_X9_sendOperation) rfl rfl]
  exact ⟨fun q => ⟨⟨q.1.2.1, Nat.eq_of_beq_eq_true q.1.2.2⟩, q.2⟩, fun q => ⟨⟨Nat.le_add_left _ _, q.1.1, beq_of2 q.1.2⟩, q.2⟩⟩
theorem E_X9_sendOperation {v0 v1 v2 v3 : Value} : Ev M_X9_sendOperation [v0, v1, v2, v3] h P ↔ Z M_X9_sendOperation k_X9_sendOperation_0 [some v0, some v1, some v2, some v3] [] h P := Iff.rfl
theorem R_X9_sendOperation : mR M_X9_sendOperation = none := rfl
theorem C_X9_moveMessage {x : Nat} {v1 v2 : Value} : Z m ((pc, .invokevirtual i, len, 103, b, 0) :: code) L (v2 :: v1 :: .ref x :: st) h P ↔ ((st.length ≤ 8 ∧ kd h x = 10) ∧ Ev M_X9_moveMessage [.ref x, v1, v2] h (fun r h' => Z m code L (r.toList ++ st) h' P)) := by
  rw [Z_call (m' := M_X9_moveMessage) rfl rfl]
  exact ⟨fun q => ⟨⟨q.1.2.1, Nat.eq_of_beq_eq_true q.1.2.2⟩, q.2⟩, fun q => ⟨⟨Nat.le_add_left _ _, q.1.1, beq_of2 q.1.2⟩, q.2⟩⟩
theorem E_X9_moveMessage {v0 v1 v2 : Value} : Ev M_X9_moveMessage [v0, v1, v2] h P ↔ Z M_X9_moveMessage k_X9_moveMessage_0 [some v0, some v1, some v2, none] [] h P := Iff.rfl
theorem R_X9_moveMessage : mR M_X9_moveMessage = none := rfl
theorem C_X9_drop {x : Nat} {v1 v2 : Value} : Z m ((pc, .invokevirtual i, len, 104, b, 0) :: code) L (v2 :: v1 :: .ref x :: st) h P ↔ ((st.length ≤ 8 ∧ kd h x = 10) ∧ Ev M_X9_drop [.ref x, v1, v2] h (fun r h' => Z m code L (r.toList ++ st) h' P)) := by
  rw [Z_call (m' := M_X9_drop) rfl rfl]
  exact ⟨fun q => ⟨⟨q.1.2.1, Nat.eq_of_beq_eq_true q.1.2.2⟩, q.2⟩, fun q => ⟨⟨Nat.le_add_left _ _, q.1.1, beq_of2 q.1.2⟩, q.2⟩⟩
theorem E_X9_drop {v0 v1 v2 : Value} : Ev M_X9_drop [v0, v1, v2] h P ↔ Z M_X9_drop k_X9_drop_0 [some v0, some v1, some v2, none] [] h P := Iff.rfl
theorem R_X9_drop : mR M_X9_drop = none := rfl
theorem C_X9_knowsOf {x : Nat} {v1 v2 v3 : Value} : Z m ((pc, .invokevirtual i, len, 105, b, 0) :: code) L (v3 :: v2 :: v1 :: .ref x :: st) h P ↔ ((st.length ≤ 8 ∧ kd h x = 10) ∧ Ev M_X9_knowsOf [.ref x, v1, v2, v3] h (fun r h' => Z m code L (r.toList ++ st) h' P)) := by
  rw [Z_call (m' := M_X9_knowsOf) rfl rfl]
  exact ⟨fun q => ⟨⟨q.1.2.1, Nat.eq_of_beq_eq_true q.1.2.2⟩, q.2⟩, fun q => ⟨⟨Nat.le_add_left _ _, q.1.1, beq_of2 q.1.2⟩, q.2⟩⟩
theorem E_X9_knowsOf {v0 v1 v2 v3 : Value} : Ev M_X9_knowsOf [v0, v1, v2, v3] h P ↔ Z M_X9_knowsOf k_X9_knowsOf_0 [some v0, some v1, some v2, some v3] [] h P := Iff.rfl
theorem R_X9_knowsOf : mR M_X9_knowsOf = (some .int) := rfl
theorem C_X9_isLogged {x : Nat} {v1 v2 : Value} : Z m ((pc, .invokevirtual i, len, 106, b, 0) :: code) L (v2 :: v1 :: .ref x :: st) h P ↔ ((st.length ≤ 8 ∧ kd h x = 10) ∧ Ev M_X9_isLogged [.ref x, v1, v2] h (fun r h' => Z m code L (r.toList ++ st) h' P)) := by
  rw [Z_call (m' := M_X9_isLogged) rfl rfl]
  exact ⟨fun q => ⟨⟨q.1.2.1, Nat.eq_of_beq_eq_true q.1.2.2⟩, q.2⟩, fun q => ⟨⟨Nat.le_add_left _ _, q.1.1, beq_of2 q.1.2⟩, q.2⟩⟩
theorem E_X9_isLogged {v0 v1 v2 : Value} : Ev M_X9_isLogged [v0, v1, v2] h P ↔ Z M_X9_isLogged k_X9_isLogged_0 [some v0, some v1, some v2, none] [] h P := Iff.rfl
theorem R_X9_isLogged : mR M_X9_isLogged = (some .boolean) := rfl
theorem C_X9_isReady {x : Nat} {v1 v2 : Value} : Z m ((pc, .invokevirtual i, len, 107, b, 0) :: code) L (v2 :: v1 :: .ref x :: st) h P ↔ ((st.length ≤ 8 ∧ kd h x = 10) ∧ Ev M_X9_isReady [.ref x, v1, v2] h (fun r h' => Z m code L (r.toList ++ st) h' P)) := by
  rw [Z_call (m' := M_X9_isReady) rfl rfl]
  exact ⟨fun q => ⟨⟨q.1.2.1, Nat.eq_of_beq_eq_true q.1.2.2⟩, q.2⟩, fun q => ⟨⟨Nat.le_add_left _ _, q.1.1, beq_of2 q.1.2⟩, q.2⟩⟩
theorem E_X9_isReady {v0 v1 v2 : Value} : Ev M_X9_isReady [v0, v1, v2] h P ↔ Z M_X9_isReady k_X9_isReady_0 [some v0, some v1, some v2, none, none, none] [] h P := Iff.rfl
theorem R_X9_isReady : mR M_X9_isReady = (some .boolean) := rfl
theorem C_X9_firstReady {x : Nat} {v1 : Value} : Z m ((pc, .invokevirtual i, len, 108, b, 0) :: code) L (v1 :: .ref x :: st) h P ↔ ((st.length ≤ 8 ∧ kd h x = 10) ∧ Ev M_X9_firstReady [.ref x, v1] h (fun r h' => Z m code L (r.toList ++ st) h' P)) := by
  rw [Z_call (m' := M_X9_firstReady) rfl rfl]
  exact ⟨fun q => ⟨⟨q.1.2.1, Nat.eq_of_beq_eq_true q.1.2.2⟩, q.2⟩, fun q => ⟨⟨Nat.le_add_left _ _, q.1.1, beq_of2 q.1.2⟩, q.2⟩⟩
theorem E_X9_firstReady {v0 v1 : Value} : Ev M_X9_firstReady [v0, v1] h P ↔ Z M_X9_firstReady k_X9_firstReady_0 [some v0, some v1, none] [] h P := Iff.rfl
theorem R_X9_firstReady : mR M_X9_firstReady = (some .int) := rfl
theorem C_X9_isWaiting {x : Nat} {v1 v2 : Value} : Z m ((pc, .invokevirtual i, len, 109, b, 0) :: code) L (v2 :: v1 :: .ref x :: st) h P ↔ ((st.length ≤ 8 ∧ kd h x = 10) ∧ Ev M_X9_isWaiting [.ref x, v1, v2] h (fun r h' => Z m code L (r.toList ++ st) h' P)) := by
  rw [Z_call (m' := M_X9_isWaiting) rfl rfl]
  exact ⟨fun q => ⟨⟨q.1.2.1, Nat.eq_of_beq_eq_true q.1.2.2⟩, q.2⟩, fun q => ⟨⟨Nat.le_add_left _ _, q.1.1, beq_of2 q.1.2⟩, q.2⟩⟩
theorem E_X9_isWaiting {v0 v1 v2 : Value} : Ev M_X9_isWaiting [v0, v1, v2] h P ↔ Z M_X9_isWaiting k_X9_isWaiting_0 [some v0, some v1, some v2, none] [] h P := Iff.rfl
theorem R_X9_isWaiting : mR M_X9_isWaiting = (some .boolean) := rfl
theorem C_X9_take_ {x : Nat} {v1 v2 : Value} : Z m ((pc, .invokevirtual i, len, 110, b, 0) :: code) L (v2 :: v1 :: .ref x :: st) h P ↔ ((st.length ≤ 8 ∧ kd h x = 10) ∧ Ev M_X9_take_ [.ref x, v1, v2] h (fun r h' => Z m code L (r.toList ++ st) h' P)) := by
  rw [Z_call (m' := M_X9_take_) rfl rfl]
  exact ⟨fun q => ⟨⟨q.1.2.1, Nat.eq_of_beq_eq_true q.1.2.2⟩, q.2⟩, fun q => ⟨⟨Nat.le_add_left _ _, q.1.1, beq_of2 q.1.2⟩, q.2⟩⟩
theorem E_X9_take_ {v0 v1 v2 : Value} : Ev M_X9_take_ [v0, v1, v2] h P ↔ Z M_X9_take_ k_X9_take__0 [some v0, some v1, some v2, none, none, none, none] [] h P := Iff.rfl
theorem R_X9_take_ : mR M_X9_take_ = (some .int) := rfl
theorem C_X9_answer {x : Nat} {v1 v2 : Value} : Z m ((pc, .invokevirtual i, len, 111, b, 0) :: code) L (v2 :: v1 :: .ref x :: st) h P ↔ ((st.length ≤ 8 ∧ kd h x = 10) ∧ Ev M_X9_answer [.ref x, v1, v2] h (fun r h' => Z m code L (r.toList ++ st) h' P)) := by
  rw [Z_call (m' := M_X9_answer) rfl rfl]
  exact ⟨fun q => ⟨⟨q.1.2.1, Nat.eq_of_beq_eq_true q.1.2.2⟩, q.2⟩, fun q => ⟨⟨Nat.le_add_left _ _, q.1.1, beq_of2 q.1.2⟩, q.2⟩⟩
theorem E_X9_answer {v0 v1 v2 : Value} : Ev M_X9_answer [v0, v1, v2] h P ↔ Z M_X9_answer k_X9_answer_0 [some v0, some v1, some v2, none, none] [] h P := Iff.rfl
theorem R_X9_answer : mR M_X9_answer = none := rfl
theorem C_X9_deliver {x : Nat} {v1 v2 v3 : Value} : Z m ((pc, .invokevirtual i, len, 112, b, 0) :: code) L (v3 :: v2 :: v1 :: .ref x :: st) h P ↔ ((st.length ≤ 8 ∧ kd h x = 10) ∧ Ev M_X9_deliver [.ref x, v1, v2, v3] h (fun r h' => Z m code L (r.toList ++ st) h' P)) := by
  rw [Z_call (m' := M_X9_deliver) rfl rfl]
  exact ⟨fun q => ⟨⟨q.1.2.1, Nat.eq_of_beq_eq_true q.1.2.2⟩, q.2⟩, fun q => ⟨⟨Nat.le_add_left _ _, q.1.1, beq_of2 q.1.2⟩, q.2⟩⟩
theorem E_X9_deliver {v0 v1 v2 v3 : Value} : Ev M_X9_deliver [v0, v1, v2, v3] h P ↔ Z M_X9_deliver k_X9_deliver_0 [some v0, some v1, some v2, some v3, none, none, none, none, none, none, none] [] h P := Iff.rfl
theorem R_X9_deliver : mR M_X9_deliver = (some .int) := rfl
theorem C_X9_copy {x : Nat} {v1 v2 v3 : Value} : Z m ((pc, .invokevirtual i, len, 113, b, 0) :: code) L (v3 :: v2 :: v1 :: .ref x :: st) h P ↔ ((st.length ≤ 8 ∧ kd h x = 10) ∧ Ev M_X9_copy [.ref x, v1, v2, v3] h (fun r h' => Z m code L (r.toList ++ st) h' P)) := by
  rw [Z_call (m' := M_X9_copy) rfl rfl]
  exact ⟨fun q => ⟨⟨q.1.2.1, Nat.eq_of_beq_eq_true q.1.2.2⟩, q.2⟩, fun q => ⟨⟨Nat.le_add_left _ _, q.1.1, beq_of2 q.1.2⟩, q.2⟩⟩
theorem E_X9_copy {v0 v1 v2 v3 : Value} : Ev M_X9_copy [v0, v1, v2, v3] h P ↔ Z M_X9_copy k_X9_copy_0 [some v0, some v1, some v2, some v3, none] [] h P := Iff.rfl
theorem R_X9_copy : mR M_X9_copy = (some .int) := rfl
theorem C_X9_lose {x : Nat} {v1 v2 v3 : Value} : Z m ((pc, .invokevirtual i, len, 114, b, 0) :: code) L (v3 :: v2 :: v1 :: .ref x :: st) h P ↔ ((st.length ≤ 8 ∧ kd h x = 10) ∧ Ev M_X9_lose [.ref x, v1, v2, v3] h (fun r h' => Z m code L (r.toList ++ st) h' P)) := by
  rw [Z_call (m' := M_X9_lose) rfl rfl]
  exact ⟨fun q => ⟨⟨q.1.2.1, Nat.eq_of_beq_eq_true q.1.2.2⟩, q.2⟩, fun q => ⟨⟨Nat.le_add_left _ _, q.1.1, beq_of2 q.1.2⟩, q.2⟩⟩
theorem E_X9_lose {v0 v1 v2 v3 : Value} : Ev M_X9_lose [v0, v1, v2, v3] h P ↔ Z M_X9_lose k_X9_lose_0 [some v0, some v1, some v2, some v3] [] h P := Iff.rfl
theorem R_X9_lose : mR M_X9_lose = (some .int) := rfl
theorem C_X9_speak {x : Nat} {v1 v2 v3 : Value} : Z m ((pc, .invokevirtual i, len, 115, b, 0) :: code) L (v3 :: v2 :: v1 :: .ref x :: st) h P ↔ ((st.length ≤ 8 ∧ kd h x = 10) ∧ Ev M_X9_speak [.ref x, v1, v2, v3] h (fun r h' => Z m code L (r.toList ++ st) h' P)) := by
  rw [Z_call (m' := M_X9_speak) rfl rfl]
  exact ⟨fun q => ⟨⟨q.1.2.1, Nat.eq_of_beq_eq_true q.1.2.2⟩, q.2⟩, fun q => ⟨⟨Nat.le_add_left _ _, q.1.1, beq_of2 q.1.2⟩, q.2⟩⟩
theorem E_X9_speak {v0 v1 v2 v3 : Value} : Ev M_X9_speak [v0, v1, v2, v3] h P ↔ Z M_X9_speak k_X9_speak_0 [some v0, some v1, some v2, some v3] [] h P := Iff.rfl
theorem R_X9_speak : mR M_X9_speak = (some .int) := rfl
theorem C_X9_ask {x : Nat} {v1 v2 : Value} : Z m ((pc, .invokevirtual i, len, 116, b, 0) :: code) L (v2 :: v1 :: .ref x :: st) h P ↔ ((st.length ≤ 8 ∧ kd h x = 10) ∧ Ev M_X9_ask [.ref x, v1, v2] h (fun r h' => Z m code L (r.toList ++ st) h' P)) := by
  rw [Z_call (m' := M_X9_ask) rfl rfl]
  exact ⟨fun q => ⟨⟨q.1.2.1, Nat.eq_of_beq_eq_true q.1.2.2⟩, q.2⟩, fun q => ⟨⟨Nat.le_add_left _ _, q.1.1, beq_of2 q.1.2⟩, q.2⟩⟩
theorem E_X9_ask {v0 v1 v2 : Value} : Ev M_X9_ask [v0, v1, v2] h P ↔ Z M_X9_ask k_X9_ask_0 [some v0, some v1, some v2] [] h P := Iff.rfl
theorem R_X9_ask : mR M_X9_ask = (some .int) := rfl
theorem C_X9_tell {x : Nat} {v1 v2 : Value} : Z m ((pc, .invokevirtual i, len, 117, b, 0) :: code) L (v2 :: v1 :: .ref x :: st) h P ↔ ((st.length ≤ 8 ∧ kd h x = 10) ∧ Ev M_X9_tell [.ref x, v1, v2] h (fun r h' => Z m code L (r.toList ++ st) h' P)) := by
  rw [Z_call (m' := M_X9_tell) rfl rfl]
  exact ⟨fun q => ⟨⟨q.1.2.1, Nat.eq_of_beq_eq_true q.1.2.2⟩, q.2⟩, fun q => ⟨⟨Nat.le_add_left _ _, q.1.1, beq_of2 q.1.2⟩, q.2⟩⟩
theorem E_X9_tell {v0 v1 v2 : Value} : Ev M_X9_tell [v0, v1, v2] h P ↔ Z M_X9_tell k_X9_tell_0 [some v0, some v1, some v2] [] h P := Iff.rfl
theorem R_X9_tell : mR M_X9_tell = (some .int) := rfl
theorem C_X9_power {x : Nat} {v1 v2 : Value} : Z m ((pc, .invokevirtual i, len, 118, b, 0) :: code) L (v2 :: v1 :: .ref x :: st) h P ↔ ((st.length ≤ 8 ∧ kd h x = 10) ∧ Ev M_X9_power [.ref x, v1, v2] h (fun r h' => Z m code L (r.toList ++ st) h' P)) := by
  rw [Z_call (m' := M_X9_power) rfl rfl]
  exact ⟨fun q => ⟨⟨q.1.2.1, Nat.eq_of_beq_eq_true q.1.2.2⟩, q.2⟩, fun q => ⟨⟨Nat.le_add_left _ _, q.1.1, beq_of2 q.1.2⟩, q.2⟩⟩
theorem E_X9_power {v0 v1 v2 : Value} : Ev M_X9_power [v0, v1, v2] h P ↔ Z M_X9_power k_X9_power_0 [some v0, some v1, some v2, none] [] h P := Iff.rfl
theorem R_X9_power : mR M_X9_power = (some .int) := rfl
theorem C_X9_clock {x : Nat} {v1 v2 : Value} : Z m ((pc, .invokevirtual i, len, 119, b, 0) :: code) L (v2 :: v1 :: .ref x :: st) h P ↔ ((st.length ≤ 8 ∧ kd h x = 10) ∧ Ev M_X9_clock [.ref x, v1, v2] h (fun r h' => Z m code L (r.toList ++ st) h' P)) := by
  rw [Z_call (m' := M_X9_clock) rfl rfl]
  exact ⟨fun q => ⟨⟨q.1.2.1, Nat.eq_of_beq_eq_true q.1.2.2⟩, q.2⟩, fun q => ⟨⟨Nat.le_add_left _ _, q.1.1, beq_of2 q.1.2⟩, q.2⟩⟩
theorem E_X9_clock {v0 v1 v2 : Value} : Ev M_X9_clock [v0, v1, v2] h P ↔ Z M_X9_clock k_X9_clock_0 [some v0, some v1, some v2] [] h P := Iff.rfl
theorem R_X9_clock : mR M_X9_clock = (some .int) := rfl
theorem C_X9_knows {x : Nat} {v1 v2 v3 : Value} : Z m ((pc, .invokevirtual i, len, 120, b, 0) :: code) L (v3 :: v2 :: v1 :: .ref x :: st) h P ↔ ((st.length ≤ 8 ∧ kd h x = 10) ∧ Ev M_X9_knows [.ref x, v1, v2, v3] h (fun r h' => Z m code L (r.toList ++ st) h' P)) := by
  rw [Z_call (m' := M_X9_knows) rfl rfl]
  exact ⟨fun q => ⟨⟨q.1.2.1, Nat.eq_of_beq_eq_true q.1.2.2⟩, q.2⟩, fun q => ⟨⟨Nat.le_add_left _ _, q.1.1, beq_of2 q.1.2⟩, q.2⟩⟩
theorem E_X9_knows {v0 v1 v2 v3 : Value} : Ev M_X9_knows [v0, v1, v2, v3] h P ↔ Z M_X9_knows k_X9_knows_0 [some v0, some v1, some v2, some v3] [] h P := Iff.rfl
theorem R_X9_knows : mR M_X9_knows = (some .int) := rfl
theorem C_X9_charactersOf {x : Nat} {v1 : Value} : Z m ((pc, .invokevirtual i, len, 121, b, 0) :: code) L (v1 :: .ref x :: st) h P ↔ ((st.length ≤ 8 ∧ kd h x = 10) ∧ Ev M_X9_charactersOf [.ref x, v1] h (fun r h' => Z m code L (r.toList ++ st) h' P)) := by
  rw [Z_call (m' := M_X9_charactersOf) rfl rfl]
  exact ⟨fun q => ⟨⟨q.1.2.1, Nat.eq_of_beq_eq_true q.1.2.2⟩, q.2⟩, fun q => ⟨⟨Nat.le_add_left _ _, q.1.1, beq_of2 q.1.2⟩, q.2⟩⟩
theorem E_X9_charactersOf {v0 v1 : Value} : Ev M_X9_charactersOf [v0, v1] h P ↔ Z M_X9_charactersOf k_X9_charactersOf_0 [some v0, some v1, none, none] [] h P := Iff.rfl
theorem R_X9_charactersOf : mR M_X9_charactersOf = (some .int) := rfl
theorem C_X9_count {x : Nat} {v1 v2 : Value} : Z m ((pc, .invokevirtual i, len, 122, b, 0) :: code) L (v2 :: v1 :: .ref x :: st) h P ↔ ((st.length ≤ 8 ∧ kd h x = 10) ∧ Ev M_X9_count [.ref x, v1, v2] h (fun r h' => Z m code L (r.toList ++ st) h' P)) := by
  rw [Z_call (m' := M_X9_count) rfl rfl]
  exact ⟨fun q => ⟨⟨q.1.2.1, Nat.eq_of_beq_eq_true q.1.2.2⟩, q.2⟩, fun q => ⟨⟨Nat.le_add_left _ _, q.1.1, beq_of2 q.1.2⟩, q.2⟩⟩
theorem E_X9_count {v0 v1 v2 : Value} : Ev M_X9_count [v0, v1, v2] h P ↔ Z M_X9_count k_X9_count_0 [some v0, some v1, some v2, none, none, none, none] [] h P := Iff.rfl
theorem R_X9_count : mR M_X9_count = (some .int) := rfl
theorem C_X9_message {x : Nat} {v1 v2 v3 v4 : Value} : Z m ((pc, .invokevirtual i, len, 123, b, 0) :: code) L (v4 :: v3 :: v2 :: v1 :: .ref x :: st) h P ↔ ((st.length ≤ 8 ∧ kd h x = 10) ∧ Ev M_X9_message [.ref x, v1, v2, v3, v4] h (fun r h' => Z m code L (r.toList ++ st) h' P)) := by
  rw [Z_call (m' := M_X9_message) rfl rfl]
  exact ⟨fun q => ⟨⟨q.1.2.1, Nat.eq_of_beq_eq_true q.1.2.2⟩, q.2⟩, fun q => ⟨⟨Nat.le_add_left _ _, q.1.1, beq_of2 q.1.2⟩, q.2⟩⟩
theorem E_X9_message {v0 v1 v2 v3 v4 : Value} : Ev M_X9_message [v0, v1, v2, v3, v4] h P ↔ Z M_X9_message k_X9_message_0 [some v0, some v1, some v2, some v3, some v4, none, none, none] [] h P := Iff.rfl
theorem R_X9_message : mR M_X9_message = (some .int) := rfl
theorem C_X9_way {x : Nat} {v1 v2 : Value} : Z m ((pc, .invokevirtual i, len, 124, b, 0) :: code) L (v2 :: v1 :: .ref x :: st) h P ↔ ((st.length ≤ 8 ∧ kd h x = 10) ∧ Ev M_X9_way [.ref x, v1, v2] h (fun r h' => Z m code L (r.toList ++ st) h' P)) := by
  rw [Z_call (m' := M_X9_way) rfl rfl]
  exact ⟨fun q => ⟨⟨q.1.2.1, Nat.eq_of_beq_eq_true q.1.2.2⟩, q.2⟩, fun q => ⟨⟨Nat.le_add_left _ _, q.1.1, beq_of2 q.1.2⟩, q.2⟩⟩
theorem E_X9_way {v0 v1 v2 : Value} : Ev M_X9_way [v0, v1, v2] h P ↔ Z M_X9_way k_X9_way_0 [some v0, some v1, some v2] [] h P := Iff.rfl
theorem R_X9_way : mR M_X9_way = (some .int) := rfl
theorem C_J6_bitCount_0f7a4 {v0 : Value} : Z m ((pc, .invokestatic i, len, 125, b, 2) :: code) L (v0 :: st) h P ↔ (st.length ≤ 8 ∧ Ev M_J6_bitCount_0f7a4 [v0] h (fun r h' => Z m code L (r.toList ++ st) h' P)) := by
  rw [Z_call (m' := M_J6_bitCount_0f7a4) rfl rfl]
  exact ⟨fun q => ⟨q.1.2.1, q.2⟩, fun q => ⟨⟨Nat.le_add_left _ _, q.1, rfl⟩, q.2⟩⟩
theorem E_J6_bitCount_0f7a4 {v0 : Value} : Ev M_J6_bitCount_0f7a4 [v0] h P ↔ Z M_J6_bitCount_0f7a4 k_J6_bitCount_0f7a4_0 [some v0] [] h P := Iff.rfl
theorem R_J6_bitCount_0f7a4 : mR M_J6_bitCount_0f7a4 = (some .int) := rfl
theorem C_Jxa1e45_init_da8c8 {x : Nat} : Z m ((pc, .invokespecial i, len, 126, b, 1) :: code) L (.ref x :: st) h P ↔ (st.length ≤ 8 ∧ Ev M_Jxa1e45_init_da8c8 [.ref x] h (fun r h' => Z m code L (r.toList ++ st) h' P)) := by
  rw [Z_call (m' := M_Jxa1e45_init_da8c8) rfl rfl]
  exact ⟨fun q => ⟨q.1.2.1, q.2⟩, fun q => ⟨⟨Nat.le_add_left _ _, q.1, rfl⟩, q.2⟩⟩
theorem C_Jxa1e45_init_da8c8_n {x : Nat} : Z m ((pc, .invokespecial i, len, 126, b, 3) :: code) L (.ref x :: st) h P ↔ (st.length ≤ 8 ∧ Ev M_Jxa1e45_init_da8c8 [.ref x] h (fun r h' => Z m code L (r.toList ++ st) h' P)) := by
  rw [Z_call (m' := M_Jxa1e45_init_da8c8) rfl rfl]
  exact ⟨fun q => ⟨q.1.2.1, q.2⟩, fun q => ⟨⟨Nat.le_add_left _ _, q.1, rfl⟩, q.2⟩⟩
theorem E_Jxa1e45_init_da8c8 {v0 : Value} : Ev M_Jxa1e45_init_da8c8 [v0] h P ↔ Z M_Jxa1e45_init_da8c8 k_Jxa1e45_init_da8c8_0 [some v0] [] h P := Iff.rfl
theorem R_Jxa1e45_init_da8c8 : mR M_Jxa1e45_init_da8c8 = none := rfl
theorem C_Jxc12de_init_da8c8 {x : Nat} : Z m ((pc, .invokespecial i, len, 127, b, 1) :: code) L (.ref x :: st) h P ↔ (st.length ≤ 8 ∧ Ev M_Jxc12de_init_da8c8 [.ref x] h (fun r h' => Z m code L (r.toList ++ st) h' P)) := by
  rw [Z_call (m' := M_Jxc12de_init_da8c8) rfl rfl]
  exact ⟨fun q => ⟨q.1.2.1, q.2⟩, fun q => ⟨⟨Nat.le_add_left _ _, q.1, rfl⟩, q.2⟩⟩
theorem C_Jxc12de_init_da8c8_n {x : Nat} : Z m ((pc, .invokespecial i, len, 127, b, 3) :: code) L (.ref x :: st) h P ↔ (st.length ≤ 8 ∧ Ev M_Jxc12de_init_da8c8 [.ref x] h (fun r h' => Z m code L (r.toList ++ st) h' P)) := by
  rw [Z_call (m' := M_Jxc12de_init_da8c8) rfl rfl]
  exact ⟨fun q => ⟨q.1.2.1, q.2⟩, fun q => ⟨⟨Nat.le_add_left _ _, q.1, rfl⟩, q.2⟩⟩
theorem E_Jxc12de_init_da8c8 {v0 : Value} : Ev M_Jxc12de_init_da8c8 [v0] h P ↔ Z M_Jxc12de_init_da8c8 k_Jxc12de_init_da8c8_0 [some v0] [] h P := Iff.rfl
theorem R_Jxc12de_init_da8c8 : mR M_Jxc12de_init_da8c8 = none := rfl
theorem C_AL_init_da8c8 {x : Nat} : Z m ((pc, .invokespecial i, len, 128, b, 1) :: code) L (.ref x :: st) h P ↔ (st.length ≤ 8 ∧ Ev M_AL_init_da8c8 [.ref x] h (fun r h' => Z m code L (r.toList ++ st) h' P)) := by
  rw [Z_call (m' := M_AL_init_da8c8) rfl rfl]
  exact ⟨fun q => ⟨q.1.2.1, q.2⟩, fun q => ⟨⟨Nat.le_add_left _ _, q.1, rfl⟩, q.2⟩⟩
theorem C_AL_init_da8c8_n {x : Nat} : Z m ((pc, .invokespecial i, len, 128, b, 3) :: code) L (.ref x :: st) h P ↔ (st.length ≤ 8 ∧ Ev M_AL_init_da8c8 [.ref x] h (fun r h' => Z m code L (r.toList ++ st) h' P)) := by
  rw [Z_call (m' := M_AL_init_da8c8) rfl rfl]
  exact ⟨fun q => ⟨q.1.2.1, q.2⟩, fun q => ⟨⟨Nat.le_add_left _ _, q.1, rfl⟩, q.2⟩⟩
theorem E_AL_init_da8c8 {v0 : Value} : Ev M_AL_init_da8c8 [v0] h P ↔ Z M_AL_init_da8c8 k_AL_init_da8c8_0 [some v0] [] h P := Iff.rfl
theorem R_AL_init_da8c8 : mR M_AL_init_da8c8 = none := rfl
theorem C_AL_grow_92f84 {x : Nat} {v1 : Value} : Z m ((pc, .invokevirtual i, len, 129, b, 0) :: code) L (v1 :: .ref x :: st) h P ↔ ((st.length ≤ 8 ∧ kd h x = 11) ∧ Ev M_AL_grow_92f84 [.ref x, v1] h (fun r h' => Z m code L (r.toList ++ st) h' P)) := by
  rw [Z_call (m' := M_AL_grow_92f84) rfl rfl]
  exact ⟨fun q => ⟨⟨q.1.2.1, Nat.eq_of_beq_eq_true q.1.2.2⟩, q.2⟩, fun q => ⟨⟨Nat.le_add_left _ _, q.1.1, beq_of2 q.1.2⟩, q.2⟩⟩
theorem E_AL_grow_92f84 {v0 v1 : Value} : Ev M_AL_grow_92f84 [v0, v1] h P ↔ Z M_AL_grow_92f84 k_AL_grow_92f84_0 [some v0, some v1, none, none] [] h P := Iff.rfl
theorem R_AL_grow_92f84 : mR M_AL_grow_92f84 = (some (.array (.object "java/lang/Object"))) := rfl
theorem C_AL_grow_d5877 {x : Nat} : Z m ((pc, .invokevirtual i, len, 130, b, 0) :: code) L (.ref x :: st) h P ↔ ((st.length ≤ 8 ∧ kd h x = 11) ∧ Ev M_AL_grow_d5877 [.ref x] h (fun r h' => Z m code L (r.toList ++ st) h' P)) := by
  rw [Z_call (m' := M_AL_grow_d5877) rfl rfl]
  exact ⟨fun q => ⟨⟨q.1.2.1, Nat.eq_of_beq_eq_true q.1.2.2⟩, q.2⟩, fun q => ⟨⟨Nat.le_add_left _ _, q.1.1, beq_of2 q.1.2⟩, q.2⟩⟩
theorem E_AL_grow_d5877 {v0 : Value} : Ev M_AL_grow_d5877 [v0] h P ↔ Z M_AL_grow_d5877 k_AL_grow_d5877_0 [some v0] [] h P := Iff.rfl
theorem R_AL_grow_d5877 : mR M_AL_grow_d5877 = (some (.array (.object "java/lang/Object"))) := rfl
theorem C_AL_size_8abf5 {x : Nat} : Z m ((pc, .invokevirtual i, len, 131, b, 0) :: code) L (.ref x :: st) h P ↔ ((st.length ≤ 8 ∧ kd h x = 11) ∧ Ev M_AL_size_8abf5 [.ref x] h (fun r h' => Z m code L (r.toList ++ st) h' P)) := by
  rw [Z_call (m' := M_AL_size_8abf5) rfl rfl]
  exact ⟨fun q => ⟨⟨q.1.2.1, Nat.eq_of_beq_eq_true q.1.2.2⟩, q.2⟩, fun q => ⟨⟨Nat.le_add_left _ _, q.1.1, beq_of2 q.1.2⟩, q.2⟩⟩
theorem E_AL_size_8abf5 {v0 : Value} : Ev M_AL_size_8abf5 [v0] h P ↔ Z M_AL_size_8abf5 k_AL_size_8abf5_0 [some v0] [] h P := Iff.rfl
theorem R_AL_size_8abf5 : mR M_AL_size_8abf5 = (some .int) := rfl
theorem C_AL_isEmpty_aae02 {x : Nat} : Z m ((pc, .invokevirtual i, len, 132, b, 0) :: code) L (.ref x :: st) h P ↔ ((st.length ≤ 8 ∧ kd h x = 11) ∧ Ev M_AL_isEmpty_aae02 [.ref x] h (fun r h' => Z m code L (r.toList ++ st) h' P)) := by
  rw [Z_call (m' := M_AL_isEmpty_aae02) rfl rfl]
  exact ⟨fun q => ⟨⟨q.1.2.1, Nat.eq_of_beq_eq_true q.1.2.2⟩, q.2⟩, fun q => ⟨⟨Nat.le_add_left _ _, q.1.1, beq_of2 q.1.2⟩, q.2⟩⟩
theorem E_AL_isEmpty_aae02 {v0 : Value} : Ev M_AL_isEmpty_aae02 [v0] h P ↔ Z M_AL_isEmpty_aae02 k_AL_isEmpty_aae02_0 [some v0] [] h P := Iff.rfl
theorem R_AL_isEmpty_aae02 : mR M_AL_isEmpty_aae02 = (some .boolean) := rfl
theorem C_AL_elementData_915e3 {x : Nat} {v1 : Value} : Z m ((pc, .invokevirtual i, len, 133, b, 0) :: code) L (v1 :: .ref x :: st) h P ↔ ((st.length ≤ 8 ∧ kd h x = 11) ∧ Ev M_AL_elementData_915e3 [.ref x, v1] h (fun r h' => Z m code L (r.toList ++ st) h' P)) := by
  rw [Z_call (m' := M_AL_elementData_915e3) rfl rfl]
  exact ⟨fun q => ⟨⟨q.1.2.1, Nat.eq_of_beq_eq_true q.1.2.2⟩, q.2⟩, fun q => ⟨⟨Nat.le_add_left _ _, q.1.1, beq_of2 q.1.2⟩, q.2⟩⟩
theorem E_AL_elementData_915e3 {v0 v1 : Value} : Ev M_AL_elementData_915e3 [v0, v1] h P ↔ Z M_AL_elementData_915e3 k_AL_elementData_915e3_0 [some v0, some v1] [] h P := Iff.rfl
theorem R_AL_elementData_915e3 : mR M_AL_elementData_915e3 = (some (.object "java/lang/Object")) := rfl
theorem C_AL_get_915e3 {x : Nat} {v1 : Value} : Z m ((pc, .invokevirtual i, len, 134, b, 0) :: code) L (v1 :: .ref x :: st) h P ↔ ((st.length ≤ 8 ∧ kd h x = 11) ∧ Ev M_AL_get_915e3 [.ref x, v1] h (fun r h' => Z m code L (r.toList ++ st) h' P)) := by
  rw [Z_call (m' := M_AL_get_915e3) rfl rfl]
  exact ⟨fun q => ⟨⟨q.1.2.1, Nat.eq_of_beq_eq_true q.1.2.2⟩, q.2⟩, fun q => ⟨⟨Nat.le_add_left _ _, q.1.1, beq_of2 q.1.2⟩, q.2⟩⟩
theorem E_AL_get_915e3 {v0 v1 : Value} : Ev M_AL_get_915e3 [v0, v1] h P ↔ Z M_AL_get_915e3 k_AL_get_915e3_0 [some v0, some v1] [] h P := Iff.rfl
theorem R_AL_get_915e3 : mR M_AL_get_915e3 = (some (.object "java/lang/Object")) := rfl
theorem C_AL_add_72be8 {x : Nat} {v1 v2 v3 : Value} : Z m ((pc, .invokevirtual i, len, 135, b, 0) :: code) L (v3 :: v2 :: v1 :: .ref x :: st) h P ↔ ((st.length ≤ 8 ∧ kd h x = 11) ∧ Ev M_AL_add_72be8 [.ref x, v1, v2, v3] h (fun r h' => Z m code L (r.toList ++ st) h' P)) := by
  rw [Z_call (m' := M_AL_add_72be8) rfl rfl]
  exact ⟨fun q => ⟨⟨q.1.2.1, Nat.eq_of_beq_eq_true q.1.2.2⟩, q.2⟩, fun q => ⟨⟨Nat.le_add_left _ _, q.1.1, beq_of2 q.1.2⟩, q.2⟩⟩
theorem E_AL_add_72be8 {v0 v1 v2 v3 : Value} : Ev M_AL_add_72be8 [v0, v1, v2, v3] h P ↔ Z M_AL_add_72be8 k_AL_add_72be8_0 [some v0, some v1, some v2, some v3] [] h P := Iff.rfl
theorem R_AL_add_72be8 : mR M_AL_add_72be8 = none := rfl
theorem C_AL_add_9ea2d {x : Nat} {v1 : Value} : Z m ((pc, .invokevirtual i, len, 136, b, 0) :: code) L (v1 :: .ref x :: st) h P ↔ ((st.length ≤ 8 ∧ kd h x = 11) ∧ Ev M_AL_add_9ea2d [.ref x, v1] h (fun r h' => Z m code L (r.toList ++ st) h' P)) := by
  rw [Z_call (m' := M_AL_add_9ea2d) rfl rfl]
  exact ⟨fun q => ⟨⟨q.1.2.1, Nat.eq_of_beq_eq_true q.1.2.2⟩, q.2⟩, fun q => ⟨⟨Nat.le_add_left _ _, q.1.1, beq_of2 q.1.2⟩, q.2⟩⟩
theorem E_AL_add_9ea2d {v0 v1 : Value} : Ev M_AL_add_9ea2d [v0, v1] h P ↔ Z M_AL_add_9ea2d k_AL_add_9ea2d_0 [some v0, some v1] [] h P := Iff.rfl
theorem R_AL_add_9ea2d : mR M_AL_add_9ea2d = (some .boolean) := rfl
theorem C_AL_remove_915e3 {x : Nat} {v1 : Value} : Z m ((pc, .invokevirtual i, len, 137, b, 0) :: code) L (v1 :: .ref x :: st) h P ↔ ((st.length ≤ 8 ∧ kd h x = 11) ∧ Ev M_AL_remove_915e3 [.ref x, v1] h (fun r h' => Z m code L (r.toList ++ st) h' P)) := by
  rw [Z_call (m' := M_AL_remove_915e3) rfl rfl]
  exact ⟨fun q => ⟨⟨q.1.2.1, Nat.eq_of_beq_eq_true q.1.2.2⟩, q.2⟩, fun q => ⟨⟨Nat.le_add_left _ _, q.1.1, beq_of2 q.1.2⟩, q.2⟩⟩
theorem E_AL_remove_915e3 {v0 v1 : Value} : Ev M_AL_remove_915e3 [v0, v1] h P ↔ Z M_AL_remove_915e3 k_AL_remove_915e3_0 [some v0, some v1, none, none] [] h P := Iff.rfl
theorem R_AL_remove_915e3 : mR M_AL_remove_915e3 = (some (.object "java/lang/Object")) := rfl
theorem C_AL_fastRemove_b59b0 {x : Nat} {v1 v2 : Value} : Z m ((pc, .invokevirtual i, len, 138, b, 0) :: code) L (v2 :: v1 :: .ref x :: st) h P ↔ ((st.length ≤ 8 ∧ kd h x = 11) ∧ Ev M_AL_fastRemove_b59b0 [.ref x, v1, v2] h (fun r h' => Z m code L (r.toList ++ st) h' P)) := by
  rw [Z_call (m' := M_AL_fastRemove_b59b0) rfl rfl]
  exact ⟨fun q => ⟨⟨q.1.2.1, Nat.eq_of_beq_eq_true q.1.2.2⟩, q.2⟩, fun q => ⟨⟨Nat.le_add_left _ _, q.1.1, beq_of2 q.1.2⟩, q.2⟩⟩
theorem E_AL_fastRemove_b59b0 {v0 v1 v2 : Value} : Ev M_AL_fastRemove_b59b0 [v0, v1, v2] h P ↔ Z M_AL_fastRemove_b59b0 k_AL_fastRemove_b59b0_0 [some v0, some v1, some v2, none] [] h P := Iff.rfl
theorem R_AL_fastRemove_b59b0 : mR M_AL_fastRemove_b59b0 = none := rfl
theorem C_J7_copyOf_1904c {v0 v1 : Value} : Z m ((pc, .invokestatic i, len, 139, b, 2) :: code) L (v1 :: v0 :: st) h P ↔ (st.length ≤ 8 ∧ Ev M_J7_copyOf_1904c [v0, v1] h (fun r h' => Z m code L (r.toList ++ st) h' P)) := by
  rw [Z_call (m' := M_J7_copyOf_1904c) rfl rfl]
  exact ⟨fun q => ⟨q.1.2.1, q.2⟩, fun q => ⟨⟨Nat.le_add_left _ _, q.1, rfl⟩, q.2⟩⟩
theorem E_J7_copyOf_1904c {v0 v1 : Value} : Ev M_J7_copyOf_1904c [v0, v1] h P ↔ Z M_J7_copyOf_1904c k_J7_copyOf_1904c_0 [some v0, some v1] [] h P := Iff.rfl
theorem R_J7_copyOf_1904c : mR M_J7_copyOf_1904c = (some (.array (.object "java/lang/Object"))) := rfl
theorem C_J7_copyOf_6403c {v0 v1 v2 : Value} : Z m ((pc, .invokestatic i, len, 140, b, 2) :: code) L (v2 :: v1 :: v0 :: st) h P ↔ (st.length ≤ 8 ∧ Ev M_J7_copyOf_6403c [v0, v1, v2] h (fun r h' => Z m code L (r.toList ++ st) h' P)) := by
  rw [Z_call (m' := M_J7_copyOf_6403c) rfl rfl]
  exact ⟨fun q => ⟨q.1.2.1, q.2⟩, fun q => ⟨⟨Nat.le_add_left _ _, q.1, rfl⟩, q.2⟩⟩
theorem E_J7_copyOf_6403c {v0 v1 v2 : Value} : Ev M_J7_copyOf_6403c [v0, v1, v2] h P ↔ Z M_J7_copyOf_6403c k_J7_copyOf_6403c_0 [some v0, some v1, some v2, none] [] h P := Iff.rfl
theorem R_J7_copyOf_6403c : mR M_J7_copyOf_6403c = (some (.array (.object "java/lang/Object"))) := rfl
theorem C_J15_checkIndex_7cf53 {v0 v1 : Value} : Z m ((pc, .invokestatic i, len, 141, b, 2) :: code) L (v1 :: v0 :: st) h P ↔ (st.length ≤ 8 ∧ Ev M_J15_checkIndex_7cf53 [v0, v1] h (fun r h' => Z m code L (r.toList ++ st) h' P)) := by
  rw [Z_call (m' := M_J15_checkIndex_7cf53) rfl rfl]
  exact ⟨fun q => ⟨q.1.2.1, q.2⟩, fun q => ⟨⟨Nat.le_add_left _ _, q.1, rfl⟩, q.2⟩⟩
theorem E_J15_checkIndex_7cf53 {v0 v1 : Value} : Ev M_J15_checkIndex_7cf53 [v0, v1] h P ↔ Z M_J15_checkIndex_7cf53 k_J15_checkIndex_7cf53_0 [some v0, some v1] [] h P := Iff.rfl
theorem R_J15_checkIndex_7cf53 : mR M_J15_checkIndex_7cf53 = (some .int) := rfl
theorem C_J8_newLength_cabcc {v0 v1 v2 : Value} : Z m ((pc, .invokestatic i, len, 142, b, 2) :: code) L (v2 :: v1 :: v0 :: st) h P ↔ (st.length ≤ 8 ∧ Ev M_J8_newLength_cabcc [v0, v1, v2] h (fun r h' => Z m code L (r.toList ++ st) h' P)) := by
  rw [Z_call (m' := M_J8_newLength_cabcc) rfl rfl]
  exact ⟨fun q => ⟨q.1.2.1, q.2⟩, fun q => ⟨⟨Nat.le_add_left _ _, q.1, rfl⟩, q.2⟩⟩
theorem E_J8_newLength_cabcc {v0 v1 v2 : Value} : Ev M_J8_newLength_cabcc [v0, v1, v2] h P ↔ Z M_J8_newLength_cabcc k_J8_newLength_cabcc_0 [some v0, some v1, some v2, none] [] h P := Iff.rfl
theorem R_J8_newLength_cabcc : mR M_J8_newLength_cabcc = (some .int) := rfl
theorem C_J8_hugeLength_7cf53 {v0 v1 : Value} : Z m ((pc, .invokestatic i, len, 143, b, 2) :: code) L (v1 :: v0 :: st) h P ↔ (st.length ≤ 8 ∧ Ev M_J8_hugeLength_7cf53 [v0, v1] h (fun r h' => Z m code L (r.toList ++ st) h' P)) := by
  rw [Z_call (m' := M_J8_hugeLength_7cf53) rfl rfl]
  exact ⟨fun q => ⟨q.1.2.1, q.2⟩, fun q => ⟨⟨Nat.le_add_left _ _, q.1, rfl⟩, q.2⟩⟩
theorem E_J8_hugeLength_7cf53 {v0 v1 : Value} : Ev M_J8_hugeLength_7cf53 [v0, v1] h P ↔ Z M_J8_hugeLength_7cf53 k_J8_hugeLength_7cf53_0 [some v0, some v1, none] [] h P := Iff.rfl
theorem R_J8_hugeLength_7cf53 : mR M_J8_hugeLength_7cf53 = (some .int) := rfl
theorem C_J3_checkIndex_8e157 {v0 v1 v2 : Value} : Z m ((pc, .invokestatic i, len, 144, b, 2) :: code) L (v2 :: v1 :: v0 :: st) h P ↔ (st.length ≤ 8 ∧ Ev M_J3_checkIndex_8e157 [v0, v1, v2] h (fun r h' => Z m code L (r.toList ++ st) h' P)) := by
  rw [Z_call (m' := M_J3_checkIndex_8e157) rfl rfl]
  exact ⟨fun q => ⟨q.1.2.1, q.2⟩, fun q => ⟨⟨Nat.le_add_left _ _, q.1, rfl⟩, q.2⟩⟩
theorem E_J3_checkIndex_8e157 {v0 v1 v2 : Value} : Ev M_J3_checkIndex_8e157 [v0, v1, v2] h P ↔ Z M_J3_checkIndex_8e157 k_J3_checkIndex_8e157_0 [some v0, some v1, some v2] [] h P := Iff.rfl
theorem R_J3_checkIndex_8e157 : mR M_J3_checkIndex_8e157 = (some .int) := rfl
theorem Q_X0_init {a : Nat}  : Z M_X0_init ((pc, .return_, len, a, b, 0) :: code) L [] h P ↔ P none h := Z_ret rfl
theorem Q_X1_init {a : Nat}  : Z M_X1_init ((pc, .return_, len, a, b, 0) :: code) L [] h P ↔ P none h := Z_ret rfl
theorem Q_X1_covers_0 {a : Nat}  : Z M_X1_covers ((pc, .ireturn, len, a, b, 0) :: code) L [.int (nI 0)] h P ↔ P (some (.int (nI 0))) h := Z_zret rfl (Or.inl rfl)
theorem Q_X1_covers_1 {a : Nat}  : Z M_X1_covers ((pc, .ireturn, len, a, b, 0) :: code) L [.int (nI 1)] h P ↔ P (some (.int (nI 1))) h := Z_zret rfl (Or.inr rfl)
theorem Q_X1_raiseTo {a : Nat}  : Z M_X1_raiseTo ((pc, .return_, len, a, b, 0) :: code) L [] h P ↔ P none h := Z_ret rfl
theorem Q_X2_init {a : Nat}  : Z M_X2_init ((pc, .return_, len, a, b, 0) :: code) L [] h P ↔ P none h := Z_ret rfl
theorem Q_X3_init {a : Nat}  : Z M_X3_init ((pc, .return_, len, a, b, 0) :: code) L [] h P ↔ P none h := Z_ret rfl
theorem Q_X3_init_ {a : Nat}  : Z M_X3_init_ ((pc, .return_, len, a, b, 0) :: code) L [] h P ↔ P none h := Z_ret rfl
theorem Q_X4_init {a : Nat}  : Z M_X4_init ((pc, .return_, len, a, b, 0) :: code) L [] h P ↔ P none h := Z_ret rfl
theorem Q_X4_hasGreaterMarkThan_0 {a : Nat}  : Z M_X4_hasGreaterMarkThan ((pc, .ireturn, len, a, b, 0) :: code) L [.int (nI 0)] h P ↔ P (some (.int (nI 0))) h := Z_zret rfl (Or.inl rfl)
theorem Q_X4_hasGreaterMarkThan_1 {a : Nat}  : Z M_X4_hasGreaterMarkThan ((pc, .ireturn, len, a, b, 0) :: code) L [.int (nI 1)] h P ↔ P (some (.int (nI 1))) h := Z_zret rfl (Or.inr rfl)
theorem Q_X4_isOfSameElementAs_0 {a : Nat}  : Z M_X4_isOfSameElementAs ((pc, .ireturn, len, a, b, 0) :: code) L [.int (nI 0)] h P ↔ P (some (.int (nI 0))) h := Z_zret rfl (Or.inl rfl)
theorem Q_X4_isOfSameElementAs_1 {a : Nat}  : Z M_X4_isOfSameElementAs ((pc, .ireturn, len, a, b, 0) :: code) L [.int (nI 1)] h P ↔ P (some (.int (nI 1))) h := Z_zret rfl (Or.inr rfl)
theorem Q_X5_init {a : Nat}  : Z M_X5_init ((pc, .return_, len, a, b, 0) :: code) L [] h P ↔ P none h := Z_ret rfl
theorem Q_X5_hasMostOperations_0 {a : Nat}  : Z M_X5_hasMostOperations ((pc, .ireturn, len, a, b, 0) :: code) L [.int (nI 0)] h P ↔ P (some (.int (nI 0))) h := Z_zret rfl (Or.inl rfl)
theorem Q_X5_hasMostOperations_1 {a : Nat}  : Z M_X5_hasMostOperations ((pc, .ireturn, len, a, b, 0) :: code) L [.int (nI 1)] h P ↔ P (some (.int (nI 1))) h := Z_zret rfl (Or.inr rfl)
theorem Q_X5_ownClock_r {a : Nat} {x : Nat} : Z M_X5_ownClock ((pc, .areturn, len, a, b, 0) :: code) L [.ref x] h P ↔ P (some (.ref x)) h := Z_aret rfl
theorem Q_X5_ownClock_q {a : Nat} {x : Option Nat} : Z M_X5_ownClock ((pc, .areturn, len, a, b, 0) :: code) L [va_rf x] h P ↔ P (some (va_rf x)) h := Z_aretq rfl
theorem Q_X5_ownClock_n {a : Nat}  : Z M_X5_ownClock ((pc, .areturn, len, a, b, 0) :: code) L [.null] h P ↔ P (some .null) h := Z_aretn rfl
theorem Q_X5_elementBits {a : Nat} {x : Int32} : Z M_X5_elementBits ((pc, .ireturn, len, a, b, 0) :: code) L [.int x] h P ↔ P (some (.int x)) h := Z_iret rfl
theorem Q_X5_begin_r {a : Nat} {x : Nat} : Z M_X5_begin ((pc, .areturn, len, a, b, 0) :: code) L [.ref x] h P ↔ P (some (.ref x)) h := Z_aret rfl
theorem Q_X5_begin_q {a : Nat} {x : Option Nat} : Z M_X5_begin ((pc, .areturn, len, a, b, 0) :: code) L [va_rf x] h P ↔ P (some (va_rf x)) h := Z_aretq rfl
theorem Q_X5_begin_n {a : Nat}  : Z M_X5_begin ((pc, .areturn, len, a, b, 0) :: code) L [.null] h P ↔ P (some .null) h := Z_aretn rfl
theorem Q_X5_receive {a : Nat} {x : Int32} : Z M_X5_receive ((pc, .ireturn, len, a, b, 0) :: code) L [.int x] h P ↔ P (some (.int x)) h := Z_iret rfl
theorem Q_X5_isWaiting_0 {a : Nat}  : Z M_X5_isWaiting ((pc, .ireturn, len, a, b, 0) :: code) L [.int (nI 0)] h P ↔ P (some (.int (nI 0))) h := Z_zret rfl (Or.inl rfl)
theorem Q_X5_isWaiting_1 {a : Nat}  : Z M_X5_isWaiting ((pc, .ireturn, len, a, b, 0) :: code) L [.int (nI 1)] h P ↔ P (some (.int (nI 1))) h := Z_zret rfl (Or.inr rfl)
theorem Q_X5_finishWaiting {a : Nat} {x : Int32} : Z M_X5_finishWaiting ((pc, .ireturn, len, a, b, 0) :: code) L [.int x] h P ↔ P (some (.int x)) h := Z_iret rfl
theorem Q_X5_firstReady {a : Nat} {x : Int32} : Z M_X5_firstReady ((pc, .ireturn, len, a, b, 0) :: code) L [.int x] h P ↔ P (some (.int x)) h := Z_iret rfl
theorem Q_X5_isReady_0 {a : Nat}  : Z M_X5_isReady ((pc, .ireturn, len, a, b, 0) :: code) L [.int (nI 0)] h P ↔ P (some (.int (nI 0))) h := Z_zret rfl (Or.inl rfl)
theorem Q_X5_isReady_1 {a : Nat}  : Z M_X5_isReady ((pc, .ireturn, len, a, b, 0) :: code) L [.int (nI 1)] h P ↔ P (some (.int (nI 1))) h := Z_zret rfl (Or.inr rfl)
theorem Q_X5_finish {a : Nat}  : Z M_X5_finish ((pc, .return_, len, a, b, 0) :: code) L [] h P ↔ P none h := Z_ret rfl
theorem Q_X5_apply {a : Nat}  : Z M_X5_apply ((pc, .return_, len, a, b, 0) :: code) L [] h P ↔ P none h := Z_ret rfl
theorem Q_X5_dropPutsBefore {a : Nat}  : Z M_X5_dropPutsBefore ((pc, .return_, len, a, b, 0) :: code) L [] h P ↔ P none h := Z_ret rfl
theorem Q_X5_keepGreaterMark {a : Nat}  : Z M_X5_keepGreaterMark ((pc, .return_, len, a, b, 0) :: code) L [] h P ↔ P none h := Z_ret rfl
theorem Q_X5_isDoneEverywhere_0 {a : Nat}  : Z M_X5_isDoneEverywhere ((pc, .ireturn, len, a, b, 0) :: code) L [.int (nI 0)] h P ↔ P (some (.int (nI 0))) h := Z_zret rfl (Or.inl rfl)
theorem Q_X5_isDoneEverywhere_1 {a : Nat}  : Z M_X5_isDoneEverywhere ((pc, .ireturn, len, a, b, 0) :: code) L [.int (nI 1)] h P ↔ P (some (.int (nI 1))) h := Z_zret rfl (Or.inr rfl)
theorem Q_X5_shortenLog {a : Nat}  : Z M_X5_shortenLog ((pc, .return_, len, a, b, 0) :: code) L [] h P ↔ P none h := Z_ret rfl
theorem Q_X6_init {a : Nat}  : Z M_X6_init ((pc, .return_, len, a, b, 0) :: code) L [] h P ↔ P none h := Z_ret rfl
theorem Q_X6_lettersEver {a : Nat} {x : Int32} : Z M_X6_lettersEver ((pc, .ireturn, len, a, b, 0) :: code) L [.int x] h P ↔ P (some (.int x)) h := Z_iret rfl
theorem Q_X6_lettersThere {a : Nat} {x : Int32} : Z M_X6_lettersThere ((pc, .ireturn, len, a, b, 0) :: code) L [.int x] h P ↔ P (some (.int x)) h := Z_iret rfl
theorem Q_X6_letterAt_r {a : Nat} {x : Nat} : Z M_X6_letterAt ((pc, .areturn, len, a, b, 0) :: code) L [.ref x] h P ↔ P (some (.ref x)) h := Z_aret rfl
theorem Q_X6_letterAt_q {a : Nat} {x : Option Nat} : Z M_X6_letterAt ((pc, .areturn, len, a, b, 0) :: code) L [va_rf x] h P ↔ P (some (va_rf x)) h := Z_aretq rfl
theorem Q_X6_letterAt_n {a : Nat}  : Z M_X6_letterAt ((pc, .areturn, len, a, b, 0) :: code) L [.null] h P ↔ P (some .null) h := Z_aretn rfl
theorem Q_X6_bringIn {a : Nat}  : Z M_X6_bringIn ((pc, .return_, len, a, b, 0) :: code) L [] h P ↔ P none h := Z_ret rfl
theorem Q_X6_bringOut {a : Nat}  : Z M_X6_bringOut ((pc, .return_, len, a, b, 0) :: code) L [] h P ↔ P none h := Z_ret rfl
theorem Q_X6_letterOf_r {a : Nat} {x : Nat} : Z M_X6_letterOf ((pc, .areturn, len, a, b, 0) :: code) L [.ref x] h P ↔ P (some (.ref x)) h := Z_aret rfl
theorem Q_X6_letterOf_q {a : Nat} {x : Option Nat} : Z M_X6_letterOf ((pc, .areturn, len, a, b, 0) :: code) L [va_rf x] h P ↔ P (some (va_rf x)) h := Z_aretq rfl
theorem Q_X6_letterOf_n {a : Nat}  : Z M_X6_letterOf ((pc, .areturn, len, a, b, 0) :: code) L [.null] h P ↔ P (some .null) h := Z_aretn rfl
theorem Q_X7_init {a : Nat}  : Z M_X7_init ((pc, .return_, len, a, b, 0) :: code) L [] h P ↔ P none h := Z_ret rfl
theorem Q_X7_isFull_0 {a : Nat}  : Z M_X7_isFull ((pc, .ireturn, len, a, b, 0) :: code) L [.int (nI 0)] h P ↔ P (some (.int (nI 0))) h := Z_zret rfl (Or.inl rfl)
theorem Q_X7_isFull_1 {a : Nat}  : Z M_X7_isFull ((pc, .ireturn, len, a, b, 0) :: code) L [.int (nI 1)] h P ↔ P (some (.int (nI 1))) h := Z_zret rfl (Or.inr rfl)
theorem Q_X7_send {a : Nat}  : Z M_X7_send ((pc, .return_, len, a, b, 0) :: code) L [] h P ↔ P none h := Z_ret rfl
theorem Q_X8_init {a : Nat}  : Z M_X8_init ((pc, .return_, len, a, b, 0) :: code) L [] h P ↔ P none h := Z_ret rfl
theorem Q_X8_add {a : Nat} {x : Int32} : Z M_X8_add ((pc, .ireturn, len, a, b, 0) :: code) L [.int x] h P ↔ P (some (.int x)) h := Z_iret rfl
theorem Q_X8_put {a : Nat} {x : Int32} : Z M_X8_put ((pc, .ireturn, len, a, b, 0) :: code) L [.int x] h P ↔ P (some (.int x)) h := Z_iret rfl
theorem Q_X8_take {a : Nat} {x : Int32} : Z M_X8_take ((pc, .ireturn, len, a, b, 0) :: code) L [.int x] h P ↔ P (some (.int x)) h := Z_iret rfl
theorem Q_X8_write {a : Nat} {x : Int32} : Z M_X8_write ((pc, .ireturn, len, a, b, 0) :: code) L [.int x] h P ↔ P (some (.int x)) h := Z_iret rfl
theorem Q_X8_insert {a : Nat} {x : Int32} : Z M_X8_insert ((pc, .ireturn, len, a, b, 0) :: code) L [.int x] h P ↔ P (some (.int x)) h := Z_iret rfl
theorem Q_X8_remove {a : Nat} {x : Int32} : Z M_X8_remove ((pc, .ireturn, len, a, b, 0) :: code) L [.int x] h P ↔ P (some (.int x)) h := Z_iret rfl
theorem Q_X8_deliver {a : Nat} {x : Int32} : Z M_X8_deliver ((pc, .ireturn, len, a, b, 0) :: code) L [.int x] h P ↔ P (some (.int x)) h := Z_iret rfl
theorem Q_X8_copy {a : Nat} {x : Int32} : Z M_X8_copy ((pc, .ireturn, len, a, b, 0) :: code) L [.int x] h P ↔ P (some (.int x)) h := Z_iret rfl
theorem Q_X8_lose {a : Nat} {x : Int32} : Z M_X8_lose ((pc, .ireturn, len, a, b, 0) :: code) L [.int x] h P ↔ P (some (.int x)) h := Z_iret rfl
theorem Q_X8_ask {a : Nat} {x : Int32} : Z M_X8_ask ((pc, .ireturn, len, a, b, 0) :: code) L [.int x] h P ↔ P (some (.int x)) h := Z_iret rfl
theorem Q_X8_tell {a : Nat} {x : Int32} : Z M_X8_tell ((pc, .ireturn, len, a, b, 0) :: code) L [.int x] h P ↔ P (some (.int x)) h := Z_iret rfl
theorem Q_X8_power {a : Nat} {x : Int32} : Z M_X8_power ((pc, .ireturn, len, a, b, 0) :: code) L [.int x] h P ↔ P (some (.int x)) h := Z_iret rfl
theorem Q_X8_counter {a : Nat} {x : Int32} : Z M_X8_counter ((pc, .ireturn, len, a, b, 0) :: code) L [.int x] h P ↔ P (some (.int x)) h := Z_iret rfl
theorem Q_X8_has {a : Nat} {x : Int32} : Z M_X8_has ((pc, .ireturn, len, a, b, 0) :: code) L [.int x] h P ↔ P (some (.int x)) h := Z_iret rfl
theorem Q_X8_size {a : Nat} {x : Int32} : Z M_X8_size ((pc, .ireturn, len, a, b, 0) :: code) L [.int x] h P ↔ P (some (.int x)) h := Z_iret rfl
theorem Q_X8_register {a : Nat} {x : Int32} : Z M_X8_register ((pc, .ireturn, len, a, b, 0) :: code) L [.int x] h P ↔ P (some (.int x)) h := Z_iret rfl
theorem Q_X8_length {a : Nat} {x : Int32} : Z M_X8_length ((pc, .ireturn, len, a, b, 0) :: code) L [.int x] h P ↔ P (some (.int x)) h := Z_iret rfl
theorem Q_X8_character {a : Nat} {x : Int32} : Z M_X8_character ((pc, .ireturn, len, a, b, 0) :: code) L [.int x] h P ↔ P (some (.int x)) h := Z_iret rfl
theorem Q_X8_clock {a : Nat} {x : Int32} : Z M_X8_clock ((pc, .ireturn, len, a, b, 0) :: code) L [.int x] h P ↔ P (some (.int x)) h := Z_iret rfl
theorem Q_X8_knows {a : Nat} {x : Int32} : Z M_X8_knows ((pc, .ireturn, len, a, b, 0) :: code) L [.int x] h P ↔ P (some (.int x)) h := Z_iret rfl
theorem Q_X8_count {a : Nat} {x : Int32} : Z M_X8_count ((pc, .ireturn, len, a, b, 0) :: code) L [.int x] h P ↔ P (some (.int x)) h := Z_iret rfl
theorem Q_X8_message {a : Nat} {x : Int32} : Z M_X8_message ((pc, .ireturn, len, a, b, 0) :: code) L [.int x] h P ↔ P (some (.int x)) h := Z_iret rfl
theorem Q_X8_way {a : Nat} {x : Int32} : Z M_X8_way ((pc, .ireturn, len, a, b, 0) :: code) L [.int x] h P ↔ P (some (.int x)) h := Z_iret rfl
theorem Q_X8_isReplica_0 {a : Nat}  : Z M_X8_isReplica ((pc, .ireturn, len, a, b, 0) :: code) L [.int (nI 0)] h P ↔ P (some (.int (nI 0))) h := Z_zret rfl (Or.inl rfl)
theorem Q_X8_isReplica_1 {a : Nat}  : Z M_X8_isReplica ((pc, .ireturn, len, a, b, 0) :: code) L [.int (nI 1)] h P ↔ P (some (.int (nI 1))) h := Z_zret rfl (Or.inr rfl)
theorem Q_X8_isOfPair_0 {a : Nat}  : Z M_X8_isOfPair ((pc, .ireturn, len, a, b, 0) :: code) L [.int (nI 0)] h P ↔ P (some (.int (nI 0))) h := Z_zret rfl (Or.inl rfl)
theorem Q_X8_isOfPair_1 {a : Nat}  : Z M_X8_isOfPair ((pc, .ireturn, len, a, b, 0) :: code) L [.int (nI 1)] h P ↔ P (some (.int (nI 1))) h := Z_zret rfl (Or.inr rfl)
theorem Q_X8_isElement_0 {a : Nat}  : Z M_X8_isElement ((pc, .ireturn, len, a, b, 0) :: code) L [.int (nI 0)] h P ↔ P (some (.int (nI 0))) h := Z_zret rfl (Or.inl rfl)
theorem Q_X8_isElement_1 {a : Nat}  : Z M_X8_isElement ((pc, .ireturn, len, a, b, 0) :: code) L [.int (nI 1)] h P ↔ P (some (.int (nI 1))) h := Z_zret rfl (Or.inr rfl)
theorem Q_X8_isCharacter_0 {a : Nat}  : Z M_X8_isCharacter ((pc, .ireturn, len, a, b, 0) :: code) L [.int (nI 0)] h P ↔ P (some (.int (nI 0))) h := Z_zret rfl (Or.inl rfl)
theorem Q_X8_isCharacter_1 {a : Nat}  : Z M_X8_isCharacter ((pc, .ireturn, len, a, b, 0) :: code) L [.int (nI 1)] h P ↔ P (some (.int (nI 1))) h := Z_zret rfl (Or.inr rfl)
theorem Q_X8_isWay_0 {a : Nat}  : Z M_X8_isWay ((pc, .ireturn, len, a, b, 0) :: code) L [.int (nI 0)] h P ↔ P (some (.int (nI 0))) h := Z_zret rfl (Or.inl rfl)
theorem Q_X8_isWay_1 {a : Nat}  : Z M_X8_isWay ((pc, .ireturn, len, a, b, 0) :: code) L [.int (nI 1)] h P ↔ P (some (.int (nI 1))) h := Z_zret rfl (Or.inr rfl)
theorem Q_X8_oneIf {a : Nat} {x : Int32} : Z M_X8_oneIf ((pc, .ireturn, len, a, b, 0) :: code) L [.int x] h P ↔ P (some (.int x)) h := Z_iret rfl
theorem Q_X8_isOnWay_0 {a : Nat}  : Z M_X8_isOnWay ((pc, .ireturn, len, a, b, 0) :: code) L [.int (nI 0)] h P ↔ P (some (.int (nI 0))) h := Z_zret rfl (Or.inl rfl)
theorem Q_X8_isOnWay_1 {a : Nat}  : Z M_X8_isOnWay ((pc, .ireturn, len, a, b, 0) :: code) L [.int (nI 1)] h P ↔ P (some (.int (nI 1))) h := Z_zret rfl (Or.inr rfl)
theorem Q_X8_wayBetween_r {a : Nat} {x : Nat} : Z M_X8_wayBetween ((pc, .areturn, len, a, b, 0) :: code) L [.ref x] h P ↔ P (some (.ref x)) h := Z_aret rfl
theorem Q_X8_wayBetween_q {a : Nat} {x : Option Nat} : Z M_X8_wayBetween ((pc, .areturn, len, a, b, 0) :: code) L [va_rf x] h P ↔ P (some (va_rf x)) h := Z_aretq rfl
theorem Q_X8_wayBetween_n {a : Nat}  : Z M_X8_wayBetween ((pc, .areturn, len, a, b, 0) :: code) L [.null] h P ↔ P (some .null) h := Z_aretn rfl
theorem Q_X8_operate {a : Nat} {x : Int32} : Z M_X8_operate ((pc, .ireturn, len, a, b, 0) :: code) L [.int x] h P ↔ P (some (.int x)) h := Z_iret rfl
theorem Q_X8_sendClock {a : Nat} {x : Int32} : Z M_X8_sendClock ((pc, .ireturn, len, a, b, 0) :: code) L [.int x] h P ↔ P (some (.int x)) h := Z_iret rfl
theorem Q_X8_answer {a : Nat}  : Z M_X8_answer ((pc, .return_, len, a, b, 0) :: code) L [] h P ↔ P none h := Z_ret rfl
theorem Q_X9_init {a : Nat}  : Z M_X9_init ((pc, .return_, len, a, b, 0) :: code) L [] h P ↔ P none h := Z_ret rfl
theorem Q_X9_in_0 {a : Nat}  : Z M_X9_in ((pc, .ireturn, len, a, b, 0) :: code) L [.int (nI 0)] h P ↔ P (some (.int (nI 0))) h := Z_zret rfl (Or.inl rfl)
theorem Q_X9_in_1 {a : Nat}  : Z M_X9_in ((pc, .ireturn, len, a, b, 0) :: code) L [.int (nI 1)] h P ↔ P (some (.int (nI 1))) h := Z_zret rfl (Or.inr rfl)
theorem Q_X9_isReplica_0 {a : Nat}  : Z M_X9_isReplica ((pc, .ireturn, len, a, b, 0) :: code) L [.int (nI 0)] h P ↔ P (some (.int (nI 0))) h := Z_zret rfl (Or.inl rfl)
theorem Q_X9_isReplica_1 {a : Nat}  : Z M_X9_isReplica ((pc, .ireturn, len, a, b, 0) :: code) L [.int (nI 1)] h P ↔ P (some (.int (nI 1))) h := Z_zret rfl (Or.inr rfl)
theorem Q_X9_isTwo_0 {a : Nat}  : Z M_X9_isTwo ((pc, .ireturn, len, a, b, 0) :: code) L [.int (nI 0)] h P ↔ P (some (.int (nI 0))) h := Z_zret rfl (Or.inl rfl)
theorem Q_X9_isTwo_1 {a : Nat}  : Z M_X9_isTwo ((pc, .ireturn, len, a, b, 0) :: code) L [.int (nI 1)] h P ↔ P (some (.int (nI 1))) h := Z_zret rfl (Or.inr rfl)
theorem Q_X9_ownerOf {a : Nat} {x : Int32} : Z M_X9_ownerOf ((pc, .ireturn, len, a, b, 0) :: code) L [.int x] h P ↔ P (some (.int x)) h := Z_iret rfl
theorem Q_X9_numberOf {a : Nat} {x : Int32} : Z M_X9_numberOf ((pc, .ireturn, len, a, b, 0) :: code) L [.int x] h P ↔ P (some (.int x)) h := Z_iret rfl
theorem Q_X9_isBefore_0 {a : Nat}  : Z M_X9_isBefore ((pc, .ireturn, len, a, b, 0) :: code) L [.int (nI 0)] h P ↔ P (some (.int (nI 0))) h := Z_zret rfl (Or.inl rfl)
theorem Q_X9_isBefore_1 {a : Nat}  : Z M_X9_isBefore ((pc, .ireturn, len, a, b, 0) :: code) L [.int (nI 1)] h P ↔ P (some (.int (nI 1))) h := Z_zret rfl (Or.inr rfl)
theorem Q_X9_hasGreaterMark_0 {a : Nat}  : Z M_X9_hasGreaterMark ((pc, .ireturn, len, a, b, 0) :: code) L [.int (nI 0)] h P ↔ P (some (.int (nI 0))) h := Z_zret rfl (Or.inl rfl)
theorem Q_X9_hasGreaterMark_1 {a : Nat}  : Z M_X9_hasGreaterMark ((pc, .ireturn, len, a, b, 0) :: code) L [.int (nI 1)] h P ↔ P (some (.int (nI 1))) h := Z_zret rfl (Or.inr rfl)
theorem Q_X9_was_0 {a : Nat}  : Z M_X9_was ((pc, .ireturn, len, a, b, 0) :: code) L [.int (nI 0)] h P ↔ P (some (.int (nI 0))) h := Z_zret rfl (Or.inl rfl)
theorem Q_X9_was_1 {a : Nat}  : Z M_X9_was ((pc, .ireturn, len, a, b, 0) :: code) L [.int (nI 1)] h P ↔ P (some (.int (nI 1))) h := Z_zret rfl (Or.inr rfl)
theorem Q_X9_doOperation {a : Nat}  : Z M_X9_doOperation ((pc, .return_, len, a, b, 0) :: code) L [] h P ↔ P none h := Z_ret rfl
theorem Q_X9_newOperation {a : Nat} {x : Int32} : Z M_X9_newOperation ((pc, .ireturn, len, a, b, 0) :: code) L [.int x] h P ↔ P (some (.int x)) h := Z_iret rfl
theorem Q_X9_add {a : Nat} {x : Int32} : Z M_X9_add ((pc, .ireturn, len, a, b, 0) :: code) L [.int x] h P ↔ P (some (.int x)) h := Z_iret rfl
theorem Q_X9_isElement_0 {a : Nat}  : Z M_X9_isElement ((pc, .ireturn, len, a, b, 0) :: code) L [.int (nI 0)] h P ↔ P (some (.int (nI 0))) h := Z_zret rfl (Or.inl rfl)
theorem Q_X9_isElement_1 {a : Nat}  : Z M_X9_isElement ((pc, .ireturn, len, a, b, 0) :: code) L [.int (nI 1)] h P ↔ P (some (.int (nI 1))) h := Z_zret rfl (Or.inr rfl)
theorem Q_X9_put {a : Nat} {x : Int32} : Z M_X9_put ((pc, .ireturn, len, a, b, 0) :: code) L [.int x] h P ↔ P (some (.int x)) h := Z_iret rfl
theorem Q_X9_take {a : Nat} {x : Int32} : Z M_X9_take ((pc, .ireturn, len, a, b, 0) :: code) L [.int x] h P ↔ P (some (.int x)) h := Z_iret rfl
theorem Q_X9_write {a : Nat} {x : Int32} : Z M_X9_write ((pc, .ireturn, len, a, b, 0) :: code) L [.int x] h P ↔ P (some (.int x)) h := Z_iret rfl
theorem Q_X9_insert {a : Nat} {x : Int32} : Z M_X9_insert ((pc, .ireturn, len, a, b, 0) :: code) L [.int x] h P ↔ P (some (.int x)) h := Z_iret rfl
theorem Q_X9_remove {a : Nat} {x : Int32} : Z M_X9_remove ((pc, .ireturn, len, a, b, 0) :: code) L [.int x] h P ↔ P (some (.int x)) h := Z_iret rfl
theorem Q_X9_counter {a : Nat} {x : Int32} : Z M_X9_counter ((pc, .ireturn, len, a, b, 0) :: code) L [.int x] h P ↔ P (some (.int x)) h := Z_iret rfl
theorem Q_X9_isTaken_0 {a : Nat}  : Z M_X9_isTaken ((pc, .ireturn, len, a, b, 0) :: code) L [.int (nI 0)] h P ↔ P (some (.int (nI 0))) h := Z_zret rfl (Or.inl rfl)
theorem Q_X9_isTaken_1 {a : Nat}  : Z M_X9_isTaken ((pc, .ireturn, len, a, b, 0) :: code) L [.int (nI 1)] h P ↔ P (some (.int (nI 1))) h := Z_zret rfl (Or.inr rfl)
theorem Q_X9_has {a : Nat} {x : Int32} : Z M_X9_has ((pc, .ireturn, len, a, b, 0) :: code) L [.int x] h P ↔ P (some (.int x)) h := Z_iret rfl
theorem Q_X9_size {a : Nat} {x : Int32} : Z M_X9_size ((pc, .ireturn, len, a, b, 0) :: code) L [.int x] h P ↔ P (some (.int x)) h := Z_iret rfl
theorem Q_X9_register {a : Nat} {x : Int32} : Z M_X9_register ((pc, .ireturn, len, a, b, 0) :: code) L [.int x] h P ↔ P (some (.int x)) h := Z_iret rfl
theorem Q_X9_isRemoved_0 {a : Nat}  : Z M_X9_isRemoved ((pc, .ireturn, len, a, b, 0) :: code) L [.int (nI 0)] h P ↔ P (some (.int (nI 0))) h := Z_zret rfl (Or.inl rfl)
theorem Q_X9_isRemoved_1 {a : Nat}  : Z M_X9_isRemoved ((pc, .ireturn, len, a, b, 0) :: code) L [.int (nI 1)] h P ↔ P (some (.int (nI 1))) h := Z_zret rfl (Or.inr rfl)
theorem Q_X9_pileUp {a : Nat} {x : Int32} : Z M_X9_pileUp ((pc, .ireturn, len, a, b, 0) :: code) L [.int x] h P ↔ P (some (.int x)) h := Z_iret rfl
theorem Q_X9_lay {a : Nat}  : Z M_X9_lay ((pc, .return_, len, a, b, 0) :: code) L [] h P ↔ P none h := Z_ret rfl
theorem Q_X9_length {a : Nat} {x : Int32} : Z M_X9_length ((pc, .ireturn, len, a, b, 0) :: code) L [.int x] h P ↔ P (some (.int x)) h := Z_iret rfl
theorem Q_X9_character {a : Nat} {x : Int32} : Z M_X9_character ((pc, .ireturn, len, a, b, 0) :: code) L [.int x] h P ↔ P (some (.int x)) h := Z_iret rfl
theorem Q_X9_isWay_0 {a : Nat}  : Z M_X9_isWay ((pc, .ireturn, len, a, b, 0) :: code) L [.int (nI 0)] h P ↔ P (some (.int (nI 0))) h := Z_zret rfl (Or.inl rfl)
theorem Q_X9_isWay_1 {a : Nat}  : Z M_X9_isWay ((pc, .ireturn, len, a, b, 0) :: code) L [.int (nI 1)] h P ↔ P (some (.int (nI 1))) h := Z_zret rfl (Or.inr rfl)
theorem Q_X9_isMessage_0 {a : Nat}  : Z M_X9_isMessage ((pc, .ireturn, len, a, b, 0) :: code) L [.int (nI 0)] h P ↔ P (some (.int (nI 0))) h := Z_zret rfl (Or.inl rfl)
theorem Q_X9_isMessage_1 {a : Nat}  : Z M_X9_isMessage ((pc, .ireturn, len, a, b, 0) :: code) L [.int (nI 1)] h P ↔ P (some (.int (nI 1))) h := Z_zret rfl (Or.inr rfl)
theorem Q_X9_send {a : Nat}  : Z M_X9_send ((pc, .return_, len, a, b, 0) :: code) L [] h P ↔ P none h := Z_ret rfl
theorem Q_X9_sendOperation {a : Nat}  : Z M_X9_sendOperation ((pc, .return_, len, a, b, 0) :: code) L [] h P ↔ P none h := Z_ret rfl
theorem Q_X9_moveMessage {a : Nat}  : Z M_X9_moveMessage ((pc, .return_, len, a, b, 0) :: code) L [] h P ↔ P none h := Z_ret rfl
theorem Q_X9_drop {a : Nat}  : Z M_X9_drop ((pc, .return_, len, a, b, 0) :: code) L [] h P ↔ P none h := Z_ret rfl
theorem Q_X9_knowsOf {a : Nat} {x : Int32} : Z M_X9_knowsOf ((pc, .ireturn, len, a, b, 0) :: code) L [.int x] h P ↔ P (some (.int x)) h := Z_iret rfl
theorem Q_X9_isLogged_0 {a : Nat}  : Z M_X9_isLogged ((pc, .ireturn, len, a, b, 0) :: code) L [.int (nI 0)] h P ↔ P (some (.int (nI 0))) h := Z_zret rfl (Or.inl rfl)
theorem Q_X9_isLogged_1 {a : Nat}  : Z M_X9_isLogged ((pc, .ireturn, len, a, b, 0) :: code) L [.int (nI 1)] h P ↔ P (some (.int (nI 1))) h := Z_zret rfl (Or.inr rfl)
theorem Q_X9_isReady_0 {a : Nat}  : Z M_X9_isReady ((pc, .ireturn, len, a, b, 0) :: code) L [.int (nI 0)] h P ↔ P (some (.int (nI 0))) h := Z_zret rfl (Or.inl rfl)
theorem Q_X9_isReady_1 {a : Nat}  : Z M_X9_isReady ((pc, .ireturn, len, a, b, 0) :: code) L [.int (nI 1)] h P ↔ P (some (.int (nI 1))) h := Z_zret rfl (Or.inr rfl)
theorem Q_X9_firstReady {a : Nat} {x : Int32} : Z M_X9_firstReady ((pc, .ireturn, len, a, b, 0) :: code) L [.int x] h P ↔ P (some (.int x)) h := Z_iret rfl
theorem Q_X9_isWaiting_0 {a : Nat}  : Z M_X9_isWaiting ((pc, .ireturn, len, a, b, 0) :: code) L [.int (nI 0)] h P ↔ P (some (.int (nI 0))) h := Z_zret rfl (Or.inl rfl)
theorem Q_X9_isWaiting_1 {a : Nat}  : Z M_X9_isWaiting ((pc, .ireturn, len, a, b, 0) :: code) L [.int (nI 1)] h P ↔ P (some (.int (nI 1))) h := Z_zret rfl (Or.inr rfl)
theorem Q_X9_take_ {a : Nat} {x : Int32} : Z M_X9_take_ ((pc, .ireturn, len, a, b, 0) :: code) L [.int x] h P ↔ P (some (.int x)) h := Z_iret rfl
theorem Q_X9_answer {a : Nat}  : Z M_X9_answer ((pc, .return_, len, a, b, 0) :: code) L [] h P ↔ P none h := Z_ret rfl
theorem Q_X9_deliver {a : Nat} {x : Int32} : Z M_X9_deliver ((pc, .ireturn, len, a, b, 0) :: code) L [.int x] h P ↔ P (some (.int x)) h := Z_iret rfl
theorem Q_X9_copy {a : Nat} {x : Int32} : Z M_X9_copy ((pc, .ireturn, len, a, b, 0) :: code) L [.int x] h P ↔ P (some (.int x)) h := Z_iret rfl
theorem Q_X9_lose {a : Nat} {x : Int32} : Z M_X9_lose ((pc, .ireturn, len, a, b, 0) :: code) L [.int x] h P ↔ P (some (.int x)) h := Z_iret rfl
theorem Q_X9_speak {a : Nat} {x : Int32} : Z M_X9_speak ((pc, .ireturn, len, a, b, 0) :: code) L [.int x] h P ↔ P (some (.int x)) h := Z_iret rfl
theorem Q_X9_ask {a : Nat} {x : Int32} : Z M_X9_ask ((pc, .ireturn, len, a, b, 0) :: code) L [.int x] h P ↔ P (some (.int x)) h := Z_iret rfl
theorem Q_X9_tell {a : Nat} {x : Int32} : Z M_X9_tell ((pc, .ireturn, len, a, b, 0) :: code) L [.int x] h P ↔ P (some (.int x)) h := Z_iret rfl
theorem Q_X9_power {a : Nat} {x : Int32} : Z M_X9_power ((pc, .ireturn, len, a, b, 0) :: code) L [.int x] h P ↔ P (some (.int x)) h := Z_iret rfl
theorem Q_X9_clock {a : Nat} {x : Int32} : Z M_X9_clock ((pc, .ireturn, len, a, b, 0) :: code) L [.int x] h P ↔ P (some (.int x)) h := Z_iret rfl
theorem Q_X9_knows {a : Nat} {x : Int32} : Z M_X9_knows ((pc, .ireturn, len, a, b, 0) :: code) L [.int x] h P ↔ P (some (.int x)) h := Z_iret rfl
theorem Q_X9_charactersOf {a : Nat} {x : Int32} : Z M_X9_charactersOf ((pc, .ireturn, len, a, b, 0) :: code) L [.int x] h P ↔ P (some (.int x)) h := Z_iret rfl
theorem Q_X9_count {a : Nat} {x : Int32} : Z M_X9_count ((pc, .ireturn, len, a, b, 0) :: code) L [.int x] h P ↔ P (some (.int x)) h := Z_iret rfl
theorem Q_X9_message {a : Nat} {x : Int32} : Z M_X9_message ((pc, .ireturn, len, a, b, 0) :: code) L [.int x] h P ↔ P (some (.int x)) h := Z_iret rfl
theorem Q_X9_way {a : Nat} {x : Int32} : Z M_X9_way ((pc, .ireturn, len, a, b, 0) :: code) L [.int x] h P ↔ P (some (.int x)) h := Z_iret rfl
theorem Q_J6_bitCount_0f7a4 {a : Nat} {x : Int32} : Z M_J6_bitCount_0f7a4 ((pc, .ireturn, len, a, b, 0) :: code) L [.int x] h P ↔ P (some (.int x)) h := Z_iret rfl
theorem Q_Jxa1e45_init_da8c8 {a : Nat}  : Z M_Jxa1e45_init_da8c8 ((pc, .return_, len, a, b, 0) :: code) L [] h P ↔ P none h := Z_ret rfl
theorem Q_Jxc12de_init_da8c8 {a : Nat}  : Z M_Jxc12de_init_da8c8 ((pc, .return_, len, a, b, 0) :: code) L [] h P ↔ P none h := Z_ret rfl
theorem Q_AL_init_da8c8 {a : Nat}  : Z M_AL_init_da8c8 ((pc, .return_, len, a, b, 0) :: code) L [] h P ↔ P none h := Z_ret rfl
theorem Q_AL_grow_92f84_r {a : Nat} {x : Nat} : Z M_AL_grow_92f84 ((pc, .areturn, len, a, b, 0) :: code) L [.ref x] h P ↔ P (some (.ref x)) h := Z_aretA rfl
theorem Q_AL_grow_d5877_r {a : Nat} {x : Nat} : Z M_AL_grow_d5877 ((pc, .areturn, len, a, b, 0) :: code) L [.ref x] h P ↔ P (some (.ref x)) h := Z_aretA rfl
theorem Q_AL_size_8abf5 {a : Nat} {x : Int32} : Z M_AL_size_8abf5 ((pc, .ireturn, len, a, b, 0) :: code) L [.int x] h P ↔ P (some (.int x)) h := Z_iret rfl
theorem Q_AL_isEmpty_aae02_0 {a : Nat}  : Z M_AL_isEmpty_aae02 ((pc, .ireturn, len, a, b, 0) :: code) L [.int (nI 0)] h P ↔ P (some (.int (nI 0))) h := Z_zret rfl (Or.inl rfl)
theorem Q_AL_isEmpty_aae02_1 {a : Nat}  : Z M_AL_isEmpty_aae02 ((pc, .ireturn, len, a, b, 0) :: code) L [.int (nI 1)] h P ↔ P (some (.int (nI 1))) h := Z_zret rfl (Or.inr rfl)
theorem Q_AL_elementData_915e3_r {a : Nat} {x : Nat} : Z M_AL_elementData_915e3 ((pc, .areturn, len, a, b, 0) :: code) L [.ref x] h P ↔ P (some (.ref x)) h := Z_aret rfl
theorem Q_AL_elementData_915e3_q {a : Nat} {x : Option Nat} : Z M_AL_elementData_915e3 ((pc, .areturn, len, a, b, 0) :: code) L [va_rf x] h P ↔ P (some (va_rf x)) h := Z_aretq rfl
theorem Q_AL_elementData_915e3_n {a : Nat}  : Z M_AL_elementData_915e3 ((pc, .areturn, len, a, b, 0) :: code) L [.null] h P ↔ P (some .null) h := Z_aretn rfl
theorem Q_AL_get_915e3_r {a : Nat} {x : Nat} : Z M_AL_get_915e3 ((pc, .areturn, len, a, b, 0) :: code) L [.ref x] h P ↔ P (some (.ref x)) h := Z_aret rfl
theorem Q_AL_get_915e3_q {a : Nat} {x : Option Nat} : Z M_AL_get_915e3 ((pc, .areturn, len, a, b, 0) :: code) L [va_rf x] h P ↔ P (some (va_rf x)) h := Z_aretq rfl
theorem Q_AL_get_915e3_n {a : Nat}  : Z M_AL_get_915e3 ((pc, .areturn, len, a, b, 0) :: code) L [.null] h P ↔ P (some .null) h := Z_aretn rfl
theorem Q_AL_add_72be8 {a : Nat}  : Z M_AL_add_72be8 ((pc, .return_, len, a, b, 0) :: code) L [] h P ↔ P none h := Z_ret rfl
theorem Q_AL_add_9ea2d_0 {a : Nat}  : Z M_AL_add_9ea2d ((pc, .ireturn, len, a, b, 0) :: code) L [.int (nI 0)] h P ↔ P (some (.int (nI 0))) h := Z_zret rfl (Or.inl rfl)
theorem Q_AL_add_9ea2d_1 {a : Nat}  : Z M_AL_add_9ea2d ((pc, .ireturn, len, a, b, 0) :: code) L [.int (nI 1)] h P ↔ P (some (.int (nI 1))) h := Z_zret rfl (Or.inr rfl)
theorem Q_AL_remove_915e3_r {a : Nat} {x : Nat} : Z M_AL_remove_915e3 ((pc, .areturn, len, a, b, 0) :: code) L [.ref x] h P ↔ P (some (.ref x)) h := Z_aret rfl
theorem Q_AL_remove_915e3_q {a : Nat} {x : Option Nat} : Z M_AL_remove_915e3 ((pc, .areturn, len, a, b, 0) :: code) L [va_rf x] h P ↔ P (some (va_rf x)) h := Z_aretq rfl
theorem Q_AL_remove_915e3_n {a : Nat}  : Z M_AL_remove_915e3 ((pc, .areturn, len, a, b, 0) :: code) L [.null] h P ↔ P (some .null) h := Z_aretn rfl
theorem Q_AL_fastRemove_b59b0 {a : Nat}  : Z M_AL_fastRemove_b59b0 ((pc, .return_, len, a, b, 0) :: code) L [] h P ↔ P none h := Z_ret rfl
theorem Q_J7_copyOf_1904c_r {a : Nat} {x : Nat} : Z M_J7_copyOf_1904c ((pc, .areturn, len, a, b, 0) :: code) L [.ref x] h P ↔ P (some (.ref x)) h := Z_aretA rfl
theorem Q_J7_copyOf_6403c_r {a : Nat} {x : Nat} : Z M_J7_copyOf_6403c ((pc, .areturn, len, a, b, 0) :: code) L [.ref x] h P ↔ P (some (.ref x)) h := Z_aretA rfl
theorem Q_J15_checkIndex_7cf53 {a : Nat} {x : Int32} : Z M_J15_checkIndex_7cf53 ((pc, .ireturn, len, a, b, 0) :: code) L [.int x] h P ↔ P (some (.int x)) h := Z_iret rfl
theorem Q_J8_newLength_cabcc {a : Nat} {x : Int32} : Z M_J8_newLength_cabcc ((pc, .ireturn, len, a, b, 0) :: code) L [.int x] h P ↔ P (some (.int x)) h := Z_iret rfl
theorem Q_J8_hugeLength_7cf53 {a : Nat} {x : Int32} : Z M_J8_hugeLength_7cf53 ((pc, .ireturn, len, a, b, 0) :: code) L [.int x] h P ↔ P (some (.int x)) h := Z_iret rfl
theorem Q_J3_checkIndex_8e157 {a : Nat} {x : Int32} : Z M_J3_checkIndex_8e157 ((pc, .ireturn, len, a, b, 0) :: code) L [.int x] h P ↔ P (some (.int x)) h := Z_iret rfl
theorem Q_L_law_0 {a : Nat}  : Z M_L_law ((pc, .ireturn, len, a, b, 0) :: code) L [.int (nI 0)] h P ↔ P (some (.int (nI 0))) h := Z_zret rfl (Or.inl rfl)
theorem Q_L_law_1 {a : Nat}  : Z M_L_law ((pc, .ireturn, len, a, b, 0) :: code) L [.int (nI 1)] h P ↔ P (some (.int (nI 1))) h := Z_zret rfl (Or.inr rfl)
theorem R_L_law : mR M_L_law = some .boolean := rfl
end ZC
