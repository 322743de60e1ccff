/-! ===== BEGIN words of one list among another's, by their places ===== -/
theorem goodIn_r {big : List Cond} (ws : List Cond) (ps : List Nat) (hp : ws = ps.filterMap (fun i => big[i]?)) (h : ws.all goodWord = true) : GoodIn big ws := by
  intro w hw
  have h1 := List.all_eq_true.mp h w hw
  rw [hp] at hw
  obtain ⟨i, -, hi⟩ := List.mem_filterMap.mp hw
  have hm : w ∈ big := by first | exact List.mem_of_getElem? hi | exact List.getElem?_mem hi
  exact ⟨hm, good_of_word h1⟩
theorem goodIn_app {big a b : List Cond} (ha : GoodIn big a) (hb : GoodIn big b) : GoodIn big (a ++ b) := fun w h => (List.mem_append.mp h).elim (ha w) (hb w)
theorem goodIn_ca {big a b : List Cond} {c : Cond} (ha : GoodIn big (c :: a)) (hb : GoodIn big b) : GoodIn big (c :: (a ++ b)) := fun w h => (List.mem_cons.mp h).elim (fun e => ha w (List.mem_cons.mpr (Or.inl e))) (fun h => (List.mem_append.mp h).elim (fun h => ha w (List.mem_cons.mpr (Or.inr h))) (hb w))
theorem goodIn_sub {big ws : List Cond} (hm : ∀ w ∈ ws, w ∈ big) (h : ws.all goodWord = true) : GoodIn big ws := fun w hw => ⟨hm w hw, good_of_word (List.all_eq_true.mp h w hw)⟩
/-! ===== END ===== -/

/-! ===== BEGIN printed: names, fields, word lists, decode rows ===== -/
def RX0 : String := "ReplicaStore$Change"
def TX0 : u_T := fun k => match k with
  | 0 => ("ReplicaStore$Change", "kind", "I", true)
  | 1 => ("ReplicaStore$Change", "which", "I", true)
  | 2 => ("ReplicaStore$Change", "value", "I", true)
  | _ => ("ReplicaStore$Change", "target", "LReplicaStore$Operation;", true)
def tyX0 : Nat → FieldType := fun k => match k with
  | 0 => .int
  | 1 => .int
  | 2 => .int
  | _ => .object "ReplicaStore$Operation"
abbrev wsX00 : List Cond := u_ws RX0 TX0 4
theorem nmX0 : ∀ a, a < 4 → ∀ b, b < 4 → a ≠ b → (TX0 a).2.1 ≠ (TX0 b).2.1 := by decide +kernel
theorem tyX0_ok : ∀ k, k < 4 → parseFieldDescriptor (TX0 k).2.2.1 = some (tyX0 k) := by decide +kernel
abbrev cX0_init : ByteArray := prog_2_method_1_code
def yX0_init : MethodName := ⟨RX0, "<init>", "(IIILReplicaStore$Operation;)V"⟩
def RX1 : String := "ReplicaStore$Clock"
def TX1 : u_T := fun k => match k with
  | _ => ("ReplicaStore$Clock", "numbers", "[I", true)
def tyX1 : Nat → FieldType := fun k => match k with
  | _ => .array .int
abbrev wsX10 : List Cond := u_ws RX1 TX1 1
theorem nmX1 : ∀ a, a < 1 → ∀ b, b < 1 → a ≠ b → (TX1 a).2.1 ≠ (TX1 b).2.1 := by decide +kernel
theorem tyX1_ok : ∀ k, k < 1 → parseFieldDescriptor (TX1 k).2.2.1 = some (tyX1 k) := by decide +kernel
abbrev cX1_init : ByteArray := prog_3_method_1_code
def yX1_init : MethodName := ⟨RX1, "<init>", "([I)V"⟩
abbrev cX1_covers : ByteArray := prog_3_method_2_code
def yX1_covers : MethodName := ⟨RX1, "covers", "(LReplicaStore$Operation;)Z"⟩
abbrev cX1_raiseTo : ByteArray := prog_3_method_3_code
def yX1_raiseTo : MethodName := ⟨RX1, "raiseTo", "(LReplicaStore$Clock;)V"⟩
def RX2 : String := "ReplicaStore$Letter"
def TX2 : u_T := fun k => match k with
  | 0 => ("ReplicaStore$Letter", "origin", "LReplicaStore$Operation;", true)
  | 1 => ("ReplicaStore$Letter", "gone", "Z", false)
  | _ => ("ReplicaStore$Letter", "next", "LReplicaStore$Letter;", false)
def tyX2 : Nat → FieldType := fun k => match k with
  | 0 => .object "ReplicaStore$Operation"
  | 1 => .boolean
  | _ => .object "ReplicaStore$Letter"
abbrev wsX20 : List Cond := u_ws RX2 TX2 3
theorem nmX2 : ∀ a, a < 3 → ∀ b, b < 3 → a ≠ b → (TX2 a).2.1 ≠ (TX2 b).2.1 := by decide +kernel
theorem tyX2_ok : ∀ k, k < 3 → parseFieldDescriptor (TX2 k).2.2.1 = some (tyX2 k) := by decide +kernel
abbrev cX2_init : ByteArray := prog_4_method_1_code
def yX2_init : MethodName := ⟨RX2, "<init>", "(LReplicaStore$Operation;)V"⟩
def RX3 : String := "ReplicaStore$Message"
def TX3 : u_T := fun k => match k with
  | 0 => ("ReplicaStore$Message", "kind", "I", true)
  | 1 => ("ReplicaStore$Message", "sender", "I", true)
  | 2 => ("ReplicaStore$Message", "clock", "LReplicaStore$Clock;", true)
  | _ => ("ReplicaStore$Message", "operation", "LReplicaStore$Operation;", true)
def tyX3 : Nat → FieldType := fun k => match k with
  | 0 => .int
  | 1 => .int
  | 2 => .object "ReplicaStore$Clock"
  | _ => .object "ReplicaStore$Operation"
abbrev wsX30 : List Cond := u_ws RX3 TX3 4
theorem nmX3 : ∀ a, a < 4 → ∀ b, b < 4 → a ≠ b → (TX3 a).2.1 ≠ (TX3 b).2.1 := by decide +kernel
theorem tyX3_ok : ∀ k, k < 4 → parseFieldDescriptor (TX3 k).2.2.1 = some (tyX3 k) := by decide +kernel
abbrev cX3_init : ByteArray := prog_5_method_1_code
def yX3_init : MethodName := ⟨RX3, "<init>", "(LReplicaStore$Operation;)V"⟩
abbrev cX3_init_ : ByteArray := prog_5_method_2_code
def yX3_init_ : MethodName := ⟨RX3, "<init>", "(IILReplicaStore$Clock;)V"⟩
def RX4 : String := "ReplicaStore$Operation"
def TX4 : u_T := fun k => match k with
  | 0 => ("ReplicaStore$Operation", "change", "LReplicaStore$Change;", true)
  | 1 => ("ReplicaStore$Operation", "replica", "I", true)
  | 2 => ("ReplicaStore$Operation", "number", "I", true)
  | 3 => ("ReplicaStore$Operation", "time", "I", true)
  | _ => ("ReplicaStore$Operation", "clock", "LReplicaStore$Clock;", true)
def tyX4 : Nat → FieldType := fun k => match k with
  | 0 => .object "ReplicaStore$Change"
  | 1 => .int
  | 2 => .int
  | 3 => .int
  | _ => .object "ReplicaStore$Clock"
abbrev wsX40 : List Cond := u_ws RX4 TX4 5
theorem nmX4 : ∀ a, a < 5 → ∀ b, b < 5 → a ≠ b → (TX4 a).2.1 ≠ (TX4 b).2.1 := by decide +kernel
theorem tyX4_ok : ∀ k, k < 5 → parseFieldDescriptor (TX4 k).2.2.1 = some (tyX4 k) := by decide +kernel
abbrev cX4_init : ByteArray := prog_6_method_1_code
def yX4_init : MethodName := ⟨RX4, "<init>", "(LReplicaStore$Change;IILReplicaStore$Clock;)V"⟩
abbrev cX4_hasGreaterMarkThan : ByteArray := prog_6_method_2_code
def yX4_hasGreaterMarkThan : MethodName := ⟨RX4, "hasGreaterMarkThan", "(LReplicaStore$Operation;)Z"⟩
abbrev cX4_isOfSameElementAs : ByteArray := prog_6_method_3_code
def yX4_isOfSameElementAs : MethodName := ⟨RX4, "isOfSameElementAs", "(LReplicaStore$Operation;)Z"⟩
def RX5 : String := "ReplicaStore$Replica"
def TX5 : u_T := fun k => match k with
  | 0 => ("ReplicaStore$Replica", "self", "I", true)
  | 1 => ("ReplicaStore$Replica", "known", "[LReplicaStore$Clock;", true)
  | 2 => ("ReplicaStore$Replica", "sums", "[I", true)
  | 3 => ("ReplicaStore$Replica", "standingPuts", "Ljava/util/ArrayList;", true)
  | 4 => ("ReplicaStore$Replica", "written", "[LReplicaStore$Operation;", true)
  | 5 => ("ReplicaStore$Replica", "texts", "[LReplicaStore$Text;", true)
  | 6 => ("ReplicaStore$Replica", "log", "Ljava/util/ArrayList;", true)
  | 7 => ("ReplicaStore$Replica", "waiting", "Ljava/util/ArrayList;", true)
  | 8 => ("ReplicaStore$Replica", "time", "I", false)
  | _ => ("ReplicaStore$Replica", "up", "Z", false)
def tyX5 : Nat → FieldType := fun k => match k with
  | 0 => .int
  | 1 => .array (.object "ReplicaStore$Clock")
  | 2 => .array .int
  | 3 => .object "java/util/ArrayList"
  | 4 => .array (.object "ReplicaStore$Operation")
  | 5 => .array (.object "ReplicaStore$Text")
  | 6 => .object "java/util/ArrayList"
  | 7 => .object "java/util/ArrayList"
  | 8 => .int
  | _ => .boolean
abbrev wsX50 : List Cond := u_ws RX5 TX5 10
theorem nmX5 : ∀ a, a < 10 → ∀ b, b < 10 → a ≠ b → (TX5 a).2.1 ≠ (TX5 b).2.1 := by decide +kernel
theorem tyX5_ok : ∀ k, k < 10 → parseFieldDescriptor (TX5 k).2.2.1 = some (tyX5 k) := by decide +kernel
abbrev cX5_init : ByteArray := prog_7_method_1_code
def yX5_init : MethodName := ⟨RX5, "<init>", "(I)V"⟩
abbrev cX5_hasMostOperations : ByteArray := prog_7_method_2_code
def yX5_hasMostOperations : MethodName := ⟨RX5, "hasMostOperations", "()Z"⟩
abbrev cX5_ownClock : ByteArray := prog_7_method_3_code
def yX5_ownClock : MethodName := ⟨RX5, "ownClock", "()LReplicaStore$Clock;"⟩
abbrev cX5_elementBits : ByteArray := prog_7_method_4_code
def yX5_elementBits : MethodName := ⟨RX5, "elementBits", "(I)I"⟩
abbrev cX5_begin : ByteArray := prog_7_method_5_code
def yX5_begin : MethodName := ⟨RX5, "begin", "(LReplicaStore$Change;)LReplicaStore$Operation;"⟩
abbrev cX5_receive : ByteArray := prog_7_method_6_code
def yX5_receive : MethodName := ⟨RX5, "receive", "(LReplicaStore$Message;)I"⟩
abbrev cX5_isWaiting : ByteArray := prog_7_method_7_code
def yX5_isWaiting : MethodName := ⟨RX5, "isWaiting", "(LReplicaStore$Operation;)Z"⟩
abbrev cX5_finishWaiting : ByteArray := prog_7_method_8_code
def yX5_finishWaiting : MethodName := ⟨RX5, "finishWaiting", "()I"⟩
abbrev cX5_firstReady : ByteArray := prog_7_method_9_code
def yX5_firstReady : MethodName := ⟨RX5, "firstReady", "()I"⟩
abbrev cX5_isReady : ByteArray := prog_7_method_10_code
def yX5_isReady : MethodName := ⟨RX5, "isReady", "(LReplicaStore$Operation;)Z"⟩
abbrev cX5_finish : ByteArray := prog_7_method_11_code
def yX5_finish : MethodName := ⟨RX5, "finish", "(LReplicaStore$Operation;)V"⟩
abbrev cX5_apply : ByteArray := prog_7_method_12_code
def yX5_apply : MethodName := ⟨RX5, "apply", "(LReplicaStore$Operation;)V"⟩
abbrev cX5_dropPutsBefore : ByteArray := prog_7_method_13_code
def yX5_dropPutsBefore : MethodName := ⟨RX5, "dropPutsBefore", "(LReplicaStore$Operation;)V"⟩
abbrev cX5_keepGreaterMark : ByteArray := prog_7_method_14_code
def yX5_keepGreaterMark : MethodName := ⟨RX5, "keepGreaterMark", "(LReplicaStore$Operation;)V"⟩
abbrev cX5_isDoneEverywhere : ByteArray := prog_7_method_15_code
def yX5_isDoneEverywhere : MethodName := ⟨RX5, "isDoneEverywhere", "(LReplicaStore$Operation;)Z"⟩
abbrev cX5_shortenLog : ByteArray := prog_7_method_16_code
def yX5_shortenLog : MethodName := ⟨RX5, "shortenLog", "()V"⟩
def RX6 : String := "ReplicaStore$Text"
def TX6 : u_T := fun k => match k with
  | _ => ("ReplicaStore$Text", "beginning", "LReplicaStore$Letter;", true)
def tyX6 : Nat → FieldType := fun k => match k with
  | _ => .object "ReplicaStore$Letter"
abbrev wsX60 : List Cond := u_ws RX6 TX6 1
theorem nmX6 : ∀ a, a < 1 → ∀ b, b < 1 → a ≠ b → (TX6 a).2.1 ≠ (TX6 b).2.1 := by decide +kernel
theorem tyX6_ok : ∀ k, k < 1 → parseFieldDescriptor (TX6 k).2.2.1 = some (tyX6 k) := by decide +kernel
abbrev cX6_init : ByteArray := prog_8_method_1_code
def yX6_init : MethodName := ⟨RX6, "<init>", "()V"⟩
abbrev cX6_lettersEver : ByteArray := prog_8_method_2_code
def yX6_lettersEver : MethodName := ⟨RX6, "lettersEver", "()I"⟩
abbrev cX6_lettersThere : ByteArray := prog_8_method_3_code
def yX6_lettersThere : MethodName := ⟨RX6, "lettersThere", "()I"⟩
abbrev cX6_letterAt : ByteArray := prog_8_method_4_code
def yX6_letterAt : MethodName := ⟨RX6, "letterAt", "(I)LReplicaStore$Letter;"⟩
abbrev cX6_bringIn : ByteArray := prog_8_method_5_code
def yX6_bringIn : MethodName := ⟨RX6, "bringIn", "(LReplicaStore$Operation;)V"⟩
abbrev cX6_bringOut : ByteArray := prog_8_method_6_code
def yX6_bringOut : MethodName := ⟨RX6, "bringOut", "(LReplicaStore$Operation;)V"⟩
abbrev cX6_letterOf : ByteArray := prog_8_method_7_code
def yX6_letterOf : MethodName := ⟨RX6, "letterOf", "(LReplicaStore$Operation;)LReplicaStore$Letter;"⟩
def RX7 : String := "ReplicaStore$Way"
def TX7 : u_T := fun k => match k with
  | _ => ("ReplicaStore$Way", "messages", "Ljava/util/ArrayList;", true)
def tyX7 : Nat → FieldType := fun k => match k with
  | _ => .object "java/util/ArrayList"
abbrev wsX70 : List Cond := u_ws RX7 TX7 1
theorem nmX7 : ∀ a, a < 1 → ∀ b, b < 1 → a ≠ b → (TX7 a).2.1 ≠ (TX7 b).2.1 := by decide +kernel
theorem tyX7_ok : ∀ k, k < 1 → parseFieldDescriptor (TX7 k).2.2.1 = some (tyX7 k) := by decide +kernel
abbrev cX7_init : ByteArray := prog_9_method_1_code
def yX7_init : MethodName := ⟨RX7, "<init>", "()V"⟩
abbrev cX7_isFull : ByteArray := prog_9_method_2_code
def yX7_isFull : MethodName := ⟨RX7, "isFull", "()Z"⟩
abbrev cX7_send : ByteArray := prog_9_method_3_code
def yX7_send : MethodName := ⟨RX7, "send", "(LReplicaStore$Message;)V"⟩
def RX8 : String := "ReplicaStore"
def TX8 : u_T := fun k => match k with
  | 0 => ("ReplicaStore", "replicas", "[LReplicaStore$Replica;", true)
  | _ => ("ReplicaStore", "ways", "[LReplicaStore$Way;", true)
def tyX8 : Nat → FieldType := fun k => match k with
  | 0 => .array (.object "ReplicaStore$Replica")
  | _ => .array (.object "ReplicaStore$Way")
abbrev wsX80 : List Cond := u_ws RX8 TX8 2
theorem nmX8 : ∀ a, a < 2 → ∀ b, b < 2 → a ≠ b → (TX8 a).2.1 ≠ (TX8 b).2.1 := by decide +kernel
theorem tyX8_ok : ∀ k, k < 2 → parseFieldDescriptor (TX8 k).2.2.1 = some (tyX8 k) := by decide +kernel
abbrev cX8_init : ByteArray := prog_1_method_1_code
def yX8_init : MethodName := ⟨RX8, "<init>", "()V"⟩
abbrev cX8_add : ByteArray := prog_1_method_2_code
def yX8_add : MethodName := ⟨RX8, "add", "(III)I"⟩
abbrev cX8_put : ByteArray := prog_1_method_3_code
def yX8_put : MethodName := ⟨RX8, "put", "(III)I"⟩
abbrev cX8_take : ByteArray := prog_1_method_4_code
def yX8_take : MethodName := ⟨RX8, "take", "(III)I"⟩
abbrev cX8_write : ByteArray := prog_1_method_5_code
def yX8_write : MethodName := ⟨RX8, "write", "(III)I"⟩
abbrev cX8_insert : ByteArray := prog_1_method_6_code
def yX8_insert : MethodName := ⟨RX8, "insert", "(IIII)I"⟩
abbrev cX8_remove : ByteArray := prog_1_method_7_code
def yX8_remove : MethodName := ⟨RX8, "remove", "(III)I"⟩
abbrev cX8_deliver : ByteArray := prog_1_method_8_code
def yX8_deliver : MethodName := ⟨RX8, "deliver", "(III)I"⟩
abbrev cX8_copy : ByteArray := prog_1_method_9_code
def yX8_copy : MethodName := ⟨RX8, "copy", "(III)I"⟩
abbrev cX8_lose : ByteArray := prog_1_method_10_code
def yX8_lose : MethodName := ⟨RX8, "lose", "(III)I"⟩
abbrev cX8_ask : ByteArray := prog_1_method_11_code
def yX8_ask : MethodName := ⟨RX8, "ask", "(II)I"⟩
abbrev cX8_tell : ByteArray := prog_1_method_12_code
def yX8_tell : MethodName := ⟨RX8, "tell", "(II)I"⟩
abbrev cX8_power : ByteArray := prog_1_method_13_code
def yX8_power : MethodName := ⟨RX8, "power", "(IZ)I"⟩
abbrev cX8_counter : ByteArray := prog_1_method_14_code
def yX8_counter : MethodName := ⟨RX8, "counter", "(II)I"⟩
abbrev cX8_has : ByteArray := prog_1_method_15_code
def yX8_has : MethodName := ⟨RX8, "has", "(III)I"⟩
abbrev cX8_size : ByteArray := prog_1_method_16_code
def yX8_size : MethodName := ⟨RX8, "size", "(II)I"⟩
abbrev cX8_register : ByteArray := prog_1_method_17_code
def yX8_register : MethodName := ⟨RX8, "register", "(II)I"⟩
abbrev cX8_length : ByteArray := prog_1_method_18_code
def yX8_length : MethodName := ⟨RX8, "length", "(II)I"⟩
abbrev cX8_character : ByteArray := prog_1_method_19_code
def yX8_character : MethodName := ⟨RX8, "character", "(III)I"⟩
abbrev cX8_clock : ByteArray := prog_1_method_20_code
def yX8_clock : MethodName := ⟨RX8, "clock", "(II)I"⟩
abbrev cX8_knows : ByteArray := prog_1_method_21_code
def yX8_knows : MethodName := ⟨RX8, "knows", "(III)I"⟩
abbrev cX8_count : ByteArray := prog_1_method_22_code
def yX8_count : MethodName := ⟨RX8, "count", "(II)I"⟩
abbrev cX8_message : ByteArray := prog_1_method_23_code
def yX8_message : MethodName := ⟨RX8, "message", "(IIII)I"⟩
abbrev cX8_way : ByteArray := prog_1_method_24_code
def yX8_way : MethodName := ⟨RX8, "way", "(II)I"⟩
abbrev cX8_isReplica : ByteArray := prog_1_method_25_code
def yX8_isReplica : MethodName := ⟨RX8, "isReplica", "(I)Z"⟩
abbrev cX8_isOfPair : ByteArray := prog_1_method_26_code
def yX8_isOfPair : MethodName := ⟨RX8, "isOfPair", "(I)Z"⟩
abbrev cX8_isElement : ByteArray := prog_1_method_27_code
def yX8_isElement : MethodName := ⟨RX8, "isElement", "(I)Z"⟩
abbrev cX8_isCharacter : ByteArray := prog_1_method_28_code
def yX8_isCharacter : MethodName := ⟨RX8, "isCharacter", "(I)Z"⟩
abbrev cX8_isWay : ByteArray := prog_1_method_29_code
def yX8_isWay : MethodName := ⟨RX8, "isWay", "(II)Z"⟩
abbrev cX8_oneIf : ByteArray := prog_1_method_30_code
def yX8_oneIf : MethodName := ⟨RX8, "oneIf", "(Z)I"⟩
abbrev cX8_isOnWay : ByteArray := prog_1_method_31_code
def yX8_isOnWay : MethodName := ⟨RX8, "isOnWay", "(III)Z"⟩
abbrev cX8_wayBetween : ByteArray := prog_1_method_32_code
def yX8_wayBetween : MethodName := ⟨RX8, "wayBetween", "(II)LReplicaStore$Way;"⟩
abbrev cX8_operate : ByteArray := prog_1_method_33_code
def yX8_operate : MethodName := ⟨RX8, "operate", "(ILReplicaStore$Change;)I"⟩
abbrev cX8_sendClock : ByteArray := prog_1_method_34_code
def yX8_sendClock : MethodName := ⟨RX8, "sendClock", "(III)I"⟩
abbrev cX8_answer : ByteArray := prog_1_method_35_code
def yX8_answer : MethodName := ⟨RX8, "answer", "(IILReplicaStore$Clock;)V"⟩
def RX9 : String := "ReplicaStoreModel"
def TX9 : u_T := fun k => match k with
  | 0 => ("ReplicaStoreModel", "made", "[I", true)
  | 1 => ("ReplicaStoreModel", "kinds", "[I", true)
  | 2 => ("ReplicaStoreModel", "targets", "[I", true)
  | 3 => ("ReplicaStoreModel", "values", "[I", true)
  | 4 => ("ReplicaStoreModel", "behind", "[I", true)
  | 5 => ("ReplicaStoreModel", "times", "[I", true)
  | 6 => ("ReplicaStoreModel", "clocks", "[I", true)
  | 7 => ("ReplicaStoreModel", "isUp", "[Z", true)
  | 8 => ("ReplicaStoreModel", "own", "[I", true)
  | 9 => ("ReplicaStoreModel", "time", "[I", true)
  | 10 => ("ReplicaStoreModel", "doneMany", "[I", true)
  | 11 => ("ReplicaStoreModel", "done", "[I", true)
  | 12 => ("ReplicaStoreModel", "isDone", "[Z", true)
  | 13 => ("ReplicaStoreModel", "waitMany", "[I", true)
  | 14 => ("ReplicaStoreModel", "waiting", "[I", true)
  | 15 => ("ReplicaStoreModel", "known", "[I", true)
  | 16 => ("ReplicaStoreModel", "many", "[I", true)
  | 17 => ("ReplicaStoreModel", "messageKind", "[I", true)
  | 18 => ("ReplicaStoreModel", "messageOf", "[I", true)
  | 19 => ("ReplicaStoreModel", "messageClock", "[I", true)
  | 20 => ("ReplicaStoreModel", "order", "[I", true)
  | 21 => ("ReplicaStoreModel", "ordered", "I", false)
  | 22 => ("ReplicaStoreModel", "pile", "[I", true)
  | _ => ("ReplicaStoreModel", "asked", "[I", true)
def tyX9 : Nat → FieldType := fun k => match k with
  | 0 => .array .int
  | 1 => .array .int
  | 2 => .array .int
  | 3 => .array .int
  | 4 => .array .int
  | 5 => .array .int
  | 6 => .array .int
  | 7 => .array .boolean
  | 8 => .array .int
  | 9 => .array .int
  | 10 => .array .int
  | 11 => .array .int
  | 12 => .array .boolean
  | 13 => .array .int
  | 14 => .array .int
  | 15 => .array .int
  | 16 => .array .int
  | 17 => .array .int
  | 18 => .array .int
  | 19 => .array .int
  | 20 => .array .int
  | 21 => .int
  | 22 => .array .int
  | _ => .array .int
abbrev wsX90 : List Cond := u_ws RX9 TX9 24
theorem nmX9 : ∀ a, a < 24 → ∀ b, b < 24 → a ≠ b → (TX9 a).2.1 ≠ (TX9 b).2.1 := by decide +kernel
theorem tyX9_ok : ∀ k, k < 24 → parseFieldDescriptor (TX9 k).2.2.1 = some (tyX9 k) := by decide +kernel
abbrev cX9_init : ByteArray := prog_11_method_1_code
def yX9_init : MethodName := ⟨RX9, "<init>", "()V"⟩
abbrev cX9_in : ByteArray := prog_11_method_2_code
def yX9_in : MethodName := ⟨RX9, "in", "(III)Z"⟩
abbrev cX9_isReplica : ByteArray := prog_11_method_3_code
def yX9_isReplica : MethodName := ⟨RX9, "isReplica", "(I)Z"⟩
abbrev cX9_isTwo : ByteArray := prog_11_method_4_code
def yX9_isTwo : MethodName := ⟨RX9, "isTwo", "(I)Z"⟩
abbrev cX9_ownerOf : ByteArray := prog_11_method_5_code
def yX9_ownerOf : MethodName := ⟨RX9, "ownerOf", "(I)I"⟩
abbrev cX9_numberOf : ByteArray := prog_11_method_6_code
def yX9_numberOf : MethodName := ⟨RX9, "numberOf", "(I)I"⟩
abbrev cX9_isBefore : ByteArray := prog_11_method_7_code
def yX9_isBefore : MethodName := ⟨RX9, "isBefore", "(II)Z"⟩
abbrev cX9_hasGreaterMark : ByteArray := prog_11_method_8_code
def yX9_hasGreaterMark : MethodName := ⟨RX9, "hasGreaterMark", "(II)Z"⟩
abbrev cX9_was : ByteArray := prog_11_method_9_code
def yX9_was : MethodName := ⟨RX9, "was", "(II)Z"⟩
abbrev cX9_doOperation : ByteArray := prog_11_method_10_code
def yX9_doOperation : MethodName := ⟨RX9, "doOperation", "(II)V"⟩
abbrev cX9_newOperation : ByteArray := prog_11_method_11_code
def yX9_newOperation : MethodName := ⟨RX9, "newOperation", "(IIIII)I"⟩
abbrev cX9_add : ByteArray := prog_11_method_12_code
def yX9_add : MethodName := ⟨RX9, "add", "(III)I"⟩
abbrev cX9_isElement : ByteArray := prog_11_method_13_code
def yX9_isElement : MethodName := ⟨RX9, "isElement", "(III)Z"⟩
abbrev cX9_put : ByteArray := prog_11_method_14_code
def yX9_put : MethodName := ⟨RX9, "put", "(III)I"⟩
abbrev cX9_take : ByteArray := prog_11_method_15_code
def yX9_take : MethodName := ⟨RX9, "take", "(III)I"⟩
abbrev cX9_write : ByteArray := prog_11_method_16_code
def yX9_write : MethodName := ⟨RX9, "write", "(III)I"⟩
abbrev cX9_insert : ByteArray := prog_11_method_17_code
def yX9_insert : MethodName := ⟨RX9, "insert", "(IIII)I"⟩
abbrev cX9_remove : ByteArray := prog_11_method_18_code
def yX9_remove : MethodName := ⟨RX9, "remove", "(III)I"⟩
abbrev cX9_counter : ByteArray := prog_11_method_19_code
def yX9_counter : MethodName := ⟨RX9, "counter", "(II)I"⟩
abbrev cX9_isTaken : ByteArray := prog_11_method_20_code
def yX9_isTaken : MethodName := ⟨RX9, "isTaken", "(II)Z"⟩
abbrev cX9_has : ByteArray := prog_11_method_21_code
def yX9_has : MethodName := ⟨RX9, "has", "(III)I"⟩
abbrev cX9_size : ByteArray := prog_11_method_22_code
def yX9_size : MethodName := ⟨RX9, "size", "(II)I"⟩
abbrev cX9_register : ByteArray := prog_11_method_23_code
def yX9_register : MethodName := ⟨RX9, "register", "(II)I"⟩
abbrev cX9_isRemoved : ByteArray := prog_11_method_24_code
def yX9_isRemoved : MethodName := ⟨RX9, "isRemoved", "(II)Z"⟩
abbrev cX9_pileUp : ByteArray := prog_11_method_25_code
def yX9_pileUp : MethodName := ⟨RX9, "pileUp", "(IIII)I"⟩
abbrev cX9_lay : ByteArray := prog_11_method_26_code
def yX9_lay : MethodName := ⟨RX9, "lay", "(IIZ)V"⟩
abbrev cX9_length : ByteArray := prog_11_method_27_code
def yX9_length : MethodName := ⟨RX9, "length", "(II)I"⟩
abbrev cX9_character : ByteArray := prog_11_method_28_code
def yX9_character : MethodName := ⟨RX9, "character", "(III)I"⟩
abbrev cX9_isWay : ByteArray := prog_11_method_29_code
def yX9_isWay : MethodName := ⟨RX9, "isWay", "(II)Z"⟩
abbrev cX9_isMessage : ByteArray := prog_11_method_30_code
def yX9_isMessage : MethodName := ⟨RX9, "isMessage", "(III)Z"⟩
abbrev cX9_send : ByteArray := prog_11_method_31_code
def yX9_send : MethodName := ⟨RX9, "send", "(IIII[II)V"⟩
abbrev cX9_sendOperation : ByteArray := prog_11_method_32_code
def yX9_sendOperation : MethodName := ⟨RX9, "sendOperation", "(III)V"⟩
abbrev cX9_moveMessage : ByteArray := prog_11_method_33_code
def yX9_moveMessage : MethodName := ⟨RX9, "moveMessage", "(II)V"⟩
abbrev cX9_drop : ByteArray := prog_11_method_34_code
def yX9_drop : MethodName := ⟨RX9, "drop", "(II)V"⟩
abbrev cX9_knowsOf : ByteArray := prog_11_method_35_code
def yX9_knowsOf : MethodName := ⟨RX9, "knowsOf", "(III)I"⟩
abbrev cX9_isLogged : ByteArray := prog_11_method_36_code
def yX9_isLogged : MethodName := ⟨RX9, "isLogged", "(II)Z"⟩
abbrev cX9_isReady : ByteArray := prog_11_method_37_code
def yX9_isReady : MethodName := ⟨RX9, "isReady", "(II)Z"⟩
abbrev cX9_firstReady : ByteArray := prog_11_method_38_code
def yX9_firstReady : MethodName := ⟨RX9, "firstReady", "(I)I"⟩
abbrev cX9_isWaiting : ByteArray := prog_11_method_39_code
def yX9_isWaiting : MethodName := ⟨RX9, "isWaiting", "(II)Z"⟩
abbrev cX9_take_ : ByteArray := prog_11_method_40_code
def yX9_take_ : MethodName := ⟨RX9, "take", "(II)I"⟩
abbrev cX9_answer : ByteArray := prog_11_method_41_code
def yX9_answer : MethodName := ⟨RX9, "answer", "(II)V"⟩
abbrev cX9_deliver : ByteArray := prog_11_method_42_code
def yX9_deliver : MethodName := ⟨RX9, "deliver", "(III)I"⟩
abbrev cX9_copy : ByteArray := prog_11_method_43_code
def yX9_copy : MethodName := ⟨RX9, "copy", "(III)I"⟩
abbrev cX9_lose : ByteArray := prog_11_method_44_code
def yX9_lose : MethodName := ⟨RX9, "lose", "(III)I"⟩
abbrev cX9_speak : ByteArray := prog_11_method_45_code
def yX9_speak : MethodName := ⟨RX9, "speak", "(III)I"⟩
abbrev cX9_ask : ByteArray := prog_11_method_46_code
def yX9_ask : MethodName := ⟨RX9, "ask", "(II)I"⟩
abbrev cX9_tell : ByteArray := prog_11_method_47_code
def yX9_tell : MethodName := ⟨RX9, "tell", "(II)I"⟩
abbrev cX9_power : ByteArray := prog_11_method_48_code
def yX9_power : MethodName := ⟨RX9, "power", "(IZ)I"⟩
abbrev cX9_clock : ByteArray := prog_11_method_49_code
def yX9_clock : MethodName := ⟨RX9, "clock", "(II)I"⟩
abbrev cX9_knows : ByteArray := prog_11_method_50_code
def yX9_knows : MethodName := ⟨RX9, "knows", "(III)I"⟩
abbrev cX9_charactersOf : ByteArray := prog_11_method_51_code
def yX9_charactersOf : MethodName := ⟨RX9, "charactersOf", "(I)I"⟩
abbrev cX9_count : ByteArray := prog_11_method_52_code
def yX9_count : MethodName := ⟨RX9, "count", "(II)I"⟩
abbrev cX9_message : ByteArray := prog_11_method_53_code
def yX9_message : MethodName := ⟨RX9, "message", "(IIII)I"⟩
abbrev cX9_way : ByteArray := prog_11_method_54_code
def yX9_way : MethodName := ⟨RX9, "way", "(II)I"⟩
def RJx145de : String := "java/io/Serializable"
def TJx145de : u_T := fun k => match k with
  | _ => ("", "", "", false)
def tyJx145de : Nat → FieldType := fun k => match k with
  | _ => .int
abbrev wsJx145de0 : List Cond := u_ws RJx145de TJx145de 0
theorem nmJx145de : ∀ a, a < 0 → ∀ b, b < 0 → a ≠ b → (TJx145de a).2.1 ≠ (TJx145de b).2.1 := by decide +kernel
theorem tyJx145de_ok : ∀ k, k < 0 → parseFieldDescriptor (TJx145de k).2.2.1 = some (tyJx145de k) := by decide +kernel
def RJx8e188 : String := "java/lang/Cloneable"
def TJx8e188 : u_T := fun k => match k with
  | _ => ("", "", "", false)
def tyJx8e188 : Nat → FieldType := fun k => match k with
  | _ => .int
abbrev wsJx8e1880 : List Cond := u_ws RJx8e188 TJx8e188 0
theorem nmJx8e188 : ∀ a, a < 0 → ∀ b, b < 0 → a ≠ b → (TJx8e188 a).2.1 ≠ (TJx8e188 b).2.1 := by decide +kernel
theorem tyJx8e188_ok : ∀ k, k < 0 → parseFieldDescriptor (TJx8e188 k).2.2.1 = some (tyJx8e188 k) := by decide +kernel
def RJ6 : String := "java/lang/Integer"
def TJ6 : u_T := fun k => match k with
  | _ => ("", "", "", false)
def tyJ6 : Nat → FieldType := fun k => match k with
  | _ => .int
abbrev wsJ60 : List Cond := u_ws RJ6 TJ6 0
theorem nmJ6 : ∀ a, a < 0 → ∀ b, b < 0 → a ≠ b → (TJ6 a).2.1 ≠ (TJ6 b).2.1 := by decide +kernel
theorem tyJ6_ok : ∀ k, k < 0 → parseFieldDescriptor (TJ6 k).2.2.1 = some (tyJ6 k) := by decide +kernel
abbrev cJ6_bitCount_0f7a4 : ByteArray := prog_14_method_49_code
def yJ6_bitCount_0f7a4 : MethodName := ⟨RJ6, "bitCount", "(I)I"⟩
def RJxab1ab : String := "java/lang/Iterable"
def TJxab1ab : u_T := fun k => match k with
  | _ => ("", "", "", false)
def tyJxab1ab : Nat → FieldType := fun k => match k with
  | _ => .int
abbrev wsJxab1ab0 : List Cond := u_ws RJxab1ab TJxab1ab 0
theorem nmJxab1ab : ∀ a, a < 0 → ∀ b, b < 0 → a ≠ b → (TJxab1ab a).2.1 ≠ (TJxab1ab b).2.1 := by decide +kernel
theorem tyJxab1ab_ok : ∀ k, k < 0 → parseFieldDescriptor (TJxab1ab k).2.2.1 = some (tyJxab1ab k) := by decide +kernel
def RJ9 : String := "java/lang/Math"
def TJ9 : u_T := fun k => match k with
  | _ => ("", "", "", false)
def tyJ9 : Nat → FieldType := fun k => match k with
  | _ => .int
abbrev wsJ90 : List Cond := u_ws RJ9 TJ9 0
theorem nmJ9 : ∀ a, a < 0 → ∀ b, b < 0 → a ≠ b → (TJ9 a).2.1 ≠ (TJ9 b).2.1 := by decide +kernel
theorem tyJ9_ok : ∀ k, k < 0 → parseFieldDescriptor (TJ9 k).2.2.1 = some (tyJ9 k) := by decide +kernel
abbrev cJ9_max_7cf53 : ByteArray := prog_16_method_65_code
def yJ9_max_7cf53 : MethodName := ⟨RJ9, "max", "(II)I"⟩
abbrev cJ9_min_7cf53 : ByteArray := prog_16_method_69_code
def yJ9_min_7cf53 : MethodName := ⟨RJ9, "min", "(II)I"⟩
def RJ10 : String := "java/lang/System"
def TJ10 : u_T := fun k => match k with
  | _ => ("", "", "", false)
def tyJ10 : Nat → FieldType := fun k => match k with
  | _ => .int
abbrev wsJ100 : List Cond := u_ws RJ10 TJ10 0
theorem nmJ10 : ∀ a, a < 0 → ∀ b, b < 0 → a ≠ b → (TJ10 a).2.1 ≠ (TJ10 b).2.1 := by decide +kernel
theorem tyJ10_ok : ∀ k, k < 0 → parseFieldDescriptor (TJ10 k).2.2.1 = some (tyJ10 k) := by decide +kernel
def RJxa1e45 : String := "java/util/AbstractCollection"
def TJxa1e45 : u_T := fun k => match k with
  | _ => ("", "", "", false)
def tyJxa1e45 : Nat → FieldType := fun k => match k with
  | _ => .int
abbrev wsJxa1e450 : List Cond := u_ws RJxa1e45 TJxa1e45 0
theorem nmJxa1e45 : ∀ a, a < 0 → ∀ b, b < 0 → a ≠ b → (TJxa1e45 a).2.1 ≠ (TJxa1e45 b).2.1 := by decide +kernel
theorem tyJxa1e45_ok : ∀ k, k < 0 → parseFieldDescriptor (TJxa1e45 k).2.2.1 = some (tyJxa1e45 k) := by decide +kernel
abbrev cJxa1e45_init_da8c8 : ByteArray := prog_18_method_1_code
def yJxa1e45_init_da8c8 : MethodName := ⟨RJxa1e45, "<init>", "()V"⟩
def RJxc12de : String := "java/util/AbstractList"
def TJxc12de : u_T := fun k => match k with
  | _ => ("", "", "", false)
def tyJxc12de : Nat → FieldType := fun k => match k with
  | _ => .int
abbrev wsJxc12de0 : List Cond := u_ws RJxc12de TJxc12de 0
theorem nmJxc12de : ∀ a, a < 0 → ∀ b, b < 0 → a ≠ b → (TJxc12de a).2.1 ≠ (TJxc12de b).2.1 := by decide +kernel
theorem tyJxc12de_ok : ∀ k, k < 0 → parseFieldDescriptor (TJxc12de k).2.2.1 = some (tyJxc12de k) := by decide +kernel
abbrev cJxc12de_init_da8c8 : ByteArray := prog_19_method_1_code
def yJxc12de_init_da8c8 : MethodName := ⟨RJxc12de, "<init>", "()V"⟩
def RJx4a65c : String := "java/util/ArrayList"
def TJx4a65c : u_T := fun k => match k with
  | 0 => ("java/util/AbstractList", "modCount", "I", false)
  | 1 => ("java/util/ArrayList", "elementData", "[Ljava/lang/Object;", false)
  | _ => ("java/util/ArrayList", "size", "I", false)
def tyJx4a65c : Nat → FieldType := fun k => match k with
  | 0 => .int
  | 1 => .array (.object "java/lang/Object")
  | _ => .int
abbrev wsJx4a65c0 : List Cond := u_ws RJx4a65c TJx4a65c 3
theorem nmJx4a65c : ∀ a, a < 3 → ∀ b, b < 3 → a ≠ b → (TJx4a65c a).2.1 ≠ (TJx4a65c b).2.1 := by decide +kernel
theorem tyJx4a65c_ok : ∀ k, k < 3 → parseFieldDescriptor (TJx4a65c k).2.2.1 = some (tyJx4a65c k) := by decide +kernel
abbrev cJx4a65c_init_da8c8 : ByteArray := prog_20_method_2_code
def yJx4a65c_init_da8c8 : MethodName := ⟨RJx4a65c, "<init>", "()V"⟩
abbrev cJx4a65c_grow_92f84 : ByteArray := prog_20_method_6_code
def yJx4a65c_grow_92f84 : MethodName := ⟨RJx4a65c, "grow", "(I)[Ljava/lang/Object;"⟩
abbrev cJx4a65c_grow_d5877 : ByteArray := prog_20_method_7_code
def yJx4a65c_grow_d5877 : MethodName := ⟨RJx4a65c, "grow", "()[Ljava/lang/Object;"⟩
abbrev cJx4a65c_size_8abf5 : ByteArray := prog_20_method_8_code
def yJx4a65c_size_8abf5 : MethodName := ⟨RJx4a65c, "size", "()I"⟩
abbrev cJx4a65c_isEmpty_aae02 : ByteArray := prog_20_method_9_code
def yJx4a65c_isEmpty_aae02 : MethodName := ⟨RJx4a65c, "isEmpty", "()Z"⟩
abbrev cJx4a65c_elementData_915e3 : ByteArray := prog_20_method_18_code
def yJx4a65c_elementData_915e3 : MethodName := ⟨RJx4a65c, "elementData", "(I)Ljava/lang/Object;"⟩
abbrev cJx4a65c_get_915e3 : ByteArray := prog_20_method_20_code
def yJx4a65c_get_915e3 : MethodName := ⟨RJx4a65c, "get", "(I)Ljava/lang/Object;"⟩
abbrev cJx4a65c_add_72be8 : ByteArray := prog_20_method_24_code
def yJx4a65c_add_72be8 : MethodName := ⟨RJx4a65c, "add", "(Ljava/lang/Object;[Ljava/lang/Object;I)V"⟩
abbrev cJx4a65c_add_9ea2d : ByteArray := prog_20_method_25_code
def yJx4a65c_add_9ea2d : MethodName := ⟨RJx4a65c, "add", "(Ljava/lang/Object;)Z"⟩
abbrev cJx4a65c_remove_915e3 : ByteArray := prog_20_method_29_code
def yJx4a65c_remove_915e3 : MethodName := ⟨RJx4a65c, "remove", "(I)Ljava/lang/Object;"⟩
abbrev cJx4a65c_fastRemove_b59b0 : ByteArray := prog_20_method_39_code
def yJx4a65c_fastRemove_b59b0 : MethodName := ⟨RJx4a65c, "fastRemove", "([Ljava/lang/Object;I)V"⟩
def RJ7 : String := "java/util/Arrays"
def TJ7 : u_T := fun k => match k with
  | _ => ("", "", "", false)
def tyJ7 : Nat → FieldType := fun k => match k with
  | _ => .int
abbrev wsJ70 : List Cond := u_ws RJ7 TJ7 0
theorem nmJ7 : ∀ a, a < 0 → ∀ b, b < 0 → a ≠ b → (TJ7 a).2.1 ≠ (TJ7 b).2.1 := by decide +kernel
theorem tyJ7_ok : ∀ k, k < 0 → parseFieldDescriptor (TJ7 k).2.2.1 = some (tyJ7 k) := by decide +kernel
abbrev cJ7_copyOf_1904c : ByteArray := prog_21_method_119_code
def yJ7_copyOf_1904c : MethodName := ⟨RJ7, "copyOf", "([Ljava/lang/Object;I)[Ljava/lang/Object;"⟩
abbrev cJ7_copyOf_6403c : ByteArray := prog_21_method_120_code
def yJ7_copyOf_6403c : MethodName := ⟨RJ7, "copyOf", "([Ljava/lang/Object;ILjava/lang/Class;)[Ljava/lang/Object;"⟩
def RJx5ef63 : String := "java/util/Collection"
def TJx5ef63 : u_T := fun k => match k with
  | _ => ("", "", "", false)
def tyJx5ef63 : Nat → FieldType := fun k => match k with
  | _ => .int
abbrev wsJx5ef630 : List Cond := u_ws RJx5ef63 TJx5ef63 0
theorem nmJx5ef63 : ∀ a, a < 0 → ∀ b, b < 0 → a ≠ b → (TJx5ef63 a).2.1 ≠ (TJx5ef63 b).2.1 := by decide +kernel
theorem tyJx5ef63_ok : ∀ k, k < 0 → parseFieldDescriptor (TJx5ef63 k).2.2.1 = some (tyJx5ef63 k) := by decide +kernel
def RJxbd725 : String := "java/util/List"
def TJxbd725 : u_T := fun k => match k with
  | _ => ("", "", "", false)
def tyJxbd725 : Nat → FieldType := fun k => match k with
  | _ => .int
abbrev wsJxbd7250 : List Cond := u_ws RJxbd725 TJxbd725 0
theorem nmJxbd725 : ∀ a, a < 0 → ∀ b, b < 0 → a ≠ b → (TJxbd725 a).2.1 ≠ (TJxbd725 b).2.1 := by decide +kernel
theorem tyJxbd725_ok : ∀ k, k < 0 → parseFieldDescriptor (TJxbd725 k).2.2.1 = some (tyJxbd725 k) := by decide +kernel
def RJ15 : String := "java/util/Objects"
def TJ15 : u_T := fun k => match k with
  | _ => ("", "", "", false)
def tyJ15 : Nat → FieldType := fun k => match k with
  | _ => .int
abbrev wsJ150 : List Cond := u_ws RJ15 TJ15 0
theorem nmJ15 : ∀ a, a < 0 → ∀ b, b < 0 → a ≠ b → (TJ15 a).2.1 ≠ (TJ15 b).2.1 := by decide +kernel
theorem tyJ15_ok : ∀ k, k < 0 → parseFieldDescriptor (TJ15 k).2.2.1 = some (tyJ15 k) := by decide +kernel
abbrev cJ15_checkIndex_7cf53 : ByteArray := prog_24_method_17_code
def yJ15_checkIndex_7cf53 : MethodName := ⟨RJ15, "checkIndex", "(II)I"⟩
def RJxf0a74 : String := "java/util/RandomAccess"
def TJxf0a74 : u_T := fun k => match k with
  | _ => ("", "", "", false)
def tyJxf0a74 : Nat → FieldType := fun k => match k with
  | _ => .int
abbrev wsJxf0a740 : List Cond := u_ws RJxf0a74 TJxf0a74 0
theorem nmJxf0a74 : ∀ a, a < 0 → ∀ b, b < 0 → a ≠ b → (TJxf0a74 a).2.1 ≠ (TJxf0a74 b).2.1 := by decide +kernel
theorem tyJxf0a74_ok : ∀ k, k < 0 → parseFieldDescriptor (TJxf0a74 k).2.2.1 = some (tyJxf0a74 k) := by decide +kernel
def RJxa66e6 : String := "java/util/SequencedCollection"
def TJxa66e6 : u_T := fun k => match k with
  | _ => ("", "", "", false)
def tyJxa66e6 : Nat → FieldType := fun k => match k with
  | _ => .int
abbrev wsJxa66e60 : List Cond := u_ws RJxa66e6 TJxa66e6 0
theorem nmJxa66e6 : ∀ a, a < 0 → ∀ b, b < 0 → a ≠ b → (TJxa66e6 a).2.1 ≠ (TJxa66e6 b).2.1 := by decide +kernel
theorem tyJxa66e6_ok : ∀ k, k < 0 → parseFieldDescriptor (TJxa66e6 k).2.2.1 = some (tyJxa66e6 k) := by decide +kernel
def RJ8 : String := "jdk/internal/util/ArraysSupport"
def TJ8 : u_T := fun k => match k with
  | _ => ("", "", "", false)
def tyJ8 : Nat → FieldType := fun k => match k with
  | _ => .int
abbrev wsJ80 : List Cond := u_ws RJ8 TJ8 0
theorem nmJ8 : ∀ a, a < 0 → ∀ b, b < 0 → a ≠ b → (TJ8 a).2.1 ≠ (TJ8 b).2.1 := by decide +kernel
theorem tyJ8_ok : ∀ k, k < 0 → parseFieldDescriptor (TJ8 k).2.2.1 = some (tyJ8 k) := by decide +kernel
abbrev cJ8_newLength_cabcc : ByteArray := prog_27_method_27_code
def yJ8_newLength_cabcc : MethodName := ⟨RJ8, "newLength", "(III)I"⟩
abbrev cJ8_hugeLength_7cf53 : ByteArray := prog_27_method_28_code
def yJ8_hugeLength_7cf53 : MethodName := ⟨RJ8, "hugeLength", "(II)I"⟩
def RJ3 : String := "jdk/internal/util/Preconditions"
def TJ3 : u_T := fun k => match k with
  | _ => ("", "", "", false)
def tyJ3 : Nat → FieldType := fun k => match k with
  | _ => .int
abbrev wsJ30 : List Cond := u_ws RJ3 TJ3 0
theorem nmJ3 : ∀ a, a < 0 → ∀ b, b < 0 → a ≠ b → (TJ3 a).2.1 ≠ (TJ3 b).2.1 := by decide +kernel
theorem tyJ3_ok : ∀ k, k < 0 → parseFieldDescriptor (TJ3 k).2.2.1 = some (tyJ3 k) := by decide +kernel
abbrev cJ3_checkIndex_8e157 : ByteArray := prog_28_method_11_code
def yJ3_checkIndex_8e157 : MethodName := ⟨RJ3, "checkIndex", "(IILjava/util/function/BiFunction;)I"⟩
def RL : String := "ReplicaStoreLaw"
abbrev cL_law : ByteArray := code
def yL_law : MethodName := ⟨RL, "law", "([I)Z"⟩
