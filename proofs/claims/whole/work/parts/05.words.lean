/-- the words that go from method to method as they are -/
def bw : List Cond := lw_tbl.filter goodWord
theorem bw_in {w : Cond} (h : w ∈ bw) : w ∈ lw_tbl := (List.mem_filter.mp h).1
def wat (p : Nat) (w : Cond) : Bool := decide (lw_tbl[p]? = some w) && goodWord w
theorem wat_in {p : Nat} {w : Cond} (h : wat p w = true) : w ∈ bw := by
  unfold wat at h
  rw [Bool.and_eq_true, decide_eq_true_eq] at h
  exact List.mem_filter.mpr ⟨List.mem_of_getElem? h.1, h.2⟩
def sat (p : Nat) (w : Cond) : Bool := decide (lw_tbl[p]? = some w)
theorem sat_in {p : Nat} {w : Cond} (h : sat p w = true) : w ∈ lw_tbl := by
  unfold sat at h
  rw [decide_eq_true_eq] at h
  exact List.mem_of_getElem? h
/-- the classes of the world; kind k is the class number k - 1 -/
def wc : List vw_C := [(RX0, TX0, 4), (RX1, TX1, 1), (RX2, TX2, 3), (RX3, TX3, 4), (RX4, TX4, 5), (RX5, TX5, 10), (RX6, TX6, 1), (RX7, TX7, 1), (RX8, TX8, 2), (RX9, TX9, 24), (RJx4a65c, TJx4a65c, 3)]
def wcT : List (Nat → FieldType) := [tyX0, tyX1, tyX2, tyX3, tyX4, tyX5, tyX6, tyX7, tyX8, tyX9, tyJx4a65c]
def wty (c k : Nat) : FieldType := ((wcT[c]?).getD tyX0) k
def cty (c k : Nat) : Nat := match wty c k with
  | .int => 0
  | .boolean => 2
  | .object _ => 1
  | .array _ => 1
  | _ => 3
/-- a class's name by its code -/
def kn (k : Nat) : String := match k with
  | 20 => "[I"
  | 22 => "java/lang/Object"
  | 28 => "[Ljava/lang/Object;"
  | k => ((wc[k - 1]?).map (fun q => q.1)).getD ""
/-- the name of what an array of kind k holds -/
def anm (k : Nat) : String := match k with
  | 22 => "java/lang/Object"
  | k => kn (sm_elt k)
def owN (m : MI) : String := (ow[mW m]?).getD ""
def own (o : Nat) : String := (ow[o]?).getD ""
def wok (c : Nat) (q : vw_C) : Bool := (u_ws q.1 q.2.1 q.2.2).all (fun w => decide (w ∈ bw)) && (List.range q.2.2).all (fun k => decide (parseFieldDescriptor (q.2.1 k).2.2.1 = some (wty c k)) && Nat.blt (cty c k) 3 && Nat.blt k 32) && (List.range q.2.2).all (fun a => (List.range q.2.2).all (fun b => Nat.beq a b || decide ((q.2.1 a).2.1 ≠ (q.2.1 b).2.1))) && decide (Cond.instantiable q.1 q.2.2 ∈ bw) && decide (Cond.initialized q.1 ∈ bw)
theorem wok_all : (List.range 11).all (fun c => match wc[c]? with
  | some q => wok c q
  | none => false) = true := by decide +kernel
def okF (r : Nat × Nat × Nat × Nat × Nat) : Bool := match wc[r.2.2.2.1 - 1]? with
  | some q => Nat.ble 1 r.2.2.2.1 && Nat.ble (32 * (r.2.2.2.1 - 1)) r.2.2.2.2 && Nat.blt (r.2.2.2.2 - 32 * (r.2.2.2.1 - 1)) q.2.2 && (wat r.1 (Cond.fieldLink (own r.2.1) r.2.2.1 (q.2.1 (r.2.2.2.2 - 32 * (r.2.2.2.1 - 1))).1 (q.2.1 (r.2.2.2.2 - 32 * (r.2.2.2.1 - 1))).2.1 (q.2.1 (r.2.2.2.2 - 32 * (r.2.2.2.1 - 1))).2.2.1) || (wat r.1 (Cond.fieldLink (own r.2.1) r.2.2.1 "java/util/ArrayList" (q.2.1 (r.2.2.2.2 - 32 * (r.2.2.2.1 - 1))).2.1 (q.2.1 (r.2.2.2.2 - 32 * (r.2.2.2.1 - 1))).2.2.1) && wat 101 (Cond.sameField "java/util/ArrayList" (q.2.1 (r.2.2.2.2 - 32 * (r.2.2.2.1 - 1))).1 (q.2.1 (r.2.2.2.2 - 32 * (r.2.2.2.1 - 1))).2.1 (q.2.1 (r.2.2.2.2 - 32 * (r.2.2.2.1 - 1))).2.2.1)))
  | none => false
set_option maxRecDepth 100000 in
theorem tF_ok : tFx.all okF = true := by decide +kernel
def okM (r : Nat × Nat × Nat × Nat × Nat) : Bool := match MT[r.2.2.2.1]? with
  | some m => (match r.2.2.2.2 with
    | 0 => wat r.1 (Cond.methodLink (own r.2.1) r.2.2.1 (mY m))
    | _ => sat r.1 (Cond.methodLinkNest (own r.2.1) r.2.2.1 (mY m) "ReplicaStore"))
  | none => false
set_option maxRecDepth 100000 in
theorem tM_ok : tMx.all okM = true := by decide +kernel
set_option maxRecDepth 100000 in
theorem tC_ok : tCx.all (fun r => wat r.1 (Cond.classLink (own r.2.1) r.2.2.1 (kn r.2.2.2))) = true := by decide +kernel
set_option maxRecDepth 100000 in
theorem tK_ok : tKx.all (fun r => wat r.1 (Cond.constant (own r.2.1) r.2.2.1 (sm_lit r.2.2.2.1 r.2.2.2.2))) = true := by decide +kernel
def yClone : MethodName := ⟨"java/lang/Object", "clone", "()Ljava/lang/Object;"⟩
def yCloneI : MethodName := ⟨"[I", "clone", "()Ljava/lang/Object;"⟩
def yGetC : MethodName := ⟨"java/lang/Object", "getClass", "()Ljava/lang/Class;"⟩
def bN (c : Nat) : MethodName := match c with
  | 1000 => objectInit
  | 1001 => yCloneI
  | 1002 => arraycopyName
  | 1003 => yGetC
  | 1004 => Lib.Math.max.name
  | _ => Lib.Math.min.name
set_option maxRecDepth 100000 in
theorem tB_ok : tBx.all (fun r => wat r.1 (Cond.methodLink (own r.2.1) r.2.2.1 (bN r.2.2.2))) = true := by decide +kernel
theorem w_oi : Cond.instanceMethod objectInit ∈ bw := wat_in (p := 70) (by decide +kernel)
theorem w_oc : Cond.code objectInit ⟨#[0xb1]⟩ 1 none ∈ bw := wat_in (p := 71) (by decide +kernel)
theorem w_sC : Cond.sameMethod "[I" "java/lang/Object" "clone" "()Ljava/lang/Object;" ∈ bw := wat_in (p := 264) (by decide +kernel)
theorem w_nC : Cond.native yClone ∈ bw := wat_in (p := 265) (by decide +kernel)
theorem w_iC : Cond.instanceMethod yClone ∈ bw := wat_in (p := 266) (by decide +kernel)
theorem w_lC : Cond.selects "[I" yCloneI yClone ∈ bw := wat_in (p := 267) (by decide +kernel)
theorem w_cC : Cond.castable "[I" "java/lang/Cloneable" ∈ lw_tbl := sat_in (p := 268) (by decide +kernel)
theorem w_dG : Cond.declares yGetC ∈ lw_tbl := sat_in (p := 944) (by decide +kernel)
theorem w_nG : Cond.native yGetC ∈ bw := wat_in (p := 357) (by decide +kernel)
theorem w_iG : Cond.instanceMethod yGetC ∈ bw := wat_in (p := 344) (by decide +kernel)
theorem w_lG : Cond.selects "[Ljava/lang/Object;" yGetC yGetC ∈ bw := wat_in (p := 943) (by decide +kernel)
theorem w_nA : Cond.native arraycopyName ∈ bw := wat_in (p := 369) (by decide +kernel)
theorem w_sA : Cond.static arraycopyName ∈ bw := wat_in (p := 368) (by decide +kernel)
theorem w_iS : Cond.initialized "java/lang/System" ∈ bw := wat_in (p := 59) (by decide +kernel)
theorem w_iMa : Cond.initialized "java/lang/Math" ∈ bw := wat_in (p := 56) (by decide +kernel)
theorem w_sMx : Cond.static Lib.Math.max.name ∈ bw := wat_in (p := 310) (by decide +kernel)
theorem w_cMx : Cond.code Lib.Math.max.name Lib.Math.max.code 2 (some .int) ∈ bw := wat_in (p := 311) (by decide +kernel)
theorem w_sMn : Cond.static Lib.Math.min.name ∈ bw := wat_in (p := 365) (by decide +kernel)
theorem w_cMn : Cond.code Lib.Math.min.name Lib.Math.min.code 2 (some .int) ∈ bw := wat_in (p := 366) (by decide +kernel)
theorem w_aI : Cond.arrayClass .int ∈ bw := wat_in (p := 109) (by decide +kernel)
theorem w_aZ : Cond.arrayClass .boolean ∈ bw := wat_in (p := 733) (by decide +kernel)
theorem w_lS : Cond.laysStatic "java/util/ArrayList" "DEFAULTCAPACITY_EMPTY_ELEMENTDATA" "[Ljava/lang/Object;" ∈ lw_tbl := sat_in (p := 96) (by decide +kernel)
theorem w_gS : Cond.fieldLink "java/util/ArrayList" 39 "java/util/ArrayList" "DEFAULTCAPACITY_EMPTY_ELEMENTDATA" "[Ljava/lang/Object;" ∈ bw := by decide +kernel
theorem ao_ok : ([(362, 22), (73, 23), (75, 24), (82, 25), (111, 26), (113, 27)] : List (Nat × Nat)).all (fun k => sat k.1 (Cond.arrayOver (.object (anm k.2)))) = true := by decide +kernel
def okY (m : MI) (p : Nat × Nat × Nat × Nat) : Bool := wat p.1 (Cond.code (mY m) (mC m) (mL m) (mR m)) && wat p.2.1 (Cond.initialized (mY m).cls) && decide ((mY m).cls = owN m) && decide ((mY m).cls ≠ "java/lang/invoke/MethodHandle") && decide ((mY m).cls ≠ "java/lang/invoke/VarHandle") && plainName (mY m).cls && Nat.ble (mN m) (mL m) && Nat.ble (mL m) 20 && (match mK m with
  | 0 => decide ((parseMethodDescriptor (mY m).desc).map (fun d => d.parameters.length) = some (mN m)) && wat p.2.2.1 (Cond.static (mY m))
  | 1 => decide ((parseMethodDescriptor (mY m).desc).map (fun d => d.parameters.length + 1) = some (mN m)) && wat p.2.2.1 (Cond.instanceMethod (mY m)) && decide ((mY m).name = "<init>") && decide (mR m = none)
  | k + 2 => decide ((parseMethodDescriptor (mY m).desc).map (fun d => d.parameters.length + 1) = some (mN m)) && wat p.2.2.1 (Cond.instanceMethod (mY m)) && wat p.2.2.2 (Cond.selects (mY m).cls (mY m) (mY m)) && decide ((wc[k]?).map (fun q => q.1) = some (mY m).cls))
def okYs (lo n : Nat) : Bool := (List.range n).all (fun i => match MT[lo + i]?, tYp[lo + i]? with
  | some m, some p => okY m p
  | _, _ => false)
set_option maxRecDepth 100000 in
theorem MT_ok1 : okYs 0 40 = true := by decide +kernel
set_option maxRecDepth 100000 in
theorem MT_ok2 : okYs 40 40 = true := by decide +kernel
set_option maxRecDepth 100000 in
theorem MT_ok3 : okYs 80 40 = true := by decide +kernel
set_option maxRecDepth 100000 in
theorem MT_ok4 : okYs 120 25 = true := by decide +kernel
/-- a final field is put in its class's constructor -/
def ckP (m : MI) (kf fid : Nat) : Bool := match wc[kf - 1]? with
  | some q => (match (q.2.1 (fid - 32 * (kf - 1))).2.2.2 with
    | true => Nat.beq (mK m) 1 && decide ((q.2.1 (fid - 32 * (kf - 1))).1 = owN m)
    | false => true)
  | none => false
def ckC (m m' : MI) : Bool := Nat.ble (mF m' + 1) (mF m) && Nat.ble (8 + (mL m' + 11) + mO m') (mO m)
def ckI (m : MI) (e : Ent) : Bool := match e.2.1 with
  | .iconst n => Nat.beq e.2.2.1 1 && decide (Int32.ofInt n = sm_lit e.2.2.2.1 e.2.2.2.2.1)
  | .bipush n => Nat.beq e.2.2.1 2 && decide ((Int8.ofInt n).toInt32 = sm_lit e.2.2.2.1 e.2.2.2.2.1)
  | .sipush n => Nat.beq e.2.2.1 3 && decide ((Int16.ofInt n).toInt32 = sm_lit e.2.2.2.1 e.2.2.2.2.1)
  | .ldc i => Nat.beq e.2.2.1 2 && (match e.2.2.2.2.2 with
    | 0 => decide ((mW m, i, e.2.2.2.1, e.2.2.2.2.1) ∈ tK)
    | 1 => decide ((mW m, i, 28) ∈ tC)
    | _ => false)
  | .ldc_w i => Nat.beq e.2.2.1 3 && decide ((mW m, i, e.2.2.2.1, e.2.2.2.2.1) ∈ tK)
  | .aconst_null => Nat.beq e.2.2.1 1
  | .iload_n _ => Nat.beq e.2.2.1 1
  | .aload_n _ => Nat.beq e.2.2.1 1
  | .istore_n _ => Nat.beq e.2.2.1 1
  | .astore_n _ => Nat.beq e.2.2.1 1
  | .iload _ => Nat.beq e.2.2.1 2
  | .aload _ => Nat.beq e.2.2.1 2
  | .istore _ => Nat.beq e.2.2.1 2
  | .astore _ => Nat.beq e.2.2.1 2
  | .iinc _ n => Nat.beq e.2.2.1 3 && decide (Int32.ofInt n = sm_lit e.2.2.2.1 e.2.2.2.2.1)
  | .iadd => Nat.beq e.2.2.1 1
  | .isub => Nat.beq e.2.2.1 1
  | .imul => Nat.beq e.2.2.1 1
  | .iand => Nat.beq e.2.2.1 1
  | .ior => Nat.beq e.2.2.1 1
  | .ishl => Nat.beq e.2.2.1 1
  | .ishr => Nat.beq e.2.2.1 1
  | .iushr => Nat.beq e.2.2.1 1
  | .idiv => Nat.beq e.2.2.1 1
  | .irem => Nat.beq e.2.2.1 1
  | .dup => Nat.beq e.2.2.1 1
  | .dup_x1 => Nat.beq e.2.2.1 1
  | .dup2 => Nat.beq e.2.2.1 1
  | .pop => Nat.beq e.2.2.1 1
  | .ifCond _ o => Nat.beq e.2.2.1 3 && decide ((e.1 : Int) + o = (e.2.2.2.1 : Int))
  | .if_icmp _ o => Nat.beq e.2.2.1 3 && decide ((e.1 : Int) + o = (e.2.2.2.1 : Int))
  | .if_acmp _ o => Nat.beq e.2.2.1 3 && decide ((e.1 : Int) + o = (e.2.2.2.1 : Int))
  | .ifnull o => Nat.beq e.2.2.1 3 && decide ((e.1 : Int) + o = (e.2.2.2.1 : Int))
  | .ifnonnull o => Nat.beq e.2.2.1 3 && decide ((e.1 : Int) + o = (e.2.2.2.1 : Int))
  | .goto o => Nat.beq e.2.2.1 3 && decide ((e.1 : Int) + o = (e.2.2.2.1 : Int))
  | .tableswitch d _ _ offs => decide (0 ≤ (e.1 : Int) + d) && offs.toList.all (fun o => decide (0 ≤ (e.1 : Int) + o))
  | .getfield i => Nat.beq e.2.2.1 3 && decide ((mW m, i, e.2.2.2.1, e.2.2.2.2.1) ∈ tF) && Nat.beq e.2.2.2.2.2 (cty (e.2.2.2.1 - 1) (e.2.2.2.2.1 - 32 * (e.2.2.2.1 - 1)))
  | .putfield i => Nat.beq e.2.2.1 3 && decide ((mW m, i, e.2.2.2.1, e.2.2.2.2.1) ∈ tF) && Nat.beq e.2.2.2.2.2 (cty (e.2.2.2.1 - 1) (e.2.2.2.2.1 - 32 * (e.2.2.2.1 - 1))) && ckP m e.2.2.2.1 e.2.2.2.2.1
  | .getstatic i => Nat.beq e.2.2.1 3 && Nat.beq i 39 && decide (owN m = "java/util/ArrayList")
  | .new i => Nat.beq e.2.2.1 3 && (match wc[e.2.2.2.1 - 1]? with
    | some q => Nat.ble 1 e.2.2.2.1 && Nat.beq q.2.2 e.2.2.2.2.1 && decide ((mW m, i, e.2.2.2.1) ∈ tC)
    | none => false)
  | .newarray t => Nat.beq e.2.2.1 2 && (match t with
    | .int => Nat.beq e.2.2.2.1 20
    | .boolean => Nat.beq e.2.2.2.1 21
    | _ => false)
  | .anewarray i => Nat.beq e.2.2.1 3 && Nat.ble 22 e.2.2.2.1 && Nat.ble e.2.2.2.1 27 && (match e.2.2.2.1 with
    | 22 => decide ((mW m, i, 22) ∈ tC)
    | k => decide ((mW m, i, sm_elt k) ∈ tC))
  | .arraylength => Nat.beq e.2.2.1 1
  | .iaload => Nat.beq e.2.2.1 1
  | .baload => Nat.beq e.2.2.1 1
  | .aaload => Nat.beq e.2.2.1 1
  | .iastore => Nat.beq e.2.2.1 1
  | .bastore => Nat.beq e.2.2.1 1
  | .aastore => Nat.beq e.2.2.1 1
  | .checkcast i => Nat.beq e.2.2.1 3 && (match e.2.2.2.1 with
    | 20 => decide ((mW m, i, 20) ∈ tC)
    | 0 => false
    | k + 1 => Nat.blt k 11 && decide ((mW m, i, k + 1) ∈ tC))
  | .invokespecial i => Nat.beq e.2.2.1 3 && (if e.2.2.2.1 < 1000 then (match MT[e.2.2.2.1]? with
    | some m' => (match e.2.2.2.2.2 with
      | 1 => decide ((mW m, i, e.2.2.2.1, 0) ∈ tM)
      | 3 => decide ((mW m, i, e.2.2.2.1, 1) ∈ tM)
      | _ => false) && Nat.beq (mK m') 1 && ckC m m'
    | none => false) else Nat.beq e.2.2.2.1 1000 && decide ((mW m, i, 1000) ∈ tB) && Nat.ble 1 (mF m) && Nat.ble 20 (mO m))
  | .invokevirtual i => Nat.beq e.2.2.1 3 && (if e.2.2.2.1 < 1000 then (match MT[e.2.2.2.1]? with
    | some m' => decide ((mW m, i, e.2.2.2.1, 0) ∈ tM) && Nat.ble 2 (mK m') && ckC m m'
    | none => false) else (match e.2.2.2.1 with
      | 1001 => decide ((mW m, i, 1001) ∈ tB) && Nat.ble 1 (mF m) && Nat.ble 22 (mO m)
      | 1003 => decide ((mW m, i, 1003) ∈ tB) && Nat.ble 1 (mF m) && Nat.ble 22 (mO m)
      | _ => false))
  | .invokestatic i => Nat.beq e.2.2.1 3 && (if e.2.2.2.1 < 1000 then (match MT[e.2.2.2.1]? with
    | some m' => decide ((mW m, i, e.2.2.2.1, 0) ∈ tM) && Nat.beq (mK m') 0 && ckC m m'
    | none => false) else (match e.2.2.2.1 with
      | 1002 => decide ((mW m, i, 1002) ∈ tB) && Nat.ble 1 (mF m) && Nat.ble (8 + (nativeFrameWords "java/lang/System" "arraycopy" 5 + 11)) (mO m)
      | 1004 => decide ((mW m, i, 1004) ∈ tB) && Nat.ble 1 (mF m) && Nat.ble 21 (mO m)
      | 1005 => decide ((mW m, i, 1005) ∈ tB) && Nat.ble 1 (mF m) && Nat.ble 21 (mO m)
      | _ => false))
  | .ireturn => Nat.beq e.2.2.1 1
  | .areturn => Nat.beq e.2.2.1 1
  | .return_ => Nat.beq e.2.2.1 1
  | _ => false
def ckE (m : MI) (e : Ent) : Bool := decide (decode (mC m) e.1 = .ok (e.2.1, e.2.2.1)) && (Nat.beq e.2.2.2.2.2 9 || ckI m e)
def ckN : List Ent → Bool
  | e :: e' :: r => Nat.beq e'.1 (e.1 + e.2.2.1) && ckN (e' :: r)
  | _ => true
def ckM (m : MI) : Bool := (mP m).all (ckE m) && ckN (mP m) && (match mP m with
  | e :: _ => Nat.beq e.1 0
  | [] => false)
