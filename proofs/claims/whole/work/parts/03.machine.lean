/-! A SMALL MACHINE: the bytecode over typed maps. Its runs are tied to the real machine in part 05 and behind. -/
abbrev Hp : Type := (Nat → Nat) × (Nat → Nat) × (Nat → Nat → Int32) × (Nat → Nat → Option Nat) × (Nat → Nat → Int32) × (Nat → Nat → Option Nat) × (Nat → Nat) × Nat × Nat
def kd (h : Hp) : Nat → Nat := h.1
def ln (h : Hp) : Nat → Nat := h.2.1
def fI (h : Hp) : Nat → Nat → Int32 := h.2.2.1
def fR (h : Hp) : Nat → Nat → Option Nat := h.2.2.2.1
def aI (h : Hp) : Nat → Nat → Int32 := h.2.2.2.2.1
def aR (h : Hp) : Nat → Nat → Option Nat := h.2.2.2.2.2.1
def gc (h : Hp) : Nat → Nat := h.2.2.2.2.2.2.1
def sz (h : Hp) : Nat := h.2.2.2.2.2.2.2.1
def sl (h : Hp) : Nat := h.2.2.2.2.2.2.2.2
def wfI (h : Hp) (f a : Nat) (v : Int32) : Hp := (kd h, ln h, (fun f' a' => if f' = f ∧ a' = a then v else fI h f' a'), fR h, aI h, aR h, gc h, sz h, sl h)
def wfR (h : Hp) (f a : Nat) (v : Option Nat) : Hp := (kd h, ln h, fI h, (fun f' a' => if f' = f ∧ a' = a then v else fR h f' a'), aI h, aR h, gc h, sz h, sl h)
def waI (h : Hp) (a j : Nat) (v : Int32) : Hp := (kd h, ln h, fI h, fR h, (fun a' j' => if a' = a ∧ j' = j then v else aI h a' j'), aR h, gc h, sz h, sl h)
def waR (h : Hp) (a j : Nat) (v : Option Nat) : Hp := (kd h, ln h, fI h, fR h, aI h, (fun a' j' => if a' = a ∧ j' = j then v else aR h a' j'), gc h, sz h, sl h)
def hnew (h : Hp) (k n w : Nat) : Hp := ((fun a => if a = sz h then k else kd h a), (fun a => if a = sz h then n else ln h a), (fun f a => if a = sz h then 0 else fI h f a), (fun f a => if a = sz h then none else fR h f a), (fun a j => if a = sz h then 0 else aI h a j), (fun a j => if a = sz h then none else aR h a j), gc h, sz h + 1, sl h + w)
/-- a copy of the int array a -/
def hcln (h : Hp) (a : Nat) : Hp := ((fun q => if q = sz h then 20 else kd h q), (fun q => if q = sz h then ln h a else ln h q), (fun f q => if q = sz h then 0 else fI h f q), (fun f q => if q = sz h then none else fR h f q), (fun q j => if q = sz h then aI h a j else aI h q j), (fun q j => if q = sz h then none else aR h q j), gc h, sz h + 1, sl h + ln h a)
/-- n places of the reference array a0 from sp on, into a from dp on -/
def hcpy (h : Hp) (a0 sp a dp n : Nat) : Hp := (kd h, ln h, fI h, fR h, aI h, (fun q j => if q = a ∧ dp ≤ j ∧ j < dp + n then aR h a0 (sp + (j - dp)) else aR h q j), gc h, sz h, sl h)
abbrev Ent : Type := Nat × Instr × Nat × Nat × Nat × Nat
abbrev MI : Type := MethodName × ByteArray × Nat × Option FieldType × Nat × Nat × Nat × Nat × Nat × List Ent
def mY (m : MI) : MethodName := m.1
def mC (m : MI) : ByteArray := m.2.1
def mL (m : MI) : Nat := m.2.2.1
def mR (m : MI) : Option FieldType := m.2.2.2.1
def mF (m : MI) : Nat := m.2.2.2.2.1
def mO (m : MI) : Nat := m.2.2.2.2.2.1
def mW (m : MI) : Nat := m.2.2.2.2.2.2.1
def mN (m : MI) : Nat := m.2.2.2.2.2.2.2.1
def mK (m : MI) : Nat := m.2.2.2.2.2.2.2.2.1
def mP (m : MI) : List Ent := m.2.2.2.2.2.2.2.2.2
def sm_seek : List Ent → Nat → List Ent
  | [], _ => []
  | e :: r, t => bif Nat.beq e.1 t then e :: r else sm_seek r t
/-- a small number, or its negative -/
def sm_lit (a b : Nat) : Int32 := match b with
  | 0 => nI a
  | _ => - nI a
def sm_rf (v : Value) : Option (Option Nat) := match v with
  | .null => some none
  | .ref a => some (some a)
  | _ => none
def sm_in (v : Value) : Option Int32 := match v with
  | .int x => some x
  | _ => none
def sm_cmp (c : Jvm.ClassFile.Cond) (x y : Int32) : Bool := match c with
  | .eq => decide (x = y)
  | .ne => decide (x ≠ y)
  | .lt => decide (x < y)
  | .ge => decide (y ≤ x)
  | .gt => decide (y < x)
  | .le => decide (x ≤ y)
def sm_ix (i : Int32) (n : Nat) : Option Nat := if ¬ i < 0 ∧ i.toNatClampNeg < n then some i.toNatClampNeg else none
def sm_nat (i : Int32) : Option Nat := if ¬ i < 0 ∧ i.toNatClampNeg ≤ 100000000 then some i.toNatClampNeg else none
def sm_isA (k : Nat) : Bool := Nat.ble 20 k && Nat.ble k 27 || Nat.beq k 41 || Nat.beq k 42
def sm_elt (k : Nat) : Nat := match k with
  | 23 => 6
  | 24 => 8
  | 25 => 2
  | 26 => 5
  | 27 => 7
  | _ => 0
/-- may an object of kind k stand in an array of kind ka -/
def sm_may (ka k : Nat) : Bool := bif Nat.beq ka 22 then (Nat.beq k 4 || Nat.beq k 5) else (Nat.ble 23 ka && Nat.ble ka 27 && Nat.beq k (sm_elt ka))
def sm_tab (pc : Nat) (dflt lo hi : Int) (offs : Array Int) (x : Int32) : Option Nat := if x.toInt < lo ∨ hi < x.toInt then some ((pc : Int) + dflt).toNat else match offs[(x.toInt - lo).toNat]? with
  | some o => some ((pc : Int) + o).toNat
  | none => none
abbrev Lv : Type := List (Option Value)
abbrev Sg : Type := Option (List Ent × Lv × List Value × Hp)
def sm_ild (i : Nat) (code : List Ent) (ls : Lv) (st : List Value) (h : Hp) : Sg := match ls[i]? with
  | some (some v) => (match sm_in v with
    | some x => some (code, ls, .int x :: st, h)
    | none => none)
  | _ => none
def sm_ald (i : Nat) (code : List Ent) (ls : Lv) (st : List Value) (h : Hp) : Sg := match ls[i]? with
  | some (some v) => (match sm_rf v with
    | some _ => some (code, ls, v :: st, h)
    | none => none)
  | _ => none
def sm_ist (i : Nat) (code : List Ent) (ls : Lv) (st : List Value) (h : Hp) : Sg := match st with
  | v :: r => (match sm_in v with
    | some x => bif Nat.blt i ls.length then some (code, ls.set i (some (.int x)), r, h) else none
    | none => none)
  | _ => none
def sm_ast (i : Nat) (code : List Ent) (ls : Lv) (st : List Value) (h : Hp) : Sg := match st with
  | v :: r => (match sm_rf v with
    | some _ => bif Nat.blt i ls.length then some (code, ls.set i (some v), r, h) else none
    | none => none)
  | _ => none
def sm_bin (f : Int32 → Int32 → Int32) (code : List Ent) (ls : Lv) (st : List Value) (h : Hp) : Sg := match st with
  | v :: w :: r => (match sm_in v, sm_in w with
    | some y, some x => some (code, ls, .int (f x y) :: r, h)
    | _, _ => none)
  | _ => none
def sm_binD (f : Int32 → Int32 → Int32) (code : List Ent) (ls : Lv) (st : List Value) (h : Hp) : Sg := match st with
  | v :: w :: r => (match sm_in v, sm_in w with
    | some y, some x => if y = 0 then none else some (code, ls, .int (f x y) :: r, h)
    | _, _ => none)
  | _ => none
/-- an array and an index within it -/
def sm_arr (st : List Value) (h : Hp) : Option (Nat × Nat × List Value) := match st with
  | v :: w :: r => (match sm_in v, sm_rf w with
    | some i, some (some a) => (match sm_ix i (ln h a) with
      | some j => some (a, j, r)
      | none => none)
    | _, _ => none)
  | _ => none
def sm_step (m : MI) (e : Ent) (code : List Ent) (ls : Lv) (st : List Value) (h : Hp) : Sg := match e.2.1 with
  | .iconst _ => some (code, ls, .int (sm_lit e.2.2.2.1 e.2.2.2.2.1) :: st, h)
  | .bipush _ => some (code, ls, .int (sm_lit e.2.2.2.1 e.2.2.2.2.1) :: st, h)
  | .sipush _ => some (code, ls, .int (sm_lit e.2.2.2.1 e.2.2.2.2.1) :: st, h)
  | .ldc _ => (match e.2.2.2.2.2 with
    | 0 => some (code, ls, .int (sm_lit e.2.2.2.1 e.2.2.2.2.1) :: st, h)
    | _ => some (code, ls, .ref (gc h 1) :: st, h))
  | .ldc_w _ => some (code, ls, .int (sm_lit e.2.2.2.1 e.2.2.2.2.1) :: st, h)
  | .aconst_null => some (code, ls, .null :: st, h)
  | .iload_n k => sm_ild k.val code ls st h
  | .iload k => sm_ild k code ls st h
  | .aload_n k => sm_ald k.val code ls st h
  | .aload k => sm_ald k code ls st h
  | .istore_n k => sm_ist k.val code ls st h
  | .istore k => sm_ist k code ls st h
  | .astore_n k => sm_ast k.val code ls st h
  | .astore k => sm_ast k code ls st h
  | .iinc i _ => (match ls[i]? with
    | some (some v) => (match sm_in v with
      | some x => some (code, ls.set i (some (.int (x + sm_lit e.2.2.2.1 e.2.2.2.2.1))), st, h)
      | none => none)
    | _ => none)
  | .iadd => sm_bin (fun x y => x + y) code ls st h
  | .isub => sm_bin (fun x y => x - y) code ls st h
  | .imul => sm_bin (fun x y => x * y) code ls st h
  | .iand => sm_bin (fun x y => x &&& y) code ls st h
  | .ior => sm_bin (fun x y => x ||| y) code ls st h
  | .ishl => sm_bin (fun x y => x <<< (y &&& 31)) code ls st h
  | .ishr => sm_bin (fun x y => x >>> (y &&& 31)) code ls st h
  | .iushr => sm_bin (fun x y => (x.toUInt32 >>> (y.toUInt32 &&& Int32.toUInt32 31)).toInt32) code ls st h
  | .idiv => sm_binD (fun x y => x / y) code ls st h
  | .irem => sm_binD (fun x y => x - x / y * y) code ls st h
  | .dup => (match st with
    | v :: r => some (code, ls, v :: v :: r, h)
    | _ => none)
  | .dup_x1 => (match st with
    | v :: w :: r => some (code, ls, v :: w :: v :: r, h)
    | _ => none)
  | .dup2 => (match st with
    | v :: w :: r => some (code, ls, v :: w :: v :: w :: r, h)
    | _ => none)
  | .pop => (match st with
    | _ :: r => some (code, ls, r, h)
    | _ => none)
  | .ifCond c _ => (match st with
    | v :: r => (match sm_in v with
      | some x => if sm_cmp c x 0 = true then some (sm_seek (mP m) e.2.2.2.1, ls, r, h) else some (code, ls, r, h)
      | none => none)
    | _ => none)
  | .if_icmp c _ => (match st with
    | v :: w :: r => (match sm_in v, sm_in w with
      | some y, some x => if sm_cmp c x y = true then some (sm_seek (mP m) e.2.2.2.1, ls, r, h) else some (code, ls, r, h)
      | _, _ => none)
    | _ => none)
  | .if_acmp c _ => (match st with
    | v :: w :: r => (match sm_rf v, sm_rf w with
      | some y, some x => (match c with
        | .eq => if x = y then some (sm_seek (mP m) e.2.2.2.1, ls, r, h) else some (code, ls, r, h)
        | .ne => if x = y then some (code, ls, r, h) else some (sm_seek (mP m) e.2.2.2.1, ls, r, h))
      | _, _ => none)
    | _ => none)
  | .ifnull _ => (match st with
    | v :: r => (match sm_rf v with
      | some (some _) => some (code, ls, r, h)
      | some none => some (sm_seek (mP m) e.2.2.2.1, ls, r, h)
      | none => none)
    | _ => none)
  | .ifnonnull _ => (match st with
    | v :: r => (match sm_rf v with
      | some (some _) => some (sm_seek (mP m) e.2.2.2.1, ls, r, h)
      | some none => some (code, ls, r, h)
      | none => none)
    | _ => none)
  | .goto _ => some (sm_seek (mP m) e.2.2.2.1, ls, st, h)
  | .tableswitch d lo hi offs => (match st with
    | v :: r => (match sm_in v with
      | some x => (match sm_tab e.1 d lo hi offs x with
        | some t => some (sm_seek (mP m) t, ls, r, h)
        | none => none)
      | none => none)
    | _ => none)
  | .getfield _ => (match st with
    | v :: r => (match sm_rf v with
      | some (some a) => if kd h a = e.2.2.2.1 then (match e.2.2.2.2.2 with
        | 1 => some (code, ls, va_rf (fR h e.2.2.2.2.1 a) :: r, h)
        | _ => some (code, ls, .int (fI h e.2.2.2.2.1 a) :: r, h)) else none
      | _ => none)
    | _ => none)
  | .putfield _ => (match st with
    | v :: w :: r => (match sm_rf w with
      | some (some a) => if kd h a = e.2.2.2.1 then (match e.2.2.2.2.2 with
        | 1 => (match sm_rf v with
          | some x => some (code, ls, r, wfR h e.2.2.2.2.1 a x)
          | none => none)
        | 0 => (match sm_in v with
          | some x => some (code, ls, r, wfI h e.2.2.2.2.1 a x)
          | none => none)
        | _ => (match sm_in v with
          | some x => if x = 0 ∨ x = 1 then some (code, ls, r, wfI h e.2.2.2.2.1 a x) else none
          | none => none)) else none
      | _ => none)
    | _ => none)
  | .getstatic _ => some (code, ls, .ref (gc h 0) :: st, h)
  | .new _ => some (code, ls, .ref (sz h) :: st, hnew h e.2.2.2.1 0 e.2.2.2.2.1)
  | .newarray _ => (match st with
    | v :: r => (match sm_in v with
      | some i => (match sm_nat i with
        | some n => some (code, ls, .ref (sz h) :: r, hnew h e.2.2.2.1 n n)
        | none => none)
      | none => none)
    | _ => none)
  | .anewarray _ => (match st with
    | v :: r => (match sm_in v with
      | some i => (match sm_nat i with
        | some n => some (code, ls, .ref (sz h) :: r, hnew h e.2.2.2.1 n n)
        | none => none)
      | none => none)
    | _ => none)
  | .arraylength => (match st with
    | v :: r => (match sm_rf v with
      | some (some a) => if sm_isA (kd h a) = true then some (code, ls, .int (nI (ln h a)) :: r, h) else none
      | _ => none)
    | _ => none)
  | .iaload => (match sm_arr st h with
    | some (a, j, r) => if kd h a = 20 ∨ kd h a = 41 then some (code, ls, .int (aI h a j) :: r, h) else none
    | none => none)
  | .baload => (match sm_arr st h with
    | some (a, j, r) => if kd h a = 21 then some (code, ls, .int (aI h a j) :: r, h) else none
    | none => none)
  | .aaload => (match sm_arr st h with
    | some (a, j, r) => if 22 ≤ kd h a ∧ kd h a ≤ 27 then some (code, ls, va_rf (aR h a j) :: r, h) else none
    | none => none)
  | .iastore => (match st with
    | v :: st' => (match sm_in v, sm_arr st' h with
      | some x, some (a, j, r) => if kd h a = 20 then some (code, ls, r, waI h a j x) else none
      | _, _ => none)
    | _ => none)
  | .bastore => (match st with
    | v :: st' => (match sm_in v, sm_arr st' h with
      | some x, some (a, j, r) => if kd h a = 21 ∧ (x = 0 ∨ x = 1) then some (code, ls, r, waI h a j x) else none
      | _, _ => none)
    | _ => none)
  | .aastore => (match st with
    | v :: st' => (match sm_rf v, sm_arr st' h with
      | some none, some (a, j, r) => if 22 ≤ kd h a ∧ kd h a ≤ 27 then some (code, ls, r, waR h a j none) else none
      | some (some y), some (a, j, r) => if sm_may (kd h a) (kd h y) = true then some (code, ls, r, waR h a j (some y)) else none
      | _, _ => none)
    | _ => none)
  | .checkcast _ => (match st with
    | v :: r => (match sm_rf v with
      | some (some a) => if kd h a = e.2.2.2.1 then some (code, ls, v :: r, h) else none
      | _ => none)
    | _ => none)
  | .invokespecial _ => (match e.2.2.2.1 with
    | 1000 => (match st with
      | v :: r => (match sm_rf v with
        | some (some _) => if r.length ≤ 8 then some (code, ls, r, h) else none
        | _ => none)
      | _ => none)
    | _ => none)
  | .invokevirtual _ => (match e.2.2.2.1 with
    | 1001 => (match st with
      | v :: r => (match sm_rf v with
        | some (some a) => if kd h a = 20 ∧ r.length ≤ 8 then some (code, ls, .ref (sz h) :: r, hcln h a) else none
        | _ => none)
      | _ => none)
    | 1003 => (match st with
      | v :: r => (match sm_rf v with
        | some (some a) => if kd h a = 22 ∧ r.length ≤ 8 then some (code, ls, .ref (gc h 1) :: r, h) else none
        | _ => none)
      | _ => none)
    | _ => none)
  | .invokestatic _ => (match e.2.2.2.1 with
    | 1002 => (match st with
      | v1 :: v2 :: v3 :: v4 :: v5 :: r => (match sm_in v1, sm_in v2, sm_rf v3, sm_in v4, sm_rf v5 with
        | some n, some dp, some (some a), some sp, some (some a0) => if kd h a = 22 ∧ kd h a0 = 22 ∧ ¬ n < 0 ∧ ¬ dp < 0 ∧ ¬ sp < 0 ∧ sp.toNatClampNeg + n.toNatClampNeg ≤ ln h a0 ∧ dp.toNatClampNeg + n.toNatClampNeg ≤ ln h a ∧ r.length ≤ 8 then some (code, ls, r, hcpy h a0 sp.toNatClampNeg a dp.toNatClampNeg n.toNatClampNeg) else none
        | _, _, _, _, _ => none)
      | _ => none)
    | 1004 => (match st with
      | v :: w :: r => (match sm_in v, sm_in w with
        | some y, some x => if r.length ≤ 8 then some (code, ls, .int (if x < y then y else x) :: r, h) else none
        | _, _ => none)
      | _ => none)
    | 1005 => (match st with
      | v :: w :: r => (match sm_in v, sm_in w with
        | some y, some x => if r.length ≤ 8 then some (code, ls, .int (if y < x then y else x) :: r, h) else none
        | _, _ => none)
      | _ => none)
    | _ => none)
  | _ => none
def sm_ret (m : MI) (e : Ent) (st : List Value) (h : Hp) : Option (Option Value × Hp) := match e.2.1 with
  | .return_ => (match st, mR m with
    | [], none => some (none, h)
    | _, _ => none)
  | .ireturn => (match st with
    | [v] => (match sm_in v with
      | some x => (match mR m with
        | some .int => some (some (.int x), h)
        | some .boolean => if x = 0 ∨ x = 1 then some (some (.int x), h) else none
        | _ => none)
      | none => none)
    | _ => none)
  | .areturn => (match st with
    | [v] => (match sm_rf v with
      | some _ => (match mR m with
        | some (.object _) => some (some v, h)
        | some (.array _) => some (some v, h)
        | _ => none)
      | none => none)
    | _ => none)
  | _ => none
def sm_cls (e : Ent) : Nat := match e.2.2.2.2.2 with
  | 9 => 3
  | _ => (match e.2.1 with
    | .invokevirtual _ => if e.2.2.2.1 < 1000 then 1 else 0
    | .invokespecial _ => if e.2.2.2.1 < 1000 then 1 else 0
    | .invokestatic _ => if e.2.2.2.1 < 1000 then 1 else 0
    | .ireturn => 2
    | .areturn => 2
    | .return_ => 2
    | _ => 0)
/-- the callee's receiver: a reference, and of its kind -/
def sm_rcv (m : MI) (as : List Value) (h : Hp) : Bool := match mK m with
  | 0 => true
  | k + 1 => (match as with
    | .ref a :: _ => bif Nat.beq k 0 then true else Nat.beq (kd h a) k
    | _ => false)
def sm_l0 (m : MI) (as : List Value) : Lv := as.map some ++ List.replicate (mL m - as.length) none
def sm_run (MT : List MI) : Nat → MI → List Ent → Lv → List Value → Hp → Option (Option Value × Hp)
  | 0, _, _, _, _, _ => none
  | _ + 1, _, [], _, _, _ => none
  | n + 1, m, e :: code, ls, st, h => match sm_cls e with
    | 0 => (match sm_step m e code ls st h with
      | some q => sm_run MT n m q.1 q.2.1 q.2.2.1 q.2.2.2
      | none => none)
    | 1 => (match MT[e.2.2.2.1]? with
      | some m' => if mN m' ≤ st.length ∧ (st.drop (mN m')).length ≤ 8 ∧ sm_rcv m' (st.take (mN m')).reverse h = true then (match sm_run MT n m' (mP m') (sm_l0 m' (st.take (mN m')).reverse) [] h with
          | some q => sm_run MT n m code ls (q.1.toList ++ st.drop (mN m')) q.2
          | none => none) else none
      | none => none)
    | 2 => sm_ret m e st h
    | _ => none
