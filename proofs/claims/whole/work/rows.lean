section
/-! ===== an abstract machine: the worlds of a fixed shape, one step, a run up to cuts ===== -/
abbrev eW : Type := (Nat → Nat → Int32) × (Nat → Nat → Int64)
abbrev eSh : Type := (Nat × Nat) ⊕ (Nat × List (Nat × Nat))
abbrev eR : Type := Nat × Nat × Nat × Int
abbrev eL : Type := List (Option Value)
abbrev eK (ρ : Type) : Type := Nat → eL → List Value → eW → Option ρ
abbrev eF (ρ : Type) : Type := List Value → eW → (Option Value → eW → Option ρ) → Option ρ
abbrev eCo : Type := List (List (Option Instr))
abbrev eS : Type := String × String × String × List Int32
def eC (ad : Nat → Nat) (v : Value) : Value := match v with
  | .ref a => .ref (ad a)
  | v => v
/-- a field: 0 an int, 1 a long, 2 a reference to a cell, 3 a boolean -/
def eFv (ad : Nat → Nat) (w : eW) (id k : Nat) (f : Nat × Nat) : Value := match f.1 with
  | 0 => .int (w.1 id k)
  | 1 => .long (w.2 id k)
  | 2 => .ref (ad f.2)
  | _ => .int (w.1 id k)
def eFs (ad : Nat → Nat) (w : eW) (id : Nat) : Nat → List (Nat × Nat) → List Value
  | _, [] => []
  | k, f :: fs => eFv ad w id k f :: eFs ad w id (k + 1) fs
/-- an array: 0 of ints, 1 of longs, 2 of bytes, 3 of booleans -/
def eCell (ad : Nat → Nat) (cA : Nat → ClassId) (w : eW) (id : Nat) (sh : eSh) : va_E := match sh with
  | .inl (0, n) => .inl (cA 0, n, .inl (w.1 id))
  | .inl (1, n) => .inl (cA 1, n, .inr (.inl (w.2 id)))
  | .inl (2, n) => .inl (cA 2, n, .inl (w.1 id))
  | .inl (_, n) => .inl (cA 3, n, .inl (w.1 id))
  | .inr (ci, fs) => .inr (ci, eFs ad w id 0 fs)
def eWs (ad : Nat → Nat) (cA : Nat → ClassId) (w : eW) : Nat → List eSh → va_W
  | _, [] => []
  | id, sh :: r => (ad id, eCell ad cA w id sh) :: eWs ad cA w (id + 1) r
def eU1 (w : eW) (id k : Nat) (x : Int32) : eW := (fun a b => if a = id then (if b = k then x else w.1 a b) else w.1 a b, w.2)
def eU2 (w : eW) (id k : Nat) (x : Int64) : eW := (w.1, fun a b => if a = id then (if b = k then x else w.2 a b) else w.2 a b)
def eCp1 (w : eW) (d o sp dp n : Nat) : eW := (fun a b => if a = d then va_cpy (w.1 o) (w.1 d) sp dp n b else w.1 a b, w.2)
def eCp2 (w : eW) (d o sp dp n : Nat) : eW := (w.1, fun a b => if a = d then va_cpy (w.2 o) (w.2 d) sp dp n b else w.2 a b)
def eAt (C : eCo) (pc : Nat) : Option Instr := match C[pc / 16]? with
  | some l => match l[pc % 16]? with
    | some x => x
    | none => none
  | none => none
def eLook : List (Nat × eR) → Nat → Option eR
  | [], _ => none
  | (i, r) :: q, n => bif Nat.beq i n then some r else eLook q n
def eTo (pc : Nat) (off : Int) : Option Nat := match off with
  | .ofNat n => some (pc + n)
  | .negSucc n => bif Nat.ble (n + 1) pc then some (pc - (n + 1)) else none
def eLd (L : eL) (i : Nat) : Option Value := match L[i]? with
  | some (some v) => some v
  | _ => none
def eSt1 (L : eL) (i : Nat) (v : Value) : eL := match i with
  | 0 => L.set 0 (some v)
  | j + 1 => match eLd L j with
    | some (.long _) => (L.set (j + 1) (some v)).set j none
    | some (.double _) => (L.set (j + 1) (some v)).set j none
    | _ => L.set (j + 1) (some v)
def eSt2 (L : eL) (i : Nat) (v : Value) : eL := (eSt1 L i v).set (i + 1) none
def eCat : List Value → Nat
  | [] => 0
  | v :: r => v.category + eCat r
/-- the arguments of a call, the last pushed first, and what is below -/
def eArgs : Nat → List Value → List Value → Option (List Value × List Value)
  | 0, acc, st => some (acc, st)
  | _ + 1, _, [] => none
  | n + 1, acc, v :: st => eArgs n (v :: acc) st
section ESTEP
variable {ρ : Type}
def eSw (k : Nat → Option ρ) (pc : Nat) (x : Int32) (dflt : Int) : Int → List Int → Option ρ
  | _, [] => match eTo pc dflt with
    | some t => k t
    | none => none
  | lo, o :: os => if x = Int32.ofInt lo then (match eTo pc o with
    | some t => k t
    | none => none) else eSw k pc x dflt (lo + 1) os
def eBr (k : Nat → Option ρ) (pc : Nat) (off : Int) (c : Prop) (d : Decidable c) : Option ρ := match eTo pc off with
  | some t => @ite (Option ρ) c d (k t) (k (pc + 3))
  | none => none
/-- what an instruction does with the operand stack alone -/
def eAlu (i : Instr) (st : List Value) (k : List Value → Option ρ) : Option ρ := match i with
  | .iconst n => k (.int (Int32.ofInt n) :: st)
  | .bipush n => k (.int (Int8.ofInt n).toInt32 :: st)
  | .sipush n => k (.int (Int16.ofInt n).toInt32 :: st)
  | .lconst n => k (.long (Int64.ofNat n) :: st)
  | .dconst n => match n with
    | 0 => k (.double FP.dconst0 :: st)
    | 1 => k (.double FP.dconst1 :: st)
  | .fconst n => match n with
    | 0 => k (.float FP.fconst0 :: st)
    | 1 => k (.float FP.fconst1 :: st)
    | 2 => k (.float FP.fconst2 :: st)
  | .iadd => match st with
    | .int y :: .int x :: st => k (.int (x + y) :: st)
    | _ => none
  | .isub => match st with
    | .int y :: .int x :: st => k (.int (x - y) :: st)
    | _ => none
  | .imul => match st with
    | .int y :: .int x :: st => k (.int (x * y) :: st)
    | _ => none
  | .iand => match st with
    | .int y :: .int x :: st => k (.int (x &&& y) :: st)
    | _ => none
  | .ior => match st with
    | .int y :: .int x :: st => k (.int (x ||| y) :: st)
    | _ => none
  | .ixor => match st with
    | .int y :: .int x :: st => k (.int (x ^^^ y) :: st)
    | _ => none
  | .idiv => match st with
    | .int y :: .int x :: st => if y = 0 then none else k (.int (x / y) :: st)
    | _ => none
  | .irem => match st with
    | .int y :: .int x :: st => if y = 0 then none else k (.int (x - x / y * y) :: st)
    | _ => none
  | .ineg => match st with
    | .int x :: st => k (.int (-x) :: st)
    | _ => none
  | .ishl => match st with
    | .int y :: .int x :: st => k (.int (x <<< (y &&& 31)) :: st)
    | _ => none
  | .ishr => match st with
    | .int y :: .int x :: st => k (.int (x >>> (y &&& 31)) :: st)
    | _ => none
  | .iushr => match st with
    | .int y :: .int x :: st => k (.int (x.toUInt32 >>> (y.toUInt32 &&& Int32.toUInt32 31)).toInt32 :: st)
    | _ => none
  | .i2l => match st with
    | .int x :: st => k (.long x.toInt64 :: st)
    | _ => none
  | .i2b => match st with
    | .int x :: st => k (.int x.toInt8.toInt32 :: st)
    | _ => none
  | .i2d => match st with
    | .int x :: st => k (.double (FP.i2d x) :: st)
    | _ => none
  | .i2f => match st with
    | .int x :: st => k (.float (FP.i2f x) :: st)
    | _ => none
  | .l2i => match st with
    | .long x :: st => k (.int x.toInt32 :: st)
    | _ => none
  | .l2d => match st with
    | .long x :: st => k (.double (FP.l2d x) :: st)
    | _ => none
  | .l2f => match st with
    | .long x :: st => k (.float (FP.l2f x) :: st)
    | _ => none
  | .d2l => match st with
    | .double x :: st => k (.long (FP.d2l x) :: st)
    | _ => none
  | .f2i => match st with
    | .float x :: st => k (.int (FP.f2i x) :: st)
    | _ => none
  | .ladd => match st with
    | .long y :: .long x :: st => k (.long (x + y) :: st)
    | _ => none
  | .lsub => match st with
    | .long y :: .long x :: st => k (.long (x - y) :: st)
    | _ => none
  | .lmul => match st with
    | .long y :: .long x :: st => k (.long (x * y) :: st)
    | _ => none
  | .lor => match st with
    | .long y :: .long x :: st => k (.long (x ||| y) :: st)
    | _ => none
  | .ldiv => match st with
    | .long y :: .long x :: st => if y = 0 then none else k (.long (x / y) :: st)
    | _ => none
  | .lrem => match st with
    | .long y :: .long x :: st => if y = 0 then none else k (.long (x - x / y * y) :: st)
    | _ => none
  | .lneg => match st with
    | .long x :: st => k (.long (-x) :: st)
    | _ => none
  | .lshl => match st with
    | .int y :: .long x :: st => k (.long (x <<< (y.toInt64 &&& 63)) :: st)
    | _ => none
  | .lcmp => match st with
    | .long y :: .long x :: st => k (.int (lg_cmp x y) :: st)
    | _ => none
  | .dcmp op => match st with
    | .double y :: .double x :: st => k (.int (Op.cmpValue (FP.dcmp x y) op) :: st)
    | _ => none
  | .fcmp op => match st with
    | .float y :: .float x :: st => k (.int (Op.cmpValue (FP.fcmp x y) op) :: st)
    | _ => none
  | .dadd => match st with
    | .double y :: .double x :: st => if FP.dadd x y &&& 0x7fffffffffffffff ≤ 0x7ff0000000000000 then k (.double (FP.dadd x y) :: st) else none
    | _ => none
  | .dsub => match st with
    | .double y :: .double x :: st => if FP.dsub x y &&& 0x7fffffffffffffff ≤ 0x7ff0000000000000 then k (.double (FP.dsub x y) :: st) else none
    | _ => none
  | .dmul => match st with
    | .double y :: .double x :: st => if FP.dmul x y &&& 0x7fffffffffffffff ≤ 0x7ff0000000000000 then k (.double (FP.dmul x y) :: st) else none
    | _ => none
  | .ddiv => match st with
    | .double y :: .double x :: st => if FP.ddiv x y &&& 0x7fffffffffffffff ≤ 0x7ff0000000000000 then k (.double (FP.ddiv x y) :: st) else none
    | _ => none
  | .fsub => match st with
    | .float y :: .float x :: st => if FP.fsub x y &&& 0x7fffffff ≤ 0x7f800000 then k (.float (FP.fsub x y) :: st) else none
    | _ => none
  | .fmul => match st with
    | .float y :: .float x :: st => if FP.fmul x y &&& 0x7fffffff ≤ 0x7f800000 then k (.float (FP.fmul x y) :: st) else none
    | _ => none
  | .fdiv => match st with
    | .float y :: .float x :: st => if FP.fdiv x y &&& 0x7fffffff ≤ 0x7f800000 then k (.float (FP.fdiv x y) :: st) else none
    | _ => none
  | .dup => match st with
    | .int x :: st => k (.int x :: .int x :: st)
    | .ref x :: st => k (.ref x :: .ref x :: st)
    | _ => none
  | .dup2 => match st with
    | .int x :: .ref y :: st => k (.int x :: .ref y :: .int x :: .ref y :: st)
    | _ => none
  | .pop => match st with
    | .int _ :: st => k st
    | _ => none
  | _ => none
def eILen (i : Instr) : Nat := match i with
  | .iload _ | .lload _ | .dload _ | .fload _ | .aload _ | .istore _ | .lstore _ | .dstore _ | .fstore _ | .astore _ | .bipush _ | .ldc _ => 2
  | .iinc _ _ | .goto _ | .ifCond _ _ | .if_icmp _ _ | .sipush _ | .ldc_w _ | .ldc2_w _ | .getfield _ | .putfield _ | .getstatic _ | .invokestatic _ | .invokevirtual _ => 3
  | _ => 1
def eIn (i : Int32) (n : Nat) : Prop := ¬ (i < 0 ∨ n ≤ i.toNatClampNeg)
def eInD (i : Int32) (n : Nat) : Decidable (eIn i n) := inferInstanceAs (Decidable (¬ (i < 0 ∨ n ≤ i.toNatClampNeg)))
def eChk (i : Int32) (n : Nat) (x : Option ρ) : Option ρ := @ite _ (eIn i n) (eInD i n) x none
def eStep (SH : List eSh) (SS : List eS) (nL : Nat) (rs : List (Nat × eR)) (calls : Nat → eF ρ) (rt : Option Value → eW → Option ρ) (k : eK ρ) (i : Instr) (pc : Nat) (L : eL) (st : List Value) (w : eW) : Option ρ :=
  match i with
  | .iload n => match eLd L n with
    | some (.int x) => k (pc + 2) L (.int x :: st) w
    | _ => none
  | .iload_n n => match eLd L n with
    | some (.int x) => k (pc + 1) L (.int x :: st) w
    | _ => none
  | .lload n => match eLd L n with
    | some (.long x) => k (pc + 2) L (.long x :: st) w
    | _ => none
  | .lload_n n => match eLd L n with
    | some (.long x) => k (pc + 1) L (.long x :: st) w
    | _ => none
  | .dload n => match eLd L n with
    | some (.double x) => k (pc + 2) L (.double x :: st) w
    | _ => none
  | .dload_n n => match eLd L n with
    | some (.double x) => k (pc + 1) L (.double x :: st) w
    | _ => none
  | .fload n => match eLd L n with
    | some (.float x) => k (pc + 2) L (.float x :: st) w
    | _ => none
  | .fload_n n => match eLd L n with
    | some (.float x) => k (pc + 1) L (.float x :: st) w
    | _ => none
  | .aload n => match eLd L n with
    | some (.ref x) => k (pc + 2) L (.ref x :: st) w
    | _ => none
  | .aload_n n => match eLd L n with
    | some (.ref x) => k (pc + 1) L (.ref x :: st) w
    | _ => none
  | .istore n => match st with
    | .int x :: st => bif Nat.blt n nL then k (pc + 2) (eSt1 L n (.int x)) st w else none
    | _ => none
  | .istore_n n => match st with
    | .int x :: st => bif Nat.blt n nL then k (pc + 1) (eSt1 L n (.int x)) st w else none
    | _ => none
  | .lstore n => match st with
    | .long x :: st => bif Nat.blt (n + 1) nL then k (pc + 2) (eSt2 L n (.long x)) st w else none
    | _ => none
  | .lstore_n n => match st with
    | .long x :: st => bif Nat.blt (n + 1) nL then k (pc + 1) (eSt2 L n (.long x)) st w else none
    | _ => none
  | .dstore n => match st with
    | .double x :: st => bif Nat.blt (n + 1) nL then k (pc + 2) (eSt2 L n (.double x)) st w else none
    | _ => none
  | .dstore_n n => match st with
    | .double x :: st => bif Nat.blt (n + 1) nL then k (pc + 1) (eSt2 L n (.double x)) st w else none
    | _ => none
  | .fstore n => match st with
    | .float x :: st => bif Nat.blt n nL then k (pc + 2) (eSt1 L n (.float x)) st w else none
    | _ => none
  | .fstore_n n => match st with
    | .float x :: st => bif Nat.blt n nL then k (pc + 1) (eSt1 L n (.float x)) st w else none
    | _ => none
  | .astore n => match st with
    | .ref x :: st => bif Nat.blt n nL then k (pc + 2) (eSt1 L n (.ref x)) st w else none
    | _ => none
  | .astore_n n => match st with
    | .ref x :: st => bif Nat.blt n nL then k (pc + 1) (eSt1 L n (.ref x)) st w else none
    | _ => none
  | .iinc n z => match eLd L n with
    | some (.int x) => bif Nat.blt n nL then k (pc + 3) (eSt1 L n (.int (x + Int32.ofInt z))) st w else none
    | _ => none
  | .goto off => match eTo pc off with
    | some t => k t L st w
    | none => none
  | .ifCond c off => match st with
    | .int x :: st => (match c with
      | .eq => eBr (fun t => k t L st w) pc off (x = 0) inferInstance
      | .ne => eBr (fun t => k t L st w) pc off (¬ x = 0) inferInstance
      | .lt => eBr (fun t => k t L st w) pc off (x < 0) inferInstance
      | .ge => eBr (fun t => k t L st w) pc off (0 ≤ x) inferInstance
      | .gt => eBr (fun t => k t L st w) pc off (0 < x) inferInstance
      | .le => eBr (fun t => k t L st w) pc off (x ≤ 0) inferInstance)
    | _ => none
  | .if_icmp c off => match st with
    | .int y :: .int x :: st => (match c with
      | .eq => eBr (fun t => k t L st w) pc off (x = y) inferInstance
      | .ne => eBr (fun t => k t L st w) pc off (¬ x = y) inferInstance
      | .lt => eBr (fun t => k t L st w) pc off (x < y) inferInstance
      | .ge => eBr (fun t => k t L st w) pc off (y ≤ x) inferInstance
      | .gt => eBr (fun t => k t L st w) pc off (y < x) inferInstance
      | .le => eBr (fun t => k t L st w) pc off (x ≤ y) inferInstance)
    | _ => none
  | .tableswitch dflt lo _ offs => match st with
    | .int x :: st => eSw (fun t => k t L st w) pc x dflt lo offs.toList
    | _ => none
  | .ldc ix => match eLook rs ix with
    | some (2, _, _, z) => k (pc + 2) L (.int (Int32.ofInt z) :: st) w
    | some (5, z, _, _) => k (pc + 2) L (.float (UInt32.ofNat z) :: st) w
    | _ => none
  | .ldc_w ix => match eLook rs ix with
    | some (2, _, _, z) => k (pc + 3) L (.int (Int32.ofInt z) :: st) w
    | _ => none
  | .ldc2_w ix => match eLook rs ix with
    | some (3, _, _, z) => k (pc + 3) L (.long (Int64.ofInt z) :: st) w
    | some (4, z, _, _) => k (pc + 3) L (.double (UInt64.ofNat z) :: st) w
    | _ => none
  | .getfield ix => match eLook rs ix, st with
    | some (0, ci, kf, _), .ref o :: st => (match SH[o]? with
      | some (.inr (ci', fs)) => bif Nat.beq ci' ci then (match fs[kf]? with
        | some f => k (pc + 3) L (eFv (fun a => a) w o kf f :: st) w
        | none => none) else none
      | _ => none)
    | _, _ => none
  | .putfield ix => match eLook rs ix, st with
    | some (0, ci, kf, _), v :: .ref o :: st => (match SH[o]? with
      | some (.inr (ci', fs)) => bif Nat.beq ci' ci then (match fs[kf]?, v with
        | some (0, _), .int x => k (pc + 3) L st (eU1 w o kf x)
        | some (1, _), .long x => k (pc + 3) L st (eU2 w o kf x)
        | some (3, _), .int x => if x &&& 1 = x then k (pc + 3) L st (eU1 w o kf x) else none
        | _, _ => none) else none
      | _ => none)
    | _, _ => none
  | .getstatic ix => match eLook rs ix with
    | some (7, id, _, _) => k (pc + 3) L (.ref id :: st) w
    | _ => none
  | .arraylength => match st with
    | .ref o :: st => (match SH[o]? with
      | some (.inl (_, n)) => k (pc + 1) L (.int (Int32.ofNat n) :: st) w
      | some _ => none
      | none => (match SS[o - SH.length]? with
        | some q => k (pc + 1) L (.int (Int32.ofNat q.2.2.2.length) :: st) w
        | none => none))
    | _ => none
  | .iaload => match st with
    | .int j :: .ref o :: st => (match SH[o]? with
      | some (.inl (0, n)) => eChk j n (k (pc + 1) L (.int (w.1 o j.toNatClampNeg) :: st) w)
      | some _ => none
      | none => (match SS[o - SH.length]? with
        | some q => eChk j q.2.2.2.length (k (pc + 1) L (.int (q.2.2.2.getD j.toNatClampNeg 0) :: st) w)
        | none => none))
    | _ => none
  | .laload => match st with
    | .int j :: .ref o :: st => (match SH[o]? with
      | some (.inl (1, n)) => eChk j n (k (pc + 1) L (.long (w.2 o j.toNatClampNeg) :: st) w)
      | _ => none)
    | _ => none
  | .baload => match st with
    | .int j :: .ref o :: st => (match SH[o]? with
      | some (.inl (2, n)) => eChk j n (k (pc + 1) L (.int (w.1 o j.toNatClampNeg) :: st) w)
      | some (.inl (3, n)) => eChk j n (k (pc + 1) L (.int (w.1 o j.toNatClampNeg) :: st) w)
      | _ => none)
    | _ => none
  | .iastore => match st with
    | .int x :: .int j :: .ref o :: st => (match SH[o]? with
      | some (.inl (0, n)) => eChk j n (k (pc + 1) L st (eU1 w o j.toNatClampNeg x))
      | _ => none)
    | _ => none
  | .lastore => match st with
    | .long x :: .int j :: .ref o :: st => (match SH[o]? with
      | some (.inl (1, n)) => eChk j n (k (pc + 1) L st (eU2 w o j.toNatClampNeg x))
      | _ => none)
    | _ => none
  | .bastore => match st with
    | .int x :: .int j :: .ref o :: st => (match SH[o]? with
      | some (.inl (2, n)) => eChk j n (k (pc + 1) L st (eU1 w o j.toNatClampNeg (vp_nar .byte x)))
      | some (.inl (3, n)) => eChk j n (k (pc + 1) L st (eU1 w o j.toNatClampNeg (vp_nar .boolean x)))
      | _ => none)
    | _ => none
  | .invokestatic ix => match eLook rs ix with
    | some (1, a, n, _) => (match eArgs n [] st with
      | some (as, st) => bif Nat.ble (eCat st) 8 then calls a as w (fun v w => k (pc + 3) L (v.toList ++ st) w) else none
      | none => none)
    | some (6, a, _, _) => bif Nat.ble (eCat st) 8 then (match a, st with
      | 0, .int y :: .int x :: st => k (pc + 3) L (.int (if x < y then y else x) :: st) w
      | 1, .int y :: .int x :: st => k (pc + 3) L (.int (if y < x then y else x) :: st) w
      | 2, .long y :: .long x :: st => k (pc + 3) L (.long (if y < x then x else y) :: st) w
      | 3, .int n :: .int dp :: .ref d :: .int sp :: .ref o :: st => (match SH[o]?, SH[d]? with
        | some (.inl (0, n0)), some (.inl (0, n1)) => if ¬ sp < 0 ∧ ¬ dp < 0 ∧ ¬ n < 0 ∧ sp.toNatClampNeg + n.toNatClampNeg ≤ n0 ∧ dp.toNatClampNeg + n.toNatClampNeg ≤ n1 then k (pc + 3) L st (eCp1 w d o sp.toNatClampNeg dp.toNatClampNeg n.toNatClampNeg) else none
        | some (.inl (1, n0)), some (.inl (1, n1)) => if ¬ sp < 0 ∧ ¬ dp < 0 ∧ ¬ n < 0 ∧ sp.toNatClampNeg + n.toNatClampNeg ≤ n0 ∧ dp.toNatClampNeg + n.toNatClampNeg ≤ n1 then k (pc + 3) L st (eCp2 w d o sp.toNatClampNeg dp.toNatClampNeg n.toNatClampNeg) else none
        | _, _ => none)
      | _, _ => none) else none
    | _ => none
  | .invokevirtual ix => match eLook rs ix with
    | some (1, a, n, z) => (match eArgs n [] st with
      | some (as, .ref o :: st) => (match SH[o]? with
        | some (.inr (ci, _)) => bif Nat.ble (eCat st) 8 && Nat.beq ci z.toNat then calls a (.ref o :: as) w (fun v w => k (pc + 3) L (v.toList ++ st) w) else none
        | _ => none)
      | _ => none)
    | _ => none
  | .ireturn => match st with
    | [.int x] => rt (some (.int x)) w
    | _ => none
  | .lreturn => match st with
    | [.long x] => rt (some (.long x)) w
    | _ => none
  | .dreturn => match st with
    | [.double x] => rt (some (.double x)) w
    | _ => none
  | .freturn => match st with
    | [.float x] => rt (some (.float x)) w
    | _ => none
  | .areturn => match st with
    | [.ref x] => rt (some (.ref x)) w
    | _ => none
  | .return_ => match st with
    | [] => rt none w
    | _ => none
  | i => eAlu i st (fun st => k (pc + eILen i) L st w)
def eMem (n : Nat) : List Nat → Bool
  | [] => false
  | m :: r => bif Nat.beq n m then true else eMem n r
/-- a run up to the cuts: there K goes on -/
def eRun (SH : List eSh) (SS : List eS) (nL : Nat) (rs : List (Nat × eR)) (calls : Nat → eF ρ) (rt : Option Value → eW → Option ρ) (C : eCo) (cuts : List Nat) (K : eK ρ) : Nat → Bool → eK ρ := fun n => Nat.rec (motive := fun _ => Bool → eK ρ) (fun _ _ _ _ _ => none)
  (fun _ ih first pc L st w => bif (eMem pc cuts && !first) then K pc L st w else (match eAt C pc with
    | some i => eStep SH SS nL rs calls rt (ih false) i pc L st w
    | none => none)) n
end ESTEP
/-- what a method answers -/
def rI (v : Option Value) (w : eW) : Option (Int32 × eW) := match v with
  | some (.int x) => some (x, w)
  | _ => none
def rZ (v : Option Value) (w : eW) : Option (Int32 × eW) := match v with
  | some (.int x) => if x &&& 1 = x then some (x, w) else none
  | _ => none
def rJ (v : Option Value) (w : eW) : Option (Int64 × eW) := match v with
  | some (.long x) => some (x, w)
  | _ => none
def rD (v : Option Value) (w : eW) : Option (UInt64 × eW) := match v with
  | some (.double x) => some (x, w)
  | _ => none
def rF (v : Option Value) (w : eW) : Option (UInt32 × eW) := match v with
  | some (.float x) => some (x, w)
  | _ => none
def rA (v : Option Value) (w : eW) : Option (Nat × eW) := match v with
  | some (.ref x) => some (x, w)
  | _ => none
def rV (v : Option Value) (w : eW) : Option eW := match v with
  | none => some w
  | _ => none
/-- a local of a kind -/
def lI (L : eL) (i : Nat) : Option Int32 := match eLd L i with
  | some (.int x) => some x
  | _ => none
def lJ (L : eL) (i : Nat) : Option Int64 := match eLd L i with
  | some (.long x) => some x
  | _ => none
def lD (L : eL) (i : Nat) : Option UInt64 := match eLd L i with
  | some (.double x) => some x
  | _ => none
def lF (L : eL) (i : Nat) : Option UInt32 := match eLd L i with
  | some (.float x) => some x
  | _ => none
def lA (L : eL) (i : Nat) : Option Nat := match eLd L i with
  | some (.ref x) => some x
  | _ => none
end
section
/-! ===== the abstract machine is sound over the machine ===== -/
def eTys (cA : Nat → ClassId) : List (ClassId × FieldType) := [(cA 0, .int), (cA 1, .long), (cA 2, .byte), (cA 3, .boolean)]
def eA (ad : Nat → Nat) (n : Nat) : Nat → Prop := fun q => ∃ i, i < n ∧ q = ad i
def eInj (ad : Nat → Nat) (n : Nat) : Prop := ∀ i j, i < n → j < n → ad i = ad j → i = j
def eStat (ad : Nat → Nat) (n : Nat) (SS : List eS) (U : State) : Prop := ∀ (k : Nat) (q : eS), SS[k]? = some q → va_Z q.1 q.2.1 q.2.2.1 (.ref (ad (n + k))) (eA ad n) U U.heap ∧ va_T .int (ad (n + k)) q.2.2.2.length (fun j => .int (q.2.2.2.getD j 0)) (eA ad n) U U.heap
def eAL (ad : Nat → Nat) (ls : Array Slot) (nL : Nat) (L : eL) : Prop := ls.size = nL ∧ lv_wf ls ∧ ∀ (i : Nat) (v : Value), L[i]? = some (some v) → ls[i]? = some (.val (eC ad v))
theorem eWs_get (ad : Nat → Nat) (cA : Nat → ClassId) (w : eW) : ∀ (SH : List eSh) (i k : Nat), (eWs ad cA w i SH)[k]? = (SH[k]?).map (fun sh => (ad (i + k), eCell ad cA w (i + k) sh))
  | [], _, _ => by simp [eWs]
  | sh :: r, i, 0 => by simp [eWs]
  | sh :: r, i, k + 1 => by
    simp only [eWs, List.getElem?_cons_succ]
    rw [eWs_get ad cA w r (i + 1) k, show i + 1 + k = i + (k + 1) by omega]
theorem eWs_at {ad : Nat → Nat} {cA : Nat → ClassId} {w : eW} {SH : List eSh} {k : Nat} {sh : eSh} (h : SH[k]? = some sh) : (eWs ad cA w 0 SH)[k]? = some (ad k, eCell ad cA w k sh) := by
  rw [eWs_get, h]
  simp
theorem eFs_get (ad : Nat → Nat) (w : eW) (id : Nat) : ∀ (fs : List (Nat × Nat)) (i k : Nat), (eFs ad w id i fs)[k]? = (fs[k]?).map (fun f => eFv ad w id (i + k) f)
  | [], _, _ => by simp [eFs]
  | f :: r, i, 0 => by simp [eFs]
  | f :: r, i, k + 1 => by
    simp only [eFs, List.getElem?_cons_succ]
    rw [eFs_get ad w id r (i + 1) k, show i + 1 + k = i + (k + 1) by omega]
theorem eWs_D {ad : Nat → Nat} {cA : Nat → ClassId} {w : eW} {SH : List eSh} (hi : eInj ad SH.length) : va_D (eA ad SH.length) (eWs ad cA w 0 SH) := by
  have key : ∀ (k : Nat) (q : Nat × va_E), (eWs ad cA w 0 SH)[k]? = some q → k < SH.length ∧ q.1 = ad k := by
    intro k q h
    rw [eWs_get] at h
    cases hs : SH[k]? with
    | none => rw [hs] at h; cases h
    | some sh =>
      rw [hs] at h
      cases h
      exact ⟨(List.getElem?_eq_some_iff.mp hs).1, by simp⟩
  refine ⟨fun i j x y h1 h2 hxy => ?_, fun k q h => ?_⟩
  · obtain ⟨a1, b1⟩ := key i x h1
    obtain ⟨a2, b2⟩ := key j y h2
    exact hi i j a1 a2 (by rw [← b1, ← b2, hxy])
  · obtain ⟨a1, b1⟩ := key k q h
    exact ⟨k, a1, b1⟩
/-- a world that differs from another one at one cell alone -/
theorem eWs_set {ad : Nat → Nat} {cA : Nat → ClassId} {w w' : eW} {SH : List eSh} {o : Nat} {sh : eSh} (h : SH[o]? = some sh) (he : ∀ (k : Nat) (sh : eSh), k ≠ o → eCell ad cA w' k sh = eCell ad cA w k sh) : (eWs ad cA w 0 SH).set o (ad o, eCell ad cA w' o sh) = eWs ad cA w' 0 SH := by
  apply List.ext_getElem?
  intro k
  have hl : o < SH.length := (List.getElem?_eq_some_iff.mp h).1
  have hlen : ∀ (r : List eSh) (i : Nat), (eWs ad cA w i r).length = r.length := by
    intro r
    induction r with
    | nil => intro i; rfl
    | cons a r ih => intro i; simp [eWs, ih]
  by_cases hk : k = o
  · subst hk
    rw [List.getElem?_set_self (by rw [hlen]; exact hl), eWs_at h]
  · rw [List.getElem?_set_ne (Ne.symm hk), eWs_get, eWs_get]
    cases hs : SH[k]? with
    | none => rfl
    | some sh2 =>
      simp only [Option.map_some, Nat.zero_add]
      rw [he k sh2 hk]
theorem eFs_congr {ad : Nat → Nat} {w w' : eW} {id : Nat} (h1 : ∀ b, w'.1 id b = w.1 id b) (h2 : ∀ b, w'.2 id b = w.2 id b) : ∀ (fs : List (Nat × Nat)) (i : Nat), eFs ad w' id i fs = eFs ad w id i fs
  | [], _ => rfl
  | f :: r, i => by
    simp only [eFs]
    rw [eFs_congr h1 h2 r (i + 1)]
    simp only [eFv, h1, h2]
theorem eCell_congr {ad : Nat → Nat} {cA : Nat → ClassId} {w w' : eW} {id : Nat} {sh : eSh} (h1 : ∀ b, w'.1 id b = w.1 id b) (h2 : ∀ b, w'.2 id b = w.2 id b) : eCell ad cA w' id sh = eCell ad cA w id sh := by
  have e1 : w'.1 id = w.1 id := funext h1
  have e2 : w'.2 id = w.2 id := funext h2
  unfold eCell
  split <;> simp only [e1, e2, eFs_congr h1 h2]
theorem eU1_at (w : eW) (id k : Nat) (x : Int32) (a b : Nat) : (eU1 w id k x).1 a b = if a = id then (if b = k then x else w.1 a b) else w.1 a b := rfl
theorem eU2_at (w : eW) (id k : Nat) (x : Int64) (a b : Nat) : (eU2 w id k x).2 a b = if a = id then (if b = k then x else w.2 a b) else w.2 a b := rfl
theorem eU1_ne {ad : Nat → Nat} {cA : Nat → ClassId} {w : eW} {o k : Nat} {x : Int32} : ∀ (i : Nat) (sh : eSh), i ≠ o → eCell ad cA (eU1 w o k x) i sh = eCell ad cA w i sh := fun i _ h => eCell_congr (fun b => by rw [eU1_at, if_neg h]) (fun _ => rfl)
theorem eU2_ne {ad : Nat → Nat} {cA : Nat → ClassId} {w : eW} {o k : Nat} {x : Int64} : ∀ (i : Nat) (sh : eSh), i ≠ o → eCell ad cA (eU2 w o k x) i sh = eCell ad cA w i sh := fun i _ h => eCell_congr (fun _ => rfl) (fun b => by rw [eU2_at, if_neg h])
theorem eFs_set1 {ad : Nat → Nat} {w : eW} {id : Nat} {x : Int32} {k : Nat} {fs : List (Nat × Nat)} {f : Nat × Nat} (hf : fs[k]? = some f) (hx : eFv ad (eU1 w id k x) id k f = .int x) : (eFs ad w id 0 fs).set k (.int x) = eFs ad (eU1 w id k x) id 0 fs := by
  apply List.ext_getElem?
  intro j
  have hl : k < fs.length := (List.getElem?_eq_some_iff.mp hf).1
  have hlen : ∀ (r : List (Nat × Nat)) (i : Nat), (eFs ad w id i r).length = r.length := by
    intro r
    induction r with
    | nil => intro i; rfl
    | cons a r ih => intro i; simp [eFs, ih]
  by_cases hj : j = k
  · subst hj
    rw [List.getElem?_set_self (by rw [hlen]; exact hl), eFs_get, hf]
    simp only [Option.map_some, Nat.zero_add, hx]
  · rw [List.getElem?_set_ne (Ne.symm hj), eFs_get, eFs_get]
    cases hs : fs[j]? with
    | none => rfl
    | some g =>
      simp only [Option.map_some, Nat.zero_add]
      unfold eFv
      rw [eU1_at, if_pos rfl, if_neg hj]
      rfl
theorem eFs_set2 {ad : Nat → Nat} {w : eW} {id : Nat} {x : Int64} {k : Nat} {fs : List (Nat × Nat)} {f : Nat × Nat} (hf : fs[k]? = some f) (hx : eFv ad (eU2 w id k x) id k f = .long x) : (eFs ad w id 0 fs).set k (.long x) = eFs ad (eU2 w id k x) id 0 fs := by
  apply List.ext_getElem?
  intro j
  have hl : k < fs.length := (List.getElem?_eq_some_iff.mp hf).1
  have hlen : ∀ (r : List (Nat × Nat)) (i : Nat), (eFs ad w id i r).length = r.length := by
    intro r
    induction r with
    | nil => intro i; rfl
    | cons a r ih => intro i; simp [eFs, ih]
  by_cases hj : j = k
  · subst hj
    rw [List.getElem?_set_self (by rw [hlen]; exact hl), eFs_get, hf]
    simp only [Option.map_some, Nat.zero_add, hx]
  · rw [List.getElem?_set_ne (Ne.symm hj), eFs_get, eFs_get]
    cases hs : fs[j]? with
    | none => rfl
    | some g =>
      simp only [Option.map_some, Nat.zero_add]
      unfold eFv
      rw [eU2_at, if_pos rfl, if_neg hj]
      rfl
theorem eC_cat (ad : Nat → Nat) (v : Value) : (eC ad v).category = v.category := by cases v <;> rfl
theorem eCat_map (ad : Nat → Nat) : ∀ st : List Value, ((st.map (eC ad)).map fun v => v.category).sum = eCat st
  | [] => rfl
  | v :: r => by simp only [List.map_cons, List.sum_cons, eCat, eC_cat, eCat_map ad r]
/-- the locals as pairs -/
def eLv (ad : Nat → Nat) (L : eL) : List (Nat × Value) := (List.range L.length).filterMap (fun i => match L[i]? with
  | some (some v) => some (i, eC ad v)
  | _ => none)
theorem eLv_mem {ad : Nat → Nat} {L : eL} {q : Nat × Value} : q ∈ eLv ad L ↔ ∃ v, L[q.1]? = some (some v) ∧ q.2 = eC ad v := by
  unfold eLv
  rw [List.mem_filterMap]
  constructor
  · rintro ⟨i, -, h⟩
    split at h
    · rename_i v hv
      cases h
      exact ⟨v, hv, rfl⟩
    · cases h
  · rintro ⟨v, hv, h2⟩
    refine ⟨q.1, List.mem_range.mpr (List.getElem?_eq_some_iff.mp hv).1, ?_⟩
    rw [hv]
    simp only [← h2]
theorem eAL.has {ad : Nat → Nat} {ls : Array Slot} {nL : Nat} {L : eL} (h : eAL ad ls nL L) : lv_has ls nL (eLv ad L) := ⟨h.1, h.2.1, fun q hq => by
  obtain ⟨v, h1, h2⟩ := eLv_mem.mp hq
  rw [h2]
  exact h.2.2 _ _ h1⟩
theorem eLd_some {L : eL} {i : Nat} {v : Value} : eLd L i = some v ↔ L[i]? = some (some v) := by
  unfold eLd
  split
  · rename_i u hu
    rw [hu]
    simp
  · rename_i hn
    constructor
    · intro h; cases h
    · intro h; exact absurd h (hn v)
theorem eSt1_get {L : eL} {i : Nat} {v : Value} {j : Nat} {u : Value} (h : (eSt1 L i v)[j]? = some (some u)) : (j = i ∧ u = v) ∨ (j ≠ i ∧ L[j]? = some (some u) ∧ ¬ (j + 1 = i ∧ u.category = 2)) := by
  have hset : ∀ {L : eL} {i : Nat} {j : Nat} {a : Option Value} {u : Value}, (L.set i a)[j]? = some (some u) → (j = i ∧ a = some u) ∨ (j ≠ i ∧ L[j]? = some (some u)) := by
    intro L i j a u h
    by_cases hj : j = i
    · subst hj
      rw [List.getElem?_set] at h
      simp only [if_true] at h
      split at h
      · exact Or.inl ⟨rfl, Option.some.inj h⟩
      · cases h
    · rw [List.getElem?_set_ne (Ne.symm hj)] at h
      exact Or.inr ⟨hj, h⟩
  cases i with
  | zero =>
    simp only [eSt1] at h
    rcases hset h with ⟨h1, h2⟩ | ⟨h1, h2⟩
    · exact Or.inl ⟨h1, (Option.some.inj h2).symm⟩
    · exact Or.inr ⟨h1, h2, fun z => by omega⟩
  | succ i =>
    simp only [eSt1] at h
    split at h
    · rcases hset h with ⟨h1, h2⟩ | ⟨h1, h2⟩
      · cases h2
      · rcases hset h2 with ⟨h3, h4⟩ | ⟨h3, h4⟩
        · exact Or.inl ⟨h3, (Option.some.inj h4).symm⟩
        · exact Or.inr ⟨h3, h4, fun z => h1 (by omega)⟩
    · rcases hset h with ⟨h1, h2⟩ | ⟨h1, h2⟩
      · cases h2
      · rcases hset h2 with ⟨h3, h4⟩ | ⟨h3, h4⟩
        · exact Or.inl ⟨h3, (Option.some.inj h4).symm⟩
        · exact Or.inr ⟨h3, h4, fun z => h1 (by omega)⟩
    · rename_i hn1 hn2
      rcases hset h with ⟨h1, h2⟩ | ⟨h1, h2⟩
      · exact Or.inl ⟨h1, (Option.some.inj h2).symm⟩
      · refine Or.inr ⟨h1, h2, fun z => ?_⟩
        have hji : j = i := by omega
        subst hji
        have h5 := eLd_some.mpr h2
        cases u with
        | long x => exact hn1 x h5
        | double x => exact hn2 x h5
        | _ => exact absurd z.2 (by simp [Value.category])
theorem eAL.st1 {ad : Nat → Nat} {ls' : Array Slot} {nL : Nat} {L : eL} {i : Nat} {v : Value} (h : lv_has ls' nL ((i, eC ad v) :: (eLv ad L).filter (fun q => !(q.1 == i) && !(q.1 + 1 == i && q.2.category == 2)))) : eAL ad ls' nL (eSt1 L i v) := by
  refine ⟨h.1, h.2.1, fun j u hj => ?_⟩
  rcases eSt1_get hj with ⟨rfl, rfl⟩ | ⟨h1, h2, h3⟩
  · exact h.2.2 _ List.mem_cons_self
  · refine h.2.2 (j, eC ad u) (List.mem_cons_of_mem _ (List.mem_filter.mpr ⟨eLv_mem.mpr ⟨u, h2, rfl⟩, ?_⟩))
    have hc := eC_cat ad u
    by_cases hz : j + 1 = i
    · have h4 : ¬ u.category = 2 := fun z => h3 ⟨hz, z⟩
      simp [h1, hc, h4]
    · simp [h1, hz]
theorem eAL.st2 {ad : Nat → Nat} {ls' : Array Slot} {nL : Nat} {L : eL} {i : Nat} {v : Value} (h : lv_has ls' nL ((i, eC ad v) :: (eLv ad L).filter (fun q => !(q.1 == i) && (!(q.1 == i + 1) && !(q.1 + 1 == i && q.2.category == 2))))) : eAL ad ls' nL (eSt2 L i v) := by
  refine ⟨h.1, h.2.1, fun j u hj => ?_⟩
  unfold eSt2 at hj
  have hj2 : j ≠ i + 1 ∧ (eSt1 L i v)[j]? = some (some u) := by
    by_cases hz : j = i + 1
    · subst hz
      rw [List.getElem?_set] at hj
      simp only [if_true] at hj
      split at hj <;> cases hj
    · rw [List.getElem?_set_ne (Ne.symm hz)] at hj
      exact ⟨hz, hj⟩
  obtain ⟨hne, hj⟩ := hj2
  rcases eSt1_get hj with ⟨rfl, rfl⟩ | ⟨h1, h2, h3⟩
  · exact h.2.2 _ List.mem_cons_self
  · refine h.2.2 (j, eC ad u) (List.mem_cons_of_mem _ (List.mem_filter.mpr ⟨eLv_mem.mpr ⟨u, h2, rfl⟩, ?_⟩))
    have hc := eC_cat ad u
    by_cases hz : j + 1 = i
    · have h4 : ¬ u.category = 2 := fun z => h3 ⟨hz, z⟩
      simp [h1, hne, hc, h4]
    · simp [h1, hne, hz]
theorem eTo_some {pc : Nat} {off : Int} {t : Nat} (h : eTo pc off = some t) : (pc : Int) + off = (t : Int) := by
  unfold eTo at h
  split at h
  · cases h
    simp
  · cases hb : Nat.ble (_ + 1) pc with
    | false => rw [hb] at h; cases h
    | true =>
      rw [hb] at h
      have := Nat.le_of_ble_eq_true hb
      cases h
      omega
theorem eArgs_spec : ∀ (n : Nat) (acc st as rest : List Value), eArgs n acc st = some (as, rest) → ∃ b : List Value, b.length = n ∧ as = b ++ acc ∧ st = b.reverse ++ rest
  | 0, acc, st, as, rest, h => by
    cases h
    exact ⟨[], rfl, rfl, rfl⟩
  | n + 1, acc, [], as, rest, h => by cases h
  | n + 1, acc, v :: st, as, rest, h => by
    obtain ⟨b, h1, h2, h3⟩ := eArgs_spec n (v :: acc) st as rest h
    exact ⟨b ++ [v], by simp [h1], by simp [h2], by simp [h3]⟩
/-- of a table of links: what each entry says -/
def eLnk (cl : List vw_C) (Ts : List Cond) (SS : List eS) (n : Nat) (own : String) (ix : Nat) (r : eR) : Prop := match r with
  | (0, ci, k, _) => ∃ (C : String) (T : u_T) (N : Nat) (ty0 : Nat → FieldType), cl[ci]? = some (C, T, N) ∧ k < N ∧ (∀ w ∈ u_ws C T N, w ∈ Ts) ∧ (∀ k, k < N → parseFieldDescriptor (T k).2.2.1 = some (ty0 k)) ∧ (∀ a, a < N → ∀ b, b < N → a ≠ b → (T a).2.1 ≠ (T b).2.1) ∧ Cond.fieldLink own ix (T k).1 (T k).2.1 (T k).2.2.1 ∈ Ts
  | (2, _, _, z) => Cond.constant own ix (Int32.ofInt z) ∈ Ts
  | (3, _, _, z) => Cond.constantLong own ix (Int64.ofInt z) ∈ Ts
  | (4, z, _, _) => Cond.constantDouble own ix (UInt64.ofNat z) ∈ Ts
  | (5, z, _, _) => Cond.constantFloat own ix (UInt32.ofNat z) ∈ Ts
  | (7, id, _, _) => ∃ (k : Nat) (q : eS), id = n + k ∧ SS[k]? = some q ∧ Cond.fieldLink own ix q.1 q.2.1 q.2.2.1 ∈ Ts
  | (6, 0, _, _) => Cond.methodLink own ix Lib.Math.max.name ∈ Ts ∧ Cond.static Lib.Math.max.name ∈ Ts ∧ Cond.initialized "java/lang/Math" ∈ Ts ∧ Cond.code Lib.Math.max.name Lib.Math.max.code 2 (some .int) ∈ Ts
  | (6, 1, _, _) => Cond.methodLink own ix Lib.Math.min.name ∈ Ts ∧ Cond.static Lib.Math.min.name ∈ Ts ∧ Cond.initialized "java/lang/Math" ∈ Ts ∧ Cond.code Lib.Math.min.name Lib.Math.min.code 2 (some .int) ∈ Ts
  | (6, 2, _, _) => Cond.methodLink own ix Lib.MathLoose.max_long.x ∈ Ts ∧ Cond.static Lib.MathLoose.max_long.x ∈ Ts ∧ Cond.initialized "java/lang/Math" ∈ Ts ∧ Cond.code Lib.MathLoose.max_long.x Lib.MathLoose.max_long.code 4 (some .long) ∈ Ts
  | (6, 3, _, _) => Cond.methodLink own ix arraycopyName ∈ Ts ∧ Cond.native arraycopyName ∈ Ts ∧ Cond.static arraycopyName ∈ Ts ∧ Cond.initialized "java/lang/System" ∈ Ts
  | _ => True
end
section
theorem zz_bad : (1:Nat) = 2 := rfl
end
