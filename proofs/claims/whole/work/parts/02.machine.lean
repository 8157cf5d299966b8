/-! ===== an abstract machine: the worlds of a fixed shape, one step, a run up to cuts ===== -/
abbrev eW : Type := (Nat → Nat → Int32) × (Nat → Nat → Int64)
abbrev eSh : Type := (Nat × Nat) ⊕ (Nat × List (Nat × Nat))
abbrev eR : Type := Nat × Nat × Nat × Int
abbrev eL : Type := List (Option Value)
abbrev eK (ρ : Type) : Type := Nat → eL → List Value → eW → Option ρ
abbrev eF (ρ : Type) : Type := List Value → eW → (Option Value → eW → Option ρ) → Option ρ
abbrev eCo : Type := List (List (Option Instr))
abbrev eS : Type := String × String × String × List Int32
def eC (ad : Nat → Nat) (v : Value) : Value := match v with
  | .ref a => .ref (ad a)
  | v => v
/-- a field: 0 an int, 1 a long, 2 a reference to a cell, 3 a boolean -/
def eFv (ad : Nat → Nat) (w : eW) (id k : Nat) (f : Nat × Nat) : Value := match f.1 with
  | 0 => .int (w.1 id k)
  | 1 => .long (w.2 id k)
  | 2 => .ref (ad f.2)
  | _ => .int (w.1 id k)
def eFs (ad : Nat → Nat) (w : eW) (id : Nat) : Nat → List (Nat × Nat) → List Value
  | _, [] => []
  | k, f :: fs => eFv ad w id k f :: eFs ad w id (k + 1) fs
/-- an array: 0 of ints, 1 of longs, 2 of bytes, 3 of booleans -/
def eCell (ad : Nat → Nat) (cA : Nat → ClassId) (w : eW) (id : Nat) (sh : eSh) : va_E := match sh with
  | .inl (0, n) => .inl (cA 0, n, .inl (w.1 id))
  | .inl (1, n) => .inl (cA 1, n, .inr (.inl (w.2 id)))
  | .inl (2, n) => .inl (cA 2, n, .inl (w.1 id))
  | .inl (_, n) => .inl (cA 3, n, .inl (w.1 id))
  | .inr (ci, fs) => .inr (ci, eFs ad w id 0 fs)
def eWs (ad : Nat → Nat) (cA : Nat → ClassId) (w : eW) : Nat → List eSh → va_W
  | _, [] => []
  | id, sh :: r => (ad id, eCell ad cA w id sh) :: eWs ad cA w (id + 1) r
def eU1 (w : eW) (id k : Nat) (x : Int32) : eW := (fun a b => if a = id then (if b = k then x else w.1 a b) else w.1 a b, w.2)
def eU2 (w : eW) (id k : Nat) (x : Int64) : eW := (w.1, fun a b => if a = id then (if b = k then x else w.2 a b) else w.2 a b)
def eCp1 (w : eW) (d o sp dp n : Nat) : eW := (fun a b => if a = d then va_cpy (w.1 o) (w.1 d) sp dp n b else w.1 a b, w.2)
def eCp2 (w : eW) (d o sp dp n : Nat) : eW := (w.1, fun a b => if a = d then va_cpy (w.2 o) (w.2 d) sp dp n b else w.2 a b)
def eAt (C : eCo) (pc : Nat) : Option Instr := match C[pc / 16]? with
  | some l => match l[pc % 16]? with
    | some x => x
    | none => none
  | none => none
def eLook : List (Nat × eR) → Nat → Option eR
  | [], _ => none
  | (i, r) :: q, n => bif Nat.beq i n then some r else eLook q n
def eTo (pc : Nat) (off : Int) : Option Nat := match off with
  | .ofNat n => some (pc + n)
  | .negSucc n => bif Nat.ble (n + 1) pc then some (pc - (n + 1)) else none
def eLd (L : eL) (i : Nat) : Option Value := match L[i]? with
  | some (some v) => some v
  | _ => none
def eSt1 (L : eL) (i : Nat) (v : Value) : eL := match i with
  | 0 => L.set 0 (some v)
  | j + 1 => match eLd L j with
    | some (.long _) => (L.set (j + 1) (some v)).set j none
    | some (.double _) => (L.set (j + 1) (some v)).set j none
    | _ => L.set (j + 1) (some v)
def eSt2 (L : eL) (i : Nat) (v : Value) : eL := (eSt1 L i v).set (i + 1) none
def eCat : List Value → Nat
  | [] => 0
  | v :: r => v.category + eCat r
/-- the arguments of a call, the last pushed first, and what is below -/
def eArgs : Nat → List Value → List Value → Option (List Value × List Value)
  | 0, acc, st => some (acc, st)
  | _ + 1, _, [] => none
  | n + 1, acc, v :: st => eArgs n (v :: acc) st
section ESTEP
variable {ρ : Type}
/-- go on with a list that is laid out -/
def eForce : eL → (eL → Option ρ) → Option ρ
  | [], k => k []
  | none :: r, k => eForce r (fun r' => k (none :: r'))
  | some v :: r, k => eForce r (fun r' => k (some v :: r'))
theorem eForce_eq : ∀ (L : eL) (k : eL → Option ρ), eForce L k = k L
  | [], _ => rfl
  | none :: r, k => eForce_eq r (fun r' => k (none :: r'))
  | some v :: r, k => eForce_eq r (fun r' => k (some v :: r'))
def eSw (k : Nat → Option ρ) (pc : Nat) (x : Int32) (dflt : Int) : Int → List Int → Option ρ
  | _, [] => match eTo pc dflt with
    | some t => k t
    | none => none
  | lo, o :: os => if x = Int32.ofInt lo then (match eTo pc o with
    | some t => k t
    | none => none) else eSw k pc x dflt (lo + 1) os
def eBr (k : Nat → Option ρ) (pc : Nat) (off : Int) (c : Prop) (d : Decidable c) : Option ρ := match eTo pc off with
  | some t => @ite (Option ρ) c d (k t) (k (pc + 3))
  | none => none
/-- what an instruction does with the operand stack alone -/
def eAlu (i : Instr) (st : List Value) (k : List Value → Option ρ) : Option ρ := match i with
  | .iconst n => k (.int (Int32.ofInt n) :: st)
  | .bipush n => k (.int (Int8.ofInt n).toInt32 :: st)
  | .sipush n => k (.int (Int16.ofInt n).toInt32 :: st)
  | .lconst n => k (.long (Int64.ofNat n) :: st)
  | .dconst n => match n with
    | 0 => k (.double FP.dconst0 :: st)
    | 1 => k (.double FP.dconst1 :: st)
  | .fconst n => match n with
    | 0 => k (.float FP.fconst0 :: st)
    | 1 => k (.float FP.fconst1 :: st)
    | 2 => k (.float FP.fconst2 :: st)
  | .iadd => match st with
    | .int y :: .int x :: st => k (.int (x + y) :: st)
    | _ => none
  | .isub => match st with
    | .int y :: .int x :: st => k (.int (x - y) :: st)
    | _ => none
  | .imul => match st with
    | .int y :: .int x :: st => k (.int (x * y) :: st)
    | _ => none
  | .iand => match st with
    | .int y :: .int x :: st => k (.int (x &&& y) :: st)
    | _ => none
  | .ior => match st with
    | .int y :: .int x :: st => k (.int (x ||| y) :: st)
    | _ => none
  | .ixor => match st with
    | .int y :: .int x :: st => k (.int (x ^^^ y) :: st)
    | _ => none
  | .idiv => match st with
    | .int y :: .int x :: st => if y = 0 then none else k (.int (x / y) :: st)
    | _ => none
  | .irem => match st with
    | .int y :: .int x :: st => if y = 0 then none else k (.int (x - x / y * y) :: st)
    | _ => none
  | .ineg => match st with
    | .int x :: st => k (.int (-x) :: st)
    | _ => none
  | .ishl => match st with
    | .int y :: .int x :: st => k (.int (x <<< (y &&& 31)) :: st)
    | _ => none
  | .ishr => match st with
    | .int y :: .int x :: st => k (.int (x >>> (y &&& 31)) :: st)
    | _ => none
  | .iushr => match st with
    | .int y :: .int x :: st => k (.int (x.toUInt32 >>> (y.toUInt32 &&& Int32.toUInt32 31)).toInt32 :: st)
    | _ => none
  | .i2l => match st with
    | .int x :: st => k (.long x.toInt64 :: st)
    | _ => none
  | .i2b => match st with
    | .int x :: st => k (.int x.toInt8.toInt32 :: st)
    | _ => none
  | .i2d => match st with
    | .int x :: st => k (.double (FP.i2d x) :: st)
    | _ => none
  | .i2f => match st with
    | .int x :: st => k (.float (FP.i2f x) :: st)
    | _ => none
  | .l2i => match st with
    | .long x :: st => k (.int x.toInt32 :: st)
    | _ => none
  | .l2d => match st with
    | .long x :: st => k (.double (FP.l2d x) :: st)
    | _ => none
  | .l2f => match st with
    | .long x :: st => k (.float (FP.l2f x) :: st)
    | _ => none
  | .d2l => match st with
    | .double x :: st => k (.long (FP.d2l x) :: st)
    | _ => none
  | .f2i => match st with
    | .float x :: st => k (.int (FP.f2i x) :: st)
    | _ => none
  | .ladd => match st with
    | .long y :: .long x :: st => k (.long (x + y) :: st)
    | _ => none
  | .lsub => match st with
    | .long y :: .long x :: st => k (.long (x - y) :: st)
    | _ => none
  | .lmul => match st with
    | .long y :: .long x :: st => k (.long (x * y) :: st)
    | _ => none
  | .lor => match st with
    | .long y :: .long x :: st => k (.long (x ||| y) :: st)
    | _ => none
  | .ldiv => match st with
    | .long y :: .long x :: st => if y = 0 then none else k (.long (x / y) :: st)
    | _ => none
  | .lrem => match st with
    | .long y :: .long x :: st => if y = 0 then none else k (.long (x - x / y * y) :: st)
    | _ => none
  | .lneg => match st with
    | .long x :: st => k (.long (-x) :: st)
    | _ => none
  | .lshl => match st with
    | .int y :: .long x :: st => k (.long (x <<< (y.toInt64 &&& 63)) :: st)
    | _ => none
  | .lcmp => match st with
    | .long y :: .long x :: st => k (.int (lg_cmp x y) :: st)
    | _ => none
  | .dcmp op => match st with
    | .double y :: .double x :: st => k (.int (Op.cmpValue (FP.dcmp x y) op) :: st)
    | _ => none
  | .fcmp op => match st with
    | .float y :: .float x :: st => k (.int (Op.cmpValue (FP.fcmp x y) op) :: st)
    | _ => none
  | .dadd => match st with
    | .double y :: .double x :: st => if FP.dadd x y &&& 0x7fffffffffffffff ≤ 0x7ff0000000000000 then k (.double (FP.dadd x y) :: st) else none
    | _ => none
  | .dsub => match st with
    | .double y :: .double x :: st => if FP.dsub x y &&& 0x7fffffffffffffff ≤ 0x7ff0000000000000 then k (.double (FP.dsub x y) :: st) else none
    | _ => none
  | .dmul => match st with
    | .double y :: .double x :: st => if FP.dmul x y &&& 0x7fffffffffffffff ≤ 0x7ff0000000000000 then k (.double (FP.dmul x y) :: st) else none
    | _ => none
  | .ddiv => match st with
    | .double y :: .double x :: st => if FP.ddiv x y &&& 0x7fffffffffffffff ≤ 0x7ff0000000000000 then k (.double (FP.ddiv x y) :: st) else none
    | _ => none
  | .fsub => match st with
    | .float y :: .float x :: st => if FP.fsub x y &&& 0x7fffffff ≤ 0x7f800000 then k (.float (FP.fsub x y) :: st) else none
    | _ => none
  | .fmul => match st with
    | .float y :: .float x :: st => if FP.fmul x y &&& 0x7fffffff ≤ 0x7f800000 then k (.float (FP.fmul x y) :: st) else none
    | _ => none
  | .fdiv => match st with
    | .float y :: .float x :: st => if FP.fdiv x y &&& 0x7fffffff ≤ 0x7f800000 then k (.float (FP.fdiv x y) :: st) else none
    | _ => none
  | .dup => match st with
    | .int x :: st => k (.int x :: .int x :: st)
    | .ref x :: st => k (.ref x :: .ref x :: st)
    | _ => none
  | .dup2 => match st with
    | .int x :: .ref y :: st => k (.int x :: .ref y :: .int x :: .ref y :: st)
    | _ => none
  | .pop => match st with
    | .int _ :: st => k st
    | _ => none
  | _ => none
def eILen (i : Instr) : Nat := match i with
  | .iload _ | .lload _ | .dload _ | .fload _ | .aload _ | .istore _ | .lstore _ | .dstore _ | .fstore _ | .astore _ | .bipush _ | .ldc _ => 2
  | .iinc _ _ | .goto _ | .ifCond _ _ | .if_icmp _ _ | .sipush _ | .ldc_w _ | .ldc2_w _ | .getfield _ | .putfield _ | .getstatic _ | .invokestatic _ | .invokevirtual _ => 3
  | _ => 1
def eIn (i : Int32) (n : Nat) : Prop := ¬ (i < 0 ∨ n ≤ i.toNatClampNeg)
def eInD (i : Int32) (n : Nat) : Decidable (eIn i n) := inferInstanceAs (Decidable (¬ (i < 0 ∨ n ≤ i.toNatClampNeg)))
def eChk (i : Int32) (n : Nat) (x : Option ρ) : Option ρ := @ite _ (eIn i n) (eInD i n) x none
def eStep (SH : List eSh) (SS : List eS) (nL : Nat) (rs : List (Nat × eR)) (calls : Nat → eF ρ) (rt : Option Value → eW → Option ρ) (k : eK ρ) (i : Instr) (pc : Nat) (L : eL) (st : List Value) (w : eW) : Option ρ :=
  match i with
  | .iload n => match eLd L n with
    | some (.int x) => k (pc + 2) L (.int x :: st) w
    | _ => none
  | .iload_n n => match eLd L n with
    | some (.int x) => k (pc + 1) L (.int x :: st) w
    | _ => none
  | .lload n => match eLd L n with
    | some (.long x) => k (pc + 2) L (.long x :: st) w
    | _ => none
  | .lload_n n => match eLd L n with
    | some (.long x) => k (pc + 1) L (.long x :: st) w
    | _ => none
  | .dload n => match eLd L n with
    | some (.double x) => k (pc + 2) L (.double x :: st) w
    | _ => none
  | .dload_n n => match eLd L n with
    | some (.double x) => k (pc + 1) L (.double x :: st) w
    | _ => none
  | .fload n => match eLd L n with
    | some (.float x) => k (pc + 2) L (.float x :: st) w
    | _ => none
  | .fload_n n => match eLd L n with
    | some (.float x) => k (pc + 1) L (.float x :: st) w
    | _ => none
  | .aload n => match eLd L n with
    | some (.ref x) => k (pc + 2) L (.ref x :: st) w
    | _ => none
  | .aload_n n => match eLd L n with
    | some (.ref x) => k (pc + 1) L (.ref x :: st) w
    | _ => none
  | .istore n => match st with
    | .int x :: st => bif Nat.blt n nL then eForce (eSt1 L n (.int x)) (fun L => k (pc + 2) L st w) else none
    | _ => none
  | .istore_n n => match st with
    | .int x :: st => bif Nat.blt n nL then eForce (eSt1 L n (.int x)) (fun L => k (pc + 1) L st w) else none
    | _ => none
  | .lstore n => match st with
    | .long x :: st => bif Nat.blt (n + 1) nL then eForce (eSt2 L n (.long x)) (fun L => k (pc + 2) L st w) else none
    | _ => none
  | .lstore_n n => match st with
    | .long x :: st => bif Nat.blt (n + 1) nL then eForce (eSt2 L n (.long x)) (fun L => k (pc + 1) L st w) else none
    | _ => none
  | .dstore n => match st with
    | .double x :: st => bif Nat.blt (n + 1) nL then eForce (eSt2 L n (.double x)) (fun L => k (pc + 2) L st w) else none
    | _ => none
  | .dstore_n n => match st with
    | .double x :: st => bif Nat.blt (n + 1) nL then eForce (eSt2 L n (.double x)) (fun L => k (pc + 1) L st w) else none
    | _ => none
  | .fstore n => match st with
    | .float x :: st => bif Nat.blt n nL then eForce (eSt1 L n (.float x)) (fun L => k (pc + 2) L st w) else none
    | _ => none
  | .fstore_n n => match st with
    | .float x :: st => bif Nat.blt n nL then eForce (eSt1 L n (.float x)) (fun L => k (pc + 1) L st w) else none
    | _ => none
  | .astore n => match st with
    | .ref x :: st => bif Nat.blt n nL then eForce (eSt1 L n (.ref x)) (fun L => k (pc + 2) L st w) else none
    | _ => none
  | .astore_n n => match st with
    | .ref x :: st => bif Nat.blt n nL then eForce (eSt1 L n (.ref x)) (fun L => k (pc + 1) L st w) else none
    | _ => none
  | .iinc n z => match eLd L n with
    | some (.int x) => bif Nat.blt n nL then eForce (eSt1 L n (.int (x + Int32.ofInt z))) (fun L => k (pc + 3) L st w) else none
    | _ => none
  | .goto off => match eTo pc off with
    | some t => k t L st w
    | none => none
  | .ifCond c off => match st with
    | .int x :: st => (match c with
      | .eq => eBr (fun t => k t L st w) pc off (x = 0) inferInstance
      | .ne => eBr (fun t => k t L st w) pc off (¬ x = 0) inferInstance
      | .lt => eBr (fun t => k t L st w) pc off (x < 0) inferInstance
      | .ge => eBr (fun t => k t L st w) pc off (0 ≤ x) inferInstance
      | .gt => eBr (fun t => k t L st w) pc off (0 < x) inferInstance
      | .le => eBr (fun t => k t L st w) pc off (x ≤ 0) inferInstance)
    | _ => none
  | .if_icmp c off => match st with
    | .int y :: .int x :: st => (match c with
      | .eq => eBr (fun t => k t L st w) pc off (x = y) inferInstance
      | .ne => eBr (fun t => k t L st w) pc off (¬ x = y) inferInstance
      | .lt => eBr (fun t => k t L st w) pc off (x < y) inferInstance
      | .ge => eBr (fun t => k t L st w) pc off (y ≤ x) inferInstance
      | .gt => eBr (fun t => k t L st w) pc off (y < x) inferInstance
      | .le => eBr (fun t => k t L st w) pc off (x ≤ y) inferInstance)
    | _ => none
  | .tableswitch dflt lo _ offs => match st with
    | .int x :: st => eSw (fun t => k t L st w) pc x dflt lo offs.toList
    | _ => none
  | .ldc ix => match eLook rs ix with
    | some (2, _, _, z) => k (pc + 2) L (.int (Int32.ofInt z) :: st) w
    | some (5, z, _, _) => k (pc + 2) L (.float (UInt32.ofNat z) :: st) w
    | _ => none
  | .ldc_w ix => match eLook rs ix with
    | some (2, _, _, z) => k (pc + 3) L (.int (Int32.ofInt z) :: st) w
    | some (5, z, _, _) => k (pc + 3) L (.float (UInt32.ofNat z) :: st) w
    | _ => none
  | .ldc2_w ix => match eLook rs ix with
    | some (3, _, _, z) => k (pc + 3) L (.long (Int64.ofInt z) :: st) w
    | some (4, z, _, _) => k (pc + 3) L (.double (UInt64.ofNat z) :: st) w
    | _ => none
  | .getfield ix => match eLook rs ix, st with
    | some (0, ci, kf, _), .ref o :: st => (match SH[o]? with
      | some (.inr (ci', fs)) => bif Nat.beq ci' ci then (match fs[kf]? with
        | some f => k (pc + 3) L (eFv (fun a => a) w o kf f :: st) w
        | none => none) else none
      | _ => none)
    | _, _ => none
  | .putfield ix => match eLook rs ix, st with
    | some (0, ci, kf, z), v :: .ref o :: st => (match SH[o]? with
      | some (.inr (ci', fs)) => bif Nat.beq ci' ci then (match fs[kf]?, v, z with
        | some (0, _), .int x, .ofNat 0 => k (pc + 3) L st (eU1 w o kf x)
        | some (1, _), .long x, .ofNat 1 => k (pc + 3) L st (eU2 w o kf x)
        | some (3, _), .int x, .ofNat 3 => if x = 0 ∨ x = 1 then k (pc + 3) L st (eU1 w o kf x) else none
        | _, _, _ => none) else none
      | _ => none)
    | _, _ => none
  | .getstatic ix => match eLook rs ix with
    | some (7, id, _, _) => k (pc + 3) L (.ref id :: st) w
    | _ => none
  | .arraylength => match st with
    | .ref o :: st => (match SH[o]? with
      | some (.inl (_, n)) => k (pc + 1) L (.int (Int32.ofNat n) :: st) w
      | some _ => none
      | none => (match SS[o - SH.length]? with
        | some q => k (pc + 1) L (.int (Int32.ofNat q.2.2.2.length) :: st) w
        | none => none))
    | _ => none
  | .iaload => match st with
    | .int j :: .ref o :: st => (match SH[o]? with
      | some (.inl (0, n)) => eChk j n (k (pc + 1) L (.int (w.1 o j.toNatClampNeg) :: st) w)
      | some _ => none
      | none => (match SS[o - SH.length]? with
        | some q => eChk j q.2.2.2.length (k (pc + 1) L (.int (q.2.2.2.getD j.toNatClampNeg 0) :: st) w)
        | none => none))
    | _ => none
  | .laload => match st with
    | .int j :: .ref o :: st => (match SH[o]? with
      | some (.inl (1, n)) => eChk j n (k (pc + 1) L (.long (w.2 o j.toNatClampNeg) :: st) w)
      | _ => none)
    | _ => none
  | .baload => match st with
    | .int j :: .ref o :: st => (match SH[o]? with
      | some (.inl (2, n)) => eChk j n (k (pc + 1) L (.int (w.1 o j.toNatClampNeg) :: st) w)
      | some (.inl (3, n)) => eChk j n (k (pc + 1) L (.int (w.1 o j.toNatClampNeg) :: st) w)
      | _ => none)
    | _ => none
  | .iastore => match st with
    | .int x :: .int j :: .ref o :: st => (match SH[o]? with
      | some (.inl (0, n)) => eChk j n (k (pc + 1) L st (eU1 w o j.toNatClampNeg x))
      | _ => none)
    | _ => none
  | .lastore => match st with
    | .long x :: .int j :: .ref o :: st => (match SH[o]? with
      | some (.inl (1, n)) => eChk j n (k (pc + 1) L st (eU2 w o j.toNatClampNeg x))
      | _ => none)
    | _ => none
  | .bastore => match st with
    | .int x :: .int j :: .ref o :: st => (match SH[o]? with
      | some (.inl (2, n)) => eChk j n (k (pc + 1) L st (eU1 w o j.toNatClampNeg (vp_nar .byte x)))
      | some (.inl (3, n)) => eChk j n (k (pc + 1) L st (eU1 w o j.toNatClampNeg (vp_nar .boolean x)))
      | _ => none)
    | _ => none
  | .invokestatic ix => match eLook rs ix with
    | some (1, a, n, .negSucc _) => (match eArgs n [] st with
      | some (as, st) => bif Nat.ble (eCat st) 8 then calls a as w (fun v w => k (pc + 3) L (v.toList ++ st) w) else none
      | none => none)
    | some (6, a, _, _) => bif Nat.ble (eCat st) 8 then (match a, st with
      | 0, .int y :: .int x :: st => k (pc + 3) L (.int (if x < y then y else x) :: st) w
      | 1, .int y :: .int x :: st => k (pc + 3) L (.int (if y < x then y else x) :: st) w
      | 2, .long y :: .long x :: st => k (pc + 3) L (.long (if y < x then x else y) :: st) w
      | 3, .int n :: .int dp :: .ref d :: .int sp :: .ref o :: st => (match SH[o]?, SH[d]? with
        | some (.inl (0, n0)), some (.inl (0, n1)) => if ¬ sp < 0 ∧ ¬ dp < 0 ∧ ¬ n < 0 ∧ sp.toNatClampNeg + n.toNatClampNeg ≤ n0 ∧ dp.toNatClampNeg + n.toNatClampNeg ≤ n1 then k (pc + 3) L st (eCp1 w d o sp.toNatClampNeg dp.toNatClampNeg n.toNatClampNeg) else none
        | some (.inl (1, n0)), some (.inl (1, n1)) => if ¬ sp < 0 ∧ ¬ dp < 0 ∧ ¬ n < 0 ∧ sp.toNatClampNeg + n.toNatClampNeg ≤ n0 ∧ dp.toNatClampNeg + n.toNatClampNeg ≤ n1 then k (pc + 3) L st (eCp2 w d o sp.toNatClampNeg dp.toNatClampNeg n.toNatClampNeg) else none
        | _, _ => none)
      | _, _ => none) else none
    | _ => none
  | .invokevirtual ix => match eLook rs ix with
    | some (1, a, n, .ofNat cj) => (match eArgs n [] st with
      | some (as, .ref o :: st) => (match SH[o]? with
        | some (.inr (ci, _)) => bif Nat.ble (eCat st) 8 && Nat.beq ci cj then calls a (.ref o :: as) w (fun v w => k (pc + 3) L (v.toList ++ st) w) else none
        | _ => none)
      | _ => none)
    | _ => none
  | .ireturn => match st with
    | [.int x] => rt (some (.int x)) w
    | _ => none
  | .lreturn => match st with
    | [.long x] => rt (some (.long x)) w
    | _ => none
  | .dreturn => match st with
    | [.double x] => rt (some (.double x)) w
    | _ => none
  | .freturn => match st with
    | [.float x] => rt (some (.float x)) w
    | _ => none
  | .areturn => match st with
    | [.ref x] => rt (some (.ref x)) w
    | _ => none
  | .return_ => match st with
    | [] => rt none w
    | _ => none
  | i => eAlu i st (fun st => k (pc + eILen i) L st w)
def eMem (n : Nat) : List Nat → Bool
  | [] => false
  | m :: r => bif Nat.beq n m then true else eMem n r
/-- a run up to the cuts: there K goes on -/
def eRun (SH : List eSh) (SS : List eS) (nL : Nat) (rs : List (Nat × eR)) (calls : Nat → eF ρ) (rt : Option Value → eW → Option ρ) (C : eCo) (cuts : List Nat) (K : eK ρ) : Nat → Bool → eK ρ := fun n => Nat.rec (motive := fun _ => Bool → eK ρ) (fun _ _ _ _ _ => none)
  (fun _ ih first pc L st w => bif (eMem pc cuts && !first) then K pc L st w else (match eAt C pc with
    | some i => eStep SH SS nL rs calls rt (ih false) i pc L st w
    | none => none)) n
end ESTEP
/-- what a method answers -/
def rI (v : Option Value) (w : eW) : Option (Int32 × eW) := match v with
  | some (.int x) => some (x, w)
  | _ => none
def rZ (v : Option Value) (w : eW) : Option (Int32 × eW) := match v with
  | some (.int x) => if x = 0 ∨ x = 1 then some (x, w) else none
  | _ => none
def rJ (v : Option Value) (w : eW) : Option (Int64 × eW) := match v with
  | some (.long x) => some (x, w)
  | _ => none
def rD (v : Option Value) (w : eW) : Option (UInt64 × eW) := match v with
  | some (.double x) => some (x, w)
  | _ => none
def rF (v : Option Value) (w : eW) : Option (UInt32 × eW) := match v with
  | some (.float x) => some (x, w)
  | _ => none
def rA (v : Option Value) (w : eW) : Option (Nat × eW) := match v with
  | some (.ref x) => some (x, w)
  | _ => none
def rV (v : Option Value) (w : eW) : Option eW := match v with
  | none => some w
  | _ => none
/-- a local of a kind -/
def lI (L : eL) (i : Nat) : Option Int32 := match eLd L i with
  | some (.int x) => some x
  | _ => none
def lJ (L : eL) (i : Nat) : Option Int64 := match eLd L i with
  | some (.long x) => some x
  | _ => none
def lD (L : eL) (i : Nat) : Option UInt64 := match eLd L i with
  | some (.double x) => some x
  | _ => none
def lF (L : eL) (i : Nat) : Option UInt32 := match eLd L i with
  | some (.float x) => some x
  | _ => none
def lA (L : eL) (i : Nat) : Option Nat := match eLd L i with
  | some (.ref x) => some x
  | _ => none
