section
/-! ===== an abstract machine: the worlds of a fixed shape, one step, a run up to cuts ===== -/
abbrev eW : Type := (Nat → Nat → Int32) × (Nat → Nat → Int64)
abbrev eSh : Type := (Nat × Nat) ⊕ (Nat × List (Nat × Nat))
abbrev eR : Type := Nat × Nat × Nat × Int
abbrev eL : Type := List (Option Value)
abbrev eK (ρ : Type) : Type := Nat → eL → List Value → eW → Option ρ
abbrev eF (ρ : Type) : Type := List Value → eW → (Option Value → eW → Option ρ) → Option ρ
abbrev eCo : Type := List (List (Option Instr))
abbrev eS : Type := String × String × String × List Int32
def eC (ad : Nat → Nat) (v : Value) : Value := match v with
  | .ref a => .ref (ad a)
  | v => v
/-- a field: 0 an int, 1 a long, 2 a reference to a cell, 3 a boolean -/
def eFv (ad : Nat → Nat) (w : eW) (id k : Nat) (f : Nat × Nat) : Value := match f.1 with
  | 0 => .int (w.1 id k)
  | 1 => .long (w.2 id k)
  | 2 => .ref (ad f.2)
  | _ => .int (w.1 id k)
def eFs (ad : Nat → Nat) (w : eW) (id : Nat) : Nat → List (Nat × Nat) → List Value
  | _, [] => []
  | k, f :: fs => eFv ad w id k f :: eFs ad w id (k + 1) fs
/-- an array: 0 of ints, 1 of longs, 2 of bytes, 3 of booleans -/
def eCell (ad : Nat → Nat) (cA : Nat → ClassId) (w : eW) (id : Nat) (sh : eSh) : va_E := match sh with
  | .inl (0, n) => .inl (cA 0, n, .inl (w.1 id))
  | .inl (1, n) => .inl (cA 1, n, .inr (.inl (w.2 id)))
  | .inl (2, n) => .inl (cA 2, n, .inl (w.1 id))
  | .inl (_, n) => .inl (cA 3, n, .inl (w.1 id))
  | .inr (ci, fs) => .inr (ci, eFs ad w id 0 fs)
def eWs (ad : Nat → Nat) (cA : Nat → ClassId) (w : eW) : Nat → List eSh → va_W
  | _, [] => []
  | id, sh :: r => (ad id, eCell ad cA w id sh) :: eWs ad cA w (id + 1) r
def eU1 (w : eW) (id k : Nat) (x : Int32) : eW := (fun a b => if a = id then (if b = k then x else w.1 a b) else w.1 a b, w.2)
def eU2 (w : eW) (id k : Nat) (x : Int64) : eW := (w.1, fun a b => if a = id then (if b = k then x else w.2 a b) else w.2 a b)
def eCp1 (w : eW) (d o sp dp n : Nat) : eW := (fun a b => if a = d then va_cpy (w.1 o) (w.1 d) sp dp n b else w.1 a b, w.2)
def eCp2 (w : eW) (d o sp dp n : Nat) : eW := (w.1, fun a b => if a = d then va_cpy (w.2 o) (w.2 d) sp dp n b else w.2 a b)
def eAt (C : eCo) (pc : Nat) : Option Instr := match C[pc / 16]? with
  | some l => match l[pc % 16]? with
    | some x => x
    | none => none
  | none => none
def eLook : List (Nat × eR) → Nat → Option eR
  | [], _ => none
  | (i, r) :: q, n => bif Nat.beq i n then some r else eLook q n
def eTo (pc : Nat) (off : Int) : Option Nat := match off with
  | .ofNat n => some (pc + n)
  | .negSucc n => bif Nat.ble (n + 1) pc then some (pc - (n + 1)) else none
def eLd (L : eL) (i : Nat) : Option Value := match L[i]? with
  | some (some v) => some v
  | _ => none
def eSt1 (L : eL) (i : Nat) (v : Value) : eL := match i with
  | 0 => L.set 0 (some v)
  | j + 1 => match eLd L j with
    | some (.long _) => (L.set (j + 1) (some v)).set j none
    | some (.double _) => (L.set (j + 1) (some v)).set j none
    | _ => L.set (j + 1) (some v)
def eSt2 (L : eL) (i : Nat) (v : Value) : eL := (eSt1 L i v).set (i + 1) none
def eCat : List Value → Nat
  | [] => 0
  | v :: r => v.category + eCat r
/-- the arguments of a call, the last pushed first, and what is below -/
def eArgs : Nat → List Value → List Value → Option (List Value × List Value)
  | 0, acc, st => some (acc, st)
  | _ + 1, _, [] => none
  | n + 1, acc, v :: st => eArgs n (v :: acc) st
section ESTEP
variable {ρ : Type}
def eSw (k : Nat → Option ρ) (pc : Nat) (x : Int32) (dflt : Int) : Int → List Int → Option ρ
  | _, [] => match eTo pc dflt with
    | some t => k t
    | none => none
  | lo, o :: os => if x = Int32.ofInt lo then (match eTo pc o with
    | some t => k t
    | none => none) else eSw k pc x dflt (lo + 1) os
def eBr (k : Nat → Option ρ) (pc : Nat) (off : Int) (c : Prop) (d : Decidable c) : Option ρ := match eTo pc off with
  | some t => @ite (Option ρ) c d (k t) (k (pc + 3))
  | none => none
/-- what an instruction does with the operand stack alone -/
def eAlu (i : Instr) (st : List Value) (k : List Value → Option ρ) : Option ρ := match i with
  | .iconst n => k (.int (Int32.ofInt n) :: st)
  | .bipush n => k (.int (Int8.ofInt n).toInt32 :: st)
  | .sipush n => k (.int (Int16.ofInt n).toInt32 :: st)
  | .lconst n => k (.long (Int64.ofNat n) :: st)
  | .dconst n => match n with
    | 0 => k (.double FP.dconst0 :: st)
    | 1 => k (.double FP.dconst1 :: st)
  | .fconst n => match n with
    | 0 => k (.float FP.fconst0 :: st)
    | 1 => k (.float FP.fconst1 :: st)
    | 2 => k (.float FP.fconst2 :: st)
  | .iadd => match st with
    | .int y :: .int x :: st => k (.int (x + y) :: st)
    | _ => none
  | .isub => match st with
    | .int y :: .int x :: st => k (.int (x - y) :: st)
    | _ => none
  | .imul => match st with
    | .int y :: .int x :: st => k (.int (x * y) :: st)
    | _ => none
  | .iand => match st with
    | .int y :: .int x :: st => k (.int (x &&& y) :: st)
    | _ => none
  | .ior => match st with
    | .int y :: .int x :: st => k (.int (x ||| y) :: st)
    | _ => none
  | .ixor => match st with
    | .int y :: .int x :: st => k (.int (x ^^^ y) :: st)
    | _ => none
  | .idiv => match st with
    | .int y :: .int x :: st => if y = 0 then none else k (.int (x / y) :: st)
    | _ => none
  | .irem => match st with
    | .int y :: .int x :: st => if y = 0 then none else k (.int (x - x / y * y) :: st)
    | _ => none
  | .ineg => match st with
    | .int x :: st => k (.int (-x) :: st)
    | _ => none
  | .ishl => match st with
    | .int y :: .int x :: st => k (.int (x <<< (y &&& 31)) :: st)
    | _ => none
  | .ishr => match st with
    | .int y :: .int x :: st => k (.int (x >>> (y &&& 31)) :: st)
    | _ => none
  | .iushr => match st with
    | .int y :: .int x :: st => k (.int (x.toUInt32 >>> (y.toUInt32 &&& Int32.toUInt32 31)).toInt32 :: st)
    | _ => none
  | .i2l => match st with
    | .int x :: st => k (.long x.toInt64 :: st)
    | _ => none
  | .i2b => match st with
    | .int x :: st => k (.int x.toInt8.toInt32 :: st)
    | _ => none
  | .i2d => match st with
    | .int x :: st => k (.double (FP.i2d x) :: st)
    | _ => none
  | .i2f => match st with
    | .int x :: st => k (.float (FP.i2f x) :: st)
    | _ => none
  | .l2i => match st with
    | .long x :: st => k (.int x.toInt32 :: st)
    | _ => none
  | .l2d => match st with
    | .long x :: st => k (.double (FP.l2d x) :: st)
    | _ => none
  | .l2f => match st with
    | .long x :: st => k (.float (FP.l2f x) :: st)
    | _ => none
  | .d2l => match st with
    | .double x :: st => k (.long (FP.d2l x) :: st)
    | _ => none
  | .f2i => match st with
    | .float x :: st => k (.int (FP.f2i x) :: st)
    | _ => none
  | .ladd => match st with
    | .long y :: .long x :: st => k (.long (x + y) :: st)
    | _ => none
  | .lsub => match st with
    | .long y :: .long x :: st => k (.long (x - y) :: st)
    | _ => none
  | .lmul => match st with
    | .long y :: .long x :: st => k (.long (x * y) :: st)
    | _ => none
  | .lor => match st with
    | .long y :: .long x :: st => k (.long (x ||| y) :: st)
    | _ => none
  | .ldiv => match st with
    | .long y :: .long x :: st => if y = 0 then none else k (.long (x / y) :: st)
    | _ => none
  | .lrem => match st with
    | .long y :: .long x :: st => if y = 0 then none else k (.long (x - x / y * y) :: st)
    | _ => none
  | .lneg => match st with
    | .long x :: st => k (.long (-x) :: st)
    | _ => none
  | .lshl => match st with
    | .int y :: .long x :: st => k (.long (x <<< (y.toInt64 &&& 63)) :: st)
    | _ => none
  | .lcmp => match st with
    | .long y :: .long x :: st => k (.int (lg_cmp x y) :: st)
    | _ => none
  | .dcmp op => match st with
    | .double y :: .double x :: st => k (.int (Op.cmpValue (FP.dcmp x y) op) :: st)
    | _ => none
  | .fcmp op => match st with
    | .float y :: .float x :: st => k (.int (Op.cmpValue (FP.fcmp x y) op) :: st)
    | _ => none
  | .dadd => match st with
    | .double y :: .double x :: st => if FP.dadd x y &&& 0x7fffffffffffffff ≤ 0x7ff0000000000000 then k (.double (FP.dadd x y) :: st) else none
    | _ => none
  | .dsub => match st with
    | .double y :: .double x :: st => if FP.dsub x y &&& 0x7fffffffffffffff ≤ 0x7ff0000000000000 then k (.double (FP.dsub x y) :: st) else none
    | _ => none
  | .dmul => match st with
    | .double y :: .double x :: st => if FP.dmul x y &&& 0x7fffffffffffffff ≤ 0x7ff0000000000000 then k (.double (FP.dmul x y) :: st) else none
    | _ => none
  | .ddiv => match st with
    | .double y :: .double x :: st => if FP.ddiv x y &&& 0x7fffffffffffffff ≤ 0x7ff0000000000000 then k (.double (FP.ddiv x y) :: st) else none
    | _ => none
  | .fsub => match st with
    | .float y :: .float x :: st => if FP.fsub x y &&& 0x7fffffff ≤ 0x7f800000 then k (.float (FP.fsub x y) :: st) else none
    | _ => none
  | .fmul => match st with
    | .float y :: .float x :: st => if FP.fmul x y &&& 0x7fffffff ≤ 0x7f800000 then k (.float (FP.fmul x y) :: st) else none
    | _ => none
  | .fdiv => match st with
    | .float y :: .float x :: st => if FP.fdiv x y &&& 0x7fffffff ≤ 0x7f800000 then k (.float (FP.fdiv x y) :: st) else none
    | _ => none
  | .dup => match st with
    | .int x :: st => k (.int x :: .int x :: st)
    | .ref x :: st => k (.ref x :: .ref x :: st)
    | _ => none
  | .dup2 => match st with
    | .int x :: .ref y :: st => k (.int x :: .ref y :: .int x :: .ref y :: st)
    | _ => none
  | .pop => match st with
    | .int _ :: st => k st
    | _ => none
  | _ => none
def eILen (i : Instr) : Nat := match i with
  | .iload _ | .lload _ | .dload _ | .fload _ | .aload _ | .istore _ | .lstore _ | .dstore _ | .fstore _ | .astore _ | .bipush _ | .ldc _ => 2
  | .iinc _ _ | .goto _ | .ifCond _ _ | .if_icmp _ _ | .sipush _ | .ldc_w _ | .ldc2_w _ | .getfield _ | .putfield _ | .getstatic _ | .invokestatic _ | .invokevirtual _ => 3
  | _ => 1
def eIn (i : Int32) (n : Nat) : Prop := ¬ (i < 0 ∨ n ≤ i.toNatClampNeg)
def eInD (i : Int32) (n : Nat) : Decidable (eIn i n) := inferInstanceAs (Decidable (¬ (i < 0 ∨ n ≤ i.toNatClampNeg)))
def eChk (i : Int32) (n : Nat) (x : Option ρ) : Option ρ := @ite _ (eIn i n) (eInD i n) x none
def eStep (SH : List eSh) (SS : List eS) (nL : Nat) (rs : List (Nat × eR)) (calls : Nat → eF ρ) (rt : Option Value → eW → Option ρ) (k : eK ρ) (i : Instr) (pc : Nat) (L : eL) (st : List Value) (w : eW) : Option ρ :=
  match i with
  | .iload n => match eLd L n with
    | some (.int x) => k (pc + 2) L (.int x :: st) w
    | _ => none
  | .iload_n n => match eLd L n with
    | some (.int x) => k (pc + 1) L (.int x :: st) w
    | _ => none
  | .lload n => match eLd L n with
    | some (.long x) => k (pc + 2) L (.long x :: st) w
    | _ => none
  | .lload_n n => match eLd L n with
    | some (.long x) => k (pc + 1) L (.long x :: st) w
    | _ => none
  | .dload n => match eLd L n with
    | some (.double x) => k (pc + 2) L (.double x :: st) w
    | _ => none
  | .dload_n n => match eLd L n with
    | some (.double x) => k (pc + 1) L (.double x :: st) w
    | _ => none
  | .fload n => match eLd L n with
    | some (.float x) => k (pc + 2) L (.float x :: st) w
    | _ => none
  | .fload_n n => match eLd L n with
    | some (.float x) => k (pc + 1) L (.float x :: st) w
    | _ => none
  | .aload n => match eLd L n with
    | some (.ref x) => k (pc + 2) L (.ref x :: st) w
    | _ => none
  | .aload_n n => match eLd L n with
    | some (.ref x) => k (pc + 1) L (.ref x :: st) w
    | _ => none
  | .istore n => match st with
    | .int x :: st => bif Nat.blt n nL then k (pc + 2) (eSt1 L n (.int x)) st w else none
    | _ => none
  | .istore_n n => match st with
    | .int x :: st => bif Nat.blt n nL then k (pc + 1) (eSt1 L n (.int x)) st w else none
    | _ => none
  | .lstore n => match st with
    | .long x :: st => bif Nat.blt (n + 1) nL then k (pc + 2) (eSt2 L n (.long x)) st w else none
    | _ => none
  | .lstore_n n => match st with
    | .long x :: st => bif Nat.blt (n + 1) nL then k (pc + 1) (eSt2 L n (.long x)) st w else none
    | _ => none
  | .dstore n => match st with
    | .double x :: st => bif Nat.blt (n + 1) nL then k (pc + 2) (eSt2 L n (.double x)) st w else none
    | _ => none
  | .dstore_n n => match st with
    | .double x :: st => bif Nat.blt (n + 1) nL then k (pc + 1) (eSt2 L n (.double x)) st w else none
    | _ => none
  | .fstore n => match st with
    | .float x :: st => bif Nat.blt n nL then k (pc + 2) (eSt1 L n (.float x)) st w else none
    | _ => none
  | .fstore_n n => match st with
    | .float x :: st => bif Nat.blt n nL then k (pc + 1) (eSt1 L n (.float x)) st w else none
    | _ => none
  | .astore n => match st with
    | .ref x :: st => bif Nat.blt n nL then k (pc + 2) (eSt1 L n (.ref x)) st w else none
    | _ => none
  | .astore_n n => match st with
    | .ref x :: st => bif Nat.blt n nL then k (pc + 1) (eSt1 L n (.ref x)) st w else none
    | _ => none
  | .iinc n z => match eLd L n with
    | some (.int x) => bif Nat.blt n nL then k (pc + 3) (eSt1 L n (.int (x + Int32.ofInt z))) st w else none
    | _ => none
  | .goto off => match eTo pc off with
    | some t => k t L st w
    | none => none
  | .ifCond c off => match st with
    | .int x :: st => (match c with
      | .eq => eBr (fun t => k t L st w) pc off (x = 0) inferInstance
      | .ne => eBr (fun t => k t L st w) pc off (¬ x = 0) inferInstance
      | .lt => eBr (fun t => k t L st w) pc off (x < 0) inferInstance
      | .ge => eBr (fun t => k t L st w) pc off (0 ≤ x) inferInstance
      | .gt => eBr (fun t => k t L st w) pc off (0 < x) inferInstance
      | .le => eBr (fun t => k t L st w) pc off (x ≤ 0) inferInstance)
    | _ => none
  | .if_icmp c off => match st with
    | .int y :: .int x :: st => (match c with
      | .eq => eBr (fun t => k t L st w) pc off (x = y) inferInstance
      | .ne => eBr (fun t => k t L st w) pc off (¬ x = y) inferInstance
      | .lt => eBr (fun t => k t L st w) pc off (x < y) inferInstance
      | .ge => eBr (fun t => k t L st w) pc off (y ≤ x) inferInstance
      | .gt => eBr (fun t => k t L st w) pc off (y < x) inferInstance
      | .le => eBr (fun t => k t L st w) pc off (x ≤ y) inferInstance)
    | _ => none
  | .tableswitch dflt lo _ offs => match st with
    | .int x :: st => eSw (fun t => k t L st w) pc x dflt lo offs.toList
    | _ => none
  | .ldc ix => match eLook rs ix with
    | some (2, _, _, z) => k (pc + 2) L (.int (Int32.ofInt z) :: st) w
    | some (5, z, _, _) => k (pc + 2) L (.float (UInt32.ofNat z) :: st) w
    | _ => none
  | .ldc_w ix => match eLook rs ix with
    | some (2, _, _, z) => k (pc + 3) L (.int (Int32.ofInt z) :: st) w
    | _ => none
  | .ldc2_w ix => match eLook rs ix with
    | some (3, _, _, z) => k (pc + 3) L (.long (Int64.ofInt z) :: st) w
    | some (4, z, _, _) => k (pc + 3) L (.double (UInt64.ofNat z) :: st) w
    | _ => none
  | .getfield ix => match eLook rs ix, st with
    | some (0, ci, kf, _), .ref o :: st => (match SH[o]? with
      | some (.inr (ci', fs)) => bif Nat.beq ci' ci then (match fs[kf]? with
        | some f => k (pc + 3) L (eFv (fun a => a) w o kf f :: st) w
        | none => none) else none
      | _ => none)
    | _, _ => none
  | .putfield ix => match eLook rs ix, st with
    | some (0, ci, kf, z), v :: .ref o :: st => (match SH[o]? with
      | some (.inr (ci', fs)) => bif Nat.beq ci' ci then (match fs[kf]?, v, z with
        | some (0, _), .int x, .ofNat 0 => k (pc + 3) L st (eU1 w o kf x)
        | some (1, _), .long x, .ofNat 1 => k (pc + 3) L st (eU2 w o kf x)
        | some (3, _), .int x, .ofNat 3 => if x = 0 ∨ x = 1 then k (pc + 3) L st (eU1 w o kf x) else none
        | _, _, _ => none) else none
      | _ => none)
    | _, _ => none
  | .getstatic ix => match eLook rs ix with
    | some (7, id, _, _) => k (pc + 3) L (.ref id :: st) w
    | _ => none
  | .arraylength => match st with
    | .ref o :: st => (match SH[o]? with
      | some (.inl (_, n)) => k (pc + 1) L (.int (Int32.ofNat n) :: st) w
      | some _ => none
      | none => (match SS[o - SH.length]? with
        | some q => k (pc + 1) L (.int (Int32.ofNat q.2.2.2.length) :: st) w
        | none => none))
    | _ => none
  | .iaload => match st with
    | .int j :: .ref o :: st => (match SH[o]? with
      | some (.inl (0, n)) => eChk j n (k (pc + 1) L (.int (w.1 o j.toNatClampNeg) :: st) w)
      | some _ => none
      | none => (match SS[o - SH.length]? with
        | some q => eChk j q.2.2.2.length (k (pc + 1) L (.int (q.2.2.2.getD j.toNatClampNeg 0) :: st) w)
        | none => none))
    | _ => none
  | .laload => match st with
    | .int j :: .ref o :: st => (match SH[o]? with
      | some (.inl (1, n)) => eChk j n (k (pc + 1) L (.long (w.2 o j.toNatClampNeg) :: st) w)
      | _ => none)
    | _ => none
  | .baload => match st with
    | .int j :: .ref o :: st => (match SH[o]? with
      | some (.inl (2, n)) => eChk j n (k (pc + 1) L (.int (w.1 o j.toNatClampNeg) :: st) w)
      | some (.inl (3, n)) => eChk j n (k (pc + 1) L (.int (w.1 o j.toNatClampNeg) :: st) w)
      | _ => none)
    | _ => none
  | .iastore => match st with
    | .int x :: .int j :: .ref o :: st => (match SH[o]? with
      | some (.inl (0, n)) => eChk j n (k (pc + 1) L st (eU1 w o j.toNatClampNeg x))
      | _ => none)
    | _ => none
  | .lastore => match st with
    | .long x :: .int j :: .ref o :: st => (match SH[o]? with
      | some (.inl (1, n)) => eChk j n (k (pc + 1) L st (eU2 w o j.toNatClampNeg x))
      | _ => none)
    | _ => none
  | .bastore => match st with
    | .int x :: .int j :: .ref o :: st => (match SH[o]? with
      | some (.inl (2, n)) => eChk j n (k (pc + 1) L st (eU1 w o j.toNatClampNeg (vp_nar .byte x)))
      | some (.inl (3, n)) => eChk j n (k (pc + 1) L st (eU1 w o j.toNatClampNeg (vp_nar .boolean x)))
      | _ => none)
    | _ => none
  | .invokestatic ix => match eLook rs ix with
    | some (1, a, n, .negSucc _) => (match eArgs n [] st with
      | some (as, st) => bif Nat.ble (eCat st) 8 then calls a as w (fun v w => k (pc + 3) L (v.toList ++ st) w) else none
      | none => none)
    | some (6, a, _, _) => bif Nat.ble (eCat st) 8 then (match a, st with
      | 0, .int y :: .int x :: st => k (pc + 3) L (.int (if x < y then y else x) :: st) w
      | 1, .int y :: .int x :: st => k (pc + 3) L (.int (if y < x then y else x) :: st) w
      | 2, .long y :: .long x :: st => k (pc + 3) L (.long (if y < x then x else y) :: st) w
      | 3, .int n :: .int dp :: .ref d :: .int sp :: .ref o :: st => (match SH[o]?, SH[d]? with
        | some (.inl (0, n0)), some (.inl (0, n1)) => if ¬ sp < 0 ∧ ¬ dp < 0 ∧ ¬ n < 0 ∧ sp.toNatClampNeg + n.toNatClampNeg ≤ n0 ∧ dp.toNatClampNeg + n.toNatClampNeg ≤ n1 then k (pc + 3) L st (eCp1 w d o sp.toNatClampNeg dp.toNatClampNeg n.toNatClampNeg) else none
        | some (.inl (1, n0)), some (.inl (1, n1)) => if ¬ sp < 0 ∧ ¬ dp < 0 ∧ ¬ n < 0 ∧ sp.toNatClampNeg + n.toNatClampNeg ≤ n0 ∧ dp.toNatClampNeg + n.toNatClampNeg ≤ n1 then k (pc + 3) L st (eCp2 w d o sp.toNatClampNeg dp.toNatClampNeg n.toNatClampNeg) else none
        | _, _ => none)
      | _, _ => none) else none
    | _ => none
  | .invokevirtual ix => match eLook rs ix with
    | some (1, a, n, .ofNat cj) => (match eArgs n [] st with
      | some (as, .ref o :: st) => (match SH[o]? with
        | some (.inr (ci, _)) => bif Nat.ble (eCat st) 8 && Nat.beq ci cj then calls a (.ref o :: as) w (fun v w => k (pc + 3) L (v.toList ++ st) w) else none
        | _ => none)
      | _ => none)
    | _ => none
  | .ireturn => match st with
    | [.int x] => rt (some (.int x)) w
    | _ => none
  | .lreturn => match st with
    | [.long x] => rt (some (.long x)) w
    | _ => none
  | .dreturn => match st with
    | [.double x] => rt (some (.double x)) w
    | _ => none
  | .freturn => match st with
    | [.float x] => rt (some (.float x)) w
    | _ => none
  | .areturn => match st with
    | [.ref x] => rt (some (.ref x)) w
    | _ => none
  | .return_ => match st with
    | [] => rt none w
    | _ => none
  | i => eAlu i st (fun st => k (pc + eILen i) L st w)
def eMem (n : Nat) : List Nat → Bool
  | [] => false
  | m :: r => bif Nat.beq n m then true else eMem n r
/-- a run up to the cuts: there K goes on -/
def eRun (SH : List eSh) (SS : List eS) (nL : Nat) (rs : List (Nat × eR)) (calls : Nat → eF ρ) (rt : Option Value → eW → Option ρ) (C : eCo) (cuts : List Nat) (K : eK ρ) : Nat → Bool → eK ρ := fun n => Nat.rec (motive := fun _ => Bool → eK ρ) (fun _ _ _ _ _ => none)
  (fun _ ih first pc L st w => bif (eMem pc cuts && !first) then K pc L st w else (match eAt C pc with
    | some i => eStep SH SS nL rs calls rt (ih false) i pc L st w
    | none => none)) n
end ESTEP
/-- what a method answers -/
def rI (v : Option Value) (w : eW) : Option (Int32 × eW) := match v with
  | some (.int x) => some (x, w)
  | _ => none
def rZ (v : Option Value) (w : eW) : Option (Int32 × eW) := match v with
  | some (.int x) => if x = 0 ∨ x = 1 then some (x, w) else none
  | _ => none
def rJ (v : Option Value) (w : eW) : Option (Int64 × eW) := match v with
  | some (.long x) => some (x, w)
  | _ => none
def rD (v : Option Value) (w : eW) : Option (UInt64 × eW) := match v with
  | some (.double x) => some (x, w)
  | _ => none
def rF (v : Option Value) (w : eW) : Option (UInt32 × eW) := match v with
  | some (.float x) => some (x, w)
  | _ => none
def rA (v : Option Value) (w : eW) : Option (Nat × eW) := match v with
  | some (.ref x) => some (x, w)
  | _ => none
def rV (v : Option Value) (w : eW) : Option eW := match v with
  | none => some w
  | _ => none
/-- a local of a kind -/
def lI (L : eL) (i : Nat) : Option Int32 := match eLd L i with
  | some (.int x) => some x
  | _ => none
def lJ (L : eL) (i : Nat) : Option Int64 := match eLd L i with
  | some (.long x) => some x
  | _ => none
def lD (L : eL) (i : Nat) : Option UInt64 := match eLd L i with
  | some (.double x) => some x
  | _ => none
def lF (L : eL) (i : Nat) : Option UInt32 := match eLd L i with
  | some (.float x) => some x
  | _ => none
def lA (L : eL) (i : Nat) : Option Nat := match eLd L i with
  | some (.ref x) => some x
  | _ => none
end
section
/-! ===== the abstract machine is sound over the machine ===== -/
def eTys (cA : Nat → ClassId) : List (ClassId × FieldType) := [(cA 0, .int), (cA 1, .long), (cA 2, .byte), (cA 3, .boolean)]
def eA (ad : Nat → Nat) (n : Nat) : Nat → Prop := fun q => ∃ i, i < n ∧ q = ad i
def eInj (ad : Nat → Nat) (n : Nat) : Prop := ∀ i j, i < n → j < n → ad i = ad j → i = j
def eStat (ad : Nat → Nat) (n : Nat) (SS : List eS) (U : State) : Prop := ∀ (k : Nat) (q : eS), SS[k]? = some q → va_Z q.1 q.2.1 q.2.2.1 (.ref (ad (n + k))) (eA ad n) U U.heap ∧ va_T .int (ad (n + k)) q.2.2.2.length (fun j => .int (q.2.2.2.getD j 0)) (eA ad n) U U.heap
def eAL (ad : Nat → Nat) (ls : Array Slot) (nL : Nat) (L : eL) : Prop := ls.size = nL ∧ lv_wf ls ∧ ∀ (i : Nat) (v : Value), L[i]? = some (some v) → ls[i]? = some (.val (eC ad v))
theorem eWs_get (ad : Nat → Nat) (cA : Nat → ClassId) (w : eW) : ∀ (SH : List eSh) (i k : Nat), (eWs ad cA w i SH)[k]? = (SH[k]?).map (fun sh => (ad (i + k), eCell ad cA w (i + k) sh))
  | [], _, _ => by simp [eWs]
  | sh :: r, i, 0 => by simp [eWs]
  | sh :: r, i, k + 1 => by
    simp only [eWs, List.getElem?_cons_succ]
    rw [eWs_get ad cA w r (i + 1) k, show i + 1 + k = i + (k + 1) by omega]
theorem eWs_at {ad : Nat → Nat} {cA : Nat → ClassId} {w : eW} {SH : List eSh} {k : Nat} {sh : eSh} (h : SH[k]? = some sh) : (eWs ad cA w 0 SH)[k]? = some (ad k, eCell ad cA w k sh) := by
  rw [eWs_get, h]
  simp
theorem eFs_get (ad : Nat → Nat) (w : eW) (id : Nat) : ∀ (fs : List (Nat × Nat)) (i k : Nat), (eFs ad w id i fs)[k]? = (fs[k]?).map (fun f => eFv ad w id (i + k) f)
  | [], _, _ => by simp [eFs]
  | f :: r, i, 0 => by simp [eFs]
  | f :: r, i, k + 1 => by
    simp only [eFs, List.getElem?_cons_succ]
    rw [eFs_get ad w id r (i + 1) k, show i + 1 + k = i + (k + 1) by omega]
theorem eWs_D {ad : Nat → Nat} {cA : Nat → ClassId} {w : eW} {SH : List eSh} (hi : eInj ad SH.length) : va_D (eA ad SH.length) (eWs ad cA w 0 SH) := by
  have key : ∀ (k : Nat) (q : Nat × va_E), (eWs ad cA w 0 SH)[k]? = some q → k < SH.length ∧ q.1 = ad k := by
    intro k q h
    rw [eWs_get] at h
    cases hs : SH[k]? with
    | none => rw [hs] at h; cases h
    | some sh =>
      rw [hs] at h
      cases h
      exact ⟨(List.getElem?_eq_some_iff.mp hs).1, by simp⟩
  refine ⟨fun i j x y h1 h2 hxy => ?_, fun k q h => ?_⟩
  · obtain ⟨a1, b1⟩ := key i x h1
    obtain ⟨a2, b2⟩ := key j y h2
    exact hi i j a1 a2 (by rw [← b1, ← b2, hxy])
  · obtain ⟨a1, b1⟩ := key k q h
    exact ⟨k, a1, b1⟩
/-- a world that differs from another one at one cell alone -/
theorem eWs_set {ad : Nat → Nat} {cA : Nat → ClassId} {w w' : eW} {SH : List eSh} {o : Nat} {sh : eSh} (h : SH[o]? = some sh) (he : ∀ (k : Nat) (sh : eSh), k ≠ o → eCell ad cA w' k sh = eCell ad cA w k sh) : (eWs ad cA w 0 SH).set o (ad o, eCell ad cA w' o sh) = eWs ad cA w' 0 SH := by
  apply List.ext_getElem?
  intro k
  have hl : o < SH.length := (List.getElem?_eq_some_iff.mp h).1
  have hlen : ∀ (r : List eSh) (i : Nat), (eWs ad cA w i r).length = r.length := by
    intro r
    induction r with
    | nil => intro i; rfl
    | cons a r ih => intro i; simp [eWs, ih]
  by_cases hk : k = o
  · subst hk
    rw [List.getElem?_set_self (by rw [hlen]; exact hl), eWs_at h]
  · rw [List.getElem?_set_ne (Ne.symm hk), eWs_get, eWs_get]
    cases hs : SH[k]? with
    | none => rfl
    | some sh2 =>
      simp only [Option.map_some, Nat.zero_add]
      rw [he k sh2 hk]
theorem eFs_congr {ad : Nat → Nat} {w w' : eW} {id : Nat} (h1 : ∀ b, w'.1 id b = w.1 id b) (h2 : ∀ b, w'.2 id b = w.2 id b) : ∀ (fs : List (Nat × Nat)) (i : Nat), eFs ad w' id i fs = eFs ad w id i fs
  | [], _ => rfl
  | f :: r, i => by
    simp only [eFs]
    rw [eFs_congr h1 h2 r (i + 1)]
    simp only [eFv, h1, h2]
theorem eCell_congr {ad : Nat → Nat} {cA : Nat → ClassId} {w w' : eW} {id : Nat} {sh : eSh} (h1 : ∀ b, w'.1 id b = w.1 id b) (h2 : ∀ b, w'.2 id b = w.2 id b) : eCell ad cA w' id sh = eCell ad cA w id sh := by
  have e1 : w'.1 id = w.1 id := funext h1
  have e2 : w'.2 id = w.2 id := funext h2
  unfold eCell
  split <;> simp only [e1, e2, eFs_congr h1 h2]
theorem eU1_at (w : eW) (id k : Nat) (x : Int32) (a b : Nat) : (eU1 w id k x).1 a b = if a = id then (if b = k then x else w.1 a b) else w.1 a b := rfl
theorem eU2_at (w : eW) (id k : Nat) (x : Int64) (a b : Nat) : (eU2 w id k x).2 a b = if a = id then (if b = k then x else w.2 a b) else w.2 a b := rfl
theorem eU1_ne {ad : Nat → Nat} {cA : Nat → ClassId} {w : eW} {o k : Nat} {x : Int32} : ∀ (i : Nat) (sh : eSh), i ≠ o → eCell ad cA (eU1 w o k x) i sh = eCell ad cA w i sh := fun i _ h => eCell_congr (fun b => by rw [eU1_at, if_neg h]) (fun _ => rfl)
theorem eU2_ne {ad : Nat → Nat} {cA : Nat → ClassId} {w : eW} {o k : Nat} {x : Int64} : ∀ (i : Nat) (sh : eSh), i ≠ o → eCell ad cA (eU2 w o k x) i sh = eCell ad cA w i sh := fun i _ h => eCell_congr (fun _ => rfl) (fun b => by rw [eU2_at, if_neg h])
theorem eFs_set1 {ad : Nat → Nat} {w : eW} {id : Nat} {x : Int32} {k : Nat} {fs : List (Nat × Nat)} {f : Nat × Nat} (hf : fs[k]? = some f) (hx : eFv ad (eU1 w id k x) id k f = .int x) : (eFs ad w id 0 fs).set k (.int x) = eFs ad (eU1 w id k x) id 0 fs := by
  apply List.ext_getElem?
  intro j
  have hl : k < fs.length := (List.getElem?_eq_some_iff.mp hf).1
  have hlen : ∀ (r : List (Nat × Nat)) (i : Nat), (eFs ad w id i r).length = r.length := by
    intro r
    induction r with
    | nil => intro i; rfl
    | cons a r ih => intro i; simp [eFs, ih]
  by_cases hj : j = k
  · subst hj
    rw [List.getElem?_set_self (by rw [hlen]; exact hl), eFs_get, hf]
    simp only [Option.map_some, Nat.zero_add, hx]
  · rw [List.getElem?_set_ne (Ne.symm hj), eFs_get, eFs_get]
    cases hs : fs[j]? with
    | none => rfl
    | some g =>
      simp only [Option.map_some, Nat.zero_add]
      unfold eFv
      rw [eU1_at, if_pos rfl, if_neg hj]
      rfl
theorem eFs_set2 {ad : Nat → Nat} {w : eW} {id : Nat} {x : Int64} {k : Nat} {fs : List (Nat × Nat)} {f : Nat × Nat} (hf : fs[k]? = some f) (hx : eFv ad (eU2 w id k x) id k f = .long x) : (eFs ad w id 0 fs).set k (.long x) = eFs ad (eU2 w id k x) id 0 fs := by
  apply List.ext_getElem?
  intro j
  have hl : k < fs.length := (List.getElem?_eq_some_iff.mp hf).1
  have hlen : ∀ (r : List (Nat × Nat)) (i : Nat), (eFs ad w id i r).length = r.length := by
    intro r
    induction r with
    | nil => intro i; rfl
    | cons a r ih => intro i; simp [eFs, ih]
  by_cases hj : j = k
  · subst hj
    rw [List.getElem?_set_self (by rw [hlen]; exact hl), eFs_get, hf]
    simp only [Option.map_some, Nat.zero_add, hx]
  · rw [List.getElem?_set_ne (Ne.symm hj), eFs_get, eFs_get]
    cases hs : fs[j]? with
    | none => rfl
    | some g =>
      simp only [Option.map_some, Nat.zero_add]
      unfold eFv
      rw [eU2_at, if_pos rfl, if_neg hj]
      rfl
theorem eC_cat (ad : Nat → Nat) (v : Value) : (eC ad v).category = v.category := by cases v <;> rfl
theorem eCat_map (ad : Nat → Nat) : ∀ st : List Value, ((st.map (eC ad)).map fun v => v.category).sum = eCat st
  | [] => rfl
  | v :: r => by simp only [List.map_cons, List.sum_cons, eCat, eC_cat, eCat_map ad r]
/-- the locals as pairs -/
def eLv (ad : Nat → Nat) (L : eL) : List (Nat × Value) := (List.range L.length).filterMap (fun i => match L[i]? with
  | some (some v) => some (i, eC ad v)
  | _ => none)
theorem eLv_mem {ad : Nat → Nat} {L : eL} {q : Nat × Value} : q ∈ eLv ad L ↔ ∃ v, L[q.1]? = some (some v) ∧ q.2 = eC ad v := by
  unfold eLv
  rw [List.mem_filterMap]
  constructor
  · rintro ⟨i, -, h⟩
    split at h
    · rename_i v hv
      cases h
      exact ⟨v, hv, rfl⟩
    · cases h
  · rintro ⟨v, hv, h2⟩
    refine ⟨q.1, List.mem_range.mpr (List.getElem?_eq_some_iff.mp hv).1, ?_⟩
    rw [hv]
    simp only [← h2]
theorem eAL.has {ad : Nat → Nat} {ls : Array Slot} {nL : Nat} {L : eL} (h : eAL ad ls nL L) : lv_has ls nL (eLv ad L) := ⟨h.1, h.2.1, fun q hq => by
  obtain ⟨v, h1, h2⟩ := eLv_mem.mp hq
  rw [h2]
  exact h.2.2 _ _ h1⟩
theorem eLd_some {L : eL} {i : Nat} {v : Value} : eLd L i = some v ↔ L[i]? = some (some v) := by
  unfold eLd
  split
  · rename_i u hu
    rw [hu]
    simp
  · rename_i hn
    constructor
    · intro h; cases h
    · intro h; exact absurd h (hn v)
theorem eSt1_get {L : eL} {i : Nat} {v : Value} {j : Nat} {u : Value} (h : (eSt1 L i v)[j]? = some (some u)) : (j = i ∧ u = v) ∨ (j ≠ i ∧ L[j]? = some (some u) ∧ ¬ (j + 1 = i ∧ u.category = 2)) := by
  have hset : ∀ {L : eL} {i : Nat} {j : Nat} {a : Option Value} {u : Value}, (L.set i a)[j]? = some (some u) → (j = i ∧ a = some u) ∨ (j ≠ i ∧ L[j]? = some (some u)) := by
    intro L i j a u h
    by_cases hj : j = i
    · subst hj
      rw [List.getElem?_set] at h
      simp only [if_true] at h
      split at h
      · exact Or.inl ⟨rfl, Option.some.inj h⟩
      · cases h
    · rw [List.getElem?_set_ne (Ne.symm hj)] at h
      exact Or.inr ⟨hj, h⟩
  cases i with
  | zero =>
    simp only [eSt1] at h
    rcases hset h with ⟨h1, h2⟩ | ⟨h1, h2⟩
    · exact Or.inl ⟨h1, (Option.some.inj h2).symm⟩
    · exact Or.inr ⟨h1, h2, fun z => by omega⟩
  | succ i =>
    simp only [eSt1] at h
    split at h
    · rcases hset h with ⟨h1, h2⟩ | ⟨h1, h2⟩
      · cases h2
      · rcases hset h2 with ⟨h3, h4⟩ | ⟨h3, h4⟩
        · exact Or.inl ⟨h3, (Option.some.inj h4).symm⟩
        · exact Or.inr ⟨h3, h4, fun z => h1 (by omega)⟩
    · rcases hset h with ⟨h1, h2⟩ | ⟨h1, h2⟩
      · cases h2
      · rcases hset h2 with ⟨h3, h4⟩ | ⟨h3, h4⟩
        · exact Or.inl ⟨h3, (Option.some.inj h4).symm⟩
        · exact Or.inr ⟨h3, h4, fun z => h1 (by omega)⟩
    · rename_i hn1 hn2
      rcases hset h with ⟨h1, h2⟩ | ⟨h1, h2⟩
      · exact Or.inl ⟨h1, (Option.some.inj h2).symm⟩
      · refine Or.inr ⟨h1, h2, fun z => ?_⟩
        have hji : j = i := by omega
        subst hji
        have h5 := eLd_some.mpr h2
        cases u with
        | long x => exact hn1 x h5
        | double x => exact hn2 x h5
        | _ => exact absurd z.2 (by simp [Value.category])
theorem eAL.st1 {ad : Nat → Nat} {ls' : Array Slot} {nL : Nat} {L : eL} {i : Nat} {v : Value} (h : lv_has ls' nL ((i, eC ad v) :: (eLv ad L).filter (fun q => !(q.1 == i) && !(q.1 + 1 == i && q.2.category == 2)))) : eAL ad ls' nL (eSt1 L i v) := by
  refine ⟨h.1, h.2.1, fun j u hj => ?_⟩
  rcases eSt1_get hj with ⟨rfl, rfl⟩ | ⟨h1, h2, h3⟩
  · exact h.2.2 _ List.mem_cons_self
  · refine h.2.2 (j, eC ad u) (List.mem_cons_of_mem _ (List.mem_filter.mpr ⟨eLv_mem.mpr ⟨u, h2, rfl⟩, ?_⟩))
    have hc := eC_cat ad u
    by_cases hz : j + 1 = i
    · have h4 : ¬ u.category = 2 := fun z => h3 ⟨hz, z⟩
      simp [h1, hc, h4]
    · simp [h1, hz]
theorem eAL.st2 {ad : Nat → Nat} {ls' : Array Slot} {nL : Nat} {L : eL} {i : Nat} {v : Value} (h : lv_has ls' nL ((i, eC ad v) :: (eLv ad L).filter (fun q => !(q.1 == i) && (!(q.1 == i + 1) && !(q.1 + 1 == i && q.2.category == 2))))) : eAL ad ls' nL (eSt2 L i v) := by
  refine ⟨h.1, h.2.1, fun j u hj => ?_⟩
  unfold eSt2 at hj
  have hj2 : j ≠ i + 1 ∧ (eSt1 L i v)[j]? = some (some u) := by
    by_cases hz : j = i + 1
    · subst hz
      rw [List.getElem?_set] at hj
      simp only [if_true] at hj
      split at hj <;> cases hj
    · rw [List.getElem?_set_ne (Ne.symm hz)] at hj
      exact ⟨hz, hj⟩
  obtain ⟨hne, hj⟩ := hj2
  rcases eSt1_get hj with ⟨rfl, rfl⟩ | ⟨h1, h2, h3⟩
  · exact h.2.2 _ List.mem_cons_self
  · refine h.2.2 (j, eC ad u) (List.mem_cons_of_mem _ (List.mem_filter.mpr ⟨eLv_mem.mpr ⟨u, h2, rfl⟩, ?_⟩))
    have hc := eC_cat ad u
    by_cases hz : j + 1 = i
    · have h4 : ¬ u.category = 2 := fun z => h3 ⟨hz, z⟩
      simp [h1, hne, hc, h4]
    · simp [h1, hne, hz]
theorem eTo_some {pc : Nat} {off : Int} {t : Nat} (h : eTo pc off = some t) : (pc : Int) + off = (t : Int) := by
  unfold eTo at h
  split at h
  · cases h
    simp
  · cases hb : Nat.ble (_ + 1) pc with
    | false => rw [hb] at h; cases h
    | true =>
      rw [hb] at h
      have := Nat.le_of_ble_eq_true hb
      cases h
      omega
theorem eArgs_spec : ∀ (n : Nat) (acc st as rest : List Value), eArgs n acc st = some (as, rest) → ∃ b : List Value, b.length = n ∧ as = b ++ acc ∧ st = b.reverse ++ rest
  | 0, acc, st, as, rest, h => by
    cases h
    exact ⟨[], rfl, rfl, rfl⟩
  | n + 1, acc, [], as, rest, h => by cases h
  | n + 1, acc, v :: st, as, rest, h => by
    obtain ⟨b, h1, h2, h3⟩ := eArgs_spec n (v :: acc) st as rest h
    exact ⟨b ++ [v], by simp [h1], by simp [h2], by simp [h3]⟩
def eKT (z : Int) : FieldType := match z with
  | .ofNat 0 => .int
  | .ofNat 1 => .long
  | _ => .boolean
/-- of a table of links: what each entry says -/
def eLnk (R : Room) (cl : List vw_C) (Ts : List Cond) (SS : List eS) (n : Nat) (own : String) (ix : Nat) (r : eR) : Prop := match r with
  | (0, ci, k, z) => ∃ (C : String) (T : u_T) (N : Nat) (ty0 : Nat → FieldType), cl[ci]? = some (C, T, N) ∧ k < N ∧ (z = 2 ∨ ((T k).2.2.2 = false ∧ parseFieldDescriptor (T k).2.2.1 = some (eKT z))) ∧ (∀ w ∈ u_ws C T N, w ∈ Ts) ∧ (∀ k, k < N → parseFieldDescriptor (T k).2.2.1 = some (ty0 k)) ∧ (∀ a, a < N → ∀ b, b < N → a ≠ b → (T a).2.1 ≠ (T b).2.1) ∧ Cond.fieldLink own ix (T k).1 (T k).2.1 (T k).2.2.1 ∈ Ts
  | (2, _, _, z) => Cond.constant own ix (Int32.ofInt z) ∈ Ts
  | (3, _, _, z) => Cond.constantLong own ix (Int64.ofInt z) ∈ Ts
  | (4, z, _, _) => Cond.constantDouble own ix (UInt64.ofNat z) ∈ Ts
  | (5, z, _, _) => Cond.constantFloat own ix (UInt32.ofNat z) ∈ Ts
  | (7, id, _, _) => ∃ (k : Nat) (q : eS), id = n + k ∧ SS[k]? = some q ∧ Cond.fieldLink own ix q.1 q.2.1 q.2.2.1 ∈ Ts
  | (6, 0, _, _) => 1 ≤ R.frames ∧ 60 ≤ R.locals ∧ Cond.methodLink own ix Lib.Math.max.name ∈ Ts ∧ Cond.static Lib.Math.max.name ∈ Ts ∧ Cond.initialized "java/lang/Math" ∈ Ts ∧ Cond.code Lib.Math.max.name Lib.Math.max.code 2 (some .int) ∈ Ts
  | (6, 1, _, _) => 1 ≤ R.frames ∧ 60 ≤ R.locals ∧ Cond.methodLink own ix Lib.Math.min.name ∈ Ts ∧ Cond.static Lib.Math.min.name ∈ Ts ∧ Cond.initialized "java/lang/Math" ∈ Ts ∧ Cond.code Lib.Math.min.name Lib.Math.min.code 2 (some .int) ∈ Ts
  | (6, 2, _, _) => 1 ≤ R.frames ∧ 60 ≤ R.locals ∧ Cond.methodLink own ix Lib.MathLoose.max_long.x ∈ Ts ∧ Cond.static Lib.MathLoose.max_long.x ∈ Ts ∧ Cond.initialized "java/lang/Math" ∈ Ts ∧ Cond.code Lib.MathLoose.max_long.x Lib.MathLoose.max_long.code 4 (some .long) ∈ Ts
  | (6, 3, _, _) => 1 ≤ R.frames ∧ 60 ≤ R.locals ∧ Cond.methodLink own ix arraycopyName ∈ Ts ∧ Cond.native arraycopyName ∈ Ts ∧ Cond.static arraycopyName ∈ Ts ∧ Cond.initialized "java/lang/System" ∈ Ts
  | _ => True
end
section
section EGO
variable {p : Program} {l : Launch} {e : Env} {R : Room} {s : State} {m : MethodId} {args : Array Value} {below : List Frame} {meth : Method} {c : Code} {cc : ByteArray} {own : String} {nL : Nat} {ad : Nat → Nat} {D : va_G} {cA : Nat → ClassId} {cl : List vw_C} {SH : List eSh} {SS : List eS} {Ts : List Cond}
def eGo (p : Program) (l : Launch) (e : Env) (R : Room) (s : State) (m : MethodId) (args : Array Value) (below : List Frame) (meth : Method) (c : Code) (nL : Nat) (ad : Nat → Nat) (D : va_G) (cA : Nat → ClassId) (cl : List vw_C) (SH : List eSh) (Qc : Array Value → State → Outcome → State → Prop) (pc : Nat) (L : eL) (st : List Value) (w : eW) : Prop :=
  ∀ (H : Heap) (locs : List Loc) (ls : Array Slot), va_P D cl (eWs ad cA w 0 SH) H → va_S (eA ad SH.length) s.heap H locs → eAL ad ls nL L → W p l e R s m args below meth c H locs 0 0 (MQ below Qc args s 0 0 (eA ad SH.length)) (F0 m pc ls (st.map (eC ad)))
/-- what a walk of a method stands on -/
def eCx (p : Program) (R : Room) (s : State) (m : MethodId) (args : Array Value) (meth : Method) (c : Code) (cc : ByteArray) (own : String) (nL : Nat) (ad : Nat → Nat) (D : va_G) (cA : Nat → ClassId) (cl : List vw_C) (SH : List eSh) (SS : List eS) (Ts : List Cond) (ret : Option FieldType) : Prop :=
  p.tables.exec = Jvm.exec ∧ c.code = cc ∧ meth.sig.returnType = ret ∧ meth.locks = false ∧ s.vm.findClass own = some m.cls ∧ c.maxLocals = nL ∧ (∀ w ∈ Ts, w.before args s = true) ∧ va_K D cl (eTys cA) s ∧ eInj ad SH.length ∧ eStat ad SH.length SS s
variable {ρ : Type} {Qc : Array Value → State → Outcome → State → Prop}
theorem eGo.wk {pc : Nat} {L L' : eL} {st : List Value} {w : eW} (h : eGo p l e R s m args below meth c nL ad D cA cl SH Qc pc L st w) (hl : ∀ (i : Nat) (v : Value), L[i]? = some (some v) → L'[i]? = some (some v)) : eGo p l e R s m args below meth c nL ad D cA cl SH Qc pc L' st w :=
  fun H locs ls hP hS hL => h H locs ls hP hS ⟨hL.1, hL.2.1, fun i v hi => hL.2.2 i v (hl i v hi)⟩
theorem eDec1 {i : Instr} {len n : Nat} {pc : Nat} (h : decode cc pc = .ok (i, len)) (hn : len = n) : decode cc pc = .ok (i, n) := hn ▸ h
set_option maxHeartbeats 4000000 in
theorem eAlu_go (hx : p.tables.exec = Jvm.exec) (hb : c.code = cc) {x : ρ} (i : Instr) (pc : Nat) (L : eL) (st : List Value) (w : eW) (k : List Value → Option ρ) (h : eAlu i st k = some x) (hdg : decode cc pc = .ok (i, eILen i))
    (hk : ∀ st', k st' = some x → eGo p l e R s m args below meth c nL ad D cA cl SH Qc (pc + eILen i) L st' w) : eGo p l e R s m args below meth c nL ad D cA cl SH Qc pc L st w := by
  intro H locs ls hP hS hL
  have kk : ∀ st', k st' = some x → W p l e R s m args below meth c H locs 0 0 (MQ below Qc args s 0 0 (eA ad SH.length)) (F0 m (pc + eILen i) ls (st'.map (eC ad))) := fun st' h => hk st' h H locs ls hP hS hL
  cases i with
  | iconst n => exact lv_iconst hx hb hdg rfl (kk _ h)
  | bipush n => exact lv_bipush hx hb hdg rfl (kk _ h)
  | sipush n => exact lv_sipush hx hb hdg rfl (kk _ h)
  | lconst n => exact lv_lconst hx hb hdg rfl (kk _ h)
  | dconst n =>
    match n, h, hdg, kk with
    | 0, h, hdg, kk => exact lv_dconst0 hx hb hdg (kk _ h)
    | 1, h, hdg, kk => exact lv_dconst1 hx hb hdg (kk _ h)
  | fconst n =>
    match n, h, hdg, kk with
    | 0, h, hdg, kk => exact lv_fconst0 hx hb hdg (kk _ h)
    | 1, h, hdg, kk => exact lv_fconst1 hx hb hdg (kk _ h)
    | 2, h, hdg, kk => exact lv_fconst2 hx hb hdg (kk _ h)
  | iadd =>
    match st, h with
    | .int y :: .int x :: st, h => exact lv_iadd hx hb hdg (kk _ h)
  | isub =>
    match st, h with
    | .int y :: .int x :: st, h => exact lv_isub hx hb hdg (kk _ h)
  | imul =>
    match st, h with
    | .int y :: .int x :: st, h => exact lv_imul hx hb hdg (kk _ h)
  | iand =>
    match st, h with
    | .int y :: .int x :: st, h => exact lv_iand hx hb hdg (kk _ h)
  | ior =>
    match st, h with
    | .int y :: .int x :: st, h => exact lv_ior hx hb hdg (kk _ h)
  | ixor =>
    match st, h with
    | .int y :: .int x :: st, h => exact lv_ixor hx hb hdg (kk _ h)
  | idiv =>
    match st, h with
    | .int y :: .int x :: st, h =>
      have h : (if y = 0 then none else k (.int (x / y) :: st)) = some _ := h
      by_cases hy : y = 0
      · rw [if_pos hy] at h; cases h
      · rw [if_neg hy] at h
        exact lv_idiv hx hb hdg hy (kk _ h)
  | irem =>
    match st, h with
    | .int y :: .int x :: st, h =>
      have h : (if y = 0 then none else k (.int (x - x / y * y) :: st)) = some _ := h
      by_cases hy : y = 0
      · rw [if_pos hy] at h; cases h
      · rw [if_neg hy] at h
        exact lv_irem hx hb hdg hy (kk _ h)
  | ineg =>
    match st, h with
    | .int x :: st, h => exact lv_ineg hx hb hdg (kk _ h)
  | ishl =>
    match st, h with
    | .int y :: .int x :: st, h => exact lv_ishl hx hb hdg (kk _ h)
  | ishr =>
    match st, h with
    | .int y :: .int x :: st, h => exact lv_ishr hx hb hdg (kk _ h)
  | iushr =>
    match st, h with
    | .int y :: .int x :: st, h => exact lv_iushr hx hb hdg rfl (kk _ h)
  | i2l =>
    match st, h with
    | .int x :: st, h => exact lv_i2l hx hb hdg rfl (kk _ h)
  | i2b =>
    match st, h with
    | .int x :: st, h => exact lv_i2b hx hb hdg rfl (kk _ h)
  | i2d =>
    match st, h with
    | .int x :: st, h => exact lv_i2d hx hb hdg (kk _ h)
  | i2f =>
    match st, h with
    | .int x :: st, h => exact lv_i2f hx hb hdg (kk _ h)
  | l2i =>
    match st, h with
    | .long x :: st, h => exact lv_l2i hx hb hdg rfl (kk _ h)
  | l2d =>
    match st, h with
    | .long x :: st, h => exact lv_l2d hx hb hdg (kk _ h)
  | l2f =>
    match st, h with
    | .long x :: st, h => exact lv_l2f hx hb hdg (kk _ h)
  | d2l =>
    match st, h with
    | .double x :: st, h => exact lv_d2l hx hb hdg (kk _ h)
  | f2i =>
    match st, h with
    | .float x :: st, h => exact lv_f2i hx hb hdg (kk _ h)
  | ladd =>
    match st, h with
    | .long y :: .long x :: st, h => exact lv_ladd hx hb hdg (kk _ h)
  | lsub =>
    match st, h with
    | .long y :: .long x :: st, h => exact lv_lsub hx hb hdg (kk _ h)
  | lmul =>
    match st, h with
    | .long y :: .long x :: st, h => exact lv_lmul hx hb hdg (kk _ h)
  | lor =>
    match st, h with
    | .long y :: .long x :: st, h => exact lv_lor hx hb hdg (kk _ h)
  | ldiv =>
    match st, h with
    | .long y :: .long x :: st, h =>
      have h : (if y = 0 then none else k (.long (x / y) :: st)) = some _ := h
      by_cases hy : y = 0
      · rw [if_pos hy] at h; cases h
      · rw [if_neg hy] at h
        exact lv_ldiv hx hb hdg hy (kk _ h)
  | lrem =>
    match st, h with
    | .long y :: .long x :: st, h =>
      have h : (if y = 0 then none else k (.long (x - x / y * y) :: st)) = some _ := h
      by_cases hy : y = 0
      · rw [if_pos hy] at h; cases h
      · rw [if_neg hy] at h
        exact lv_lrem hx hb hdg hy (kk _ h)
  | lneg =>
    match st, h with
    | .long x :: st, h => exact lv_lneg hx hb hdg (kk _ h)
  | lshl =>
    match st, h with
    | .int y :: .long x :: st, h => exact lv_lshl hx hb hdg rfl (kk _ h)
  | lcmp =>
    match st, h with
    | .long y :: .long x :: st, h => exact W.lcmp hx hb hdg (kk _ h)
  | dcmp op =>
    match st, h with
    | .double y :: .double x :: st, h => exact lv_dcmp hx hb hdg (kk _ h)
  | fcmp op =>
    match st, h with
    | .float y :: .float x :: st, h => exact lv_fcmp hx hb hdg (kk _ h)
  | dadd =>
    match st, h with
    | .double y :: .double x :: st, h =>
      have h : (if FP.dadd x y &&& 0x7fffffffffffffff ≤ 0x7ff0000000000000 then k (.double (FP.dadd x y) :: st) else none) = some _ := h
      by_cases hy : FP.dadd x y &&& 0x7fffffffffffffff ≤ 0x7ff0000000000000
      · rw [if_pos hy] at h
        exact lv_dadd hx hb hdg hy (kk _ h)
      · rw [if_neg hy] at h; cases h
  | dsub =>
    match st, h with
    | .double y :: .double x :: st, h =>
      have h : (if FP.dsub x y &&& 0x7fffffffffffffff ≤ 0x7ff0000000000000 then k (.double (FP.dsub x y) :: st) else none) = some _ := h
      by_cases hy : FP.dsub x y &&& 0x7fffffffffffffff ≤ 0x7ff0000000000000
      · rw [if_pos hy] at h
        exact lv_dsub hx hb hdg hy (kk _ h)
      · rw [if_neg hy] at h; cases h
  | dmul =>
    match st, h with
    | .double y :: .double x :: st, h =>
      have h : (if FP.dmul x y &&& 0x7fffffffffffffff ≤ 0x7ff0000000000000 then k (.double (FP.dmul x y) :: st) else none) = some _ := h
      by_cases hy : FP.dmul x y &&& 0x7fffffffffffffff ≤ 0x7ff0000000000000
      · rw [if_pos hy] at h
        exact lv_dmul hx hb hdg hy (kk _ h)
      · rw [if_neg hy] at h; cases h
  | ddiv =>
    match st, h with
    | .double y :: .double x :: st, h =>
      have h : (if FP.ddiv x y &&& 0x7fffffffffffffff ≤ 0x7ff0000000000000 then k (.double (FP.ddiv x y) :: st) else none) = some _ := h
      by_cases hy : FP.ddiv x y &&& 0x7fffffffffffffff ≤ 0x7ff0000000000000
      · rw [if_pos hy] at h
        exact lv_ddiv hx hb hdg hy (kk _ h)
      · rw [if_neg hy] at h; cases h
  | fsub =>
    match st, h with
    | .float y :: .float x :: st, h =>
      have h : (if FP.fsub x y &&& 0x7fffffff ≤ 0x7f800000 then k (.float (FP.fsub x y) :: st) else none) = some _ := h
      by_cases hy : FP.fsub x y &&& 0x7fffffff ≤ 0x7f800000
      · rw [if_pos hy] at h
        exact lv_fsub hx hb hdg hy (kk _ h)
      · rw [if_neg hy] at h; cases h
  | fmul =>
    match st, h with
    | .float y :: .float x :: st, h =>
      have h : (if FP.fmul x y &&& 0x7fffffff ≤ 0x7f800000 then k (.float (FP.fmul x y) :: st) else none) = some _ := h
      by_cases hy : FP.fmul x y &&& 0x7fffffff ≤ 0x7f800000
      · rw [if_pos hy] at h
        exact lv_fmul hx hb hdg hy (kk _ h)
      · rw [if_neg hy] at h; cases h
  | fdiv =>
    match st, h with
    | .float y :: .float x :: st, h =>
      have h : (if FP.fdiv x y &&& 0x7fffffff ≤ 0x7f800000 then k (.float (FP.fdiv x y) :: st) else none) = some _ := h
      by_cases hy : FP.fdiv x y &&& 0x7fffffff ≤ 0x7f800000
      · rw [if_pos hy] at h
        exact lv_fdiv hx hb hdg hy (kk _ h)
      · rw [if_neg hy] at h; cases h
  | dup =>
    match st, h with
    | .int x :: st, h => exact lv_dup hx hb hdg rfl (kk _ h)
    | .ref x :: st, h => exact lv_dup hx hb hdg rfl (kk _ h)
  | dup2 =>
    match st, h with
    | .int x :: .ref y :: st, h => exact lv_dup2_11 hx hb hdg rfl rfl (kk _ h)
  | pop =>
    match st, h with
    | .int x :: st, h => exact lv_pop hx hb hdg rfl (kk _ h)
  | _ => exact absurd h (fun z => by cases z)
end EGO
end
section
section EST
variable {p : Program} {l : Launch} {e : Env} {R : Room} {s : State} {m : MethodId} {args : Array Value} {below : List Frame} {meth : Method} {c : Code} {cc : ByteArray} {own : String} {nL : Nat} {ad : Nat → Nat} {D : va_G} {cA : Nat → ClassId} {cl : List vw_C} {SH : List eSh} {SS : List eS} {Ts : List Cond} {ret : Option FieldType}
def eWorld (ad : Nat → Nat) (D : va_G) (cA : Nat → ClassId) (cl : List vw_C) (SH : List eSh) (SS : List eS) (w : eW) (U : State) : Prop := va_P D cl (eWs ad cA w 0 SH) U.heap ∧ va_K D cl (eTys cA) U ∧ eInj ad SH.length ∧ eStat ad SH.length SS U
def ePost (ad : Nat → Nat) (D : va_G) (cA : Nat → ClassId) (cl : List vw_C) (SH : List eSh) (v : Option Value) (w' : eW) : Array Value → State → Outcome → State → Prop := fun _ st oc t => oc = .returned (v.map (eC ad)) ∧ va_P D cl (eWs ad cA w' 0 SH) t.heap ∧ va_F (eA ad SH.length) st t
def eMet (l : Launch) (ad : Nat → Nat) (D : va_G) (cA : Nat → ClassId) (cl : List vw_C) (SH : List eSh) (SS : List eS) (y : MethodName) (ws : List Cond) (rm : Room) (as : List Value) (w : eW) (v : Option Value) (w' : eW) : Prop := Met l y ws rm (va_Pc (as.map (eC ad)) (eWorld ad D cA cl SH SS w)) (ePost ad D cA cl SH v w') 0 0 (eA ad SH.length)
/-- a call's words and room, its callee's contract -/
def eCal (l : Launch) (R : Room) (ad : Nat → Nat) (D : va_G) (cA : Nat → ClassId) (cl : List vw_C) (SH : List eSh) (SS : List eS) (Ts : List Cond) (own : String) (ix n : Nat) (z : Int) (as : List Value) (w : eW) (v : Option Value) (w' : eW) : Prop :=
  ∃ (y : MethodName) (bytes : ByteArray) (maxL : Nat) (ret : Option FieldType) (ws ws' : List Cond) (rm : Room), eMet l ad D cA cl SH SS y ws rm as w v w' ∧ ws = Cond.code y bytes maxL ret :: ws' ∧ rm.cells = 0 ∧ rm.slots = 0 ∧ (rm.frames + 1 ≤ R.frames ∧ 8 + (maxL + 11) + rm.locals ≤ R.locals) ∧ (y.cls ≠ "java/lang/invoke/MethodHandle" ∧ y.cls ≠ "java/lang/invoke/VarHandle" ∧ (parseMethodDescriptor y.desc).map (fun d => d.parameters.length) = some n) ∧ (match z with
    | .negSucc _ => GoodIn Ts (va_wsS own ix y ws)
    | .ofNat ci => GoodIn Ts (wsV own ix y.cls y ws) ∧ ∃ (T : u_T) (N : Nat), cl[ci]? = some (y.cls, T, N))
theorem eStat.moved {n : Nat} {u U : State} (h : eStat ad n SS u) (hvm : u.vm.Alike U.vm) (hq : ∀ a : Nat, a < u.heap.size → ¬ eA ad n a → U.heap[a]? = u.heap[a]?) : eStat ad n SS U := fun k q hk => ⟨((h k q hk).1.moved hvm).kept hq, ((h k q hk).2.moved hvm).kept hq⟩
theorem eWorld.blind {as : List Value} {w : eW} : FrameBlind (va_Pc (as.map (eC ad)) (eWorld ad D cA cl SH SS w)) := by
  intro a U g mk h
  obtain ⟨h1, h2, h3, h4, h5⟩ := h
  exact ⟨h1, h2, va_K.moved (u := U) (U := U.calling g mk a) (Vm.Alike.refl U.vm) h3, h4, eStat.moved (u := U) (U := U.calling g mk a) h5 (Vm.Alike.refl U.vm) (fun _ _ _ => rfl)⟩
theorem eWorld.pre {as : List Value} {w : eW} {H : Heap} {locs : List Loc} (hK : va_K D cl (eTys cA) s) (hi : eInj ad SH.length) (hst : eStat ad SH.length SS s) (hP : va_P D cl (eWs ad cA w 0 SH) H) (hS : va_S (eA ad SH.length) s.heap H locs) : ∀ U : State, U.heap = H → s.WarmedH U.vm → va_Pc (as.map (eC ad)) (eWorld ad D cA cl SH SS w) (as.map (eC ad)).toArray U := fun U hU hW => ⟨rfl, by rw [hU]; exact hP, va_K.moved hW.alike hK, hi, eStat.moved hst hW.alike (fun a h1 h2 => by rw [hU]; exact hS.2.1 a h1 h2)⟩
theorem eCall_W {Q : State → Prop} {H : Heap} {locs : List Loc} {pc : Nat} {ls : Array Slot} {st0 rest : List Value} {a : Array Value} {v : Option Value} {w' : eW} (hr : va_Run p l e R s m args below meth c H locs 0 0 0 0 (F0 m pc ls st0) rest (ePost ad D cA cl SH v w' a) (eA ad SH.length)) (hS : va_S (eA ad SH.length) s.heap H locs)
    (kk : ∀ (H1 : Heap) (locs1 : List Loc), va_P D cl (eWs ad cA w' 0 SH) H1 → va_S (eA ad SH.length) s.heap H1 locs1 → W p l e R s m args below meth c H1 locs1 0 0 Q (F0 m (pc + 3) ls ((v.map (eC ad)).toList ++ rest))) : W p l e R s m args below meth c H locs 0 0 Q (F0 m pc ls st0) := by
  intro T hT X
  obtain ⟨v1, st₀, t, T', L, h0, X', hL, e1, e2, ⟨hv, hp, hz, hk⟩, st⟩ := hr T hT X
  cases hv
  rw [h0] at hz hk
  obtain ⟨t2, a1, b1⟩ := kk T'.heap (locs ++ L) (by rw [e1]; exact hp)
    ⟨Nat.le_trans hS.1 (by rw [e1]; exact hz), fun q h1 h2 => by rw [e1, hk q (Nat.lt_of_lt_of_le h1 hS.1) h2]; exact hS.2.1 q h1 h2, fun q hq => by
      rcases List.mem_append.mp hq with h | h
      · exact hS.2.2 q h
      · exact hL q h⟩ T' rfl X'
  exact ⟨t2, st t2 a1, b1⟩
theorem eFv_C (w : eW) (o k : Nat) (f : Nat × Nat) : eC ad (eFv (fun a => a) w o k f) = eFv ad w o k f := by
  unfold eFv
  split <;> rfl
theorem eToList (v : Option Value) (st : List Value) : (v.toList ++ st).map (eC ad) = (v.map (eC ad)).toList ++ st.map (eC ad) := by cases v <;> simp
/-- what a method's answer is by its type -/
def eRet (ret : Option FieldType) (v : Option Value) : Prop := match v with
  | none => ret = none
  | some (.int r) => ret = some .int ∨ (ret = some .boolean ∧ (r = 0 ∨ r = 1))
  | some (.long _) => ret = some .long
  | some (.double _) => ret = some .double
  | some (.float _) => ret = some .float
  | some (.ref _) => ∃ t, ret = some (.array t)
  | _ => False
def eQ {ρ : Type} (ad : Nat → Nat) (D : va_G) (cA : Nat → ClassId) (cl : List vw_C) (SH : List eSh) (rt : Option Value → eW → Option ρ) (x : ρ) : Array Value → State → Outcome → State → Prop := fun a st oc t => ∃ (v : Option Value) (w' : eW), rt v w' = some x ∧ ePost ad D cA cl SH v w' a st oc t
theorem eBr_go {ρ : Type} {x : ρ} {k : Nat → Option ρ} {pc : Nat} {off : Int} {cnd : Prop} {d : Decidable cnd} (h : eBr k pc off cnd d = some x) : ∃ t : Nat, (pc : Int) + off = (t : Int) ∧ (cnd → k t = some x) ∧ (¬ cnd → k (pc + 3) = some x) := by
  unfold eBr at h
  split at h
  · rename_i t ht
    refine ⟨t, eTo_some ht, fun hc => ?_, fun hc => ?_⟩
    · rw [if_pos hc] at h; exact h
    · rw [if_neg hc] at h; exact h
  · cases h
theorem eSw_go {ρ : Type} {x : ρ} {k : Nat → Option ρ} {pc : Nat} {v : Int32} {dflt : Int} : ∀ (os : List Int) (lo : Int), -2147483648 ≤ lo → lo + os.length ≤ 2147483648 → eSw k pc v dflt lo os = some x → (∃ (j : Nat) (o : Int) (t : Nat), os[j]? = some o ∧ v.toInt = lo + j ∧ (pc : Int) + o = (t : Int) ∧ k t = some x) ∨ ((v.toInt < lo ∨ lo + os.length ≤ v.toInt) ∧ ∃ t : Nat, (pc : Int) + dflt = (t : Int) ∧ k t = some x)
  | [], lo, _, _, h => by
    refine Or.inr ⟨by simp; omega, ?_⟩
    unfold eSw at h
    split at h
    · rename_i t ht
      exact ⟨t, eTo_some ht, h⟩
    · cases h
  | o :: os, lo, h1, h2, h => by
    simp only [List.length_cons, Int.natCast_add, Int.cast_ofNat_Int] at h2
    unfold eSw at h
    by_cases hv : v = Int32.ofInt lo
    · rw [if_pos hv] at h
      split at h
      · rename_i t ht
        refine Or.inl ⟨0, o, t, rfl, ?_, eTo_some ht, h⟩
        rw [hv, Int32.toInt_ofInt_of_le (by omega) (by omega)]
        simp
      · cases h
    · rw [if_neg hv] at h
      have hne : v.toInt ≠ lo := fun z => hv (by rw [← z, Int32.ofInt_toInt])
      rcases eSw_go os (lo + 1) (by omega) (by omega) h with ⟨j, o2, t, a1, a2, a3, a4⟩ | ⟨a1, a2⟩
      · exact Or.inl ⟨j + 1, o2, t, by simpa using a1, by rw [a2]; simp; omega, a3, a4⟩
      · refine Or.inr ⟨?_, a2⟩
        simp only [List.length_cons, Int.natCast_add, Int.cast_ofNat_Int]
        omega
theorem eChk_go {ρ : Type} {x : ρ} {i : Int32} {n : Nat} {v : Option ρ} (h : eChk i n v = some x) : vp_in i n ∧ v = some x := by
  unfold eChk at h
  split at h
  · rename_i hi
    exact ⟨hi, h⟩
  · cases h
theorem eBif {ρ : Type} {x : ρ} {b : Bool} {v : Option ρ} (h : (bif b then v else none) = some x) : b = true ∧ v = some x := by
  cases b with
  | true => exact ⟨rfl, h⟩
  | false => cases h
theorem eTys_1 : (eTys cA)[0]? = some (cA 0, .int) := rfl
end EST
end
section
section EWK
variable {p : Program} {l : Launch} {e : Env} {R : Room} {s : State} {m : MethodId} {args : Array Value} {below : List Frame} {meth : Method} {c : Code} {cc : ByteArray} {own : String} {nL : Nat} {ad : Nat → Nat} {D : va_G} {cA : Nat → ClassId} {cl : List vw_C} {SH : List eSh} {SS : List eS} {Ts : List Cond} {ret : Option FieldType}
variable {ρ : Type} {rs : List (Nat × eR)} {calls : Nat → eF ρ} {rt : Option Value → eW → Option ρ} {x : ρ}
theorem e_upd (w : eW) (o j : Nat) (v : Int32) : (eU1 w o j v).1 o = upd (w.1 o) j v := by
  funext b
  rw [eU1_at, if_pos rfl]
  rfl
theorem e_updL (w : eW) (o j : Nat) (v : Int64) : (eU2 w o j v).2 o = vp_updL (w.2 o) j v := by
  funext b
  rw [eU2_at, if_pos rfl]
  rfl
theorem eFs_len (ad : Nat → Nat) (w : eW) (id : Nat) : ∀ (r : List (Nat × Nat)) (i : Nat), (eFs ad w id i r).length = r.length
  | [], _ => rfl
  | a :: r, i => by simp [eFs, eFs_len ad w id r (i + 1)]
abbrev eGq (p : Program) (l : Launch) (e : Env) (R : Room) (s : State) (m : MethodId) (args : Array Value) (below : List Frame) (meth : Method) (c : Code) (nL : Nat) (ad : Nat → Nat) (D : va_G) (cA : Nat → ClassId) (cl : List vw_C) (SH : List eSh) (rt : Option Value → eW → Option ρ) (x : ρ) : Nat → eL → List Value → eW → Prop := eGo p l e R s m args below meth c nL ad D cA cl SH (eQ ad D cA cl SH rt x)
theorem eRets (hcx : eCx p R s m args meth c cc own nL ad D cA cl SH SS Ts ret) (hrt : ∀ v w, rt v w = some x → eRet ret v) {v : Option Value} {w : eW} (h : rt v w = some x) {H : Heap} {locs : List Loc} (hP : va_P D cl (eWs ad cA w 0 SH) H) (hS : va_S (eA ad SH.length) s.heap H locs) : ∀ t : State, t.heap = H → s.WarmedH t.vm → eQ ad D cA cl SH rt x args s (.returned (v.map (eC ad))) t := fun t ht _ => ⟨v, w, h, rfl, by rw [ht]; exact hP, hS.F ht⟩
def eLenOK (i : Instr) (len : Nat) : Prop := match i with
  | .tableswitch _ lo hi offs => -2147483648 ≤ lo ∧ hi = lo + (offs.size : Int) - 1 ∧ lo + (offs.size : Int) ≤ 2147483648
  | i => len = eILen i
set_option maxHeartbeats 8000000 in
theorem eStep_go (hcx : eCx p R s m args meth c cc own nL ad D cA cl SH SS Ts ret) (hlk : ∀ ix r, eLook rs ix = some r → eLnk R cl Ts SS SH.length own ix r)
    (hcal : ∀ (ix a n : Nat) (z : Int), eLook rs ix = some (1, a, n, z) → ∀ (as : List Value) (w : eW) (k : Option Value → eW → Option ρ), calls a as w k = some x → ∃ (v : Option Value) (w' : eW), k v w' = some x ∧ eCal l R ad D cA cl SH SS Ts own ix n z as w v w')
    (hrt : ∀ v w, rt v w = some x → eRet ret v) (k : eK ρ) (hk : ∀ pc L st w, k pc L st w = some x → eGq p l e R s m args below meth c nL ad D cA cl SH rt x pc L st w)
    (i : Instr) (pc len : Nat) (L : eL) (st : List Value) (w : eW) (h : eStep SH SS nL rs calls rt k i pc L st w = some x) (hdg : decode cc pc = .ok (i, len)) (hlen : eLenOK i len) : eGq p l e R s m args below meth c nL ad D cA cl SH rt x pc L st w := by
  obtain ⟨hx, hb, hr, hlocks, hown, hml, hts, hK, hinj, hstat⟩ := id hcx
  cases i with
  | tableswitch d lo hi offs =>
    have hlo : -2147483648 ≤ lo ∧ hi = lo + (offs.size : Int) - 1 ∧ lo + (offs.size : Int) ≤ 2147483648 := hlen
    match st, h with
    | .int v :: st, h =>
      intro H locs ls hP hS hL
      have h : eSw (fun t => k t L st w) pc v d lo offs.toList = some x := h
      rcases eSw_go offs.toList lo hlo.1 (by simpa using hlo.2.2) h with ⟨j, o, t, a1, a2, a3, a4⟩ | ⟨a1, t, a3, a4⟩
      · have hj : j < offs.toList.length := (List.getElem?_eq_some_iff.mp a1).1
        simp only [Array.length_toList] at hj
        exact lv_tableIn hx hb hdg (by omega) (by omega) (by rw [show (v.toInt - lo).toNat = j by omega, ← Array.getElem?_toList]; exact a1) a3 (hk _ _ _ _ a4 H locs ls hP hS hL)
      · simp only [Array.length_toList] at a1
        exact lv_tableOut hx hb hdg (by omega) a3 (hk _ _ _ _ a4 H locs ls hP hS hL)
  | iload n =>
    have hdg := eDec1 hdg hlen
    have h : (match eLd L n with
      | some (.int v) => k (pc + 2) L (.int v :: st) w
      | _ => none) = some x := h
    split at h
    · rename_i v hv
      exact fun H locs ls hP hS hL => lv_iload hx hb hdg (hL.2.2 _ _ (eLd_some.mp hv)) (hk _ _ _ _ h H locs ls hP hS hL)
    · cases h
  | iload_n n =>
    have hdg := eDec1 hdg hlen
    have h : (match eLd L n with
      | some (.int v) => k (pc + 1) L (.int v :: st) w
      | _ => none) = some x := h
    split at h
    · rename_i v hv
      exact fun H locs ls hP hS hL => lv_iload_n hx hb hdg rfl (hL.2.2 _ _ (eLd_some.mp hv)) (hk _ _ _ _ h H locs ls hP hS hL)
    · cases h
  | lload n =>
    have hdg := eDec1 hdg hlen
    have h : (match eLd L n with
      | some (.long v) => k (pc + 2) L (.long v :: st) w
      | _ => none) = some x := h
    split at h
    · rename_i v hv
      exact fun H locs ls hP hS hL => lv_lload hx hb hdg (hL.2.2 _ _ (eLd_some.mp hv)) (hk _ _ _ _ h H locs ls hP hS hL)
    · cases h
  | lload_n n =>
    have hdg := eDec1 hdg hlen
    have h : (match eLd L n with
      | some (.long v) => k (pc + 1) L (.long v :: st) w
      | _ => none) = some x := h
    split at h
    · rename_i v hv
      exact fun H locs ls hP hS hL => lv_lload_n hx hb hdg rfl (hL.2.2 _ _ (eLd_some.mp hv)) (hk _ _ _ _ h H locs ls hP hS hL)
    · cases h
  | dload n =>
    have hdg := eDec1 hdg hlen
    have h : (match eLd L n with
      | some (.double v) => k (pc + 2) L (.double v :: st) w
      | _ => none) = some x := h
    split at h
    · rename_i v hv
      exact fun H locs ls hP hS hL => lv_dload hx hb hdg (hL.2.2 _ _ (eLd_some.mp hv)) (hk _ _ _ _ h H locs ls hP hS hL)
    · cases h
  | dload_n n =>
    have hdg := eDec1 hdg hlen
    have h : (match eLd L n with
      | some (.double v) => k (pc + 1) L (.double v :: st) w
      | _ => none) = some x := h
    split at h
    · rename_i v hv
      exact fun H locs ls hP hS hL => lv_dload_n hx hb hdg rfl (hL.2.2 _ _ (eLd_some.mp hv)) (hk _ _ _ _ h H locs ls hP hS hL)
    · cases h
  | fload n =>
    have hdg := eDec1 hdg hlen
    have h : (match eLd L n with
      | some (.float v) => k (pc + 2) L (.float v :: st) w
      | _ => none) = some x := h
    split at h
    · rename_i v hv
      exact fun H locs ls hP hS hL => lv_fload hx hb hdg (hL.2.2 _ _ (eLd_some.mp hv)) (hk _ _ _ _ h H locs ls hP hS hL)
    · cases h
  | fload_n n =>
    have hdg := eDec1 hdg hlen
    have h : (match eLd L n with
      | some (.float v) => k (pc + 1) L (.float v :: st) w
      | _ => none) = some x := h
    split at h
    · rename_i v hv
      exact fun H locs ls hP hS hL => lv_fload_n hx hb hdg rfl (hL.2.2 _ _ (eLd_some.mp hv)) (hk _ _ _ _ h H locs ls hP hS hL)
    · cases h
  | aload n =>
    have hdg := eDec1 hdg hlen
    have h : (match eLd L n with
      | some (.ref v) => k (pc + 2) L (.ref v :: st) w
      | _ => none) = some x := h
    split at h
    · rename_i v hv
      exact fun H locs ls hP hS hL => lv_aload hx hb hdg (hL.2.2 _ _ (eLd_some.mp hv)) (hk _ _ _ _ h H locs ls hP hS hL)
    · cases h
  | aload_n n =>
    have hdg := eDec1 hdg hlen
    have h : (match eLd L n with
      | some (.ref v) => k (pc + 1) L (.ref v :: st) w
      | _ => none) = some x := h
    split at h
    · rename_i v hv
      exact fun H locs ls hP hS hL => lv_aload_n hx hb hdg rfl (hL.2.2 _ _ (eLd_some.mp hv)) (hk _ _ _ _ h H locs ls hP hS hL)
    · cases h
  | istore n =>
    have hdg := eDec1 hdg hlen
    match st, h with
    | .int v :: st, h =>
      have h : (bif Nat.blt n nL then k (pc + 2) (eSt1 L n (.int v)) st w else none) = some x := h
      obtain ⟨hn, h⟩ := eBif h
      exact fun H locs ls hP hS hL => lv_istore hx hb hdg hL.has (Nat.le_of_ble_eq_true hn) rfl (fun ls' hl' => hk _ _ _ _ h H locs ls' hP hS (eAL.st1 (v := .int v) hl'))
  | istore_n n =>
    have hdg := eDec1 hdg hlen
    match st, h with
    | .int v :: st, h =>
      have h : (bif Nat.blt n.val nL then k (pc + 1) (eSt1 L n (.int v)) st w else none) = some x := h
      obtain ⟨hn, h⟩ := eBif h
      exact fun H locs ls hP hS hL => lv_istore_n hx hb hdg rfl hL.has (Nat.le_of_ble_eq_true hn) rfl (fun ls' hl' => hk _ _ _ _ h H locs ls' hP hS (eAL.st1 (v := .int v) hl'))
  | lstore n =>
    have hdg := eDec1 hdg hlen
    match st, h with
    | .long v :: st, h =>
      have h : (bif Nat.blt (n + 1) nL then k (pc + 2) (eSt2 L n (.long v)) st w else none) = some x := h
      obtain ⟨hn, h⟩ := eBif h
      exact fun H locs ls hP hS hL => lv_lstore hx hb hdg hL.has (Nat.le_of_ble_eq_true hn) rfl (fun ls' hl' => hk _ _ _ _ h H locs ls' hP hS (eAL.st2 (v := .long v) hl'))
  | lstore_n n =>
    have hdg := eDec1 hdg hlen
    match st, h with
    | .long v :: st, h =>
      have h : (bif Nat.blt (n.val + 1) nL then k (pc + 1) (eSt2 L n (.long v)) st w else none) = some x := h
      obtain ⟨hn, h⟩ := eBif h
      exact fun H locs ls hP hS hL => lv_lstore_n hx hb hdg rfl hL.has (Nat.le_of_ble_eq_true hn) rfl (fun ls' hl' => hk _ _ _ _ h H locs ls' hP hS (eAL.st2 (v := .long v) hl'))
  | dstore n =>
    have hdg := eDec1 hdg hlen
    match st, h with
    | .double v :: st, h =>
      have h : (bif Nat.blt (n + 1) nL then k (pc + 2) (eSt2 L n (.double v)) st w else none) = some x := h
      obtain ⟨hn, h⟩ := eBif h
      exact fun H locs ls hP hS hL => lv_dstore hx hb hdg hL.has (Nat.le_of_ble_eq_true hn) rfl (fun ls' hl' => hk _ _ _ _ h H locs ls' hP hS (eAL.st2 (v := .double v) hl'))
  | dstore_n n =>
    have hdg := eDec1 hdg hlen
    match st, h with
    | .double v :: st, h =>
      have h : (bif Nat.blt (n.val + 1) nL then k (pc + 1) (eSt2 L n (.double v)) st w else none) = some x := h
      obtain ⟨hn, h⟩ := eBif h
      exact fun H locs ls hP hS hL => lv_dstore_n hx hb hdg rfl hL.has (Nat.le_of_ble_eq_true hn) rfl (fun ls' hl' => hk _ _ _ _ h H locs ls' hP hS (eAL.st2 (v := .double v) hl'))
  | fstore n =>
    have hdg := eDec1 hdg hlen
    match st, h with
    | .float v :: st, h =>
      have h : (bif Nat.blt n nL then k (pc + 2) (eSt1 L n (.float v)) st w else none) = some x := h
      obtain ⟨hn, h⟩ := eBif h
      exact fun H locs ls hP hS hL => lv_fstore hx hb hdg hL.has (Nat.le_of_ble_eq_true hn) rfl (fun ls' hl' => hk _ _ _ _ h H locs ls' hP hS (eAL.st1 (v := .float v) hl'))
  | fstore_n n =>
    have hdg := eDec1 hdg hlen
    match st, h with
    | .float v :: st, h =>
      have h : (bif Nat.blt n.val nL then k (pc + 1) (eSt1 L n (.float v)) st w else none) = some x := h
      obtain ⟨hn, h⟩ := eBif h
      exact fun H locs ls hP hS hL => lv_fstore_n hx hb hdg rfl hL.has (Nat.le_of_ble_eq_true hn) rfl (fun ls' hl' => hk _ _ _ _ h H locs ls' hP hS (eAL.st1 (v := .float v) hl'))
  | astore n =>
    have hdg := eDec1 hdg hlen
    match st, h with
    | .ref v :: st, h =>
      have h : (bif Nat.blt n nL then k (pc + 2) (eSt1 L n (.ref v)) st w else none) = some x := h
      obtain ⟨hn, h⟩ := eBif h
      exact fun H locs ls hP hS hL => lv_astore hx hb hdg hL.has (Nat.le_of_ble_eq_true hn) rfl (fun ls' hl' => hk _ _ _ _ h H locs ls' hP hS (eAL.st1 (v := .ref v) hl'))
  | astore_n n =>
    have hdg := eDec1 hdg hlen
    match st, h with
    | .ref v :: st, h =>
      have h : (bif Nat.blt n.val nL then k (pc + 1) (eSt1 L n (.ref v)) st w else none) = some x := h
      obtain ⟨hn, h⟩ := eBif h
      exact fun H locs ls hP hS hL => lv_astore_n hx hb hdg rfl hL.has (Nat.le_of_ble_eq_true hn) rfl (fun ls' hl' => hk _ _ _ _ h H locs ls' hP hS (eAL.st1 (v := .ref v) hl'))
  | iinc n z =>
    have hdg := eDec1 hdg hlen
    have h : (match eLd L n with
      | some (.int v) => bif Nat.blt n nL then k (pc + 3) (eSt1 L n (.int (v + Int32.ofInt z))) st w else none
      | _ => none) = some x := h
    split at h
    · rename_i v hv
      obtain ⟨hn, h⟩ := eBif h
      intro H locs ls hP hS hL
      have hmem : (n, Value.int v) ∈ eLv ad L := eLv_mem.mpr ⟨.int v, eLd_some.mp hv, rfl⟩
      obtain ⟨q, hq⟩ := List.getElem?_of_mem hmem
      exact lv_iinc hx hb hdg hL.has hq rfl (Nat.le_of_ble_eq_true hn) rfl (fun ls' hl' => hk _ _ _ _ h H locs ls' hP hS (eAL.st1 (v := .int (v + Int32.ofInt z)) hl'))
    · cases h
  | goto off =>
    have hdg := eDec1 hdg hlen
    have h : (match eTo pc off with
      | some t => k t L st w
      | none => none) = some x := h
    split at h
    · rename_i t ht
      exact fun H locs ls hP hS hL => lv_goto hx hb hdg (eTo_some ht) (hk _ _ _ _ h H locs ls hP hS hL)
    · cases h
  | ifCond cd off =>
    have hdg := eDec1 hdg hlen
    match st, h with
    | .int v :: st, h =>
      cases cd with
      | eq =>
        obtain ⟨t, h1, h2, h3⟩ := eBr_go (k := fun t => k t L st w) h
        exact fun H locs ls hP hS hL => lv_if_eq hx hb hdg h1 (fun z => hk _ _ _ _ (h2 z) H locs ls hP hS hL) (fun z => hk _ _ _ _ (h3 z) H locs ls hP hS hL)
      | ne =>
        obtain ⟨t, h1, h2, h3⟩ := eBr_go (k := fun t => k t L st w) h
        exact fun H locs ls hP hS hL => lv_if_ne hx hb hdg h1 (fun z => hk _ _ _ _ (h2 z) H locs ls hP hS hL) (fun z => hk _ _ _ _ (h3 (fun q => q z)) H locs ls hP hS hL)
      | lt =>
        obtain ⟨t, h1, h2, h3⟩ := eBr_go (k := fun t => k t L st w) h
        exact fun H locs ls hP hS hL => lv_if_lt hx hb hdg h1 (fun z => hk _ _ _ _ (h2 z) H locs ls hP hS hL) (fun z => hk _ _ _ _ (h3 z) H locs ls hP hS hL)
      | ge =>
        obtain ⟨t, h1, h2, h3⟩ := eBr_go (k := fun t => k t L st w) h
        exact fun H locs ls hP hS hL => lv_if_ge hx hb hdg h1 (fun z => hk _ _ _ _ (h2 z) H locs ls hP hS hL) (fun z => hk _ _ _ _ (h3 z) H locs ls hP hS hL)
      | gt =>
        obtain ⟨t, h1, h2, h3⟩ := eBr_go (k := fun t => k t L st w) h
        exact fun H locs ls hP hS hL => lv_if_gt hx hb hdg h1 (fun z => hk _ _ _ _ (h2 z) H locs ls hP hS hL) (fun z => hk _ _ _ _ (h3 z) H locs ls hP hS hL)
      | le =>
        obtain ⟨t, h1, h2, h3⟩ := eBr_go (k := fun t => k t L st w) h
        exact fun H locs ls hP hS hL => lv_if_le hx hb hdg h1 (fun z => hk _ _ _ _ (h2 z) H locs ls hP hS hL) (fun z => hk _ _ _ _ (h3 z) H locs ls hP hS hL)
  | if_icmp cd off =>
    have hdg := eDec1 hdg hlen
    match st, h with
    | .int v2 :: .int v1 :: st, h =>
      cases cd with
      | eq =>
        obtain ⟨t, h1, h2, h3⟩ := eBr_go (k := fun t => k t L st w) h
        exact fun H locs ls hP hS hL => lv_icmp_eq hx hb hdg h1 (fun z => hk _ _ _ _ (h2 z) H locs ls hP hS hL) (fun z => hk _ _ _ _ (h3 z) H locs ls hP hS hL)
      | ne =>
        obtain ⟨t, h1, h2, h3⟩ := eBr_go (k := fun t => k t L st w) h
        exact fun H locs ls hP hS hL => lv_icmp_ne hx hb hdg h1 (fun z => hk _ _ _ _ (h2 z) H locs ls hP hS hL) (fun z => hk _ _ _ _ (h3 (fun q => q z)) H locs ls hP hS hL)
      | lt =>
        obtain ⟨t, h1, h2, h3⟩ := eBr_go (k := fun t => k t L st w) h
        exact fun H locs ls hP hS hL => lv_icmp_lt hx hb hdg h1 (fun z => hk _ _ _ _ (h2 z) H locs ls hP hS hL) (fun z => hk _ _ _ _ (h3 z) H locs ls hP hS hL)
      | ge =>
        obtain ⟨t, h1, h2, h3⟩ := eBr_go (k := fun t => k t L st w) h
        exact fun H locs ls hP hS hL => lv_icmp_ge hx hb hdg h1 (fun z => hk _ _ _ _ (h2 z) H locs ls hP hS hL) (fun z => hk _ _ _ _ (h3 z) H locs ls hP hS hL)
      | gt =>
        obtain ⟨t, h1, h2, h3⟩ := eBr_go (k := fun t => k t L st w) h
        exact fun H locs ls hP hS hL => lv_icmp_gt hx hb hdg h1 (fun z => hk _ _ _ _ (h2 z) H locs ls hP hS hL) (fun z => hk _ _ _ _ (h3 z) H locs ls hP hS hL)
      | le =>
        obtain ⟨t, h1, h2, h3⟩ := eBr_go (k := fun t => k t L st w) h
        exact fun H locs ls hP hS hL => lv_icmp_le hx hb hdg h1 (fun z => hk _ _ _ _ (h2 z) H locs ls hP hS hL) (fun z => hk _ _ _ _ (h3 z) H locs ls hP hS hL)
  | ldc ix =>
    have hdg := eDec1 hdg hlen
    have h : (match eLook rs ix with
      | some (2, _, _, z) => k (pc + 2) L (.int (Int32.ofInt z) :: st) w
      | some (5, z, _, _) => k (pc + 2) L (.float (UInt32.ofNat z) :: st) w
      | _ => none) = some x := h
    split at h
    · rename_i hq
      have hw := hlk _ _ hq
      exact fun H locs ls hP hS hL => lv_ldc hx hb hown (hts _ hw) hdg (hk _ _ _ _ h H locs ls hP hS hL)
    · rename_i hq
      have hw := hlk _ _ hq
      exact fun H locs ls hP hS hL => lv_ldcf hx hb hown (hts _ hw) hdg (hk _ _ _ _ h H locs ls hP hS hL)
    · cases h
  | ldc_w ix =>
    have hdg := eDec1 hdg hlen
    have h : (match eLook rs ix with
      | some (2, _, _, z) => k (pc + 3) L (.int (Int32.ofInt z) :: st) w
      | _ => none) = some x := h
    split at h
    · rename_i hq
      have hw := hlk _ _ hq
      exact fun H locs ls hP hS hL => lv_ldcw hx hb hown (hts _ hw) hdg (hk _ _ _ _ h H locs ls hP hS hL)
    · cases h
  | ldc2_w ix =>
    have hdg := eDec1 hdg hlen
    have h : (match eLook rs ix with
      | some (3, _, _, z) => k (pc + 3) L (.long (Int64.ofInt z) :: st) w
      | some (4, z, _, _) => k (pc + 3) L (.double (UInt64.ofNat z) :: st) w
      | _ => none) = some x := h
    split at h
    · rename_i hq
      have hw := hlk _ _ hq
      exact fun H locs ls hP hS hL => lv_ldc2 hx hb hown (hts _ hw) hdg (hk _ _ _ _ h H locs ls hP hS hL)
    · rename_i hq
      have hw := hlk _ _ hq
      exact fun H locs ls hP hS hL => lv_ldc2d hx hb hown (hts _ hw) hdg (hk _ _ _ _ h H locs ls hP hS hL)
    · cases h
  | getfield ix =>
    have hdg := eDec1 hdg hlen
    simp only [eStep] at h
    split at h
    · rename_i ci kf z o st hq
      split at h
      · rename_i ci' fs hsh
        obtain ⟨hc, h2⟩ := eBif h
        clear h
        have hc := Nat.eq_of_beq_eq_true hc
        subst hc
        split at h2
        · rename_i f hf
          obtain ⟨C, T, N, ty0, q1, q2, q3, q4, q5, q6, q7⟩ := hlk _ _ hq
          intro H locs ls hP hS hL
          refine va_get hx hb hts q4 hown hK hP o (eWs_at hsh) q1 kf q2 (hts _ q7) (fun _ z => z) (v := eFv ad w o kf f) (by rw [eFs_get, hf]; simp) hdg ?_
          have := hk _ _ _ _ h2 H locs ls hP hS hL
          simp only [List.map_cons, eFv_C] at this
          exact this
        · cases h2
      · cases h
    · cases h
  | putfield ix =>
    have hdg := eDec1 hdg hlen
    simp only [eStep] at h
    split at h
    · rename_i ci kf z v o st hq
      split at h
      · rename_i ci' fs hsh
        obtain ⟨hc, h2⟩ := eBif h
        clear h
        have hc := Nat.eq_of_beq_eq_true hc
        subst hc
        obtain ⟨C, T, N, ty0, q1, q2, q3, q4, q5, q6, q7⟩ := hlk _ _ hq
        have hD := eWs_D (cA := cA) (w := w) hinj
        split at h2
        · rename_i sn v hf
          rcases q3 with z | ⟨q8, q9⟩
          · exact absurd z (by decide)
          intro H locs ls hP hS hL
          refine va_put (ty := .int) hx hb hts q4 ty0 q5 q6 hown hK hP hD hS o (eWs_at hsh) q1 kf q2 (hts _ q7) (fun _ z => z) q8 q9 rfl rfl (by rw [eFs_len]; exact (List.getElem?_eq_some_iff.mp hf).1) hdg (fun H1 locs1 hP1 _ hS1 => ?_)
          simp only [eC] at hP1
          rw [eFs_set1 hf (by simp [eFv, eU1_at])] at hP1
          have e1 := eWs_set (ad := ad) (cA := cA) (w := w) (w' := eU1 w o kf v) hsh eU1_ne
          simp only [eCell] at e1
          rw [e1] at hP1
          exact hk _ _ _ _ h2 H1 locs1 ls hP1 hS1 hL
        · rename_i sn v hf
          rcases q3 with z | ⟨q8, q9⟩
          · exact absurd z (by decide)
          intro H locs ls hP hS hL
          refine va_put (ty := .long) hx hb hts q4 ty0 q5 q6 hown hK hP hD hS o (eWs_at hsh) q1 kf q2 (hts _ q7) (fun _ z => z) q8 q9 rfl rfl (by rw [eFs_len]; exact (List.getElem?_eq_some_iff.mp hf).1) hdg (fun H1 locs1 hP1 _ hS1 => ?_)
          simp only [eC] at hP1
          rw [eFs_set2 hf (by simp [eFv, eU2_at])] at hP1
          have e1 := eWs_set (ad := ad) (cA := cA) (w := w) (w' := eU2 w o kf v) hsh eU2_ne
          simp only [eCell] at e1
          rw [e1] at hP1
          exact hk _ _ _ _ h2 H1 locs1 ls hP1 hS1 hL
        · rename_i sn v hf
          split at h2
          · rename_i hv
            rcases q3 with z | ⟨q8, q9⟩
            · exact absurd z (by decide)
            intro H locs ls hP hS hL
            refine va_put (ty := .boolean) hx hb hts q4 ty0 q5 q6 hown hK hP hD hS o (eWs_at hsh) q1 kf q2 (hts _ q7) (fun _ z => z) q8 q9 (by rcases hv with rfl | rfl <;> rfl) (by rcases hv with rfl | rfl <;> rfl) (by rw [eFs_len]; exact (List.getElem?_eq_some_iff.mp hf).1) hdg (fun H1 locs1 hP1 _ hS1 => ?_)
            simp only [eC] at hP1
            rw [eFs_set1 hf (by simp [eFv, eU1_at])] at hP1
            have e1 := eWs_set (ad := ad) (cA := cA) (w := w) (w' := eU1 w o kf v) hsh eU1_ne
            simp only [eCell] at e1
            rw [e1] at hP1
            exact hk _ _ _ _ h2 H1 locs1 ls hP1 hS1 hL
          · cases h2
        · cases h2
      · cases h
    · cases h
  | getstatic ix =>
    have hdg := eDec1 hdg hlen
    have h : (match eLook rs ix with
      | some (7, id, _, _) => k (pc + 3) L (.ref id :: st) w
      | _ => none) = some x := h
    split at h
    · rename_i hq
      obtain ⟨kk, q, q1, q2, q3⟩ := hlk _ _ hq
      intro H locs ls hP hS hL
      refine va_gets hx hb (hstat kk q q2).1 hS hown (hts _ q3) (fun _ z => z) hdg ?_
      rw [← q1]
      exact hk _ _ _ _ h H locs ls hP hS hL
    · cases h
  | arraylength =>
    have hdg := eDec1 hdg hlen
    match st, h with
    | .ref o :: st, h =>
      simp only [eStep] at h
      split at h
      · rename_i kd n hsh
        intro H locs ls hP hS hL
        have he := eWs_at (ad := ad) (cA := cA) (w := w) hsh
        match kd, he with
        | 0, he => exact va_alen hx hb hK hP o 0 he rfl rfl hdg (hk _ _ _ _ h H locs ls hP hS hL)
        | 1, he => exact va_alen hx hb hK hP o 1 he rfl rfl hdg (hk _ _ _ _ h H locs ls hP hS hL)
        | 2, he => exact va_alen hx hb hK hP o 2 he rfl rfl hdg (hk _ _ _ _ h H locs ls hP hS hL)
        | _ + 3, he => exact va_alen hx hb hK hP o 3 he rfl rfl hdg (hk _ _ _ _ h H locs ls hP hS hL)
      · cases h
      · rename_i hsh
        split at h
        · rename_i q hq
          have ho : SH.length + (o - SH.length) = o := by
            have := List.getElem?_eq_none_iff.mp hsh
            omega
          have hT := (hstat _ q hq).2
          rw [ho] at hT
          exact fun H locs ls hP hS hL => va_tlen hx hb hT hS rfl hdg (hk _ _ _ _ h H locs ls hP hS hL)
        · cases h
  | iaload =>
    have hdg := eDec1 hdg hlen
    match st, h with
    | .int j :: .ref o :: st, h =>
      simp only [eStep] at h
      split at h
      · rename_i n hsh
        obtain ⟨hin, h⟩ := eChk_go h
        exact fun H locs ls hP hS hL => va_iald hx hb hK hP o 0 (eWs_at hsh) rfl hin hdg (hk _ _ _ _ h H locs ls hP hS hL)
      · cases h
      · rename_i hsh
        split at h
        · rename_i q hq
          have ho : SH.length + (o - SH.length) = o := by
            have := List.getElem?_eq_none_iff.mp hsh
            omega
          have hT := (hstat _ q hq).2
          rw [ho] at hT
          obtain ⟨hin, h⟩ := eChk_go h
          exact fun H locs ls hP hS hL => va_ti hx hb hT hS hin rfl hdg (hk _ _ _ _ h H locs ls hP hS hL)
        · cases h
  | laload =>
    have hdg := eDec1 hdg hlen
    match st, h with
    | .int j :: .ref o :: st, h =>
      simp only [eStep] at h
      split at h
      · rename_i n hsh
        obtain ⟨hin, h⟩ := eChk_go h
        exact fun H locs ls hP hS hL => va_lald hx hb hK hP o 1 (eWs_at hsh) rfl hin hdg (hk _ _ _ _ h H locs ls hP hS hL)
      · cases h
  | baload =>
    have hdg := eDec1 hdg hlen
    match st, h with
    | .int j :: .ref o :: st, h =>
      simp only [eStep] at h
      split at h
      · rename_i n hsh
        obtain ⟨hin, h⟩ := eChk_go h
        exact fun H locs ls hP hS hL => va_bald hx hb hK hP o 2 (eWs_at hsh) rfl hin hdg (hk _ _ _ _ h H locs ls hP hS hL)
      · rename_i n hsh
        obtain ⟨hin, h⟩ := eChk_go h
        exact fun H locs ls hP hS hL => va_zald hx hb hK hP o 3 (eWs_at hsh) rfl hin hdg (hk _ _ _ _ h H locs ls hP hS hL)
      · cases h
  | iastore =>
    have hdg := eDec1 hdg hlen
    match st, h with
    | .int v :: .int j :: .ref o :: st, h =>
      simp only [eStep] at h
      split at h
      · rename_i n hsh
        obtain ⟨hin, h⟩ := eChk_go h
        intro H locs ls hP hS hL
        refine va_iast hx hb hK hP (eWs_D hinj) hS o 0 (eWs_at hsh) rfl hin hdg (fun H1 locs1 hP1 _ hS1 => ?_)
        have e1 := eWs_set (ad := ad) (cA := cA) (w := w) (w' := eU1 w o j.toNatClampNeg v) hsh eU1_ne
        simp only [eCell, e_upd] at e1
        rw [e1] at hP1
        exact hk _ _ _ _ h H1 locs1 ls hP1 hS1 hL
      · cases h
  | lastore =>
    have hdg := eDec1 hdg hlen
    match st, h with
    | .long v :: .int j :: .ref o :: st, h =>
      simp only [eStep] at h
      split at h
      · rename_i n hsh
        obtain ⟨hin, h⟩ := eChk_go h
        intro H locs ls hP hS hL
        refine va_last hx hb hK hP (eWs_D hinj) hS o 1 (eWs_at hsh) rfl hin hdg (fun H1 locs1 hP1 _ hS1 => ?_)
        have e1 := eWs_set (ad := ad) (cA := cA) (w := w) (w' := eU2 w o j.toNatClampNeg v) hsh eU2_ne
        simp only [eCell, e_updL] at e1
        rw [e1] at hP1
        exact hk _ _ _ _ h H1 locs1 ls hP1 hS1 hL
      · cases h
  | bastore =>
    have hdg := eDec1 hdg hlen
    match st, h with
    | .int v :: .int j :: .ref o :: st, h =>
      simp only [eStep] at h
      split at h
      · rename_i n hsh
        obtain ⟨hin, h⟩ := eChk_go h
        intro H locs ls hP hS hL
        refine va_bast hx hb hK hP (eWs_D hinj) hS o 2 (eWs_at hsh) rfl hin hdg (fun H1 locs1 hP1 _ hS1 => ?_)
        have e1 := eWs_set (ad := ad) (cA := cA) (w := w) (w' := eU1 w o j.toNatClampNeg (vp_nar .byte v)) hsh eU1_ne
        simp only [eCell, e_upd] at e1
        rw [e1] at hP1
        exact hk _ _ _ _ h H1 locs1 ls hP1 hS1 hL
      · rename_i n hsh
        obtain ⟨hin, h⟩ := eChk_go h
        intro H locs ls hP hS hL
        refine va_zast hx hb hK hP (eWs_D hinj) hS o 3 (eWs_at hsh) rfl hin hdg (fun H1 locs1 hP1 _ hS1 => ?_)
        have e1 := eWs_set (ad := ad) (cA := cA) (w := w) (w' := eU1 w o j.toNatClampNeg (vp_nar .boolean v)) hsh eU1_ne
        simp only [eCell, e_upd] at e1
        rw [e1] at hP1
        exact hk _ _ _ _ h H1 locs1 ls hP1 hS1 hL
      · cases h
  | ireturn =>
    have hdg := eDec1 hdg hlen
    match st, h with
    | [.int v], h =>
      have h : rt (some (.int v)) w = some x := h
      intro H locs ls hP hS hL
      have hq := eRets hcx hrt h hP hS
      rcases hrt _ _ h with h1 | ⟨h1, h2⟩
      · exact W.iret hx hb (hr.trans h1) hq hS.2.2 hdg
      · exact W.zret hx hb (hr.trans h1) (by rcases h2 with rfl | rfl <;> rfl) hq hS.2.2 hdg
  | lreturn =>
    have hdg := eDec1 hdg hlen
    match st, h with
    | [.long v], h =>
      have h : rt (some (.long v)) w = some x := h
      intro H locs ls hP hS hL
      exact W.lret hx hb (hr.trans (hrt _ _ h)) (eRets hcx hrt h hP hS) hS.2.2 hdg
  | dreturn =>
    have hdg := eDec1 hdg hlen
    match st, h with
    | [.double v], h =>
      have h : rt (some (.double v)) w = some x := h
      intro H locs ls hP hS hL
      exact W.dret hx hb (hr.trans (hrt _ _ h)) (eRets hcx hrt h hP hS) hS.2.2 hdg
  | freturn =>
    have hdg := eDec1 hdg hlen
    match st, h with
    | [.float v], h =>
      have h : rt (some (.float v)) w = some x := h
      intro H locs ls hP hS hL
      exact W.fret hx hb (hr.trans (hrt _ _ h)) (eRets hcx hrt h hP hS) hS.2.2 hdg
  | areturn =>
    have hdg := eDec1 hdg hlen
    match st, h with
    | [.ref v], h =>
      have h : rt (some (.ref v)) w = some x := h
      intro H locs ls hP hS hL
      obtain ⟨t, ht⟩ := hrt _ _ h
      exact W.aret hx hb (hr.trans ht) (Or.inr ⟨t, rfl⟩) (Or.inr ⟨ad v, rfl⟩) (eRets hcx hrt h hP hS) hS.2.2 hdg
  | return_ =>
    have hdg := eDec1 hdg hlen
    match st, h with
    | [], h =>
      have h : rt none w = some x := h
      intro H locs ls hP hS hL
      exact W.vret hx hb (hr.trans (hrt _ _ h)) (eRets hcx hrt h hP hS) hS.2.2 hdg
  | invokestatic ix =>
    have hdg := eDec1 hdg hlen
    simp only [eStep] at h
    split at h
    · rename_i a n z hq
      split at h
      · rename_i as st2 hargs
        obtain ⟨hcat, h2⟩ := eBif h
        clear h
        obtain ⟨v, w', hkv, y, bytes, maxL, ret', ws, ws', rm, hM, hw, hc0, hs0, hR, hd, hG⟩ := hcal _ _ _ _ hq as w _ h2
        obtain ⟨b, hbl, hbe, hst⟩ := eArgs_spec n [] st as st2 hargs
        intro H locs ls hP hS hL
        refine eCall_W (va_runS (As := as.map (eC ad)) (rest := st2.map (eC ad)) (cells := 0) (slots := 0) ⟨hx, hb, hml, hown, hts⟩ hM (va_cwS n hts hG hw hc0 hs0 hd hR) ⟨eWorld.blind, eWorld.pre hK hinj hstat hP hS⟩ rfl (by simp [hbe, hbl]) hL.1 (by simp [hst, hbe]) (lv_room (by rw [eCat_map]; exact Nat.le_of_ble_eq_true hcat)) hdg ⟨Nat.zero_le _, Nat.zero_le _⟩) hS (fun H1 locs1 hP1 hS1 => ?_)
        have := hk _ _ _ _ hkv H1 locs1 ls hP1 hS1 hL
        rw [eToList] at this
        exact this
      · cases h
    · rename_i a b z hq
      obtain ⟨hcat, h2⟩ := eBif h
      clear h
      have hcat := Nat.le_of_ble_eq_true hcat
      split at h2
      · rename_i v2 v1 st2
        obtain ⟨r1, r2, w1, w2, w3, w4⟩ := hlk _ _ hq
        simp only [eCat, Value.category] at hcat
        intro H locs ls hP hS hL
        exact va_mmax hx hb (hml.trans hL.1.symm) hown (hts _ w1) (hts _ w2) (hts _ w3) (hts _ w4) r1 (by rw [eCat_map]; omega) (Nat.zero_le _) (Nat.zero_le _) hdg (hk _ _ _ _ h2 H locs ls hP hS hL)
      · rename_i v2 v1 st2
        obtain ⟨r1, r2, w1, w2, w3, w4⟩ := hlk _ _ hq
        simp only [eCat, Value.category] at hcat
        intro H locs ls hP hS hL
        exact va_mmin hx hb (hml.trans hL.1.symm) hown (hts _ w1) (hts _ w2) (hts _ w3) (hts _ w4) r1 (by rw [eCat_map]; omega) (Nat.zero_le _) (Nat.zero_le _) hdg (hk _ _ _ _ h2 H locs ls hP hS hL)
      · rename_i v2 v1 st2
        obtain ⟨r1, r2, w1, w2, w3, w4⟩ := hlk _ _ hq
        simp only [eCat, Value.category] at hcat
        intro H locs ls hP hS hL
        exact va_mmax_long hx hb (hml.trans hL.1.symm) hown (hts _ w1) (hts _ w2) (hts _ w3) (hts _ w4) r1 (by rw [eCat_map]; omega) (Nat.zero_le _) (Nat.zero_le _) hdg (hk _ _ _ _ h2 H locs ls hP hS hL)
      · rename_i n dp d sp o st2 hz9
        obtain ⟨r1, r2, w1, w2, w3, w4⟩ := hlk _ _ hq
        have hnf : nativeFrameWords "java/lang/System" "arraycopy" 5 = 7 := by decide
        simp only [eCat, Value.category] at hcat
        split at h2
        · rename_i n0 n1 hs0 hs1
          split at h2
          · rename_i hc
            obtain ⟨c1, c2, c3, c4, c5⟩ := hc
            intro H locs ls hP hS hL
            refine va_copyi (ty := .int) hx hb (hml.trans hL.1.symm) hown (hts _ w1) (hts _ w2) (hts _ w3) (hts _ w4) hK hP (eWs_D hinj) hS o d 0 0 (eWs_at hs0) (eWs_at hs1) rfl rfl rfl c1 c2 c3 c4 c5 (fun _ _ => rfl) r1 (by rw [eCat_map, hnf]; omega) hdg (fun H1 locs1 hP1 _ hS1 => ?_)
            have e1 := eWs_set (ad := ad) (cA := cA) (w := w) (w' := eCp1 w d o sp.toNatClampNeg dp.toNatClampNeg n.toNatClampNeg) hs1 (fun k sh hne => eCell_congr (fun b => by simp [eCp1, hne]) (fun _ => rfl))
            have e2 : (eCp1 w d o sp.toNatClampNeg dp.toNatClampNeg n.toNatClampNeg).1 d = va_cpy (w.1 o) (w.1 d) sp.toNatClampNeg dp.toNatClampNeg n.toNatClampNeg := by
              funext b
              simp [eCp1]
            simp only [eCell, e2] at e1
            rw [e1] at hP1
            exact hk _ _ _ _ h2 H1 locs1 ls hP1 hS1 hL
          · cases h2
        · rename_i n0 n1 hs0 hs1
          split at h2
          · rename_i hc
            obtain ⟨c1, c2, c3, c4, c5⟩ := hc
            intro H locs ls hP hS hL
            refine va_copyl (ty := .long) hx hb (hml.trans hL.1.symm) hown (hts _ w1) (hts _ w2) (hts _ w3) (hts _ w4) hK hP (eWs_D hinj) hS o d 1 1 (eWs_at hs0) (eWs_at hs1) rfl rfl rfl c1 c2 c3 c4 c5 (fun _ _ => rfl) r1 (by rw [eCat_map, hnf]; omega) hdg (fun H1 locs1 hP1 _ hS1 => ?_)
            have e1 := eWs_set (ad := ad) (cA := cA) (w := w) (w' := eCp2 w d o sp.toNatClampNeg dp.toNatClampNeg n.toNatClampNeg) hs1 (fun k sh hne => eCell_congr (fun _ => rfl) (fun b => by simp [eCp2, hne]))
            have e2 : (eCp2 w d o sp.toNatClampNeg dp.toNatClampNeg n.toNatClampNeg).2 d = va_cpy (w.2 o) (w.2 d) sp.toNatClampNeg dp.toNatClampNeg n.toNatClampNeg := by
              funext b
              simp [eCp2]
            simp only [eCell, e2] at e1
            rw [e1] at hP1
            exact hk _ _ _ _ h2 H1 locs1 ls hP1 hS1 hL
          · cases h2
        · cases h2
      · cases h2
    · cases h
  | invokevirtual ix =>
    have hdg := eDec1 hdg hlen
    simp only [eStep] at h
    split at h
    · rename_i a n cj hq
      split at h
      · rename_i as o st2 hargs
        split at h
        · rename_i ci fs hsh
          obtain ⟨hcat, h2⟩ := eBif h
          clear h
          rw [Bool.and_eq_true] at hcat
          have hci := Nat.eq_of_beq_eq_true hcat.2
          subst hci
          obtain ⟨v, w', hkv, y, bytes, maxL, ret', ws, ws', rm, hM, hw, hc0, hs0, hR, hd, hG, T, N, hcl⟩ := hcal _ _ _ _ hq _ w _ h2
          obtain ⟨b, hbl, hbe, hst⟩ := eArgs_spec n [] st as _ hargs
          intro H locs ls hP hS hL
          refine eCall_W (va_runV (b := ad o) (As := as.map (eC ad)) (rest := st2.map (eC ad)) (cells := 0) (slots := 0) ⟨hx, hb, hml, hown, hts⟩ hM (cwV n hts hG hw hc0 hs0 ⟨rfl, hd⟩ hR) ⟨eWorld.blind, va_recv hK hP hcl (eWs_at hsh), eWorld.pre (as := .ref o :: as) hK hinj hstat hP hS⟩ rfl (by simp [hbe, hbl]) hL.1 (by simp [hst, hbe, eC]) (lv_room (by rw [eCat_map]; exact Nat.le_of_ble_eq_true hcat.1)) hdg ⟨Nat.zero_le _, Nat.zero_le _⟩) hS (fun H1 locs1 hP1 hS1 => ?_)
          have := hk _ _ _ _ hkv H1 locs1 ls hP1 hS1 hL
          rw [eToList] at this
          exact this
        · cases h
      · cases h
    · cases h
  | _ =>
    simp only [eStep] at h
    exact eAlu_go hx hb _ pc L st w _ h (eDec1 hdg hlen) (fun st' h' => hk _ _ _ _ h')
/-- the rows of a method's code are what its bytes say -/
def eDec (cc : ByteArray) (C : eCo) : Prop := ∀ (pc : Nat) (i : Instr), eAt C pc = some i → ∃ len, decode cc pc = .ok (i, len) ∧ eLenOK i len
theorem eRun_go (hcx : eCx p R s m args meth c cc own nL ad D cA cl SH SS Ts ret) (hlk : ∀ ix r, eLook rs ix = some r → eLnk R cl Ts SS SH.length own ix r)
    (hcal : ∀ (ix a n : Nat) (z : Int), eLook rs ix = some (1, a, n, z) → ∀ (as : List Value) (w : eW) (k : Option Value → eW → Option ρ), calls a as w k = some x → ∃ (v : Option Value) (w' : eW), k v w' = some x ∧ eCal l R ad D cA cl SH SS Ts own ix n z as w v w')
    (hrt : ∀ v w, rt v w = some x → eRet ret v) {C : eCo} (hdec : eDec cc C) (cuts : List Nat) (K : eK ρ) (hK : ∀ pc L st w, K pc L st w = some x → eGq p l e R s m args below meth c nL ad D cA cl SH rt x pc L st w) :
    ∀ (n : Nat) (first : Bool) (pc : Nat) (L : eL) (st : List Value) (w : eW), eRun SH SS nL rs calls rt C cuts K n first pc L st w = some x → eGq p l e R s m args below meth c nL ad D cA cl SH rt x pc L st w := by
  intro n
  induction n with
  | zero => intro first pc L st w h; cases h
  | succ n ih =>
    intro first pc L st w h
    have h : (bif (eMem pc cuts && !first) then K pc L st w else (match eAt C pc with
      | some i => eStep SH SS nL rs calls rt (eRun SH SS nL rs calls rt C cuts K n false) i pc L st w
      | none => none)) = some x := h
    cases hb : (eMem pc cuts && !first) with
    | true =>
      rw [hb] at h
      exact hK pc L st w h
    | false =>
      rw [hb] at h
      have h : (match eAt C pc with
        | some i => eStep SH SS nL rs calls rt (eRun SH SS nL rs calls rt C cuts K n false) i pc L st w
        | none => none) = some x := h
      split at h
      · rename_i i hi
        obtain ⟨len, h1, h2⟩ := hdec pc i hi
        exact eStep_go hcx hlk hcal hrt _ (fun pc L st w h => ih false pc L st w h) i pc len L st w h h1 h2
      · cases h
end EWK
end
section
section EMT
variable {l : Launch} {ad : Nat → Nat} {D : va_G} {cA : Nat → ClassId} {cl : List vw_C} {SH : List eSh} {SS : List eS} {ρ : Type} {rt : Option Value → eW → Option ρ} {x : ρ}
def eEnt : List Value → eL
  | [] => []
  | .long a :: vs => some (.long a) :: none :: eEnt vs
  | .double a :: vs => some (.double a) :: none :: eEnt vs
  | v :: vs => some v :: eEnt vs
theorem eEnt_mem : ∀ (as : List Value) (i j : Nat) (v : Value), (eEnt as)[j]? = some (some v) → (i + j, eC ad v) ∈ lv_args i (as.map (eC ad))
  | [], i, j, v, h => by simp [eEnt] at h
  | u :: vs, i, j, v, h => by
    have two : ∀ (q : Value), q.category = 2 → eEnt (q :: vs) = some q :: none :: eEnt vs → (eEnt (q :: vs))[j]? = some (some v) → (i + j, eC ad v) ∈ lv_args i ((q :: vs).map (eC ad)) := by
      intro q hq he h
      rw [he] at h
      simp only [List.map_cons, lv_args, eC_cat, hq, if_true]
      match j, h with
      | 0, h => simp at h; simp [h]
      | 1, h => simp at h
      | j + 2, h =>
        have := eEnt_mem vs (i + 2) j v (by simpa using h)
        rw [show i + (j + 2) = i + 2 + j by omega]
        exact List.mem_cons_of_mem _ this
    have one : ∀ (q : Value), ¬ q.category = 2 → eEnt (q :: vs) = some q :: eEnt vs → (eEnt (q :: vs))[j]? = some (some v) → (i + j, eC ad v) ∈ lv_args i ((q :: vs).map (eC ad)) := by
      intro q hq he h
      rw [he] at h
      simp only [List.map_cons, lv_args, eC_cat, if_neg hq]
      match j, h with
      | 0, h => simp at h; simp [h]
      | j + 1, h =>
        have := eEnt_mem vs (i + 1) j v (by simpa using h)
        rw [show i + (j + 1) = i + 1 + j by omega]
        exact List.mem_cons_of_mem _ this
    cases u with
    | long a => exact two _ rfl rfl h
    | double a => exact two _ rfl rfl h
    | int a => exact one _ (by simp [Value.category]) rfl h
    | float a => exact one _ (by simp [Value.category]) rfl h
    | null => exact one _ (by simp [Value.category]) rfl h
    | ref a => exact one _ (by simp [Value.category]) rfl h
    | retAddr a => exact one _ (by simp [Value.category]) rfl h
theorem eSl_len : ∀ (as : List Value), (lg_sl (as.map (eC ad))).length = eCat as
  | [] => rfl
  | v :: vs => by
    have h := eSl_len vs
    unfold lg_sl at h ⊢
    simp only [List.map_cons, List.flatMap_cons, List.length_append, eCat, eC_cat]
    rw [h]
    rcases lv_cat v with h1 | h1 <;> simp [h1]
theorem eEnt_al {ls : Array Slot} {n : Nat} {as : List Value} (h : lv_has ls n (lv_args 0 (as.map (eC ad)))) : eAL ad ls n (eEnt as) := ⟨h.1, h.2.1, fun i v hi => by
  have := h.2.2 _ (eEnt_mem (ad := ad) as 0 i v hi)
  simpa using this⟩
theorem eMet_of {y : MethodName} {cc : ByteArray} {maxL : Nat} {ret : Option FieldType} {ws ws' : List Cond} {rm : Room} {as : List Value} {w w0 : eW} {v0 : Option Value} (hy : plainName y.cls = true) (hw : ws = Cond.code y cc maxL ret :: ws') (hn : eCat as ≤ maxL) (hx : ∀ v w', rt v w' = some x → v = v0 ∧ w' = w0)
    (body : ∀ (p : Program) (e : Env) (s : State) (m : MethodId) (args : Array Value) (below : List Frame) (meth : Method) (c : Code), eCx p rm s m args meth c cc y.cls maxL ad D cA cl SH SS ws ret → eGq p l e rm s m args below meth c maxL ad D cA cl SH rt x 0 (eEnt as) [] w) : eMet l ad D cA cl SH SS y ws rm as w v0 w0 := by
  refine Met.ofW (cc := cc) (maxL := maxL) (ret := ret) hy hw ?_
  intro p e s m args below meth c s₁ B hml hv
  obtain ⟨rfl, hP, hK, hi, hst⟩ := hv
  have hts := atoms_spec (ws := ws) B.pre
  have hown : s.vm.findClass y.cls = some m.cls := findClass_of_methodNamed B.named
  have hl := lv_entry (as.map (eC ad)) (n := maxL) (by rw [eSl_len]; exact hn)
  have key := body p e s m (as.map (eC ad)).toArray below meth c ⟨B.exec, B.bytes, B.returns, B.notSynchronized, hown, hml, hts, hK, hi, hst⟩ s.heap [] _ hP va_S.rf (eEnt_al hl)
  rw [lg_entry_eq]
  intro T hT X
  obtain ⟨t, h1, o, h2, h3, ⟨v, w', h4, h5⟩, h6⟩ := key T hT X
  obtain ⟨rfl, rfl⟩ := hx v w' h4
  exact ⟨t, h1, o, h2, h3, h5, h6⟩
def eLe (L : eL) : Nat → eL → Prop
  | _, [] => True
  | i, none :: r => eLe L (i + 1) r
  | i, some v :: r => L[i]? = some (some v) ∧ eLe L (i + 1) r
theorem eLe_get {L : eL} : ∀ (L0 : eL) (i : Nat), eLe L i L0 → ∀ (j : Nat) (v : Value), L0[j]? = some (some v) → L[i + j]? = some (some v)
  | [], i, _, j, v, h => by simp at h
  | none :: r, i, hl, j, v, h => by
    match j, h with
    | 0, h => simp at h
    | j + 1, h =>
      rw [show i + (j + 1) = i + 1 + j by omega]
      exact eLe_get r (i + 1) hl j v (by simpa using h)
  | some u :: r, i, hl, j, v, h => by
    match j, h with
    | 0, h =>
      simp only [List.getElem?_cons_zero, Option.some.injEq] at h
      subst h
      exact hl.1
    | j + 1, h =>
      rw [show i + (j + 1) = i + 1 + j by omega]
      exact eLe_get r (i + 1) hl.2 j v (by simpa using h)
theorem eLe_wk {L L0 : eL} (h : eLe L 0 L0) : ∀ (i : Nat) (v : Value), L0[i]? = some (some v) → L[i]? = some (some v) := fun i v hi => by
  have := eLe_get L0 0 h i v hi
  simpa using this
/-- a cut: its locals and what lies on the stack -/
def lR (L : eL) (i id : Nat) (k : Option ρ) : Option ρ := match eLd L i with
  | some (.ref r) => bif Nat.beq r id then k else none
  | _ => none
def sE (st : List Value) (k : Option ρ) : Option ρ := match st with
  | [] => k
  | _ => none
def sI (st : List Value) (k : Int32 → List Value → Option ρ) : Option ρ := match st with
  | .int a :: r => k a r
  | _ => none
def sJ (st : List Value) (k : Int64 → List Value → Option ρ) : Option ρ := match st with
  | .long a :: r => k a r
  | _ => none
def sR (st : List Value) (id : Nat) (k : List Value → Option ρ) : Option ρ := match st with
  | .ref a :: r => bif Nat.beq a id then k r else none
  | _ => none
theorem lI_some {L : eL} {i : Nat} {f : Int32 → Option ρ} (h : (lI L i).bind f = some x) : ∃ a, L[i]? = some (some (.int a)) ∧ f a = some x := by
  obtain ⟨a, h1, h2⟩ := Option.bind_eq_some_iff.mp h
  unfold lI at h1
  split at h1
  · rename_i b hb; cases h1; exact ⟨a, eLd_some.mp hb, h2⟩
  · cases h1
theorem lJ_some {L : eL} {i : Nat} {f : Int64 → Option ρ} (h : (lJ L i).bind f = some x) : ∃ a, L[i]? = some (some (.long a)) ∧ f a = some x := by
  obtain ⟨a, h1, h2⟩ := Option.bind_eq_some_iff.mp h
  unfold lJ at h1
  split at h1
  · rename_i b hb; cases h1; exact ⟨a, eLd_some.mp hb, h2⟩
  · cases h1
theorem lD_some {L : eL} {i : Nat} {f : UInt64 → Option ρ} (h : (lD L i).bind f = some x) : ∃ a, L[i]? = some (some (.double a)) ∧ f a = some x := by
  obtain ⟨a, h1, h2⟩ := Option.bind_eq_some_iff.mp h
  unfold lD at h1
  split at h1
  · rename_i b hb; cases h1; exact ⟨a, eLd_some.mp hb, h2⟩
  · cases h1
theorem lF_some {L : eL} {i : Nat} {f : UInt32 → Option ρ} (h : (lF L i).bind f = some x) : ∃ a, L[i]? = some (some (.float a)) ∧ f a = some x := by
  obtain ⟨a, h1, h2⟩ := Option.bind_eq_some_iff.mp h
  unfold lF at h1
  split at h1
  · rename_i b hb; cases h1; exact ⟨a, eLd_some.mp hb, h2⟩
  · cases h1
theorem lR_some {L : eL} {i id : Nat} {k : Option ρ} (h : lR L i id k = some x) : L[i]? = some (some (.ref id)) ∧ k = some x := by
  unfold lR at h
  split at h
  · rename_i r hr
    obtain ⟨h1, h2⟩ := eBif h
    have := Nat.eq_of_beq_eq_true h1
    subst this
    exact ⟨eLd_some.mp hr, h2⟩
  · cases h
theorem sE_some {st : List Value} {k : Option ρ} (h : sE st k = some x) : st = [] ∧ k = some x := by
  unfold sE at h
  split at h
  · exact ⟨rfl, h⟩
  · cases h
theorem sI_some {st : List Value} {k : Int32 → List Value → Option ρ} (h : sI st k = some x) : ∃ a r, st = .int a :: r ∧ k a r = some x := by
  unfold sI at h
  split at h
  · exact ⟨_, _, rfl, h⟩
  · cases h
theorem sJ_some {st : List Value} {k : Int64 → List Value → Option ρ} (h : sJ st k = some x) : ∃ a r, st = .long a :: r ∧ k a r = some x := by
  unfold sJ at h
  split at h
  · exact ⟨_, _, rfl, h⟩
  · cases h
theorem sR_some {st : List Value} {id : Nat} {k : List Value → Option ρ} (h : sR st id k = some x) : ∃ r, st = .ref id :: r ∧ k r = some x := by
  unfold sR at h
  split at h
  · obtain ⟨h1, h2⟩ := eBif h
    have := Nat.eq_of_beq_eq_true h1
    subst this
    exact ⟨_, rfl, h2⟩
  · cases h
theorem eCut {b n : Nat} {k q : Option ρ} (h : (bif Nat.beq b n then k else q) = some x) : (b = n ∧ k = some x) ∨ q = some x := by
  cases hb : Nat.beq b n with
  | true => rw [hb] at h; exact Or.inl ⟨Nat.eq_of_beq_eq_true hb, h⟩
  | false => rw [hb] at h; exact Or.inr h
theorem eLook_mem : ∀ (rs : List (Nat × eR)) (ix : Nat) (r : eR), eLook rs ix = some r → (ix, r) ∈ rs
  | [], _, _, h => by cases h
  | (i, q) :: rs, ix, r, h => by
    have h : (bif Nat.beq i ix then some q else eLook rs ix) = some r := h
    cases hb : Nat.beq i ix with
    | true =>
      rw [hb] at h
      have := Nat.eq_of_beq_eq_true hb
      cases h
      subst this
      exact List.mem_cons_self
    | false =>
      rw [hb] at h
      exact List.mem_cons_of_mem _ (eLook_mem rs ix r h)
/-- a callee by its place in a method's list -/
def eCs (cs : List (eF ρ)) (a : Nat) : eF ρ := match cs[a]? with
  | some f => f
  | none => fun _ _ _ => none
def eHc (l : Launch) (R : Room) (ad : Nat → Nat) (D : va_G) (cA : Nat → ClassId) (cl : List vw_C) (SH : List eSh) (SS : List eS) (Ts : List Cond) (own : String) (cs : List (eF ρ)) (x : ρ) (q : Nat × eR) : Prop := match q.2 with
  | (1, a, n, z) => ∀ (as : List Value) (w : eW) (k : Option Value → eW → Option ρ), eCs cs a as w k = some x → ∃ (v : Option Value) (w' : eW), k v w' = some x ∧ eCal l R ad D cA cl SH SS Ts own q.1 n z as w v w'
  | _ => True
theorem eHc_all {R : Room} {Ts : List Cond} {own : String} {cs : List (eF ρ)} {rs : List (Nat × eR)} (h : ∀ q ∈ rs, eHc l R ad D cA cl SH SS Ts own cs x q) : ∀ (ix a n : Nat) (z : Int), eLook rs ix = some (1, a, n, z) → ∀ (as : List Value) (w : eW) (k : Option Value → eW → Option ρ), eCs cs a as w k = some x → ∃ (v : Option Value) (w' : eW), k v w' = some x ∧ eCal l R ad D cA cl SH SS Ts own ix n z as w v w' := fun ix a n z hq => h (ix, (1, a, n, z)) (eLook_mem rs ix _ hq)
theorem eLnk_all {R : Room} {Ts : List Cond} {own : String} {n : Nat} {rs : List (Nat × eR)} (h : ∀ q ∈ rs, eLnk R cl Ts SS n own q.1 q.2) : ∀ ix r, eLook rs ix = some r → eLnk R cl Ts SS n own ix r := fun ix r hq => h (ix, r) (eLook_mem rs ix r hq)
theorem rI_ret {x : Int32 × eW} : ∀ v w, rI v w = some x → v = some (.int x.1) ∧ w = x.2 := by
  intro v w h
  unfold rI at h
  split at h
  · cases h; exact ⟨rfl, rfl⟩
  · cases h
theorem rJ_ret {x : Int64 × eW} : ∀ v w, rJ v w = some x → v = some (.long x.1) ∧ w = x.2 := by
  intro v w h
  unfold rJ at h
  split at h
  · cases h; exact ⟨rfl, rfl⟩
  · cases h
theorem rD_ret {x : UInt64 × eW} : ∀ v w, rD v w = some x → v = some (.double x.1) ∧ w = x.2 := by
  intro v w h
  unfold rD at h
  split at h
  · cases h; exact ⟨rfl, rfl⟩
  · cases h
theorem rF_ret {x : UInt32 × eW} : ∀ v w, rF v w = some x → v = some (.float x.1) ∧ w = x.2 := by
  intro v w h
  unfold rF at h
  split at h
  · cases h; exact ⟨rfl, rfl⟩
  · cases h
theorem rA_ret {x : Nat × eW} : ∀ v w, rA v w = some x → v = some (.ref x.1) ∧ w = x.2 := by
  intro v w h
  unfold rA at h
  split at h
  · cases h; exact ⟨rfl, rfl⟩
  · cases h
theorem rV_ret {x : eW} : ∀ v w, rV v w = some x → v = none ∧ w = x := by
  intro v w h
  unfold rV at h
  split at h
  · cases h; exact ⟨rfl, rfl⟩
  · cases h
theorem rZ_val {x : Int32 × eW} {v : Option Value} {w : eW} (h : rZ v w = some x) : (v = some (.int x.1) ∧ w = x.2) ∧ (x.1 = 0 ∨ x.1 = 1) := by
  unfold rZ at h
  split at h
  · split at h
    · rename_i hz; cases h; exact ⟨⟨rfl, rfl⟩, hz⟩
    · cases h
  · cases h
theorem rZ_ret {x : Int32 × eW} : ∀ v w, rZ v w = some x → v = some (.int x.1) ∧ w = x.2 := fun _ _ h => (rZ_val h).1
theorem rI_ok {x : Int32 × eW} : ∀ v w, rI v w = some x → eRet (some .int) v := fun v w h => by rw [(rI_ret v w h).1]; exact Or.inl rfl
theorem rZ_ok {x : Int32 × eW} : ∀ v w, rZ v w = some x → eRet (some .boolean) v := fun v w h => by rw [(rZ_val h).1.1]; exact Or.inr ⟨rfl, (rZ_val h).2⟩
theorem rJ_ok {x : Int64 × eW} : ∀ v w, rJ v w = some x → eRet (some .long) v := fun v w h => by rw [(rJ_ret v w h).1]; rfl
theorem rD_ok {x : UInt64 × eW} : ∀ v w, rD v w = some x → eRet (some .double) v := fun v w h => by rw [(rD_ret v w h).1]; rfl
theorem rF_ok {x : UInt32 × eW} : ∀ v w, rF v w = some x → eRet (some .float) v := fun v w h => by rw [(rF_ret v w h).1]; rfl
theorem rA_ok {x : Nat × eW} {t : FieldType} : ∀ v w, rA v w = some x → eRet (some (.array t)) v := fun v w h => by rw [(rA_ret v w h).1]; exact ⟨t, rfl⟩
theorem rV_ok {x : eW} : ∀ v w, rV v w = some x → eRet none v := fun v w h => by rw [(rV_ret v w h).1]; rfl
end EMT
/-- the fuel of a loop -/
def eFu : Nat := 1000000
end
