section
theorem g32 : Gf FP.Core.b32 := by decide
theorem fI32 : fI FP.Core.b32 = 2139095040 := by decide +kernel
theorem T32 : FP.Core.b32.tails = 8388608 := by decide +kernel
theorem eP32 {k : Int} (h : -127 ≤ k) : ((eP FP.Core.b32 k : Nat) : Int) = (127 + k) * 8388608 := by
  unfold eP
  rw [T32, show FP.Core.b32.emax = 127 from by decide +kernel]
  omega
theorem tS {n : Nat} (h : n ≤ fI FP.Core.b32) : (UInt32.ofNat n).toNat = n := by
  rw [fI32] at h
  rw [UInt32.toNat_ofNat']
  exact Nat.mod_eq_of_lt (by omega)
theorem nanS {n : Nat} (h : n ≤ fI FP.Core.b32) : (UInt32.ofNat n) &&& 0x7fffffff ≤ 0x7f800000 := by
  rw [UInt32.le_iff_toNat_le, UInt32.toNat_and, tS h]
  have := Nat.and_le_left (n := n) (m := (0x7fffffff : UInt32).toNat)
  rw [fI32] at h
  exact Nat.le_trans this h
theorem fmulS {n m : Nat} (hn : n < fI FP.Core.b32) (hm : m < fI FP.Core.b32) : FP.fmul (UInt32.ofNat n) (UInt32.ofNat m) = UInt32.ofNat (rn FP.Core.b32 (fV FP.Core.b32 n * fV FP.Core.b32 m)) := by
  show UInt32.ofNat (FP.Core.mul FP.Core.b32 _ _) = _
  rw [tS (by omega), tS (by omega), mul_rn g32 hn hm]
theorem fdivS {n m : Nat} (hn : n < fI FP.Core.b32) (hm : m < fI FP.Core.b32) (h0 : 0 < m) : FP.fdiv (UInt32.ofNat n) (UInt32.ofNat m) = UInt32.ofNat (rn FP.Core.b32 (fV FP.Core.b32 n / fV FP.Core.b32 m)) := by
  show UInt32.ofNat (FP.Core.div FP.Core.b32 _ _) = _
  rw [tS (by omega), tS (by omega), div_rn g32 hn hm h0]
theorem faddS {n m : Nat} (hn : n < fI FP.Core.b32) (hm : m < fI FP.Core.b32) : FP.fadd (UInt32.ofNat n) (UInt32.ofNat m) = UInt32.ofNat (rn FP.Core.b32 (fV FP.Core.b32 n + fV FP.Core.b32 m)) := by
  show UInt32.ofNat (FP.Core.add FP.Core.b32 _ _) = _
  rw [tS (by omega), tS (by omega), add_rn g32 hn hm]
theorem fsubS {n m : Nat} (hn : n < fI FP.Core.b32) (hm : m < fI FP.Core.b32) (h : m ≤ n) : FP.fsub (UInt32.ofNat n) (UInt32.ofNat m) = UInt32.ofNat (rn FP.Core.b32 (fV FP.Core.b32 n - fV FP.Core.b32 m)) := by
  show UInt32.ofNat (FP.Core.sub FP.Core.b32 _ _) = _
  rw [tS (by omega), tS (by omega), sub_rn g32 hn hm h]
theorem l2fS {i : Int} (h : 0 ≤ i) (h2 : i < 9223372036854775808) : FP.l2f (Int64.ofInt i) = UInt32.ofNat (rn FP.Core.b32 (i : Rat)) := by
  show UInt32.ofNat (FP.Core.fromInt FP.Core.b32 (Int64.ofInt i).toInt) = _
  rw [toI_ofJ (by omega) (by omega), int_rn g32 h]
theorem i2fS {i : Int} (h : 0 ≤ i) (h2 : i < 2147483648) : FP.i2f (Int32.ofInt i) = UInt32.ofNat (rn FP.Core.b32 (i : Rat)) := by
  show UInt32.ofNat (FP.Core.fromInt FP.Core.b32 (Int32.ofInt i).toInt) = _
  rw [toI_ofI (by omega) (by omega), int_rn g32 h]
theorem cmpS {n m : Nat} (hn : n ≤ fI FP.Core.b32) (hm : m ≤ fI FP.Core.b32) (op : CmpOp) : Op.cmpValue (FP.fcmp (UInt32.ofNat n) (UInt32.ofNat m)) op = if n < m then -1 else if n = m then 0 else 1 := by
  show Op.cmpValue (FP.Core.cmp FP.Core.b32 _ _) op = _
  rw [tS hn, tS hm, cmp_le g32 hn hm]
  rcases Nat.lt_trichotomy n m with z | z | z
  · rw [Nat.compare_eq_lt.mpr z, if_pos z]; rfl
  · rw [Nat.compare_eq_eq.mpr z, if_neg (by omega), if_pos z]; rfl
  · rw [Nat.compare_eq_gt.mpr z, if_neg (by omega), if_neg (by omega)]; rfl
theorem sh_or32 (e : Int32) {L : Int} (h0 : 0 ≤ L) (h1 : L < 8388608) : (e <<< ((23 : Int32) &&& 31)) + Int32.ofInt L = (e <<< ((23 : Int32) &&& 31)) ||| Int32.ofInt L := by
  rw [← Int32.toBitVec_inj, Int32.toBitVec_add, Int32.toBitVec_or]
  refine BitVec.add_eq_or_of_and_eq_zero _ _ (BitVec.eq_of_getLsbD_eq fun i hi => ?_)
  rw [BitVec.getLsbD_and, Int32.toBitVec_shiftLeft, show (((23 : Int32) &&& 31).toBitVec.smod 32) = BitVec.ofNat 32 23 from by decide, BitVec.shiftLeft_eq', BitVec.getLsbD_shiftLeft]
  obtain ⟨k, rfl⟩ := Int.eq_ofNat_of_zero_le h0
  rw [show (Int32.ofInt (k : Nat)).toBitVec = BitVec.ofNat 32 k from by rw [Int32.toBitVec_ofInt, BitVec.ofInt_natCast], BitVec.getLsbD_ofNat]
  by_cases z : i < 23
  · simp [z]
  · rw [Nat.testBit_lt_two_pow (Nat.lt_of_lt_of_le (show k < 2 ^ 23 by omega) (Nat.pow_le_pow_right (by omega) (by omega)))]
    simp
/-- the last of the bits -/
theorem finS {n : Nat} (h1 : 1065353216 ≤ n) (h2 : n < 1073741824) : ∃ m1 m2 : Nat, ∃ L : Int, m1 ≤ fI FP.Core.b32 ∧ m2 ≤ fI FP.Core.b32 ∧ FP.fsub (UInt32.ofNat n) FP.fconst1 = UInt32.ofNat m1 ∧ FP.fmul (UInt32.ofNat m1) (1258291200 : UInt32) = UInt32.ofNat m2 ∧ FP.f2i (UInt32.ofNat m2) = Int32.ofInt L ∧ 0 ≤ L ∧ L < 8388608 := by
  have I := fI32
  have hn : n < fI FP.Core.b32 := by rw [I]; omega
  have vle : ∀ {a b : Nat}, b < fI FP.Core.b32 → a ≤ b → fV FP.Core.b32 a ≤ fV FP.Core.b32 b := fun {a b} hb h => by
    by_cases y : a = b
    · rw [y]; exact Rat.le_refl
    · exact Rat.le_of_lt (V_lt g32 hb (by omega) (by omega))
  have v1 : fV FP.Core.b32 n ≤ fV FP.Core.b32 1073741823 := vle (by rw [I]; omega) (by omega)
  have e1 : fV FP.Core.b32 1073741823 - fV FP.Core.b32 1065353216 = fV FP.Core.b32 1065353214 := by decide +kernel
  have e2 : fV FP.Core.b32 1065353214 * fV FP.Core.b32 1258291200 = fV FP.Core.b32 1258291198 := by decide +kernel
  have e3 : fV FP.Core.b32 1258291198 = 8388607 := by decide +kernel
  have s := fsubS hn (m := 1065353216) (by rw [I]; omega) h1
  have m1b : rn FP.Core.b32 (fV FP.Core.b32 n - fV FP.Core.b32 1065353216) ≤ 1065353214 := by
    rw [← rn_V g32 (n := 1065353214) (by rw [I]; omega), ← e1]
    exact rn_mono g32 (by grind)
  generalize rn FP.Core.b32 (fV FP.Core.b32 n - fV FP.Core.b32 1065353216) = m1 at *
  have mm := fmulS (n := m1) (m := 1258291200) (by rw [I]; omega) (by rw [I]; omega)
  have v2 := vle (a := m1) (b := 1065353214) (by rw [I]; omega) m1b
  have m2b : rn FP.Core.b32 (fV FP.Core.b32 m1 * fV FP.Core.b32 1258291200) ≤ 1258291198 := by
    rw [← rn_V g32 (n := 1258291198) (by rw [I]; omega), ← e2]
    exact rn_mono g32 (Rat.mul_le_mul_of_nonneg_right v2 (V_nn _))
  generalize rn FP.Core.b32 (fV FP.Core.b32 m1 * fV FP.Core.b32 1258291200) = m2 at *
  have v3 := vle (a := m2) (b := 1258291198) (by rw [I]; omega) m2b
  obtain ⟨t, t1, t2, t3⟩ := toInt_V g32 (n := m2) (by rw [I]; omega) (-2 ^ 31) (2 ^ 31 - 1)
  have tb : t ≤ 8388607 := by
    have : (t : Rat) ≤ ((8388607 : Int) : Rat) := by
      have e4 : ((8388607 : Int) : Rat) = 8388607 := rfl
      rw [e4, ← e3]; exact Rat.le_trans t3 v3
    exact Rat.intCast_le_intCast.mp this
  refine ⟨m1, m2, t, by rw [I]; omega, by rw [I]; omega, s, mm, ?_, t2, by omega⟩
  show Int32.ofInt (FP.Core.toInt (-2 ^ 31) (2 ^ 31 - 1) (FP.Core.decode FP.Core.b32 (UInt32.ofNat m2).toNat)) = _
  rw [tS (by rw [I]; omega), t1]
  congr 1
  omega
theorem two32 : FP.fconst2 = UInt32.ofNat 1073741824 := rfl
theorem V2_32 : fV FP.Core.b32 1073741824 = 2 := by decide +kernel
/-- up -/
theorem up32 (w : eW) : ∀ (d i f1 f2 n : Nat) (e : Int32), n < 1073741824 → 1065353216 ≤ n + d * 8388608 → i + d < 1000 → d < f1 → d < f2 → 8388608 ≤ n → ∃ r, f_nu_bitsOfFloat_L43 f1 (UInt32.ofNat n) e (Int32.ofInt (i : Nat)) w = some (r, w) ∧ ∀ w', f_mm_bitsOfFloat_L29 f2 (UInt32.ofNat n) e w' = some (r, w') := by
  have I := fI32
  intro d
  induction d with
  | zero =>
    intro i f1 f2 n e h1 h2 h3 h4 h5 h6
    obtain ⟨f1, rfl⟩ : ∃ g, f1 = g + 1 := ⟨f1 - 1, by omega⟩
    obtain ⟨f2, rfl⟩ : ∃ g, f2 = g + 1 := ⟨f2 - 1, by omega⟩
    obtain ⟨m1, m2, L, a1, a2, a3, a4, a5, a6, a7⟩ := finS (show 1065353216 ≤ n by omega) h1
    have c0 : (0 : Int32) ≤ Op.cmpValue (FP.fcmp (UInt32.ofNat n) FP.fconst1) CmpOp.g := by
      rw [show FP.fconst1 = UInt32.ofNat 1065353216 from rfl, cmpS (by rw [I]; omega) (by rw [I]; omega), if_neg (by omega)]
      split <;> decide
    unfold f_nu_bitsOfFloat_L43 f_mm_bitsOfFloat_L29
    refine ⟨(e <<< ((23 : Int32) &&& 31)) + Int32.ofInt L, ?_, fun w' => ?_⟩
    · rw [if_neg (by rw [show (1000 : Int32) = Int32.ofInt 1000 from rfl, ile (by omega) (by omega) (by omega) (by omega)]; omega), if_pos c0, a3, if_pos (nanS a1), a4, if_pos (nanS a2), a5]
    · rw [if_pos c0, a3, if_pos (nanS a1), a4, if_pos (nanS a2), a5, sh_or32 _ a6 a7]
  | succ d ih =>
    intro i f1 f2 n e h1 h2 h3 h4 h5 h6
    by_cases z : 1065353216 ≤ n
    · obtain ⟨f1, rfl⟩ : ∃ g, f1 = g + 1 := ⟨f1 - 1, by omega⟩
      obtain ⟨f2, rfl⟩ : ∃ g, f2 = g + 1 := ⟨f2 - 1, by omega⟩
      exact ih i (f1 + 1) (f2 + 1) n e h1 (Nat.le_trans z (Nat.le_add_right _ _)) (by omega) (by omega) (by omega) h6
    · obtain ⟨f1, rfl⟩ : ∃ g, f1 = g + 1 := ⟨f1 - 1, by omega⟩
      obtain ⟨f2, rfl⟩ : ∃ g, f2 = g + 1 := ⟨f2 - 1, by omega⟩
      have c0 : ¬ ((0 : Int32) ≤ Op.cmpValue (FP.fcmp (UInt32.ofNat n) FP.fconst1) CmpOp.g) := by
        rw [show FP.fconst1 = UInt32.ofNat 1065353216 from rfl, cmpS (by rw [I]; omega) (by rw [I]; omega), if_pos (by omega)]
        decide
      have m : FP.fmul (UInt32.ofNat n) FP.fconst2 = UInt32.ofNat (n + 8388608) := by
        rw [two32, fmulS (by rw [I]; omega) (by rw [I]; omega), V2_32, dbl_rn g32 (by rw [T32]; exact h6) (by rw [T32, I]; omega), T32]
      unfold f_nu_bitsOfFloat_L43 f_mm_bitsOfFloat_L29
      obtain ⟨r, r1, r2⟩ := ih (i + 1) f1 f2 (n + 8388608) (e + (-1 : Int32)) (by omega) (by omega) (by omega) (by omega) (by omega) (by omega)
      refine ⟨r, ?_, fun w' => ?_⟩
      · rw [if_neg (by rw [show (1000 : Int32) = Int32.ofInt 1000 from rfl, ile (by omega) (by omega) (by omega) (by omega)]; omega), if_neg c0, m, if_pos (nanS (by rw [I]; omega)), isucc]
        exact r1
      · rw [if_neg c0, m, if_pos (nanS (by rw [I]; omega))]
        exact r2 w'
theorem down32 (w : eW) : ∀ (d i f1 f2 n : Nat) (e : Int32), n < 1073741824 + d * 8388608 → i + d < 1000 → d < f1 → d < f2 → 8388608 * 10 ≤ n → n < fI FP.Core.b32 → ∃ r, f_nu_bitsOfFloat_L15 f1 (UInt32.ofNat n) e (Int32.ofInt (i : Nat)) w = some (r, w) ∧ ∀ w', f_mm_bitsOfFloat_L13 f2 (UInt32.ofNat n) e w' = some (r, w') := by
  have I := fI32
  have base : ∀ (i f1 f2 n : Nat) (e : Int32), n < 1073741824 → i < 1000 → 0 < f1 → 0 < f2 → 8388608 * 10 ≤ n → ∃ r, f_nu_bitsOfFloat_L15 f1 (UInt32.ofNat n) e (Int32.ofInt (i : Nat)) w = some (r, w) ∧ ∀ w', f_mm_bitsOfFloat_L13 f2 (UInt32.ofNat n) e w' = some (r, w') := by
    intro i f1 f2 n e h1 h3 h4 h5 h6
    obtain ⟨f1, rfl⟩ : ∃ g, f1 = g + 1 := ⟨f1 - 1, by omega⟩
    obtain ⟨f2, rfl⟩ : ∃ g, f2 = g + 1 := ⟨f2 - 1, by omega⟩
    have c0 : (Op.cmpValue (FP.fcmp (UInt32.ofNat n) FP.fconst2) CmpOp.l) < 0 := by
      rw [two32, cmpS (by rw [I]; omega) (by rw [I]; omega), if_pos h1]
      decide
    unfold f_nu_bitsOfFloat_L15 f_mm_bitsOfFloat_L13
    obtain ⟨r, r1, r2⟩ := up32 w 117 0 eFu eFu n e h1 (by omega) (by omega) (by rw [eFu_eq]; omega) (by rw [eFu_eq]; omega) (by omega)
    refine ⟨r, ?_, fun w' => ?_⟩
    · rw [if_neg (by rw [show (1000 : Int32) = Int32.ofInt 1000 from rfl, ile (by omega) (by omega) (by omega) (by omega)]; omega), if_pos c0]
      exact r1
    · rw [if_pos c0]; exact r2 w'
  intro d
  induction d with
  | zero =>
    intro i f1 f2 n e h1 h3 h4 h5 h6 h7
    exact base i f1 f2 n e (by omega) (by omega) h4 h5 h6
  | succ d ih =>
    intro i f1 f2 n e h1 h3 h4 h5 h6 h7
    by_cases z : n < 1073741824
    · exact base i f1 f2 n e z (by omega) (by omega) (by omega) h6
    · obtain ⟨f1, rfl⟩ : ∃ g, f1 = g + 1 := ⟨f1 - 1, by omega⟩
      obtain ⟨f2, rfl⟩ : ∃ g, f2 = g + 1 := ⟨f2 - 1, by omega⟩
      have c0 : ¬ ((Op.cmpValue (FP.fcmp (UInt32.ofNat n) FP.fconst2) CmpOp.l) < 0) := by
        rw [two32, cmpS (by omega) (by rw [I]; omega), if_neg z]
        split <;> decide
      have m : FP.fdiv (UInt32.ofNat n) FP.fconst2 = UInt32.ofNat (n - 8388608) := by
        rw [two32, fdivS h7 (by rw [I]; omega) (by omega), V2_32, hlf_rn g32 (by rw [T32]; omega) h7, T32]
      unfold f_nu_bitsOfFloat_L15 f_mm_bitsOfFloat_L13
      obtain ⟨r, r1, r2⟩ := ih (i + 1) f1 f2 (n - 8388608) (e + 1) (by omega) (by omega) (by omega) (by omega) (by omega) (by omega)
      refine ⟨r, ?_, fun w' => ?_⟩
      · rw [if_neg (by rw [show (1000 : Int32) = Int32.ofInt 1000 from rfl, ile (by omega) (by omega) (by omega) (by omega)]; omega), if_neg c0, m, if_pos (nanS (by omega)), isucc]
        exact r1
      · rw [if_neg c0, m, if_pos (nanS (by omega))]
        exact r2 w'
/-- both say a number's bits alike -/
theorem bits32 {n : Nat} (h : n = 0 ∨ (8388608 * 10 ≤ n ∧ n < 8388608 * 240)) (w : eW) : ∃ r, f_nu_bitsOfFloat (UInt32.ofNat n) w = some (r, w) ∧ ∀ w', f_mm_bitsOfFloat (UInt32.ofNat n) w' = some (r, w') := by
  have I := fI32
  unfold f_nu_bitsOfFloat f_mm_bitsOfFloat
  rw [show FP.fconst0 = UInt32.ofNat 0 from rfl]
  rcases h with rfl | ⟨h1, h2⟩
  · refine ⟨0, ?_, fun w' => ?_⟩
    · rw [cmpS (by omega) (by omega), if_neg (by decide)]
    · rw [cmpS (by omega) (by omega), if_neg (by decide)]
  · have c : ∀ op, Op.cmpValue (FP.fcmp (UInt32.ofNat n) (UInt32.ofNat 0)) op = 1 := fun op => by rw [cmpS (by rw [I]; omega) (by omega), if_neg (by omega), if_neg (by omega)]
    obtain ⟨r, r1, r2⟩ := down32 w 112 0 eFu eFu n 127 (by omega) (by omega) (by rw [eFu_eq]; omega) (by rw [eFu_eq]; omega) h1 (by rw [I]; omega)
    refine ⟨r, ?_, fun w' => ?_⟩
    · rw [c, if_pos (by decide)]; exact r1
    · rw [c, if_pos (by decide)]; exact r2 w'
end
