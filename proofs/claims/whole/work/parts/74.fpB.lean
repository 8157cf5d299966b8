section
theorem g64 : Gf FP.Core.b64 := by decide
theorem fI64 : fI FP.Core.b64 = 9218868437227405312 := by decide +kernel
theorem T64 : FP.Core.b64.tails = 4503599627370496 := by decide +kernel
theorem eP64 {k : Int} (h : -1023 ≤ k) : ((eP FP.Core.b64 k : Nat) : Int) = (1023 + k) * 4503599627370496 := by
  unfold eP
  rw [T64, show FP.Core.b64.emax = 1023 from by decide +kernel]
  omega
theorem tD {n : Nat} (h : n ≤ fI FP.Core.b64) : (UInt64.ofNat n).toNat = n := by
  rw [fI64] at h
  rw [UInt64.toNat_ofNat']
  exact Nat.mod_eq_of_lt (by omega)
theorem nanD {n : Nat} (h : n ≤ fI FP.Core.b64) : (UInt64.ofNat n) &&& 0x7fffffffffffffff ≤ 0x7ff0000000000000 := by
  rw [UInt64.le_iff_toNat_le, UInt64.toNat_and, tD h]
  have := Nat.and_le_left (n := n) (m := (0x7fffffffffffffff : UInt64).toNat)
  rw [fI64] at h
  exact Nat.le_trans this h
theorem dmulD {n m : Nat} (hn : n < fI FP.Core.b64) (hm : m < fI FP.Core.b64) : FP.dmul (UInt64.ofNat n) (UInt64.ofNat m) = UInt64.ofNat (rn FP.Core.b64 (fV FP.Core.b64 n * fV FP.Core.b64 m)) := by
  show UInt64.ofNat (FP.Core.mul FP.Core.b64 _ _) = _
  rw [tD (by omega), tD (by omega), mul_rn g64 hn hm]
theorem ddivD {n m : Nat} (hn : n < fI FP.Core.b64) (hm : m < fI FP.Core.b64) (h0 : 0 < m) : FP.ddiv (UInt64.ofNat n) (UInt64.ofNat m) = UInt64.ofNat (rn FP.Core.b64 (fV FP.Core.b64 n / fV FP.Core.b64 m)) := by
  show UInt64.ofNat (FP.Core.div FP.Core.b64 _ _) = _
  rw [tD (by omega), tD (by omega), div_rn g64 hn hm h0]
theorem daddD {n m : Nat} (hn : n < fI FP.Core.b64) (hm : m < fI FP.Core.b64) : FP.dadd (UInt64.ofNat n) (UInt64.ofNat m) = UInt64.ofNat (rn FP.Core.b64 (fV FP.Core.b64 n + fV FP.Core.b64 m)) := by
  show UInt64.ofNat (FP.Core.add FP.Core.b64 _ _) = _
  rw [tD (by omega), tD (by omega), add_rn g64 hn hm]
theorem dsubD {n m : Nat} (hn : n < fI FP.Core.b64) (hm : m < fI FP.Core.b64) (h : m ≤ n) : FP.dsub (UInt64.ofNat n) (UInt64.ofNat m) = UInt64.ofNat (rn FP.Core.b64 (fV FP.Core.b64 n - fV FP.Core.b64 m)) := by
  show UInt64.ofNat (FP.Core.sub FP.Core.b64 _ _) = _
  rw [tD (by omega), tD (by omega), sub_rn g64 hn hm h]
theorem l2dD {i : Int} (h : 0 ≤ i) (h2 : i < 9223372036854775808) : FP.l2d (Int64.ofInt i) = UInt64.ofNat (rn FP.Core.b64 (i : Rat)) := by
  show UInt64.ofNat (FP.Core.fromInt FP.Core.b64 (Int64.ofInt i).toInt) = _
  rw [toI_ofJ (by omega) (by omega), int_rn g64 h]
theorem i2dD {i : Int} (h : 0 ≤ i) (h2 : i < 2147483648) : FP.i2d (Int32.ofInt i) = UInt64.ofNat (rn FP.Core.b64 (i : Rat)) := by
  show UInt64.ofNat (FP.Core.fromInt FP.Core.b64 (Int32.ofInt i).toInt) = _
  rw [toI_ofI (by omega) (by omega), int_rn g64 h]
theorem cmpD {n m : Nat} (hn : n ≤ fI FP.Core.b64) (hm : m ≤ fI FP.Core.b64) (op : CmpOp) : Op.cmpValue (FP.dcmp (UInt64.ofNat n) (UInt64.ofNat m)) op = if n < m then -1 else if n = m then 0 else 1 := by
  show Op.cmpValue (FP.Core.cmp FP.Core.b64 _ _) op = _
  rw [tD hn, tD hm, cmp_le g64 hn hm]
  rcases Nat.lt_trichotomy n m with z | z | z
  · rw [Nat.compare_eq_lt.mpr z, if_pos z]; rfl
  · rw [Nat.compare_eq_eq.mpr z, if_neg (by omega), if_pos z]; rfl
  · rw [Nat.compare_eq_gt.mpr z, if_neg (by omega), if_neg (by omega)]; rfl
/-- toward zero -/
theorem toInt_V {f : FP.Core.Fmt} (g : Gf f) {n : Nat} (h : n < fI f) (lo hi : Int) : ∃ t : Int, FP.Core.toInt lo hi (FP.Core.decode f n) = max lo (min hi t) ∧ 0 ≤ t ∧ (t : Rat) ≤ fV f n := by
  obtain ⟨c, q, e1, v1⟩ := dec_fin g h
  rw [e1]
  refine ⟨_, rfl, ?_, ?_⟩
  · exact Int.natCast_nonneg _
  · unfold FP.Core.truncate
    rw [sg_f, v1]
    have d := Nat.div_mul_le_self (c * 2 ^ q.toNat) (2 ^ (-q).toNat)
    have d2 : ((c * 2 ^ q.toNat / 2 ^ (-q).toNat : Nat) : Rat) * ((2 ^ (-q).toNat : Nat) : Rat) ≤ (c : Rat) * ((2 ^ q.toNat : Nat) : Rat) := by
      rw [← Rat.natCast_mul, ← Rat.natCast_mul]; exact_mod_cast d
    have e : (((c * 2 ^ q.toNat / 2 ^ (-q).toNat : Nat) : Int) : Rat) = ((c * 2 ^ q.toNat / 2 ^ (-q).toNat : Nat) : Rat) := rfl
    rw [e]
    rw [← P2_nat, ← P2_nat] at d2
    have pe : P2 (q.toNat : Int) = P2 q * P2 ((-q).toNat : Int) := by rw [← P2_add]; congr 1; omega
    rw [pe, ← Rat.mul_assoc] at d2
    exact (qmr (P2_pos _)).mp d2
theorem sh_or64 (e : Int64) {L : Int} (h0 : 0 ≤ L) (h1 : L < 4503599627370496) : (e <<< (((52 : Int32)).toInt64 &&& 63)) + Int64.ofInt L = (e <<< (((52 : Int32)).toInt64 &&& 63)) ||| Int64.ofInt L := by
  rw [← Int64.toBitVec_inj, Int64.toBitVec_add, Int64.toBitVec_or]
  refine BitVec.add_eq_or_of_and_eq_zero _ _ (BitVec.eq_of_getLsbD_eq fun i hi => ?_)
  rw [BitVec.getLsbD_and, Int64.toBitVec_shiftLeft, show ((((52 : Int32)).toInt64 &&& 63).toBitVec.smod 64) = BitVec.ofNat 64 52 from by decide, BitVec.shiftLeft_eq', BitVec.getLsbD_shiftLeft]
  obtain ⟨k, rfl⟩ := Int.eq_ofNat_of_zero_le h0
  rw [show (Int64.ofInt (k : Nat)).toBitVec = BitVec.ofNat 64 k from by rw [Int64.toBitVec_ofInt, BitVec.ofInt_natCast], BitVec.getLsbD_ofNat]
  by_cases z : i < 52
  · simp [z]
  · rw [Nat.testBit_lt_two_pow (Nat.lt_of_lt_of_le (show k < 2 ^ 52 by omega) (Nat.pow_le_pow_right (by omega) (by omega)))]
    simp
/-- the last of the bits -/
theorem finD {n : Nat} (h1 : 4607182418800017408 ≤ n) (h2 : n < 4611686018427387904) : ∃ m1 m2 : Nat, ∃ L : Int, m1 ≤ fI FP.Core.b64 ∧ m2 ≤ fI FP.Core.b64 ∧ FP.dsub (UInt64.ofNat n) FP.dconst1 = UInt64.ofNat m1 ∧ FP.dmul (UInt64.ofNat m1) (4841369599423283200 : UInt64) = UInt64.ofNat m2 ∧ FP.d2l (UInt64.ofNat m2) = Int64.ofInt L ∧ 0 ≤ L ∧ L < 4503599627370496 := by
  have I := fI64
  have hn : n < fI FP.Core.b64 := by rw [I]; omega
  have vle : ∀ {a b : Nat}, b < fI FP.Core.b64 → a ≤ b → fV FP.Core.b64 a ≤ fV FP.Core.b64 b := fun {a b} hb h => by
    by_cases y : a = b
    · rw [y]; exact Rat.le_refl
    · exact Rat.le_of_lt (V_lt g64 hb (by omega) (by omega))
  have v1 : fV FP.Core.b64 n ≤ fV FP.Core.b64 4611686018427387903 := vle (by rw [I]; omega) (by omega)
  have e1 : fV FP.Core.b64 4611686018427387903 - fV FP.Core.b64 4607182418800017408 = fV FP.Core.b64 4607182418800017406 := by decide +kernel
  have e2 : fV FP.Core.b64 4607182418800017406 * fV FP.Core.b64 4841369599423283200 = fV FP.Core.b64 4841369599423283198 := by decide +kernel
  have e3 : fV FP.Core.b64 4841369599423283198 = 4503599627370495 := by decide +kernel
  have s := dsubD hn (m := 4607182418800017408) (by rw [I]; omega) h1
  have m1b : rn FP.Core.b64 (fV FP.Core.b64 n - fV FP.Core.b64 4607182418800017408) ≤ 4607182418800017406 := by
    rw [← rn_V g64 (n := 4607182418800017406) (by rw [I]; omega), ← e1]
    exact rn_mono g64 (by grind)
  generalize rn FP.Core.b64 (fV FP.Core.b64 n - fV FP.Core.b64 4607182418800017408) = m1 at *
  have mm := dmulD (n := m1) (m := 4841369599423283200) (by rw [I]; omega) (by rw [I]; omega)
  have v2 := vle (a := m1) (b := 4607182418800017406) (by rw [I]; omega) m1b
  have m2b : rn FP.Core.b64 (fV FP.Core.b64 m1 * fV FP.Core.b64 4841369599423283200) ≤ 4841369599423283198 := by
    rw [← rn_V g64 (n := 4841369599423283198) (by rw [I]; omega), ← e2]
    exact rn_mono g64 (Rat.mul_le_mul_of_nonneg_right v2 (V_nn _))
  generalize rn FP.Core.b64 (fV FP.Core.b64 m1 * fV FP.Core.b64 4841369599423283200) = m2 at *
  have v3 := vle (a := m2) (b := 4841369599423283198) (by rw [I]; omega) m2b
  obtain ⟨t, t1, t2, t3⟩ := toInt_V g64 (n := m2) (by rw [I]; omega) (-2 ^ 63) (2 ^ 63 - 1)
  have tb : t ≤ 4503599627370495 := by
    have : (t : Rat) ≤ ((4503599627370495 : Int) : Rat) := by
      have e4 : ((4503599627370495 : Int) : Rat) = 4503599627370495 := rfl
      rw [e4, ← e3]; exact Rat.le_trans t3 v3
    exact Rat.intCast_le_intCast.mp this
  refine ⟨m1, m2, t, by rw [I]; omega, by rw [I]; omega, s, mm, ?_, t2, by omega⟩
  show Int64.ofInt (FP.Core.toInt (-2 ^ 63) (2 ^ 63 - 1) (FP.Core.decode FP.Core.b64 (UInt64.ofNat m2).toNat)) = _
  rw [tD (by rw [I]; omega), t1]
  congr 1
  omega
theorem two64 : (4611686018427387904 : UInt64) = UInt64.ofNat 4611686018427387904 := rfl
theorem V2_64 : fV FP.Core.b64 4611686018427387904 = 2 := by decide +kernel
/-- up -/
theorem up64 (w : eW) : ∀ (d i f1 f2 n : Nat) (e : Int64), n < 4611686018427387904 → 4607182418800017408 ≤ n + d * 4503599627370496 → i + d < 1000 → d < f1 → d < f2 → 4503599627370496 ≤ n → ∃ r, f_nu_bitsOfDouble_L55 f1 (UInt64.ofNat n) e (Int32.ofInt (i : Nat)) w = some (r, w) ∧ ∀ w', f_mm_bitsOf_L38 f2 (UInt64.ofNat n) e w' = some (r, w') := by
  have I := fI64
  intro d
  induction d with
  | zero =>
    intro i f1 f2 n e h1 h2 h3 h4 h5 h6
    obtain ⟨f1, rfl⟩ : ∃ g, f1 = g + 1 := ⟨f1 - 1, by omega⟩
    obtain ⟨f2, rfl⟩ : ∃ g, f2 = g + 1 := ⟨f2 - 1, by omega⟩
    obtain ⟨m1, m2, L, a1, a2, a3, a4, a5, a6, a7⟩ := finD (show 4607182418800017408 ≤ n by omega) h1
    have c0 : (0 : Int32) ≤ Op.cmpValue (FP.dcmp (UInt64.ofNat n) FP.dconst1) CmpOp.g := by
      rw [show FP.dconst1 = UInt64.ofNat 4607182418800017408 from rfl, cmpD (by rw [I]; omega) (by rw [I]; omega), if_neg (by omega)]
      split <;> decide
    unfold f_nu_bitsOfDouble_L55 f_mm_bitsOf_L38
    refine ⟨(e <<< (((52 : Int32)).toInt64 &&& 63)) + Int64.ofInt L, ?_, fun w' => ?_⟩
    · rw [if_neg (by rw [show (1000 : Int32) = Int32.ofInt 1000 from rfl, ile (by omega) (by omega) (by omega) (by omega)]; omega), if_pos c0, a3, if_pos (nanD a1), a4, if_pos (nanD a2), a5]
    · rw [if_pos c0, a3, if_pos (nanD a1), a4, if_pos (nanD a2), a5, sh_or64 _ a6 a7]
  | succ d ih =>
    intro i f1 f2 n e h1 h2 h3 h4 h5 h6
    by_cases z : 4607182418800017408 ≤ n
    · obtain ⟨f1, rfl⟩ : ∃ g, f1 = g + 1 := ⟨f1 - 1, by omega⟩
      obtain ⟨f2, rfl⟩ : ∃ g, f2 = g + 1 := ⟨f2 - 1, by omega⟩
      exact ih i (f1 + 1) (f2 + 1) n e h1 (Nat.le_trans z (Nat.le_add_right _ _)) (by omega) (by omega) (by omega) h6
    · obtain ⟨f1, rfl⟩ : ∃ g, f1 = g + 1 := ⟨f1 - 1, by omega⟩
      obtain ⟨f2, rfl⟩ : ∃ g, f2 = g + 1 := ⟨f2 - 1, by omega⟩
      have c0 : ¬ ((0 : Int32) ≤ Op.cmpValue (FP.dcmp (UInt64.ofNat n) FP.dconst1) CmpOp.g) := by
        rw [show FP.dconst1 = UInt64.ofNat 4607182418800017408 from rfl, cmpD (by rw [I]; omega) (by rw [I]; omega), if_pos (by omega)]
        decide
      have m : FP.dmul (UInt64.ofNat n) (4611686018427387904 : UInt64) = UInt64.ofNat (n + 4503599627370496) := by
        rw [two64, dmulD (by rw [I]; omega) (by rw [I]; omega), V2_64, dbl_rn g64 (by rw [T64]; exact h6) (by rw [T64, I]; omega), T64]
      unfold f_nu_bitsOfDouble_L55 f_mm_bitsOf_L38
      obtain ⟨r, r1, r2⟩ := ih (i + 1) f1 f2 (n + 4503599627370496) (e - 1) (by omega) (by omega) (by omega) (by omega) (by omega) (by omega)
      refine ⟨r, ?_, fun w' => ?_⟩
      · rw [if_neg (by rw [show (1000 : Int32) = Int32.ofInt 1000 from rfl, ile (by omega) (by omega) (by omega) (by omega)]; omega), if_neg c0, m, if_pos (nanD (by rw [I]; omega)), isucc]
        exact r1
      · rw [if_neg c0, m, if_pos (nanD (by rw [I]; omega))]
        exact r2 w'
theorem down64 (w : eW) : ∀ (d i f1 f2 n : Nat) (e : Int64), n < 4611686018427387904 + d * 4503599627370496 → i + d < 1000 → d < f1 → d < f2 → 4503599627370496 * 100 ≤ n → n < fI FP.Core.b64 → ∃ r, f_nu_bitsOfDouble_L18 f1 (UInt64.ofNat n) e (Int32.ofInt (i : Nat)) w = some (r, w) ∧ ∀ w', f_mm_bitsOf_L15 f2 (UInt64.ofNat n) e w' = some (r, w') := by
  have I := fI64
  have base : ∀ (i f1 f2 n : Nat) (e : Int64), n < 4611686018427387904 → i < 1000 → 0 < f1 → 0 < f2 → 4503599627370496 * 100 ≤ n → ∃ r, f_nu_bitsOfDouble_L18 f1 (UInt64.ofNat n) e (Int32.ofInt (i : Nat)) w = some (r, w) ∧ ∀ w', f_mm_bitsOf_L15 f2 (UInt64.ofNat n) e w' = some (r, w') := by
    intro i f1 f2 n e h1 h3 h4 h5 h6
    obtain ⟨f1, rfl⟩ : ∃ g, f1 = g + 1 := ⟨f1 - 1, by omega⟩
    obtain ⟨f2, rfl⟩ : ∃ g, f2 = g + 1 := ⟨f2 - 1, by omega⟩
    have c0 : (Op.cmpValue (FP.dcmp (UInt64.ofNat n) (4611686018427387904 : UInt64)) CmpOp.l) < 0 := by
      rw [two64, cmpD (by rw [I]; omega) (by rw [I]; omega), if_pos h1]
      decide
    unfold f_nu_bitsOfDouble_L18 f_mm_bitsOf_L15
    obtain ⟨r, r1, r2⟩ := up64 w 950 0 eFu eFu n e h1 (by omega) (by omega) (by rw [eFu_eq]; omega) (by rw [eFu_eq]; omega) (by omega)
    refine ⟨r, ?_, fun w' => ?_⟩
    · rw [if_neg (by rw [show (1000 : Int32) = Int32.ofInt 1000 from rfl, ile (by omega) (by omega) (by omega) (by omega)]; omega), if_pos c0]
      exact r1
    · rw [if_pos c0]; exact r2 w'
  intro d
  induction d with
  | zero =>
    intro i f1 f2 n e h1 h3 h4 h5 h6 h7
    exact base i f1 f2 n e (by omega) (by omega) h4 h5 h6
  | succ d ih =>
    intro i f1 f2 n e h1 h3 h4 h5 h6 h7
    by_cases z : n < 4611686018427387904
    · exact base i f1 f2 n e z (by omega) (by omega) (by omega) h6
    · obtain ⟨f1, rfl⟩ : ∃ g, f1 = g + 1 := ⟨f1 - 1, by omega⟩
      obtain ⟨f2, rfl⟩ : ∃ g, f2 = g + 1 := ⟨f2 - 1, by omega⟩
      have c0 : ¬ ((Op.cmpValue (FP.dcmp (UInt64.ofNat n) (4611686018427387904 : UInt64)) CmpOp.l) < 0) := by
        rw [two64, cmpD (by omega) (by rw [I]; omega), if_neg z]
        split <;> decide
      have m : FP.ddiv (UInt64.ofNat n) (4611686018427387904 : UInt64) = UInt64.ofNat (n - 4503599627370496) := by
        rw [two64, ddivD h7 (by rw [I]; omega) (by omega), V2_64, hlf_rn g64 (by rw [T64]; omega) h7, T64]
      unfold f_nu_bitsOfDouble_L18 f_mm_bitsOf_L15
      obtain ⟨r, r1, r2⟩ := ih (i + 1) f1 f2 (n - 4503599627370496) (e + 1) (by omega) (by omega) (by omega) (by omega) (by omega) (by omega)
      refine ⟨r, ?_, fun w' => ?_⟩
      · rw [if_neg (by rw [show (1000 : Int32) = Int32.ofInt 1000 from rfl, ile (by omega) (by omega) (by omega) (by omega)]; omega), if_neg c0, m, if_pos (nanD (by omega)), isucc]
        exact r1
      · rw [if_neg c0, m, if_pos (nanD (by omega))]
        exact r2 w'
/-- both say a number's bits alike -/
theorem bits64 {n : Nat} (h : n = 0 ∨ (4503599627370496 * 100 ≤ n ∧ n < 4503599627370496 * 1900)) (w : eW) : ∃ r, f_nu_bitsOfDouble (UInt64.ofNat n) w = some (r, w) ∧ ∀ w', f_mm_bitsOf (UInt64.ofNat n) w' = some (r, w') := by
  have I := fI64
  unfold f_nu_bitsOfDouble f_mm_bitsOf
  rw [show FP.dconst0 = UInt64.ofNat 0 from rfl]
  rcases h with rfl | ⟨h1, h2⟩
  · refine ⟨0, ?_, fun w' => ?_⟩
    · rw [cmpD (by omega) (by omega), if_neg (by decide)]
    · rw [cmpD (by omega) (by omega), if_neg (by decide)]
  · have c : ∀ op, Op.cmpValue (FP.dcmp (UInt64.ofNat n) (UInt64.ofNat 0)) op = 1 := fun op => by rw [cmpD (by rw [I]; omega) (by omega), if_neg (by omega), if_neg (by omega)]
    obtain ⟨r, r1, r2⟩ := down64 w 900 0 eFu eFu n 1023 (by omega) (by omega) (by rw [eFu_eq]; omega) (by rw [eFu_eq]; omega) h1 (by rw [I]; omega)
    refine ⟨r, ?_, fun w' => ?_⟩
    · rw [c, if_pos (by decide)]; exact r1
    · rw [c, if_pos (by decide)]; exact r2 w'
end
