/-! ===== bits ===== -/
section
theorem sh_fin : ∀ h : Fin 32, ((Int32.ofInt ((h : Nat) : Int) &&& 31).toBitVec.smod 32) = BitVec.ofNat 32 h := by decide
theorem sh_eq {h : Nat} (hh : h < 32) : ((Int32.ofInt (h : Nat) &&& 31).toBitVec.smod 32) = BitVec.ofNat 32 h := sh_fin ⟨h, hh⟩
theorem sb_bit (x : Int32) {h : Nat} (hh : h < 32) : sb x h = x.toBitVec.getLsbD h := by
  unfold sb
  have e : (((x >>> (Int32.ofInt (h : Nat) &&& 31)) &&& 1) = 1) ↔ x.toBitVec.getLsbD h = true := by
    rw [← Int32.toBitVec_inj, Int32.toBitVec_and, Int32.toBitVec_shiftRight, sh_eq hh]
    rw [show (1 : Int32).toBitVec = 1#32 from rfl, BitVec.and_one_eq_setWidth_ofBool_getLsbD]
    have : (x.toBitVec.sshiftRight' (BitVec.ofNat 32 h)).getLsbD 0 = x.toBitVec.getLsbD h := by
      rw [BitVec.sshiftRight', BitVec.getLsbD_sshiftRight]
      simp [Nat.mod_eq_of_lt (show h < 4294967296 by omega), hh]
    rw [this]
    cases x.toBitVec.getLsbD h <;> decide
  cases hx : x.toBitVec.getLsbD h
  · rw [hx] at e
    exact decide_eq_false (fun z => by have := e.mp z; cases this)
  · exact decide_eq_true (e.mpr hx)
theorem sb_or (x y : Int32) {h : Nat} (hh : h < 32) : sb (x ||| y) h = (sb x h || sb y h) := by
  rw [sb_bit _ hh, sb_bit _ hh, sb_bit _ hh, Int32.toBitVec_or, BitVec.getLsbD_or]
theorem sb_xor (x y : Int32) {h : Nat} (hh : h < 32) : sb (x ^^^ y) h = (sb x h ^^ sb y h) := by
  rw [sb_bit _ hh, sb_bit _ hh, sb_bit _ hh, Int32.toBitVec_xor, BitVec.getLsbD_xor]
theorem sb_and (x y : Int32) {h : Nat} (hh : h < 32) : sb (x &&& y) h = (sb x h && sb y h) := by
  rw [sb_bit _ hh, sb_bit _ hh, sb_bit _ hh, Int32.toBitVec_and, BitVec.getLsbD_and]
theorem sb_shl (x : Int32) {h j : Nat} (hh : h < 32) (hj : j < 32) : sb (x <<< (Int32.ofInt (j : Nat) &&& 31)) h = (decide (j ≤ h) && sb x (h - j)) := by
  rw [sb_bit _ hh, sb_bit _ (by omega), Int32.toBitVec_shiftLeft, sh_eq hj, BitVec.shiftLeft_eq', BitVec.getLsbD_shiftLeft]
  simp only [BitVec.toNat_ofNat, Nat.mod_eq_of_lt (show j < 2 ^ 32 by omega)]
  by_cases e : h < j
  · simp [e, show ¬ j ≤ h by omega]
  · simp [e, hh, show j ≤ h by omega]
theorem sb_nat (r : Nat) {h : Nat} (hh : h < 32) : sb (Int32.ofInt (r : Nat)) h = r.testBit h := by
  rw [sb_bit _ hh, show (Int32.ofInt (r : Nat)).toBitVec = BitVec.ofNat 32 r from by rw [Int32.toBitVec_ofInt, BitVec.ofInt_natCast], BitVec.getLsbD_ofNat]
  simp [hh]
theorem sb_ext {x y : Int32} (h : ∀ i, i < 32 → sb x i = sb y i) : x = y := by
  rw [← Int32.toBitVec_inj]
  refine BitVec.eq_of_getLsbD_eq fun i hi => ?_
  have := h i hi
  rw [sb_bit _ hi, sb_bit _ hi] at this
  exact this
theorem sb_zero (h : Nat) (hh : h < 32) : sb 0 h = false := by rw [show (0 : Int32) = Int32.ofInt ((0 : Nat) : Int) from rfl, sb_nat _ hh]; simp
theorem sb_one (h : Nat) (hh : h < 32) : sb 1 h = decide (h = 0) := by
  rw [show (1 : Int32) = Int32.ofInt ((2 ^ 0 : Nat) : Int) from rfl, sb_nat _ hh, Nat.testBit_two_pow]
  simp [eq_comm]
theorem sb_pow {h j : Nat} (hh : h < 32) (hj : j < 32) : sb ((1 : Int32) <<< (Int32.ofInt (j : Nat) &&& 31)) h = decide (h = j) := by
  rw [sb_shl _ hh hj, sb_one _ (by omega)]
  by_cases e : h = j
  · simp [e]
  · by_cases g : j ≤ h
    · simp [e, g]; omega
    · simp [e, g]
theorem pow_nat {j : Nat} (hj : j < 31) : (1 : Int32) <<< (Int32.ofInt (j : Nat) &&& 31) = Int32.ofInt ((2 ^ j : Nat) : Int) := by
  refine sb_ext fun i hi => ?_
  rw [sb_pow hi (by omega), sb_nat _ hi, Nat.testBit_two_pow]
  simp [eq_comm]
theorem sb_bitat (x : Int32) {h i j : Nat} (hh : h < 32) (hi : i < 32) (hj : j < 32) : sb (((x >>> (Int32.ofInt (i : Nat) &&& 31)) &&& (1 : Int32)) <<< (Int32.ofInt (j : Nat) &&& 31)) h = (decide (h = j) && sb x i) := by
  rw [sb_shl _ hh hj, sb_and _ _ (by omega), sb_one _ (by omega)]
  by_cases e : h = j
  · subst e
    simp only [Nat.le_refl, decide_true, Bool.true_and, Nat.sub_self, Bool.and_true]
    have e2 : sb (x >>> (Int32.ofInt (i : Nat) &&& 31)) 0 = sb x i := by
      rw [sb_bit _ (by omega), sb_bit _ hi, Int32.toBitVec_shiftRight, sh_eq hi, BitVec.sshiftRight', BitVec.getLsbD_sshiftRight]
      simp [Nat.mod_eq_of_lt (show i < 4294967296 by omega), hi]
    exact e2
  · by_cases g : j ≤ h
    · simp [e, show ¬ h - j = 0 by omega]
    · simp [e, g]
end
