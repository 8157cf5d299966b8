/-! ===== bytes ===== -/
section
/-- a byte as both hold it -/
def BR (x y : Int32) : Prop := ∃ b : Int, 0 ≤ b ∧ b < 256 ∧ y = Int32.ofInt b ∧ x = Int32.ofInt (if b < 128 then b else b - 256)
theorem nar_byte (x : Int32) : vp_nar .byte x = x.toInt8.toInt32 := rfl
theorem two55 : ∀ i : Fin 32, (255#32).getLsbD i = decide (i.1 < 8) := by decide
theorem byte_ok (a : Int32) {k : Nat} (hk : k ≤ 24) : BR (vp_nar .byte ((((a).toUInt32 >>> ((Int32.ofInt (k : Nat)).toUInt32 &&& Int32.toUInt32 31)).toInt32).toInt8.toInt32)) ((a >>> (Int32.ofInt (k : Nat) &&& 31)) &&& (255 : Int32)) := by
  have sh : ∀ h : Fin 32, ((Int32.ofInt ((h : Nat) : Int)).toUInt32 &&& Int32.toUInt32 31).toBitVec % 32 = BitVec.ofNat 32 h := by decide
  have e : ((a >>> (Int32.ofInt (k : Nat) &&& 31)) &&& (255 : Int32)).toBitVec = ((a.toBitVec >>> k).setWidth 8).setWidth 32 := by
    rw [Int32.toBitVec_and, Int32.toBitVec_shiftRight, sh_eq (by omega)]
    refine BitVec.eq_of_getLsbD_eq fun i hi => ?_
    rw [BitVec.getLsbD_and, BitVec.sshiftRight', BitVec.getLsbD_sshiftRight, show (255 : Int32).toBitVec = 255#32 from rfl, two55 ⟨i, hi⟩]
    simp only [BitVec.toNat_ofNat, Nat.mod_eq_of_lt (show k < 2 ^ 32 by omega), BitVec.getLsbD_setWidth, BitVec.getLsbD_ushiftRight]
    by_cases z : i < 8
    · simp [z, hi, show ¬ 32 ≤ i by omega, show k + i < 32 by omega]
    · simp [z]
  generalize hE : (a.toBitVec >>> k).setWidth 8 = E at e
  refine ⟨(E.toNat : Int), by omega, by have := E.isLt; omega, ?_, ?_⟩
  · rw [← Int32.toBitVec_inj, e, Int32.toBitVec_ofInt, BitVec.ofInt_natCast, BitVec.ofNat_toNat]
  · rw [nar_byte, Int8.toInt8_toInt32, ← Int32.toInt_inj, Int8.toInt_toInt32, toI_ofI (by have := E.isLt; split <;> omega) (by have := E.isLt; split <;> omega)]
    have eb : ((((a).toUInt32 >>> ((Int32.ofInt (k : Nat)).toUInt32 &&& Int32.toUInt32 31)).toInt32).toInt8).toBitVec = E := by
      rw [Int32.toBitVec_toInt8, UInt32.toBitVec_toInt32, UInt32.toBitVec_shiftRight, sh ⟨k, by omega⟩, BitVec.signExtend_eq_setWidth_of_le _ (by omega), ← hE]
      congr 1
      rw [BitVec.ushiftRight_eq', BitVec.toNat_ofNat, Nat.mod_eq_of_lt (show k < 2 ^ 32 by omega)]
      rfl
    show (((((a).toUInt32 >>> ((Int32.ofInt (k : Nat)).toUInt32 &&& Int32.toUInt32 31)).toInt32).toInt8).toBitVec).toInt = _
    rw [eb, BitVec.toInt_eq_toNat_cond]
    split <;> split <;> omega
end
