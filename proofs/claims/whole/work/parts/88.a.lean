/-! ===== the text: what stands in a line ===== -/
theorem echk_l {ρ : Type} {i : Int32} {n : Nat} {x : Option ρ} (h : ¬ (i < 0 ∨ n ≤ i.toNatClampNeg)) : eChk i n x = x := if_pos h
noncomputable def SG (w : eW) : Option (Int32 × eW) := (f_re_readSign w).bind fun p2 => (if ¬ p2.1 = 0 then ((f_ta_scan p2.2).bind fun w3 => some ((1 : Int32), w3)) else (some ((0 : Int32), p2.2)))
noncomputable def iSign (K : eW → Option (Int32 × eW)) (w : eW) : Option (Int32 × eW) := (f_re_readSign w).bind fun p2 => (if ¬ p2.1 = 0 then ((f_ta_scan p2.2).bind fun w3 => (K w3)) else (some ((0 : Int32), p2.2)))
noncomputable def iNum (a l h : Int32) (K : eW → Option (Int32 × eW)) (w : eW) : Option (Int32 × eW) := (f_re_readNumber a l h w).bind fun p8 => (if ¬ p8.1 = 0 then ((f_ta_scan p8.2).bind fun w9 => (K w9)) else (some ((0 : Int32), p8.2)))
noncomputable def iWord (a : Int32) (K : eW → Option (Int32 × eW)) (w : eW) : Option (Int32 × eW) := (f_re_readWord a w).bind fun p4 => (if ¬ p4.1 = 0 then ((f_ta_scan p4.2).bind fun w5 => (K w5)) else (some ((0 : Int32), p4.2)))
noncomputable def iName (K : eW → Option (Int32 × eW)) (w : eW) : Option (Int32 × eW) := (f_re_readName w).bind fun p6 => (if ¬ p6.1 = 0 then ((f_ta_scan p6.2).bind fun w7 => (K w7)) else (some ((0 : Int32), p6.2)))
noncomputable def iOpt (a : Int32) (K1 K2 : eW → Option (Int32 × eW)) (w : eW) : Option (Int32 × eW) := (f_re_keptWord w).bind fun p1 => (if p1.1 = a then iWord a K1 p1.2 else K2 p1.2)
theorem e39_0 (f : Nat) : f_re_readItems_39_L4 (f + 1) 0 = iName (f_re_readItems_39_L4 f 4) := by
  funext w
  rw [f_re_readItems_39_L4, if_neg (by decide), echk_l (by decide), if_pos (by decide), f_re_readItems_39_J28, if_pos rfl, f_re_readItems_39_J68, echk_l (by decide), if_pos (by decide), echk_l (by decide), if_neg (by decide)]
  rfl
theorem e39_4 (f : Nat) : f_re_readItems_39_L4 (f + 1) 4 = iNum 1 1 9999 (f_re_readItems_39_L4 f 8) := by
  funext w
  rw [f_re_readItems_39_L4, if_neg (by decide), echk_l (by decide), if_pos (by decide), f_re_readItems_39_J28, if_pos rfl, f_re_readItems_39_J68, echk_l (by decide), if_neg (by decide), echk_l (by decide), echk_l (by decide), echk_l (by decide), (show List.getD zCOMMON_LINE (Int32.toNatClampNeg ((4 : Int32) + (1 : Int32))) 0 = (1 : Int32) by decide), (show List.getD zCOMMON_LINE (Int32.toNatClampNeg ((4 : Int32) + (2 : Int32))) 0 = (1 : Int32) by decide), (show List.getD zCOMMON_LINE (Int32.toNatClampNeg ((4 : Int32) + (3 : Int32))) 0 = (9999 : Int32) by decide)]
  rfl
theorem e39_8 (f : Nat) : f_re_readItems_39_L4 (f + 1) 8 = iSign (f_re_readItems_39_L4 f 12) := by
  funext w
  rw [f_re_readItems_39_L4, if_neg (by decide), echk_l (by decide), if_pos (by decide), f_re_readItems_39_J28, if_pos rfl, f_re_readItems_39_J68, echk_l (by decide), if_pos (by decide), echk_l (by decide), if_pos (by decide), if_pos rfl]
  rfl
theorem s39 (f : Nat) : f_re_readItems_39_L4 (f + 2) 8 = SG := by
  funext w
  rw [e39_8]
  unfold iSign SG
  have e : ∀ w3, f_re_readItems_39_L4 (f + 1) 12 w3 = some ((1 : Int32), w3) := fun w3 => by rw [f_re_readItems_39_L4, if_pos (by decide)]
  simp only [e]
theorem e40_0 (f : Nat) : f_re_readItems_40_L4 (f + 1) 0 = iName (f_re_readItems_40_L4 f 4) := by
  funext w
  rw [f_re_readItems_40_L4, if_neg (by decide), echk_l (by decide), if_pos (by decide), f_re_readItems_40_J28, if_pos rfl, f_re_readItems_40_J68, echk_l (by decide), if_pos (by decide), echk_l (by decide), if_neg (by decide)]
  rfl
theorem e40_4 (f : Nat) : f_re_readItems_40_L4 (f + 1) 4 = iNum 1 1 9999 (f_re_readItems_40_L4 f 8) := by
  funext w
  rw [f_re_readItems_40_L4, if_neg (by decide), echk_l (by decide), if_pos (by decide), f_re_readItems_40_J28, if_pos rfl, f_re_readItems_40_J68, echk_l (by decide), if_neg (by decide), echk_l (by decide), echk_l (by decide), echk_l (by decide), (show List.getD zOPTION_LINE (Int32.toNatClampNeg ((4 : Int32) + (1 : Int32))) 0 = (1 : Int32) by decide), (show List.getD zOPTION_LINE (Int32.toNatClampNeg ((4 : Int32) + (2 : Int32))) 0 = (1 : Int32) by decide), (show List.getD zOPTION_LINE (Int32.toNatClampNeg ((4 : Int32) + (3 : Int32))) 0 = (9999 : Int32) by decide)]
  rfl
theorem e40_8 (f : Nat) : f_re_readItems_40_L4 (f + 1) 8 = iWord 4 (f_re_readItems_40_L4 f 12) := by
  funext w
  rw [f_re_readItems_40_L4, if_neg (by decide), echk_l (by decide), if_neg (by decide), f_re_readItems_40_J28, if_neg (by decide), echk_l (by decide), if_pos (by decide), f_re_readItems_40_J68, echk_l (by decide), if_pos (by decide), echk_l (by decide), if_pos (by decide), if_neg (by decide), echk_l (by decide), (show List.getD zOPTION_LINE (Int32.toNatClampNeg ((8 : Int32) + (1 : Int32))) 0 = (4 : Int32) by decide)]
  rfl
theorem e40_12 (f : Nat) : f_re_readItems_40_L4 (f + 1) 12 = iNum 2 1 999 (f_re_readItems_40_L4 f 16) := by
  funext w
  rw [f_re_readItems_40_L4, if_neg (by decide), echk_l (by decide), if_pos (by decide), f_re_readItems_40_J28, if_pos rfl, f_re_readItems_40_J68, echk_l (by decide), if_neg (by decide), echk_l (by decide), echk_l (by decide), echk_l (by decide), (show List.getD zOPTION_LINE (Int32.toNatClampNeg ((12 : Int32) + (1 : Int32))) 0 = (2 : Int32) by decide), (show List.getD zOPTION_LINE (Int32.toNatClampNeg ((12 : Int32) + (2 : Int32))) 0 = (1 : Int32) by decide), (show List.getD zOPTION_LINE (Int32.toNatClampNeg ((12 : Int32) + (3 : Int32))) 0 = (999 : Int32) by decide)]
  rfl
theorem e40_16 (f : Nat) : f_re_readItems_40_L4 (f + 1) 16 = iSign (f_re_readItems_40_L4 f 20) := by
  funext w
  rw [f_re_readItems_40_L4, if_neg (by decide), echk_l (by decide), if_pos (by decide), f_re_readItems_40_J28, if_pos rfl, f_re_readItems_40_J68, echk_l (by decide), if_pos (by decide), echk_l (by decide), if_pos (by decide), if_pos rfl]
  rfl
theorem s40 (f : Nat) : f_re_readItems_40_L4 (f + 2) 16 = SG := by
  funext w
  rw [e40_16]
  unfold iSign SG
  have e : ∀ w3, f_re_readItems_40_L4 (f + 1) 20 w3 = some ((1 : Int32), w3) := fun w3 => by rw [f_re_readItems_40_L4, if_pos (by decide)]
  simp only [e]
theorem e41_0 (f : Nat) : f_re_readItems_41_L4 (f + 1) 0 = iName (f_re_readItems_41_L4 f 4) := by
  funext w
  rw [f_re_readItems_41_L4, if_neg (by decide), echk_l (by decide), if_pos (by decide), f_re_readItems_41_J28, if_pos rfl, f_re_readItems_41_J68, echk_l (by decide), if_pos (by decide), echk_l (by decide), if_neg (by decide)]
  rfl
theorem e41_4 (f : Nat) : f_re_readItems_41_L4 (f + 1) 4 = iNum 1 1 9999 (f_re_readItems_41_L4 f 8) := by
  funext w
  rw [f_re_readItems_41_L4, if_neg (by decide), echk_l (by decide), if_pos (by decide), f_re_readItems_41_J28, if_pos rfl, f_re_readItems_41_J68, echk_l (by decide), if_neg (by decide), echk_l (by decide), echk_l (by decide), echk_l (by decide), (show List.getD zCLASS_LINE (Int32.toNatClampNeg ((4 : Int32) + (1 : Int32))) 0 = (1 : Int32) by decide), (show List.getD zCLASS_LINE (Int32.toNatClampNeg ((4 : Int32) + (2 : Int32))) 0 = (1 : Int32) by decide), (show List.getD zCLASS_LINE (Int32.toNatClampNeg ((4 : Int32) + (3 : Int32))) 0 = (9999 : Int32) by decide)]
  rfl
theorem e41_8 (f : Nat) : f_re_readItems_41_L4 (f + 1) 8 = iWord 4 (f_re_readItems_41_L4 f 12) := by
  funext w
  rw [f_re_readItems_41_L4, if_neg (by decide), echk_l (by decide), if_neg (by decide), f_re_readItems_41_J28, if_neg (by decide), echk_l (by decide), if_pos (by decide), f_re_readItems_41_J68, echk_l (by decide), if_pos (by decide), echk_l (by decide), if_pos (by decide), if_neg (by decide), echk_l (by decide), (show List.getD zCLASS_LINE (Int32.toNatClampNeg ((8 : Int32) + (1 : Int32))) 0 = (4 : Int32) by decide)]
  rfl
theorem e41_12 (f : Nat) : f_re_readItems_41_L4 (f + 1) 12 = iNum 2 1 99 (f_re_readItems_41_L4 f 16) := by
  funext w
  rw [f_re_readItems_41_L4, if_neg (by decide), echk_l (by decide), if_pos (by decide), f_re_readItems_41_J28, if_pos rfl, f_re_readItems_41_J68, echk_l (by decide), if_neg (by decide), echk_l (by decide), echk_l (by decide), echk_l (by decide), (show List.getD zCLASS_LINE (Int32.toNatClampNeg ((12 : Int32) + (1 : Int32))) 0 = (2 : Int32) by decide), (show List.getD zCLASS_LINE (Int32.toNatClampNeg ((12 : Int32) + (2 : Int32))) 0 = (1 : Int32) by decide), (show List.getD zCLASS_LINE (Int32.toNatClampNeg ((12 : Int32) + (3 : Int32))) 0 = (99 : Int32) by decide)]
  rfl
theorem e41_16 (f : Nat) : f_re_readItems_41_L4 (f + 1) 16 = iWord 5 (f_re_readItems_41_L4 f 20) := by
  funext w
  rw [f_re_readItems_41_L4, if_neg (by decide), echk_l (by decide), if_neg (by decide), f_re_readItems_41_J28, if_neg (by decide), echk_l (by decide), if_pos (by decide), f_re_readItems_41_J68, echk_l (by decide), if_pos (by decide), echk_l (by decide), if_pos (by decide), if_neg (by decide), echk_l (by decide), (show List.getD zCLASS_LINE (Int32.toNatClampNeg ((16 : Int32) + (1 : Int32))) 0 = (5 : Int32) by decide)]
  rfl
theorem e41_20 (f : Nat) : f_re_readItems_41_L4 (f + 1) 20 = iNum 3 0 5 (f_re_readItems_41_L4 f 24) := by
  funext w
  rw [f_re_readItems_41_L4, if_neg (by decide), echk_l (by decide), if_pos (by decide), f_re_readItems_41_J28, if_pos rfl, f_re_readItems_41_J68, echk_l (by decide), if_neg (by decide), echk_l (by decide), echk_l (by decide), echk_l (by decide), (show List.getD zCLASS_LINE (Int32.toNatClampNeg ((20 : Int32) + (1 : Int32))) 0 = (3 : Int32) by decide), (show List.getD zCLASS_LINE (Int32.toNatClampNeg ((20 : Int32) + (2 : Int32))) 0 = (0 : Int32) by decide), (show List.getD zCLASS_LINE (Int32.toNatClampNeg ((20 : Int32) + (3 : Int32))) 0 = (5 : Int32) by decide)]
  rfl
theorem e41_24 (f : Nat) : f_re_readItems_41_L4 (f + 1) 24 = iOpt 6 (f_re_readItems_41_L4 f 28) (f_re_readItems_41_L4 f 32) := by
  funext w
  rw [f_re_readItems_41_L4, if_neg (by decide), echk_l (by decide), if_neg (by decide), f_re_readItems_41_J28, if_neg (by decide), echk_l (by decide), if_neg (by decide)]
  unfold iOpt
  congr 1
theorem e41_28 (f : Nat) : f_re_readItems_41_L4 (f + 1) 28 = iNum 4 0 400 (f_re_readItems_41_L4 f 32) := by
  funext w
  rw [f_re_readItems_41_L4, if_neg (by decide), echk_l (by decide), if_pos (by decide), f_re_readItems_41_J28, if_pos rfl, f_re_readItems_41_J68, echk_l (by decide), if_neg (by decide), echk_l (by decide), echk_l (by decide), echk_l (by decide), (show List.getD zCLASS_LINE (Int32.toNatClampNeg ((28 : Int32) + (1 : Int32))) 0 = (4 : Int32) by decide), (show List.getD zCLASS_LINE (Int32.toNatClampNeg ((28 : Int32) + (2 : Int32))) 0 = (0 : Int32) by decide), (show List.getD zCLASS_LINE (Int32.toNatClampNeg ((28 : Int32) + (3 : Int32))) 0 = (400 : Int32) by decide)]
  rfl
theorem e41_32 (f : Nat) : f_re_readItems_41_L4 (f + 1) 32 = iOpt 7 (f_re_readItems_41_L4 f 36) (f_re_readItems_41_L4 f 40) := by
  funext w
  rw [f_re_readItems_41_L4, if_neg (by decide), echk_l (by decide), if_neg (by decide), f_re_readItems_41_J28, if_neg (by decide), echk_l (by decide), if_neg (by decide)]
  unfold iOpt
  congr 1
theorem e41_36 (f : Nat) : f_re_readItems_41_L4 (f + 1) 36 = iNum 5 1 400 (f_re_readItems_41_L4 f 40) := by
  funext w
  rw [f_re_readItems_41_L4, if_neg (by decide), echk_l (by decide), if_pos (by decide), f_re_readItems_41_J28, if_pos rfl, f_re_readItems_41_J68, echk_l (by decide), if_neg (by decide), echk_l (by decide), echk_l (by decide), echk_l (by decide), (show List.getD zCLASS_LINE (Int32.toNatClampNeg ((36 : Int32) + (1 : Int32))) 0 = (5 : Int32) by decide), (show List.getD zCLASS_LINE (Int32.toNatClampNeg ((36 : Int32) + (2 : Int32))) 0 = (1 : Int32) by decide), (show List.getD zCLASS_LINE (Int32.toNatClampNeg ((36 : Int32) + (3 : Int32))) 0 = (400 : Int32) by decide)]
  rfl
theorem e41_40 (f : Nat) : f_re_readItems_41_L4 (f + 1) 40 = iOpt 8 (f_re_readItems_41_L4 f 44) (f_re_readItems_41_L4 f 52) := by
  funext w
  rw [f_re_readItems_41_L4, if_neg (by decide), echk_l (by decide), if_neg (by decide), f_re_readItems_41_J28, if_neg (by decide), echk_l (by decide), if_neg (by decide)]
  unfold iOpt
  congr 1
theorem e41_44 (f : Nat) : f_re_readItems_41_L4 (f + 1) 44 = iOpt 9 (f_re_readItems_41_L4 f 48) (f_re_readItems_41_L4 f 52) := by
  funext w
  rw [f_re_readItems_41_L4, if_neg (by decide), echk_l (by decide), if_neg (by decide), f_re_readItems_41_J28, if_neg (by decide), echk_l (by decide), if_neg (by decide)]
  unfold iOpt
  congr 1
theorem e41_48 (f : Nat) : f_re_readItems_41_L4 (f + 1) 48 = iNum 7 0 2000 (f_re_readItems_41_L4 f 52) := by
  funext w
  rw [f_re_readItems_41_L4, if_neg (by decide), echk_l (by decide), if_pos (by decide), f_re_readItems_41_J28, if_pos rfl, f_re_readItems_41_J68, echk_l (by decide), if_neg (by decide), echk_l (by decide), echk_l (by decide), echk_l (by decide), (show List.getD zCLASS_LINE (Int32.toNatClampNeg ((48 : Int32) + (1 : Int32))) 0 = (7 : Int32) by decide), (show List.getD zCLASS_LINE (Int32.toNatClampNeg ((48 : Int32) + (2 : Int32))) 0 = (0 : Int32) by decide), (show List.getD zCLASS_LINE (Int32.toNatClampNeg ((48 : Int32) + (3 : Int32))) 0 = (2000 : Int32) by decide)]
  rfl
theorem e41_52 (f : Nat) : f_re_readItems_41_L4 (f + 1) 52 = iOpt 10 (f_re_readItems_41_L4 f 56) (f_re_readItems_41_L4 f 64) := by
  funext w
  rw [f_re_readItems_41_L4, if_neg (by decide), echk_l (by decide), if_neg (by decide), f_re_readItems_41_J28, if_neg (by decide), echk_l (by decide), if_neg (by decide)]
  unfold iOpt
  congr 1
theorem e41_56 (f : Nat) : f_re_readItems_41_L4 (f + 1) 56 = iNum 8 0 30 (f_re_readItems_41_L4 f 60) := by
  funext w
  rw [f_re_readItems_41_L4, if_neg (by decide), echk_l (by decide), if_pos (by decide), f_re_readItems_41_J28, if_pos rfl, f_re_readItems_41_J68, echk_l (by decide), if_neg (by decide), echk_l (by decide), echk_l (by decide), echk_l (by decide), (show List.getD zCLASS_LINE (Int32.toNatClampNeg ((56 : Int32) + (1 : Int32))) 0 = (8 : Int32) by decide), (show List.getD zCLASS_LINE (Int32.toNatClampNeg ((56 : Int32) + (2 : Int32))) 0 = (0 : Int32) by decide), (show List.getD zCLASS_LINE (Int32.toNatClampNeg ((56 : Int32) + (3 : Int32))) 0 = (30 : Int32) by decide)]
  rfl
theorem e41_60 (f : Nat) : f_re_readItems_41_L4 (f + 1) 60 = iNum 9 0 20 (f_re_readItems_41_L4 f 64) := by
  funext w
  rw [f_re_readItems_41_L4, if_neg (by decide), echk_l (by decide), if_pos (by decide), f_re_readItems_41_J28, if_pos rfl, f_re_readItems_41_J68, echk_l (by decide), if_neg (by decide), echk_l (by decide), echk_l (by decide), echk_l (by decide), (show List.getD zCLASS_LINE (Int32.toNatClampNeg ((60 : Int32) + (1 : Int32))) 0 = (9 : Int32) by decide), (show List.getD zCLASS_LINE (Int32.toNatClampNeg ((60 : Int32) + (2 : Int32))) 0 = (0 : Int32) by decide), (show List.getD zCLASS_LINE (Int32.toNatClampNeg ((60 : Int32) + (3 : Int32))) 0 = (20 : Int32) by decide)]
  rfl
theorem e41_64 (f : Nat) : f_re_readItems_41_L4 (f + 1) 64 = iSign (f_re_readItems_41_L4 f 68) := by
  funext w
  rw [f_re_readItems_41_L4, if_neg (by decide), echk_l (by decide), if_pos (by decide), f_re_readItems_41_J28, if_pos rfl, f_re_readItems_41_J68, echk_l (by decide), if_pos (by decide), echk_l (by decide), if_pos (by decide), if_pos rfl]
  rfl
theorem s41 (f : Nat) : f_re_readItems_41_L4 (f + 2) 64 = SG := by
  funext w
  rw [e41_64]
  unfold iSign SG
  have e : ∀ w3, f_re_readItems_41_L4 (f + 1) 68 w3 = some ((1 : Int32), w3) := fun w3 => by rw [f_re_readItems_41_L4, if_pos (by decide)]
  simp only [e]
theorem e42_0 (f : Nat) : f_re_readItems_42_L4 (f + 1) 0 = iNum 11 0 50 (f_re_readItems_42_L4 f 4) := by
  funext w
  rw [f_re_readItems_42_L4, if_neg (by decide), echk_l (by decide), if_pos (by decide), f_re_readItems_42_J28, if_pos rfl, f_re_readItems_42_J68, echk_l (by decide), if_neg (by decide), echk_l (by decide), echk_l (by decide), echk_l (by decide), (show List.getD zCARVE_LINE (Int32.toNatClampNeg ((0 : Int32) + (1 : Int32))) 0 = (11 : Int32) by decide), (show List.getD zCARVE_LINE (Int32.toNatClampNeg ((0 : Int32) + (2 : Int32))) 0 = (0 : Int32) by decide), (show List.getD zCARVE_LINE (Int32.toNatClampNeg ((0 : Int32) + (3 : Int32))) 0 = (50 : Int32) by decide)]
  rfl
theorem e42_4 (f : Nat) : f_re_readItems_42_L4 (f + 1) 4 = iSign (f_re_readItems_42_L4 f 8) := by
  funext w
  rw [f_re_readItems_42_L4, if_neg (by decide), echk_l (by decide), if_pos (by decide), f_re_readItems_42_J28, if_pos rfl, f_re_readItems_42_J68, echk_l (by decide), if_pos (by decide), echk_l (by decide), if_pos (by decide), if_pos rfl]
  rfl
theorem s42 (f : Nat) : f_re_readItems_42_L4 (f + 2) 4 = SG := by
  funext w
  rw [e42_4]
  unfold iSign SG
  have e : ∀ w3, f_re_readItems_42_L4 (f + 1) 8 w3 = some ((1 : Int32), w3) := fun w3 => by rw [f_re_readItems_42_L4, if_pos (by decide)]
  simp only [e]
noncomputable def tYear : eW → Option (Int32 × eW) := iOpt 10 (iNum 8 0 30 (iNum 9 0 20 SG)) SG
noncomputable def tCap : eW → Option (Int32 × eW) := iOpt 9 (iNum 7 0 2000 tYear) tYear
noncomputable def tShare : eW → Option (Int32 × eW) := iOpt 8 tCap tYear
noncomputable def tRatio : eW → Option (Int32 × eW) := iOpt 7 (iNum 5 1 400 tShare) tShare
noncomputable def tTimes : eW → Option (Int32 × eW) := iOpt 6 (iNum 4 0 400 tRatio) tRatio
theorem x_year (f : Nat) : f_re_readItems_41_L4 (f + 5) 52 = tYear := by
  rw [e41_52 (f + 4), e41_56 (f + 3), e41_60 (f + 2), s41 (f + 2), s41 f]; rfl
theorem x_cap (f : Nat) : f_re_readItems_41_L4 (f + 7) 44 = tCap := by
  rw [e41_44 (f + 6), e41_48 (f + 5), x_year (f + 1), x_year f]; rfl
theorem x_share (f : Nat) : f_re_readItems_41_L4 (f + 8) 40 = tShare := by
  rw [e41_40 (f + 7), x_cap f, x_year (f + 2)]; rfl
theorem x_ratio (f : Nat) : f_re_readItems_41_L4 (f + 10) 32 = tRatio := by
  rw [e41_32 (f + 9), e41_36 (f + 8), x_share (f + 1), x_share f]; rfl
theorem x_times (f : Nat) : f_re_readItems_41_L4 (f + 12) 24 = tTimes := by
  rw [e41_24 (f + 11), e41_28 (f + 10), x_ratio (f + 1), x_ratio f]; rfl
theorem x_class : f_re_readItems_41 = iName (iNum 1 1 9999 (iWord 4 (iNum 2 1 99 (iWord 5 (iNum 3 0 5 tTimes))))) := by
  obtain ⟨f, hf⟩ : ∃ f, eFu = f + 18 := ⟨999982, by rw [eFu_eq]⟩
  funext w
  unfold f_re_readItems_41
  rw [hf, e41_0 (f + 17), e41_4 (f + 16), e41_8 (f + 15), e41_12 (f + 14), e41_16 (f + 13), e41_20 (f + 12), x_times f]
theorem x_option : f_re_readItems_40 = iName (iNum 1 1 9999 (iWord 4 (iNum 2 1 999 SG))) := by
  obtain ⟨f, hf⟩ : ∃ f, eFu = f + 6 := ⟨999994, by rw [eFu_eq]⟩
  funext w
  unfold f_re_readItems_40
  rw [hf, e40_0 (f + 5), e40_4 (f + 4), e40_8 (f + 3), e40_12 (f + 2), s40 f]
theorem x_common : f_re_readItems_39 = iName (iNum 1 1 9999 SG) := by
  obtain ⟨f, hf⟩ : ∃ f, eFu = f + 4 := ⟨999996, by rw [eFu_eq]⟩
  funext w
  unfold f_re_readItems_39
  rw [hf, e39_0 (f + 3), e39_4 (f + 2), s39 f]
theorem x_carve : f_re_readItems_42 = iNum 11 0 50 SG := by
  obtain ⟨f, hf⟩ : ∃ f, eFu = f + 3 := ⟨999997, by rw [eFu_eq]⟩
  funext w
  unfold f_re_readItems_42
  rw [hf, e42_0 (f + 2), s42 f]
/-! the reference's terms, cut where they are told twice -/
noncomputable def mR4 (a v : Int32) (w : eW) : Option eW := (eChk a 24 ((f_mm_goesOver (18927919 : Int32) (0 : Int32) (eU1 w 4 (Int32.toNatClampNeg a) v)).bind fun p4 => (if p4.1 = 0 then (f_mm_readTerms_J76 a (100 : Int32) a p4.2) else ((f_mm_number (1 : Int32) (400 : Int32) p4.2).bind fun p5 => (f_mm_readTerms_J76 a p5.1 a p5.2)))))
theorem mTerms (a1 : Int32) (w : eW) : f_mm_readTerms a1 w = ((f_mm_keyword (591307 : Int32) (0 : Int32) w).bind fun w1 => ((f_mm_number (0 : Int32) (5 : Int32) w1).bind fun p2 => (eChk a1 24 ((f_mm_goesOver (21279923 : Int32) (0 : Int32) (eU1 p2.2 3 (Int32.toNatClampNeg a1) p2.1)).bind fun p3 => (if p3.1 = 0 then mR4 a1 100 p3.2 else ((f_mm_number (0 : Int32) (400 : Int32) p3.2).bind fun p6 => mR4 a1 p6.1 p6.2)))))) := rfl
noncomputable def mR6 (a1 v : Int32) (w : eW) : Option eW := (eChk a1 24 (eChk a1 24 (if ¬ ((eU1 w 6 (Int32.toNatClampNeg a1) v).1 6 (Int32.toNatClampNeg a1)) = (1 : Int32) then (f_mm_readTerms_J138 a1 (-1 : Int32) a1 (eU1 w 6 (Int32.toNatClampNeg a1) v)) else ((f_mm_goesOver (3120 : Int32) (0 : Int32) (eU1 w 6 (Int32.toNatClampNeg a1) v)).bind fun p10 => (if p10.1 = 0 then (f_mm_readTerms_J138 a1 (-1 : Int32) a1 p10.2) else ((f_mm_number (0 : Int32) (2000 : Int32) p10.2).bind fun p11 => (f_mm_readTerms_J138 a1 p11.1 a1 p11.2)))))))
theorem mJ76 (a1 s0 s1 : Int32) (w : eW) : f_mm_readTerms_J76 a1 s0 s1 w = (eChk s1 24 ((f_mm_goesOver (20186697 : Int32) (455 : Int32) (eU1 w 5 (Int32.toNatClampNeg s1) s0)).bind fun p9 => (if p9.1 = 0 then mR6 a1 0 p9.2 else mR6 a1 1 p9.2))) := rfl
noncomputable def mN (w1 : eW) : Option eW := ((f_mm_isGood w1).bind fun p2 => (if p2.1 = 0 then (f_mm_readName_J26 p2.2) else ((f_mm_isName p2.2).bind fun p3 => (if ¬ p3.1 = 0 then (f_mm_readName_J26 p3.2) else ((f_mm_fails (2 : Int32) p3.2).bind fun w4 => ((f_mm_isGood w4).bind fun p5 => (if p5.1 = 0 then ((f_mm_goOn p5.2).bind fun w6 => (some w6)) else (eChk ((2 : Int32) * (p5.2.1 24 3)) 24 (eChk (((2 : Int32) * (p5.2.1 24 3)) + (1 : Int32)) 24 ((f_mm_goOn (eU1 (eU1 p5.2 10 (Int32.toNatClampNeg ((2 : Int32) * (p5.2.1 24 3))) (p5.2.1 24 23)) 10 (Int32.toNatClampNeg (((2 : Int32) * (p5.2.1 24 3)) + (1 : Int32))) (p5.2.1 24 24))).bind fun w7 => (some w7)))))))))))
theorem mName (w : eW) : f_mm_readName w = (f_mm_goOn w).bind mN := rfl
/-- behind what a line tells: its sign -/
noncomputable def mTL (w : eW) : Option eW := ((f_mm_isGood w).bind fun p25 => (if p25.1 = 0 then ((f_mm_goOn p25.2).bind fun w26 => (some w26)) else (if (p25.2.1 24 22) = (3 : Int32) then ((f_mm_goOn p25.2).bind fun w27 => (some w27)) else ((f_mm_fails (2 : Int32) p25.2).bind fun w28 => ((f_mm_goOn w28).bind fun w29 => (some w29))))))
theorem mLine (w : eW) : f_mm_readLine w = ((f_mm_isWord (3650991 : Int32) (14 : Int32) w).bind fun p1 => (if p1.1 = 0 then ((f_mm_isWord (16273711 : Int32) (14 : Int32) p1.2).bind fun p2 => (if p2.1 = 0 then ((f_mm_isWord (3540595 : Int32) (0 : Int32) p2.2).bind fun p3 => (if p3.1 = 0 then ((f_mm_isWord (3197637 : Int32) (0 : Int32) p3.2).bind fun p4 => (if p4.1 = 0 then ((f_mm_fails (2 : Int32) p4.2).bind mTL) else (if ¬ (p4.2.1 24 29) = 0 then ((f_mm_fails (2 : Int32) p4.2).bind mTL) else ((f_mm_goOn (eU1 p4.2 24 29 (1 : Int32))).bind fun w17 => ((f_mm_number (0 : Int32) (50 : Int32) w17).bind fun p18 => mTL (eU1 p18.2 24 4 p18.1)))))) else ((f_mm_readHolder (2 : Int32) (6 : Int32) p3.2).bind mTL))) else ((f_mm_readHolder (1 : Int32) (3 : Int32) p2.2).bind mTL))) else ((f_mm_readHolder (0 : Int32) (3 : Int32) p1.2).bind mTL))) := rfl
