section
variable {n : Nat} {F : Nat → Nat → Int} {wv : Int32} {cv : Int} {c m : eW}
def hlast (F : Nat → Nat → Int) (i : Nat) : Int := if F i 0 = 0 then 1 else if F i 0 = 1 then 2 else 10
def hval (F : Nat → Nat → Int) (wv : Int32) (i : Nat) (k : Int) : Int := if k = 10 then pref F wv i else F i k.toNat
theorem hlast_b (F : Nat → Nat → Int) (i : Nat) : 1 ≤ hlast F i ∧ hlast F i ≤ 10 := by
  unfold hlast
  by_cases a : F i 0 = 0
  · rw [if_pos a]; omega
  · rw [if_neg a]
    by_cases b : F i 0 = 1
    · rw [if_pos b]; omega
    · rw [if_neg b]; omega
theorem holder_J (hF : FOK n F cv) (hM : MF m n F cv wv) {i : Nat} (hi : i < n) (a2 : Int32) : f_mm_holder_J44 (Int32.ofInt (i : Nat)) a2 (Int32.ofInt (hlast F i)) 0 a2 m = some (if 0 ≤ a2.toInt ∧ a2.toInt ≤ hlast F i then Int32.ofInt (hval F wv i a2.toInt) else -2, m) := by
  have hn := hF.1
  have f := hF.hd hi
  have e := hM.2.2.2 i hi
  have hl := hlast_b F i
  unfold f_mm_holder_J44
  rw [in_dec (show (0 : Int32).toInt = 0 from rfl) (toI_ofI (by omega) (by omega)), obind]
  dsimp only
  simp only [b2i_0]
  by_cases g : 0 ≤ a2.toInt ∧ a2.toInt ≤ hlast F i
  · rw [if_pos (fun z => by rw [decide_eq_true g] at z; cases z), if_pos g]
    obtain ⟨k, hk, rfl⟩ := hold_of (n := 11) (a := a2) (by omega)
    rw [toI_ofI (by omega) (by omega)] at g ⊢
    simp only [eChk_of (show 0 ≤ (i : Int) by omega) (show (i : Int) < (24 : Nat) by omega) (show 24 ≤ 2147483648 by omega), icl (show -2147483648 ≤ (i : Int) by omega) (show (i : Int) < 2147483648 by omega), nat_i]
    have kq : ∀ q : Nat, q < 11 → ((Int32.ofInt (k : Nat) = (OfNat.ofNat q : Int32)) ↔ k = q) := fun q hq => by rw [ilit, ieq (by omega) (by omega) (by omega) (by omega)]; omega
    have v : ∀ q : Nat, 3 ≤ q → q < 10 → k = q → m.1 q i = Int32.ofInt (F i q) := fun q q1 q2 ek => by
      have c2 : F i 0 = 2 := by
        have := g.2
        unfold hlast at this
        rw [ek] at this
        split at this
        · omega
        · split at this <;> omega
      exact e.2.2.2 c2 q q1 q2
    unfold hval
    by_cases k0 : k = 0
    · rw [if_pos ((kq 0 (by omega)).mpr k0), if_neg (by omega), k0]; rw [e.1]; rfl
    rw [if_neg (fun z => k0 ((kq 0 (by omega)).mp z))]
    by_cases k1 : k = 1
    · rw [if_pos ((kq 1 (by omega)).mpr k1), if_neg (by omega), k1]; rw [e.2.1]; rfl
    rw [if_neg (fun z => k1 ((kq 1 (by omega)).mp z))]
    by_cases k2 : k = 2
    · have c0 : F i 0 ≠ 0 := fun z => by have := g.2; unfold hlast at this; rw [if_pos z] at this; omega
      rw [if_pos ((kq 2 (by omega)).mpr k2), if_neg (by omega), k2]; rw [e.2.2.1 c0]; rfl
    rw [if_neg (fun z => k2 ((kq 2 (by omega)).mp z))]
    by_cases k3 : k = 3
    · rw [if_pos ((kq 3 (by omega)).mpr k3), if_neg (by omega), v 3 (by omega) (by omega) k3, k3]; rfl
    rw [if_neg (fun z => k3 ((kq 3 (by omega)).mp z))]
    by_cases k4 : k = 4
    · rw [if_pos ((kq 4 (by omega)).mpr k4), if_neg (by omega), v 4 (by omega) (by omega) k4, k4]; rfl
    rw [if_neg (fun z => k4 ((kq 4 (by omega)).mp z))]
    by_cases k5 : k = 5
    · rw [if_pos ((kq 5 (by omega)).mpr k5), if_neg (by omega), v 5 (by omega) (by omega) k5, k5]; rfl
    rw [if_neg (fun z => k5 ((kq 5 (by omega)).mp z))]
    by_cases k6 : k = 6
    · rw [if_pos ((kq 6 (by omega)).mpr k6), if_neg (by omega), v 6 (by omega) (by omega) k6, k6]; rfl
    rw [if_neg (fun z => k6 ((kq 6 (by omega)).mp z))]
    by_cases k7 : k = 7
    · rw [if_pos ((kq 7 (by omega)).mpr k7), if_neg (by omega), v 7 (by omega) (by omega) k7, k7]; rfl
    rw [if_neg (fun z => k7 ((kq 7 (by omega)).mp z))]
    by_cases k8 : k = 8
    · rw [if_pos ((kq 8 (by omega)).mpr k8), if_neg (by omega), v 8 (by omega) (by omega) k8, k8]; rfl
    rw [if_neg (fun z => k8 ((kq 8 (by omega)).mp z))]
    by_cases k9 : k = 9
    · rw [if_pos ((kq 9 (by omega)).mpr k9), if_neg (by omega), v 9 (by omega) (by omega) k9, k9]; rfl
    rw [if_neg (fun z => k9 ((kq 9 (by omega)).mp z)), m_prefOf hF hM hi, obind, if_pos (by omega)]
  · rw [if_neg (fun z => z (decide_eq_false g)), if_neg g]
theorem q_holder (hF : FOK n F cv) (hC : CF c n F cv wv) (hM : MF m n F cv wv) (a1 a2 : Int32) : Qr (f_xx_holder a1 a2 c) (f_mm_holder a1 a2 m) c m := by
  have hn := hF.1
  have hM0 := hM.km (m0k m)
  have r2 := irange a2
  unfold f_xx_holder f_mm_holder
  simp only [c_isHolder hF hC, m_isHolder hF hM0, obind, b2i_0]
  by_cases h : 0 ≤ a1.toInt ∧ a1.toInt < n
  · simp only [decide_eq_true h, Bool.true_eq_false, if_false]
    obtain ⟨i, hi, rfl⟩ := hold_of h
    have f := hF.hd hi
    have e := hM0.2.2.2 i hi
    rw [eChk_of (by omega) (by omega) (by omega), eChk_of (by omega) (by omega) (by omega), icl (by omega) (by omega), nat_i, e.1]
    have J := holder_J hF hM0 hi a2
    have hl := hlast_b F i
    have z0 : (Int32.ofInt (F i 0) = 0) ↔ F i 0 = 0 := by rw [show (0 : Int32) = Int32.ofInt 0 from rfl, ieq (by omega) (by omega) (by omega) (by omega)]
    have z1 : (Int32.ofInt (F i 0) = 1) ↔ F i 0 = 1 := by rw [show (1 : Int32) = Int32.ofInt 1 from rfl, ieq (by omega) (by omega) (by omega) (by omega)]
    have kind := c_fact hF hC hi (k := 0) (by omega)
    refine Qr.of (if 0 ≤ a2.toInt ∧ a2.toInt ≤ hlast F i then Int32.ofInt (hval F wv i a2.toInt) else -2) ?_ ?_
    · by_cases g : 0 ≤ a2.toInt
      · rw [if_pos (show (0 : Int32) ≤ a2 by rw [show (0 : Int32) = Int32.ofInt 0 from rfl, i_le (by omega) (by omega)]; omega), show (0 : Int32) = Int32.ofInt ((0 : Nat) : Int) from rfl, kind, obind]
        dsimp only
        rw [show Int32.ofInt ((0 : Nat) : Int) = (0 : Int32) from rfl]
        have val : a2.toInt ≤ hlast F i → Ok (if ¬ a2 = (10 : Int32) then ((f_fi_fact (Int32.ofInt (i : Nat)) a2 c).bind fun p3 => (some (p3.1, p3.2))) else ((f_fi_prefOf (Int32.ofInt (i : Nat)) c).bind fun p4 => (some (p4.1, p4.2)))) fun p => p.1 = (if 0 ≤ a2.toInt ∧ a2.toInt ≤ hlast F i then Int32.ofInt (hval F wv i a2.toInt) else -2) ∧ Fr QS c p.2 := fun g2 => by
          rw [if_pos (show 0 ≤ a2.toInt ∧ a2.toInt ≤ hlast F i from ⟨g, g2⟩)]
          obtain ⟨k, hk, rfl⟩ := hold_of (n := 11) (a := a2) (by omega)
          rw [toI_ofI (by omega) (by omega)] at g g2 ⊢
          unfold hval
          by_cases k10 : k = 10
          · rw [if_neg (fun z => z (by rw [k10]; rfl)), c_prefOf hF hC hi, obind, if_pos (by omega)]
            exact Ok.ret ⟨rfl, Fr.rfl⟩
          · rw [if_pos (by rw [show (10 : Int32) = Int32.ofInt 10 from rfl, ieq (by omega) (by omega) (by omega) (by omega)]; omega), c_fact hF hC hi (by omega), obind, if_neg (by omega), nat_i]
            exact Ok.ret ⟨rfl, Fr.rfl⟩
        have no : ¬ a2.toInt ≤ hlast F i → Ok (some ((-2 : Int32), c)) fun p => p.1 = (if 0 ≤ a2.toInt ∧ a2.toInt ≤ hlast F i then Int32.ofInt (hval F wv i a2.toInt) else -2) ∧ Fr QS c p.2 := fun g2 => Ok.ret ⟨by rw [if_neg (fun z => g2 z.2)], Fr.rfl⟩
        have lastle : ∀ q : Int, -2147483648 ≤ q → q < 2147483648 → ((a2 ≤ Int32.ofInt q) ↔ a2.toInt ≤ q) := fun q q1 q2 => le_i q1 q2
        by_cases c0 : F i 0 = 0
        · rw [if_neg (fun z => z (z0.mpr c0))]
          have hl1 : hlast F i = 1 := by unfold hlast; rw [if_pos c0]
          refine Ok.iff (e := a2.toInt ≤ hlast F i) (by rw [hl1]; exact lastle 1 (by omega) (by omega)) val no
        · rw [if_pos (fun z => c0 (z0.mp z))]
          by_cases c1 : F i 0 = 1
          · rw [if_neg (fun z => z (z1.mpr c1))]
            have hl1 : hlast F i = 2 := by unfold hlast; rw [if_neg c0, if_pos c1]
            refine Ok.iff (e := a2.toInt ≤ hlast F i) (by rw [hl1]; exact lastle 2 (by omega) (by omega)) val no
          · rw [if_pos (fun z => c1 (z1.mp z))]
            have hl1 : hlast F i = 10 := by unfold hlast; rw [if_neg c0, if_neg c1]
            refine Ok.iff (e := a2.toInt ≤ hlast F i) (by rw [hl1]; exact lastle 10 (by omega) (by omega)) val no
      · rw [if_neg (show ¬ ((0 : Int32) ≤ a2) by rw [show (0 : Int32) = Int32.ofInt 0 from rfl, i_le (by omega) (by omega)]; omega)]
        exact Ok.ret ⟨by rw [if_neg (fun z => g z.1)], Fr.rfl⟩
    · have done : Ok (f_mm_holder_J44 (Int32.ofInt (i : Nat)) a2 (Int32.ofInt (hlast F i)) 0 a2 (eU1 m 24 0 0)) fun p => p.1 = (if 0 ≤ a2.toInt ∧ a2.toInt ≤ hlast F i then Int32.ofInt (hval F wv i a2.toInt) else -2) ∧ Km m p.2 := by
        rw [J]; exact Ok.ret ⟨rfl, m0k m⟩
      by_cases c0 : F i 0 = 0
      · rw [if_neg (fun z => z (z0.mpr c0))]
        have hl1 : hlast F i = 1 := by unfold hlast; rw [if_pos c0]
        rw [hl1] at done ⊢; exact done
      · rw [if_pos (fun z => c0 (z0.mp z))]
        by_cases c1 : F i 0 = 1
        · rw [if_neg (fun z => z (z1.mpr c1))]
          have hl1 : hlast F i = 2 := by unfold hlast; rw [if_neg c0, if_pos c1]
          rw [hl1] at done ⊢; exact done
        · rw [if_pos (fun z => c1 (z1.mp z))]
          have hl1 : hlast F i = 10 := by unfold hlast; rw [if_neg c0, if_neg c1]
          rw [hl1] at done ⊢; exact done
  · simp only [decide_eq_false h, if_true]
    exact Qr.of _ (Ok.ret ⟨rfl, Fr.rfl⟩) (Ok.ret ⟨rfl, m0k m⟩)
end
