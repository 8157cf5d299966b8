/-! the firm in the reference -/
def tnd (told : Bool) (set : Int32) (F : Nat → Nat → Int) (h : Nat) : Bool := told && (sb set h && canT F h)
def fst_ (told : Bool) (set : Int32) (F : Nat → Nat → Int) (wv : Int32) (h : Nat) : Int := if tnd told set F h then 0 else pref F wv h
section
variable {c m : eW} {n : Nat} {F : Nat → Nat → Int} {cv : Int} {wv : Int32}
theorem m_in (a b d : Int32) (m : eW) : f_mm_in a b d m = some (b2i (decide (b.toInt ≤ a.toInt ∧ a.toInt ≤ d.toInt)), m) := by
  unfold f_mm_in
  simp only [Int32.lt_iff_toInt_lt]
  by_cases h1 : a.toInt < b.toInt
  · rw [if_pos h1, show decide (b.toInt ≤ a.toInt ∧ a.toInt ≤ d.toInt) = false by simp; omega]; rfl
  · rw [if_neg h1]
    by_cases h2 : d.toInt < a.toInt
    · rw [if_pos h2, show decide (b.toInt ≤ a.toInt ∧ a.toInt ≤ d.toInt) = false by simp; omega]; rfl
    · rw [if_neg h2, show decide (b.toInt ≤ a.toInt ∧ a.toInt ≤ d.toInt) = true by simp; omega]; rfl
theorem toI_ofI {a : Int} (h1 : -2147483648 ≤ a) (h2 : a < 2147483648) : (Int32.ofInt a).toInt = a := Int32.toInt_ofInt_of_le (by omega) (by omega)
theorem toI_ofJ {a : Int} (h1 : -9223372036854775808 ≤ a) (h2 : a < 9223372036854775808) : (Int64.ofInt a).toInt = a := Int64.toInt_ofInt_of_le (by omega) (by omega)
theorem m_isHolder (hF : FOK n F cv) (hM : MF m n F cv wv) (a : Int32) : f_mm_isHolder a m = some (b2i (decide (0 ≤ a.toInt ∧ a.toInt < n)), m) := by
  have hn := hF.1
  unfold f_mm_isHolder
  rw [hM.1, m_in, obind, if_pos (b2i_01 _)]
  rw [show (1 : Int32) = Int32.ofInt 1 from rfl, ← Int32.ofInt_sub, toI_ofI (by omega) (by omega), show (0 : Int32).toInt = 0 from rfl]
  have key : decide (0 ≤ a.toInt ∧ a.toInt ≤ (n : Int) - 1) = decide (0 ≤ a.toInt ∧ a.toInt < n) := by
    simp only [decide_eq_decide]
    omega
  rw [key]
theorem m_isClass (hF : FOK n F cv) (hM : MF m n F cv wv) {h : Nat} (hh : h < n) : f_mm_isClass (Int32.ofInt h) m = some (b2i (decide (F h 0 = 2)), m) := by
  have hn := hF.1
  have f := hF.hd hh
  have e := (hM.2.2.2 h hh).1
  unfold f_mm_isClass
  rw [m_isHolder hF hM, obind]
  simp only [b2i_0]
  rw [if_neg (by rw [toI_ofI (by omega) (by omega)]; simp; omega), eChk_of (by omega) (by omega) (by omega), icl (by omega) (by omega), show ((h : Int)).toNat = h from rfl, e]
  simp (disch := omega) only [ilit, ieq]
  by_cases h2 : F h 0 = (2 : Nat)
  · rw [if_neg (by omega), show decide (F h 0 = 2) = true by simp; omega]; rfl
  · rw [if_pos h2, show decide (F h 0 = 2) = false by simp; omega]; rfl
theorem m_canTurn (hF : FOK n F cv) (hM : MF m n F cv wv) {h : Nat} (hh : h < n) : f_mm_canTurn (Int32.ofInt h) m = some (b2i (canT F h), m) := by
  have hn := hF.1
  have f := hF.hd hh
  have e := (hM.2.2.2 h hh).2.2.2
  unfold f_mm_canTurn
  rw [m_isClass hF hM hh, obind]
  simp only [b2i_0]
  by_cases h0 : F h 0 = 2
  · rw [if_neg (by simp [h0]), eChk_of (by omega) (by omega) (by omega), eChk_of (by omega) (by omega) (by omega), icl (by omega) (by omega), show ((h : Int)).toNat = h from rfl, e h0 6 (by omega) (by omega), e h0 7 (by omega) (by omega)]
    simp (disch := omega) only [ilit, ieq, ilt]
    by_cases h6 : F h 6 = (0 : Nat)
    · rw [if_pos h6, show canT F h = true by simp [canT, h0]; omega]; rfl
    · rw [if_neg h6]
      by_cases h7 : F h 7 < (0 : Nat)
      · rw [if_pos h7, show canT F h = false by simp [canT, h0]; omega]; rfl
      · rw [if_neg h7, show canT F h = true by simp [canT, h0]; omega]; rfl
  · rw [if_pos (by simp [h0]), show canT F h = false by simp [canT, h0]]; rfl
theorem m_isOf (x : Int32) (h : Nat) (m : eW) : f_mm_isOf x (Int32.ofInt h) m = some (b2i (sb x h), m) := by
  unfold f_mm_isOf
  by_cases h2 : sb x h = true
  · rw [if_neg (fun z => z (sb_iff.mpr h2)), h2]; rfl
  · rw [if_pos (fun z => h2 (sb_iff.mp z)), Bool.eq_false_iff.mpr h2]; rfl
theorem m_prefOf (hF : FOK n F cv) (hM : MF m n F cv wv) {h : Nat} (hh : h < n) : f_mm_prefOf (Int32.ofInt h) m = some (Int32.ofInt (pref F wv h), m) := by
  have hn := hF.1
  have f := hF.hd hh
  obtain ⟨e0, -, e2, e3⟩ := hM.2.2.2 h hh
  unfold f_mm_prefOf pref
  rw [eChk_of (by omega) (by omega) (by omega), icl (by omega) (by omega), show ((h : Int)).toNat = h from rfl, e0]
  simp (disch := omega) only [ilit, ieq]
  by_cases h0 : F h 0 = 2
  · rw [if_neg (fun z => z h0), hM.2.2.1, m_isOf, obind]
    rw [show ((Int32.ofInt ((0 : Nat) : Int)) : Int32) = 0 from rfl]
    simp only [b2i_0]
    by_cases hw : sb wv h = false
    · rw [if_pos hw, if_pos ⟨h0, hw⟩]
      simp (disch := omega) only [eChk_of]
      rw [e2 (by omega), e3 h0 4 (by omega) (by omega), e3 h0 8 (by omega) (by omega), e3 h0 9 (by omega) (by omega), ← Int32.ofInt_mul, ← Int32.ofInt_add, ← Int32.ofInt_mul]
    · rw [if_neg hw, if_neg (fun z => hw z.2)]; rfl
  · rw [if_pos (show ¬ F h 0 = ((2 : Nat) : Int) from fun z => h0 z), if_neg (fun z => h0 z.1)]; rfl
theorem m_topOf (hF : FOK n F cv) (hM : MF m n F cv wv) {h : Nat} (hh : h < n) (hk : F h 0 = 2) (h7 : F h 7 ≠ -1) : f_mm_topOf (Int32.ofInt h) m = some (Int32.ofInt (top F wv h), m) := by
  have hn := hF.1
  have f := hF.hd hh
  have p := pref_b (wv := wv) hF hh
  have q := capm_b hF hh hk h7
  obtain ⟨e0, -, e2, e3⟩ := hM.2.2.2 h hh
  unfold f_mm_topOf
  simp (disch := omega) only [eChk_of, m_prefOf hF hM hh, obind, icl, show ((h : Int)).toNat = h from rfl, e2 (by omega), e3 hk 7 (by omega) (by omega), ← Int32.ofInt_mul, ile]
  unfold top
  by_cases hle : pref F wv h ≤ F h 2 * F h 7
  · rw [if_pos hle, Int.max_eq_right (by omega)]
  · rw [if_neg hle, Int.max_eq_left (by omega)]
theorem m_isAmount (a : Int32) (m : eW) : f_mm_isAmount a m = some (b2i (decide (0 ≤ a.toInt ∧ a.toInt ≤ 9999999)), m) := by
  unfold f_mm_isAmount
  rw [m_in, obind, if_pos (b2i_01 _)]
  rfl
theorem x_isAmount (a : Int32) (c : eW) : f_xx_isAmount a c = some (b2i (decide (0 ≤ a.toInt ∧ a.toInt ≤ 9999999)), c) := by
  unfold f_xx_isAmount
  simp only [Int32.lt_iff_toInt_lt, show (0 : Int32).toInt = 0 from rfl, show (9999999 : Int32).toInt = 9999999 from rfl]
  by_cases h1 : a.toInt < 0
  · rw [if_pos h1, show decide (0 ≤ a.toInt ∧ a.toInt ≤ 9999999) = false by simp; omega]; rfl
  · rw [if_neg h1]
    by_cases h2 : 9999999 < a.toInt
    · rw [if_pos h2, show decide (0 ≤ a.toInt ∧ a.toInt ≤ 9999999) = false by simp; omega]; rfl
    · rw [if_neg h2, show decide (0 ≤ a.toInt ∧ a.toInt ≤ 9999999) = true by simp; omega]; rfl
theorem m_fallsBy {a : Int} (h0 : 0 ≤ cv) (h5 : cv ≤ 50) (h1 : 0 ≤ a) (h2 : a ≤ 9999999) (m : eW) : f_mm_fallsBy (Int32.ofInt a) (Int32.ofInt cv) m = some (Int64.ofInt (100 * fallsI cv a), m) := by
  have q := fallsI_b h0 h5 h1 h2
  unfold f_mm_fallsBy
  rw [i2j (by omega) (by omega), i2j (by omega) (by omega), ← Int64.ofInt_mul, show (100 : Int64) = Int64.ofInt 100 from rfl, jdiv q.1 (by omega) (by omega) (by omega), j2i, ← Int32.ofInt_sub]
  rw [i2j (by have := q.2.2; unfold fallsI at this; omega) (by have := q.2.2; unfold fallsI at this; omega), ← Int64.ofInt_mul]
  rfl
theorem m_isTurned (hF : FOK n F cv) (hM : MF m n F cv wv) {told : Bool} {set : Int32} (ht : m.1 24 36 = b2i told) (hs : m.1 24 35 = set) {h : Nat} (hh : h < n) : f_mm_isTurned (Int32.ofInt h) m = some (b2i (tnd told set F h), m) := by
  unfold f_mm_isTurned tnd
  rw [ht, hs]
  simp only [b2i_0]
  by_cases h1 : told = false
  · rw [if_pos h1, h1]; rfl
  · rw [if_neg h1, m_isOf, obind]
    simp only [b2i_0]
    have h1 : told = true := by simpa using h1
    by_cases h2 : sb set h = false
    · rw [if_pos h2, h1, h2]; rfl
    · rw [if_neg h2, m_canTurn hF hM hh, obind]
      simp only [b2i_0]
      have h2 : sb set h = true := by simpa using h2
      by_cases h3 : canT F h = false
      · rw [if_pos h3, h1, h2, h3]; rfl
      · rw [if_neg h3, h1, h2, show canT F h = true by simpa using h3]; rfl
theorem m_firstOf (hF : FOK n F cv) (hM : MF m n F cv wv) {told : Bool} {set : Int32} (ht : m.1 24 36 = b2i told) (hs : m.1 24 35 = set) {h : Nat} (hh : h < n) : f_mm_firstOf (Int32.ofInt h) m = some (Int64.ofInt (fst_ told set F wv h), m) := by
  have p := pref_b (wv := wv) hF hh
  unfold f_mm_firstOf fst_
  rw [m_isTurned hF hM ht hs hh, obind]
  simp only [b2i_0]
  by_cases h1 : tnd told set F h = false
  · rw [if_pos h1, m_prefOf hF hM hh, obind, i2j (by omega) (by omega), h1]; rfl
  · rw [if_neg h1, show tnd told set F h = true by simpa using h1]; rfl
theorem fst_b (hF : FOK n F cv) {told : Bool} {set : Int32} {h : Nat} (hh : h < n) : 0 ≤ fst_ told set F wv h ∧ fst_ told set F wv h ≤ 99000 := by
  have p := pref_b (wv := wv) hF hh
  unfold fst_
  split <;> omega
end
