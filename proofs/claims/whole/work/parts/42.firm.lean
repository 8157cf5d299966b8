/-- a bit of a set -/
def sb (x : Int32) (h : Nat) : Bool := decide (((x >>> (Int32.ofInt h &&& 31)) &&& 1) = 1)
theorem sb_iff {x : Int32} {h : Nat} : (((x >>> (Int32.ofInt h &&& 31)) &&& 1) = 1) ↔ sb x h = true := by simp [sb]
def pref (F : Nat → Nat → Int) (wv : Int32) (h : Nat) : Int := if F h 0 = 2 ∧ sb wv h = false then F h 2 * (F h 4 + F h 8 * F h 9) else 0
def canT (F : Nat → Nat → Int) (h : Nat) : Bool := decide (F h 0 = 2 ∧ (F h 6 = 0 ∨ F h 7 ≠ -1))
def top (F : Nat → Nat → Int) (wv : Int32) (h : Nat) : Int := max (pref F wv h) (F h 2 * F h 7)
def lid (F : Nat → Nat → Int) (wv : Int32) (h : Nat) : Int := if F h 6 = 0 then pref F wv h else top F wv h
def b2i (b : Bool) : Int32 := if b then 1 else 0
section
variable {c m : eW} {n : Nat} {F : Nat → Nat → Int} {cv : Int} {wv : Int32}
theorem mul_le4 {a b A B : Int} (h1 : 0 ≤ a) (h2 : a ≤ A) (h3 : 0 ≤ b) (h4 : b ≤ B) : 0 ≤ a * b ∧ a * b ≤ A * B := ⟨Int.mul_nonneg h1 h3, Int.mul_le_mul h2 h4 h3 (Int.le_trans h1 h2)⟩
theorem FOK.hd (hF : FOK n F cv) {h : Nat} (hh : h < n) : HOK F h := hF.2.2.2.2.2.2 h hh
theorem pref_b (hF : FOK n F cv) {h : Nat} (hh : h < n) : 0 ≤ pref F wv h ∧ pref F wv h ≤ 99000 := by
  have f := hF.hd hh
  unfold pref
  split
  · rename_i hk
    have g := f.2.2.2.2.2.1 hk.1
    have r := mul_le4 (a := F h 8) (b := F h 9) (A := 30) (B := 20) (by omega) (by omega) (by omega) (by omega)
    have q := mul_le4 (a := F h 2) (b := F h 4 + F h 8 * F h 9) (A := 99) (B := 1000) (by omega) (by omega) (by omega) (by omega)
    omega
  · omega
theorem capm_b (hF : FOK n F cv) {h : Nat} (hh : h < n) (hk : F h 0 = 2) (h7 : F h 7 ≠ -1) : 0 ≤ F h 2 * F h 7 ∧ F h 2 * F h 7 ≤ 198000 := by
  have f := hF.hd hh
  have g := f.2.2.2.2.2.1 hk
  exact mul_le4 (a := F h 2) (b := F h 7) (A := 99) (B := 2000) (by omega) (by omega) (by omega) (by omega)
theorem lid_b (hF : FOK n F cv) {h : Nat} (hh : h < n) (hc : canT F h = true) : pref F wv h ≤ lid F wv h ∧ lid F wv h ≤ 198000 := by
  have f := hF.hd hh
  have p := pref_b (wv := wv) hF hh
  unfold canT at hc
  simp only [decide_eq_true_eq] at hc
  unfold lid
  split
  · omega
  · rename_i h6
    have q := capm_b hF hh hc.1 (by omega)
    unfold top
    omega
/-! the class -/
theorem c_isHolder (hF : FOK n F cv) (hC : CF c n F cv wv) (a : Int32) : f_fi_isHolder a c = some (b2i (decide (0 ≤ a.toInt ∧ a.toInt < n)), c) := by
  have hn := hF.1
  have r := irange a
  unfold f_fi_isHolder
  rw [iof a]
  simp (disch := omega) only [hC.1, ilit, ilt, ile]
  rw [← iof a]
  by_cases h1 : a.toInt < (0 : Nat)
  · rw [if_pos h1, show (decide (0 ≤ a.toInt ∧ a.toInt < n)) = false by simp; omega]; rfl
  · rw [if_neg h1]
    by_cases h2 : (n : Int) ≤ a.toInt
    · rw [if_pos h2, show (decide (0 ≤ a.toInt ∧ a.toInt < n)) = false by simp; omega]; rfl
    · rw [if_neg h2, show (decide (0 ≤ a.toInt ∧ a.toInt < n)) = true by simp; omega]; rfl
theorem c_fact (hF : FOK n F cv) (hC : CF c n F cv wv) {h k : Nat} (hh : h < n) (hk : k < 10) : f_fi_fact (Int32.ofInt h) (Int32.ofInt k) c = some (Int32.ofInt (F h k), c) := by
  have hn := hF.1
  have e : ((h : Int) * (10 : Nat) + k).toNat = h * 10 + k := by omega
  unfold f_fi_fact
  simp (disch := omega) only [hC.1, ilit, ilt, ile, ← Int32.ofInt_mul, ← Int32.ofInt_add, eChk_of, icl, e, hC.2.2.2 h k hh hk]
  rw [if_neg (by omega), if_neg (by omega), if_neg (by omega), if_neg (by omega)]
theorem c_isClass (hF : FOK n F cv) (hC : CF c n F cv wv) {h : Nat} (hh : h < n) : f_fi_isClass (Int32.ofInt h) c = some (b2i (decide (F h 0 = 2)), c) := by
  have hn := hF.1
  have f := hF.hd hh
  have e : ((h : Int) * (10 : Nat) + (0 : Nat)).toNat = h * 10 + 0 := by omega
  unfold f_fi_isClass
  simp (disch := omega) only [hC.1, ilit, ilt, ile, ← Int32.ofInt_mul, ← Int32.ofInt_add, eChk_of, icl, e, hC.2.2.2 h 0 hh (by omega), ieq]
  rw [if_neg (by omega), if_neg (by omega)]
  by_cases h2 : F h 0 = (2 : Nat)
  · rw [if_neg (by omega), show decide (F h 0 = 2) = true by simp; omega]; rfl
  · rw [if_pos h2, show decide (F h 0 = 2) = false by simp; omega]; rfl
theorem c_isWaived (hF : FOK n F cv) (hC : CF c n F cv wv) {h : Nat} (hh : h < n) : f_fi_isWaived (Int32.ofInt h) c = some (b2i (sb wv h), c) := by
  have hn := hF.1
  unfold f_fi_isWaived
  rw [hC.2.2.1, hC.1]
  rw [if_neg (by simp (disch := omega) only [ilit, ilt]; omega), if_neg (by simp (disch := omega) only [ile]; omega)]
  by_cases h2 : sb wv h = true
  · rw [if_neg (fun z => z (sb_iff.mpr h2)), h2]; rfl
  · rw [if_pos (fun z => h2 (sb_iff.mp z)), Bool.eq_false_iff.mpr h2]; rfl
theorem b2i_0 (b : Bool) : (b2i b = 0) ↔ b = false := by cases b <;> decide
theorem b2i_1 (b : Bool) : (b2i b = 1) ↔ b = true := by cases b <;> decide
theorem b2i_01 (b : Bool) : b2i b = 0 ∨ b2i b = 1 := by cases b <;> decide
theorem c_canTurn (hF : FOK n F cv) (hC : CF c n F cv wv) {h : Nat} (hh : h < n) : f_fi_canTurn (Int32.ofInt h) c = some (b2i (canT F h), c) := by
  have f := hF.hd hh
  unfold f_fi_canTurn
  rw [c_isClass hF hC hh, obind]
  simp only [b2i_0]
  have e6 := c_fact hF hC hh (k := 6) (by omega)
  have e7 := c_fact hF hC hh (k := 7) (by omega)
  by_cases h0 : F h 0 = 2
  · rw [if_neg (by simp [h0]), show (6 : Int32) = Int32.ofInt (6 : Nat) from rfl, e6, obind]
    by_cases h6 : F h 6 = 0
    · rw [if_pos (by rw [h6]; rfl), show canT F h = true by simp [canT, h0, h6]]; rfl
    · rw [if_neg (by simp (disch := omega) only [ilit, ieq]; omega), show (7 : Int32) = Int32.ofInt (7 : Nat) from rfl, e7, obind]
      by_cases h7 : F h 7 = -1
      · rw [if_pos (by rw [h7]; rfl), show canT F h = false by simp [canT, h0, h6, h7]]; rfl
      · rw [if_neg (by rw [show (-1 : Int32) = Int32.ofInt (-1) from rfl, ieq (by omega) (by omega) (by omega) (by omega)]; exact h7), show canT F h = true by simp [canT, h0, h7]]; rfl
  · rw [if_pos (by simp [h0]), show canT F h = false by simp [canT, h0]]; rfl
theorem c_prefOf (hF : FOK n F cv) (hC : CF c n F cv wv) {h : Nat} (hh : h < n) : f_fi_prefOf (Int32.ofInt h) c = some (Int32.ofInt (pref F wv h), c) := by
  unfold f_fi_prefOf pref
  rw [c_isClass hF hC hh, obind]
  simp only [b2i_0]
  by_cases h0 : F h 0 = 2
  · rw [if_neg (by simp [h0]), c_isWaived hF hC hh, obind]
    simp only [b2i_0]
    by_cases hw : sb wv h = false
    · rw [if_pos hw, if_pos ⟨h0, hw⟩, show (2 : Int32) = Int32.ofInt (2 : Nat) from rfl, c_fact hF hC hh (by omega), obind, show (4 : Int32) = Int32.ofInt (4 : Nat) from rfl, c_fact hF hC hh (by omega), obind, show (8 : Int32) = Int32.ofInt (8 : Nat) from rfl, c_fact hF hC hh (by omega), obind, show (9 : Int32) = Int32.ofInt (9 : Nat) from rfl, c_fact hF hC hh (by omega), obind]
      simp only [← Int32.ofInt_mul, ← Int32.ofInt_add]
    · rw [if_neg hw, if_neg (fun z => hw z.2)]; rfl
  · rw [if_pos (by simp [h0]), if_neg (fun z => h0 z.1)]; rfl
theorem c_lidOf (hF : FOK n F cv) (hC : CF c n F cv wv) {h : Nat} (hh : h < n) (hc : canT F h = true) : f_fi_lidOf (Int32.ofInt h) (Int32.ofInt (pref F wv h)) c = some (Int32.ofInt (lid F wv h), c) := by
  have f := hF.hd hh
  have p := pref_b (wv := wv) hF hh
  unfold canT at hc
  simp only [decide_eq_true_eq] at hc
  unfold f_fi_lidOf lid
  rw [show (6 : Int32) = Int32.ofInt (6 : Nat) from rfl, c_fact hF hC hh (by omega), obind]
  by_cases h6 : F h 6 = 0
  · rw [if_neg (by rw [h6]; exact fun z => z rfl), if_pos h6]
  · have q := capm_b hF hh hc.1 (by omega)
    rw [if_pos (by simp (disch := omega) only [ilit, ieq]; omega), if_neg h6, show (2 : Int32) = Int32.ofInt (2 : Nat) from rfl, c_fact hF hC hh (by omega), obind, show (7 : Int32) = Int32.ofInt (7 : Nat) from rfl, c_fact hF hC hh (by omega), obind]
    simp only [← Int32.ofInt_mul]
    simp (disch := omega) only [ilt]
    unfold top
    by_cases hlt : pref F wv h < F h 2 * F h 7
    · rw [if_pos hlt, Int.max_eq_right (by omega)]
    · rw [if_neg hlt, Int.max_eq_left (by omega)]
def fallsI (cv a : Int) : Int := a - a * cv / 100
theorem fallsI_b {a : Int} (h0 : 0 ≤ cv) (h5 : cv ≤ 50) (h1 : 0 ≤ a) (h2 : a ≤ 9999999) : 0 ≤ a * cv ∧ a * cv ≤ 499999950 ∧ 0 ≤ fallsI cv a ∧ fallsI cv a ≤ a := by
  have q := mul_le4 (a := a) (b := cv) (A := 9999999) (B := 50) h1 h2 h0 h5
  have q2 : a * cv ≤ a * 50 := Int.mul_le_mul_of_nonneg_left h5 h1
  unfold fallsI
  omega
theorem c_fallsOf (hF : FOK n F cv) (hC : CF c n F cv wv) {a : Int} (h1 : 0 ≤ a) (h2 : a ≤ 9999999) : f_fi_fallsOf (Int32.ofInt a) c = some (Int32.ofInt (fallsI cv a), c) := by
  have q := fallsI_b hF.2.1 hF.2.2.1 h1 h2
  unfold f_fi_fallsOf fallsI
  rw [hC.2.1, ← Int32.ofInt_mul, show (100 : Int32) = Int32.ofInt 100 from rfl, idiv q.1 (by omega) (by omega) (by omega), ← Int32.ofInt_sub]
end
