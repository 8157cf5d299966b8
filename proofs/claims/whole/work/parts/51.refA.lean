/-! ===== lowest terms ===== -/
theorem jzero {a : Int} (h1 : -9223372036854775808 ≤ a) (h2 : a < 9223372036854775808) : (Int64.ofInt a = 0) ↔ a = 0 := by
  rw [show (0 : Int64) = Int64.ofInt 0 from rfl, jeq h1 h2 (by omega) (by omega)]
theorem common_step {f a b : Nat} (hb : 0 < b) (ha2 : a < 9223372036854775808) (hb2 : b < 9223372036854775808) (w : eW) : f_mm_common_L17 (f + 1) (Int64.ofInt (a : Nat)) (Int64.ofInt (b : Nat)) w = f_mm_common_L17 f (Int64.ofInt (b : Nat)) (Int64.ofInt ((a % b : Nat) : Int)) w := by
  rw [f_mm_common_L17]
  simp (disch := omega) only [lg_cmp_eq, jzero, jmod]
  rw [if_neg (by omega), if_neg (by omega)]
  rfl
theorem common_0 {f a : Nat} (w : eW) : f_mm_common_L17 (f + 1) (Int64.ofInt (a : Nat)) (Int64.ofInt ((0 : Nat) : Int)) w = some (Int64.ofInt (a : Nat), w) := by
  rw [f_mm_common_L17]
  rw [if_pos (by decide)]
theorem half_lt {a b k : Nat} (hb : b < 2 ^ (k + 1)) (hr : 0 < a % b) : b % (a % b) < 2 ^ k := by
  rcases Nat.eq_zero_or_pos b with z | z
  · subst z
    rw [Nat.zero_mod]
    exact Nat.pow_pos (by omega)
  have h1 : a % b < b := Nat.mod_lt _ z
  have h2 : b % (a % b) < a % b := Nat.mod_lt _ hr
  have h3 : b % (a % b) + (a % b) ≤ b := by
    have := Nat.mod_add_div b (a % b)
    have d : 1 ≤ b / (a % b) := (Nat.one_le_div_iff hr).mpr (by omega)
    have := Nat.mul_le_mul_left (a % b) d
    omega
  rw [Nat.pow_succ] at hb
  omega
theorem m_common_gcd (w : eW) : ∀ (k a b f : Nat), b < 2 ^ k → 2 * k < f → a < 9223372036854775808 → b < 9223372036854775808 → f_mm_common_L17 f (Int64.ofInt (a : Nat)) (Int64.ofInt (b : Nat)) w = some (Int64.ofInt ((Nat.gcd a b : Nat) : Int), w) := by
  intro k
  induction k with
  | zero =>
    intro a b f hb hf ha2 hb2
    obtain ⟨f, rfl⟩ : ∃ g, f = g + 1 := ⟨f - 1, by omega⟩
    obtain rfl : b = 0 := by simp at hb; exact hb
    rw [common_0, Nat.gcd_zero_right]
  | succ k ih =>
    intro a b f hb hf ha2 hb2
    obtain ⟨f, rfl⟩ : ∃ g, f = g + 2 := ⟨f - 2, by omega⟩
    by_cases z : b = 0
    · subst z
      rw [common_0, Nat.gcd_zero_right]
    · rw [common_step (by omega) ha2 hb2]
      have hm := Nat.mod_lt a (show 0 < b by omega)
      have gm : Nat.gcd a b = Nat.gcd b (a % b) := by rw [Nat.gcd_comm a b, Nat.gcd_rec b a, Nat.gcd_comm]
      by_cases y : a % b = 0
      · rw [y, common_0, gm, y, Nat.gcd_zero_right]
      · rw [common_step (by omega) hb2 (by omega)]
        have hl := half_lt hb (by omega : 0 < a % b)
        have := Nat.mod_lt b (show 0 < a % b by omega)
        rw [ih _ _ f hl (by omega) (by omega) (by omega)]
        have gm2 : Nat.gcd b (a % b) = Nat.gcd (a % b) (b % (a % b)) := by rw [Nat.gcd_comm b (a % b), Nat.gcd_rec (a % b) b, Nat.gcd_comm]
        rw [gm, gm2]
theorem m_common {a b : Int} (h1 : 0 ≤ a) (h2 : a < 9223372036854775808) (h3 : 0 ≤ b) (h4 : b < 9223372036854775808) (w : eW) : f_mm_common (Int64.ofInt a) (Int64.ofInt b) w = some (Int64.ofInt ((Int.gcd a b : Nat) : Int), w) := by
  obtain ⟨a, rfl⟩ := Int.eq_ofNat_of_zero_le h1
  obtain ⟨b, rfl⟩ := Int.eq_ofNat_of_zero_le h3
  unfold f_mm_common
  rw [if_pos (by simp (disch := omega) only [lg_cmp_ge, jlit0, jle]; omega), m_common_gcd w 63 a b eFu (by omega) (by rw [eFu_eq]; omega) (by omega) (by omega)]
  rfl
theorem nu_step {f a b i : Nat} (hb : 0 < b) (ha2 : a < 9223372036854775808) (hb2 : b < 9223372036854775808) (hi : i < 1000) (w : eW) : f_nu_commonDivisor_L9 (f + 1) (Int64.ofInt (a : Nat)) (Int64.ofInt (b : Nat)) (Int32.ofInt (i : Nat)) w = f_nu_commonDivisor_L9 f (Int64.ofInt (b : Nat)) (Int64.ofInt ((a % b : Nat) : Int)) (Int32.ofInt ((i + 1 : Nat) : Int)) w := by
  rw [f_nu_commonDivisor_L9]
  simp (disch := omega) only [lg_cmp_eq, jzero, jmod, isucc]
  rw [if_neg (by simp (disch := omega) only [ilit, ile]; omega), if_neg (by omega), if_neg (by omega)]
  rfl
theorem nu_0 {f a i : Nat} (ha : 0 < a) (ha2 : a < 9223372036854775808) (hi : i < 1000) (w : eW) : f_nu_commonDivisor_L9 (f + 1) (Int64.ofInt (a : Nat)) (Int64.ofInt ((0 : Nat) : Int)) (Int32.ofInt (i : Nat)) w = some (Int64.ofInt (a : Nat), w) := by
  rw [f_nu_commonDivisor_L9]
  rw [if_neg (by simp (disch := omega) only [ilit, ile]; omega), if_pos (by decide)]
  by_cases c : 1 < a
  · rw [if_pos (by simp (disch := omega) only [jlit, jlt]; omega)]
  · rw [if_neg (by simp (disch := omega) only [jlit, jlt]; omega), show a = 1 by omega]; rfl
theorem nu_gcd (w : eW) : ∀ (k a b f i : Nat), b < 2 ^ k → 2 * k < f → a < 9223372036854775808 → b < 9223372036854775808 → i + 2 * k < 1000 → 0 < a ∨ 0 < b → f_nu_commonDivisor_L9 f (Int64.ofInt (a : Nat)) (Int64.ofInt (b : Nat)) (Int32.ofInt (i : Nat)) w = some (Int64.ofInt ((Nat.gcd a b : Nat) : Int), w) := by
  intro k
  induction k with
  | zero =>
    intro a b f i hb hf ha2 hb2 hi h0
    obtain ⟨f, rfl⟩ : ∃ g, f = g + 1 := ⟨f - 1, by omega⟩
    obtain rfl : b = 0 := by simp at hb; exact hb
    rw [nu_0 (by omega) ha2 (by omega), Nat.gcd_zero_right]
  | succ k ih =>
    intro a b f i hb hf ha2 hb2 hi h0
    obtain ⟨f, rfl⟩ : ∃ g, f = g + 2 := ⟨f - 2, by omega⟩
    by_cases z : b = 0
    · subst z
      rw [nu_0 (by omega) ha2 (by omega), Nat.gcd_zero_right]
    · rw [nu_step (by omega) ha2 hb2 (by omega)]
      have hm := Nat.mod_lt a (show 0 < b by omega)
      have gm : Nat.gcd a b = Nat.gcd b (a % b) := by rw [Nat.gcd_comm a b, Nat.gcd_rec b a, Nat.gcd_comm]
      by_cases y : a % b = 0
      · rw [y, nu_0 (by omega) hb2 (by omega), gm, y, Nat.gcd_zero_right]
      · rw [nu_step (by omega) hb2 (by omega) (by omega)]
        have hl := half_lt hb (by omega : 0 < a % b)
        have := Nat.mod_lt b (show 0 < a % b by omega)
        rw [ih _ _ f (i + 1 + 1) hl (by omega) (by omega) (by omega) (by omega) (by omega)]
        have gm2 : Nat.gcd b (a % b) = Nat.gcd (a % b) (b % (a % b)) := by rw [Nat.gcd_comm b (a % b), Nat.gcd_rec (a % b) b, Nat.gcd_comm]
        rw [gm, gm2]
theorem nu_common {a b : Int} (h1 : 0 ≤ a) (h2 : a < 9223372036854775808) (h3 : 0 < b) (h4 : b < 9223372036854775808) (w : eW) : f_nu_commonDivisor (Int64.ofInt a) (Int64.ofInt b) w = some (Int64.ofInt ((Int.gcd a b : Nat) : Int), w) := by
  obtain ⟨a, rfl⟩ := Int.eq_ofNat_of_zero_le h1
  obtain ⟨b, rfl⟩ := Int.eq_ofNat_of_zero_le (Int.le_of_lt h3)
  unfold f_nu_commonDivisor
  have := nu_gcd w 63 a b eFu 0 (by omega) (by rw [eFu_eq]; omega) (by omega) (by omega) (by omega) (by omega)
  exact this
/-- a fraction in lowest terms -/
theorem q_low {a b : Int} (h1 : 0 ≤ a) (h3 : 0 < b) {x : Rat} (hx : (a : Rat) = x * (b : Rat)) : a / (Int.gcd a b : Nat) = x.num ∧ b / (Int.gcd a b : Nat) = (x.den : Int) ∧ 0 < Int.gcd a b ∧ ((Int.gcd a b : Nat) : Int) ≤ b := by
  have bq : (0 : Rat) < (b : Rat) := by exact_mod_cast h3
  have e : x = Rat.divInt a b := by
    rw [Rat.divInt_eq_div, hx, Rat.mul_div_cancel (by grind)]
  have g0 : 0 < Int.gcd a b := Int.gcd_pos_of_ne_zero_right a (by omega)
  rw [e, Rat.num_divInt, Rat.den_divInt, if_neg (by omega), Int.sign_eq_one_of_pos h3, Int.one_mul, Int.gcd_comm b a]
  refine ⟨rfl, ?_, g0, Int.le_of_dvd h3 (Int.gcd_dvd_right a b)⟩
  rw [Int.natCast_ediv, Int.natAbs_of_nonneg (Int.le_of_lt h3)]
/-- lowest of the class -/
theorem nu_lowest {a b : Int} (h1 : 0 ≤ a) (h2 : a < 9223372036854775808) (h3 : 0 < b) (h4 : b < 9223372036854775808) {x : Rat} (hx : (a : Rat) = x * (b : Rat)) (k : Int32) (w : eW) : f_nu_lowest (Int64.ofInt a) (Int64.ofInt b) k w = some (if k = 0 then Int64.ofInt x.num else Int64.ofInt (x.den : Nat), w) := by
  obtain ⟨q1, q2, q3, q4⟩ := q_low h1 h3 hx
  unfold f_nu_lowest
  rw [nu_common h1 h2 h3 h4, obind]
  dsimp only
  rw [if_pos (by rw [lg_cmp_gt, jlit0, jlt (by omega) (by omega) (by omega) (by omega)]; omega)]
  simp (disch := omega) only [jzero, jdiv]
  rw [q1, q2]
  by_cases c : k = 0
  · rw [if_neg (fun z => z c), if_neg (by omega), if_pos c]
  · rw [if_pos c, if_neg (by omega), if_neg c]
/-! ===== the reference lays ===== -/
/-- what lay leaves as it was -/
def KL (w w' : eW) : Prop := ∀ i k, ¬ (12 ≤ i ∧ i ≤ 16) → ¬ (i = 24 ∧ (k = 34 ∨ (38 ≤ k ∧ k ≤ 40))) → w'.1 i k = w.1 i k ∧ w'.2 i k = w.2 i k
theorem KL.rfl {w : eW} : KL w w := fun _ _ _ _ => ⟨Eq.refl _, Eq.refl _⟩
theorem KL.tr {a b c : eW} (h : KL a b) (k : KL b c) : KL a c := fun i j h1 h2 => ⟨(k i j h1 h2).1.trans (h i j h1 h2).1, (k i j h1 h2).2.trans (h i j h1 h2).2⟩
theorem KL.u1 {w v : eW} {i k : Nat} {x : Int32} (h : KL w v) (hi : (12 ≤ i ∧ i ≤ 16) ∨ (i = 24 ∧ (k = 34 ∨ (38 ≤ k ∧ k ≤ 40)))) : KL w (eU1 v i k x) := fun j l h1 h2 => by
  have := h j l h1 h2
  rw [u1n _ _ _ _ _ _ (by omega), u1l]
  exact this
theorem KL.u2 {w v : eW} {i k : Nat} {x : Int64} (h : KL w v) (hi : (12 ≤ i ∧ i ≤ 16) ∨ (i = 24 ∧ (k = 34 ∨ (38 ≤ k ∧ k ≤ 40)))) : KL w (eU2 v i k x) := fun j l h1 h2 => by
  have := h j l h1 h2
  rw [u2l, u2n _ _ _ _ _ _ (by omega)]
  exact this
section
variable {n : Nat} {F : Nat → Nat → Int} {wv : Int32} {told : Bool} {set : Int32} {cv : Int}
theorem MF.kl {w w' : eW} (h : MF w n F cv wv) (k : KL w w') : MF w' n F cv wv := by
  unfold MF at *
  rw [(k 24 1 (by omega) (by omega)).1, (k 24 2 (by omega) (by omega)).1, (k 24 16 (by omega) (by omega)).1]
  refine ⟨h.1, h.2.1, h.2.2.1, fun j hj => ?_⟩
  have e := h.2.2.2 j hj
  rw [(k 0 j (by omega) (by omega)).1, (k 1 j (by omega) (by omega)).1, (k 2 j (by omega) (by omega)).1]
  refine ⟨e.1, e.2.1, e.2.2.1, fun h2 i h3 h4 => ?_⟩
  rw [(k i j (by omega) (by omega)).1]
  exact e.2.2.2 h2 i h3 h4
/-- the reference holds the firm, and what is told of turning -/
def MT (w : eW) (n : Nat) (F : Nat → Nat → Int) (cv : Int) (wv : Int32) (told : Bool) (set : Int32) : Prop := MF w n F cv wv ∧ w.1 24 36 = b2i told ∧ w.1 24 35 = set
theorem MT.kl {w w' : eW} (h : MT w n F cv wv told set) (k : KL w w') : MT w' n F cv wv told set := ⟨h.1.kl k, by rw [(k 24 36 (by omega) (by omega)).1]; exact h.2.1, by rw [(k 24 35 (by omega) (by omega)).1]; exact h.2.2⟩
theorem MT.first {w : eW} (hF : FOK n F cv) (h : MT w n F cv wv told set) {k : Nat} (hk : k < n) : f_mm_firstOf (Int32.ofInt (k : Nat)) w = some (Int64.ofInt (fst_ told set F wv k), w) := m_firstOf hF h.1 h.2.1 h.2.2 hk
theorem MT.many {w : eW} (h : MT w n F cv wv told set) : w.1 24 1 = Int32.ofInt (n : Nat) := h.1.1
theorem firsts_loop (hF : FOK n F cv) {w : eW} (hM : MT w n F cv wv told set) : ∀ (d k f : Nat), k + d = n → d < f → f_mm_firsts_L4 f (Int64.ofInt (isum (prefs F wv told set) k)) (Int32.ofInt (k : Nat)) w = some (Int64.ofInt (ap n F wv told set), w) := by
  have hn := hF.1
  intro d
  induction d with
  | zero =>
    intro k f hk hf
    obtain ⟨f, rfl⟩ : ∃ g, f = g + 1 := ⟨f - 1, by omega⟩
    obtain rfl : k = n := by omega
    unfold f_mm_firsts_L4
    rw [hM.many, if_pos (by rw [ile (by omega) (by omega) (by omega) (by omega)]; omega)]
    rfl
  | succ d ih =>
    intro k f hk hf
    obtain ⟨f, rfl⟩ : ∃ g, f = g + 1 := ⟨f - 1, by omega⟩
    have fh := hF.hd (h := k) (by omega)
    have e := hM.1.2.2.2 k (by omega)
    unfold f_mm_firsts_L4
    rw [hM.many, if_neg (by rw [ile (by omega) (by omega) (by omega) (by omega)]; omega), eChk_of (by omega) (by omega) (by omega), hM.first hF (by omega), obind]
    dsimp only
    rw [icl (by omega) (by omega), nat_i, e.2.1, i2j (by omega) (by omega), ← Int64.ofInt_mul, ← Int64.ofInt_add, isucc]
    exact ih (k + 1) f (by omega) (by omega)
theorem m_firsts (hF : FOK n F cv) {w : eW} (hM : MT w n F cv wv told set) : f_mm_firsts w = some (Int64.ofInt (ap n F wv told set), w) := firsts_loop hF hM n 0 eFu (by omega) (by rw [eFu_eq]; have := hF.1; omega)
theorem firstsOf_loop (hF : FOK n F cv) {w : eW} (hM : MT w n F cv wv told set) {r : Nat} (hr : r < 6) : ∀ (d k f : Nat), k + d = n → d < f → f_mm_firstsOf_L5 f (Int32.ofInt (r : Nat)) (Int64.ofInt (rp k F wv told set r)) (Int32.ofInt (k : Nat)) w = some (Int64.ofInt (rp n F wv told set r), w) := by
  have hn := hF.1
  intro d
  induction d with
  | zero =>
    intro k f hk hf
    obtain ⟨f, rfl⟩ : ∃ g, f = g + 1 := ⟨f - 1, by omega⟩
    obtain rfl : k = n := by omega
    unfold f_mm_firstsOf_L5
    rw [hM.many, if_pos (by rw [ile (by omega) (by omega) (by omega) (by omega)]; omega)]
  | succ d ih =>
    intro k f hk hf
    obtain ⟨f, rfl⟩ : ∃ g, f = g + 1 := ⟨f - 1, by omega⟩
    have fh := hF.hd (h := k) (by omega)
    have e := hM.1.2.2.2 k (by omega)
    have nx : rp (k + 1) F wv told set r = rp k F wv told set r + (if F k 3 = r then prefs F wv told set k else 0) := rfl
    have z : rp k F wv told set r + 0 = rp k F wv told set r := Int.add_zero _
    have go := ih (k + 1) f (by omega) (by omega)
    unfold f_mm_firstsOf_L5
    rw [hM.many, if_neg (by rw [ile (by omega) (by omega) (by omega) (by omega)]; omega)]
    simp (disch := omega) only [eChk_of, icl, nat_i, e.1, isucc, jlit0, ← Int64.ofInt_add]
    by_cases h2 : F k 0 = 2
    · rw [if_neg (by rw [h2]; exact fun z => z rfl), e.2.2.2 h2 3 (by omega) (by omega)]
      simp (disch := omega) only [ieq]
      by_cases h3 : F k 3 = r
      · rw [if_neg (fun z => z h3), hM.first hF (by omega), obind]
        dsimp only
        rw [e.2.1, i2j (by omega) (by omega), ← Int64.ofInt_mul, ← Int64.ofInt_add]
        rw [nx, if_pos h3] at go
        exact go
      · rw [if_pos h3, z]
        rw [nx, if_neg h3, z] at go
        exact go
    · rw [if_pos (by rw [show (2 : Int32) = Int32.ofInt 2 from rfl, ieq (by omega) (by omega) (by omega) (by omega)]; exact h2), z]
      rw [nx, prefs_0 h2] at go
      rw [show (if F k 3 = (r : Int) then (0 : Int) else 0) = 0 by split <;> rfl, z] at go
      exact go
theorem m_firstsOf (hF : FOK n F cv) {w : eW} (hM : MT w n F cv wv told set) {r : Nat} (hr : r < 6) : f_mm_firstsOf (Int32.ofInt (r : Nat)) w = some (Int64.ofInt (rp n F wv told set r), w) := firstsOf_loop hF hM hr n 0 eFu (by omega) (by rw [eFu_eq]; have := hF.1; omega)
/-- what is laid -/
def LV (n : Nat) (w : eW) (x : Nat → Rat) : Prop := ∃ (b : Int) (a : Nat → Int), w.2 24 38 = Int64.ofInt b ∧ 1 ≤ b ∧ b ≤ 15000000000 ∧ ∀ h, h < n → w.2 16 h = Int64.ofInt (a h) ∧ (a h : Rat) = x h * (b : Rat) ∧ 0 ≤ a h ∧ a h < 9223372036854775807
theorem mrank_fill (hF : FOK n F cv) {o : Nat} (ho : o < 6) {b l : Int} : ∀ (d k f : Nat), k + d = n → d < f → ∀ w : eW, MT w n F cv wv told set → w.2 24 38 = Int64.ofInt b → (∀ h, h < k → w.2 16 h = Int64.ofInt (if F h 3 < o then prefs F wv told set h * b else if F h 3 = o then prefs F wv told set h * l else 0)) →
    Ok (f_mm_layRanks_L65 f (Int64.ofInt l) (Int32.ofInt (o : Nat)) (Int32.ofInt (k : Nat)) w) fun w' => KL w w' ∧ w'.2 24 38 = Int64.ofInt b ∧ w'.2 24 39 = 0 ∧ w'.2 24 40 = 1 ∧ ∀ h, h < n → w'.2 16 h = Int64.ofInt (if F h 3 < o then prefs F wv told set h * b else if F h 3 = o then prefs F wv told set h * l else 0) := by
  have hn := hF.1
  intro d
  induction d with
  | zero =>
    intro k f hk hf w hM e5 hv
    obtain ⟨f, rfl⟩ : ∃ g, f = g + 1 := ⟨f - 1, by omega⟩
    obtain rfl : k = n := by omega
    unfold f_mm_layRanks_L65
    rw [hM.many, if_pos (by rw [ile (by omega) (by omega) (by omega) (by omega)]; omega)]
    refine Ok.ret ⟨(KL.rfl.u2 (by omega)).u2 (by omega), ?_, ?_, u2s _ _ _ _, fun h hh => ?_⟩
    · rw [u2n _ _ _ _ _ _ (by omega), u2n _ _ _ _ _ _ (by omega)]; exact e5
    · rw [u2n _ _ _ _ _ _ (by omega), u2s]
    · rw [u2n _ _ _ _ _ _ (by omega), u2n _ _ _ _ _ _ (by omega)]; exact hv h hh
  | succ d ih =>
    intro k f hk hf w hM e5 hv
    obtain ⟨f, rfl⟩ : ∃ g, f = g + 1 := ⟨f - 1, by omega⟩
    have fh := hF.hd (h := k) (by omega)
    have e := hM.1.2.2.2 k (by omega)
    have step : ∀ y : Int, y = (if F k 3 < o then prefs F wv told set k * b else if F k 3 = o then prefs F wv told set k * l else 0) → Ok (f_mm_layRanks_L65 f (Int64.ofInt l) (Int32.ofInt (o : Nat)) (Int32.ofInt ((k + 1 : Nat) : Int)) (eU2 w 16 k (Int64.ofInt y))) fun w' => KL w w' ∧ w'.2 24 38 = Int64.ofInt b ∧ w'.2 24 39 = 0 ∧ w'.2 24 40 = 1 ∧ ∀ h, h < n → w'.2 16 h = Int64.ofInt (if F h 3 < o then prefs F wv told set h * b else if F h 3 = o then prefs F wv told set h * l else 0) := by
      intro y hy
      have k1 : KL w (eU2 w 16 k (Int64.ofInt y)) := KL.rfl.u2 (by omega)
      refine Ok.imp (ih (k + 1) f (by omega) (by omega) _ (hM.kl k1) (by rw [u2n _ _ _ _ _ _ (by omega)]; exact e5) ?_) ?_
      · intro h hh
        by_cases z : h = k
        · subst z; rw [u2s, hy]
        · rw [u2n _ _ _ _ _ _ (by omega)]; exact hv h (by omega)
      · rintro w' ⟨q1, q2⟩
        exact ⟨k1.tr q1, q2⟩
    have join : ∀ s : Int, s = prefs F wv told set k → Ok (f_mm_layRanks_J104 (f_mm_layRanks_L65 f) (Int64.ofInt l) (Int32.ofInt (o : Nat)) (Int32.ofInt (k : Nat)) (Int64.ofInt s) w) fun w' => KL w w' ∧ w'.2 24 38 = Int64.ofInt b ∧ w'.2 24 39 = 0 ∧ w'.2 24 40 = 1 ∧ ∀ h, h < n → w'.2 16 h = Int64.ofInt (if F h 3 < o then prefs F wv told set h * b else if F h 3 = o then prefs F wv told set h * l else 0) := by
      intro s hs
      have pb := prefs_b (wv := wv) (told := told) (set := set) hF (h := k) (by omega)
      unfold f_mm_layRanks_J104
      simp (disch := omega) only [lg_cmp_eq, jlit0, jeq, eChk_of, icl, nat_i, isucc]
      by_cases z : s = 0
      · rw [if_pos z]
        refine step 0 ?_
        rw [← hs, z, Int.zero_mul, Int.zero_mul]
        split
        · rfl
        · split <;> rfl
      · rw [if_neg z]
        have h2 : F k 0 = 2 := by
          by_cases h2 : F k 0 = 2
          · exact h2
          · rw [prefs_0 h2] at hs; omega
        rw [e.2.2.2 h2 3 (by omega) (by omega)]
        simp (disch := omega) only [ile]
        by_cases c1 : F k 3 < o
        · rw [if_pos (by omega), if_neg (by omega), e5, ← Int64.ofInt_mul]
          exact step _ (by rw [if_pos c1, hs])
        · by_cases c2 : F k 3 = o
          · rw [if_pos (by omega), if_pos (by omega), ← Int64.ofInt_mul]
            exact step _ (by rw [if_neg c1, if_pos c2, hs])
          · rw [if_neg (by omega)]
            exact step 0 (by rw [if_neg c1, if_neg c2])
    unfold f_mm_layRanks_L65
    rw [hM.many, if_neg (by rw [ile (by omega) (by omega) (by omega) (by omega)]; omega)]
    simp (disch := omega) only [eChk_of, icl, nat_i, e.1]
    by_cases h2 : F k 0 = 2
    · rw [if_neg (by rw [h2]; exact fun z => z rfl), hM.first hF (by omega), obind]
      dsimp only
      rw [e.2.1, i2j (by omega) (by omega), ← Int64.ofInt_mul]
      exact join _ rfl
    · rw [if_pos (by rw [show (2 : Int32) = Int32.ofInt 2 from rfl, ieq (by omega) (by omega) (by omega) (by omega)]; exact h2)]
      exact join 0 (prefs_0 h2).symm
end
section
variable {n : Nat} {F : Nat → Nat → Int} {wv : Int32} {told : Bool} {set : Int32} {cv : Int}
theorem mrank_fin (hF : FOK n F cv) {falls : Int} (hb : 0 ≤ falls ∧ falls ≤ 999999900) {r : Nat} (hr : r < 6) (h1 : bf n F wv told set r ≤ falls) (h2 : n = 0 ∨ falls ≤ bf n F wv told set (r + 1)) {w : eW} (hM : MT w n F cv wv told set) :
    Ok (if ¬ lg_cmp (Int64.ofInt (rp n F wv told set r)) 0 = 0 then f_mm_layRanks_L65 eFu (Int64.ofInt (falls - bf n F wv told set r)) (Int32.ofInt (r : Nat)) 0 (eU2 w 24 38 (Int64.ofInt (rp n F wv told set r))) else f_mm_layRanks_L65 eFu (Int64.ofInt (falls - bf n F wv told set r)) (Int32.ofInt (r : Nat)) 0 (eU2 w 24 38 1)) fun w' => KL w w' ∧ w'.2 24 39 = 0 ∧ w'.2 24 40 = 1 ∧ LV n w' (rx n F wv told set falls) := by
  have hn := hF.1
  have rb := rp_b (wv := wv) (told := told) (set := set) hF r
  have bo := bf_nn (wv := wv) (told := told) (set := set) hF r
  have e : bf n F wv told set (r + 1) = bf n F wv told set r + rp n F wv told set r := rfl
  simp (disch := omega) only [lg_cmp_eq, jlit0, jeq]
  have fin : ∀ b : Int, 1 ≤ b → b ≤ 5939406000 → (∀ h, h < n → (((if F h 3 < r then prefs F wv told set h * b else if F h 3 = r then prefs F wv told set h * (falls - bf n F wv told set r) else 0) : Int) : Rat) = rx n F wv told set falls h * (b : Rat)) → Ok (f_mm_layRanks_L65 eFu (Int64.ofInt (falls - bf n F wv told set r)) (Int32.ofInt (r : Nat)) 0 (eU2 w 24 38 (Int64.ofInt b))) fun w' => KL w w' ∧ w'.2 24 39 = 0 ∧ w'.2 24 40 = 1 ∧ LV n w' (rx n F wv told set falls) := by
    intro b b1 b2 hx
    have k1 : KL w (eU2 w 24 38 (Int64.ofInt b)) := KL.rfl.u2 (by omega)
    refine Ok.imp (mrank_fill hF hr (b := b) (l := falls - bf n F wv told set r) n 0 eFu (by omega) (by rw [eFu_eq]; omega) _ (hM.kl k1) (by rw [u2s]) (by omega)) ?_
    rintro w' ⟨q1, q2, q3, q4, q5⟩
    refine ⟨k1.tr q1, q3, q4, b, _, q2, b1, by omega, fun h hh => ⟨q5 h hh, hx h hh, ?_⟩⟩
    have pb := prefs_b (wv := wv) (told := told) (set := set) hF hh
    split
    · have := mul_le4 (a := prefs F wv told set h) (b := b) (A := 989901000) (B := 5939406000) (by omega) (by omega) (by omega) (by omega)
      omega
    · split
      · have := mul_le4 (a := prefs F wv told set h) (b := falls - bf n F wv told set r) (A := 989901000) (B := 999999900) (by omega) (by omega) (by omega) (by omega)
        omega
      · omega
  by_cases z : rp n F wv told set r = 0
  · rw [if_neg (fun y => y z)]
    refine fin 1 (by omega) (by omega) ?_
    intro h hh
    have h2' : falls ≤ bf n F wv told set (r + 1) := by omega
    rw [rx_at hF h1 h2' hh]
    have pr := prefs_rp (wv := wv) (told := told) (set := set) hF hh
    have pb := prefs_b (wv := wv) (told := told) (set := set) hF hh
    split
    · grind
    · split
      · rename_i c
        rw [show (F h 3).toNat = r by omega] at pr
        rw [show prefs F wv told set h = 0 by omega]
        grind
      · grind
  · rw [if_pos z]
    have rpos : (rp n F wv told set r : Rat) ≠ 0 := by
      have : (0 : Rat) < (rp n F wv told set r : Rat) := by exact_mod_cast (show 0 < rp n F wv told set r by omega)
      grind
    refine fin _ (by omega) (by omega) ?_
    intro h hh
    have h2' : falls ≤ bf n F wv told set (r + 1) := by omega
    rw [rx_at hF h1 h2' hh]
    split
    · rw [Rat.intCast_mul]
    · split
      · rw [Rat.intCast_mul, Rat.intCast_sub, Rat.mul_assoc, Rat.div_mul_cancel rpos]
      · grind
theorem mranks_loop (hF : FOK n F cv) {falls : Int} (hb : 0 ≤ falls ∧ falls ≤ 999999900) (hap : n = 0 ∨ falls ≤ ap n F wv told set) {w : eW} (hM : MT w n F cv wv told set) : ∀ (d r f : Nat), r + d = 5 → d < f → bf n F wv told set r ≤ falls →
    Ok (f_mm_layRanks_L5 f (Int64.ofInt (falls - bf n F wv told set r)) (Int32.ofInt (r : Nat)) w) fun w' => KL w w' ∧ w'.2 24 39 = 0 ∧ w'.2 24 40 = 1 ∧ LV n w' (rx n F wv told set falls) := by
  intro d
  induction d with
  | zero =>
    intro r f hr hf h
    obtain ⟨f, rfl⟩ : ∃ g, f = g + 1 := ⟨f - 1, by omega⟩
    obtain rfl : r = 5 := by omega
    unfold f_mm_layRanks_L5
    rw [if_pos (by simp (disch := omega) only [ilit, ile]; omega), m_firstsOf hF hM (by omega), obind]
    exact mrank_fin hF hb (by omega) h (by rw [bf_6 (wv := wv) (told := told) (set := set) hF]; exact hap) hM
  | succ d ih =>
    intro r f hr hf h
    obtain ⟨f, rfl⟩ : ∃ g, f = g + 1 := ⟨f - 1, by omega⟩
    have rb := rp_b (wv := wv) (told := told) (set := set) hF r
    have bo := bf_nn (wv := wv) (told := told) (set := set) hF r
    have e : bf n F wv told set (r + 1) = bf n F wv told set r + rp n F wv told set r := rfl
    unfold f_mm_layRanks_L5
    rw [if_neg (by simp (disch := omega) only [ilit, ile]; omega), m_firstsOf hF hM (by omega), obind]
    dsimp only
    rw [m_firstsOf hF hM (by omega), obind]
    dsimp only
    have lc : (lg_cmp (Int64.ofInt (falls - bf n F wv told set r)) (Int64.ofInt (rp n F wv told set r)) < 0) ↔ (falls - bf n F wv told set r < rp n F wv told set r) := by
      rw [lg_cmp_lt, jlt (by omega) (by omega) (by omega) (by omega)]
    by_cases c : falls - bf n F wv told set r < rp n F wv told set r
    · rw [if_pos (lc.mpr c)]
      exact mrank_fin hF hb (by omega) h (by omega) hM
    · rw [if_neg (fun z => c (lc.mp z)), obind]
      dsimp only
      rw [← Int64.ofInt_sub, isucc, show falls - bf n F wv told set r - rp n F wv told set r = falls - bf n F wv told set (r + 1) by omega]
      exact ih (r + 1) f (by omega) (by omega) (by omega)
theorem m_layRanks (hF : FOK n F cv) {falls : Int} (hb : 0 ≤ falls ∧ falls ≤ 999999900) (hap : n = 0 ∨ falls ≤ ap n F wv told set) {w : eW} (hM : MT w n F cv wv told set) : Ok (f_mm_layRanks (Int64.ofInt falls) w) fun w' => KL w w' ∧ w'.2 24 39 = 0 ∧ w'.2 24 40 = 1 ∧ LV n w' (rx n F wv told set falls) := by
  have := mranks_loop hF hb hap hM 5 0 eFu (by omega) (by rw [eFu_eq]; omega) hb.1
  rw [show falls - bf n F wv told set 0 = falls by show falls - 0 = falls; omega] at this
  exact this
/-! edges -/
def EV (w : eW) (l : List (Int × Int)) : Prop := w.1 24 34 = Int32.ofInt ((l.length : Nat) : Int) ∧ ∀ i p, l[i]? = some p → w.2 12 i = Int64.ofInt p.1 ∧ w.2 13 i = Int64.ofInt p.2
abbrev Eb (p : Int × Int) : Prop := 0 ≤ p.1 ∧ 0 < p.2 ∧ p.2 ≤ 400 ∧ p.1 ≤ 19800000
theorem eV_lt {p q : Int × Int} (h : 0 < p.2) (k : 0 < q.2) : (eV p < eV q) ↔ (p.1 * q.2 < q.1 * p.2) := by
  have a : (0 : Rat) < (p.2 : Rat) := by exact_mod_cast h
  have b : (0 : Rat) < (q.2 : Rat) := by exact_mod_cast k
  unfold eV
  rw [Rat.div_lt_iff a, ← Rat.intCast_lt_intCast, Rat.intCast_mul, Rat.intCast_mul]
  have e : (q.1 : Rat) / (q.2 : Rat) * (p.2 : Rat) = ((q.1 : Rat) * (p.2 : Rat)) / (q.2 : Rat) := by
    rw [Rat.div_def, Rat.div_def]; grind
  rw [e, Rat.lt_div_iff b]
def KE (w w' : eW) : Prop := (∀ i k, ¬ (i = 24 ∧ k = 34) → w'.1 i k = w.1 i k) ∧ ∀ i, i ≠ 12 → i ≠ 13 → w'.2 i = w.2 i
theorem KE.kl {w w' : eW} (h : KE w w') : KL w w' := fun i k h1 h2 => ⟨h.1 i k (by omega), by rw [h.2 i (by omega) (by omega)]⟩
theorem KE.tr {a b c : eW} (h : KE a b) (k : KE b c) : KE a c := ⟨fun i j h1 => (k.1 i j h1).trans (h.1 i j h1), fun i h1 h2 => (k.2 i h1 h2).trans (h.2 i h1 h2)⟩
theorem edge_loop {l : List (Int × Int)} (hl : l.length < 30) (hg : ∀ p, p ∈ l → Eb p) {p : Int × Int} (hp : Eb p) : ∀ (a f : Nat), a < f → a ≤ l.length → ∀ w : eW, w.1 24 34 = Int32.ofInt ((l.length : Nat) : Int) → (∀ i q, i < a → l[i]? = some q → w.2 12 i = Int64.ofInt q.1 ∧ w.2 13 i = Int64.ofInt q.2) →
    Ok (f_mm_edge_L6 f (Int64.ofInt p.1) (Int64.ofInt p.2) (Int32.ofInt (a : Nat)) w) fun w' => ∃ b, b ≤ a ∧ (∀ i q, b ≤ i → i < a → l[i]? = some q → p.1 * q.2 < q.1 * p.2) ∧ (∀ q, 0 < b → l[b - 1]? = some q → ¬ (p.1 * q.2 < q.1 * p.2)) ∧ KE w w' ∧ w'.1 24 34 = Int32.ofInt ((l.length + 1 : Nat) : Int) ∧ (∀ i, i < b → w'.2 12 i = w.2 12 i ∧ w'.2 13 i = w.2 13 i) ∧ w'.2 12 b = Int64.ofInt p.1 ∧ w'.2 13 b = Int64.ofInt p.2 ∧ (∀ i, b ≤ i → i < a → w'.2 12 (i + 1) = w.2 12 i ∧ w'.2 13 (i + 1) = w.2 13 i) ∧ ∀ i, a < i → w'.2 12 i = w.2 12 i ∧ w'.2 13 i = w.2 13 i := by
  have fin : ∀ (a : Nat), a ≤ l.length → ∀ w : eW, w.1 24 34 = Int32.ofInt ((l.length : Nat) : Int) → (∀ q, 0 < a → l[a - 1]? = some q → ¬ (p.1 * q.2 < q.1 * p.2)) → Ok (eChk (Int32.ofInt (a : Nat)) 30 (eChk (Int32.ofInt (a : Nat)) 30 (some (eU1 (eU2 (eU2 w 12 (Int32.toNatClampNeg (Int32.ofInt (a : Nat))) (Int64.ofInt p.1)) 13 (Int32.toNatClampNeg (Int32.ofInt (a : Nat))) (Int64.ofInt p.2)) 24 34 ((w.1 24 34) + 1))))) fun w' => ∃ b, b ≤ a ∧ (∀ i q, b ≤ i → i < a → l[i]? = some q → p.1 * q.2 < q.1 * p.2) ∧ (∀ q, 0 < b → l[b - 1]? = some q → ¬ (p.1 * q.2 < q.1 * p.2)) ∧ KE w w' ∧ w'.1 24 34 = Int32.ofInt ((l.length + 1 : Nat) : Int) ∧ (∀ i, i < b → w'.2 12 i = w.2 12 i ∧ w'.2 13 i = w.2 13 i) ∧ w'.2 12 b = Int64.ofInt p.1 ∧ w'.2 13 b = Int64.ofInt p.2 ∧ (∀ i, b ≤ i → i < a → w'.2 12 (i + 1) = w.2 12 i ∧ w'.2 13 (i + 1) = w.2 13 i) ∧ ∀ i, a < i → w'.2 12 i = w.2 12 i ∧ w'.2 13 i = w.2 13 i := by
    intro a ha w e h
    simp (disch := omega) only [eChk_of, icl, nat_i]
    rw [e, isucc]
    refine Ok.ret ⟨a, Nat.le_refl _, by omega, h, ⟨fun i k h1 => ?_, fun i h1 h2 => ?_⟩, u1s _ _ _ _, fun i hi => ?_, ?_, ?_, by omega, fun i hi => ?_⟩
    · rw [u1n _ _ _ _ _ _ (by omega)]; rfl
    · funext k
      rw [u1l, u2n _ _ _ _ _ _ (by omega), u2n _ _ _ _ _ _ (by omega)]
    · rw [u1l, u2n _ _ _ _ _ _ (by omega), u2n _ _ _ _ _ _ (by omega), u2n _ _ _ _ _ _ (by omega), u2n _ _ _ _ _ _ (by omega)]
      exact ⟨rfl, rfl⟩
    · rw [u1l, u2n _ _ _ _ _ _ (by omega), u2s]
    · rw [u1l, u2s]
    · rw [u1l, u2n _ _ _ _ _ _ (by omega), u2n _ _ _ _ _ _ (by omega), u2n _ _ _ _ _ _ (by omega), u2n _ _ _ _ _ _ (by omega)]
      exact ⟨rfl, rfl⟩
  intro a
  induction a with
  | zero =>
    intro f hf ha w e hi
    obtain ⟨f, rfl⟩ : ∃ g, f = g + 1 := ⟨f - 1, by omega⟩
    unfold f_mm_edge_L6
    rw [if_pos (by simp (disch := omega) only [ilit, ile]; omega)]
    exact fin 0 (by omega) w e (by omega)
  | succ a ih =>
    intro f hf ha w e hi
    obtain ⟨f, rfl⟩ : ∃ g, f = g + 1 := ⟨f - 1, by omega⟩
    unfold f_mm_edge_L6
    have la : l[a]? = some l[a] := List.getElem?_eq_getElem (by omega)
    have hq := hg l[a] (List.getElem_mem _)
    obtain ⟨e12, e13⟩ := hi a _ (by omega) la
    generalize l[a] = q at *
    have m1 := mul_le4 (a := q.1) (b := p.2) (A := 19800000) (B := 400) (by omega) (by omega) (by omega) (by omega)
    have m2 := mul_le4 (a := p.1) (b := q.2) (A := 19800000) (B := 400) (by omega) (by omega) (by omega) (by omega)
    have s1 : Int32.ofInt ((a + 1 : Nat) : Int) - 1 = Int32.ofInt (a : Nat) := by rw [show (1 : Int32) = Int32.ofInt 1 from rfl, ← Int32.ofInt_sub]; congr 1; omega
    have s2 : Int32.ofInt ((a + 1 : Nat) : Int) + -1 = Int32.ofInt (a : Nat) := by rw [show (-1 : Int32) = Int32.ofInt (-1) from rfl, ← Int32.ofInt_add]; congr 1; omega
    have lc : (lg_cmp (Int64.ofInt (q.1 * p.2)) (Int64.ofInt (p.1 * q.2)) ≤ 0) ↔ q.1 * p.2 ≤ p.1 * q.2 := by
      rw [lg_cmp_le, jle (by omega) (by omega) (by omega) (by omega)]
    rw [if_neg (by simp (disch := omega) only [ilit, ile]; omega), s1, s2]
    rw [eChk_of (a := (a : Int)) (by omega) (by omega) (by omega), eChk_of (a := (a : Int)) (by omega) (by omega) (by omega), icl (a := (a : Int)) (by omega) (by omega), nat_i, e12, e13, ← Int64.ofInt_mul, ← Int64.ofInt_mul]
    by_cases c : p.1 * q.2 < q.1 * p.2
    · rw [if_neg (fun z => by have := lc.mp z; omega)]
      simp (disch := omega) only [eChk_of, icl, nat_i]
      refine Ok.imp (ih f (by omega) (by omega) (eU2 (eU2 w 12 (a + 1) (Int64.ofInt q.1)) 13 (a + 1) (Int64.ofInt q.2)) e ?_) ?_
      · intro i q' hia hq'
        rw [u2n _ _ _ _ _ _ (by omega), u2n _ _ _ _ _ _ (by omega), u2n _ _ _ _ _ _ (by omega), u2n _ _ _ _ _ _ (by omega)]
        exact hi i q' (by omega) hq'
      · rintro w' ⟨b, b1, b2, b3, b4, b5, b6, b7, b8, b9, b10⟩
        refine ⟨b, by omega, ?_, b3, ⟨fun i k h1 => (b4.1 i k h1), fun i h1 h2 => ?_⟩, b5, ?_, b7, b8, ?_, ?_⟩
        · intro i q' h3 h4 h5
          by_cases z : i = a
          · subst z; rw [la] at h5; cases h5; exact c
          · exact b2 i q' h3 (by omega) h5
        · rw [b4.2 i h1 h2]
          funext k
          rw [u2n _ _ _ _ _ _ (by omega), u2n _ _ _ _ _ _ (by omega)]
        · intro i h3
          have := b6 i h3
          rw [u2n _ _ _ _ _ _ (by omega), u2n _ _ _ _ _ _ (by omega), u2n _ _ _ _ _ _ (by omega), u2n _ _ _ _ _ _ (by omega)] at this
          exact this
        · intro i h3 h4
          by_cases z : i = a
          · subst z
            have := b10 (i + 1) (by omega)
            rw [u2n _ _ _ _ _ _ (by omega), u2s, u2s] at this
            rw [e12, e13]
            exact this
          · have := b9 i h3 (by omega)
            rw [u2n _ _ _ _ _ _ (by omega), u2n _ _ _ _ _ _ (by omega), u2n _ _ _ _ _ _ (by omega), u2n _ _ _ _ _ _ (by omega)] at this
            exact this
        · intro i h3
          have := b10 i (by omega)
          rw [u2n _ _ _ _ _ _ (by omega), u2n _ _ _ _ _ _ (by omega), u2n _ _ _ _ _ _ (by omega), u2n _ _ _ _ _ _ (by omega)] at this
          exact this
    · rw [if_pos (lc.mpr (by omega))]
      refine fin (a + 1) (by omega) w e (fun q' _ hq' => ?_)
      rw [show a + 1 - 1 = a from rfl, la] at hq'
      cases hq'
      exact c
end
