/-! ===== fractions compared, amounts halved ===== -/
section
def sgn (z : Int) : Int32 := if z < 0 then -1 else if z = 0 then 0 else 1
theorem sgn_neg (z : Int) : sgn (-z) = - sgn z := by
  unfold sgn
  by_cases a : z < 0
  · rw [if_neg (by omega), if_neg (by omega), if_pos a]; rfl
  · by_cases b : z = 0
    · subst b; rfl
    · rw [if_pos (by omega), if_neg a, if_neg b]
theorem sgn_p {z : Int} (h : 0 < z) : sgn z = 1 := by unfold sgn; rw [if_neg (by omega), if_neg (by omega)]
theorem sgn_n {z : Int} (h : z < 0) : sgn z = -1 := by unfold sgn; rw [if_pos h]
theorem neg_neg_mul (s t : Int32) (hs : s = 1 ∨ s = -1) : -s * -t = s * t := by grind
theorem lo_cmp {a b : Int} (h1 : -9223372036854775808 ≤ a) (h2 : a < 9223372036854775808) (h3 : -9223372036854775808 ≤ b) (h4 : b < 9223372036854775808) (w : eW) : f_lo_compare (Int64.ofInt a) (Int64.ofInt b) w = some (sgn (a - b), w) := by
  unfold f_lo_compare
  simp only [lg_cmp_ge, lg_cmp_eq]
  rw [ite_congr (propext (jle (by omega) (by omega) (by omega) (by omega))) (fun _ => rfl) (fun _ => rfl), ite_congr (propext (not_congr (jeq (by omega) (by omega) (by omega) (by omega)))) (fun _ => rfl) (fun _ => rfl)]
  unfold sgn
  by_cases c : b ≤ a
  · rw [if_pos c, if_neg (show ¬ a - b < 0 by omega)]
    by_cases d : a = b
    · rw [if_neg (fun z => z d), if_pos (show a - b = 0 by omega)]
    · rw [if_pos d, if_neg (show ¬ a - b = 0 by omega)]
  · rw [if_neg c, if_pos (show a - b < 0 by omega)]
theorem cf_step {f i : Nat} {a b c d : Int} {s : Int32} (ha : 0 ≤ a) (ha2 : a < 9223372036854775808) (hb : 0 < b) (hb2 : b < 9223372036854775808) (hc : 0 ≤ c) (hc2 : c < 9223372036854775808) (hd : 0 < d) (hd2 : d < 9223372036854775808) (hi : i < 1000) (w : eW) :
    f_nu_compareFractions_L20 (f + 1) (Int64.ofInt a) (Int64.ofInt b) (Int64.ofInt c) (Int64.ofInt d) s (Int32.ofInt (i : Nat)) w = some (s * sgn (a * d - c * b), w) ∨ (0 < a % b ∧ 0 < c % d ∧ sgn (b * (c % d) - d * (a % b)) = - sgn (a * d - c * b) ∧
    f_nu_compareFractions_L20 (f + 1) (Int64.ofInt a) (Int64.ofInt b) (Int64.ofInt c) (Int64.ofInt d) s (Int32.ofInt (i : Nat)) w = f_nu_compareFractions_L20 f (Int64.ofInt b) (Int64.ofInt (a % b)) (Int64.ofInt d) (Int64.ofInt (c % d)) (-s) (Int32.ofInt ((i + 1 : Nat) : Int)) w) := by
  have ra := Int.emod_nonneg a (show b ≠ 0 by omega)
  have rb := Int.emod_lt_of_pos a hb
  have rc := Int.emod_nonneg c (show d ≠ 0 by omega)
  have rd := Int.emod_lt_of_pos c hd
  have ea := Int.emod_def a b
  have ec := Int.emod_def c d
  have qa := Int.ediv_nonneg ha (show 0 ≤ b by omega)
  have qc := Int.ediv_nonneg hc (show 0 ≤ d by omega)
  have qa2 := Int.ediv_le_self b ha
  have qc2 := Int.ediv_le_self d hc
  have nb : ¬ (Int64.ofInt b ≤ 0) := by rw [jlit0, jle (by omega) (by omega) (by omega) (by omega)]; omega
  have nd : ¬ (Int64.ofInt d ≤ 0) := by rw [jlit0, jle (by omega) (by omega) (by omega) (by omega)]; omega
  have nb0 : ¬ (Int64.ofInt b = 0) := by rw [jlit0, jeq (by omega) (by omega) (by omega) (by omega)]; omega
  have nd0 : ¬ (Int64.ofInt d = 0) := by rw [jlit0, jeq (by omega) (by omega) (by omega) (by omega)]; omega
  have ni : ¬ ((1000 : Int32) ≤ Int32.ofInt (i : Nat)) := by rw [show (1000 : Int32) = Int32.ofInt 1000 from rfl, ile (by omega) (by omega) (by omega) (by omega)]; omega
  have c1 : (Int64.ofInt (a % b) = 0) = (a % b = 0) := by rw [jlit0, jeq (by omega) (by omega) (by omega) (by omega)]
  have c2 : (Int64.ofInt (c % d) = 0) = (c % d = 0) := by rw [jlit0, jeq (by omega) (by omega) (by omega) (by omega)]
  have c3 : (Int64.ofInt (a / b) = Int64.ofInt (c / d)) = (a / b = c / d) := propext (jeq (by omega) (by omega) (by omega) (by omega))
  have c4 : (Int64.ofInt (a / b) ≤ Int64.ofInt (c / d)) = (a / b ≤ c / d) := propext (jle (by omega) (by omega) (by omega) (by omega))
  have c5 := lo_cmp (a := a % b) (b := c % d) (by omega) (by omega) (by omega) (by omega) w
  generalize hR : f_nu_compareFractions_L20 f (Int64.ofInt b) (Int64.ofInt (a % b)) (Int64.ofInt d) (Int64.ofInt (c % d)) (-s) (Int32.ofInt ((i + 1 : Nat) : Int)) w = R
  unfold f_nu_compareFractions_L20
  simp only [lg_cmp_le, lg_cmp_eq, jmod ha ha2 hb hb2, jmod hc hc2 hd hd2]
  simp only [jdiv ha ha2 hb hb2, jdiv hc hc2 hd hd2, isucc, nb, nd, nb0, nd0, ni, if_false, c1, c2, c3, c4, c5, obind]
  clear c1 c2 c3 c4 c5
  generalize a / b = p at *
  generalize c / d = q at *
  generalize a % b = r at *
  generalize c % d = t at *
  have eA : a * d = b * p * d + r * d := by rw [ea]; grind
  have eC : c * b = d * q * b + t * b := by rw [ec]; grind
  by_cases e : p = q
  · subst e
    have eD : a * d - c * b = r * d - t * b := by rw [eA, eC]; grind
    rw [if_pos rfl]
    by_cases r0 : r = 0
    · left
      rw [if_pos r0, eD, r0]
      by_cases t0 : t = 0
      · rw [t0]; simp
      · have : 0 < t * b := Int.mul_pos (by omega) hb
        rw [sgn_n (show 0 - t < 0 by omega), sgn_n (by omega)]
    · rw [if_neg r0]
      by_cases t0 : t = 0
      · left
        rw [if_neg (fun z => z t0), eD, t0]
        have : 0 < r * d := Int.mul_pos (by omega) hd
        rw [sgn_p (show 0 < r - 0 by omega), sgn_p (by omega)]
      · right
        rw [if_pos t0]
        refine ⟨by omega, by omega, ?_, hR⟩
        rw [← sgn_neg, eD]
        congr 1
        grind
  · left
    rw [if_neg e]
    have bd : 0 < b * d := Int.mul_pos hb hd
    have rd0 : 0 ≤ r * d := Int.mul_nonneg ra (by omega)
    have tb0 : 0 ≤ t * b := Int.mul_nonneg rc (by omega)
    have rd1 : r * d < b * d := Int.mul_lt_mul_of_pos_right rb hd
    have tb1 : t * b < d * b := Int.mul_lt_mul_of_pos_right rd hb
    have c1 : b * p * d = b * d * p := by grind
    have c2 : d * q * b = b * d * q := by grind
    have c3 : d * b = b * d := Int.mul_comm _ _
    by_cases g : p ≤ q
    · rw [if_pos g]
      have : b * d * (p + 1) ≤ b * d * q := Int.mul_le_mul_of_nonneg_left (by omega) (by omega)
      rw [Int.mul_add, Int.mul_one] at this
      rw [sgn_n (by omega), show -s = s * -1 by grind]
    · rw [if_neg g]
      have : b * d * (q + 1) ≤ b * d * p := Int.mul_le_mul_of_nonneg_left (by omega) (by omega)
      rw [Int.mul_add, Int.mul_one] at this
      rw [sgn_p (by omega)]
      simp
theorem emod_half {a b : Int} (hb : 0 < b) (hr : 0 < a % b) : 2 * (b % (a % b)) < b := by
  have h1 := Int.emod_lt_of_pos a hb
  have h2 := Int.emod_lt_of_pos b hr
  have h3 := Int.emod_nonneg b (show a % b ≠ 0 by omega)
  by_cases c : 2 * (a % b) ≤ b
  · omega
  · have : b % (a % b) = b - a % b := by
      rw [← Int.sub_emod_right]
      exact Int.emod_eq_of_lt (by omega) (by omega)
    omega
theorem cf_loop (w : eW) : ∀ (k : Nat) (a b c d : Int) (s : Int32) (f i : Nat), b < 2 ^ k → 2 * k < f → i + 2 * k < 1000 → 0 ≤ a → a < 9223372036854775808 → 0 < b → b < 9223372036854775808 → 0 ≤ c → c < 9223372036854775808 → 0 < d → d < 9223372036854775808 → s = 1 ∨ s = -1 → f_nu_compareFractions_L20 f (Int64.ofInt a) (Int64.ofInt b) (Int64.ofInt c) (Int64.ofInt d) s (Int32.ofInt (i : Nat)) w = some (s * sgn (a * d - c * b), w) := by
  intro k
  induction k with
  | zero => intro a b c d s f i h1 h2 h3 h4 h5 h6; simp at h1; omega
  | succ k ih =>
    intro a b c d s f i h1 h2 h3 ha ha2 hb hb2 hc hc2 hd hd2 hs
    obtain ⟨f, rfl⟩ := Nat.exists_eq_succ_of_ne_zero (show f ≠ 0 by omega)
    rcases cf_step (f := f) (i := i) (s := s) ha ha2 hb hb2 hc hc2 hd hd2 (by omega) w with e | ⟨p1, p2, p3, e⟩
    · exact e
    · rw [e]
      obtain ⟨f, rfl⟩ := Nat.exists_eq_succ_of_ne_zero (show f ≠ 0 by omega)
      have l1 := Int.emod_lt_of_pos a hb
      have l2 := Int.emod_lt_of_pos c hd
      have ns : -s = 1 ∨ -s = -1 := by rcases hs with rfl | rfl <;> simp
      rcases cf_step (f := f) (i := i + 1) (s := -s) (a := b) (b := a % b) (c := d) (d := c % d) (by omega) hb2 p1 (by omega) (by omega) hd2 p2 (by omega) (by omega) w with e | ⟨q1, q2, q3, e⟩
      · rw [e, p3, neg_neg_mul _ _ hs]
      · rw [e]
        have l3 := emod_half hb p1
        have l4 := Int.emod_lt_of_pos b p1
        have l5 := Int.emod_lt_of_pos d p2
        have hp : (2 : Int) ^ (k + 1) = 2 ^ k * 2 := Int.pow_succ 2 k
        rw [ih _ _ _ _ _ f (i + 1 + 1) (by omega) (by omega) (by omega) (by omega) (by omega) q1 (by omega) (by omega) (by omega) q2 (by omega) (by simpa using hs), q3, p3]
        simp
theorem nu_cmp {a b c d : Int} (ha : 0 ≤ a) (ha2 : a < 9223372036854775808) (hb : 0 < b) (hb2 : b < 9223372036854775808) (hc : 0 ≤ c) (hc2 : c < 9223372036854775808) (hd : 0 < d) (hd2 : d < 9223372036854775808) (w : eW) : f_nu_compareFractions (Int64.ofInt a) (Int64.ofInt b) (Int64.ofInt c) (Int64.ofInt d) w = some (sgn (a * d - c * b), w) := by
  unfold f_nu_compareFractions
  have := cf_loop w 63 a b c d 1 eFu 0 (by simpa using hb2) (by rw [eFu_eq]; omega) (by omega) ha ha2 hb hb2 hc hc2 hd hd2 (.inl rfl)
  rw [show (0 : Int32) = Int32.ofInt ((0 : Nat) : Int) from rfl, this]
  simp
/-- the sign says which is greater -/
theorem sgn_rat {a b c d : Int} {x y : Rat} (hb : 0 < b) (hd : 0 < d) (hx : (a : Rat) = x * (b : Rat)) (hy : (c : Rat) = y * (d : Rat)) : (a * d - c * b < 0 ↔ x < y) ∧ (a * d - c * b = 0 ↔ x = y) := by
  have b0 : (0 : Rat) < (b : Rat) := by exact_mod_cast hb
  have d0 : (0 : Rat) < (d : Rat) := by exact_mod_cast hd
  have e1 : ((a * d : Int) : Rat) = x * ((b : Rat) * (d : Rat)) := by rw [Rat.intCast_mul, hx]; grind
  have e2 : ((c * b : Int) : Rat) = y * ((b : Rat) * (d : Rat)) := by rw [Rat.intCast_mul, hy]; grind
  have bd := Rat.mul_pos b0 d0
  have l : a * d < c * b ↔ x < y := by rw [← Rat.intCast_lt_intCast, e1, e2]; exact Rat.mul_lt_mul_right bd
  have g : c * b < a * d ↔ y < x := by rw [← Rat.intCast_lt_intCast, e1, e2]; exact Rat.mul_lt_mul_right bd
  refine ⟨by rw [← l]; omega, ?_⟩
  constructor
  · intro z
    have n1 : ¬ x < y := by rw [← l]; omega
    have n2 : ¬ y < x := by rw [← g]; omega
    grind
  · intro z
    have n1 : ¬ x < y := by grind
    have n2 : ¬ y < x := by grind
    rw [← l] at n1
    rw [← g] at n2
    omega
end
section
variable {n : Nat} {F : Nat → Nat → Int} {wv : Int32} {told : Bool} {set : Int32} {cv : Int} {c m : eW}
theorem fallsI_mono (h0 : 0 ≤ cv) (h5 : cv ≤ 50) {a b : Int} (h : a ≤ b) : fallsI cv a ≤ fallsI cv b := by
  have e : (b - a) * cv ≤ (b - a) * 100 := Int.mul_le_mul_of_nonneg_left (by omega) (by omega)
  have e2 : (b - a) * cv = b * cv - a * cv := Int.sub_mul _ _ _
  unfold fallsI
  omega
/-- what a holder has by an amount -/
noncomputable def XA (n : Nat) (F : Nat → Nat → Int) (wv : Int32) (cv : Int) (h : Nat) (z : Int) : Rat := XX n F wv false 0 (100 * fallsI cv z) h
theorem XA_mono (hF : FOK n F cv) (hC : CF c n F cv wv) {h : Nat} (hh : h < n) {a b : Int} (h0 : 0 ≤ a) (h1 : a ≤ b) (h2 : b ≤ 9999999) : XA n F wv cv h a ≤ XA n F wv cv h b := by
  obtain ⟨u, hu⟩ := CP_ex (told := false) (set := 0) hF hC h0 (show a ≤ 9999999 by omega)
  obtain ⟨v, hv⟩ := CP_ex (told := false) (set := 0) hF hC (show 0 ≤ b by omega) h2
  exact IsF_mono hF (by have := fallsI_mono hF.2.1 hF.2.2.1 h1; omega) hu.2.2.1 hv.2.2.1 hh
theorem fa_reaches (hF : FOK n F cv) {falls : Int} (hb : 0 ≤ falls ∧ falls ≤ 999999900) {w : eW} (h : CP n F cv wv told set falls w) {k : Nat} (hk : k < n) {c d : Int} {y : Rat} (hc : 0 ≤ c) (hc2 : c < 9223372036854775808) (hd : 0 < d) (hd2 : d < 9223372036854775808) (hy : (c : Rat) = y * (d : Rat)) (more : Bool) : f_fa_reaches (Int32.ofInt (k : Nat)) (Int64.ofInt c) (Int64.ofInt d) (b2i more) w = some (b2i (decide (y < XX n F wv told set falls k ∨ (XX n F wv told set falls k = y ∧ more = false))), w) := by
  obtain ⟨b, a, e1, e2, e3, e4, e5⟩ := h.ab hF hb
  obtain ⟨y1, y2, y3, y4, y5, y6⟩ := e5 k hk
  unfold f_fa_reaches
  rw [y2, obind]
  dsimp only
  rw [e1, nu_cmp y4 (by omega) (by omega) (by omega) hc hc2 hd hd2, obind]
  dsimp only
  have s := sgn_rat (by omega) hd y3 hy
  generalize XX n F wv told set falls k = x at *
  generalize a k * d - c * b = z at *
  by_cases g1 : z < 0
  · rw [sgn_n g1, if_neg (by decide), if_pos (by decide), decide_eq_false]
    · rfl
    · have := s.1.mp g1; grind
  · by_cases g2 : z = 0
    · have e := s.2.mp g2
      rw [show sgn z = 0 by rw [g2]; rfl, if_neg (by decide), if_neg (by decide)]
      simp only [b2i_0]
      cases more
      · rw [if_neg (by simp), decide_eq_true (.inr ⟨e, rfl⟩)]; rfl
      · rw [if_pos (by simp), decide_eq_false]
        · rfl
        · rw [e]; intro t; rcases t with t | t
          · exact Rat.lt_irrefl t
          · cases t.2
    · rw [sgn_p (by omega), if_pos (by decide), decide_eq_true]
      · rfl
      · left
        have a1 : ¬ x < y := fun t => g1 (s.1.mpr t)
        have a2 : ¬ x = y := fun t => g2 (s.2.mpr t)
        grind
/-- the least amount -/
def Lst (P : Int → Prop) (r : Int) : Prop := 0 ≤ r ∧ r ≤ 10000000 ∧ (∀ z, 0 ≤ z → z < r → ¬ P z) ∧ (r < 10000000 → P r)
theorem Lst_uniq {P : Int → Prop} {r s : Int} (h : Lst P r) (k : Lst P s) : r = s := by
  rcases Int.lt_trichotomy r s with g | g | g
  · exact absurd (h.2.2.2 (by have := k.2.1; omega)) (k.2.2.1 r h.1 g)
  · exact g
  · exact absurd (k.2.2.2 (by have := h.2.1; omega)) (h.2.2.1 s k.1 g)
def PA (n : Nat) (F : Nat → Nat → Int) (wv : Int32) (cv : Int) (h : Nat) (y : Rat) (more : Bool) (z : Int) : Prop := y < XA n F wv cv h z ∨ (XA n F wv cv h z = y ∧ more = false)
theorem PA_mono (hF : FOK n F cv) (hC : CF c n F cv wv) {h : Nat} (hh : h < n) {y : Rat} {more : Bool} {a b : Int} (h0 : 0 ≤ a) (h1 : a ≤ b) (h2 : b ≤ 9999999) (p : PA n F wv cv h y more a) : PA n F wv cv h y more b := by
  have := XA_mono hF hC hh h0 h1 h2
  unfold PA at *
  rcases p with p | p
  · left; grind
  · by_cases e : XA n F wv cv h b = y
    · exact .inr ⟨e, p.2⟩
    · left; grind
theorem ihalf {a b : Int} (h1 : 0 ≤ a) (h2 : 0 ≤ b) (h3 : a ≤ 10000000) (h4 : b ≤ 10000000) : (Int32.ofInt a + Int32.ofInt b) / (2 : Int32) = Int32.ofInt ((a + b) / 2) := by
  rw [← Int32.ofInt_add, show (2 : Int32) = Int32.ofInt 2 from rfl, idiv (by omega) (by omega) (by omega) (by omega)]
theorem isucc' {a : Int} : Int32.ofInt a + (1 : Int32) = Int32.ofInt (a + 1) := by rw [show (1 : Int32) = Int32.ofInt 1 from rfl, ← Int32.ofInt_add]
theorem first_loop (hF : FOK n F cv) {h : Nat} (hh : h < n) {c d : Int} {y : Rat} (hc : 0 ≤ c) (hc2 : c < 9223372036854775808) (hd : 0 < d) (hd2 : d < 9223372036854775808) (hy : (c : Rat) = y * (d : Rat)) (more : Bool) :
    ∀ (k i f : Nat) (lo hi : Int) (w : eW), hi - lo < 2 ^ k → i + k ≤ 31 → k < f → 0 ≤ lo → lo ≤ hi → hi ≤ 10000000 → (∀ z, 0 ≤ z → z < lo → ¬ PA n F wv cv h y more z) → (hi < 10000000 → PA n F wv cv h y more hi) → CF w n F cv wv → Arr n F wv false 0 w → Ok (f_xx_firstAmount_L24 f (Int32.ofInt (h : Nat)) (Int64.ofInt c) (Int64.ofInt d) (b2i more) (Int32.ofInt lo) (Int32.ofInt hi) (Int32.ofInt (i : Nat)) w) fun p => Fr QS w p.2 ∧ ∃ r, p.1 = Int32.ofInt r ∧ Lst (PA n F wv cv h y more) r := by
  intro k
  induction k with
  | zero =>
    intro i f lo hi w h1 h2 h3 h4 h5 h6 h7 h8 hC ha
    obtain ⟨f, rfl⟩ := Nat.exists_eq_succ_of_ne_zero (show f ≠ 0 by omega)
    have : hi = lo := by simp at h1; omega
    subst this
    unfold f_xx_firstAmount_L24
    rw [if_neg (by rw [show (32 : Int32) = Int32.ofInt 32 from rfl, ile (by omega) (by omega) (by omega) (by omega)]; omega), if_pos (by rw [ile (by omega) (by omega) (by omega) (by omega)]; omega)]
    exact Ok.ret ⟨Fr.rfl, hi, rfl, h4, h6, h7, h8⟩
  | succ k ih =>
    intro i f lo hi w h1 h2 h3 h4 h5 h6 h7 h8 hC ha
    obtain ⟨f, rfl⟩ := Nat.exists_eq_succ_of_ne_zero (show f ≠ 0 by omega)
    unfold f_xx_firstAmount_L24
    rw [if_neg (by rw [show (32 : Int32) = Int32.ofInt 32 from rfl, ile (by omega) (by omega) (by omega) (by omega)]; omega), ite_congr (propext (ile (by omega) (by omega) (by omega) (by omega))) (fun _ => rfl) (fun _ => rfl)]
    by_cases e : hi ≤ lo
    · rw [if_pos e]
      have : hi = lo := by omega
      subst this
      exact Ok.ret ⟨Fr.rfl, hi, rfl, h4, h6, h7, h8⟩
    · rw [if_neg e, ihalf (by omega) (by omega) (by omega) (by omega), isucc, isucc']
      have hp : (2 : Int) ^ (k + 1) = 2 ^ k * 2 := Int.pow_succ 2 k
      have z1 : 0 ≤ (lo + hi) / 2 := by omega
      have z2 : (lo + hi) / 2 ≤ 9999999 := by omega
      obtain ⟨e2, e3⟩ := x_falls hF hC z1 z2
      rw [e2, obind]
      dsimp only
      rw [e3]
      refine Ok.bind (CP_pour hF (falls_b hF z1 z2) hC ha) ?_
      rintro w' ⟨q1, q2⟩
      rw [fa_reaches hF (falls_b hF z1 z2) q2 hh hc hc2 hd hd2 hy, obind]
      dsimp only
      simp only [b2i_0]
      rw [show XX n F wv false 0 (100 * fallsI cv ((lo + hi) / 2)) h = XA n F wv cv h ((lo + hi) / 2) from rfl]
      by_cases g : PA n F wv cv h y more ((lo + hi) / 2)
      · rw [if_neg (by rw [decide_eq_true (show _ ∨ _ from g)]; simp)]
        refine Ok.imp (ih (i + 1) f lo ((lo + hi) / 2) w' (by omega) (by omega) (by omega) h4 (by omega) (by omega) h7 (fun _ => g) q2.1 q2.2.1) ?_
        rintro p ⟨r1, r2⟩
        exact ⟨q1.q.tr r1, r2⟩
      · rw [if_pos (decide_eq_false (show ¬ (_ ∨ _) from g))]
        refine Ok.imp (ih (i + 1) f ((lo + hi) / 2 + 1) hi w' (by omega) (by omega) (by omega) (by omega) (by omega) (by omega) ?_ h8 q2.1 q2.2.1) ?_
        · intro z hz hz2 hp
          exact g (PA_mono hF hC hh hz (by omega) z2 hp)
        · rintro p ⟨r1, r2⟩
          exact ⟨q1.q.tr r1, r2⟩
theorem x_first (hF : FOK n F cv) {w : eW} (hC : CF w n F cv wv) {h : Nat} (hh : h < n) {c d : Int} {y : Rat} (hc : 0 ≤ c) (hc2 : c < 9223372036854775808) (hd : 0 < d) (hd2 : d < 9223372036854775808) (hy : (c : Rat) = y * (d : Rat)) (more : Bool) : Ok (f_xx_firstAmount (Int32.ofInt (h : Nat)) (Int64.ofInt c) (Int64.ofInt d) (b2i more) w) fun p => Fr QS w p.2 ∧ ∃ r, p.1 = Int32.ofInt r ∧ Lst (PA n F wv cv h y more) r := by
  unfold f_xx_firstAmount
  refine Ok.bind (fa_arrange (told := false) (set := 0) hF hC) ?_
  rintro w1 ⟨q1, -, q2⟩
  refine Ok.imp (first_loop hF hh hc hc2 hd hd2 hy more 24 0 eFu 0 10000000 w1 (by decide) (by omega) (by rw [eFu_eq]; omega) (by omega) (by omega) (by omega) (by omega) (by omega) (hC.fr q1 (by decide) (by decide)) q2) ?_
  rintro p ⟨r1, r2⟩
  exact ⟨(q1.sub (by decide)).tr r1, r2⟩
/-! the reference -/
theorem m_hasUnits (hF : FOK n F cv) (hM : MF m n F cv wv) {h : Nat} (hh : h < n) {a : Int} (h1 : 0 ≤ a) (h2 : a ≤ 9999999) {u : Int} (u1 : 1 ≤ u) (u2 : u ≤ 9999999) : Ok (f_mm_hasUnits (Int32.ofInt (h : Nat)) (Int32.ofInt a) (Int32.ofInt u) m) fun p => p.1 = b2i (decide (((100 * u : Int) : Rat) ≤ XA n F wv cv h a)) ∧ Km m p.2 := by
  have hn := hF.1
  unfold f_mm_hasUnits
  refine Ok.bind (m_layBy hF hM h1 h2) ?_
  rintro m1 ⟨k1, -, -, -, mp⟩
  obtain ⟨b, x, e1, e2, e3, e5⟩ := mp.ab (by omega)
  obtain ⟨y1, y2, y3, y4⟩ := e5 h hh
  rw [eChk_of (by omega) (by omega) (by omega), icl (by omega) (by omega), nat_i, e1, y1, if_neg (by rw [jlit0, jeq (by omega) (by omega) (by omega) (by omega)]; omega), i2j (by omega) (by omega), jlit100, ← Int64.ofInt_mul, jdiv y3 (by omega) (by omega) (by omega)]
  simp only [lg_cmp_lt]
  have q1 := Int.ediv_nonneg y3 (show 0 ≤ b by omega)
  have q2 := Int.ediv_le_self b y3
  rw [ite_congr (propext (jlt (by omega) (by omega) (by omega) (by omega))) (fun _ => rfl) (fun _ => rfl)]
  have b0 : (0 : Rat) < (b : Rat) := by exact_mod_cast (show 0 < b by omega)
  have t : 100 * u ≤ x h / b ↔ ((100 * u : Int) : Rat) ≤ XA n F wv cv h a := by
    rw [Int.le_ediv_iff_mul_le (by omega), ← Rat.intCast_le_intCast, y2, Rat.intCast_mul]
    exact qmr b0
  by_cases g : 100 * u ≤ x h / b
  · rw [if_neg (by omega), decide_eq_true (t.mp g)]
    exact Ok.ret ⟨rfl, k1⟩
  · rw [if_pos (by omega), decide_eq_false (fun z => g (t.mpr z))]
    exact Ok.ret ⟨rfl, k1⟩
theorem PA_le {h : Nat} {y : Rat} {z : Int} : PA n F wv cv h y false z ↔ y ≤ XA n F wv cv h z := by
  unfold PA
  constructor
  · intro p; rcases p with p | p <;> grind
  · intro p
    by_cases e : XA n F wv cv h z = y
    · exact .inr ⟨e, rfl⟩
    · left; grind
theorem PA_lt {h : Nat} {y : Rat} {z : Int} : PA n F wv cv h y true z ↔ y < XA n F wv cv h z := by
  unfold PA
  constructor
  · intro p; rcases p with p | p
    · exact p
    · cases p.2
  · exact fun p => .inl p
theorem mleast_loop (hF : FOK n F cv) (hC : CF c n F cv wv) {h : Nat} (hh : h < n) {u : Int} (u1 : 1 ≤ u) (u2 : u ≤ 9999999) :
    ∀ (k f : Nat) (lo hi : Int) (w : eW), hi - lo < 2 ^ k → k < f → 0 ≤ lo → lo ≤ hi → hi ≤ 9999999 → (∀ z, 0 ≤ z → z < lo → ¬ PA n F wv cv h ((100 * u : Int) : Rat) false z) → PA n F wv cv h ((100 * u : Int) : Rat) false hi → MF w n F cv wv → Ok (f_mm_least_L45 f (Int32.ofInt (h : Nat)) (Int32.ofInt u) (Int32.ofInt lo) (Int32.ofInt hi) w) fun p => Km w p.2 ∧ ∃ r, r ≤ 9999999 ∧ p.1 = Int32.ofInt r ∧ Lst (PA n F wv cv h ((100 * u : Int) : Rat) false) r := by
  intro k
  induction k with
  | zero =>
    intro f lo hi w h1 h3 h4 h5 h6 h7 h8 hM
    obtain ⟨f, rfl⟩ := Nat.exists_eq_succ_of_ne_zero (show f ≠ 0 by omega)
    have : hi = lo := by simp at h1; omega
    subst this
    unfold f_mm_least_L45
    rw [if_pos (by rw [ile (by omega) (by omega) (by omega) (by omega)]; omega)]
    exact Ok.ret ⟨Km.rfl, hi, h6, rfl, h4, by omega, h7, fun _ => h8⟩
  | succ k ih =>
    intro f lo hi w h1 h3 h4 h5 h6 h7 h8 hM
    obtain ⟨f, rfl⟩ := Nat.exists_eq_succ_of_ne_zero (show f ≠ 0 by omega)
    unfold f_mm_least_L45
    rw [ite_congr (propext (ile (by omega) (by omega) (by omega) (by omega))) (fun _ => rfl) (fun _ => rfl)]
    by_cases e : hi ≤ lo
    · rw [if_pos e]
      have : hi = lo := by omega
      subst this
      exact Ok.ret ⟨Km.rfl, hi, h6, rfl, h4, by omega, h7, fun _ => h8⟩
    · rw [if_neg e, ihalf (by omega) (by omega) (by omega) (by omega), isucc']
      have hp : (2 : Int) ^ (k + 1) = 2 ^ k * 2 := Int.pow_succ 2 k
      refine Ok.bind (m_hasUnits hF hM hh (show 0 ≤ (lo + hi) / 2 by omega) (by omega) u1 u2) ?_
      rintro ⟨r, w'⟩ ⟨q1, q2⟩
      dsimp only at q1 q2 ⊢
      rw [q1]
      simp only [b2i_0]
      by_cases g : ((100 * u : Int) : Rat) ≤ XA n F wv cv h ((lo + hi) / 2)
      · rw [if_neg (by simpa using g)]
        refine Ok.imp (ih f lo ((lo + hi) / 2) w' (by omega) (by omega) h4 (by omega) (by omega) h7 (PA_le.mpr g) (hM.km q2)) ?_
        rintro p ⟨r1, r2⟩
        exact ⟨q2.tr r1, r2⟩
      · rw [if_pos (decide_eq_false g)]
        refine Ok.imp (ih f ((lo + hi) / 2 + 1) hi w' (by omega) (by omega) (by omega) (by omega) (by omega) ?_ h8 (hM.km q2)) ?_
        · intro z hz hz2 hp
          exact g (PA_le.mp (PA_mono hF hC hh hz (by omega) (by omega) hp))
        · rintro p ⟨r1, r2⟩
          exact ⟨q2.tr r1, r2⟩
theorem i_1 {a b : Int32} (h : b.toInt = 1) : (1 : Int) = b.toInt := h.symm
theorem q_least (hF : FOK n F cv) (hC : CF c n F cv wv) (hM : MF m n F cv wv) (a1 a2 : Int32) : Qr (f_xx_least a1 a2 c) (f_mm_least a1 a2 m) c m := by
  have hM0 := hM.km (m0k m)
  unfold f_xx_least f_mm_least
  rw [c_isHolder hF hC, obind, m_isHolder hF hM0, obind]
  dsimp only
  simp only [b2i_0]
  by_cases h : 0 ≤ a1.toInt ∧ a1.toInt < n
  · rw [if_neg (by simp [h]), if_neg (by simp [h]), x_isUnits, obind, m_in, obind]
    dsimp only
    simp only [b2i_0]
    rw [show (1 : Int32).toInt = 1 from rfl, show (9999999 : Int32).toInt = 9999999 from rfl]
    by_cases k : 1 ≤ a2.toInt ∧ a2.toInt ≤ 9999999
    · rw [if_pos (by simp [k]), if_pos (by simp [k])]
      obtain ⟨h1, hh, rfl⟩ := hold_of h
      obtain ⟨u, u1, u2, rfl⟩ := amt_of k
      rw [i2j (by omega) (by omega), jlit100, ← Int64.ofInt_mul, show (1 : Int64) = Int64.ofInt 1 from rfl]
      obtain ⟨⟨r0, c'⟩, e1, f1, r, rfl, lr⟩ := x_first hF hC hh (c := u * 100) (d := 1) (y := ((100 * u : Int) : Rat)) (by omega) (by omega) (by omega) (by omega) (by rw [Int.mul_comm u 100]; exact (Rat.mul_one _).symm) false
      rw [show (0 : Int32) = b2i false from rfl, e1, obind]
      dsimp only
      have rr := lr.2.1
      have r0 := lr.1
      refine Qr.of (if 9999999 < r then -1 else Int32.ofInt r) ?_ ?_
      · refine Ok.iff (e := 9999999 < r) (by rw [show (9999999 : Int32) = Int32.ofInt 9999999 from rfl, ilt (by omega) (by omega) (by omega) (by omega)]) (fun g => ?_) (fun g => ?_)
        · rw [if_pos g]; exact Ok.ret ⟨rfl, f1⟩
        · rw [if_neg g]; exact Ok.ret ⟨rfl, f1⟩
      · rw [show (9999999 : Int32) = Int32.ofInt 9999999 from rfl]
        refine Ok.bind (m_hasUnits hF hM0 hh (by omega) (by omega) u1 u2) ?_
        rintro ⟨s, m'⟩ ⟨q1, q2⟩
        dsimp only at q1 q2 ⊢
        rw [q1]
        rw [show b2i false = (0 : Int32) from rfl]
        simp only [b2i_0]
        by_cases g : ((100 * u : Int) : Rat) ≤ XA n F wv cv h1 9999999
        · rw [if_pos (by simpa using g)]
          refine Ok.imp (mleast_loop hF hC hh u1 u2 24 eFu 0 9999999 m' (by decide) (by rw [eFu_eq]; omega) (by omega) (by omega) (by omega) (by omega) (PA_le.mpr g) (hM0.km q2)) ?_
          rintro ⟨s, m''⟩ ⟨r1, s, s1, s2, s3⟩
          have := Lst_uniq lr s3
          subst this
          exact ⟨by rw [if_neg (by omega)]; exact s2, ((m0k m).tr q2).tr r1⟩
        · rw [if_neg (fun z => z (decide_eq_false g))]
          have : 9999999 < r := by
            apply Classical.byContradiction
            intro z
            exact g (PA_le.mp (PA_mono hF hC hh r0 (by omega) (by omega) (lr.2.2.2 (by omega))))
          rw [if_pos this]
          exact Ok.ret ⟨rfl, (m0k m).tr q2⟩
    · rw [if_neg (by simp [k]), if_neg (by simp [k])]
      exact Qr.of _ (Ok.ret ⟨rfl, Fr.rfl⟩) (Ok.ret ⟨rfl, m0k m⟩)
  · rw [if_pos (by simpa using h), if_pos (by simpa using h)]
    exact Qr.of _ (Ok.ret ⟨rfl, Fr.rfl⟩) (Ok.ret ⟨rfl, m0k m⟩)
end
