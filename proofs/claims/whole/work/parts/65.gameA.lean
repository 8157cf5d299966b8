/-! ===== choices: what each has by a set ===== -/
section
variable {n : Nat} {F : Nat → Nat → Int} {wv : Int32} {told : Bool} {set : Int32} {cv : Int} {c m : eW}
/-- two sets that say alike of those that can turn -/
def Lk (n : Nat) (F : Nat → Nat → Int) (s t : Int32) : Prop := ∀ i, i < n → tnd true s F i = tnd true t F i
theorem prefs_lk {s t : Int32} (h : Lk n F s t) {i : Nat} (hi : i < n) : prefs F wv true s i = prefs F wv true t i := by
  unfold prefs fst_
  rw [h i hi]
theorem rp_lk {s t : Int32} (h : Lk n F s t) (r : Nat) : rp n F wv true s r = rp n F wv true t r := by
  unfold rp
  refine isum_cg fun i hi => ?_
  rw [prefs_lk h hi]
theorem bf_lk {s t : Int32} (h : Lk n F s t) : ∀ r : Nat, bf n F wv true s r = bf n F wv true t r
  | 0 => rfl
  | r + 1 => by simp only [bf]; rw [bf_lk h r, rp_lk h]
theorem ap_lk {s t : Int32} (h : Lk n F s t) : ap n F wv true s = ap n F wv true t := by
  unfold ap
  exact isum_cg fun i hi => prefs_lk h hi
theorem rx_lk {s t : Int32} (h : Lk n F s t) (falls : Int) {i : Nat} (hi : i < n) : rx n F wv true s falls i = rx n F wv true t falls i := by
  unfold rx
  rw [bf_lk h, bf_lk h, rp_lk h, prefs_lk h hi]
theorem vl_lk {s t : Int32} (h : Lk n F s t) {i : Nat} (hi : i < n) (v : Rat) : vl F wv true s i v = vl F wv true t i v := by
  unfold vl ps
  rw [h i hi]
theorem tt_lk {s t : Int32} (h : Lk n F s t) (v : Rat) : tt n F wv true s v = tt n F wv true t v := sm_cg fun i hi => vl_lk h hi v
theorem IsF_lk {s t : Int32} (h : Lk n F s t) {falls : Int} {x : Nat → Rat} {lv : Rat} (k : IsF n F wv true s falls x lv) : IsF n F wv true t falls x lv := by
  rcases k with ⟨h1, h2, h3⟩ | ⟨h1, h2, h3, h4, h5⟩ | ⟨h1, h2, h3, v0, h4, h5⟩
  · exact .inl ⟨by rw [← ap_lk h]; exact h1, fun i hi => by rw [← rx_lk h falls hi]; exact h2 i hi, h3⟩
  · exact .inr (.inl ⟨by rw [← ap_lk h]; exact h1, h2, by rw [← tt_lk h]; exact h3, fun u u0 u1 => by rw [← tt_lk h]; exact h4 u u0 u1, fun i hi => by rw [← vl_lk h hi]; exact h5 i hi⟩)
  · exact .inr (.inr ⟨by rw [← ap_lk h]; exact h1, h2, fun v v1 => by rw [← tt_lk h]; exact h3 v v1, v0, h4, fun i hi v v1 => by rw [← vl_lk h hi]; exact h5 i hi v v1⟩)
/-- what a holder has by a set and an amount -/
noncomputable def XC (n : Nat) (F : Nat → Nat → Int) (wv : Int32) (cv : Int) (z : Int) (s : Int32) (h : Nat) : Rat := XX n F wv true s (100 * fallsI cv z) h
theorem XC_lk (hF : FOK n F cv) (hC : CF c n F cv wv) {z : Int} (z1 : 0 ≤ z) (z2 : z ≤ 9999999) {s t : Int32} (h : Lk n F s t) {i : Nat} (hi : i < n) : XC n F wv cv z s i = XC n F wv cv z t i := by
  obtain ⟨u, hu⟩ := CP_ex (told := true) (set := s) hF hC z1 z2
  exact (XP_eq (IsF_lk h hu.2.2.1)).1 i hi
/-- none gains by choosing otherwise alone -/
noncomputable def St (n : Nat) (F : Nat → Nat → Int) (wv : Int32) (cv : Int) (z : Int) (s : Int32) : Prop := ∀ h, h < n → canT F h = true → XC n F wv cv z (s ^^^ ((1 : Int32) <<< (Int32.ofInt (h : Nat) &&& 31))) h ≤ XC n F wv cv z s h
theorem CP.nd (hF : FOK n F cv) {falls : Int} (hb : 0 ≤ falls ∧ falls ≤ 999999900) {w : eW} (h : CP n F cv wv told set falls w) {k : Nat} (hk : k < n) : 0 ≤ (XX n F wv told set falls k).num ∧ (XX n F wv told set falls k).num ≤ 5939405406060000000 ∧ 1 ≤ (((XX n F wv told set falls k).den : Nat) : Int) ∧ (((XX n F wv told set falls k).den : Nat) : Int) ≤ 5939406000 ∧ (ap n F wv told set < falls → (((XX n F wv told set falls k).den : Nat) : Int) ≤ 150000000) ∧ (falls ≤ ap n F wv told set → prefs F wv told set k = 0 → ((XX n F wv told set falls k).den : Nat) = 1) := by
  obtain ⟨b, x, e1, e2, e3, e4, e5⟩ := h.ab hF hb
  obtain ⟨y1, y2, y3, y4, y5, y6⟩ := e5 k hk
  have q := q_low y4 (show 0 < b by omega) y3
  have g1 := q.2.2.1
  have dl : (((XX n F wv told set falls k).den : Nat) : Int) ≤ b := by rw [← q.2.1]; exact Int.ediv_le_self _ (by omega)
  refine ⟨?_, ?_, ?_, by omega, ?_, ?_⟩
  · rw [← q.1]; exact Int.ediv_nonneg y4 (by omega)
  · rw [← q.1]; exact Int.le_trans (Int.ediv_le_self _ y4) y5
  · have := (XX n F wv told set falls k).den_pos; omega
  · intro z
    rw [if_pos z] at e3
    omega
  · intro z p0
    have : XX n F wv told set falls k = 0 := by
      rcases h.2.2.1 with ⟨h1, h2, h3⟩ | ⟨h1, _⟩ | ⟨h1, _⟩
      · rw [h2 k hk]
        have := rx_b (wv := wv) (told := told) (set := set) (falls := falls) hF hk
        rw [p0] at this
        have e0 : ((0 : Int) : Rat) = 0 := rfl
        grind
      · omega
      · omega
    rw [this]
    rfl
theorem m_against {a b c d : Int} (ha : 0 ≤ a) (ha2 : a < 9223372036854775808) (hb : 0 < b) (hb2 : b < 9223372036854775808) (hc : 0 ≤ c) (hc2 : c < 9223372036854775808) (hd : 0 < d) (hd2 : d < 9223372036854775808) (hbd : b * d < 9223372036854775808) (w : eW) : f_mm_against (Int64.ofInt a) (Int64.ofInt b) (Int64.ofInt c) (Int64.ofInt d) w = some (sgn (a * d - c * b), w) := by
  have ra := Int.emod_nonneg a (show b ≠ 0 by omega)
  have rb := Int.emod_lt_of_pos a hb
  have rc := Int.emod_nonneg c (show d ≠ 0 by omega)
  have rd := Int.emod_lt_of_pos c hd
  have ea := Int.emod_def a b
  have ec := Int.emod_def c d
  have qa := Int.ediv_nonneg ha (show 0 ≤ b by omega)
  have qc := Int.ediv_nonneg hc (show 0 ≤ d by omega)
  have qa2 := Int.ediv_le_self b ha
  have qc2 := Int.ediv_le_self d hc
  have nb0 : ¬ (Int64.ofInt b = 0) := by rw [jlit0, jeq (by omega) (by omega) (by omega) (by omega)]; omega
  have nd0 : ¬ (Int64.ofInt d = 0) := by rw [jlit0, jeq (by omega) (by omega) (by omega) (by omega)]; omega
  have rd0 : 0 ≤ a % b * d := Int.mul_nonneg ra (by omega)
  have tb0 : 0 ≤ c % d * b := Int.mul_nonneg rc (by omega)
  have rd1 : a % b * d < b * d := Int.mul_lt_mul_of_pos_right rb hd
  have tb1 : c % d * b < d * b := Int.mul_lt_mul_of_pos_right rd hb
  have cm : d * b = b * d := Int.mul_comm _ _
  have c3 : (Int64.ofInt (a / b) = Int64.ofInt (c / d)) = (a / b = c / d) := propext (jeq (by omega) (by omega) (by omega) (by omega))
  have c4 : (Int64.ofInt (c / d) ≤ Int64.ofInt (a / b)) = (c / d ≤ a / b) := propext (jle (by omega) (by omega) (by omega) (by omega))
  have c5 : (Int64.ofInt (c % d * b) ≤ Int64.ofInt (a % b * d)) = (c % d * b ≤ a % b * d) := propext (jle (by omega) (by omega) (by omega) (by omega))
  have c6 : (Int64.ofInt (a % b * d) ≤ Int64.ofInt (c % d * b)) = (a % b * d ≤ c % d * b) := propext (jle (by omega) (by omega) (by omega) (by omega))
  unfold f_mm_against
  simp only [lg_cmp_le, lg_cmp_eq, lg_cmp_ge, jmod ha ha2 hb hb2, jmod hc hc2 hd hd2]
  simp only [jdiv ha ha2 hb hb2, jdiv hc hc2 hd hd2, nb0, nd0, if_false, ← Int64.ofInt_mul, c3, c4, c5, c6]
  clear c3 c4 c5 c6
  generalize a / b = p at *
  generalize c / d = q at *
  generalize a % b = r at *
  generalize c % d = t at *
  have eA : a * d = b * p * d + r * d := by rw [ea]; grind
  have eC : c * b = d * q * b + t * b := by rw [ec]; grind
  have c1 : b * p * d = b * d * p := by grind
  have c2 : d * q * b = b * d * q := by grind
  by_cases e : p = q
  · subst e
    rw [if_pos rfl]
    by_cases g : t * b ≤ r * d
    · rw [if_pos g]
      by_cases g2 : r * d ≤ t * b
      · rw [if_pos g2, show a * d - c * b = 0 by rw [eA, eC, c1, c2]; omega]; rfl
      · rw [if_neg g2, sgn_p (by rw [eA, eC, c1, c2]; omega)]
    · rw [if_neg g, sgn_n (by rw [eA, eC, c1, c2]; omega)]
  · rw [if_neg e]
    by_cases g : q ≤ p
    · rw [if_pos g]
      have : b * d * (q + 1) ≤ b * d * p := Int.mul_le_mul_of_nonneg_left (by omega) (by have := Int.mul_pos hb hd; omega)
      rw [Int.mul_add, Int.mul_one] at this
      rw [sgn_p (by rw [eA, eC, c1, c2]; omega)]
    · rw [if_neg g]
      have : b * d * (p + 1) ≤ b * d * q := Int.mul_le_mul_of_nonneg_left (by omega) (by have := Int.mul_pos hb hd; omega)
      rw [Int.mul_add, Int.mul_one] at this
      rw [sgn_n (by rw [eA, eC, c1, c2]; omega)]
theorem qnd (x : Rat) : (x.num : Rat) = x * (((x.den : Nat) : Int) : Rat) := by rw [← q_nd x]; rfl
/-- of the two, the one who turns has nothing by ranks -/
theorem den_prod (hF : FOK n F cv) (hC : CF c n F cv wv) {z : Int} (z1 : 0 ≤ z) (z2 : z ≤ 9999999) {s : Int32} {h : Nat} (hh : h < n) (ct : canT F h = true) : (((XC n F wv cv z (s ^^^ ((1 : Int32) <<< (Int32.ofInt (h : Nat) &&& 31))) h).den : Nat) : Int) * (((XC n F wv cv z s h).den : Nat) : Int) < 9223372036854775808 := by
  have hn := hF.1
  have fb := falls_b hF z1 z2
  obtain ⟨u, hu⟩ := CP_ex (told := true) (set := s) hF hC z1 z2
  obtain ⟨v, hv⟩ := CP_ex (told := true) (set := (s ^^^ ((1 : Int32) <<< (Int32.ofInt (h : Nat) &&& 31)))) hF hC z1 z2
  have a := hu.nd hF fb hh
  have b := hv.nd hF fb hh
  have fl : sb (s ^^^ ((1 : Int32) <<< (Int32.ofInt (h : Nat) &&& 31))) h = !(sb s h) := by rw [sb_xor _ _ (by omega), sb_pow (by omega) (by omega)]; simp
  have pz : ∀ t : Int32, sb t h = true → prefs F wv true t h = 0 := fun t ht => by
    unfold prefs fst_ tnd
    rw [ht, ct]
    simp
  change (((XX n F wv true (s ^^^ ((1 : Int32) <<< (Int32.ofInt (h : Nat) &&& 31))) (100 * fallsI cv z) h).den : Nat) : Int) * (((XX n F wv true s (100 * fallsI cv z) h).den : Nat) : Int) < 9223372036854775808
  generalize ((XX n F wv true s (100 * fallsI cv z) h).den : Nat) = x at *
  generalize ((XX n F wv true (s ^^^ ((1 : Int32) <<< (Int32.ofInt (h : Nat) &&& 31))) (100 * fallsI cv z) h).den : Nat) = y at *
  obtain ⟨-, -, a1, a2, a3, a4⟩ := a
  obtain ⟨-, -, b1, b2, b3, b4⟩ := b
  by_cases la : ap n F wv true s < 100 * fallsI cv z
  · have := mul_le4 (a := (y : Int)) (b := (x : Int)) (A := 5939406000) (B := 150000000) (by omega) b2 (by omega) (a3 la)
    omega
  · by_cases lb : ap n F wv true (s ^^^ ((1 : Int32) <<< (Int32.ofInt (h : Nat) &&& 31))) < 100 * fallsI cv z
    · have := mul_le4 (a := (y : Int)) (b := (x : Int)) (A := 150000000) (B := 5939406000) (by omega) (b3 lb) (by omega) a2
      omega
    · cases e : sb s h
      · have := b4 (by omega) (pz _ (by rw [fl, e]; rfl))
        rw [this]; omega
      · have := a4 (by omega) (pz _ e)
        rw [this]; omega
theorem msteady_loop (hF : FOK n F cv) (hC : CF c n F cv wv) {z : Int} (z1 : 0 ≤ z) (z2 : z ≤ 9999999) (s : Int32) : ∀ (d k f : Nat), k + d = n → d < f → ∀ w : eW, MF w n F cv wv → Ok (f_mm_isSteady_L2 f s (Int32.ofInt z) (Int32.ofInt (k : Nat)) w) fun p => Km w p.2 ∧ ((p.1 = 1 ∧ ∀ h, k ≤ h → h < n → canT F h = true → XC n F wv cv z (s ^^^ ((1 : Int32) <<< (Int32.ofInt (h : Nat) &&& 31))) h ≤ XC n F wv cv z s h) ∨ (p.1 = 0 ∧ ¬ St n F wv cv z s)) := by
  have hn := hF.1
  intro d
  induction d with
  | zero =>
    intro k f hk hf w hM
    obtain ⟨f, rfl⟩ := Nat.exists_eq_succ_of_ne_zero (show f ≠ 0 by omega)
    unfold f_mm_isSteady_L2
    rw [hM.1, if_pos (by rw [ile (by omega) (by omega) (by omega) (by omega)]; omega)]
    exact Ok.ret ⟨Km.rfl, .inl ⟨rfl, fun h h1 h2 => by omega⟩⟩
  | succ d ih =>
    intro k f hk hf w hM
    obtain ⟨f, rfl⟩ := Nat.exists_eq_succ_of_ne_zero (show f ≠ 0 by omega)
    have hkn : k < n := by omega
    unfold f_mm_isSteady_L2
    rw [hM.1, if_neg (by rw [ile (by omega) (by omega) (by omega) (by omega)]; omega), m_canTurn hF hM hkn, obind]
    dsimp only
    simp only [b2i_0]
    by_cases ct : canT F k = true
    · rw [if_pos (by simp [ct])]
      refine Ok.bind (m_layChoice hF hM z1 z2 s) ?_
      rintro w1 ⟨k1, p1⟩
      have a0 := m_lowest hF.1 p1 hkn false
      have a1 := m_lowest hF.1 p1 hkn true
      rw [show (0 : Int32) = b2i false from rfl, a0, obind]
      dsimp only
      rw [show (1 : Int32) = b2i true from rfl, a1, obind]
      dsimp only
      rw [show b2i true = (1 : Int32) from rfl]
      refine Ok.bind (m_layChoice hF p1.1 z1 z2 _) ?_
      rintro w2 ⟨k2, p2⟩
      have b0 := m_lowest hF.1 p2 hkn false
      have b1 := m_lowest hF.1 p2 hkn true
      rw [b0, obind]
      dsimp only
      rw [show (1 : Int32) = b2i true from rfl] at b1 ⊢
      rw [b1, obind]
      dsimp only
      have fb := falls_b hF z1 z2
      have A := p1.nd hkn
      have B := p2.nd hkn
      have DP := den_prod (s := s) hF hC z1 z2 hkn ct
      unfold XC at DP
      rw [show b2i true = (1 : Int32) from rfl] at *
      simp only [Bool.false_eq_true, if_false, if_true]
      have X1 := qnd (XX n F wv true s (100 * fallsI cv z) k)
      have X2 := qnd (XX n F wv true (s ^^^ ((1 : Int32) <<< (Int32.ofInt (k : Nat) &&& 31))) (100 * fallsI cv z) k)
      rw [m_against (by omega) (by omega) (by omega) (by omega) (by omega) (by omega) (by omega) (by omega) DP, obind]
      dsimp only
      have sg := sgn_rat (by omega) (by omega) X2 X1
      rw [show b2i false = (0 : Int32) from rfl, isucc]
      generalize hz : (XX n F wv true (s ^^^ ((1 : Int32) <<< (Int32.ofInt (k : Nat) &&& 31))) (100 * fallsI cv z) k).num * (((XX n F wv true s (100 * fallsI cv z) k).den : Nat) : Int) - (XX n F wv true s (100 * fallsI cv z) k).num * (((XX n F wv true (s ^^^ ((1 : Int32) <<< (Int32.ofInt (k : Nat) &&& 31))) (100 * fallsI cv z) k).den : Nat) : Int) = zz at *
      by_cases g : 0 < zz
      · rw [sgn_p g, if_neg (by decide)]
        refine Ok.ret ⟨k1.tr k2, .inr ⟨rfl, fun hs => ?_⟩⟩
        have := hs k hkn ct
        have n1 : ¬ XC n F wv cv z (s ^^^ ((1 : Int32) <<< (Int32.ofInt (k : Nat) &&& 31))) k < XC n F wv cv z s k := fun t => by have := sg.1.mpr t; omega
        have n2 : ¬ XC n F wv cv z (s ^^^ ((1 : Int32) <<< (Int32.ofInt (k : Nat) &&& 31))) k = XC n F wv cv z s k := fun t => by have := sg.2.mpr t; omega
        grind
      · rw [if_pos (by unfold sgn; split; decide; rw [if_pos (by omega)]; decide)]
        have le : XC n F wv cv z (s ^^^ ((1 : Int32) <<< (Int32.ofInt (k : Nat) &&& 31))) k ≤ XC n F wv cv z s k := by
          by_cases g0 : zz = 0
          · have := sg.2.mp g0
            unfold XC
            rw [this]
            exact Rat.le_refl
          · exact Rat.le_of_lt (sg.1.mp (by omega))
        refine Ok.imp (ih (k + 1) f (by omega) (by omega) w2 p2.1) ?_
        rintro p ⟨q1, q2⟩
        refine ⟨(k1.tr k2).tr q1, ?_⟩
        rcases q2 with ⟨q2, q3⟩ | q2
        · refine .inl ⟨q2, fun h h1 h2 h3 => ?_⟩
          by_cases e : h = k
          · rw [e]; exact le
          · exact q3 h (by omega) h2 h3
        · exact .inr q2
    · rw [if_neg (by simpa using ct), isucc]
      refine Ok.imp (ih (k + 1) f (by omega) (by omega) w hM) ?_
      rintro p ⟨q1, q2⟩
      refine ⟨q1, ?_⟩
      rcases q2 with ⟨q2, q3⟩ | q2
      · refine .inl ⟨q2, fun h h1 h2 h3 => ?_⟩
        by_cases e : h = k
        · rw [e] at h3; exact absurd h3 ct
        · exact q3 h (by omega) h2 h3
      · exact .inr q2
/-- a truth as a number -/
noncomputable def pI (P : Prop) : Int32 := @ite _ P (Classical.propDecidable P) 1 0
theorem pI_t {P : Prop} (h : P) : pI P = 1 := by unfold pI; rw [if_pos h]
theorem pI_f {P : Prop} (h : ¬ P) : pI P = 0 := by unfold pI; rw [if_neg h]
theorem pI_0 {P : Prop} : (pI P = 0) ↔ ¬ P := by
  by_cases h : P
  · rw [pI_t h]; simp [h]
  · rw [pI_f h]; simp [h]
theorem m_isSteady (hF : FOK n F cv) (hC : CF c n F cv wv) (hM : MF m n F cv wv) {z : Int} (z1 : 0 ≤ z) (z2 : z ≤ 9999999) (s : Int32) : Ok (f_mm_isSteady s (Int32.ofInt z) m) fun p => p.1 = pI (St n F wv cv z s) ∧ Km m p.2 := by
  unfold f_mm_isSteady
  refine Ok.imp (msteady_loop hF hC z1 z2 s n 0 eFu (by omega) (by rw [eFu_eq]; have := hF.1; omega) m hM) ?_
  rintro p ⟨q1, q2⟩
  rcases q2 with ⟨q2, q3⟩ | ⟨q2, q3⟩
  · exact ⟨by rw [q2, pI_t (show St n F wv cv z s from fun h h1 h2 => q3 h (by omega) h1 h2)], q1⟩
  · exact ⟨by rw [q2, pI_f q3], q1⟩
end
