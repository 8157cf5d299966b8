section
variable {n : Nat} {F : Nat → Nat → Int} {wv : Int32} {cv : Int} {c m : eW}
theorem em32 : (FP.Core.b32.emax : Int) = 127 := by decide +kernel
theorem Bd32 {x : Nat} {a b : Int} (h : Bd FP.Core.b32 x a b) (ha : -100 ≤ a) (hb : b ≤ 100) (hab : a ≤ 100) (hba : -100 ≤ b) : x = 0 ∨ (8388608 * 10 ≤ x ∧ x < 8388608 * 240) := by
  obtain ⟨lt, ⟨z, -⟩ | ⟨p, h1, h2⟩⟩ := h
  · exact .inl z
  · right
    obtain ⟨e1, e2⟩ := eP_V g32 (k := a) (by rw [em32]; omega) (by rw [em32]; omega)
    obtain ⟨e3, e4⟩ := eP_V g32 (k := b) (by rw [em32]; omega) (by rw [em32]; omega)
    have r1 : eP FP.Core.b32 a ≤ x := V_mono g32 lt e1 (by rw [e2]; exact h1)
    have r2 : x ≤ eP FP.Core.b32 b := V_mono g32 e3 lt (by rw [e4]; exact h2)
    have q1 := eP32 (k := a) (by omega)
    have q2 := eP32 (k := b) (by omega)
    omega
def cost (F : Nat → Nat → Int) (h : Nat) : Int := F h 2 * F h 1 * 100
theorem cost_b (hF : FOK n F cv) {h : Nat} (hh : h < n) (h2 : F h 0 = 2) : 1 ≤ cost F h ∧ cost F h ≤ 98990100 := by
  have f := hF.hd hh
  have g := f.2.2.2.2.2.1 h2
  have q := mul_le4 (a := F h 2) (b := F h 1) (A := 99) (B := 9999) (by omega) (by omega) (by omega) (by omega)
  have p : 0 < F h 2 * F h 1 := Int.mul_pos (by omega) (by omega)
  unfold cost
  omega
theorem c_costOf (hF : FOK n F cv) (hC : CF c n F cv wv) {h : Nat} (hh : h < n) : f_fi_costOf (Int32.ofInt (h : Nat)) c = some (Int32.ofInt (cost F h), c) := by
  unfold f_fi_costOf cost
  rw [show (2 : Int32) = Int32.ofInt (2 : Nat) from rfl, c_fact hF hC hh (by omega), obind]
  dsimp only
  rw [show (1 : Int32) = Int32.ofInt (1 : Nat) from rfl, c_fact hF hC hh (by omega), obind]
  dsimp only
  rw [show (100 : Int32) = Int32.ofInt 100 from rfl, ← Int32.ofInt_mul, ← Int32.ofInt_mul]
theorem m_cost (hM : MF m n F cv wv) {h : Nat} (hh : h < n) (h2 : F h 0 = 2) : (m.1 2 h * m.1 1 h) * (100 : Int32) = Int32.ofInt (cost F h) := by
  obtain ⟨a, b, d, e⟩ := hM.2.2.2 h hh
  rw [b, d (by omega), show (100 : Int32) = Int32.ofInt 100 from rfl, ← Int32.ofInt_mul, ← Int32.ofInt_mul]
  rfl
theorem nu_asF {a b : Int} (h1 : 0 ≤ a) (h2 : a < 9223372036854775808) (h3 : 0 < b) (h4 : b < 9223372036854775808) {x : Rat} (hx : (a : Rat) = x * (b : Rat)) (hb : Xb x) (w : eW) : f_nu_asFloat (Int64.ofInt a) (Int64.ofInt b) w = some (UInt32.ofNat (dq FP.Core.b32 x), w) := by
  obtain ⟨b1, b2, b3, b4⟩ := dqB g32 (by decide) hb
  unfold f_nu_asFloat
  rw [nu_lowest h1 h2 h3 h4 hx, obind]
  dsimp only
  simp only [lg_cmp_le]
  rw [if_neg (by decide : ¬ (1 : Int32) = 0), if_neg (by rw [jlit0, jle (by omega) (by omega) (by omega) (by omega)]; omega), nu_lowest h1 h2 h3 h4 hx, obind]
  dsimp only
  rw [if_pos (rfl : (0 : Int32) = 0), l2fS hb.1 (by omega), l2fS (by omega) (by omega), fdivS b1.1 b2.1 b3]
  unfold dq at b4 ⊢
  rw [if_pos (nanS (Nat.le_of_lt b4.1))]
theorem q_multiple (hF : FOK n F cv) (hC : CF c n F cv wv) (hM : MF m n F cv wv) (a1 a2 : Int32) : Qr (f_xx_multiple a1 a2 c) (f_mm_multiple a1 a2 m) c m := by
  have hn := hF.1
  have hM0 := hM.km (m0k m)
  unfold f_xx_multiple f_mm_multiple
  simp only [x_isAsked hF hC, c_isClassA hF hC, m_isClassA hF hM0, m_isAmount, obind, b2i_0]
  by_cases h : 0 ≤ a1.toInt ∧ a1.toInt < n
  · by_cases g : F a1.toInt.toNat 0 = 2
    · simp only [decide_eq_true (And.intro h g), Bool.true_eq_false, if_false]
      by_cases k : 0 ≤ a2.toInt ∧ a2.toInt ≤ 9999999
      · simp only [decide_eq_true (And.intro h k), decide_eq_true k, Bool.true_eq_false, not_false_eq_true, if_true, if_false]
        obtain ⟨i, hi, rfl⟩ := hold_of h
        obtain ⟨z, z1, z2, rfl⟩ := amt_of k
        rw [toI_ofI (a := (i : Int)) (by omega) (by omega), nat_i] at g
        obtain ⟨c1, e1, q1, -, -, q4⟩ := xx_pour hF hC z1 z2
        obtain ⟨m1, e2, p1, -, -, -, mp⟩ := m_layBy hF hM0 z1 z2
        have hb : Xb (XA n F wv cv i z) := mp.nd hi
        obtain ⟨b1, b2, b3, b4⟩ := dqB g32 (by decide) hb
        obtain ⟨b, x, x1, x2, x3, x4, x5⟩ := q4.ab hF (falls_b hF z1 z2)
        obtain ⟨y1, y2, y3, y4, y5, y6⟩ := x5 i hi
        have cb := cost_b hF hi g
        have cB := intB g32 (b := 27) (by omega) (by rw [em32]; omega) (show 0 ≤ cost F i by omega) (P2_int (k := 27) (by omega))
        have cp := rn_pos g32 cb.1
        have qb := divB g32 b4 cB cp (by rw [em32]; omega) (by rw [em32]; omega)
        have f0 := m_lowest hF.1 mp hi false
        have f1 := m_lowest hF.1 mp hi true
        rw [e1, obind, e2, obind, y2, obind]
        dsimp only
        rw [x1, nu_asF y4 (by omega) (by omega) (by omega) (x := XA n F wv cv i z) y3 hb, obind]
        dsimp only
        rw [c_costOf hF q4.1 hi, obind]
        dsimp only
        rw [if_neg (by rw [show (0 : Int32) = Int32.ofInt 0 from rfl, ile (by omega) (by omega) (by omega) (by omega)]; omega), i2fS (by omega) (by omega), fdivS b4.1 cB.1 cp, if_pos (nanS (Nat.le_of_lt qb.1))]
        rw [show (0 : Int32) = b2i false from rfl, f0, obind]
        dsimp only
        rw [show (1 : Int32) = b2i true from rfl, f1, obind]
        dsimp only
        rw [show XX n F wv false 0 (100 * fallsI cv z) i = XA n F wv cv i z from rfl]
        simp only [Bool.false_eq_true, if_false, if_true]
        have dqe : FP.fdiv (FP.l2f (Int64.ofInt (XA n F wv cv i z).num)) (FP.l2f (Int64.ofInt (((XA n F wv cv i z).den : Nat) : Int))) = UInt32.ofNat (dq FP.Core.b32 (XA n F wv cv i z)) := by
          rw [l2fS hb.1 (by omega), l2fS (by omega) (by omega), fdivS b1.1 b2.1 b3]; rfl
        rw [dqe, if_pos (nanS (Nat.le_of_lt b4.1)), eChk_of (by omega) (by omega) (by omega), eChk_of (by omega) (by omega) (by omega), icl (by omega) (by omega), nat_i, m_cost mp.1 hi g, i2fS (by omega) (by omega), fdivS b4.1 cB.1 cp, if_pos (nanS (Nat.le_of_lt qb.1))]
        obtain ⟨r, r1, r2⟩ := bits32 (Bd32 qb (by omega) (by omega) (by omega) (by omega)) c1
        rw [r1, r2 m1, obind, obind]
        exact Qr.of _ (Ok.ret ⟨rfl, q1⟩) (Ok.ret ⟨rfl, (m0k m).tr p1⟩)
      · simp only [decide_eq_false (fun z : (0 ≤ a1.toInt ∧ a1.toInt < n) ∧ (0 ≤ a2.toInt ∧ a2.toInt ≤ 9999999) => k z.2), decide_eq_false k, not_true_eq_false, if_true, if_false]
        exact Qr.of _ (Ok.ret ⟨rfl, Fr.rfl⟩) (Ok.ret ⟨rfl, m0k m⟩)
    · simp only [decide_eq_false (fun z : (0 ≤ a1.toInt ∧ a1.toInt < n) ∧ F a1.toInt.toNat 0 = 2 => g z.2), not_true_eq_false, if_true, if_false]
      refine Qr.of (-2) (Ok.br (fun _ => Ok.ret ⟨rfl, Fr.rfl⟩) (fun _ => Ok.ret ⟨rfl, Fr.rfl⟩)) (Ok.ret ⟨rfl, m0k m⟩)
  · simp only [decide_eq_false (fun z : (0 ≤ a1.toInt ∧ a1.toInt < n) ∧ F a1.toInt.toNat 0 = 2 => h z.1), decide_eq_false (fun z : (0 ≤ a1.toInt ∧ a1.toInt < n) ∧ (0 ≤ a2.toInt ∧ a2.toInt ≤ 9999999) => h z.1), if_true]
    exact Qr.of _ (Ok.ret ⟨rfl, Fr.rfl⟩) (Ok.ret ⟨rfl, m0k m⟩)
/-! yearly returns -/
theorem V_le64 {a b : Nat} (hb : b < fI FP.Core.b64) (h : a ≤ b) : fV FP.Core.b64 a ≤ fV FP.Core.b64 b := by
  by_cases y : a = b
  · rw [y]; exact Rat.le_refl
  · exact Rat.le_of_lt (V_lt g64 hb (by omega) (by omega))
noncomputable def rq (r : Int) : Nat := rn FP.Core.b64 (fV FP.Core.b64 (rn FP.Core.b64 (r : Rat)) / fV FP.Core.b64 4636737291354636288)
noncomputable def fc (r : Int) : Nat := rn FP.Core.b64 (fV FP.Core.b64 4607182418800017408 + fV FP.Core.b64 (rq r))
theorem V100 : fV FP.Core.b64 4636737291354636288 = 100 := by decide +kernel
theorem V1 : fV FP.Core.b64 4607182418800017408 = 1 := by decide +kernel
theorem fcB {r : Int} (h0 : 0 ≤ r) (h1 : r ≤ 999) : Bd FP.Core.b64 (rn FP.Core.b64 (r : Rat)) 0 10 ∧ Bd FP.Core.b64 4636737291354636288 6 7 ∧ Bd FP.Core.b64 (rq r) (-7) 4 ∧ Bd FP.Core.b64 4607182418800017408 (-7) 4 ∧ Bd FP.Core.b64 (fc r) (-7) 5 := by
  have a := intB g64 (b := 10) (by omega) (by rw [em64]; omega) h0 (P2_int (k := 10) (by omega))
  have b : Bd FP.Core.b64 4636737291354636288 6 7 := ⟨by rw [fI64]; omega, .inr ⟨by omega, by rw [V100]; decide +kernel, by rw [V100]; decide +kernel⟩⟩
  have d := divB g64 a b (by omega) (by rw [em64]; omega) (by rw [em64]; omega)
  have e : Bd FP.Core.b64 4607182418800017408 (-7) 4 := ⟨by rw [fI64]; omega, .inr ⟨by omega, by rw [V1]; decide +kernel, by rw [V1]; decide +kernel⟩⟩
  exact ⟨a, b, d, e, addB g64 e d (by rw [em64]; omega) (by rw [em64]; omega)⟩
theorem fc_mono {r s : Int} (h0 : 0 ≤ r) (h : r ≤ s) (h1 : s ≤ 999) : fc r ≤ fc s := by
  have a := fcB h0 (show r ≤ 999 by omega)
  have b := fcB (show 0 ≤ s by omega) h1
  have q : rq r ≤ rq s := by
    unfold rq
    refine rn_mono g64 ?_
    have l : rn FP.Core.b64 (r : Rat) ≤ rn FP.Core.b64 (s : Rat) := rn_mono g64 (by exact_mod_cast h)
    have v := V_le64 b.1.1 l
    rw [V100]
    have e : ∀ x : Rat, x / 100 = x * (100 : Rat)⁻¹ := fun x => Rat.div_def _ _
    rw [e, e]
    exact Rat.mul_le_mul_of_nonneg_right v (by decide +kernel)
  unfold fc
  refine rn_mono g64 ?_
  have := V_le64 b.2.2.1.1 q
  grind
noncomputable def gwn (k s : Nat) : Nat → Nat
  | 0 => s
  | y + 1 => rn FP.Core.b64 (fV FP.Core.b64 (gwn k s y) * fV FP.Core.b64 k)
theorem gwnB {k s : Nat} (hk : Bd FP.Core.b64 k (-7) 5) (hs : Bd FP.Core.b64 s 0 27) : ∀ y : Nat, y ≤ 20 → Bd FP.Core.b64 (gwn k s y) (-7 * y) (27 + 5 * y)
  | 0, _ => hs
  | y + 1, h => by
    have := mulB g64 (gwnB hk hs y (by omega)) hk (by rw [em64]; omega) (by rw [em64]; omega)
    rw [show -7 * ((y + 1 : Nat) : Int) = -7 * (y : Int) + -7 by omega, show 27 + 5 * ((y + 1 : Nat) : Int) = 27 + 5 * (y : Int) + 5 by omega]
    exact this
theorem gwn_mono {k l s : Nat} (hk : Bd FP.Core.b64 k (-7) 5) (hl : Bd FP.Core.b64 l (-7) 5) (hs : Bd FP.Core.b64 s 0 27) (h : k ≤ l) : ∀ y : Nat, y ≤ 20 → gwn k s y ≤ gwn l s y
  | 0, _ => Nat.le_refl _
  | y + 1, hy => by
    simp only [gwn]
    refine rn_mono g64 ?_
    have a := V_le64 hl.1 h
    have b := V_le64 (gwnB hl hs y (by omega)).1 (gwn_mono hk hl hs h y (by omega))
    have n1 := V_nn (f := FP.Core.b64) (gwn k s y)
    have n2 := V_nn (f := FP.Core.b64) l
    have s1 := Rat.mul_le_mul_of_nonneg_left a n1
    have s2 := Rat.mul_le_mul_of_nonneg_right b n2
    grind
theorem fac_ok {r : Int} (h0 : 0 ≤ r) (h1 : r ≤ 999) : FP.ddiv (FP.i2d (Int32.ofInt r)) (4636737291354636288 : UInt64) = UInt64.ofNat (rq r) ∧ FP.dadd FP.dconst1 (UInt64.ofNat (rq r)) = UInt64.ofNat (fc r) := by
  obtain ⟨a, b, d, e, f⟩ := fcB h0 h1
  constructor
  · rw [i2dD h0 (by omega), show (4636737291354636288 : UInt64) = UInt64.ofNat 4636737291354636288 from rfl, ddivD a.1 b.1 (by omega)]; rfl
  · rw [show FP.dconst1 = UInt64.ofNat 4607182418800017408 from rfl, daddD e.1 d.1]; rfl
theorem grown_loop {r : Int} (h0 : 0 ≤ r) (h1 : r ≤ 999) {s : Nat} (hs : Bd FP.Core.b64 s 0 27) {y : Nat} (hy : y ≤ 20) (w : eW) : ∀ (d k f : Nat), k + d = y → d < f → f_nu_grown_L6 f (Int32.ofInt r) (Int32.ofInt (y : Nat)) (UInt64.ofNat (gwn (fc r) s k)) (Int32.ofInt (k : Nat)) w = some (UInt64.ofNat (gwn (fc r) s y), w) := by
  obtain ⟨e1, e2⟩ := fac_ok h0 h1
  obtain ⟨a, b, d', e, fB⟩ := fcB h0 h1
  intro d
  induction d with
  | zero =>
    intro k f hk hf
    obtain ⟨f, rfl⟩ : ∃ g, f = g + 1 := ⟨f - 1, by omega⟩
    have : k = y := by omega
    subst this
    unfold f_nu_grown_L6
    rw [if_pos (Int32.le_refl _)]
  | succ d ih =>
    intro k f hk hf
    obtain ⟨f, rfl⟩ : ∃ g, f = g + 1 := ⟨f - 1, by omega⟩
    have gb := gwnB fB hs k (by omega)
    have gb2 := gwnB fB hs (k + 1) (by omega)
    unfold f_nu_grown_L6
    rw [if_neg (by rw [ile (by omega) (by omega) (by omega) (by omega)]; omega), e1, if_pos (nanD (Nat.le_of_lt d'.1)), e2, if_pos (nanD (Nat.le_of_lt fB.1)), dmulD gb.1 fB.1, show rn FP.Core.b64 (fV FP.Core.b64 (gwn (fc r) s k) * fV FP.Core.b64 (fc r)) = gwn (fc r) s (k + 1) from rfl, if_pos (nanD (Nat.le_of_lt gb2.1)), isucc]
    exact ih (k + 1) f (by omega) (by omega)
/-- the greatest -/
def Gst (P : Int → Prop) (b : Int) : Prop := -1 ≤ b ∧ b ≤ 999 ∧ (0 ≤ b → P b) ∧ ∀ r, b < r → r ≤ 999 → ¬ P r
theorem Gst_uniq {P : Int → Prop} {a b : Int} (h : Gst P a) (k : Gst P b) : a = b := by
  rcases Int.lt_trichotomy a b with z | z | z
  · exact absurd (k.2.2.1 (by have := h.1; omega)) (h.2.2.2 b z k.2.1)
  · exact z
  · exact absurd (h.2.2.1 (by have := k.1; omega)) (k.2.2.2 a z h.2.1)
def PG (s v y : Nat) (r : Int) : Prop := gwn (fc r) s y ≤ v
theorem cmpG {a b : Nat} (ha : a ≤ fI FP.Core.b64) (hb : b ≤ fI FP.Core.b64) : (0 < Op.cmpValue (FP.dcmp (UInt64.ofNat a) (UInt64.ofNat b)) CmpOp.g) ↔ ¬ a ≤ b := by
  rw [cmpD ha hb]
  by_cases z : a < b
  · rw [if_pos z]
    constructor
    · intro y; exact absurd y (by decide)
    · omega
  · rw [if_neg z]
    by_cases y : a = b
    · rw [if_pos y]
      constructor
      · intro q; exact absurd q (by decide)
      · omega
    · rw [if_neg y]
      constructor
      · omega
      · intro _; decide
theorem yields_loop {s v y : Nat} (hs : Bd FP.Core.b64 s 0 27) (hv : v < fI FP.Core.b64) (hy : y ≤ 20) (w : eW) : ∀ (k i f : Nat) (lo hi : Int), hi - lo < 2 ^ k → i + k ≤ 31 → k < f → -1 ≤ lo → lo ≤ hi → hi ≤ 999 → (0 ≤ lo → PG s v y lo) → (∀ r, hi < r → r ≤ 999 → ¬ PG s v y r) → Ok (f_xx_yields_L81 f (Int32.ofInt (y : Nat)) (UInt64.ofNat v) (UInt64.ofNat s) (Int32.ofInt lo) (Int32.ofInt hi) (Int32.ofInt (i : Nat)) w) fun p => p.2 = w ∧ ∃ b, p.1 = Int32.ofInt b ∧ Gst (PG s v y) b := by
  intro k
  induction k with
  | zero =>
    intro i f lo hi h1 h2 h3 h4 h5 h6 h7 h8
    obtain ⟨f, rfl⟩ : ∃ g, f = g + 1 := ⟨f - 1, by omega⟩
    have : hi = lo := by simp at h1; omega
    subst this
    unfold f_xx_yields_L81
    rw [if_neg (by rw [show (32 : Int32) = Int32.ofInt 32 from rfl, ile (by omega) (by omega) (by omega) (by omega)]; omega), if_pos (Int32.le_refl _)]
    exact Ok.ret ⟨rfl, hi, rfl, h4, h6, h7, h8⟩
  | succ k ih =>
    intro i f lo hi h1 h2 h3 h4 h5 h6 h7 h8
    obtain ⟨f, rfl⟩ : ∃ g, f = g + 1 := ⟨f - 1, by omega⟩
    unfold f_xx_yields_L81
    have hp : (2 : Int) ^ (k + 1) = 2 ^ k * 2 := Int.pow_succ 2 k
    rw [if_neg (by rw [show (32 : Int32) = Int32.ofInt 32 from rfl, ile (by omega) (by omega) (by omega) (by omega)]; omega)]
    refine Ok.iff (e := hi ≤ lo) (ile (by omega) (by omega) (by omega) (by omega)) (fun e => ?_) (fun e => ?_)
    · have : hi = lo := by omega
      subst this
      exact Ok.ret ⟨rfl, hi, rfl, h4, h6, h7, h8⟩
    · have md : Int32.ofInt lo + (((Int32.ofInt hi - Int32.ofInt lo) + (1 : Int32)) / (2 : Int32)) = Int32.ofInt (lo + (hi - lo + 1) / 2) := by
        rw [← Int32.ofInt_sub, isucc', show (2 : Int32) = Int32.ofInt 2 from rfl, idiv (by omega) (by omega) (by omega) (by omega), ← Int32.ofInt_add]
      rw [md]
      have m0 : 0 ≤ lo + (hi - lo + 1) / 2 := by omega
      have m9 : lo + (hi - lo + 1) / 2 ≤ 999 := by omega
      unfold f_nu_grown
      have G := grown_loop m0 m9 hs hy w y 0 eFu (by omega) (by rw [eFu_eq]; omega)
      have G' : f_nu_grown_L6 eFu (Int32.ofInt (lo + (hi - lo + 1) / 2)) (Int32.ofInt (y : Nat)) (UInt64.ofNat s) 0 w = _ := G
      rw [G', obind]
      dsimp only
      have gb := gwnB (fcB m0 m9).2.2.2.2 hs y hy
      rw [isucc, show (1 : Int32) = Int32.ofInt 1 from rfl, ← Int32.ofInt_sub]
      refine Ok.iff (cmpG (Nat.le_of_lt gb.1) (Nat.le_of_lt hv)) (fun g => ?_) (fun g => ?_)
      · refine ih (i + 1) f lo (lo + (hi - lo + 1) / 2 - 1) (by omega) (by omega) (by omega) h4 (by omega) (by omega) h7 fun r r1 r2 p => ?_
        have mo := gwn_mono (fcB m0 m9).2.2.2.2 (fcB (show 0 ≤ r by omega) r2).2.2.2.2 hs (fc_mono m0 (by omega) r2) y hy
        unfold PG at p
        omega
      · refine ih (i + 1) f (lo + (hi - lo + 1) / 2) hi (by omega) (by omega) (by omega) (by omega) (by omega) h6 (fun _ => ?_) h8
        unfold PG
        omega
theorem mgrow_loop {r : Int} (h0 : 0 ≤ r) (h1 : r ≤ 999) {s v y : Nat} (hs : Bd FP.Core.b64 s 0 27) (hv : v < fI FP.Core.b64) (hy : y ≤ 20) (k47 : Int32 → Int32 → UInt64 → Int32 → Int32 → eW → Option (Int32 × eW)) (a1 best : Int32) (w : eW) : ∀ (d k f : Nat), k + d = y → d < f → f_mm_yields_L77 k47 f a1 (Int32.ofInt (y : Nat)) (UInt64.ofNat v) best (Int32.ofInt r) (UInt64.ofNat (gwn (fc r) s k)) (Int32.ofInt (k : Nat)) w = if gwn (fc r) s y ≤ v then k47 a1 (Int32.ofInt (y : Nat)) (UInt64.ofNat v) (Int32.ofInt r) (Int32.ofInt (r + 1)) w else k47 a1 (Int32.ofInt (y : Nat)) (UInt64.ofNat v) best (Int32.ofInt (r + 1)) w := by
  obtain ⟨e1, e2⟩ := fac_ok h0 h1
  obtain ⟨a, b, d', e, fB⟩ := fcB h0 h1
  intro d
  induction d with
  | zero =>
    intro k f hk hf
    obtain ⟨f, rfl⟩ : ∃ g, f = g + 1 := ⟨f - 1, by omega⟩
    have : k = y := by omega
    subst this
    have gb := gwnB fB hs k (by omega)
    unfold f_mm_yields_L77
    rw [if_pos (Int32.le_refl _), isucc']
    have cg := cmpG (Nat.le_of_lt gb.1) (Nat.le_of_lt hv)
    by_cases g : gwn (fc r) s k ≤ v
    · rw [if_neg (fun z => cg.mp z g), if_pos g]
    · rw [if_pos (cg.mpr g), if_neg g]
  | succ d ih =>
    intro k f hk hf
    obtain ⟨f, rfl⟩ : ∃ g, f = g + 1 := ⟨f - 1, by omega⟩
    have gb := gwnB fB hs k (by omega)
    have gb2 := gwnB fB hs (k + 1) (by omega)
    unfold f_mm_yields_L77
    rw [if_neg (by rw [ile (by omega) (by omega) (by omega) (by omega)]; omega), e1, if_pos (nanD (Nat.le_of_lt d'.1)), e2, if_pos (nanD (Nat.le_of_lt fB.1)), dmulD gb.1 fB.1, show rn FP.Core.b64 (fV FP.Core.b64 (gwn (fc r) s k) * fV FP.Core.b64 (fc r)) = gwn (fc r) s (k + 1) from rfl, if_pos (nanD (Nat.le_of_lt gb2.1)), isucc (k)]
    exact ih (k + 1) f (by omega) (by omega)
theorem myields_loop (hF : FOK n F cv) {w : eW} (hM : MF w n F cv wv) {h : Nat} (hh : h < n) (h2 : F h 0 = 2) {v y : Nat} (hv : v < fI FP.Core.b64) (hy : y ≤ 20) : ∀ (d r f : Nat) (b : Int), r + d = 1000 → d < f → b < (r : Int) → Gst (fun q => PG (rn FP.Core.b64 (cost F h : Rat)) v y q ∧ q < (r : Int)) b → Ok (f_mm_yields_L47 f (Int32.ofInt (h : Nat)) (Int32.ofInt (y : Nat)) (UInt64.ofNat v) (Int32.ofInt b) (Int32.ofInt (r : Nat)) w) fun p => p.2 = w ∧ ∃ b, p.1 = Int32.ofInt b ∧ Gst (PG (rn FP.Core.b64 (cost F h : Rat)) v y) b := by
  have hn := hF.1
  have cb := cost_b hF hh h2
  have cB := intB g64 (b := 27) (by omega) (by rw [em64]; omega) (show 0 ≤ cost F h by omega) (P2_int (k := 27) (by omega))
  intro d
  induction d with
  | zero =>
    intro r f b hr hf hb hg
    obtain ⟨f, rfl⟩ : ∃ g, f = g + 1 := ⟨f - 1, by omega⟩
    unfold f_mm_yields_L47
    rw [if_pos (by rw [show (999 : Int32) = Int32.ofInt 999 from rfl, ilt (by omega) (by omega) (by omega) (by omega)]; omega)]
    exact Ok.ret ⟨rfl, b, rfl, hg.1, hg.2.1, fun z => (hg.2.2.1 z).1, fun q q1 q2 p => hg.2.2.2 q q1 q2 ⟨p, by omega⟩⟩
  | succ d ih =>
    intro r f b hr hf hb hg
    obtain ⟨f, rfl⟩ : ∃ g, f = g + 1 := ⟨f - 1, by omega⟩
    unfold f_mm_yields_L47
    rw [if_neg (by rw [show (999 : Int32) = Int32.ofInt 999 from rfl, ilt (by omega) (by omega) (by omega) (by omega)]; omega), eChk_of (by omega) (by omega) (by omega), eChk_of (by omega) (by omega) (by omega), icl (by omega) (by omega), nat_i, m_cost hM hh h2, i2dD (by omega) (by omega)]
    have G := mgrow_loop (r := (r : Int)) (by omega) (by omega) cB hv hy (f_mm_yields_L47 f) (Int32.ofInt (h : Nat)) (Int32.ofInt b) w y 0 eFu (by omega) (by rw [eFu_eq]; omega)
    have G' : f_mm_yields_L77 (f_mm_yields_L47 f) eFu (Int32.ofInt (h : Nat)) (Int32.ofInt (y : Nat)) (UInt64.ofNat v) (Int32.ofInt b) (Int32.ofInt (r : Nat)) (UInt64.ofNat (rn FP.Core.b64 (cost F h : Rat))) 0 w = _ := G
    rw [G', show (r : Int) + 1 = ((r + 1 : Nat) : Int) by omega]
    by_cases g : gwn (fc r) (rn FP.Core.b64 (cost F h : Rat)) y ≤ v
    · rw [if_pos g]
      refine ih (r + 1) f r (by omega) (by omega) (by omega) ⟨by omega, by omega, fun _ => ⟨g, by omega⟩, fun q q1 q2 p => by omega⟩
    · rw [if_neg g]
      refine ih (r + 1) f b (by omega) (by omega) (by omega) ⟨hg.1, hg.2.1, fun z => ⟨(hg.2.2.1 z).1, by omega⟩, fun q q1 q2 p => ?_⟩
      by_cases e : q = r
      · rw [e] at p; exact g p.1
      · exact hg.2.2.2 q q1 q2 ⟨p.1, by omega⟩
theorem q_yields (hF : FOK n F cv) (hC : CF c n F cv wv) (hM : MF m n F cv wv) (a1 a2 a3 : Int32) : Qr (f_xx_yields a1 a2 a3 c) (f_mm_yields a1 a2 a3 m) c m := by
  have hn := hF.1
  have hM0 := hM.km (m0k m)
  have r3 := irange a3
  unfold f_xx_yields f_mm_yields
  simp only [x_isAsked hF hC, c_isClassA hF hC, m_isClassA hF hM0, m_isAmount, m_in, obind, b2i_0]
  rw [show (1 : Int32).toInt = 1 from rfl, show (20 : Int32).toInt = 20 from rfl]
  by_cases h : 0 ≤ a1.toInt ∧ a1.toInt < n
  · by_cases g : F a1.toInt.toNat 0 = 2
    · simp only [decide_eq_true (And.intro h g), Bool.true_eq_false, if_false]
      by_cases k : 0 ≤ a2.toInt ∧ a2.toInt ≤ 9999999
      · simp only [decide_eq_true (And.intro h k), decide_eq_true k, Bool.true_eq_false, if_false]
        by_cases u1 : 1 ≤ a3.toInt
        · rw [if_neg (by rw [iof a3, show (1 : Int32) = Int32.ofInt 1 from rfl, ilt (by omega) (by omega) (by omega) (by omega)]; omega)]
          by_cases u2 : a3.toInt ≤ 20
          · rw [if_pos (by rw [iof a3, show (20 : Int32) = Int32.ofInt 20 from rfl, ile (by omega) (by omega) (by omega) (by omega)]; omega)]
            simp only [decide_eq_true (And.intro u1 u2), Bool.true_eq_false, not_false_eq_true, if_true]
            obtain ⟨i, hi, rfl⟩ := hold_of h
            obtain ⟨z, z1, z2, rfl⟩ := amt_of k
            obtain ⟨y, hy, rfl⟩ := hold_of (n := 21) (a := a3) (by omega)
            rw [toI_ofI (a := (i : Int)) (by omega) (by omega), nat_i] at g
            obtain ⟨c1, e1, q1, -, -, q4⟩ := xx_pour hF hC z1 z2
            obtain ⟨⟨v, m1⟩, e2, p1, p2, hb⟩ := m_hasDouble hF hM0 hi z1 z2
            dsimp only at p1 p2
            subst p1
            obtain ⟨b1, b2, b3, b4⟩ := dqB g64 (by decide) hb
            obtain ⟨b, x, x1, x2, x3, x4, x5⟩ := q4.ab hF (falls_b hF z1 z2)
            obtain ⟨y1, y2, y3, y4, y5, y6⟩ := x5 i hi
            have cb := cost_b hF hi g
            have cB := intB g64 (b := 27) (by omega) (by rw [em64]; omega) (show 0 ≤ cost F i by omega) (P2_int (k := 27) (by omega))
            rw [e1, obind, e2, obind, y2, obind]
            dsimp only
            rw [x1, nu_asD y4 (by omega) (by omega) (by omega) (x := XA n F wv cv i z) y3 hb, obind]
            dsimp only
            rw [c_costOf hF q4.1 hi, obind]
            dsimp only
            rw [i2dD (by omega) (by omega)]
            obtain ⟨⟨r0, c2⟩, w1, w2, bb, w3, w4⟩ := yields_loop cB b4.1 (show y ≤ 20 by omega) c1 10 0 eFu (-1) 999 (by decide) (by omega) (by rw [eFu_eq]; omega) (by omega) (by omega) (by omega) (by omega) (by omega)
            have w1' : f_xx_yields_L81 eFu (Int32.ofInt (y : Nat)) (UInt64.ofNat (dq FP.Core.b64 (XA n F wv cv i z))) (UInt64.ofNat (rn FP.Core.b64 (cost F i : Rat))) (-1) 999 0 c1 = _ := w1
            dsimp only at w2 w3
            subst w2
            subst w3
            rw [w1']
            refine Qr.of (Int32.ofInt bb) (Ok.ret ⟨rfl, q1⟩) ?_
            have Y := myields_loop hF (hM0.km p2) hi g b4.1 (show y ≤ 20 by omega) 1000 0 eFu (-1) (by omega) (by rw [eFu_eq]; omega) (by omega) ⟨by omega, by omega, by omega, fun q q1 q2 p => by omega⟩
            rw [show Int32.ofInt (-1) = (-1 : Int32) from rfl, show Int32.ofInt ((0 : Nat) : Int) = (0 : Int32) from rfl] at Y
            refine Ok.imp Y ?_
            rintro ⟨r1, m2⟩ ⟨t1, bb', t2, t3⟩
            have := Gst_uniq w4 t3
            subst this
            dsimp only at t1 t2 ⊢
            rw [t1]
            exact ⟨t2, (m0k m).tr p2⟩
          · rw [if_neg (by rw [iof a3, show (20 : Int32) = Int32.ofInt 20 from rfl, ile (by omega) (by omega) (by omega) (by omega)]; omega)]
            simp only [decide_eq_false (fun z : 1 ≤ a3.toInt ∧ a3.toInt ≤ 20 => u2 z.2), not_true_eq_false, if_false]
            exact Qr.of _ (Ok.ret ⟨rfl, Fr.rfl⟩) (Ok.ret ⟨rfl, m0k m⟩)
        · rw [if_pos (by rw [iof a3, show (1 : Int32) = Int32.ofInt 1 from rfl, ilt (by omega) (by omega) (by omega) (by omega)]; omega)]
          simp only [decide_eq_false (fun z : 1 ≤ a3.toInt ∧ a3.toInt ≤ 20 => u1 z.1), not_true_eq_false, if_false]
          exact Qr.of _ (Ok.ret ⟨rfl, Fr.rfl⟩) (Ok.ret ⟨rfl, m0k m⟩)
      · simp only [decide_eq_false (fun z : (0 ≤ a1.toInt ∧ a1.toInt < n) ∧ (0 ≤ a2.toInt ∧ a2.toInt ≤ 9999999) => k z.2), decide_eq_false k, if_true]
        exact Qr.of _ (Ok.ret ⟨rfl, Fr.rfl⟩) (Ok.ret ⟨rfl, m0k m⟩)
    · simp only [decide_eq_false (fun z : (0 ≤ a1.toInt ∧ a1.toInt < n) ∧ F a1.toInt.toNat 0 = 2 => g z.2), if_true]
      refine Qr.of (-2) (Ok.br (fun _ => Ok.ret ⟨rfl, Fr.rfl⟩) (fun _ => Ok.ret ⟨rfl, Fr.rfl⟩)) (Ok.ret ⟨rfl, m0k m⟩)
  · simp only [decide_eq_false (fun z : (0 ≤ a1.toInt ∧ a1.toInt < n) ∧ F a1.toInt.toNat 0 = 2 => h z.1), decide_eq_false (fun z : (0 ≤ a1.toInt ∧ a1.toInt < n) ∧ (0 ≤ a2.toInt ∧ a2.toInt ≤ 9999999) => h z.1), if_true]
    exact Qr.of _ (Ok.ret ⟨rfl, Fr.rfl⟩) (Ok.ret ⟨rfl, m0k m⟩)
end
