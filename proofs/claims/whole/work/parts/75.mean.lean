section
variable {n : Nat} {F : Nat → Nat → Int} {wv : Int32} {told : Bool} {set : Int32} {cv : Int} {c m : eW}
/-- nothing, or between two powers of two -/
def Bd (f : FP.Core.Fmt) (x : Nat) (a b : Int) : Prop := x < fI f ∧ ((x = 0 ∧ fV f x = 0) ∨ (0 < x ∧ P2 a ≤ fV f x ∧ fV f x ≤ P2 b))
theorem rnB {f : FP.Core.Fmt} (g : Gf f) {a b : Int} (ha : 1 - (f.emax : Int) ≤ a) (hb : b ≤ f.emax) {v : Rat} (h : v = 0 ∨ (P2 a ≤ v ∧ v ≤ P2 b)) : Bd f (rn f v) a b := by
  have em := emax_1 g
  rcases h with h | ⟨h1, h2⟩
  · rw [h, rn_0]
    refine ⟨?_, .inl ⟨rfl, V_0⟩⟩
    have := (eP_V g (k := 0) (by omega) (by omega)).1
    omega
  · have ab : a ≤ b := by
      apply Classical.byContradiction
      intro z
      have s := P2_mono (show b + 1 ≤ a by omega)
      rw [P2_succ] at s
      have := P2_pos b
      grind
    obtain ⟨e1, e2⟩ := eP_V g ha (show a ≤ f.emax by omega)
    obtain ⟨e3, e4⟩ := eP_V g (show 1 - (f.emax : Int) ≤ b by omega) hb
    have r1 : eP f a ≤ rn f v := by rw [← rn_P g ha (by omega)]; exact rn_mono g h1
    have r2 : rn f v ≤ eP f b := by rw [← rn_P g (by omega) hb]; exact rn_mono g h2
    have lt : rn f v < fI f := by omega
    have vle : ∀ {p q : Nat}, q < fI f → p ≤ q → fV f p ≤ fV f q := fun {p q} hq h => by
      by_cases y : p = q
      · rw [y]; exact Rat.le_refl
      · exact Rat.le_of_lt (V_lt g hq (by omega) (by omega))
    have a0 : 0 < eP f a := by
      apply Classical.byContradiction
      intro z
      have z0 : eP f a = 0 := by omega
      rw [z0, V_0] at e2
      have := P2_pos a
      grind
    refine ⟨lt, .inr ⟨by omega, ?_, ?_⟩⟩
    · rw [← e2]; exact vle lt r1
    · rw [← e4]; exact vle e3 r2
theorem em64 : (FP.Core.b64.emax : Int) = 1023 := by decide +kernel
theorem Bd64 {x : Nat} {a b : Int} (h : Bd FP.Core.b64 x a b) (ha : -900 ≤ a) (hb : b ≤ 800) (hab : a ≤ 800) (hba : -900 ≤ b) : x = 0 ∨ (4503599627370496 * 100 ≤ x ∧ x < 4503599627370496 * 1900) := by
  obtain ⟨lt, ⟨z, -⟩ | ⟨p, h1, h2⟩⟩ := h
  · exact .inl z
  · right
    obtain ⟨e1, e2⟩ := eP_V g64 (k := a) (by rw [em64]; omega) (by rw [em64]; omega)
    obtain ⟨e3, e4⟩ := eP_V g64 (k := b) (by rw [em64]; omega) (by rw [em64]; omega)
    have r1 : eP FP.Core.b64 a ≤ x := V_mono g64 lt e1 (by rw [e2]; exact h1)
    have r2 : x ≤ eP FP.Core.b64 b := V_mono g64 e3 lt (by rw [e4]; exact h2)
    have q1 := eP64 (k := a) (by omega)
    have q2 := eP64 (k := b) (by omega)
    omega
theorem intB {f : FP.Core.Fmt} (g : Gf f) {b : Int} (hb0 : 0 ≤ b) (hb : b ≤ f.emax) {i : Int} (h0 : 0 ≤ i) (h1 : (i : Rat) ≤ P2 b) : Bd f (rn f (i : Rat)) 0 b := by
  have em := emax_1 g
  refine rnB g (by omega) hb ?_
  by_cases z : i = 0
  · left; rw [z]; rfl
  · right
    refine ⟨?_, h1⟩
    rw [P2_0]
    have : ((1 : Int) : Rat) ≤ (i : Rat) := by exact_mod_cast (show 1 ≤ i by omega)
    exact this
theorem P2_int {k : Nat} {i : Int} (h : i ≤ ((2 ^ k : Nat) : Int)) : (i : Rat) ≤ P2 (k : Int) := by
  rw [P2_nat]
  have : (i : Rat) ≤ (((2 ^ k : Nat) : Int) : Rat) := Rat.intCast_le_intCast.mpr h
  exact this
theorem Bd_pos {f : FP.Core.Fmt} {x : Nat} {a b : Int} (h : Bd f x a b) (p : 0 < x) : P2 a ≤ fV f x ∧ fV f x ≤ P2 b := by
  rcases h.2 with ⟨z, -⟩ | ⟨-, z⟩
  · omega
  · exact z
theorem divB {f : FP.Core.Fmt} (g : Gf f) {x y : Nat} {a b p q : Int} (hx : Bd f x a b) (hy : Bd f y p q) (y0 : 0 < y) (h1 : 1 - (f.emax : Int) ≤ a - q) (h2 : b - p ≤ f.emax) : Bd f (rn f (fV f x / fV f y)) (a - q) (b - p) := by
  obtain ⟨v1, v2⟩ := Bd_pos hy y0
  have vp : 0 < fV f y := by have := P2_pos p; grind
  refine rnB g h1 h2 ?_
  rcases hx.2 with ⟨-, z⟩ | ⟨-, u1, u2⟩
  · left; rw [z, qz]
  · right
    refine ⟨(qge vp).mpr ?_, (qle vp).mpr ?_⟩
    · have e : P2 a = P2 (a - q) * P2 q := by rw [← P2_add]; congr 1; omega
      have := Rat.mul_le_mul_of_nonneg_left v2 (Rat.le_of_lt (P2_pos (a - q)))
      grind
    · have e : P2 b = P2 (b - p) * P2 p := by rw [← P2_add]; congr 1; omega
      have := Rat.mul_le_mul_of_nonneg_left v1 (Rat.le_of_lt (P2_pos (b - p)))
      grind
theorem mulB {f : FP.Core.Fmt} (g : Gf f) {x y : Nat} {a b p q : Int} (hx : Bd f x a b) (hy : Bd f y p q) (h1 : 1 - (f.emax : Int) ≤ a + p) (h2 : b + q ≤ f.emax) : Bd f (rn f (fV f x * fV f y)) (a + p) (b + q) := by
  refine rnB g h1 h2 ?_
  rcases hx.2 with ⟨-, z⟩ | ⟨-, u1, u2⟩
  · left; rw [z, Rat.zero_mul]
  · rcases hy.2 with ⟨-, z⟩ | ⟨-, v1, v2⟩
    · left; rw [z, Rat.mul_zero]
    · right
      rw [P2_add, P2_add]
      have pa := P2_pos a
      have pp := P2_pos p
      constructor
      · have s1 := Rat.mul_le_mul_of_nonneg_left v1 (Rat.le_of_lt pa)
        have s2 := Rat.mul_le_mul_of_nonneg_right u1 (show 0 ≤ fV f y by grind)
        grind
      · have s1 := Rat.mul_le_mul_of_nonneg_left v2 (show 0 ≤ fV f x by grind)
        have s2 := Rat.mul_le_mul_of_nonneg_right u2 (Rat.le_of_lt (P2_pos q))
        grind
theorem addB {f : FP.Core.Fmt} (g : Gf f) {x y : Nat} {a b : Int} (hx : Bd f x a b) (hy : Bd f y a b) (h1 : 1 - (f.emax : Int) ≤ a) (h2 : b + 1 ≤ f.emax) : Bd f (rn f (fV f x + fV f y)) a (b + 1) := by
  refine rnB g h1 h2 ?_
  have pb := P2_pos b
  have pa := P2_pos a
  rw [P2_succ]
  rcases hx.2 with ⟨-, z⟩ | ⟨-, u1, u2⟩
  · rcases hy.2 with ⟨-, y⟩ | ⟨-, v1, v2⟩
    · left; rw [z, y, Rat.add_zero]
    · right; grind
  · rcases hy.2 with ⟨-, y⟩ | ⟨-, v1, v2⟩
    · right; grind
    · right; grind
theorem Bd_up {f : FP.Core.Fmt} {x : Nat} {a b b' : Int} (h : Bd f x a b) (hb : b ≤ b') : Bd f x a b' := by
  refine ⟨h.1, ?_⟩
  rcases h.2 with z | ⟨z1, z2, z3⟩
  · exact .inl z
  · exact .inr ⟨z1, z2, Rat.le_trans z3 (P2_mono hb)⟩
theorem rn_pos {f : FP.Core.Fmt} (g : Gf f) {i : Int} (h : 1 ≤ i) : 0 < rn f (i : Rat) := by
  have em := emax_1 g
  have r := rn_mono g (v := P2 0) (w := (i : Rat)) (by
    rw [P2_0]
    have : ((1 : Int) : Rat) ≤ (i : Rat) := by exact_mod_cast h
    exact this)
  rw [rn_P g (by omega) (by omega)] at r
  have := (eP_V g (k := 0) (by omega) (by omega)).2
  have p : 0 < eP f 0 := by
    apply Classical.byContradiction
    intro z
    have z0 : eP f 0 = 0 := by omega
    rw [z0, V_0, P2_0] at this
    exact absurd this (by decide)
  omega
/-- a fraction as a number with a point -/
noncomputable def dq (f : FP.Core.Fmt) (x : Rat) : Nat := rn f (fV f (rn f (x.num : Rat)) / fV f (rn f (((x.den : Nat) : Int) : Rat)))
abbrev Xb (x : Rat) : Prop := 0 ≤ x.num ∧ x.num < 9223372036854775807 ∧ 1 ≤ ((x.den : Nat) : Int) ∧ ((x.den : Nat) : Int) ≤ 15000000000
theorem dqB {f : FP.Core.Fmt} (g : Gf f) (e1 : 100 ≤ f.emax) {x : Rat} (h : Xb x) : Bd f (rn f (x.num : Rat)) 0 63 ∧ Bd f (rn f (((x.den : Nat) : Int) : Rat)) 0 34 ∧ 0 < rn f (((x.den : Nat) : Int) : Rat) ∧ Bd f (dq f x) (-34) 63 := by
  have a := intB g (b := 63) (by omega) (by omega) h.1 (P2_int (k := 63) (by have := h.2.1; omega))
  have b := intB g (b := 34) (by omega) (by omega) (show 0 ≤ ((x.den : Nat) : Int) by omega) (P2_int (k := 34) (by have := h.2.2.2; omega))
  have p := rn_pos g h.2.2.1
  exact ⟨a, b, p, divB g a b p (by omega) (by omega)⟩
theorem nu_asD {a b : Int} (h1 : 0 ≤ a) (h2 : a < 9223372036854775808) (h3 : 0 < b) (h4 : b < 9223372036854775808) {x : Rat} (hx : (a : Rat) = x * (b : Rat)) (hb : Xb x) (w : eW) : f_nu_asDouble (Int64.ofInt a) (Int64.ofInt b) w = some (UInt64.ofNat (dq FP.Core.b64 x), w) := by
  obtain ⟨b1, b2, b3, b4⟩ := dqB g64 (by decide) hb
  unfold f_nu_asDouble
  rw [nu_lowest h1 h2 h3 h4 hx, obind]
  dsimp only
  simp only [lg_cmp_le]
  rw [if_neg (by decide : ¬ (1 : Int32) = 0), if_neg (by rw [jlit0, jle (by omega) (by omega) (by omega) (by omega)]; omega), nu_lowest h1 h2 h3 h4 hx, obind]
  dsimp only
  rw [if_pos (rfl : (0 : Int32) = 0), l2dD hb.1 (by omega), l2dD (by omega) (by omega), ddivD b1.1 b2.1 b3]
  unfold dq at b4 ⊢
  rw [if_pos (nanD (Nat.le_of_lt b4.1))]
theorem m_hasDouble (hF : FOK n F cv) (hM : MF m n F cv wv) {h : Nat} (hh : h < n) {a : Int} (h1 : 0 ≤ a) (h2 : a ≤ 9999999) : Ok (f_mm_hasDouble (Int32.ofInt (h : Nat)) (Int32.ofInt a) m) fun p => p.1 = UInt64.ofNat (dq FP.Core.b64 (XA n F wv cv h a)) ∧ Km m p.2 ∧ Xb (XA n F wv cv h a) := by
  unfold f_mm_hasDouble
  refine Ok.bind (m_layBy hF hM h1 h2) ?_
  rintro m1 ⟨k1, -, -, -, mp⟩
  have e0 := m_lowest hF.1 mp hh false
  have e1 := m_lowest hF.1 mp hh true
  have hb : Xb (XA n F wv cv h a) := mp.nd hh
  obtain ⟨b1, b2, b3, b4⟩ := dqB g64 (by decide) hb
  rw [show (0 : Int32) = b2i false from rfl, e0, obind]
  dsimp only
  rw [show (1 : Int32) = b2i true from rfl, e1, obind]
  dsimp only
  rw [show XX n F wv false 0 (100 * fallsI cv a) h = XA n F wv cv h a from rfl]
  simp only [Bool.false_eq_true, if_false, if_true]
  unfold dq at b4
  rw [l2dD hb.1 (by omega), l2dD (by omega) (by omega), ddivD b1.1 b2.1 b3, if_pos (nanD (Nat.le_of_lt b4.1))]
  exact Ok.ret ⟨rfl, k1, hb⟩
/-- the guesses of both -/
def GR (c m : eW) (g : Nat) (A B : Nat → Int) : Prop := g ≤ 8 ∧ c.1 35 2 = Int32.ofInt (g : Nat) ∧ m.1 24 54 = Int32.ofInt (g : Nat) ∧ ∀ i, i < g → c.1 33 i = Int32.ofInt (A i) ∧ m.1 22 i = Int32.ofInt (A i) ∧ c.1 34 i = Int32.ofInt (B i) ∧ m.1 23 i = Int32.ofInt (B i) ∧ 0 ≤ A i ∧ A i ≤ 9999999 ∧ 1 ≤ B i ∧ B i ≤ 1000
theorem GR.fr {c c' m m' : eW} {g : Nat} {A B : Nat → Int} (h : GR c m g A B) (k : Fr QS c c') (l : Km m m') : GR c' m' g A B := by
  obtain ⟨a, b, d, e⟩ := h
  refine ⟨a, by rw [(k 35 (by decide)).1]; exact b, by rw [(l 24 54 (by omega) (by omega)).1]; exact d, fun i hi => ?_⟩
  rw [(k 33 (by decide)).1, (k 34 (by decide)).1, (l 22 i (by omega) (by omega)).1, (l 23 i (by omega) (by omega)).1]
  exact e i hi
theorem mean_loop (hF : FOK n F cv) {h : Nat} (hh : h < n) {g : Nat} {A B : Nat → Int} : ∀ (d k f1 f2 : Nat), k + d = g → d < f1 → d < f2 → ∀ (c m : eW) (s : Nat) (W : Int), CF c n F cv wv → MF m n F cv wv → GR c m g A B → Bd FP.Core.b64 s (-34) (73 + k) → (k : Int) ≤ W → W ≤ 1000 * k → Qr (f_xx_mean_L23 f1 (Int32.ofInt (h : Nat)) (UInt64.ofNat s) (Int32.ofInt W) (Int32.ofInt (k : Nat)) c) (f_mm_mean_L25 f2 (Int32.ofInt (h : Nat)) (UInt64.ofNat s) (Int32.ofInt W) (Int32.ofInt (k : Nat)) m) c m := by
  have hn := hF.1
  intro d
  induction d with
  | zero =>
    intro k f1 f2 hk hf1 hf2 c m s W hC hM gr sb w1 w2
    obtain ⟨f1, rfl⟩ : ∃ g, f1 = g + 1 := ⟨f1 - 1, by omega⟩
    obtain ⟨f2, rfl⟩ : ∃ g, f2 = g + 1 := ⟨f2 - 1, by omega⟩
    have : k = g := by omega
    subst this
    obtain ⟨g8, gc, gm, -⟩ := gr
    unfold f_xx_mean_L23 f_mm_mean_L25
    simp only [gc, gm, Int32.le_refl, if_true]
    by_cases z : k = 0
    · have W0 : W = 0 := by omega
      rw [if_pos (by rw [W0]; decide), if_neg (by rw [z]; exact fun y => y rfl)]
      exact Qr.of _ (Ok.ret ⟨rfl, Fr.rfl⟩) (Ok.ret ⟨rfl, Km.rfl⟩)
    · have wb := intB g64 (b := 13) (by omega) (by rw [em64]; omega) (show 0 ≤ W by omega) (P2_int (k := 13) (by omega))
      have wp := rn_pos g64 (show 1 ≤ W by omega)
      have qb := divB g64 sb wb wp (by rw [em64]; omega) (by rw [em64]; omega)
      rw [if_neg (by rw [show (0 : Int32) = Int32.ofInt 0 from rfl, ile (by omega) (by omega) (by omega) (by omega)]; omega), if_pos (show ¬ (Int32.ofInt (k : Nat) = 0) by rw [show (0 : Int32) = Int32.ofInt 0 from rfl, ieq (by omega) (by omega) (by omega) (by omega)]; omega), i2dD (by omega) (by omega), ddivD sb.1 wb.1 wp, if_pos (nanD (Nat.le_of_lt qb.1)), if_pos (nanD (Nat.le_of_lt qb.1))]
      obtain ⟨r, r1, r2⟩ := bits64 (Bd64 qb (by omega) (by omega) (by omega) (by omega)) c
      rw [r1, r2 m, obind, obind]
      exact Qr.of _ (Ok.ret ⟨rfl, Fr.rfl⟩) (Ok.ret ⟨rfl, Km.rfl⟩)
  | succ d ih =>
    intro k f1 f2 hk hf1 hf2 c m s W hC hM gr sb w1 w2
    obtain ⟨f1, rfl⟩ : ∃ g, f1 = g + 1 := ⟨f1 - 1, by omega⟩
    obtain ⟨f2, rfl⟩ : ∃ g, f2 = g + 1 := ⟨f2 - 1, by omega⟩
    obtain ⟨g8, gc, gm, ge⟩ := gr
    obtain ⟨a1, a2, a3, a4, a5, a6, a7, a8⟩ := ge k (by omega)
    unfold f_xx_mean_L23 f_mm_mean_L25
    have nk : ¬ (Int32.ofInt (g : Nat) ≤ Int32.ofInt (k : Nat)) := by rw [ile (by omega) (by omega) (by omega) (by omega)]; omega
    simp only [gc, gm, nk, if_false]
    rw [eChk_of (by omega) (by omega) (by omega), eChk_of (by omega) (by omega) (by omega), eChk_of (by omega) (by omega) (by omega), icl (by omega) (by omega), nat_i, a1, a2]
    obtain ⟨c1, e1, q1, -, -, q4⟩ := xx_pour hF hC a5 a6
    obtain ⟨⟨v, m1⟩, e2, p1, p2, p3⟩ := m_hasDouble hF hM hh a5 a6
    dsimp only at p1 p2
    rw [e1, obind, e2, obind]
    dsimp only
    obtain ⟨b, x, x1, x2, x3, x4, x5⟩ := q4.ab hF (falls_b hF a5 a6)
    obtain ⟨y1, y2, y3, y4, y5, y6⟩ := x5 h hh
    simp only [eChk_of (show 0 ≤ (k : Int) by omega) (show (k : Int) < (8 : Nat) by omega) (show 8 ≤ 2147483648 by omega)]
    rw [y2, obind]
    dsimp only
    rw [x1, nu_asD y4 (by omega) (by omega) (by omega) (x := XA n F wv cv h (A k)) y3 p3, obind]
    dsimp only
    obtain ⟨b1, b2, b3, b4⟩ := dqB g64 (by decide) p3
    have gr1 : GR c1 m1 g A B := GR.fr ⟨g8, gc, gm, ge⟩ q1 p2
    have ge1 := gr1.2.2.2 k (by omega)
    rw [ge1.2.2.1, ge1.2.2.2.1, a4, p1, i2dD (by omega) (by omega)]
    have wb := intB g64 (b := 10) (by omega) (by rw [em64]; omega) (show 0 ≤ B k by omega) (P2_int (k := 10) (by omega))
    have tb := mulB g64 wb b4 (by rw [em64]; omega) (by rw [em64]; omega)
    rw [dmulD wb.1 b4.1, if_pos (nanD (Nat.le_of_lt tb.1)), if_pos (nanD (Nat.le_of_lt tb.1))]
    generalize rn FP.Core.b64 (fV FP.Core.b64 (rn FP.Core.b64 (B k : Rat)) * fV FP.Core.b64 (dq FP.Core.b64 (XA n F wv cv h (A k)))) = t at *
    have tb' : Bd FP.Core.b64 t (-34) (73 + k) := Bd_up (by rw [show (0 : Int) + -34 = -34 by omega, show (10 : Int) + 63 = 73 by omega] at tb; exact tb) (by omega)
    have ab := addB g64 sb tb' (by rw [em64]; omega) (by rw [em64]; omega)
    rw [daddD sb.1 tb'.1, if_pos (nanD (Nat.le_of_lt ab.1)), if_pos (nanD (Nat.le_of_lt ab.1)), ← Int32.ofInt_add, isucc]
    obtain ⟨r, c2, m2, z1, z2, z3, z4⟩ := ih (k + 1) f1 f2 (by omega) (by omega) (by omega) c1 m1 _ (W + B k) q4.1 (hM.km p2) gr1 (by rw [show (73 : Int) + ((k + 1 : Nat) : Int) = 73 + k + 1 by omega]; exact ab) (by omega) (by omega)
    exact ⟨r, c2, m2, z1, z2, q1.tr z3, p2.tr z4⟩
theorem q_mean (hF : FOK n F cv) (hC : CF c n F cv wv) (hM : MF m n F cv wv) {g : Nat} {A B : Nat → Int} (gr : GR c m g A B) (a1 : Int32) : Qr (f_xx_mean a1 c) (f_mm_mean a1 m) c m := by
  have hM0 := hM.km (m0k m)
  unfold f_xx_mean f_mm_mean
  simp only [c_isHolder hF hC, m_isHolder hF hM0, obind, b2i_0]
  by_cases h : 0 ≤ a1.toInt ∧ a1.toInt < n
  · simp only [decide_eq_true h, Bool.true_eq_false, not_false_eq_true, if_true]
    obtain ⟨i, hi, rfl⟩ := hold_of h
    have g8 := gr.1
    obtain ⟨r, c2, m2, z1, z2, z3, z4⟩ := mean_loop (wv := wv) hF hi g 0 eFu eFu (by omega) (by rw [eFu_eq]; omega) (by rw [eFu_eq]; omega) c (eU1 m 24 0 0) 0 0 hC hM0 (gr.fr Fr.rfl (m0k m)) ⟨by rw [fI64]; omega, .inl ⟨rfl, V_0⟩⟩ (by omega) (by omega)
    exact ⟨r, c2, m2, z1, z2, z3, (m0k m).tr z4⟩
  · simp only [decide_eq_false h, not_true_eq_false, if_false]
    exact Qr.of _ (Ok.ret ⟨rfl, Fr.rfl⟩) (Ok.ret ⟨rfl, m0k m⟩)
end
