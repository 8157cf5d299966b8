section
variable {n : Nat} {F : Nat → Nat → Int} {wv : Int32} {told : Bool} {set : Int32} {cv : Int} {c m : eW}
/-! flat -/
theorem num_den {x y : Rat} : (x.num = y.num ∧ ((x.den : Nat) : Int) = ((y.den : Nat) : Int)) ↔ x = y := by
  constructor
  · rintro ⟨a, b⟩
    exact Rat.ext a (by omega)
  · rintro rfl; exact ⟨rfl, rfl⟩
theorem MP.nd {falls : Int} {w : eW} (h : MP n F cv wv told set falls w) {k : Nat} (hk : k < n) : 0 ≤ (XX n F wv told set falls k).num ∧ (XX n F wv told set falls k).num < 9223372036854775807 ∧ 1 ≤ (((XX n F wv told set falls k).den : Nat) : Int) ∧ (((XX n F wv told set falls k).den : Nat) : Int) ≤ 15000000000 := by
  obtain ⟨b, x, e1, e2, e3, e5⟩ := h.ab (by omega)
  obtain ⟨y1, y2, y3, y4⟩ := e5 k hk
  have q := q_low y3 (show 0 < b by omega) y2
  have g1 := q.2.2.1
  refine ⟨?_, ?_, ?_, ?_⟩
  · rw [← q.1]; exact Int.ediv_nonneg y3 (by omega)
  · rw [← q.1]; exact Int.lt_of_le_of_lt (Int.ediv_le_self _ y3) y4
  · have := (XX n F wv told set falls k).den_pos; omega
  · rw [← q.2.1]; exact Int.le_trans (Int.ediv_le_self _ (by omega)) e3
def Asked (y : Rat) (w : eW) : Prop := w.2 24 43 = Int64.ofInt y.num ∧ w.2 24 44 = Int64.ofInt ((y.den : Nat) : Int)
abbrev NDb (y : Rat) : Prop := 0 ≤ y.num ∧ y.num < 9223372036854775807 ∧ 1 ≤ ((y.den : Nat) : Int) ∧ ((y.den : Nat) : Int) ≤ 15000000000
theorem m_asksFor (hF : FOK n F cv) (hM : MF m n F cv wv) {h : Nat} (hh : h < n) {a : Int} (h1 : 0 ≤ a) (h2 : a ≤ 9999999) : Ok (f_mm_asksFor (Int32.ofInt (h : Nat)) (Int32.ofInt a) m) fun m' => Km m m' ∧ Asked (XA n F wv cv h a) m' ∧ NDb (XA n F wv cv h a) := by
  unfold f_mm_asksFor
  refine Ok.bind (m_layBy hF hM h1 h2) ?_
  rintro m1 ⟨k1, -, -, -, mp⟩
  have e0 := m_lowest hF.1 mp hh false
  rw [show (0 : Int32) = b2i false from rfl, e0, obind]
  dsimp only
  have mp2 : ∀ x, MP n F cv wv false 0 (100 * fallsI cv a) (eU2 m1 24 43 x) := by
    intro x
    refine ⟨mp.1.km (Km.rfl.u2 (by omega)), fun hn => ?_⟩
    obtain ⟨i1, ⟨b, y, e1, e2, e3, e5⟩, i3⟩ := mp.2 hn
    refine ⟨i1, ⟨b, y, by rw [u2n _ _ _ _ _ _ (by omega)]; exact e1, e2, e3, fun k hk => ?_⟩, fun ht => ?_⟩
    · rw [u2n _ _ _ _ _ _ (by omega)]; exact e5 k hk
    · rw [u2n _ _ _ _ _ _ (by omega), u2n _ _ _ _ _ _ (by omega)]; exact i3 ht
  have e1 := m_lowest hF.1 (mp2 (if false = true then Int64.ofInt (((XX n F wv false 0 (100 * fallsI cv a) h).den : Nat) : Int) else Int64.ofInt (XX n F wv false 0 (100 * fallsI cv a) h).num)) hh true
  rw [show (1 : Int32) = b2i true from rfl, e1, obind]
  refine Ok.ret ⟨(k1.tr (Km.rfl.u2 (by omega))).u2 (by omega), ⟨?_, ?_⟩, mp.nd hh⟩
  · rw [u2n _ _ _ _ _ _ (by omega), u2s]; rfl
  · rw [u2s]; rfl
theorem m_isLike (hF : FOK n F cv) (hM : MF m n F cv wv) {h : Nat} (hh : h < n) {a : Int} (h1 : 0 ≤ a) (h2 : a ≤ 9999999) {y : Rat} (hy : Asked y m) (hb : NDb y) : Ok (f_mm_isLike (Int32.ofInt (h : Nat)) (Int32.ofInt a) m) fun p => p.1 = b2i (decide (XA n F wv cv h a = y)) ∧ Km m p.2 ∧ Asked y p.2 := by
  unfold f_mm_isLike
  refine Ok.bind (m_layBy hF hM h1 h2) ?_
  rintro m1 ⟨k1, -, s1, s2, mp⟩
  have e0 := m_lowest hF.1 mp hh false
  have e1 := m_lowest hF.1 mp hh true
  have hy1 : Asked y m1 := ⟨by rw [s1]; exact hy.1, by rw [s2]; exact hy.2⟩
  have nd : NDb (XA n F wv cv h a) := mp.nd hh
  rw [show (0 : Int32) = b2i false from rfl, e0, obind]
  dsimp only
  rw [show (1 : Int32) = b2i true from rfl, e1, hy1.1, obind]
  dsimp only
  rw [hy1.2]
  rw [show XX n F wv false 0 (100 * fallsI cv a) h = XA n F wv cv h a from rfl]
  have k := num_den (x := XA n F wv cv h a) (y := y)
  simp only [lg_cmp_eq, show b2i false = (0 : Int32) from rfl, if_true, Bool.false_eq_true, if_false]
  refine Ok.iff (not_congr (jeq (by omega) (by omega) (by omega) (by omega))) (fun g => ?_) (fun g => ?_)
  · rw [decide_eq_false (fun z => g (k.mpr z).1)]
    exact Ok.ret ⟨rfl, k1, hy1⟩
  · refine Ok.iff (not_congr (jeq (by omega) (by omega) (by omega) (by omega))) (fun g2 => ?_) (fun g2 => ?_)
    · rw [decide_eq_false (fun z => g2 (k.mpr z).2)]
      exact Ok.ret ⟨rfl, k1, hy1⟩
    · rw [decide_eq_true (k.mp ⟨by omega, by omega⟩)]
      exact Ok.ret ⟨rfl, k1, hy1⟩
theorem ihalf' {a b : Int} (h1 : 0 ≤ a + b) (h3 : a + b ≤ 30000000) : (Int32.ofInt a + Int32.ofInt b) / (2 : Int32) = Int32.ofInt ((a + b) / 2) := by
  rw [← Int32.ofInt_add, show (2 : Int32) = Int32.ofInt 2 from rfl, idiv (by omega) (by omega) (by omega) (by omega)]
theorem flat_dn (hF : FOK n F cv) {h : Nat} (hh : h < n) {y : Rat} (hb : NDb y) :
    ∀ (k f : Nat) (l u : Int) (w : eW), l - u - 1 < 2 ^ k → k < f → -1 ≤ u → u < l → l ≤ 9999999 → XA n F wv cv h l = y → (u = -1 ∨ XA n F wv cv h u ≠ y) → MF w n F cv wv → Asked y w → Ok (f_mm_flat_L54 f (Int32.ofInt (h : Nat)) (Int32.ofInt l) (Int32.ofInt u) w) fun p => Km w p.2 ∧ ∃ r, p.1 = Int32.ofInt r ∧ 0 ≤ r ∧ r ≤ 9999999 ∧ XA n F wv cv h r = y ∧ (r = 0 ∨ XA n F wv cv h (r - 1) ≠ y) := by
  intro k
  induction k with
  | zero =>
    intro f l u w h1 h2 h3 h4 h5 h6 h7 hM ha
    obtain ⟨f, rfl⟩ := Nat.exists_eq_succ_of_ne_zero (show f ≠ 0 by omega)
    have : u = l - 1 := by simp at h1; omega
    subst this
    unfold f_mm_flat_L54
    rw [← Int32.ofInt_sub, ← Int32.ofInt_sub, show (1 : Int32) = Int32.ofInt 1 from rfl, if_neg (by rw [ilt (by omega) (by omega) (by omega) (by omega)]; omega), if_pos (by rw [ile (by omega) (by omega) (by omega) (by omega)]; omega)]
    exact Ok.ret ⟨Km.rfl, l, rfl, by omega, h5, h6, by rcases h7 with h7 | h7; exact .inl (by omega); exact .inr h7⟩
  | succ k ih =>
    intro f l u w h1 h2 h3 h4 h5 h6 h7 hM ha
    obtain ⟨f, rfl⟩ := Nat.exists_eq_succ_of_ne_zero (show f ≠ 0 by omega)
    unfold f_mm_flat_L54
    have hp : (2 : Int) ^ (k + 1) = 2 ^ k * 2 := Int.pow_succ 2 k
    rw [← Int32.ofInt_sub, ← Int32.ofInt_sub, show (1 : Int32) = Int32.ofInt 1 from rfl, ite_congr (propext (ilt (by omega) (by omega) (by omega) (by omega))) (fun _ => rfl) (fun _ => rfl)]
    by_cases e : 1 < l - u
    · rw [if_pos e, ihalf' (by omega) (by omega), if_neg (by rw [show (0 : Int32) = Int32.ofInt 0 from rfl, ilt (by omega) (by omega) (by omega) (by omega)]; omega)]
      refine Ok.bind (m_isLike hF hM hh (show 0 ≤ (l + u) / 2 by omega) (by omega) ha hb) ?_
      rintro ⟨r, w'⟩ ⟨q1, q2, q3⟩
      dsimp only at q1 q2 q3 ⊢
      rw [q1]
      simp only [b2i_0]
      by_cases g : XA n F wv cv h ((l + u) / 2) = y
      · rw [if_neg (by simp [g])]
        refine Ok.imp (ih f ((l + u) / 2) u w' (by omega) (by omega) h3 (by omega) (by omega) g h7 (hM.km q2) q3) ?_
        rintro p ⟨r1, r2⟩
        exact ⟨q2.tr r1, r2⟩
      · rw [if_pos (decide_eq_false g)]
        refine Ok.imp (ih f l ((l + u) / 2) w' (by omega) (by omega) (by omega) (by omega) h5 h6 (.inr g) (hM.km q2) q3) ?_
        rintro p ⟨r1, r2⟩
        exact ⟨q2.tr r1, r2⟩
    · have : u = l - 1 := by omega
      subst this
      rw [if_neg e, if_pos (by rw [ile (by omega) (by omega) (by omega) (by omega)]; omega)]
      exact Ok.ret ⟨Km.rfl, l, rfl, by omega, h5, h6, by rcases h7 with h7 | h7; exact .inl (by omega); exact .inr h7⟩
theorem flat_up (hF : FOK n F cv) {h : Nat} (hh : h < n) {y : Rat} (hb : NDb y) :
    ∀ (k f : Nat) (l u : Int) (w : eW), u - l - 1 < 2 ^ k → k < f → 0 ≤ l → l < u → u ≤ 10000000 → XA n F wv cv h l = y → (u = 10000000 ∨ XA n F wv cv h u ≠ y) → MF w n F cv wv → Asked y w → Ok (f_mm_flat_L54 f (Int32.ofInt (h : Nat)) (Int32.ofInt l) (Int32.ofInt u) w) fun p => Km w p.2 ∧ ∃ r, p.1 = Int32.ofInt r ∧ 0 ≤ r ∧ r ≤ 9999999 ∧ XA n F wv cv h r = y ∧ (r = 9999999 ∨ XA n F wv cv h (r + 1) ≠ y) := by
  intro k
  induction k with
  | zero =>
    intro f l u w h1 h2 h3 h4 h5 h6 h7 hM ha
    obtain ⟨f, rfl⟩ := Nat.exists_eq_succ_of_ne_zero (show f ≠ 0 by omega)
    have : u = l + 1 := by simp at h1; omega
    subst this
    unfold f_mm_flat_L54
    rw [← Int32.ofInt_sub, ← Int32.ofInt_sub, show (1 : Int32) = Int32.ofInt 1 from rfl, if_neg (by rw [ilt (by omega) (by omega) (by omega) (by omega)]; omega), if_pos (by rw [ile (by omega) (by omega) (by omega) (by omega)]; omega)]
    exact Ok.ret ⟨Km.rfl, l, rfl, by omega, by omega, h6, by rcases h7 with h7 | h7; exact .inl (by omega); exact .inr h7⟩
  | succ k ih =>
    intro f l u w h1 h2 h3 h4 h5 h6 h7 hM ha
    obtain ⟨f, rfl⟩ := Nat.exists_eq_succ_of_ne_zero (show f ≠ 0 by omega)
    unfold f_mm_flat_L54
    have hp : (2 : Int) ^ (k + 1) = 2 ^ k * 2 := Int.pow_succ 2 k
    rw [← Int32.ofInt_sub, ← Int32.ofInt_sub, show (1 : Int32) = Int32.ofInt 1 from rfl, if_neg (by rw [ilt (by omega) (by omega) (by omega) (by omega)]; omega), ite_congr (propext (ile (by omega) (by omega) (by omega) (by omega))) (fun _ => rfl) (fun _ => rfl)]
    by_cases e : u - l ≤ 1
    · have : u = l + 1 := by omega
      subst this
      rw [if_pos e]
      exact Ok.ret ⟨Km.rfl, l, rfl, by omega, by omega, h6, by rcases h7 with h7 | h7; exact .inl (by omega); exact .inr h7⟩
    · rw [if_neg e, ihalf' (by omega) (by omega), if_neg (by rw [show (0 : Int32) = Int32.ofInt 0 from rfl, ilt (by omega) (by omega) (by omega) (by omega)]; omega)]
      refine Ok.bind (m_isLike hF hM hh (show 0 ≤ (l + u) / 2 by omega) (by omega) ha hb) ?_
      rintro ⟨r, w'⟩ ⟨q1, q2, q3⟩
      dsimp only at q1 q2 q3 ⊢
      rw [q1]
      simp only [b2i_0]
      by_cases g : XA n F wv cv h ((l + u) / 2) = y
      · rw [if_neg (by simp [g])]
        refine Ok.imp (ih f ((l + u) / 2) u w' (by omega) (by omega) (by omega) (by omega) h5 g h7 (hM.km q2) q3) ?_
        rintro p ⟨r1, r2⟩
        exact ⟨q2.tr r1, r2⟩
      · rw [if_pos (decide_eq_false g)]
        refine Ok.imp (ih f l ((l + u) / 2) w' (by omega) (by omega) h3 (by omega) (by omega) h6 (.inr g) (hM.km q2) q3) ?_
        rintro p ⟨r1, r2⟩
        exact ⟨q2.tr r1, r2⟩
theorem q_flat (hF : FOK n F cv) (hC : CF c n F cv wv) (hM : MF m n F cv wv) (a1 a2 a3 : Int32) : Qr (f_xx_flat a1 a2 a3 c) (f_mm_flat a1 a2 a3 m) c m := by
  have hM0 := hM.km (m0k m)
  unfold f_xx_flat f_mm_flat
  rw [x_isAsked hF hC, obind, m_isHolder hF hM0, obind]
  dsimp only
  simp only [b2i_0]
  by_cases h : 0 ≤ a1.toInt ∧ a1.toInt < n
  · by_cases k : 0 ≤ a2.toInt ∧ a2.toInt ≤ 9999999
    · rw [if_neg (by simp [h, k]), if_neg (by simp [h]), x_isAB, obind, m_isAmount, obind]
      dsimp only
      simp only [b2i_0]
      rw [if_neg (by simp [k] : ¬ (decide (0 ≤ a2.toInt ∧ a2.toInt ≤ 9999999) = false)), m_in01, obind]
      dsimp only
      simp only [b2i_0]
      by_cases j : a3 = 0 ∨ a3 = 1
      · rw [if_pos (by simp [j]), if_pos (by simp [j])]
        obtain ⟨h1, hh, rfl⟩ := hold_of h
        obtain ⟨z, z1, z2, rfl⟩ := amt_of k
        obtain ⟨c', e1, q1, -, -, q4⟩ := xx_pour hF hC z1 z2
        rw [e1, obind]
        obtain ⟨b, x, e2, e3, e4, e5, e6⟩ := q4.ab hF (falls_b hF z1 z2)
        obtain ⟨y1, y2, y3, y4, y5, y6⟩ := e6 h1 hh
        rw [y2, obind]
        dsimp only
        rw [e2]
        obtain ⟨m1, d1, k1, as, nb⟩ := m_asksFor hF hM0 hh z1 z2
        rw [d1, obind]
        have y3' : (x h1 : Rat) = XA n F wv cv h1 z * (b : Rat) := y3
        have hM1 := hM0.km k1
        rcases j with rfl | rfl
        · rw [if_neg (fun z => z rfl), if_neg (fun z => z rfl), show (0 : Int32) = b2i false from rfl]
          obtain ⟨⟨r0, c''⟩, f1, f2, r, rfl, lr⟩ := x_first hF q4.1 hh y4 (by omega) (show 0 < b by omega) (by omega) y3' false
          rw [f1, obind]
          refine Qr.of (Int32.ofInt r) (Ok.ret ⟨rfl, q1.tr f2⟩) ?_
          refine Ok.imp (flat_dn hF hh nb 24 eFu z (-1) m1 (by omega) (by rw [eFu_eq]; omega) (by omega) (by omega) z2 rfl (.inl rfl) hM1 as) ?_
          rintro ⟨s0, m2⟩ ⟨r1, s, s1, s2, s3, s4, s5⟩
          refine ⟨?_, ((m0k m).tr k1).tr r1⟩
          dsimp only at s1 ⊢
          rw [s1]
          congr 1
          refine Lst_uniq (P := PA n F wv cv h1 (XA n F wv cv h1 z) false) ⟨s2, by omega, fun t t1 t2 hp => ?_, fun _ => PA_le.mpr (by rw [s4]; exact Rat.le_refl)⟩ lr
          have p1 := PA_le.mp hp
          have p2 := XA_mono hF hC hh t1 (show t ≤ s - 1 by omega) (by omega)
          have p3 := XA_mono hF hC hh (show 0 ≤ s - 1 by omega) (show s - 1 ≤ s by omega) s3
          rcases s5 with s5 | s5
          · omega
          · apply s5; grind
        · rw [if_pos (by decide), if_pos (by decide), show (1 : Int32) = b2i true from rfl]
          obtain ⟨⟨r0, c''⟩, f1, f2, r, rfl, lr⟩ := x_first hF q4.1 hh y4 (by omega) (show 0 < b by omega) (by omega) y3' true
          rw [f1, obind]
          refine Qr.of (Int32.ofInt (r - 1)) (Ok.ret ⟨by dsimp only; rw [show b2i true = Int32.ofInt 1 from rfl, ← Int32.ofInt_sub], q1.tr f2⟩) ?_
          refine Ok.imp (flat_up hF hh nb 24 eFu z 10000000 m1 (by omega) (by rw [eFu_eq]; omega) (by omega) (by omega) (by omega) rfl (.inl rfl) hM1 as) ?_
          rintro ⟨s0, m2⟩ ⟨r1, s, s1, s2, s3, s4, s5⟩
          refine ⟨?_, ((m0k m).tr k1).tr r1⟩
          dsimp only at s1 ⊢
          rw [s1]
          congr 1
          have : s + 1 = r := by
            refine Lst_uniq (P := PA n F wv cv h1 (XA n F wv cv h1 z) true) ⟨by omega, by omega, fun t t1 t2 hp => ?_, fun t1 => PA_lt.mpr ?_⟩ lr
            · have p1 := PA_lt.mp hp
              have p2 := XA_mono hF hC hh t1 (show t ≤ s by omega) (by omega)
              grind
            · have p3 := XA_mono hF hC hh s2 (show s ≤ s + 1 by omega) (by omega)
              rcases s5 with s5 | s5
              · omega
              · grind
          omega
      · rw [if_neg (by simpa using j), if_neg (by simpa using j)]
        exact Qr.of _ (Ok.ret ⟨rfl, Fr.rfl⟩) (Ok.ret ⟨rfl, m0k m⟩)
    · rw [if_pos (decide_eq_false fun z => k z.2), if_neg (by simp [h]), m_isAmount, obind]
      dsimp only
      simp only [b2i_0]
      rw [if_pos (by simpa using k)]
      exact Qr.of _ (Ok.ret ⟨rfl, Fr.rfl⟩) (Ok.ret ⟨rfl, m0k m⟩)
  · rw [if_pos (decide_eq_false fun z => h z.1), if_pos (by simpa using h)]
    exact Qr.of _ (Ok.ret ⟨rfl, Fr.rfl⟩) (Ok.ret ⟨rfl, m0k m⟩)
end
