section
variable {n : Nat} {F G : Nat → Nat → Int} {wv : Int32} {told : Bool} {set : Int32} {cv : Int} {c m : eW}
theorem u1fr {a b : eW} {p : Nat} {x : Int32} (h : Fr QS a b) : Fr QS (eU1 a 7 p x) (eU1 b 7 p x) := fun i hi => by
  refine ⟨?_, (h i hi).2⟩
  funext k
  by_cases z : i = 7 ∧ k = p
  · rw [z.1, z.2, u1s, u1s]
  · rw [u1n _ _ _ _ _ _ (by omega), (h i hi).1, u1n _ _ _ _ _ _ (by omega)]
theorem u1u1 {a : eW} {p : Nat} {x y : Int32} : Fr QS (eU1 a 7 p x) (eU1 (eU1 a 7 p y) 7 p x) := fun i hi => by
  refine ⟨?_, rfl⟩
  funext k
  by_cases z : i = 7 ∧ k = p
  · rw [z.1, z.2, u1s, u1s]
  · rw [u1n _ _ _ _ _ _ (by omega), u1n _ _ _ _ _ _ (by omega), u1n _ _ _ _ _ _ (by omega)]
theorem km1 {a b : eW} {i p : Nat} {x : Int32} (h : Km a b) : Km (eU1 a i p x) (eU1 b i p x) := fun j k h1 h2 => by
  refine ⟨?_, (h j k h1 h2).2⟩
  by_cases z : j = i ∧ k = p
  · rw [z.1, z.2, u1s, u1s]
  · rw [u1n _ _ _ _ _ _ (by omega), (h j k h1 h2).1, u1n _ _ _ _ _ _ (by omega)]
theorem km11 {a : eW} {i p : Nat} {x y : Int32} : Km (eU1 a i p x) (eU1 (eU1 a i p y) i p x) := fun j k h1 h2 => by
  refine ⟨?_, rfl⟩
  by_cases z : j = i ∧ k = p
  · rw [z.1, z.2, u1s, u1s]
  · rw [u1n _ _ _ _ _ _ (by omega), u1n _ _ _ _ _ _ (by omega), u1n _ _ _ _ _ _ (by omega)]
/-- the least TIMES -/
def LsT (P : Int → Prop) (r : Int) : Prop := 0 ≤ r ∧ r ≤ 401 ∧ (∀ z, 0 ≤ z → z < r → ¬ P z) ∧ (r < 401 → P r)
theorem LsT_uniq {P : Int → Prop} {r s : Int} (h : LsT P r) (k : LsT P s) : r = s := by
  rcases Int.lt_trichotomy r s with g | g | g
  · exact absurd (h.2.2.2 (by have := k.2.1; omega)) (k.2.2.1 r h.1 g)
  · exact g
  · exact absurd (k.2.2.2 (by have := h.2.1; omega)) (h.2.2.1 s k.1 g)
def PT (n : Nat) (F : Nat → Nat → Int) (wv : Int32) (cv : Int) (h : Nat) (z u t : Int) : Prop := ((100 * u : Int) : Rat) ≤ XT n F wv cv h z t
theorem wants_fin (hF : FOK n F cv) {h : Nat} (hh : h < n) {w : eW} {s : Int} (hs : 0 ≤ s ∧ s ≤ 400) (h2 : F h 0 = 2) (hC : CF w n (upf F h 4 s) cv wv) (hB : Fr QS c (eU1 w 7 (h * 10 + 4) (Int32.ofInt (F h 4)))) {P : Int → Prop} {r : Int} (hr : LsT P r) : Ok ((f_fi_put (Int32.ofInt (h : Nat)) (4 : Int32) (Int32.ofInt (F h 4)) w).bind fun w5 => (if (400 : Int32) < Int32.ofInt r then (some ((-1 : Int32), w5)) else (some (Int32.ofInt r, w5)))) fun p => Fr QS c p.2 ∧ ∃ r, p.1 = (if 400 < r then -1 else Int32.ofInt r) ∧ LsT P r := by
  have hF2 := FOK_upf hF (h := h) (k := 4) (t := s) (by omega) (HOK_4 (hF.hd hh) h2 hs.1 hs.2)
  rw [show (4 : Int32) = Int32.ofInt (4 : Nat) from rfl, c_put hF2 hC hh (by omega), obind]
  have r0 := hr.1
  have r1 := hr.2.1
  refine Ok.iff (e := 400 < r) (by rw [show (400 : Int32) = Int32.ofInt 400 from rfl, ilt (by omega) (by omega) (by omega) (by omega)]) (fun g => ?_) (fun g => ?_)
  · exact Ok.ret ⟨hB, r, by rw [if_pos g], hr⟩
  · exact Ok.ret ⟨hB, r, by rw [if_neg g], hr⟩
theorem wants_loop (hF : FOK n F cv) (hC0 : CF c n F cv wv) {h : Nat} (hh : h < n) (h2 : F h 0 = 2) {z u : Int} (z1 : 0 ≤ z) (z2 : z ≤ 9999999) (u1 : 1 ≤ u) (u2 : u ≤ 9999999) :
    ∀ (k i f : Nat) (lo hi : Int) (w : eW), hi - lo < 2 ^ k → i + k ≤ 31 → k < f → 0 ≤ lo → lo ≤ hi → hi ≤ 401 → (∀ t, 0 ≤ t → t < lo → ¬ PT n F wv cv h z u t) → (hi < 401 → PT n F wv cv h z u hi) → (∃ s, (0 ≤ s ∧ s ≤ 400) ∧ CF w n (upf F h 4 s) cv wv) → Fr QS c (eU1 w 7 (h * 10 + 4) (Int32.ofInt (F h 4))) → Ok (f_xx_wants_L52 f (Int32.ofInt (h : Nat)) (Int32.ofInt z) (Int32.ofInt u) (Int32.ofInt (F h 4)) (Int32.ofInt lo) (Int32.ofInt hi) (Int32.ofInt (i : Nat)) w) fun p => Fr QS c p.2 ∧ ∃ r, p.1 = (if 400 < r then -1 else Int32.ofInt r) ∧ LsT (PT n F wv cv h z u) r := by
  have hn := hF.1
  intro k
  induction k with
  | zero =>
    intro i f lo hi w h1 h2' h3 h4 h5 h6 h7 h8 hC hB
    obtain ⟨f, rfl⟩ := Nat.exists_eq_succ_of_ne_zero (show f ≠ 0 by omega)
    obtain ⟨s, hs, hC⟩ := hC
    have : hi = lo := by simp at h1; omega
    subst this
    unfold f_xx_wants_L52
    rw [if_neg (by rw [show (32 : Int32) = Int32.ofInt 32 from rfl, ile (by omega) (by omega) (by omega) (by omega)]; omega), if_pos (by rw [ile (by omega) (by omega) (by omega) (by omega)]; omega)]
    exact wants_fin hF hh hs h2 hC hB ⟨h4, h6, h7, h8⟩
  | succ k ih =>
    intro i f lo hi w h1 h2' h3 h4 h5 h6 h7 h8 hC hB
    obtain ⟨f, rfl⟩ := Nat.exists_eq_succ_of_ne_zero (show f ≠ 0 by omega)
    obtain ⟨s, hs, hC⟩ := hC
    unfold f_xx_wants_L52
    rw [if_neg (by rw [show (32 : Int32) = Int32.ofInt 32 from rfl, ile (by omega) (by omega) (by omega) (by omega)]; omega), ite_congr (propext (ile (by omega) (by omega) (by omega) (by omega))) (fun _ => rfl) (fun _ => rfl)]
    by_cases e : hi ≤ lo
    · rw [if_pos e]
      have : hi = lo := by omega
      subst this
      exact wants_fin hF hh hs h2 hC hB ⟨h4, h6, h7, h8⟩
    · rw [if_neg e, ihalf (by omega) (by omega) (by omega) (by omega), isucc, isucc']
      have hp : (2 : Int) ^ (k + 1) = 2 ^ k * 2 := Int.pow_succ 2 k
      have hF2 := FOK_upf hF (h := h) (k := 4) (t := s) (by omega) (HOK_4 (hF.hd hh) h2 hs.1 hs.2)
      have hF3 := FOK_upf hF (h := h) (k := 4) (t := (lo + hi) / 2) (by omega) (HOK_4 (hF.hd hh) h2 (by omega) (by omega))
      have hC3 := CF_upf hC (h := h) (k := 4) (by omega) ((lo + hi) / 2)
      rw [upf_upf] at hC3
      rw [show (4 : Int32) = Int32.ofInt (4 : Nat) from rfl, c_put hF2 hC hh (by omega), obind]
      refine Ok.bind (xx_pour hF3 hC3 z1 z2) ?_
      rintro w' ⟨q1, -, -, q2⟩
      rw [i2j (by omega) (by omega), jlit100, ← Int64.ofInt_mul, show (1 : Int64) = Int64.ofInt 1 from rfl, show (0 : Int32) = b2i false from rfl, fa_reaches hF3 (falls_b hF3 z1 z2) q2 hh (c := u * 100) (d := 1) (y := ((100 * u : Int) : Rat)) (by omega) (by omega) (by omega) (by omega) (by rw [Int.mul_comm u 100]; exact (Rat.mul_one _).symm) false, obind]
      dsimp only
      rw [show b2i false = (0 : Int32) from rfl]
      simp only [b2i_0]
      rw [show XX n (upf F h 4 ((lo + hi) / 2)) wv false 0 (100 * fallsI cv z) h = XT n F wv cv h z ((lo + hi) / 2) from rfl]
      have hB3 : Fr QS c (eU1 w' 7 (h * 10 + 4) (Int32.ofInt (F h 4))) := (hB.tr u1u1).tr (u1fr q1)
      by_cases g : PT n F wv cv h z u ((lo + hi) / 2)
      · have g2 := g
        unfold PT at g2
        have g3 : ((100 * u : Int) : Rat) < XT n F wv cv h z ((lo + hi) / 2) ∨ (XT n F wv cv h z ((lo + hi) / 2) = ((100 * u : Int) : Rat) ∧ True) := by
          by_cases y : XT n F wv cv h z ((lo + hi) / 2) = ((100 * u : Int) : Rat)
          · exact .inr ⟨y, trivial⟩
          · left; grind
        rw [decide_eq_true g3, if_neg (by simp)]
        exact ih (i + 1) f lo ((lo + hi) / 2) w' (by omega) (by omega) (by omega) h4 (by omega) (by omega) h7 (fun _ => g) ⟨_, by omega, q2.1⟩ hB3
      · have g2 := g
        unfold PT at g2
        rw [if_pos (decide_eq_false (by intro y; rcases y with y | y <;> grind))]
        refine ih (i + 1) f ((lo + hi) / 2 + 1) hi w' (by omega) (by omega) (by omega) (by omega) (by omega) (by omega) ?_ h8 ⟨_, by omega, q2.1⟩ hB3
        intro t ht ht2 hp
        have := XT_mono hF hC0 hh h2 z1 z2 ht (show t ≤ (lo + hi) / 2 by omega) (by omega)
        unfold PT at hp
        exact g2 (Rat.le_trans hp this)
theorem mwants_loop (hF : FOK n F cv) {h : Nat} (hh : h < n) (h2 : F h 0 = 2) {z u : Int} (z1 : 0 ≤ z) (z2 : z ≤ 9999999) (u1 : 1 ≤ u) (u2 : u ≤ 9999999) :
    ∀ (d t f : Nat), t + d = 401 → d + 1 < f → ∀ w : eW, (∀ s, 0 ≤ s → s < (t : Int) → ¬ PT n F wv cv h z u s) → (∃ s, (0 ≤ s ∧ s ≤ 400) ∧ MF w n (upf F h 4 s) cv wv) → Km m (eU1 w 4 h (Int32.ofInt (F h 4))) → Ok (f_mm_wants_L47 f (Int32.ofInt (h : Nat)) (Int32.ofInt z) (Int32.ofInt u) (Int32.ofInt (F h 4)) (-1) (Int32.ofInt (t : Nat)) w) fun p => Km m p.2 ∧ ∃ r, p.1 = (if 400 < r then -1 else Int32.ofInt r) ∧ LsT (PT n F wv cv h z u) r := by
  have hn := hF.1
  intro d
  induction d with
  | zero =>
    intro t f ht hf w hl hM hK
    obtain ⟨f, rfl⟩ := Nat.exists_eq_succ_of_ne_zero (show f ≠ 0 by omega)
    unfold f_mm_wants_L47
    rw [if_pos (by rw [show (400 : Int32) = Int32.ofInt 400 from rfl, ilt (by omega) (by omega) (by omega) (by omega)]; omega), eChk_of (by omega) (by omega) (by omega), icl (by omega) (by omega), nat_i]
    exact Ok.ret ⟨hK, 401, by rw [if_pos (by omega)], by omega, by omega, fun s s0 s1 => hl s s0 (by omega), by omega⟩
  | succ d ih =>
    intro t f ht hf w hl hM hK
    obtain ⟨f, rfl⟩ := Nat.exists_eq_succ_of_ne_zero (show f ≠ 0 by omega)
    obtain ⟨s, hs, hM⟩ := hM
    unfold f_mm_wants_L47
    have hF3 := FOK_upf hF (h := h) (k := 4) (t := (t : Int)) (by omega) (HOK_4 (hF.hd hh) h2 (by omega) (by omega))
    have hM3 := MF_upf hM (h := h) (k := 4) (by omega) (t : Int)
    rw [upf_upf] at hM3
    rw [if_neg (by rw [show (400 : Int32) = Int32.ofInt 400 from rfl, ilt (by omega) (by omega) (by omega) (by omega)]; omega), if_neg (by decide), eChk_of (by omega) (by omega) (by omega), icl (by omega) (by omega), nat_i]
    refine Ok.bind (m_hasUnits hF3 hM3 hh z1 z2 u1 u2) ?_
    rintro ⟨r, w'⟩ ⟨q1, q2⟩
    dsimp only at q1 q2 ⊢
    rw [q1, show XA n (upf F h 4 (t : Int)) wv cv h z = XT n F wv cv h z t from rfl]
    simp only [b2i_0]
    have hK3 : Km m (eU1 w' 4 h (Int32.ofInt (F h 4))) := (hK.tr km11).tr (km1 q2)
    by_cases g : ((100 * u : Int) : Rat) ≤ XT n F wv cv h z t
    · rw [if_neg (fun y => by rw [decide_eq_true g] at y; cases y)]
      obtain ⟨f, rfl⟩ := Nat.exists_eq_succ_of_ne_zero (show f ≠ 0 by omega)
      have fin : Ok (eChk (Int32.ofInt (h : Nat)) 24 (some (Int32.ofInt (t : Nat), (eU1 w' 4 (Int32.toNatClampNeg (Int32.ofInt (h : Nat))) (Int32.ofInt (F h 4)))))) fun p => Km m p.2 ∧ ∃ r, p.1 = (if 400 < r then -1 else Int32.ofInt r) ∧ LsT (PT n F wv cv h z u) r := by
        rw [eChk_of (by omega) (by omega) (by omega), icl (by omega) (by omega), nat_i]
        exact Ok.ret ⟨hK3, t, by rw [if_neg (by omega)], by omega, by omega, hl, fun _ => g⟩
      unfold f_mm_wants_L47
      refine Ok.br (fun _ => fin) (fun _ => ?_)
      rw [if_pos (by rw [show (0 : Int32) = Int32.ofInt 0 from rfl, ile (by omega) (by omega) (by omega) (by omega)]; omega)]
      exact fin
    · rw [if_pos (decide_eq_false g), isucc]
      refine ih (t + 1) f (by omega) (by omega) w' (fun s s0 s1 => ?_) ⟨_, by omega, hM3.km q2⟩ hK3
      by_cases e : s = t
      · rw [e]; exact g
      · exact hl s s0 (by omega)
theorem c_isClassA (hF : FOK n F cv) (hC : CF c n F cv wv) (a : Int32) : f_fi_isClass a c = some (b2i (decide ((0 ≤ a.toInt ∧ a.toInt < n) ∧ F a.toInt.toNat 0 = 2)), c) := by
  by_cases h : 0 ≤ a.toInt ∧ a.toInt < n
  · obtain ⟨i, hi, rfl⟩ := hold_of h
    have hn := hF.1
    rw [toI_ofI (by omega) (by omega)] at *
    rw [c_isClass hF hC hi, nat_i]
    congr 2
    simp [hi]
  · have r := irange a
    have hn := hF.1
    unfold f_fi_isClass
    rw [decide_eq_false (fun z => h z.1), hC.1, iof a]
    by_cases g : a.toInt < 0
    · rw [if_pos (by rw [show (0 : Int32) = Int32.ofInt 0 from rfl, ilt (by omega) (by omega) (by omega) (by omega)]; omega)]; rfl
    · rw [if_neg (by rw [show (0 : Int32) = Int32.ofInt 0 from rfl, ilt (by omega) (by omega) (by omega) (by omega)]; omega), if_pos (by rw [ile (by omega) (by omega) (by omega) (by omega)]; omega)]; rfl
theorem m_isClassA (hF : FOK n F cv) (hM : MF m n F cv wv) (a : Int32) : f_mm_isClass a m = some (b2i (decide ((0 ≤ a.toInt ∧ a.toInt < n) ∧ F a.toInt.toNat 0 = 2)), m) := by
  by_cases h : 0 ≤ a.toInt ∧ a.toInt < n
  · obtain ⟨i, hi, rfl⟩ := hold_of h
    have hn := hF.1
    rw [toI_ofI (by omega) (by omega)] at *
    rw [m_isClass hF hM hi, nat_i]
    congr 2
    simp [hi]
  · unfold f_mm_isClass
    rw [m_isHolder hF hM, obind]
    dsimp only
    simp only [b2i_0]
    rw [if_pos (decide_eq_false h), decide_eq_false (fun z : (0 ≤ a.toInt ∧ a.toInt < n) ∧ F a.toInt.toNat 0 = 2 => h z.1)]
    rfl
theorem q_wants (hF : FOK n F cv) (hC : CF c n F cv wv) (hM : MF m n F cv wv) (a1 a2 a3 : Int32) : Qr (f_xx_wants a1 a2 a3 c) (f_mm_wants a1 a2 a3 m) c m := by
  have hn := hF.1
  have hM0 := hM.km (m0k m)
  unfold f_xx_wants f_mm_wants
  simp only [x_isAsked hF hC, c_isClassA hF hC, m_isClassA hF hM0, m_isAmount, x_isUnits, m_in, obind, b2i_0]
  rw [show (1 : Int32).toInt = 1 from rfl, show (9999999 : Int32).toInt = 9999999 from rfl]
  by_cases h : 0 ≤ a1.toInt ∧ a1.toInt < n
  · by_cases g : F a1.toInt.toNat 0 = 2
    · simp only [decide_eq_true (And.intro h g), Bool.true_eq_false, if_false]
      by_cases k : 0 ≤ a2.toInt ∧ a2.toInt ≤ 9999999
      · simp only [decide_eq_true (And.intro h k), decide_eq_true k, Bool.true_eq_false, if_false]
        by_cases u : 1 ≤ a3.toInt ∧ a3.toInt ≤ 9999999
        · simp only [decide_eq_true u, Bool.true_eq_false, not_false_eq_true, if_true]
          obtain ⟨i, hi, rfl⟩ := hold_of h
          obtain ⟨z, z1, z2, rfl⟩ := amt_of k
          obtain ⟨v, v1, v2, rfl⟩ := amt_of u
          rw [toI_ofI (a := (i : Int)) (by omega) (by omega), nat_i] at g
          have fi := hF.hd hi
          have hm := (hM0.2.2.2 i hi).2.2.2 g 4 (by omega) (by omega)
          rw [show (4 : Int32) = Int32.ofInt (4 : Nat) from rfl, c_fact hF hC hi (by omega), obind]
          dsimp only
          rw [eChk_of (by omega) (by omega) (by omega), icl (by omega) (by omega), nat_i, hm]
          obtain ⟨⟨r1, c1⟩, e1, f1, r, rfl, lr⟩ := wants_loop hF hC hi g z1 z2 v1 v2 9 0 eFu 0 401 c (by decide) (by omega) (by rw [eFu_eq]; omega) (by omega) (by omega) (by omega) (by omega) (by omega) ⟨F i 4, by omega, by rw [upf_id]; exact hC⟩ (fun j hj => ⟨by
            funext k
            by_cases y : j = 7 ∧ k = i * 10 + 4
            · rw [y.1, y.2, u1s, hC.2.2.2 i 4 hi (by omega)]
            · rw [u1n _ _ _ _ _ _ (by omega)], rfl⟩)
          have e1' : f_xx_wants_L52 eFu (Int32.ofInt (i : Nat)) (Int32.ofInt z) (Int32.ofInt v) (Int32.ofInt (F i 4)) 0 401 0 c = _ := e1
          rw [e1']
          refine Qr.of _ (Ok.ret ⟨rfl, f1⟩) ?_
          refine Ok.imp (mwants_loop (m := eU1 m 24 0 0) hF hi g z1 z2 v1 v2 401 0 eFu (by omega) (by rw [eFu_eq]; omega) (eU1 m 24 0 0) (by omega) ⟨F i 4, by omega, by rw [upf_id]; exact hM0⟩ (fun j k h1 h2 => ⟨by
            by_cases y : j = 4 ∧ k = i
            · rw [y.1, y.2, u1s, hm]
            · rw [u1n _ _ _ _ _ _ (by omega)], rfl⟩)) ?_
          rintro ⟨r2, m2⟩ ⟨q1, s, q2, q3⟩
          have := LsT_uniq q3 lr
          subst this
          exact ⟨q2, (m0k m).tr q1⟩
        · simp only [decide_eq_false u, not_true_eq_false, if_false]
          exact Qr.of _ (Ok.ret ⟨rfl, Fr.rfl⟩) (Ok.ret ⟨rfl, m0k m⟩)
      · simp only [decide_eq_false (fun z : (0 ≤ a1.toInt ∧ a1.toInt < n) ∧ (0 ≤ a2.toInt ∧ a2.toInt ≤ 9999999) => k z.2), decide_eq_false k, if_true]
        exact Qr.of _ (Ok.ret ⟨rfl, Fr.rfl⟩) (Ok.ret ⟨rfl, m0k m⟩)
    · simp only [decide_eq_false (fun z : (0 ≤ a1.toInt ∧ a1.toInt < n) ∧ F a1.toInt.toNat 0 = 2 => g z.2), if_true]
      refine Qr.of (-2) (Ok.br (fun _ => Ok.ret ⟨rfl, Fr.rfl⟩) (fun _ => Ok.ret ⟨rfl, Fr.rfl⟩)) (Ok.ret ⟨rfl, m0k m⟩)
  · simp only [decide_eq_false (fun z : (0 ≤ a1.toInt ∧ a1.toInt < n) ∧ F a1.toInt.toNat 0 = 2 => h z.1), decide_eq_false (fun z : (0 ≤ a1.toInt ∧ a1.toInt < n) ∧ (0 ≤ a2.toInt ∧ a2.toInt ≤ 9999999) => h z.1), if_true]
    exact Qr.of _ (Ok.ret ⟨rfl, Fr.rfl⟩) (Ok.ret ⟨rfl, m0k m⟩)
end
