section
variable {c m : eW} {L : Nat}
theorem Tok_fin {x : Nat} (t : Tp c m L x) (e : c.1 1 3 = m.1 24 20) (v : Nat) (v4 : v ≤ 4) (h1 : v = 1 → WR (c.2 1 6) (m.1 24 23) (m.1 24 24)) (h2 : v = 2 → ∃ z : Int, 0 ≤ z ∧ z ≤ 9999 ∧ c.1 1 5 = Int32.ofInt z ∧ m.1 24 23 = Int32.ofInt z) : Tok (eU1 c 1 4 (Int32.ofInt (v : Nat))) (eU1 m 24 22 (Int32.ofInt (v : Nat))) L x ∧ Cs c (eU1 c 1 4 (Int32.ofInt (v : Nat))) ∧ Mg m (eU1 m 24 22 (Int32.ofInt (v : Nat))) := by
  have t' := t
  obtain ⟨t1, t2, t3, t4, t5, t6, t7⟩ := t'
  refine ⟨⟨t.go (Cs.rfl.u (by omega)) (Mg.rfl.u (by omega)) t2 (by rw [u1n _ _ _ _ _ _ (by omega)]; exact t5) (by rw [u1n _ _ _ _ _ _ (by omega)]; exact t6), by rw [u1n _ _ _ _ _ _ (by omega), u1n _ _ _ _ _ _ (by omega), e], v, v4, by rw [u1s], by rw [u1s], fun z => ?_, fun z => ?_⟩, Cs.rfl.u (by omega), Mg.rfl.u (by omega)⟩
  · rw [u1n _ _ _ _ _ _ (by omega), u1n _ _ _ _ _ _ (by omega)]; exact h1 z
  · rw [u1n _ _ _ _ _ _ (by omega), u1n _ _ _ _ _ _ (by omega)]; exact h2 z
theorem pow10 {n : Nat} (h : n ≤ 3) : (10 : Int) ^ n ≤ 1000 ∧ 1 ≤ (10 : Int) ^ n := by
  have : n = 0 ∨ n = 1 ∨ n = 2 ∨ n = 3 := by omega
  rcases this with z | z | z | z <;> subst z <;> decide
theorem pow4 {n : Nat} (h : n ≤ 4) : (10 : Int) ^ n ≤ 10000 := by
  have : n = 0 ∨ n = 1 ∨ n = 2 ∨ n = 3 ∨ n = 4 := by omega
  rcases this with z | z | z | z | z <;> subst z <;> decide
theorem num_J {x st : Nat} (t : Tp c m L x) (sx : st ≤ x) (e3 : c.1 1 3 = Int32.ofInt (st : Nat)) : f_ta_scanNumber_J68 c = some (eU1 c 1 4 (Int32.ofInt ((if x - st ≤ 4 ∧ ¬ (x < L ∧ 97 ≤ (m.1 11 x).toInt ∧ (m.1 11 x).toInt ≤ 122) then 2 else 4 : Nat) : Int))) := by
  obtain ⟨t1, t2, t3, t4, t5, t6, t7⟩ := t
  obtain ⟨q1, q2, q3, q4⟩ := cmp7 (q := 4) sx (show x ≤ 700 by omega) (by omega)
  unfold f_ta_scanNumber_J68
  rw [t3, t5, e3, show (4 : Int32) = Int32.ofInt ((4 : Nat) : Int) from rfl]
  by_cases z : x < L
  · have rg := (t7 x z).rng (u := 97) (v := 122) (by omega) (by omega)
    rw [if_neg (by rw [ile (by omega) (by omega) (by omega) (by omega)]; omega), eChk_of (by omega) (by omega) (by omega), icl (by omega) (by omega), nat_i, c_letter, obind]
    dsimp only
    rw [t5, e3]
    by_cases lt : 97 ≤ (m.1 11 x).toInt ∧ (m.1 11 x).toInt ≤ 122
    · rw [if_neg (by rw [decide_eq_true (rg.mpr lt)]; decide), show (if x - st ≤ 4 ∧ ¬ (x < L ∧ 97 ≤ (m.1 11 x).toInt ∧ (m.1 11 x).toInt ≤ 122) then 2 else 4 : Nat) = 4 from if_neg (fun y => y.2 ⟨z, lt⟩)]
      split <;> rfl
    · rw [if_pos (by rw [decide_eq_false (fun y => lt (rg.mp y))]; decide)]
      by_cases y : x - st ≤ 4
      · rw [if_neg (fun w => by have := q1.mp w; omega), if_pos ⟨y, fun w => lt w.2⟩]; rfl
      · rw [if_pos (q1.mpr (by omega)), if_neg (fun w => y w.1)]
  · rw [if_pos (by rw [ile (by omega) (by omega) (by omega) (by omega)]; omega)]
    by_cases y : x - st ≤ 4
    · rw [if_neg (fun w => by have := q1.mp w; omega), if_pos ⟨y, fun w => z w.1⟩]; rfl
    · rw [if_pos (q1.mpr (by omega)), if_neg (fun w => y w.1)]
theorem num_m {x st : Nat} (t : Tp c m L x) (sx : st ≤ x) (e20 : m.1 24 20 = Int32.ofInt (st : Nat)) : (if (4 : Int32) < ((m.1 24 21) - (m.1 24 20)) then (some (eU1 m 24 22 (4 : Int32))) else ((f_mm_byteAt (m.1 24 21) m).bind fun p9 => ((f_mm_isSmall p9.1 p9.2).bind fun p10 => (if p10.1 = 0 then (some (eU1 p10.2 24 22 (2 : Int32))) else (some (eU1 p10.2 24 22 (4 : Int32))))))) = some (eU1 m 24 22 (Int32.ofInt ((if x - st ≤ 4 ∧ ¬ (x < L ∧ 97 ≤ (m.1 11 x).toInt ∧ (m.1 11 x).toInt ≤ 122) then 2 else 4 : Nat) : Int))) := by
  have bA := m_byteAt t t.2.1
  obtain ⟨t1, t2, t3, t4, t5, t6, t7⟩ := t
  obtain ⟨q1, q2, q3, q4⟩ := cmp7 (q := 4) sx (show x ≤ 700 by omega) (by omega)
  rw [t6, e20, show (4 : Int32) = Int32.ofInt ((4 : Nat) : Int) from rfl, bA, obind]
  dsimp only
  rw [m_small, obind]
  dsimp only
  by_cases y : x - st ≤ 4
  · rw [if_neg (fun w => by have := q1.mp w; omega)]
    by_cases z : x < L
    · rw [if_pos z]
      by_cases lt : 97 ≤ (m.1 11 x).toInt ∧ (m.1 11 x).toInt ≤ 122
      · rw [if_neg (by rw [decide_eq_true lt]; decide), if_neg (fun y => y.2 ⟨z, lt⟩)]
      · rw [if_pos (by rw [decide_eq_false lt]; decide), if_pos ⟨y, fun w => lt w.2⟩]; rfl
    · rw [if_neg z, if_pos (by decide), if_pos ⟨y, fun w => z w.1⟩]; rfl
  · rw [if_pos (q1.mpr (by omega)), if_neg (fun w => y w.1)]
theorem num_loop {st : Nat} (hs : st ≤ L) : ∀ (d x f1 f2 : Nat), x + d = L → d < f1 → d < f2 → ∀ (c m : eW), Tp c m L x → st ≤ x → c.1 1 3 = Int32.ofInt (st : Nat) → m.1 24 20 = Int32.ofInt (st : Nat) → (x - st ≤ 4 → ∃ v : Int, 0 ≤ v ∧ v < 10 ^ (x - st) ∧ c.1 1 5 = Int32.ofInt v ∧ m.1 24 23 = Int32.ofInt v) → ∃ c' m' y, f_ta_scanNumber_L5 f1 c = some c' ∧ f_mm_goOn_L237 f2 m = some m' ∧ Tok c' m' L y ∧ Pg m L x 48 57 y ∧ Cs c c' ∧ Mg m m' := by
  intro d
  induction d with
  | zero =>
    intro x f1 f2 hx hf1 hf2 c m t sx e3 e20 hv
    obtain ⟨f1, rfl⟩ : ∃ g, f1 = g + 1 := ⟨f1 - 1, by omega⟩
    obtain ⟨f2, rfl⟩ : ∃ g, f2 = g + 1 := ⟨f2 - 1, by omega⟩
    have bA := m_byteAt t t.2.1
    have nj := num_J t sx e3
    have nm := num_m t sx e20
    have t' := t
    obtain ⟨t1, t2, t3, t4, t5, t6, t7⟩ := t'
    unfold f_ta_scanNumber_L5 f_mm_goOn_L237
    rw [t3, t5, if_pos (by rw [ile (by omega) (by omega) (by omega) (by omega)]; omega), nj, t6, bA, obind]
    dsimp only
    rw [if_neg (show ¬ x < L by omega), m_digit, obind]
    dsimp only
    rw [if_pos (show b2i (decide (48 ≤ (-1 : Int32).toInt ∧ (-1 : Int32).toInt ≤ 57)) = 0 by decide), nm]
    refine ⟨_, _, x, rfl, rfl, ?_⟩
    obtain ⟨g1, g2, g3⟩ := Tok_fin t (e3.trans e20.symm) (if x - st ≤ 4 ∧ ¬ (x < L ∧ 97 ≤ (m.1 11 x).toInt ∧ (m.1 11 x).toInt ≤ 122) then 2 else 4) (by split <;> omega) (by split <;> omega) (fun z => by
      by_cases y : x - st ≤ 4
      · obtain ⟨v, v0, v1, v2, v3⟩ := hv y
        have := pow4 y
        exact ⟨v, v0, by omega, v2, v3⟩
      · rw [if_neg (fun w => y w.1)] at z; omega)
    exact ⟨g1, ⟨Nat.le_refl _, fun z => by omega⟩, g2, g3⟩
  | succ d ih =>
    intro x f1 f2 hx hf1 hf2 c m t sx e3 e20 hv
    obtain ⟨f1, rfl⟩ : ∃ g, f1 = g + 1 := ⟨f1 - 1, by omega⟩
    obtain ⟨f2, rfl⟩ : ∃ g, f2 = g + 1 := ⟨f2 - 1, by omega⟩
    have bA := m_byteAt t t.2.1
    rw [if_pos (show x < L by omega)] at bA
    have nj := num_J t sx e3
    have nm := num_m t sx e20
    have t' := t
    obtain ⟨t1, t2, t3, t4, t5, t6, t7⟩ := t'
    have br := t7 x (by omega)
    have rg := br.rng (u := 48) (v := 57) (by omega) (by omega)
    unfold f_ta_scanNumber_L5 f_mm_goOn_L237
    rw [t3, t5, if_neg (by rw [ile (by omega) (by omega) (by omega) (by omega)]; omega), eChk_of (by omega) (by omega) (by omega), icl (by omega) (by omega), nat_i, c_digit, obind]
    dsimp only
    rw [t5, eChk_of (by omega) (by omega) (by omega), icl (by omega) (by omega), nat_i]
    have bA' : f_mm_byteAt (m.1 24 21) m = some (m.1 11 x, m) := by rw [t6]; exact bA
    simp only [bA', obind, m_digit]
    by_cases lt : 48 ≤ (m.1 11 x).toInt ∧ (m.1 11 x).toInt ≤ 57
    · have e := br.same (by omega) (by omega) lt
      rw [if_neg (show ¬ b2i (decide (48 ≤ (c.1 0 x).toInt ∧ (c.1 0 x).toInt ≤ 57)) = 0 by rw [decide_eq_true (rg.mpr lt)]; decide), if_neg (show ¬ b2i (decide (48 ≤ (m.1 11 x).toInt ∧ (m.1 11 x).toInt ≤ 57)) = 0 by rw [decide_eq_true lt]; decide)]
      obtain ⟨b, b0, b1, by_, bx_⟩ := br
      have bt : (m.1 11 x).toInt = b := by rw [by_, toI_ofI (by omega) (by omega)]
      rw [bt] at lt
      have step : ∀ (a b' : Int32), (x + 1 - st ≤ 4 → ∃ v : Int, 0 ≤ v ∧ v < 10 ^ (x + 1 - st) ∧ a = Int32.ofInt v ∧ b' = Int32.ofInt v) → ∃ c' m' y, f_ta_scanNumber_L5 f1 (eU1 (eU1 c 1 5 a) 1 2 (Int32.ofInt ((x + 1 : Nat) : Int))) = some c' ∧ f_mm_goOn_L237 f2 (eU1 (eU1 m 24 23 b') 24 21 (Int32.ofInt ((x + 1 : Nat) : Int))) = some m' ∧ Tok c' m' L y ∧ Pg m L x 48 57 y ∧ Cs c c' ∧ Mg m m' := fun a b' hcv => by
        have kc : Cs c (eU1 (eU1 c 1 5 a) 1 2 (Int32.ofInt ((x + 1 : Nat) : Int))) := (Cs.rfl.u (by omega)).u (by omega)
        have km : Mg m (eU1 (eU1 m 24 23 b') 24 21 (Int32.ofInt ((x + 1 : Nat) : Int))) := (Mg.rfl.u (by omega)).u (by omega)
        obtain ⟨c', m', y, g1, g2, g3, g4, g5, g6⟩ := ih (x + 1) f1 f2 (by omega) (by omega) (by omega) _ _ (t.go kc km (show x + 1 ≤ L by omega) (by rw [u1s]) (by rw [u1s])) (by omega) (by rw [u1n _ _ _ _ _ _ (by omega), u1n _ _ _ _ _ _ (by omega)]; exact e3) (by rw [u1n _ _ _ _ _ _ (by omega), u1n _ _ _ _ _ _ (by omega)]; exact e20) (fun z => by
          obtain ⟨v, z1, z2, z3, z4⟩ := hcv z
          refine ⟨v, z1, z2, by rw [u1n _ _ _ _ _ _ (by omega), u1s]; exact z3, by rw [u1n _ _ _ _ _ _ (by omega), u1s]; exact z4⟩)
        exact ⟨c', m', y, g1, g2, g3, ⟨by have := g4.1; omega, fun _ _ => by have := g4.1; omega⟩, kc.tr g5, km.tr g6⟩
      rw [t6, isucc]
      by_cases z : x + 1 - st ≤ 4
      · obtain ⟨v, v0, v1, v2, v3⟩ := hv (by omega)
        have p3 := (pow10 (n := x - st) (by omega)).1
        have vv : x + 1 - st = (x - st) + 1 := by omega
        have pp : (10 : Int) ^ (x + 1 - st) = 10 ^ (x - st) * 10 := by rw [vv, Int.pow_succ]
        rw [if_pos (by rw [v3, show (99999 : Int32) = Int32.ofInt 99999 from rfl, ile (by omega) (by omega) (by omega) (by omega)]; omega)]
        refine step _ _ fun _ => ⟨v * 10 + (b - 48), by omega, by omega, ?_, ?_⟩
        · rw [v2, e, by_, show (48 : Int32) = Int32.ofInt 48 from rfl, show (10 : Int32) = Int32.ofInt 10 from rfl, ← Int32.ofInt_mul, ← Int32.ofInt_sub, ← Int32.ofInt_add]
        · rw [v3, by_, show (48 : Int32) = Int32.ofInt 48 from rfl, show (10 : Int32) = Int32.ofInt 10 from rfl, ← Int32.ofInt_mul, ← Int32.ofInt_add, ← Int32.ofInt_sub]
          congr 1; omega
      · by_cases y : m.1 24 23 ≤ (99999 : Int32)
        · rw [if_pos y]; exact step _ _ fun w => absurd w z
        · rw [if_neg y]; exact step _ _ fun w => absurd w z
    · rw [if_pos (show b2i (decide (48 ≤ (c.1 0 x).toInt ∧ (c.1 0 x).toInt ≤ 57)) = 0 by rw [decide_eq_false (fun y => lt (rg.mp y))]; decide), if_pos (show b2i (decide (48 ≤ (m.1 11 x).toInt ∧ (m.1 11 x).toInt ≤ 57)) = 0 by rw [decide_eq_false lt]; decide), nj]
      simp only [bA', obind] at nm
      rw [nm]
      refine ⟨_, _, x, rfl, rfl, ?_⟩
      obtain ⟨g1, g2, g3⟩ := Tok_fin t (e3.trans e20.symm) (if x - st ≤ 4 ∧ ¬ (x < L ∧ 97 ≤ (m.1 11 x).toInt ∧ (m.1 11 x).toInt ≤ 122) then 2 else 4) (by split <;> omega) (by split <;> omega) (fun z => by
        by_cases y : x - st ≤ 4
        · obtain ⟨v, v0, v1, v2, v3⟩ := hv y
          have := pow4 y
          exact ⟨v, v0, by omega, v2, v3⟩
        · rw [if_neg (fun w => y w.1)] at z; omega)
      exact ⟨g1, ⟨Nat.le_refl _, fun _ z => absurd z lt⟩, g2, g3⟩
end
