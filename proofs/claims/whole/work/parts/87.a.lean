section
variable {c m : eW} {L : Nat}
theorem BR.eqz {x y : Int32} (h : BR x y) {z : Int} (z0 : 0 ≤ z) (z1 : z < 128) : (x = Int32.ofInt z ↔ y = Int32.ofInt z) := by
  obtain ⟨b, b0, b1, rfl, rfl⟩ := h
  by_cases q : b < 128
  · rw [if_pos q]
  · rw [if_neg q, ieq (by omega) (by omega) (by omega) (by omega), ieq (by omega) (by omega) (by omega) (by omega)]; omega
theorem BR.rng {x y : Int32} (h : BR x y) {u v : Int} (u0 : 0 ≤ u) (v1 : v < 128) : ((u ≤ x.toInt ∧ x.toInt ≤ v) ↔ (u ≤ y.toInt ∧ y.toInt ≤ v)) := by
  obtain ⟨b, b0, b1, rfl, rfl⟩ := h
  by_cases q : b < 128
  · rw [if_pos q]
  · rw [if_neg q, toI_ofI (by omega) (by omega), toI_ofI (by omega) (by omega)]; omega
theorem BR.same {x y : Int32} (h : BR x y) {u v : Int} (u0 : 0 ≤ u) (v1 : v < 128) (k : u ≤ y.toInt ∧ y.toInt ≤ v) : x = y := by
  obtain ⟨b, b0, b1, rfl, rfl⟩ := h
  rw [toI_ofI (by omega) (by omega)] at k
  rw [if_pos (by omega)]
theorem BR.nn {x y : Int32} (h : BR x y) : ¬ y = -1 := by
  obtain ⟨b, b0, b1, rfl, rfl⟩ := h
  rw [show (-1 : Int32) = Int32.ofInt (-1) from rfl, ieq (by omega) (by omega) (by omega) (by omega)]; omega
theorem rng_d (v : Int32) (w : eW) {lo hi : Int} (h1 : -2147483648 ≤ lo) (h2 : hi < 2147483648) (h3 : lo < 2147483648) (h4 : -2147483648 ≤ hi) : (if v < Int32.ofInt lo then (some ((0 : Int32), w)) else (if Int32.ofInt hi < v then (some ((0 : Int32), w)) else (some ((1 : Int32), w)))) = some (b2i (decide (lo ≤ v.toInt ∧ v.toInt ≤ hi)), w) := by
  by_cases a : v.toInt < lo
  · rw [if_pos ((lt_i h1 h3).mpr a), decide_eq_false (by omega)]; rfl
  · rw [if_neg (fun z => a ((lt_i h1 h3).mp z))]
    by_cases b : hi < v.toInt
    · rw [if_pos ((i_lt h4 h2).mpr b), decide_eq_false (by omega)]; rfl
    · rw [if_neg (fun z => b ((i_lt h4 h2).mp z)), decide_eq_true (by omega)]; rfl
theorem c_letter (v : Int32) (w : eW) : f_ta_isLetter v w = some (b2i (decide (97 ≤ v.toInt ∧ v.toInt ≤ 122)), w) := by
  unfold f_ta_isLetter
  exact rng_d v w (lo := 97) (hi := 122) (by omega) (by omega) (by omega) (by omega)
theorem c_digit (v : Int32) (w : eW) : f_ta_isDigit v w = some (b2i (decide (48 ≤ v.toInt ∧ v.toInt ≤ 57)), w) := by
  unfold f_ta_isDigit
  exact rng_d v w (lo := 48) (hi := 57) (by omega) (by omega) (by omega) (by omega)
theorem m_small (v : Int32) (w : eW) : f_mm_isSmall v w = some (b2i (decide (97 ≤ v.toInt ∧ v.toInt ≤ 122)), w) := by
  unfold f_mm_isSmall
  exact rng_d v w (lo := 97) (hi := 122) (by omega) (by omega) (by omega) (by omega)
theorem m_digit (v : Int32) (w : eW) : f_mm_isDigit v w = some (b2i (decide (48 ≤ v.toInt ∧ v.toInt ≤ 57)), w) := by
  unfold f_mm_isDigit
  exact rng_d v w (lo := 48) (hi := 57) (by omega) (by omega) (by omega) (by omega)
theorem c_blank (v : Int32) (w : eW) : f_ta_isBlank v w = some (b2i (decide (v = 32 ∨ v = 10)), w) := by
  unfold f_ta_isBlank
  by_cases a : v = 32
  · rw [if_pos a, decide_eq_true (.inl a)]; rfl
  · rw [if_neg a]
    by_cases b : v = 10
    · rw [if_neg (fun z => z b), decide_eq_true (.inr b)]; rfl
    · rw [if_pos b, decide_eq_false (fun z => z.elim a b)]; rfl
/-- the bytes and where both stand -/
def Tp (c m : eW) (L x : Nat) : Prop := L ≤ 700 ∧ x ≤ L ∧ c.1 1 1 = Int32.ofInt (L : Nat) ∧ m.1 24 19 = Int32.ofInt (L : Nat) ∧ c.1 1 2 = Int32.ofInt (x : Nat) ∧ m.1 24 21 = Int32.ofInt (x : Nat) ∧ ∀ i, i < L → BR (c.1 0 i) (m.1 11 i)
/-- what scanning changes -/
def Cs (c c' : eW) : Prop := (∀ i, i ≠ 1 → c'.1 i = c.1 i ∧ c'.2 i = c.2 i) ∧ ∀ k, ¬ (2 ≤ k ∧ k ≤ 5) → c'.1 1 k = c.1 1 k
def Mg (m m' : eW) : Prop := m'.2 = m.2 ∧ ∀ i k, ¬ (i = 24 ∧ 20 ≤ k ∧ k ≤ 24) → m'.1 i k = m.1 i k
theorem Cs.rfl : Cs c c := ⟨fun _ _ => ⟨Eq.refl _, Eq.refl _⟩, fun _ _ => Eq.refl _⟩
theorem Mg.rfl : Mg m m := ⟨Eq.refl _, fun _ _ _ => Eq.refl _⟩
theorem Cs.tr {a b d : eW} (h : Cs a b) (k : Cs b d) : Cs a d := ⟨fun i e => ⟨(k.1 i e).1.trans (h.1 i e).1, (k.1 i e).2.trans (h.1 i e).2⟩, fun i e => (k.2 i e).trans (h.2 i e)⟩
theorem Mg.tr {a b d : eW} (h : Mg a b) (k : Mg b d) : Mg a d := ⟨k.1.trans h.1, fun i j e => (k.2 i j e).trans (h.2 i j e)⟩
theorem Cs.u {c' : eW} {k : Nat} {x : Int32} (h : Cs c c') (hk : 2 ≤ k ∧ k ≤ 5) : Cs c (eU1 c' 1 k x) := ⟨fun i e => ⟨by rw [← (h.1 i e).1]; funext j; exact u1n _ _ _ _ _ _ (by omega), (h.1 i e).2⟩, fun j e => by rw [u1n _ _ _ _ _ _ (by omega)]; exact h.2 j e⟩
theorem Cs.v {c' : eW} {x : Int64} (h : Cs c c') : Cs c (eU2 c' 1 6 x) := ⟨fun i e => ⟨(h.1 i e).1, by rw [← (h.1 i e).2]; funext j; exact u2n _ _ _ _ _ _ (by omega)⟩, h.2⟩
theorem Mg.u {m' : eW} {k : Nat} {x : Int32} (h : Mg m m') (hk : 20 ≤ k ∧ k ≤ 24) : Mg m (eU1 m' 24 k x) := ⟨h.1, fun i j e => by rw [u1n _ _ _ _ _ _ (by omega)]; exact h.2 i j e⟩
theorem m_byteAt {x : Nat} (t : Tp c m L x) {i : Nat} (hi : i ≤ L) : f_mm_byteAt (Int32.ofInt (i : Nat)) m = some (if i < L then m.1 11 i else -1, m) := by
  obtain ⟨t1, t2, t3, t4, t5, t6, t7⟩ := t
  unfold f_mm_byteAt
  rw [t4]
  by_cases z : i < L
  · rw [if_neg (by rw [ile (by omega) (by omega) (by omega) (by omega)]; omega), eChk_of (by omega) (by omega) (by omega), icl (by omega) (by omega), nat_i, if_pos z]
  · rw [if_pos (by rw [ile (by omega) (by omega) (by omega) (by omega)]; omega), if_neg z]
/-- the token that both look at -/
def Tok (c m : eW) (L x : Nat) : Prop := Tp c m L x ∧ c.1 1 3 = m.1 24 20 ∧ ∃ t : Nat, t ≤ 4 ∧ c.1 1 4 = Int32.ofInt (t : Nat) ∧ m.1 24 22 = Int32.ofInt (t : Nat) ∧ (t = 1 → WR (c.2 1 6) (m.1 24 23) (m.1 24 24)) ∧ (t = 2 → ∃ v : Int, 0 ≤ v ∧ v ≤ 9999 ∧ c.1 1 5 = Int32.ofInt v ∧ m.1 24 23 = Int32.ofInt v)
theorem Tp.go {x : Nat} {c' m' : eW} (t : Tp c m L x) (k : Cs c c') (e : Mg m m') {y : Nat} (hy : y ≤ L) (h1 : c'.1 1 2 = Int32.ofInt (y : Nat)) (h2 : m'.1 24 21 = Int32.ofInt (y : Nat)) : Tp c' m' L y := by
  obtain ⟨t1, t2, t3, t4, t5, t6, t7⟩ := t
  exact ⟨t1, hy, by rw [k.2 1 (by omega)]; exact t3, by rw [e.2 24 19 (by omega)]; exact t4, h1, h2, fun i hi => by rw [(k.1 0 (by omega)).1, e.2 11 i (by omega)]; exact t7 i hi⟩
theorem cmp7 {x st q : Nat} (h : st ≤ x) (hx : x ≤ 700) (hq : q ≤ 100) : ((Int32.ofInt (q : Nat) < Int32.ofInt (x : Nat) - Int32.ofInt (st : Nat)) ↔ q < x - st) ∧ ((Int32.ofInt (x : Nat) - Int32.ofInt (st : Nat) ≤ Int32.ofInt (q : Nat)) ↔ x - st ≤ q) ∧ ((Int32.ofInt (q : Nat) ≤ Int32.ofInt (x : Nat) - Int32.ofInt (st : Nat)) ↔ q ≤ x - st) ∧ (Int32.ofInt (x : Nat) - Int32.ofInt (st : Nat)).toInt = ((x - st : Nat) : Int) := by
  rw [← Int32.ofInt_sub]
  refine ⟨by rw [ilt (by omega) (by omega) (by omega) (by omega)]; omega, by rw [ile (by omega) (by omega) (by omega) (by omega)]; omega, by rw [ile (by omega) (by omega) (by omega) (by omega)]; omega, by rw [toI_ofI (by omega) (by omega)]; omega⟩
theorem take_snoc {ws : List Nat} {b : Nat} (h : ws.length < 5) : (ws ++ [b]).take 5 = ws.take 5 ++ [b] ∧ (ws ++ [b]).drop 5 = ws.drop 5 := by
  constructor
  · rw [List.take_of_length_le (by simp; omega), List.take_of_length_le (by omega)]
  · rw [List.drop_of_length_le (by simp; omega), List.drop_of_length_le (by omega)]
theorem drop_snoc {ws : List Nat} {b : Nat} (h : 5 ≤ ws.length) : (ws ++ [b]).take 5 = ws.take 5 ∧ (ws ++ [b]).drop 5 = ws.drop 5 ++ [b] := ⟨List.take_append_of_le_length h, List.drop_append_of_le_length h⟩
/-- how far it went -/
def Pg (m : eW) (L x : Nat) (lo hi : Int) (y : Nat) : Prop := x ≤ y ∧ (x < L → lo ≤ (m.1 11 x).toInt ∧ (m.1 11 x).toInt ≤ hi → x < y)
theorem word_loop {st : Nat} (hs : st ≤ L) : ∀ (d x f1 f2 : Nat), x + d = L → d < f1 → d < f2 → ∀ (c m : eW) (ws : List Nat), Tp c m L x → st ≤ x → c.1 1 3 = Int32.ofInt (st : Nat) → m.1 24 20 = Int32.ofInt (st : Nat) → Lt ws → ws.length = x - st → (ws.length ≤ 7 → c.2 1 6 = Int64.ofInt ((cod ws 0 : Nat) : Int) ∧ m.1 24 23 = Int32.ofInt ((cod (ws.take 5) 0 : Nat) : Int) ∧ m.1 24 24 = Int32.ofInt ((cod (ws.drop 5) 0 : Nat) : Int)) → ∃ c' m' y, f_ta_scanWord_L5 f1 c = some c' ∧ f_mm_goOn_L94 f2 m = some m' ∧ Tok c' m' L y ∧ Pg m L x 97 122 y ∧ Cs c c' ∧ Mg m m' := by
  intro d
  induction d with
  | zero =>
    intro x f1 f2 hx hf1 hf2 c m ws t sx e3 e20 lw ll hw
    obtain ⟨f1, rfl⟩ : ∃ g, f1 = g + 1 := ⟨f1 - 1, by omega⟩
    obtain ⟨f2, rfl⟩ : ∃ g, f2 = g + 1 := ⟨f2 - 1, by omega⟩
    have bA := m_byteAt t (Nat.le_refl L)
    have t' := t
    obtain ⟨t1, t2, t3, t4, t5, t6, t7⟩ := t'
    have xl : x = L := by omega
    subst xl
    obtain ⟨q1, q2, q3, q4⟩ := cmp7 (q := 7) sx t1 (by omega)
    unfold f_ta_scanWord_L5 f_mm_goOn_L94
    rw [t3, t5, if_pos (Int32.le_refl _), e3, t6, bA, obind]
    dsimp only
    rw [m_small, obind, if_neg (show ¬ x < x by omega)]
    dsimp only
    rw [if_pos (show b2i (decide (97 ≤ (-1 : Int32).toInt ∧ (-1 : Int32).toInt ≤ 122)) = 0 by decide), t6, e20]
    have fin : ∀ v : Nat, v ≤ 4 → (v = 1 → x - st ≤ 7) → v ≠ 2 → ∃ c' m' y, some (eU1 c 1 4 (Int32.ofInt (v : Nat))) = some c' ∧ some (eU1 m 24 22 (Int32.ofInt (v : Nat))) = some m' ∧ Tok c' m' x y ∧ Pg m x x 97 122 y ∧ Cs c c' ∧ Mg m m' := fun v v4 v1 v2 => by
      refine ⟨_, _, x, rfl, rfl, ⟨t.go (Cs.rfl.u (by omega)) (Mg.rfl.u (by omega)) (Nat.le_refl _) (by rw [u1n _ _ _ _ _ _ (by omega)]; exact t5) (by rw [u1n _ _ _ _ _ _ (by omega)]; exact t6), by rw [u1n _ _ _ _ _ _ (by omega), u1n _ _ _ _ _ _ (by omega), e3, e20], v, v4, by rw [u1s], by rw [u1s], fun z => ?_, fun z => absurd z v2⟩, ⟨Nat.le_refl _, fun z => by omega⟩, Cs.rfl.u (by omega), Mg.rfl.u (by omega)⟩
      rw [u1n _ _ _ _ _ _ (by omega), u1n _ _ _ _ _ _ (by omega)]
      obtain ⟨w1, w2, w3⟩ := hw (by have := v1 z; omega)
      exact ⟨ws, lw, by have := v1 z; omega, w1, w2, w3⟩
    rw [show (7 : Int32) = Int32.ofInt ((7 : Nat) : Int) from rfl]
    by_cases z : x - st ≤ 7
    · rw [if_neg (fun y => by have := q1.mp y; omega), if_pos (q2.mpr z)]
      exact fin 1 (by omega) (fun _ => z) (by omega)
    · rw [if_pos (q1.mpr (by omega)), if_neg (fun y => z (q2.mp y))]
      exact fin 4 (by omega) (by omega) (by omega)
  | succ d ih =>
    intro x f1 f2 hx hf1 hf2 c m ws t sx e3 e20 lw ll hw
    obtain ⟨f1, rfl⟩ : ∃ g, f1 = g + 1 := ⟨f1 - 1, by omega⟩
    obtain ⟨f2, rfl⟩ : ∃ g, f2 = g + 1 := ⟨f2 - 1, by omega⟩
    have bA := m_byteAt t (show x ≤ L by omega)
    rw [if_pos (show x < L by omega)] at bA
    have t' := t
    obtain ⟨t1, t2, t3, t4, t5, t6, t7⟩ := t'
    have br := t7 x (by omega)
    have rg := br.rng (u := 97) (v := 122) (by omega) (by omega)
    obtain ⟨q1, q2, q3, q4⟩ := cmp7 (q := 7) sx (show x ≤ 700 by omega) (by omega)
    obtain ⟨-, -, r3, -⟩ := cmp7 (q := 5) sx (show x ≤ 700 by omega) (by omega)
    unfold f_ta_scanWord_L5 f_mm_goOn_L94
    rw [t3, t5, if_neg (by rw [ile (by omega) (by omega) (by omega) (by omega)]; omega), eChk_of (by omega) (by omega) (by omega), icl (by omega) (by omega), nat_i, c_letter, obind, t6, bA, obind]
    dsimp only
    rw [m_small, obind]
    dsimp only
    simp only [b2i_0]
    by_cases lt : 97 ≤ (m.1 11 x).toInt ∧ (m.1 11 x).toInt ≤ 122
    · have e := br.same (by omega) (by omega) lt
      rw [if_neg (by rw [decide_eq_true (rg.mpr lt)]; simp), if_neg (by rw [decide_eq_true lt]; simp), t5, eChk_of (by omega) (by omega) (by omega), icl (by omega) (by omega), nat_i]
      unfold f_ta_withLetter
      rw [obind, t6, bA, obind]
      dsimp only
      rw [t5, t6, e20, isucc]
      obtain ⟨b, b0, b1, by_, bx_⟩ := br
      have bt : (m.1 11 x).toInt = b := by rw [by_, toI_ofI (by omega) (by omega)]
      rw [bt] at lt
      obtain ⟨k, hk⟩ : ∃ k : Nat, (k : Int) = b - 96 := ⟨(b - 96).toNat, by omega⟩
      have k1 : 1 ≤ k ∧ k ≤ 26 := by omega
      have ek : m.1 11 x - (96 : Int32) = Int32.ofInt (k : Nat) := by rw [by_, show (96 : Int32) = Int32.ofInt 96 from rfl, ← Int32.ofInt_sub, hk]
      have ec : ((c.1 0 x - (97 : Int32)) + (1 : Int32)).toInt64 = Int64.ofInt (k : Nat) := by
        rw [e, by_, show (97 : Int32) = Int32.ofInt 97 from rfl, show (1 : Int32) = Int32.ofInt 1 from rfl, ← Int32.ofInt_sub, ← Int32.ofInt_add, i2j (by omega) (by omega)]
        congr 1; omega
      rw [ek, ec]
      unfold f_mm_goOn_J150
      have lw' : Lt (ws ++ [k]) := fun y hy => by
        rcases List.mem_append.mp hy with z | z
        · exact lw y z
        · rw [List.mem_singleton.mp z]; exact k1
      have step : ∀ (cv' : Int64) (a b' : Int32), ((ws ++ [k]).length ≤ 7 → cv' = Int64.ofInt ((cod (ws ++ [k]) 0 : Nat) : Int) ∧ a = Int32.ofInt ((cod ((ws ++ [k]).take 5) 0 : Nat) : Int) ∧ b' = Int32.ofInt ((cod ((ws ++ [k]).drop 5) 0 : Nat) : Int)) → ∃ c' m' y, f_ta_scanWord_L5 f1 (eU1 (eU2 c 1 6 cv') 1 2 (Int32.ofInt ((x + 1 : Nat) : Int))) = some c' ∧ f_mm_goOn_L94 f2 (eU1 (eU1 (eU1 m 24 23 a) 24 24 b') 24 21 (Int32.ofInt ((x + 1 : Nat) : Int))) = some m' ∧ Tok c' m' L y ∧ Pg m L x 97 122 y ∧ Cs c c' ∧ Mg m m' := fun cv' a b' hcv => by
        have kc : Cs c (eU1 (eU2 c 1 6 cv') 1 2 (Int32.ofInt ((x + 1 : Nat) : Int))) := Cs.rfl.v.u (by omega)
        have km : Mg m (eU1 (eU1 (eU1 m 24 23 a) 24 24 b') 24 21 (Int32.ofInt ((x + 1 : Nat) : Int))) := ((Mg.rfl.u (by omega)).u (by omega)).u (by omega)
        obtain ⟨c', m', y, g1, g2, g3, g4, g5, g6⟩ := ih (x + 1) f1 f2 (by omega) (by omega) (by omega) _ _ (ws ++ [k]) (t.go kc km (show x + 1 ≤ L by omega) (by rw [u1s]) (by rw [u1s])) (by omega) (by rw [u1n _ _ _ _ _ _ (by omega)]; exact e3) (by rw [u1n _ _ _ _ _ _ (by omega), u1n _ _ _ _ _ _ (by omega), u1n _ _ _ _ _ _ (by omega)]; exact e20) lw' (by rw [List.length_append]; simp; omega) (fun z => by
          obtain ⟨z1, z2, z3⟩ := hcv z
          refine ⟨by rw [u1l, u2s]; exact z1, by rw [u1n _ _ _ _ _ _ (by omega), u1n _ _ _ _ _ _ (by omega), u1s]; exact z2, by rw [u1n _ _ _ _ _ _ (by omega), u1s]; exact z3⟩)
        exact ⟨c', m', y, g1, g2, g3, ⟨by have := g4.1; omega, fun _ _ => by have := g4.1; omega⟩, kc.tr g5, km.tr g6⟩
      have s23 : ∀ a : Int32, (eU1 m 24 23 a).1 24 24 = m.1 24 24 := fun a => u1n _ _ _ _ _ _ (by omega)
      have s21 : ∀ a b' : Int32, (eU1 (eU1 m 24 23 a) 24 24 b').1 24 21 = Int32.ofInt (x : Nat) := fun a b' => by rw [u1n _ _ _ _ _ _ (by omega), u1n _ _ _ _ _ _ (by omega)]; exact t6
      have u21 : ∀ a : Int32, (eU1 m 24 23 a).1 24 21 = Int32.ofInt (x : Nat) := fun a => by rw [u1n _ _ _ _ _ _ (by omega)]; exact t6
      rw [t6, e20, in_dec (show (5 : Int32).toInt = 5 from rfl) (show (7 : Int32).toInt = 7 from rfl), q4]
      rw [show (5 : Int32) = Int32.ofInt ((5 : Nat) : Int) from rfl]
      simp only [obind, b2i_0, in_dec (show (Int32.ofInt ((5 : Nat) : Int)).toInt = 5 from rfl) (show (7 : Int32).toInt = 7 from rfl), q4]
      simp only [s23, u21, isucc]
      have c64 : Int64.ofInt ((cod ws 0 : Nat) : Int) * (32 : Int64) + Int64.ofInt (k : Nat) = Int64.ofInt ((cod (ws ++ [k]) 0 : Nat) : Int) := by
        rw [show (32 : Int64) = Int64.ofInt 32 from rfl, ← Int64.ofInt_mul, ← Int64.ofInt_add, cod_snoc]; congr 1
      by_cases z5 : 5 ≤ x - st
      · rw [if_pos (r3.mpr z5)]
        by_cases z7 : x - st ≤ 7
        · rw [if_neg (by rw [decide_eq_true (show (5 : Int) ≤ ((x - st : Nat) : Int) ∧ ((x - st : Nat) : Int) ≤ 7 by omega)]; simp)]
          refine step _ _ _ fun z => ?_
          have zl : ws.length ≤ 7 := by rw [List.length_append] at z; simp at z; omega
          obtain ⟨h1, h2, h3⟩ := hw zl
          obtain ⟨d1, d2⟩ := drop_snoc (ws := ws) (b := k) (by omega)
          refine ⟨by rw [h1]; exact c64, by rw [d1]; exact h2, ?_⟩
          rw [d2, cod_snoc, h3, show (32 : Int32) = Int32.ofInt 32 from rfl, ← Int32.ofInt_mul, ← Int32.ofInt_add]; congr 1
        · rw [if_pos (decide_eq_false (by omega))]
          refine step _ _ _ fun z => ?_
          rw [List.length_append] at z; simp at z; omega
      · rw [if_neg (fun y => z5 (r3.mp y)), if_pos (decide_eq_false (by omega))]
        refine step _ _ _ fun z => ?_
        obtain ⟨h1, h2, h3⟩ := hw (by omega)
        obtain ⟨d1, d2⟩ := take_snoc (ws := ws) (b := k) (by omega)
        refine ⟨by rw [h1]; exact c64, ?_, by rw [d2]; exact h3⟩
        rw [d1, cod_snoc, h2, show (32 : Int32) = Int32.ofInt 32 from rfl, ← Int32.ofInt_mul, ← Int32.ofInt_add]; congr 1
    · rw [if_pos (decide_eq_false (fun z => lt (rg.mp z))), if_pos (decide_eq_false lt), t5, t6, e3, e20]
      have fin : ∀ v : Nat, v ≤ 4 → (v = 1 → x - st ≤ 7) → v ≠ 2 → ∃ c' m' y, some (eU1 c 1 4 (Int32.ofInt (v : Nat))) = some c' ∧ some (eU1 m 24 22 (Int32.ofInt (v : Nat))) = some m' ∧ Tok c' m' L y ∧ Pg m L x 97 122 y ∧ Cs c c' ∧ Mg m m' := fun v v4 v1 v2 => by
        refine ⟨_, _, x, rfl, rfl, ⟨t.go (Cs.rfl.u (by omega)) (Mg.rfl.u (by omega)) (by omega) (by rw [u1n _ _ _ _ _ _ (by omega)]; exact t5) (by rw [u1n _ _ _ _ _ _ (by omega)]; exact t6), by rw [u1n _ _ _ _ _ _ (by omega), u1n _ _ _ _ _ _ (by omega), e3, e20], v, v4, by rw [u1s], by rw [u1s], fun z => ?_, fun z => absurd z v2⟩, ⟨Nat.le_refl _, fun _ z => absurd z lt⟩, Cs.rfl.u (by omega), Mg.rfl.u (by omega)⟩
        rw [u1n _ _ _ _ _ _ (by omega), u1n _ _ _ _ _ _ (by omega)]
        obtain ⟨w1, w2, w3⟩ := hw (by have := v1 z; omega)
        exact ⟨ws, lw, by have := v1 z; omega, w1, w2, w3⟩
      rw [show (7 : Int32) = Int32.ofInt ((7 : Nat) : Int) from rfl]
      by_cases z : x - st ≤ 7
      · rw [if_neg (fun y => by have := q1.mp y; omega), if_pos (q2.mpr z)]
        exact fin 1 (by omega) (fun _ => z) (by omega)
      · rw [if_pos (q1.mpr (by omega)), if_neg (fun y => z (q2.mp y))]
        exact fin 4 (by omega) (by omega) (by omega)
end
