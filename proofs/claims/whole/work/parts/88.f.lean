/-! ===== the text: line by line ===== -/
section
variable {c m c' m' c0 m0 : eW} {L x n : Nat} {F : Nat → Nat → Int} {cv : Int} {cd : Bool}
def Wc (c c' : eW) : Prop := (∀ i k, ¬ ((i = 1 ∧ 2 ≤ k ∧ k ≤ 5) ∨ i = 2 ∨ (i = 3 ∧ (k = 0 ∨ k = 1)) ∨ (i = 6 ∧ (k = 3 ∨ k = 5 ∨ k = 6))) → c'.1 i k = c.1 i k) ∧ ∀ i k, ¬ (i = 1 ∨ i = 5) → c'.2 i k = c.2 i k
def Wm (m m' : eW) : Prop := m'.2 = m.2 ∧ ∀ i k, ¬ ((i ≤ 9 ∧ 12 ≤ k) ∨ i = 10 ∨ (i = 24 ∧ (k = 3 ∨ k = 4 ∨ (20 ≤ k ∧ k ≤ 24) ∨ (27 ≤ k ∧ k ≤ 29)))) → m'.1 i k = m.1 i k
theorem Wc.rfl : Wc c c := ⟨fun _ _ _ => Eq.refl _, fun _ _ _ => Eq.refl _⟩
theorem Wm.rfl : Wm m m := ⟨Eq.refl _, fun _ _ _ => Eq.refl _⟩
theorem Wc.tr {a b d : eW} (h : Wc a b) (k : Wc b d) : Wc a d := ⟨fun i j e => (k.1 i j e).trans (h.1 i j e), fun i j e => (k.2 i j e).trans (h.2 i j e)⟩
theorem Wm.tr {a b d : eW} (h : Wm a b) (k : Wm b d) : Wm a d := ⟨k.1.trans h.1, fun i j e => (k.2 i j e).trans (h.2 i j e)⟩
theorem Wc.u {i k : Nat} {y : Int32} (h : Wc c c') (hk : (i = 1 ∧ 2 ≤ k ∧ k ≤ 5) ∨ i = 2 ∨ (i = 3 ∧ (k = 0 ∨ k = 1)) ∨ (i = 6 ∧ (k = 3 ∨ k = 5 ∨ k = 6))) : Wc c (eU1 c' i k y) := ⟨fun a b e => by rw [u1n _ _ _ _ _ _ (by omega)]; exact h.1 a b e, h.2⟩
theorem Wm.u {i k : Nat} {y : Int32} (h : Wm m m') (hk : (i ≤ 9 ∧ 12 ≤ k) ∨ i = 10 ∨ (i = 24 ∧ (k = 3 ∨ k = 4 ∨ (20 ≤ k ∧ k ≤ 24) ∨ (27 ≤ k ∧ k ≤ 29)))) : Wm m (eU1 m' i k y) := ⟨h.1, fun a b e => by rw [u1n _ _ _ _ _ _ (by omega)]; exact h.2 a b e⟩
theorem Lc.wc (h : Lc n c c') : Wc c c' := ⟨fun i k e => h.1 i k (by omega), fun i k e => h.2 i k (by omega)⟩
theorem Lm.wm (h : Lm n m m') : Wm m m' := ⟨h.1, fun i k e => h.2 i k (by omega)⟩
/-- both, between two lines -/
def RD (c0 m0 : eW) (L x n : Nat) (F : Nat → Nat → Int) (cv : Int) (cd : Bool) (c m : eW) : Prop := Tok c m L x ∧ (m.1 24 27 = 0 ∧ c.1 6 5 = 0 ∧ c.1 6 6 = -1) ∧ (c.1 3 0 = Int32.ofInt (n : Nat) ∧ m.1 24 3 = Int32.ofInt (n : Nat)) ∧ (c.1 3 1 = Int32.ofInt cv ∧ m.1 24 4 = Int32.ofInt cv ∧ c.1 6 3 = b2i cd ∧ m.1 24 29 = b2i cd) ∧ FOK n F cv ∧ (∀ h k, h < n → k < 10 → c.1 2 (h * 10 + k) = Int32.ofInt (F h k)) ∧ (∀ h, h < n → m.1 0 (12 + h) = Int32.ofInt (F h 0) ∧ m.1 1 (12 + h) = Int32.ofInt (F h 1) ∧ (F h 0 ≠ 0 → m.1 2 (12 + h) = Int32.ofInt (F h 2)) ∧ (F h 0 = 2 → ∀ k, 3 ≤ k → k < 10 → m.1 k (12 + h) = Int32.ofInt (F h k))) ∧ (∀ h, h < n → WR (c.2 5 h) (m.1 10 (2 * h)) (m.1 10 (2 * h + 1))) ∧ (∀ i, i < 11 → c0.2 4 i = (kst 65).2 i) ∧ Wc c0 c ∧ Wm m0 m
/-- a fault was found -/
def Bw (c0 m0 c m : eW) : Prop := ¬ m.1 24 27 = 0 ∧ c.1 6 5 = m.1 24 27 ∧ c.1 6 6 = m.1 24 28 ∧ Wc c0 c ∧ Wm m0 m
theorem Bfd.bw (h : Bfd c m n c' m') (k : Wc c0 c) (e : Wm m0 m) : Bw c0 m0 c' m' := ⟨h.1, h.2.1, h.2.2.1, k.tr h.2.2.2.1.wc, e.tr h.2.2.2.2.wm⟩
/-- a line is read -/
def LR (c0 m0 : eW) (L x : Nat) (X : Option (Int32 × eW)) (Y : Option eW) : Prop := (∃ c m z n F cv cd, X = some (1, c) ∧ Y = some m ∧ RD c0 m0 L z n F cv cd c m ∧ x ≤ z ∧ (¬ c.1 1 4 = 0 → x < z)) ∨ ∃ c m, X = some (0, c) ∧ Y = some m ∧ Bw c0 m0 c m
theorem LR.no {r : Option (Int32 × eW)} {y : Option eW} (h1 : r = some (0, c')) (h2 : y = some m') (b : Bw c0 m0 c' m') : LR c0 m0 L x (r.bind fun p7 => (if p7.1 = 0 ∨ p7.1 = 1 then some (p7.1, p7.2) else none)) (y.bind mTL) := by
  rw [h1, h2]
  simp only [obind, if_true, true_or, b_TL b.1]
  exact .inr ⟨c', m', rfl, rfl, b⟩
theorem cntK_le (F : Nat → Nat → Int) (k : Int) : ∀ n, cntK F k n ≤ n
  | 0 => Nat.le_refl _
  | n + 1 => by
    have := cntK_le F k n
    unfold cntK
    split <;> omega
theorem cntK_cg {F F' : Nat → Nat → Int} {k : Int} : ∀ {n : Nat}, (∀ h, h < n → F' h 0 = F h 0) → cntK F' k n = cntK F k n
  | 0, _ => rfl
  | n + 1, h => by
    have := cntK_cg (k := k) (n := n) fun i hi => h i (by omega)
    unfold cntK
    rw [this, h n (by omega)]
theorem cntK_sum {F : Nat → Nat → Int} : ∀ {n : Nat}, (∀ h, h < n → F h 0 = 0 ∨ F h 0 = 1 ∨ F h 0 = 2) → cntK F 0 n + cntK F 1 n + cntK F 2 n = n
  | 0, _ => rfl
  | n + 1, h => by
    have ih := cntK_sum (n := n) fun i hi => h i (by omega)
    unfold cntK
    rcases h n (by omega) with z | z | z <;> rw [z] <;> simp <;> omega
theorem d_fact0 {h : Nat} (h12 : h < n) (hn : n ≤ 12) (h0 : c.1 3 0 = Int32.ofInt (n : Nat)) : f_dr_fact (Int32.ofInt (h : Nat)) 0 c = some (c.1 2 (h * 10 + 0), c) := by
  have e2 : Int32.ofInt (h : Nat) * 10 + 0 = Int32.ofInt ((h * 10 + 0 : Nat) : Int) := by rw [show (10 : Int32) = Int32.ofInt 10 from rfl, show (0 : Int32) = Int32.ofInt 0 from rfl, ← Int32.ofInt_mul, ← Int32.ofInt_add]; congr 1
  unfold f_dr_fact
  rw [h0, if_neg (by rw [show (0 : Int32) = Int32.ofInt 0 from rfl, ilt (by omega) (by omega) (by omega) (by omega)]; omega), if_neg (by rw [ile (by omega) (by omega) (by omega) (by omega)]; omega), if_neg (by decide), if_neg (by decide), e2, eChk_of (by omega) (by omega) (by omega), icl (by omega) (by omega), nat_i]
theorem d_cnt (hF : FOK n F cv) (h0 : c.1 3 0 = Int32.ofInt (n : Nat)) (hr : ∀ h k, h < n → k < 10 → c.1 2 (h * 10 + k) = Int32.ofInt (F h k)) {k : Int} (k0 : 0 ≤ k) (k2 : k ≤ 2) : ∀ (d i f : Nat), i + d = n → d < f → f_dr_countOf_L4 f (Int32.ofInt k) (Int32.ofInt ((cntK F k i : Nat) : Int)) (Int32.ofInt (i : Nat)) c = some (Int32.ofInt ((cntK F k n : Nat) : Int), c) := by
  have hn := hF.1
  intro d
  induction d with
  | zero =>
    intro i f hi hf
    obtain ⟨f, rfl⟩ : ∃ g, f = g + 1 := ⟨f - 1, by omega⟩
    obtain rfl : i = n := by omega
    unfold f_dr_countOf_L4
    rw [h0, if_pos (Int32.le_refl _)]
  | succ d ih =>
    intro i f hi hf
    obtain ⟨f, rfl⟩ : ∃ g, f = g + 1 := ⟨f - 1, by omega⟩
    have fr := (hF.hd (show i < n by omega)).1
    unfold f_dr_countOf_L4
    rw [h0, if_neg (by rw [ile (by omega) (by omega) (by omega) (by omega)]; omega), d_fact0 (show i < n by omega) hn h0, obind]
    dsimp only
    rw [hr i 0 (by omega) (by omega), isucc]
    have st := ih (i + 1) f (by omega) (by omega)
    by_cases z : F i 0 = k
    · rw [if_neg (show ¬ ¬ Int32.ofInt (F i 0) = Int32.ofInt k from fun y => y (by rw [z])), isucc]
      rw [show cntK F k (i + 1) = cntK F k i + 1 by simp [cntK, z]] at st
      exact st
    · rw [if_pos (show ¬ Int32.ofInt (F i 0) = Int32.ofInt k by rw [ieq (by omega) (by omega) (by omega) (by omega)]; exact z), show (0 : Int32) = Int32.ofInt 0 from rfl, ← Int32.ofInt_add, Int.add_zero]
      rw [show cntK F k (i + 1) = cntK F k i by simp [cntK, z]] at st
      exact st
theorem m_cnt (hF : FOK n F cv) (h0 : m.1 24 3 = Int32.ofInt (n : Nat)) (hr : ∀ h, h < n → m.1 0 (12 + h) = Int32.ofInt (F h 0)) {k : Int} (k0 : 0 ≤ k) (k2 : k ≤ 2) : ∀ (d i f : Nat), i + d = n → d < f → f_mm_manyOf_L4 f (Int32.ofInt k) (Int32.ofInt ((cntK F k i : Nat) : Int)) (Int32.ofInt (i : Nat)) m = some (Int32.ofInt ((cntK F k n : Nat) : Int), m) := by
  have hn := hF.1
  intro d
  induction d with
  | zero =>
    intro i f hi hf
    obtain ⟨f, rfl⟩ : ∃ g, f = g + 1 := ⟨f - 1, by omega⟩
    obtain rfl : i = n := by omega
    unfold f_mm_manyOf_L4
    rw [h0, if_pos (Int32.le_refl _)]
  | succ d ih =>
    intro i f hi hf
    obtain ⟨f, rfl⟩ : ∃ g, f = g + 1 := ⟨f - 1, by omega⟩
    have fr := (hF.hd (show i < n by omega)).1
    unfold f_mm_manyOf_L4
    rw [h0, if_neg (by rw [ile (by omega) (by omega) (by omega) (by omega)]; omega), t_i (show i < 12 by omega), eChk_of (by omega) (by omega) (by omega), icl (by omega) (by omega), nat_i, hr i (by omega), isucc]
    have st := ih (i + 1) f (by omega) (by omega)
    by_cases z : F i 0 = k
    · rw [if_neg (show ¬ ¬ Int32.ofInt (F i 0) = Int32.ofInt k from fun y => y (by rw [z])), isucc]
      rw [show cntK F k (i + 1) = cntK F k i + 1 by simp [cntK, z]] at st
      exact st
    · rw [if_pos (show ¬ Int32.ofInt (F i 0) = Int32.ofInt k by rw [ieq (by omega) (by omega) (by omega) (by omega)]; exact z), show (0 : Int32) = Int32.ofInt 0 from rfl, ← Int32.ofInt_add, Int.add_zero]
      rw [show cntK F k (i + 1) = cntK F k i by simp [cntK, z]] at st
      exact st
theorem d_put' (h0 : c.1 3 0 = Int32.ofInt ((n + 1 : Nat) : Int)) (hn : n < 12) {a : Nat} (ha : a < 10) (v : Int32) : f_dr_put (Int32.ofInt (n : Nat)) (Int32.ofInt (a : Nat)) v c = some (eU1 c 2 (n * 10 + a) v) := by
  have e1 : Int32.ofInt ((n + 1 : Nat) : Int) - 1 = Int32.ofInt (n : Nat) := by rw [show (1 : Int32) = Int32.ofInt 1 from rfl, ← Int32.ofInt_sub]; congr 1; omega
  have := d_put h0 hn ha v
  rw [h0, e1] at this
  exact this
theorem add_loop (hn : n < 12) (k : Int32) : ∀ (d a f : Nat), a + d = 10 → d < f → ∀ w : eW, w.1 3 0 = Int32.ofInt ((n + 1 : Nat) : Int) → (∀ j, j < a → w.1 2 (n * 10 + j) = 0) → ∃ w', f_dr_add_L28 f k (Int32.ofInt (n : Nat)) (Int32.ofInt (a : Nat)) w = some (1, w') ∧ (∀ i j, ¬ (i = 2 ∧ n * 10 ≤ j) → w'.1 i j = w.1 i j) ∧ w'.2 = w.2 ∧ ∀ j, j < 10 → w'.1 2 (n * 10 + j) = if j = 0 then k else if j = 4 then 100 else if j = 5 then 100 else if j = 7 then -1 else 0 := by
  intro d
  induction d with
  | zero =>
    intro a f hk hf w h0 hw
    obtain ⟨f, rfl⟩ : ∃ g, f = g + 1 := ⟨f - 1, by omega⟩
    obtain rfl : a = 10 := by omega
    unfold f_dr_add_L28
    rw [if_pos (by decide), show (0 : Int32) = Int32.ofInt ((0 : Nat) : Int) from rfl, d_put' h0 hn (by omega), obind, show (4 : Int32) = Int32.ofInt ((4 : Nat) : Int) from rfl, d_put' (by rw [u1n _ _ _ _ _ _ (by omega)]; exact h0) hn (by omega), obind, show (5 : Int32) = Int32.ofInt ((5 : Nat) : Int) from rfl, d_put' (by rw [u1n _ _ _ _ _ _ (by omega), u1n _ _ _ _ _ _ (by omega)]; exact h0) hn (by omega), obind, show (7 : Int32) = Int32.ofInt ((7 : Nat) : Int) from rfl, d_put' (by rw [u1n _ _ _ _ _ _ (by omega), u1n _ _ _ _ _ _ (by omega), u1n _ _ _ _ _ _ (by omega)]; exact h0) hn (by omega), obind]
    refine ⟨_, rfl, fun i j e => by rw [u1n _ _ _ _ _ _ (by omega), u1n _ _ _ _ _ _ (by omega), u1n _ _ _ _ _ _ (by omega), u1n _ _ _ _ _ _ (by omega)], rfl, fun j hj => ?_⟩
    by_cases j7 : j = 7
    · subst j7; rw [u1s]; rfl
    rw [u1n _ _ _ _ _ _ (by omega)]
    by_cases j5 : j = 5
    · subst j5; rw [u1s]; rfl
    rw [u1n _ _ _ _ _ _ (by omega)]
    by_cases j4 : j = 4
    · subst j4; rw [u1s]; rfl
    rw [u1n _ _ _ _ _ _ (by omega)]
    by_cases j0 : j = 0
    · subst j0; rw [u1s]; rfl
    rw [u1n _ _ _ _ _ _ (by omega), if_neg j0, if_neg j4, if_neg j5, if_neg j7]
    exact hw j hj
  | succ d ih =>
    intro a f hk hf w h0 hw
    obtain ⟨f, rfl⟩ : ∃ g, f = g + 1 := ⟨f - 1, by omega⟩
    unfold f_dr_add_L28
    rw [if_neg (by rw [show (10 : Int32) = Int32.ofInt 10 from rfl, ile (by omega) (by omega) (by omega) (by omega)]; omega), d_put' h0 hn (by omega), obind, isucc]
    obtain ⟨w', e1, e2, e3, e4⟩ := ih (a + 1) f (by omega) (by omega) (eU1 w 2 (n * 10 + a) 0) (by rw [u1n _ _ _ _ _ _ (by omega)]; exact h0) (fun j hj => by
      by_cases z : j = a
      · subst z; rw [u1s]
      · rw [u1n _ _ _ _ _ _ (by omega)]; exact hw j (by omega))
    exact ⟨w', e1, fun i j e => by rw [e2 i j e, u1n _ _ _ _ _ _ (by omega)], by rw [e3]; rfl, e4⟩
theorem add_ok (hn : n < 12) {k : Int} (h0 : c.1 3 0 = Int32.ofInt (n : Nat)) : ∃ c', f_dr_add (Int32.ofInt k) c = some (1, c') ∧ Lc n c c' ∧ c'.2 = c.2 ∧ c'.1 3 0 = Int32.ofInt ((n + 1 : Nat) : Int) ∧ c'.1 6 = c.1 6 ∧ c'.1 1 = c.1 1 ∧ ∀ j, j < 10 → c'.1 2 (n * 10 + j) = Int32.ofInt (Gd k j) := by
  unfold f_dr_add
  rw [h0, if_pos (by rw [show (12 : Int32) = Int32.ofInt 12 from rfl, ilt (by omega) (by omega) (by omega) (by omega)]; omega), isucc]
  obtain ⟨w', e1, e2, e3, e4⟩ := add_loop hn (Int32.ofInt k) 10 0 eFu (by omega) (by rw [eFu_eq]; omega) (eU1 c 3 0 (Int32.ofInt ((n + 1 : Nat) : Int))) (by rw [u1s]) (by omega)
  refine ⟨w', e1, ⟨fun i j e => by rw [e2 i j (by omega), u1n _ _ _ _ _ _ (by omega)], fun i j e => by rw [e3]; rfl⟩, by rw [e3]; rfl, by rw [e2 3 0 (by omega), u1s], funext fun j => by rw [e2 6 j (by omega), u1n _ _ _ _ _ _ (by omega)], funext fun j => by rw [e2 1 j (by omega), u1n _ _ _ _ _ _ (by omega)], fun j hj => ?_⟩
  rw [e4 j hj]
  unfold Gd
  by_cases j0 : j = 0
  · rw [if_pos j0, if_pos j0]
  rw [if_neg j0, if_neg j0]
  by_cases j4 : j = 4
  · rw [if_pos j4, if_pos j4]; rfl
  rw [if_neg j4, if_neg j4]
  by_cases j5 : j = 5
  · rw [if_pos j5, if_pos j5]; rfl
  rw [if_neg j5, if_neg j5]
  by_cases j7 : j = 7
  · rw [if_pos j7, if_pos j7]; rfl
  rw [if_neg j7, if_neg j7]; rfl
end
