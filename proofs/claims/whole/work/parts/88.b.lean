/-! ===== the text: what both hold in a line ===== -/
section
variable {c m c' m' c1 m1 : eW} {L n x : Nat}
/-- what a line changes of the class -/
def Lc (n : Nat) (c c' : eW) : Prop := (∀ i k, ¬ ((i = 1 ∧ 2 ≤ k ∧ k ≤ 5) ∨ (i = 2 ∧ n * 10 ≤ k) ∨ (i = 3 ∧ k = 0) ∨ (i = 6 ∧ (k = 5 ∨ k = 6))) → c'.1 i k = c.1 i k) ∧ ∀ i k, ¬ (i = 1 ∨ (i = 5 ∧ n ≤ k)) → c'.2 i k = c.2 i k
/-- what a line changes of the reference -/
def Lm (n : Nat) (m m' : eW) : Prop := m'.2 = m.2 ∧ ∀ i k, ¬ ((i ≤ 9 ∧ 12 + n ≤ k) ∨ (i = 10 ∧ 2 * n ≤ k) ∨ (i = 24 ∧ (k = 3 ∨ (20 ≤ k ∧ k ≤ 24) ∨ k = 27 ∨ k = 28))) → m'.1 i k = m.1 i k
theorem Lc.rfl : Lc n c c := ⟨fun _ _ _ => Eq.refl _, fun _ _ _ => Eq.refl _⟩
theorem Lm.rfl : Lm n m m := ⟨Eq.refl _, fun _ _ _ => Eq.refl _⟩
theorem Lc.tr {a b d : eW} (h : Lc n a b) (k : Lc n b d) : Lc n a d := ⟨fun i j e => (k.1 i j e).trans (h.1 i j e), fun i j e => (k.2 i j e).trans (h.2 i j e)⟩
theorem Lm.tr {a b d : eW} (h : Lm n a b) (k : Lm n b d) : Lm n a d := ⟨k.1.trans h.1, fun i j e => (k.2 i j e).trans (h.2 i j e)⟩
theorem Lc.u {i k : Nat} {y : Int32} (h : Lc n c c') (hk : (i = 1 ∧ 2 ≤ k ∧ k ≤ 5) ∨ (i = 2 ∧ n * 10 ≤ k) ∨ (i = 3 ∧ k = 0) ∨ (i = 6 ∧ (k = 5 ∨ k = 6))) : Lc n c (eU1 c' i k y) := ⟨fun a b e => by rw [u1n _ _ _ _ _ _ (by omega)]; exact h.1 a b e, h.2⟩
theorem Lc.v {i k : Nat} {y : Int64} (h : Lc n c c') (hk : i = 1 ∨ (i = 5 ∧ n ≤ k)) : Lc n c (eU2 c' i k y) := ⟨h.1, fun a b e => by rw [u2n _ _ _ _ _ _ (by omega)]; exact h.2 a b e⟩
theorem Lm.u {i k : Nat} {y : Int32} (h : Lm n m m') (hk : (i ≤ 9 ∧ 12 + n ≤ k) ∨ (i = 10 ∧ 2 * n ≤ k) ∨ (i = 24 ∧ (k = 3 ∨ (20 ≤ k ∧ k ≤ 24) ∨ k = 27 ∨ k = 28))) : Lm n m (eU1 m' i k y) := ⟨h.1, fun a b e => by rw [u1n _ _ _ _ _ _ (by omega)]; exact h.2 a b e⟩
theorem Cs.lc (h : Cs c c') : Lc n c c' := ⟨fun i k e => by
  by_cases z : i = 1
  · subst z; exact h.2 k (by omega)
  · rw [(h.1 i z).1], fun i k e => by rw [(h.1 i (by omega)).2]⟩
theorem Mg.lm (h : Mg m m') : Lm n m m' := ⟨h.1, fun i k e => h.2 i k (by omega)⟩
theorem Tp.cg (t : Tp c m L x) (e0 : ∀ i, c'.1 0 i = c.1 0 i) (e1 : c'.1 1 1 = c.1 1 1) (e2 : c'.1 1 2 = c.1 1 2) (f0 : ∀ i, m'.1 11 i = m.1 11 i) (f1 : m'.1 24 19 = m.1 24 19) (f2 : m'.1 24 21 = m.1 24 21) : Tp c' m' L x := by
  obtain ⟨t1, t2, t3, t4, t5, t6, t7⟩ := t
  exact ⟨t1, t2, by rw [e1]; exact t3, by rw [f1]; exact t4, by rw [e2]; exact t5, by rw [f2]; exact t6, fun i hi => by rw [e0, f0]; exact t7 i hi⟩
/-- a fault was found: both hold it -/
def Bfd (c1 m1 : eW) (n : Nat) (c m : eW) : Prop := ¬ m.1 24 27 = 0 ∧ c.1 6 5 = m.1 24 27 ∧ c.1 6 6 = m.1 24 28 ∧ Lc n c1 c ∧ Lm n m1 m
/-- what the reference still does behind a fault -/
def BB (n : Nat) (m m' : eW) : Prop := Lm n m m' ∧ m'.1 24 27 = m.1 24 27 ∧ m'.1 24 28 = m.1 24 28
theorem BB.rfl : BB n m m := ⟨Lm.rfl, Eq.refl _, Eq.refl _⟩
theorem BB.tr {a b d : eW} (h : BB n a b) (k : BB n b d) : BB n a d := ⟨h.1.tr k.1, k.2.1.trans h.2.1, k.2.2.trans h.2.2⟩
theorem BB.u {i k : Nat} {y : Int32} (h : BB n m m') (hk : (i ≤ 9 ∧ 12 + n ≤ k) ∨ (i = 10 ∧ 2 * n ≤ k) ∨ (i = 24 ∧ k = 3)) : BB n m (eU1 m' i k y) := ⟨h.1.u (by omega), by rw [u1n _ _ _ _ _ _ (by omega)]; exact h.2.1, by rw [u1n _ _ _ _ _ _ (by omega)]; exact h.2.2⟩
theorem BB.ng (h : BB n m m') (g : ¬ m.1 24 27 = 0) : ¬ m'.1 24 27 = 0 := by rw [h.2.1]; exact g
theorem Bfd.bb (h : Bfd c1 m1 n c m) (k : BB n m m') : Bfd c1 m1 n c m' := ⟨k.ng h.1, h.2.1.trans k.2.1.symm, h.2.2.1.trans k.2.2.symm, h.2.2.2.1, h.2.2.2.2.tr k.1⟩
theorem b_good (g : ¬ m.1 24 27 = 0) : f_mm_isGood m = some (0, m) := by unfold f_mm_isGood; rw [if_pos g]
theorem g_good (g : m.1 24 27 = 0) : f_mm_isGood m = some (1, m) := by unfold f_mm_isGood; rw [if_neg (fun z => z g)]
theorem b_go (g : ¬ m.1 24 27 = 0) : f_mm_goOn m = some m := by unfold f_mm_goOn; rw [b_good g, obind, if_neg (fun z => z rfl)]
theorem b_num (g : ¬ m.1 24 27 = 0) (a b : Int32) : f_mm_number a b m = some (0, m) := by
  unfold f_mm_number f_mm_number_J23
  simp only [b_good g, obind, b_go g, if_true]
theorem b_key (g : ¬ m.1 24 27 = 0) (a b : Int32) : f_mm_keyword a b m = some m := by
  unfold f_mm_keyword
  simp only [b_good g, obind, b_go g, if_true]
theorem b_over (g : ¬ m.1 24 27 = 0) (a b : Int32) : f_mm_goesOver a b m = some (0, m) := by
  unfold f_mm_goesOver
  simp only [b_good g, obind, if_true]
theorem b_fails (g : ¬ m.1 24 27 = 0) (a : Int32) : f_mm_fails a m = some m := by unfold f_mm_fails; rw [if_pos g]
theorem b_TL (g : ¬ m.1 24 27 = 0) : mTL m = some m := by
  unfold mTL
  simp only [b_good g, obind, b_go g, if_true]
theorem t_i {n : Nat} (h : n < 12) : (12 : Int32) + Int32.ofInt (n : Nat) = Int32.ofInt ((12 + n : Nat) : Int) := by
  rw [show (12 : Int32) = Int32.ofInt 12 from rfl, ← Int32.ofInt_add]; congr 1
theorem b_138 (hn : n < 12) (g : ¬ m.1 24 27 = 0) (v : Int32) : ∃ m', f_mm_readTerms_J138 (Int32.ofInt ((12 + n : Nat) : Int)) v (Int32.ofInt ((12 + n : Nat) : Int)) m = some m' ∧ BB n m m' := by
  unfold f_mm_readTerms_J138
  simp only [eChk_of (show (0 : Int) ≤ ((12 + n : Nat) : Int) by omega) (show ((12 + n : Nat) : Int) < (24 : Nat) by omega) (by omega), icl (show -2147483648 ≤ ((12 + n : Nat) : Int) by omega) (by omega), nat_i]
  have b1 : BB n m (eU1 m 7 (12 + n) v) := BB.rfl.u (by omega)
  simp only [b_over (b1.ng g), obind, if_true]
  exact ⟨_, rfl, (b1.u (by omega)).u (by omega)⟩
theorem b_R6 (hn : n < 12) (g : ¬ m.1 24 27 = 0) (v : Int32) : ∃ m', mR6 (Int32.ofInt ((12 + n : Nat) : Int)) v m = some m' ∧ BB n m m' := by
  unfold mR6
  simp only [eChk_of (show (0 : Int) ≤ ((12 + n : Nat) : Int) by omega) (show ((12 + n : Nat) : Int) < (24 : Nat) by omega) (by omega), icl (show -2147483648 ≤ ((12 + n : Nat) : Int) by omega) (by omega), nat_i]
  have b1 : BB n m (eU1 m 6 (12 + n) v) := BB.rfl.u (by omega)
  simp only [b_over (b1.ng g), obind, if_true]
  obtain ⟨m', e1, e2⟩ := b_138 hn (b1.ng g) (-1)
  rw [e1, ite_self]
  exact ⟨m', rfl, b1.tr e2⟩
theorem b_76 (hn : n < 12) (g : ¬ m.1 24 27 = 0) (v : Int32) : ∃ m', f_mm_readTerms_J76 (Int32.ofInt ((12 + n : Nat) : Int)) v (Int32.ofInt ((12 + n : Nat) : Int)) m = some m' ∧ BB n m m' := by
  rw [mJ76]
  simp only [eChk_of (show (0 : Int) ≤ ((12 + n : Nat) : Int) by omega) (show ((12 + n : Nat) : Int) < (24 : Nat) by omega) (by omega), icl (show -2147483648 ≤ ((12 + n : Nat) : Int) by omega) (by omega), nat_i]
  have b1 : BB n m (eU1 m 5 (12 + n) v) := BB.rfl.u (by omega)
  simp only [b_over (b1.ng g), obind, if_true]
  obtain ⟨m', e1, e2⟩ := b_R6 hn (b1.ng g) 0
  exact ⟨m', e1, b1.tr e2⟩
theorem b_R4 (hn : n < 12) (g : ¬ m.1 24 27 = 0) (v : Int32) : ∃ m', mR4 (Int32.ofInt ((12 + n : Nat) : Int)) v m = some m' ∧ BB n m m' := by
  unfold mR4
  simp only [eChk_of (show (0 : Int) ≤ ((12 + n : Nat) : Int) by omega) (show ((12 + n : Nat) : Int) < (24 : Nat) by omega) (by omega), icl (show -2147483648 ≤ ((12 + n : Nat) : Int) by omega) (by omega), nat_i]
  have b1 : BB n m (eU1 m 4 (12 + n) v) := BB.rfl.u (by omega)
  simp only [b_over (b1.ng g), obind, if_true]
  obtain ⟨m', e1, e2⟩ := b_76 hn (b1.ng g) 100
  exact ⟨m', e1, b1.tr e2⟩
/-- behind the number of a rank -/
theorem b_3 (hn : n < 12) (g : ¬ m.1 24 27 = 0) (v : Int32) : ∃ m', (eChk (Int32.ofInt ((12 + n : Nat) : Int)) 24 ((f_mm_goesOver (21279923 : Int32) (0 : Int32) (eU1 m 3 (Int32.toNatClampNeg (Int32.ofInt ((12 + n : Nat) : Int))) v)).bind fun p3 => (if p3.1 = 0 then mR4 (Int32.ofInt ((12 + n : Nat) : Int)) 100 p3.2 else ((f_mm_number (0 : Int32) (400 : Int32) p3.2).bind fun p6 => mR4 (Int32.ofInt ((12 + n : Nat) : Int)) p6.1 p6.2)))) = some m' ∧ BB n m m' := by
  simp only [eChk_of (show (0 : Int) ≤ ((12 + n : Nat) : Int) by omega) (show ((12 + n : Nat) : Int) < (24 : Nat) by omega) (by omega), icl (show -2147483648 ≤ ((12 + n : Nat) : Int) by omega) (by omega), nat_i]
  have b1 : BB n m (eU1 m 3 (12 + n) v) := BB.rfl.u (by omega)
  simp only [b_over (b1.ng g), obind, if_true]
  obtain ⟨m', e1, e2⟩ := b_R4 hn (b1.ng g) 100
  exact ⟨m', e1, b1.tr e2⟩
theorem b_terms (hn : n < 12) (g : ¬ m.1 24 27 = 0) : ∃ m', f_mm_readTerms (Int32.ofInt ((12 + n : Nat) : Int)) m = some m' ∧ BB n m m' := by
  rw [mTerms, b_key g, obind, b_num g, obind]
  exact b_3 hn g 0
theorem refuse_ok (t : Tok c m L x) (g : m.1 24 27 = 0) (lc : Lc n c1 c) (lm : Lm n m1 m) (a : Int32) (ha : ¬ a = 0) : ∃ c' m', f_re_refuse a c = some (0, c') ∧ f_mm_fails a m = some m' ∧ Bfd c1 m1 n c' m' := by
  obtain ⟨-, e3, v, v4, e4, e5, -⟩ := t
  unfold f_re_refuse f_mm_fails
  rw [e4, e5, e3, if_neg (show ¬ ¬ m.1 24 27 = 0 from fun z => z g)]
  have fin : ∀ b : Int32, ¬ b = 0 → ∃ c' m', some ((0 : Int32), eU1 (eU1 c 6 5 b) 6 6 (m.1 24 20)) = some (0, c') ∧ some (eU1 (eU1 m 24 27 b) 24 28 (m.1 24 20)) = some m' ∧ Bfd c1 m1 n c' m' := fun b hb => by
    refine ⟨_, _, rfl, rfl, ?_, ?_, ?_, (lc.u (by omega)).u (by omega), (lm.u (by omega)).u (by omega)⟩
    · rw [u1n _ _ _ _ _ _ (by omega), u1s]; exact hb
    · rw [u1n _ _ _ _ _ _ (by omega), u1s, u1n _ _ _ _ _ _ (by omega), u1s]
    · rw [u1s, u1s]
  by_cases z : Int32.ofInt (v : Nat) = (4 : Int32)
  · rw [if_neg (fun y => y z), if_neg (fun y => y z)]; exact fin 1 (by decide)
  · rw [if_pos z, if_pos z]; exact fin a ha
theorem kept_loop (h1 : c.1 1 4 = 1) (kp : ∀ i, i < 11 → c.2 4 i = (kst 65).2 i) : ∀ (d k f : Nat), k + d = 11 → d < f → (∀ i, i < k → ¬ (kst 65).2 i = c.2 1 6) → (∃ i, i < 11 ∧ (kst 65).2 i = c.2 1 6 ∧ f_re_keptWord_L2 f (Int32.ofInt (k : Nat)) c = some (Int32.ofInt (i : Nat), c)) ∨ ((∀ i, i < 11 → ¬ (kst 65).2 i = c.2 1 6) ∧ f_re_keptWord_L2 f (Int32.ofInt (k : Nat)) c = some (-1, c)) := by
  intro d
  induction d with
  | zero =>
    intro k f hk hf hw
    obtain ⟨f, rfl⟩ : ∃ g, f = g + 1 := ⟨f - 1, by omega⟩
    obtain rfl : k = 11 := by omega
    right
    refine ⟨hw, ?_⟩
    unfold f_re_keptWord_L2
    rw [if_neg (fun z => z h1), if_pos (by decide)]
  | succ d ih =>
    intro k f hk hf hw
    obtain ⟨f, rfl⟩ : ∃ g, f = g + 1 := ⟨f - 1, by omega⟩
    unfold f_re_keptWord_L2
    rw [if_neg (fun z => z h1), if_neg (by rw [show (11 : Int32) = Int32.ofInt 11 from rfl, ile (by omega) (by omega) (by omega) (by omega)]; omega), eChk_of (by omega) (by omega) (by omega), icl (by omega) (by omega), nat_i, kp k (by omega), isucc]
    by_cases z : (kst 65).2 k = c.2 1 6
    · rw [if_neg (fun y => y ((lg_cmp_eq _ _).mpr z))]
      exact .inl ⟨k, by omega, z, rfl⟩
    · rw [if_pos (fun y => z ((lg_cmp_eq _ _).mp y))]
      exact ih (k + 1) f (by omega) (by omega) fun i hi => by
        by_cases y : i = k
        · rw [y]; exact z
        · exact hw i (by omega)
/-- which of the kept words is looked at, in both -/
theorem kept_ok (kp : ∀ i, i < 11 → c.2 4 i = (kst 65).2 i) (t : Tok c m L x) : ∃ r : Int, -1 ≤ r ∧ r < 11 ∧ f_re_keptWord c = some (Int32.ofInt r, c) ∧ (∀ i : Nat, i < 11 → f_mm_isWord (kwA.getD i 0) (kwB.getD i 0) m = some (b2i (decide (r = (i : Int))), m)) ∧ (¬ m.1 24 22 = 1 → r = -1) ∧ (c.1 1 4 = m.1 24 22) ∧ (m.1 24 22 = 1 → WR (c.2 1 6) (m.1 24 23) (m.1 24 24)) := by
  obtain ⟨-, e3, v, v4, e4, e5, e6, e7⟩ := t
  have v1 : m.1 24 22 = 1 → v = 1 := fun z => by
    rw [e5, show (1 : Int32) = Int32.ofInt 1 from rfl, ieq (by omega) (by omega) (by omega) (by omega)] at z; omega
  by_cases z : m.1 24 22 = 1
  · have wr := e6 (v1 z)
    have c4 : c.1 1 4 = 1 := by rw [e4, ← e5]; exact z
    have w : ∀ (r : Int) (i : Nat), i < 11 → ((kst 65).2 i = c.2 1 6 ↔ r = (i : Int)) → f_mm_isWord (kwA.getD i 0) (kwB.getD i 0) m = some (b2i (decide (r = (i : Int))), m) := fun r i hi he => by
      have q := WR_eq (kw_WR hi) wr
      unfold f_mm_isWord
      rw [if_neg (fun y => y z)]
      by_cases a : m.1 24 23 = kwA.getD i 0
      · rw [if_neg (fun y => y a)]
        by_cases b : m.1 24 24 = kwB.getD i 0
        · rw [if_neg (fun y => y b), decide_eq_true (he.mp (q.mpr ⟨a.symm, b.symm⟩))]; rfl
        · rw [if_pos b, decide_eq_false (fun y => b (q.mp (he.mpr y)).2.symm)]; rfl
      · rw [if_pos a, decide_eq_false (fun y => a (q.mp (he.mpr y)).1.symm)]; rfl
    rcases kept_loop c4 kp 11 0 eFu (by omega) (by rw [eFu_eq]; omega) (by omega) with ⟨i, i1, i2, i3⟩ | ⟨i1, i2⟩
    · refine ⟨(i : Int), by omega, by omega, i3, fun j hj => w _ j hj ⟨fun y => ?_, fun y => ?_⟩, fun y => absurd z y, by rw [e4, e5], fun _ => wr⟩
      · by_cases e : i = j
        · rw [e]
        · exact absurd (i2.trans y.symm) (kw_ne ⟨i, i1⟩ ⟨j, hj⟩ (fun q => e (Fin.mk.inj q)))
      · have : i = j := by omega
        rw [← this]; exact i2
    · have i2' : f_re_keptWord c = some (Int32.ofInt (-1), c) := by rw [show (Int32.ofInt (-1)) = (-1 : Int32) from rfl]; exact i2
      exact ⟨-1, by omega, by omega, i2', fun j hj => w _ j hj ⟨fun y => absurd y (i1 j hj), fun y => by omega⟩, fun y => absurd z y, by rw [e4, e5], fun _ => wr⟩
  · have c4 : ¬ c.1 1 4 = 1 := by rw [e4, ← e5]; exact z
    obtain ⟨f, hf⟩ : ∃ f, eFu = f + 1 := ⟨999999, by rw [eFu_eq]⟩
    refine ⟨-1, by omega, by omega, ?_, fun i hi => ?_, fun _ => rfl, by rw [e4, e5], fun y => absurd y z⟩
    · unfold f_re_keptWord
      rw [hf]
      unfold f_re_keptWord_L2
      rw [if_pos c4]; rfl
    · unfold f_mm_isWord
      rw [if_pos z, decide_eq_false (by omega)]; rfl
theorem isName_ok {r : Int} (h1 : -1 ≤ r) (h2 : r < 11) (hw : ∀ i : Nat, i < 11 → f_mm_isWord (kwA.getD i 0) (kwB.getD i 0) m = some (b2i (decide (r = (i : Int))), m)) : f_mm_isName m = some (b2i (decide (m.1 24 22 = 1 ∧ r = -1)), m) := by
  have w0 : f_mm_isWord 3650991 14 m = some (b2i (decide (r = ((0 : Nat) : Int))), m) := hw 0 (by omega)
  have w1 : f_mm_isWord 16273711 14 m = some (b2i (decide (r = ((1 : Nat) : Int))), m) := hw 1 (by omega)
  have w2 : f_mm_isWord 3540595 0 m = some (b2i (decide (r = ((2 : Nat) : Int))), m) := hw 2 (by omega)
  have w3 : f_mm_isWord 3197637 0 m = some (b2i (decide (r = ((3 : Nat) : Int))), m) := hw 3 (by omega)
  have w4 : f_mm_isWord 52 0 m = some (b2i (decide (r = ((4 : Nat) : Int))), m) := hw 4 (by omega)
  have w5 : f_mm_isWord 591307 0 m = some (b2i (decide (r = ((5 : Nat) : Int))), m) := hw 5 (by omega)
  have w6 : f_mm_isWord 21279923 0 m = some (b2i (decide (r = ((6 : Nat) : Int))), m) := hw 6 (by omega)
  have w7 : f_mm_isWord 18927919 0 m = some (b2i (decide (r = ((7 : Nat) : Int))), m) := hw 7 (by omega)
  have w8 : f_mm_isWord 20186697 455 m = some (b2i (decide (r = ((8 : Nat) : Int))), m) := hw 8 (by omega)
  have w9 : f_mm_isWord 3120 0 m = some (b2i (decide (r = ((9 : Nat) : Int))), m) := hw 9 (by omega)
  have w10 : f_mm_isWord 26379852 25 m = some (b2i (decide (r = ((10 : Nat) : Int))), m) := hw 10 (by omega)
  unfold f_mm_isName f_mm_isName_J57
  simp only [w0, w1, w2, w3, w4, w5, w6, w7, w8, w9, w10, obind, b2i_0]
  rcases (show r = -1 ∨ r = 0 ∨ r = 1 ∨ r = 2 ∨ r = 3 ∨ r = 4 ∨ r = 5 ∨ r = 6 ∨ r = 7 ∨ r = 8 ∨ r = 9 ∨ r = 10 by omega) with rfl | rfl | rfl | rfl | rfl | rfl | rfl | rfl | rfl | rfl | rfl | rfl <;> by_cases z : m.1 24 22 = 1 <;> simp [z, b2i]
theorem told_loop (hn : n < 12) (nm : ∀ h, h < n → WR (c.2 5 h) (m.1 10 (2 * h)) (m.1 10 (2 * h + 1))) (wr : WR (c.2 1 6) (m.1 24 23) (m.1 24 24)) (h3 : m.1 24 3 = Int32.ofInt (n : Nat)) : ∀ (d k f1 f2 : Nat), k + d = n → d < f1 → d < f2 → (f_re_readName_L37 f1 (Int32.ofInt (n : Nat)) (Int32.ofInt (k : Nat)) c = ((f_re_refuse (3 : Int32) c).bind fun p4 => (if p4.1 = 0 ∨ p4.1 = 1 then some (p4.1, p4.2) else none)) ∧ f_mm_isTold_L2 f2 (Int32.ofInt (k : Nat)) m = some (1, m)) ∨ (f_re_readName_L37 f1 (Int32.ofInt (n : Nat)) (Int32.ofInt (k : Nat)) c = some (1, eU2 c 5 n (c.2 1 6)) ∧ f_mm_isTold_L2 f2 (Int32.ofInt (k : Nat)) m = some (0, m)) := by
  intro d
  induction d with
  | zero =>
    intro k f1 f2 hk hf1 hf2
    obtain ⟨f1, rfl⟩ : ∃ g, f1 = g + 1 := ⟨f1 - 1, by omega⟩
    obtain ⟨f2, rfl⟩ : ∃ g, f2 = g + 1 := ⟨f2 - 1, by omega⟩
    obtain rfl : k = n := by omega
    right
    unfold f_re_readName_L37 f_mm_isTold_L2
    rw [h3, if_pos (Int32.le_refl _), if_neg (by rw [show (0 : Int32) = Int32.ofInt 0 from rfl, ilt (by omega) (by omega) (by omega) (by omega)]; omega), if_neg (by rw [show (12 : Int32) = Int32.ofInt 12 from rfl, ile (by omega) (by omega) (by omega) (by omega)]; omega), eChk_of (by omega) (by omega) (by omega), icl (by omega) (by omega), nat_i, if_pos (Int32.le_refl _)]
    exact ⟨rfl, rfl⟩
  | succ d ih =>
    intro k f1 f2 hk hf1 hf2
    obtain ⟨f1, rfl⟩ : ∃ g, f1 = g + 1 := ⟨f1 - 1, by omega⟩
    obtain ⟨f2, rfl⟩ : ∃ g, f2 = g + 1 := ⟨f2 - 1, by omega⟩
    have q := WR_eq (nm k (by omega)) wr
    unfold f_re_readName_L37 f_mm_isTold_L2
    have m2 : (2 : Int32) * Int32.ofInt (k : Nat) = Int32.ofInt ((2 * k : Nat) : Int) := by rw [show (2 : Int32) = Int32.ofInt 2 from rfl, ← Int32.ofInt_mul]; congr 1
    rw [h3, if_neg (by rw [ile (by omega) (by omega) (by omega) (by omega)]; omega), if_neg (by rw [show (12 : Int32) = Int32.ofInt 12 from rfl, ile (by omega) (by omega) (by omega) (by omega)]; omega), eChk_of (by omega) (by omega) (by omega), icl (by omega) (by omega), nat_i, if_neg (show ¬ Int32.ofInt (n : Nat) ≤ Int32.ofInt (k : Nat) by rw [ile (by omega) (by omega) (by omega) (by omega)]; omega), m2, isucc, isucc, eChk_of (by omega) (by omega) (by omega), eChk_of (by omega) (by omega) (by omega), icl (by omega) (by omega), icl (by omega) (by omega), nat_i, nat_i]
    have step := ih (k + 1) f1 f2 (by omega) (by omega) (by omega)
    by_cases z : c.2 5 k = c.2 1 6
    · obtain ⟨a, b⟩ := q.mp z
      rw [if_neg (fun y => y ((lg_cmp_eq _ _).mpr z)), if_neg (fun y => y a), if_neg (fun y => y b)]
      exact .inl ⟨rfl, rfl⟩
    · rw [if_pos (fun y => z ((lg_cmp_eq _ _).mp y))]
      by_cases a : m.1 10 (2 * k) = m.1 24 23
      · rw [if_neg (fun y => y a), if_pos (fun y => z (q.mpr ⟨a, y⟩))]; exact step
      · rw [if_pos a]; exact step
end
