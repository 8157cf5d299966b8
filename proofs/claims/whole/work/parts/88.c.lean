/-! ===== the text: item by item ===== -/
section
variable {c m c' m' c1 m1 : eW} {L x0 n j x : Nat} {q : Bool} {G : Nat → Int} {T : eW → eW → Prop}
def upg (G : Nat → Int) (a : Nat) (v : Int) : Nat → Int := fun k => if k = a then v else G k
/-- in the line of holder n: whether its name stands, what is told of it (to the reference: the first j) -/
def Ln0 (c1 m1 : eW) (n : Nat) (q : Bool) (G : Nat → Int) (j : Nat) (c m : eW) : Prop := (n < 12 ∧ j ≤ 10 ∧ (∀ i, i < 11 → c1.2 4 i = (kst 65).2 i) ∧ ∀ h, h < n → WR (c1.2 5 h) (m1.1 10 (2 * h)) (m1.1 10 (2 * h + 1))) ∧ (m.1 24 27 = 0 ∧ c.1 6 5 = 0 ∧ c.1 6 6 = -1 ∧ c.1 3 0 = Int32.ofInt ((n + 1 : Nat) : Int) ∧ m.1 24 3 = Int32.ofInt (n : Nat)) ∧ (q = true → WR (c.2 5 n) (m.1 10 (2 * n)) (m.1 10 (2 * n + 1))) ∧ (∀ k, k < 10 → c.1 2 (n * 10 + k) = Int32.ofInt (G k)) ∧ (∀ k, k < j → m.1 k (12 + n) = Int32.ofInt (G k)) ∧ Lc n c1 c ∧ Lm n m1 m
def Ln (c1 m1 : eW) (L x0 n : Nat) (q : Bool) (G : Nat → Int) (j : Nat) (c m : eW) : Prop := (∃ x, x0 ≤ x ∧ Tok c m L x) ∧ Ln0 c1 m1 n q G j c m
theorem Ln0.sc (h : Ln0 c1 m1 n q G j c m) (k : Cs c c') (e : Mg m m') : Ln0 c1 m1 n q G j c' m' := by
  obtain ⟨h1, ⟨g1, g2, g3, g4, g5⟩, h3, h4, h5, h6, h7⟩ := h
  have j10 := h1.2.1
  refine ⟨h1, ⟨by rw [e.2 24 27 (by omega)]; exact g1, by rw [(k.1 6 (by omega)).1]; exact g2, by rw [(k.1 6 (by omega)).1]; exact g3, by rw [(k.1 3 (by omega)).1]; exact g4, by rw [e.2 24 3 (by omega)]; exact g5⟩, fun z => ?_, fun i hi => by rw [(k.1 2 (by omega)).1]; exact h4 i hi, fun i hi => by rw [e.2 i _ (by omega)]; exact h5 i hi, h6.tr k.lc, h7.tr e.lm⟩
  rw [(k.1 5 (by omega)).2, e.2 10 _ (by omega), e.2 10 _ (by omega)]
  exact h3 z
theorem Ln0.go (h : Ln0 c1 m1 n q G j c m) (t : Tp c m L x) (hx : x0 ≤ x) : ∃ c' m', f_ta_scan c = some c' ∧ f_mm_goOn m = some m' ∧ Ln c1 m1 L x0 n q G j c' m' := by
  obtain ⟨c', m', z, e1, e2, e3, e4, e5, e6, e7⟩ := scan_ok t h.2.1.1
  exact ⟨c', m', e1, e2, ⟨z, by omega, e3⟩, h.sc e6 e7⟩
theorem d_put (h0 : c.1 3 0 = Int32.ofInt ((n + 1 : Nat) : Int)) (hn : n < 12) {a : Nat} (ha : a < 10) (v : Int32) : f_dr_put (c.1 3 0 - 1) (Int32.ofInt (a : Nat)) v c = some (eU1 c 2 (n * 10 + a) v) := by
  have e1 : Int32.ofInt ((n + 1 : Nat) : Int) - 1 = Int32.ofInt (n : Nat) := by rw [show (1 : Int32) = Int32.ofInt 1 from rfl, ← Int32.ofInt_sub]; congr 1; omega
  have e2 : Int32.ofInt (n : Nat) * 10 + Int32.ofInt (a : Nat) = Int32.ofInt ((n * 10 + a : Nat) : Int) := by rw [show (10 : Int32) = Int32.ofInt 10 from rfl, ← Int32.ofInt_mul, ← Int32.ofInt_add]; congr 1
  unfold f_dr_put f_dr_isHolder
  rw [h0, e1, if_neg (by rw [show (0 : Int32) = Int32.ofInt 0 from rfl, ilt (by omega) (by omega) (by omega) (by omega)]; omega), if_neg (by rw [ile (by omega) (by omega) (by omega) (by omega)]; omega), obind]
  dsimp only
  rw [if_neg (show ¬ (1 : Int32) = 0 by decide), if_neg (by rw [show (0 : Int32) = Int32.ofInt 0 from rfl, ilt (by omega) (by omega) (by omega) (by omega)]; omega), if_neg (by rw [show (10 : Int32) = Int32.ofInt 10 from rfl, ile (by omega) (by omega) (by omega) (by omega)]; omega), e2, eChk_of (by omega) (by omega) (by omega), icl (by omega) (by omega), nat_i]
theorem Ln0.put (h : Ln0 c1 m1 n q G j c m) {a : Nat} (ha : a < 10) (hj : j ≤ a) (v : Int) : Ln0 c1 m1 n q (upg G a v) j (eU1 c 2 (n * 10 + a) (Int32.ofInt v)) m := by
  obtain ⟨h1, ⟨g1, g2, g3, g4, g5⟩, h3, h4, h5, h6, h7⟩ := h
  refine ⟨h1, ⟨g1, by rw [u1n _ _ _ _ _ _ (by omega)]; exact g2, by rw [u1n _ _ _ _ _ _ (by omega)]; exact g3, by rw [u1n _ _ _ _ _ _ (by omega)]; exact g4, g5⟩, h3, fun i hi => ?_, fun i hi => ?_, h6.u (by omega), h7⟩
  · unfold upg
    by_cases z : i = a
    · subst z; rw [u1s, if_pos rfl]
    · rw [u1n _ _ _ _ _ _ (by omega), if_neg z]; exact h4 i hi
  · unfold upg
    rw [if_neg (by omega)]; exact h5 i hi
theorem Ln0.kp (h : Ln0 c1 m1 n q G j c m) : ∀ i, i < 11 → c.2 4 i = (kst 65).2 i := fun i hi => by rw [h.2.2.2.2.2.1.2 4 i (by omega)]; exact h.1.2.2.1 i hi
/-- the reference writes what was told -/
theorem Ln.wr (h : Ln c1 m1 L x0 n q G j c m) (hj : j < 10) {v : Int32} (hv : v = Int32.ofInt (G j)) : Ln c1 m1 L x0 n q G (j + 1) c (eU1 m j (12 + n) v) := by
  obtain ⟨⟨x, hx, ⟨tp, e3, tv, v4, e4, e5, e6, e7⟩⟩, h1, ⟨g1, g2, g3, g4, g5⟩, h3, h4, h5, h6, h7⟩ := h
  have f : ∀ k, (eU1 m j (12 + n) v).1 24 k = m.1 24 k := fun k => u1n _ _ _ _ _ _ (by omega)
  refine ⟨⟨x, hx, tp.cg (fun _ => rfl) rfl rfl (fun i => u1n _ _ _ _ _ _ (by omega)) (f 19) (f 21), by rw [f]; exact e3, tv, v4, e4, by rw [f]; exact e5, fun z => by rw [f, f]; exact e6 z, fun z => by rw [f]; exact e7 z⟩, ⟨h1.1, by omega, h1.2.2⟩, ⟨by rw [f]; exact g1, g2, g3, g4, by rw [f]; exact g5⟩, fun z => by rw [u1n _ _ _ _ _ _ (by omega), u1n _ _ _ _ _ _ (by omega)]; exact h3 z, h4, fun i hi => ?_, h6, h7.u (by omega)⟩
  by_cases z : i = j
  · subst z; rw [u1s]; exact hv
  · rw [u1n _ _ _ _ _ _ (by omega)]; exact h5 i (by omega)
/-- how class and reference come to a line's sign -/
def Rst (T : eW → eW → Prop) (c1 m1 : eW) (n : Nat) (X : Option (Int32 × eW)) (Y : Option eW) : Prop := (∃ c m, X = SG c ∧ Y = some m ∧ T c m) ∨ ∃ c m, X = some (0, c) ∧ Y = some m ∧ Bfd c1 m1 n c m
theorem Rst.no (b : Bfd c1 m1 n c' m') {KM : eW → Option eW} (bad : ∀ m', ¬ m'.1 24 27 = 0 → ∃ m'', KM m' = some m'' ∧ BB n m' m'') : Rst T c1 m1 n (some (0, c')) (KM m') := by
  obtain ⟨m'', e1, e2⟩ := bad m' b.1
  exact .inr ⟨c', m'', rfl, e1, b.bb e2⟩
theorem num_rel (h : Ln c1 m1 L x0 n q G j c m) {a : Nat} (ha : a < 10) (hj : j ≤ a) {lo hi : Int} (l0 : 0 ≤ lo) (l1 : lo ≤ hi) (l2 : hi ≤ 9999) {A B D : Int32} (eA : A = Int32.ofInt (a : Nat)) (eB : B = Int32.ofInt lo) (eD : D = Int32.ofInt hi) {K : eW → Option (Int32 × eW)} {KM : Int32 → eW → Option eW}
    (ok : ∀ c' m' v, lo ≤ v → v ≤ hi → Ln c1 m1 L x0 n q (upg G a v) j c' m' → Rst T c1 m1 n (K c') (KM (Int32.ofInt v) m'))
    (bad : ∀ m', ¬ m'.1 24 27 = 0 → ∃ m'', KM 0 m' = some m'' ∧ BB n m' m'') :
    Rst T c1 m1 n (iNum A B D K c) ((f_mm_number B D m).bind fun p => KM p.1 p.2) := by
  subst eA eB eD
  obtain ⟨⟨x, hx, t⟩, h0⟩ := h
  have t' := t
  obtain ⟨tp, e3, tv, v4, e4, e5, e6, e7⟩ := t'
  have g := h0.2.1.1
  have lc := h0.2.2.2.2.2.1
  have lm := h0.2.2.2.2.2.2
  have no : ∀ b : Int32, ¬ b = 0 → ∀ z : Int32, Rst T c1 m1 n (((f_re_refuse b c).bind fun p1 => (if p1.1 = 0 ∨ p1.1 = 1 then some (p1.1, p1.2) else none)).bind fun p8 => (if ¬ p8.1 = 0 then ((f_ta_scan p8.2).bind fun w9 => (K w9)) else (some ((0 : Int32), p8.2)))) (((f_mm_fails b m).bind fun w2 => ((f_mm_goOn w2).bind fun w3 => ((f_mm_isGood w3).bind fun p4 => (if p4.1 = 0 then (some ((0 : Int32), p4.2)) else (some ((w2.1 24 23), p4.2)))))).bind fun p => KM p.1 p.2) := fun b hb z => by
    obtain ⟨c', m', r1, r2, r3⟩ := refuse_ok t g lc lm b hb
    rw [r1, r2]
    simp only [obind, b_go r3.1, b_good r3.1, if_true, true_or, not_true_eq_false, if_false]
    exact Rst.no (KM := KM 0) r3 bad
  unfold iNum f_re_readNumber f_mm_number f_mm_number_J23
  rw [g_good g, obind]
  dsimp only
  rw [if_neg (show ¬ (1 : Int32) = 0 by decide)]
  by_cases z : tv = 2
  · obtain ⟨v, v0, v9, w1, w2⟩ := e7 z
    have c4 : c.1 1 4 = 2 := by rw [e4, z]; rfl
    have m4 : m.1 24 22 = 2 := by rw [e5, z]; rfl
    rw [if_pos c4, if_pos m4, g_good g, obind]
    dsimp only
    rw [if_neg (show ¬ (1 : Int32) = 0 by decide), w1, w2, in_dec (toI_ofI (by omega) (by omega)) (toI_ofI (by omega) (by omega)), obind, toI_ofI (by omega) (by omega)]
    dsimp only
    by_cases y : lo ≤ v ∧ v ≤ hi
    · rw [decide_eq_true y, if_neg (by rw [ilt (by omega) (by omega) (by omega) (by omega)]; omega), if_pos (by rw [ile (by omega) (by omega) (by omega) (by omega)]; omega), if_pos (show ¬ Int32.ofInt (a : Nat) = 11 by rw [show (11 : Int32) = Int32.ofInt 11 from rfl, ieq (by omega) (by omega) (by omega) (by omega)]; omega), d_put h0.2.1.2.2.2.1 h0.1.1 ha, obind, obind]
      dsimp only
      rw [if_pos (show ¬ (1 : Int32) = 0 by decide), if_pos (show ¬ b2i true = 0 by decide)]
      obtain ⟨c'', m'', s1, s2, s3⟩ := (h0.put ha hj v).go (x0 := x0) (tp.cg (fun i => u1n _ _ _ _ _ _ (by omega)) (u1n _ _ _ _ _ _ (by omega)) (u1n _ _ _ _ _ _ (by omega)) (fun _ => rfl) rfl rfl) hx
      rw [s1, obind, s2, obind, g_good s3.2.2.1.1, obind]
      dsimp only
      rw [if_neg (show ¬ (1 : Int32) = 0 by decide), w2, obind]
      exact ok c'' m'' v y.1 y.2 s3
    · rw [decide_eq_false y, if_neg (show ¬ ¬ b2i false = 0 by decide)]
      by_cases y1 : v < lo
      · rw [if_pos (show Int32.ofInt v < Int32.ofInt lo by rw [ilt (by omega) (by omega) (by omega) (by omega)]; omega)]
        exact no 4 (by decide) 0
      · rw [if_neg (show ¬ Int32.ofInt v < Int32.ofInt lo by rw [ilt (by omega) (by omega) (by omega) (by omega)]; omega), if_neg (show ¬ Int32.ofInt v ≤ Int32.ofInt hi by rw [ile (by omega) (by omega) (by omega) (by omega)]; omega)]
        exact no 4 (by decide) 0
  · have c4 : ¬ c.1 1 4 = 2 := by rw [e4, show (2 : Int32) = Int32.ofInt 2 from rfl, ieq (by omega) (by omega) (by omega) (by omega)]; omega
    have m4 : ¬ m.1 24 22 = 2 := by rw [e5, show (2 : Int32) = Int32.ofInt 2 from rfl, ieq (by omega) (by omega) (by omega) (by omega)]; omega
    rw [if_neg c4, if_neg m4]
    exact no 2 (by decide) 0
theorem word_rel (h : Ln c1 m1 L x0 n q G j c m) {i : Nat} (hi : i < 11) (i8 : i ≠ 8) {A B D : Int32} (eA : A = Int32.ofInt (i : Nat)) (eB : B = kwA.getD i 0) (eD : D = kwB.getD i 0) {K : eW → Option (Int32 × eW)} {KM : eW → Option eW}
    (ok : ∀ c' m', Ln c1 m1 L x0 n q G j c' m' → Rst T c1 m1 n (K c') (KM m'))
    (bad : ∀ m', ¬ m'.1 24 27 = 0 → ∃ m'', KM m' = some m'' ∧ BB n m' m'') :
    Rst T c1 m1 n (iWord A K c) ((f_mm_keyword B D m).bind KM) := by
  subst eA eB eD
  obtain ⟨⟨x, hx, t⟩, h0⟩ := h
  have g := h0.2.1.1
  have lc := h0.2.2.2.2.2.1
  have lm := h0.2.2.2.2.2.2
  obtain ⟨r, r1, r2, kw, hw, -⟩ := kept_ok h0.kp t
  unfold iWord f_re_readWord f_mm_keyword
  rw [g_good g, obind, kw, obind]
  dsimp only
  rw [if_neg (show ¬ (1 : Int32) = 0 by decide), hw i hi, obind]
  dsimp only
  by_cases z : r = (i : Int)
  · rw [if_pos (show Int32.ofInt r = Int32.ofInt (i : Nat) by rw [z]), if_pos (show ¬ Int32.ofInt (i : Nat) = 8 by rw [show (8 : Int32) = Int32.ofInt 8 from rfl, ieq (by omega) (by omega) (by omega) (by omega)]; omega), obind, decide_eq_true z, if_pos (show ¬ b2i true = 0 by decide)]
    dsimp only
    rw [if_pos (show ¬ (1 : Int32) = 0 by decide)]
    obtain ⟨c'', m'', s1, s2, s3⟩ := h0.go (x0 := x0) t.1 hx
    rw [s1, obind, s2, obind, obind]
    exact ok c'' m'' s3
  · rw [if_neg (show ¬ Int32.ofInt r = Int32.ofInt (i : Nat) by rw [ieq (by omega) (by omega) (by omega) (by omega)]; omega), decide_eq_false z, if_neg (show ¬ ¬ b2i false = 0 by decide)]
    obtain ⟨c', m', r1, r2, r3⟩ := refuse_ok t g lc lm 2 (by decide)
    rw [r1, r2]
    simp only [obind, b_go r3.1, if_true, true_or, not_true_eq_false, if_false]
    exact Rst.no r3 bad
theorem opt_rel (h : Ln c1 m1 L x0 n q G j c m) {i : Nat} (hi : i < 11) {G' : Nat → Int} (i8 : (i ≠ 8 ∧ G' = G) ∨ (i = 8 ∧ j ≤ 6 ∧ G' = upg G 6 1)) {A B D : Int32} (eA : A = Int32.ofInt (i : Nat)) (eB : B = kwA.getD i 0) (eD : D = kwB.getD i 0) {K1 K2 : eW → Option (Int32 × eW)} {KM : Int32 → eW → Option eW}
    (ok1 : ∀ c' m', Ln c1 m1 L x0 n q G' j c' m' → Rst T c1 m1 n (K1 c') (KM 1 m'))
    (ok0 : Rst T c1 m1 n (K2 c) (KM 0 m)) :
    Rst T c1 m1 n (iOpt A K1 K2 c) ((f_mm_goesOver B D m).bind fun p => KM p.1 p.2) := by
  subst eA eB eD
  obtain ⟨⟨x, hx, t⟩, h0⟩ := h
  have g := h0.2.1.1
  obtain ⟨r, r1, r2, kw, hw, -⟩ := kept_ok h0.kp t
  unfold iOpt f_mm_goesOver
  rw [g_good g, obind, kw, obind]
  dsimp only
  rw [if_neg (show ¬ (1 : Int32) = 0 by decide), hw i hi, obind]
  dsimp only
  by_cases z : r = (i : Int)
  · rw [if_pos (show Int32.ofInt r = Int32.ofInt (i : Nat) by rw [z]), decide_eq_true z, if_neg (show ¬ b2i true = 0 by decide)]
    unfold iWord f_re_readWord
    rw [kw, obind]
    dsimp only
    rw [if_pos (show Int32.ofInt r = Int32.ofInt (i : Nat) by rw [z])]
    rcases i8 with ⟨i8, rfl⟩ | ⟨rfl, j6, rfl⟩
    · rw [if_pos (show ¬ Int32.ofInt (i : Nat) = 8 by rw [show (8 : Int32) = Int32.ofInt 8 from rfl, ieq (by omega) (by omega) (by omega) (by omega)]; omega), obind]
      dsimp only
      rw [if_pos (show ¬ (1 : Int32) = 0 by decide)]
      obtain ⟨c'', m'', s1, s2, s3⟩ := h0.go (x0 := x0) t.1 hx
      rw [s1, obind, s2, obind, obind]
      exact ok1 c'' m'' s3
    · rw [if_neg (show ¬ ¬ Int32.ofInt ((8 : Nat) : Int) = 8 from fun y => y rfl), show (6 : Int32) = Int32.ofInt ((6 : Nat) : Int) from rfl, d_put h0.2.1.2.2.2.1 h0.1.1 (by omega), obind, obind]
      dsimp only
      rw [if_pos (show ¬ (1 : Int32) = 0 by decide)]
      obtain ⟨c'', m'', s1, s2, s3⟩ := (h0.put (a := 6) (by omega) j6 1).go (x0 := x0) (t.1.cg (fun i => u1n _ _ _ _ _ _ (by omega)) (u1n _ _ _ _ _ _ (by omega)) (u1n _ _ _ _ _ _ (by omega)) (fun _ => rfl) rfl rfl) hx
      rw [show (1 : Int32) = Int32.ofInt 1 from rfl, s1, obind, s2, obind, obind]
      exact ok1 c'' m'' s3
  · rw [if_neg (show ¬ Int32.ofInt r = Int32.ofInt (i : Nat) by rw [ieq (by omega) (by omega) (by omega) (by omega)]; omega), decide_eq_false z, if_pos (show b2i false = 0 by decide), obind]
    exact ok0
theorem name_rel (h : Ln c1 m1 L x0 n false G j c m) {K : eW → Option (Int32 × eW)} {KM : eW → Option eW}
    (ok : ∀ c' m', Ln c1 m1 L x0 n true G j c' m' → Rst T c1 m1 n (K c') (KM m'))
    (bad : ∀ m', ¬ m'.1 24 27 = 0 → ∃ m'', KM m' = some m'' ∧ BB n m' m'') :
    Rst T c1 m1 n (iName K c) ((mN m).bind KM) := by
  obtain ⟨⟨x, hx, t⟩, h0⟩ := h
  have g := h0.2.1.1
  have lc := h0.2.2.2.2.2.1
  have lm := h0.2.2.2.2.2.2
  have hn := h0.1.1
  have m3 := h0.2.1.2.2.2.2
  obtain ⟨r, r1, r2, kw, hw, h22, hcm, hwr⟩ := kept_ok h0.kp t
  have iN := isName_ok r1 r2 hw
  unfold iName f_re_readName mN f_mm_readName_J26
  rw [g_good g, obind]
  dsimp only
  rw [if_neg (show ¬ (1 : Int32) = 0 by decide), iN, obind]
  dsimp only
  by_cases z : m.1 24 22 = 1 ∧ r = -1
  · obtain ⟨z1, z2⟩ := z
    rw [decide_eq_true ⟨z1, z2⟩, if_pos (show ¬ b2i true = 0 by decide), g_good g, obind, if_neg (show ¬ ¬ c.1 1 4 = 1 from fun y => y (by rw [hcm]; exact z1)), kw, obind]
    dsimp only
    rw [if_neg (show ¬ (1 : Int32) = 0 by decide), if_pos (show Int32.ofInt r = -1 by rw [z2]; rfl), h0.2.1.2.2.2.1, show Int32.ofInt ((n + 1 : Nat) : Int) - 1 = Int32.ofInt (n : Nat) by rw [show (1 : Int32) = Int32.ofInt 1 from rfl, ← Int32.ofInt_sub]; congr 1; omega]
    have nm : ∀ h, h < n → WR (c.2 5 h) (m.1 10 (2 * h)) (m.1 10 (2 * h + 1)) := fun h hh => by
      rw [lc.2 5 h (by omega), lm.2 10 (2 * h) (by omega), lm.2 10 (2 * h + 1) (by omega)]
      exact h0.1.2.2.2 h hh
    rcases told_loop hn nm (hwr z1) m3 n 0 eFu eFu (by omega) (by rw [eFu_eq]; omega) (by rw [eFu_eq]; omega) with ⟨t1, t2⟩ | ⟨t1, t2⟩
    · have t1' : f_re_readName_L37 eFu (Int32.ofInt (n : Nat)) 0 c = _ := t1
      have t2' : f_mm_isTold m = some (1, m) := t2
      obtain ⟨c', m', s1, s2, s3⟩ := refuse_ok t g lc lm 3 (by decide)
      rw [t1', t2', s1]
      simp only [obind, if_true, true_or, not_true_eq_false, if_false, show ¬ (1 : Int32) = 0 by decide]
      rw [s2]
      simp only [obind, b_go s3.1, b_good s3.1, if_true]
      exact Rst.no s3 bad
    · have t1' : f_re_readName_L37 eFu (Int32.ofInt (n : Nat)) 0 c = _ := t1
      have t2' : f_mm_isTold m = some (0, m) := t2
      have d2 : (2 : Int32) * Int32.ofInt (n : Nat) = Int32.ofInt ((2 * n : Nat) : Int) := by rw [show (2 : Int32) = Int32.ofInt 2 from rfl, ← Int32.ofInt_mul]; congr 1
      rw [t1', t2']
      simp only [obind, if_true, not_true_eq_false, if_false, show ¬ (1 : Int32) = 0 by decide, not_false_eq_true, g_good g, m3, d2, isucc]
      rw [eChk_of (by omega) (by omega) (by omega), eChk_of (by omega) (by omega) (by omega), icl (by omega) (by omega), icl (by omega) (by omega), nat_i, nat_i]
      have h1 : Ln0 c1 m1 n true G j (eU2 c 5 n (c.2 1 6)) (eU1 (eU1 m 10 (2 * n) (m.1 24 23)) 10 (2 * n + 1) (m.1 24 24)) := by
        obtain ⟨h1, ⟨g1, g2, g3, g4, g5⟩, h3, h4, h5, h6, h7⟩ := h0
        have j10 := h1.2.1
        refine ⟨h1, ⟨by rw [u1n _ _ _ _ _ _ (by omega), u1n _ _ _ _ _ _ (by omega)]; exact g1, g2, g3, g4, by rw [u1n _ _ _ _ _ _ (by omega), u1n _ _ _ _ _ _ (by omega)]; exact g5⟩, fun _ => ?_, h4, fun i hi => by rw [u1n _ _ _ _ _ _ (by omega), u1n _ _ _ _ _ _ (by omega)]; exact h5 i hi, h6.v (by omega), (h7.u (by omega)).u (by omega)⟩
        rw [u2s, u1s, u1n _ _ _ _ _ _ (by omega), u1s]
        exact hwr z1
      obtain ⟨c'', m'', s1, s2, s3⟩ := h1.go (x0 := x0) (t.1.cg (fun _ => rfl) rfl rfl (fun i => by rw [u1n _ _ _ _ _ _ (by omega), u1n _ _ _ _ _ _ (by omega)]) (by rw [u1n _ _ _ _ _ _ (by omega), u1n _ _ _ _ _ _ (by omega)]) (by rw [u1n _ _ _ _ _ _ (by omega), u1n _ _ _ _ _ _ (by omega)])) hx
      rw [s1, s2]
      simp only [obind]
      exact ok c'' m'' s3
  · rw [decide_eq_false z, if_neg (show ¬ ¬ b2i false = 0 by decide)]
    obtain ⟨c', m', s1, s2, s3⟩ := refuse_ok t g lc lm 2 (by decide)
    have cl : (if ¬ (c.1 1 4) = (1 : Int32) then ((f_re_refuse (2 : Int32) c).bind fun p1 => (if p1.1 = 0 ∨ p1.1 = 1 then some (p1.1, p1.2) else none)) else ((f_re_keptWord c).bind fun p2 => (if p2.1 = (-1 : Int32) then (f_re_readName_L37 eFu ((p2.2.1 3 0) - (1 : Int32)) (0 : Int32) p2.2) else ((f_re_refuse (2 : Int32) p2.2).bind fun p3 => (if p3.1 = 0 ∨ p3.1 = 1 then some (p3.1, p3.2) else none))))) = some (0, c') := by
      by_cases y : m.1 24 22 = 1
      · rw [if_neg (show ¬ ¬ c.1 1 4 = 1 from fun w => w (by rw [hcm]; exact y)), kw, obind]
        dsimp only
        rw [if_neg (show ¬ Int32.ofInt r = -1 by rw [show (-1 : Int32) = Int32.ofInt (-1) from rfl, ieq (by omega) (by omega) (by omega) (by omega)]; exact fun w => z ⟨y, w⟩), s1]
        simp only [obind, if_true, true_or]
      · rw [if_pos (show ¬ c.1 1 4 = 1 by rw [hcm]; exact y), s1]
        simp only [obind, if_true, true_or]
    rw [cl, s2]
    simp only [obind, b_go s3.1, b_good s3.1, if_true, not_true_eq_false, if_false]
    exact Rst.no s3 bad
end
