/-! ===== the text: what comes of it ===== -/
section
variable {c m c' m' : eW} {L x n : Nat} {F : Nat → Nat → Int} {cv : Int}
/-- one holder more of the draft is taken over -/
noncomputable def cp10 (w : eW) (k : Nat) : eW := (eU1 (eU1 (eU1 (eU1 (eU1 (eU1 (eU1 (eU1 (eU1 (eU1 w 0 k (w.1 0 (12 + k))) 1 k (w.1 1 (12 + k))) 2 k (w.1 2 (12 + k))) 3 k (w.1 3 (12 + k))) 4 k (w.1 4 (12 + k))) 5 k (w.1 5 (12 + k))) 6 k (w.1 6 (12 + k))) 7 k (w.1 7 (12 + k))) 8 k (w.1 8 (12 + k))) 9 k (w.1 9 (12 + k)))
theorem cp10_s (w : eW) (k i : Nat) (hi : i < 10) : (cp10 w k).1 i k = w.1 i (12 + k) := by
  rcases (show i = 0 ∨ i = 1 ∨ i = 2 ∨ i = 3 ∨ i = 4 ∨ i = 5 ∨ i = 6 ∨ i = 7 ∨ i = 8 ∨ i = 9 by omega) with rfl | rfl | rfl | rfl | rfl | rfl | rfl | rfl | rfl | rfl <;> simp [cp10, eU1]
theorem cp10_n (w : eW) (k i h : Nat) (e : ¬ (i < 10 ∧ h = k)) : (cp10 w k).1 i h = w.1 i h := by
  unfold cp10
  rw [u1n _ _ _ _ _ _ (by omega), u1n _ _ _ _ _ _ (by omega), u1n _ _ _ _ _ _ (by omega), u1n _ _ _ _ _ _ (by omega), u1n _ _ _ _ _ _ (by omega), u1n _ _ _ _ _ _ (by omega), u1n _ _ _ _ _ _ (by omega), u1n _ _ _ _ _ _ (by omega), u1n _ _ _ _ _ _ (by omega), u1n _ _ _ _ _ _ (by omega)]
theorem take_loop : ∀ (d k f : Nat), k + d = 12 → d < f → ∀ w : eW, ∃ w', f_mm_text_L122 f (Int32.ofInt (k : Nat)) w = some (w.1 24 1, w') ∧ (∀ i h, i < 10 → k ≤ h → h < 12 → w'.1 i h = w.1 i (12 + h)) ∧ (∀ i h, ¬ (i < 10 ∧ k ≤ h ∧ h < 12) → ¬ (i = 24 ∧ (h = 16 ∨ h = 53 ∨ h = 54 ∨ h = 59)) → w'.1 i h = w.1 i h) ∧ w'.2 = w.2 ∧ w'.1 24 16 = 0 ∧ w'.1 24 53 = 0 ∧ w'.1 24 54 = 0 ∧ w'.1 24 59 = 0 := by
  intro d
  induction d with
  | zero =>
    intro k f hk hf w
    obtain ⟨f, rfl⟩ : ∃ g, f = g + 1 := ⟨f - 1, by omega⟩
    obtain rfl : k = 12 := by omega
    unfold f_mm_text_L122
    rw [if_pos (by decide)]
    refine ⟨_, rfl, fun i h h1 h2 h3 => by omega, fun i h h1 h2 => by rw [u1n _ _ _ _ _ _ (by omega), u1n _ _ _ _ _ _ (by omega), u1n _ _ _ _ _ _ (by omega), u1n _ _ _ _ _ _ (by omega)], rfl, ?_, ?_, ?_, ?_⟩
    · rw [u1n _ _ _ _ _ _ (by omega), u1n _ _ _ _ _ _ (by omega), u1n _ _ _ _ _ _ (by omega), u1s]
    · rw [u1s]
    · rw [u1n _ _ _ _ _ _ (by omega), u1n _ _ _ _ _ _ (by omega), u1s]
    · rw [u1n _ _ _ _ _ _ (by omega), u1s]
  | succ d ih =>
    intro k f hk hf w
    obtain ⟨f, rfl⟩ : ∃ g, f = g + 1 := ⟨f - 1, by omega⟩
    have hn : k < 12 := by omega
    have ce : ∀ {ρ : Type} {y : Option ρ}, eChk (Int32.ofInt (k : Nat)) 24 y = y := fun {ρ y} => eChk_of (by omega) (by omega) (by omega)
    have cc : Int32.toNatClampNeg (Int32.ofInt (k : Nat)) = k := by rw [icl (by omega) (by omega), nat_i]
    rw [f_mm_text_L122, if_neg (by rw [show (12 : Int32) = Int32.ofInt 12 from rfl, ile (by omega) (by omega) (by omega) (by omega)]; omega), t_i hn]
    simp only [ct hn, ce, cl_t hn, cc, isucc]
    obtain ⟨w', e1, e2, e3, e4, e5⟩ := ih (k + 1) f (by omega) (by omega) (cp10 w k)
    refine ⟨w', ?_, fun i h h1 h2 h3 => ?_, fun i h h1 h2 => ?_, by rw [e4]; rfl, e5⟩
    · rw [cp10_n _ _ _ _ (by omega)] at e1
      exact e1
    · by_cases z : h = k
      · subst z
        rw [e3 i h (by omega) (by omega), cp10_s _ _ _ h1]
      · rw [e2 i h h1 (by omega) h3, cp10_n _ _ _ _ (by omega)]
    · rw [e3 i h (by omega) h2, cp10_n _ _ _ _ (by omega)]
/-- what a call leaves as it was -/
theorem RA.cg {s : ZS} {l : List ZS} (ra : RA n cv c m s l) (k : ∀ i, i = 7 ∨ i = 8 ∨ (32 ≤ i ∧ i ≤ 37) → c'.1 i = c.1 i) (e1 : ∀ i h, i < 10 → h < 12 → m'.1 i h = m.1 i h) (e2 : ∀ i h, 21 ≤ i → i ≤ 23 → m'.1 i h = m.1 i h) (e3 : ∀ h, h = 1 ∨ h = 2 ∨ h = 16 ∨ (53 ≤ h ∧ h ≤ 59) → m'.1 24 h = m.1 24 h) : RA n cv c' m' s l := by
  have hn := ra.1.1.1
  refine ⟨ra.1, ?_, ?_, ra.2.2.2.q ra.1 (k 36 (by omega)) (k 37 (by omega)) (funext fun i => e2 21 i (by omega) (by omega)) (e3 53 (by omega))⟩
  · obtain ⟨⟨p1, p2, p3, p4⟩, q2, q3, q4, q5⟩ := ra.2.1
    exact ⟨⟨by rw [k 8 (by omega)]; exact p1, by rw [k 8 (by omega)]; exact p2, by rw [k 8 (by omega)]; exact p3, fun h i h1 h2 => by rw [k 7 (by omega)]; exact p4 h i h1 h2⟩, by rw [k 32 (by omega)]; exact q2, fun i => by rw [k 32 (by omega)]; exact q3 i, by rw [k 35 (by omega)]; exact q4, fun i => by rw [k 33 (by omega), k 34 (by omega)]; exact q5 i⟩
  · obtain ⟨⟨t1, t2, t3, t4⟩, q2, q3, q4, q5⟩ := ra.2.2.1
    refine ⟨⟨by rw [e3 1 (by omega)]; exact t1, by rw [e3 2 (by omega)]; exact t2, by rw [e3 16 (by omega)]; exact t3, fun i hi => ?_⟩, by rw [e3 59 (by omega)]; exact q2, fun i i1 i2 => by rw [e3 _ (by omega)]; exact q3 i i1 i2, by rw [e3 54 (by omega)]; exact q4, fun i => by rw [e2 22 i (by omega) (by omega), e2 23 i (by omega) (by omega)]; exact q5 i⟩
    have q := t4 i hi
    rw [e1 0 i (by omega) (by omega), e1 1 i (by omega) (by omega), e1 2 i (by omega) (by omega)]
    exact ⟨q.1, q.2.1, q.2.2.1, fun a j k1 k2 => by rw [e1 j i (by omega) (by omega)]; exact q.2.2.2 a j k1 k2⟩
theorem r_text (h : Rel c m) : Rr (f_xx_text c) (f_mm_text m) := by
  obtain ⟨kp, -, ⟨L, tr⟩, n1, cv1, s, l, ra⟩ := h
  obtain ⟨l7, tc, tm, tb⟩ := tr
  -- before the first look
  generalize hc0 : eU1 (eU1 (eU1 (eU1 (eU1 (eU1 (eU1 c 3 0 (0 : Int32)) 3 1 (0 : Int32)) 3 2 (0 : Int32)) 6 3 (0 : Int32)) 6 5 (0 : Int32)) 6 6 (-1 : Int32)) 1 2 (0 : Int32) = c0
  generalize hm0 : (eU1 (eU1 (eU1 (eU1 (eU1 (eU1 (eU1 (eU1 m 24 0 (0 : Int32)) 24 19 (m.1 24 18)) 24 18 (0 : Int32)) 24 21 (0 : Int32)) 24 27 (0 : Int32)) 24 3 (0 : Int32)) 24 4 (0 : Int32)) 24 29 (0 : Int32)) = m0
  have ck : ∀ i j, i ≠ 3 → i ≠ 6 → ¬ (i = 1 ∧ j = 2) → c0.1 i j = c.1 i j := fun i j i1 i2 i3 => by
    rw [← hc0, u1n _ _ _ _ _ _ (by omega), u1n _ _ _ _ _ _ (by omega), u1n _ _ _ _ _ _ (by omega), u1n _ _ _ _ _ _ (by omega), u1n _ _ _ _ _ _ (by omega), u1n _ _ _ _ _ _ (by omega), u1n _ _ _ _ _ _ (by omega)]
  have ck2 : c0.2 = c.2 := by rw [← hc0]; rfl
  have c12 : c0.1 1 2 = 0 := by rw [← hc0, u1s]
  have c66 : c0.1 6 6 = -1 := by rw [← hc0, u1n _ _ _ _ _ _ (by omega), u1s]
  have c65 : c0.1 6 5 = 0 := by rw [← hc0, u1n _ _ _ _ _ _ (by omega), u1n _ _ _ _ _ _ (by omega), u1s]
  have c63 : c0.1 6 3 = 0 := by rw [← hc0, u1n _ _ _ _ _ _ (by omega), u1n _ _ _ _ _ _ (by omega), u1n _ _ _ _ _ _ (by omega), u1s]
  have c32 : c0.1 3 2 = 0 := by rw [← hc0, u1n _ _ _ _ _ _ (by omega), u1n _ _ _ _ _ _ (by omega), u1n _ _ _ _ _ _ (by omega), u1n _ _ _ _ _ _ (by omega), u1s]
  have c31 : c0.1 3 1 = 0 := by rw [← hc0, u1n _ _ _ _ _ _ (by omega), u1n _ _ _ _ _ _ (by omega), u1n _ _ _ _ _ _ (by omega), u1n _ _ _ _ _ _ (by omega), u1n _ _ _ _ _ _ (by omega), u1s]
  have c30 : c0.1 3 0 = 0 := by rw [← hc0, u1n _ _ _ _ _ _ (by omega), u1n _ _ _ _ _ _ (by omega), u1n _ _ _ _ _ _ (by omega), u1n _ _ _ _ _ _ (by omega), u1n _ _ _ _ _ _ (by omega), u1n _ _ _ _ _ _ (by omega), u1s]
  have mk : ∀ i j, ¬ (i = 24 ∧ (j = 0 ∨ j = 19 ∨ j = 18 ∨ j = 21 ∨ j = 27 ∨ j = 3 ∨ j = 4 ∨ j = 29)) → m0.1 i j = m.1 i j := fun i j e => by
    rw [← hm0, u1n _ _ _ _ _ _ (by omega), u1n _ _ _ _ _ _ (by omega), u1n _ _ _ _ _ _ (by omega), u1n _ _ _ _ _ _ (by omega), u1n _ _ _ _ _ _ (by omega), u1n _ _ _ _ _ _ (by omega), u1n _ _ _ _ _ _ (by omega), u1n _ _ _ _ _ _ (by omega)]
  have mk2 : m0.2 = m.2 := by rw [← hm0]; rfl
  have m29 : m0.1 24 29 = 0 := by rw [← hm0, u1s]
  have m4 : m0.1 24 4 = 0 := by rw [← hm0, u1n _ _ _ _ _ _ (by omega), u1s]
  have m3 : m0.1 24 3 = 0 := by rw [← hm0, u1n _ _ _ _ _ _ (by omega), u1n _ _ _ _ _ _ (by omega), u1s]
  have m27 : m0.1 24 27 = 0 := by rw [← hm0, u1n _ _ _ _ _ _ (by omega), u1n _ _ _ _ _ _ (by omega), u1n _ _ _ _ _ _ (by omega), u1s]
  have m21 : m0.1 24 21 = 0 := by rw [← hm0, u1n _ _ _ _ _ _ (by omega), u1n _ _ _ _ _ _ (by omega), u1n _ _ _ _ _ _ (by omega), u1n _ _ _ _ _ _ (by omega), u1s]
  have m18 : m0.1 24 18 = 0 := by rw [← hm0, u1n _ _ _ _ _ _ (by omega), u1n _ _ _ _ _ _ (by omega), u1n _ _ _ _ _ _ (by omega), u1n _ _ _ _ _ _ (by omega), u1n _ _ _ _ _ _ (by omega), u1s]
  have m19 : m0.1 24 19 = Int32.ofInt (L : Nat) := by rw [← hm0, u1n _ _ _ _ _ _ (by omega), u1n _ _ _ _ _ _ (by omega), u1n _ _ _ _ _ _ (by omega), u1n _ _ _ _ _ _ (by omega), u1n _ _ _ _ _ _ (by omega), u1n _ _ _ _ _ _ (by omega), u1s]; exact tm
  have tp : Tp c0 m0 L 0 := ⟨l7, by omega, by rw [ck 1 1 (by omega) (by omega) (by omega)]; exact tc, m19, c12, m21, fun i hi => by rw [ck 0 i (by omega) (by omega) (by omega), mk 11 i (by omega)]; exact tb i hi⟩
  obtain ⟨c1, m1, z, s1, s2, s3, s4, s5, s6, s7⟩ := scan_ok tp m27
  have rd : RD c0 m0 L z 0 (fun _ _ => 0) 0 false c1 m1 := by
    refine ⟨s3, ⟨by rw [s7.2 24 27 (by omega)]; exact m27, by rw [(s6.1 6 (by omega)).1]; exact c65, by rw [(s6.1 6 (by omega)).1]; exact c66⟩, ⟨by rw [(s6.1 3 (by omega)).1]; exact c30, by rw [s7.2 24 3 (by omega)]; exact m3⟩, ⟨by rw [(s6.1 3 (by omega)).1]; exact c31, by rw [s7.2 24 4 (by omega)]; exact m4, by rw [(s6.1 6 (by omega)).1]; exact c63, by rw [s7.2 24 29 (by omega)]; exact m29⟩, ⟨by omega, by omega, by omega, by simp [cntK], by simp [cntK], by simp [cntK], fun h hh => by omega⟩, fun h k hh => by omega, fun h hh => by omega, fun h hh => by omega, fun i hi => by rw [ck2]; exact kp i hi, (s6.lc (n := 0)).wc, (s7.lm (n := 0)).wm⟩
  have eC : f_xx_text c = ((f_re_readAll_L31 eFu (0 : Int32) c1).bind fun p1 => ((f_ta_cut (0 : Int32) p1.2).bind fun p2 => (if ¬ p1.1 = 0 then ((f_fi_become p2.2).bind fun w3 => (some ((w3.1 8 0), (eU1 (eU1 (eU1 w3 32 0 (0 : Int32)) 35 2 (0 : Int32)) 37 2 (0 : Int32))))) else (some ((-1 : Int32), p2.2))))) := by
    unfold f_xx_text f_re_readAll f_dr_clear f_ta_rewind
    rw [obind, hc0, s1, obind, obind]
  have eM : f_mm_text m = f_mm_text_L47 eFu m1 := by
    unfold f_mm_text
    rw [hm0, s2, obind]
  rw [eC, eM]
  -- what does not change, whatever is read
  have cK : ∀ {w : eW}, Wc c0 w → ∀ i, i = 7 ∨ i = 8 ∨ (32 ≤ i ∧ i ≤ 37) → w.1 i = c.1 i := fun {w} k i hi => funext fun j => by rw [k.1 i j (by omega), ck i j (by omega) (by omega) (by omega)]
  have mK : ∀ {w : eW}, Wm m0 w → ∀ i j, ¬ (i ≤ 10) → ¬ (i = 24 ∧ (j = 0 ∨ j = 18 ∨ j = 19 ∨ j = 21 ∨ j = 3 ∨ j = 4 ∨ (20 ≤ j ∧ j ≤ 24) ∨ (27 ≤ j ∧ j ≤ 29))) → w.1 i j = m.1 i j := fun {w} k i j i1 i2 => by rw [k.2 i j (by omega), mk i j (by omega)]
  have cut : ∀ {w : eW}, Wc c0 w → f_ta_cut 0 w = some (1, eU1 w 1 1 0) := fun {w} k => by
    unfold f_ta_cut
    rw [if_neg (by decide), k.1 1 1 (by omega), ck 1 1 (by omega) (by omega) (by omega), tc, if_pos (by rw [show (0 : Int32) = Int32.ofInt 0 from rfl, ile (by omega) (by omega) (by omega) (by omega)]; omega)]
  rcases lines_ok 700 0 eFu eFu (by omega) (by rw [eFu_eq]; omega) (by rw [eFu_eq]; omega) c1 m1 z 0 _ 0 false rd s5 with ⟨c2, m2, y, n, F, cv, cd, q1, q2, q3⟩ | ⟨c2, m2, q1, q2, q3⟩
  · have q1' : f_re_readAll_L31 eFu (0 : Int32) c1 = some (1, c2) := q1
    obtain ⟨t, ⟨g, g65, g66⟩, ⟨d30, d3⟩, ⟨v1, v2, -, -⟩, hF, cr, mr, nm, -, wc, wm⟩ := q3
    have hn := hF.1
    have g25 : (eU1 m2 24 25 (m2.1 24 27)).1 24 27 = 0 := by rw [u1n _ _ _ _ _ _ (by omega)]; exact g
    have g26 : (eU1 (eU1 m2 24 25 (m2.1 24 27)) 24 26 (-1)).1 24 27 = 0 := by rw [u1n _ _ _ _ _ _ (by omega)]; exact g25
    rw [q1', q2, obind, cut wc, obind]
    dsimp only
    rw [if_pos (show ¬ (1 : Int32) = 0 by decide)]
    unfold f_fi_become f_mm_text_J68
    rw [if_pos (by decide), obind, g_good g25, obind]
    dsimp only
    rw [if_neg (show ¬ (1 : Int32) = 0 by decide), g_good g26, obind]
    dsimp only
    rw [if_pos (show ¬ (1 : Int32) = 0 by decide)]
    generalize hw : (eU1 (eU1 (eU1 (eU1 m2 24 25 (m2.1 24 27)) 24 26 (-1)) 24 1 ((eU1 (eU1 m2 24 25 (m2.1 24 27)) 24 26 (-1)).1 24 3)) 24 2 ((eU1 (eU1 m2 24 25 (m2.1 24 27)) 24 26 (-1)).1 24 4)) = w
    have wk : ∀ i j, ¬ (i = 24 ∧ (j = 1 ∨ j = 2 ∨ j = 25 ∨ j = 26)) → w.1 i j = m2.1 i j := fun i j e => by rw [← hw, u1n _ _ _ _ _ _ (by omega), u1n _ _ _ _ _ _ (by omega), u1n _ _ _ _ _ _ (by omega), u1n _ _ _ _ _ _ (by omega)]
    have w1 : w.1 24 1 = Int32.ofInt (n : Nat) := by rw [← hw, u1n _ _ _ _ _ _ (by omega), u1s, u1n _ _ _ _ _ _ (by omega), u1n _ _ _ _ _ _ (by omega)]; exact d3
    have w2 : w.1 24 2 = Int32.ofInt cv := by rw [← hw, u1s, u1n _ _ _ _ _ _ (by omega), u1n _ _ _ _ _ _ (by omega)]; exact v2
    have w25 : w.1 24 25 = 0 := by rw [← hw, u1n _ _ _ _ _ _ (by omega), u1n _ _ _ _ _ _ (by omega), u1n _ _ _ _ _ _ (by omega), u1s]; exact g
    have w26 : w.1 24 26 = -1 := by rw [← hw, u1n _ _ _ _ _ _ (by omega), u1n _ _ _ _ _ _ (by omega), u1s]
    obtain ⟨m5, e1, e2, e3, e4, e16, e53, e54, e59⟩ := take_loop 12 0 eFu (by omega) (by rw [eFu_eq]; omega) w
    have e1' : f_mm_text_L122 eFu (0 : Int32) w = some (Int32.ofInt (n : Nat), m5) := by rw [← w1]; exact e1
    rw [e1']
    generalize hc5 : eCp1 (eU1 (eU1 (eU1 (eU1 c2 1 1 0) 8 0 ((eU1 c2 1 1 0).1 3 0)) 8 1 ((eU1 c2 1 1 0).1 3 1)) 8 2 ((eU1 c2 1 1 0).1 3 2)) 7 2 (Int32.toNatClampNeg (0 : Int32)) (Int32.toNatClampNeg (0 : Int32)) (Int32.toNatClampNeg (120 : Int32)) = c5
    have f7 : ∀ j, j < 120 → c5.1 7 j = c2.1 2 j := fun j hj => by
      rw [← hc5]
      show va_cpy ((eU1 (eU1 (eU1 (eU1 c2 1 1 0) 8 0 ((eU1 c2 1 1 0).1 3 0)) 8 1 ((eU1 c2 1 1 0).1 3 1)) 8 2 ((eU1 c2 1 1 0).1 3 2)).1 2) _ 0 0 120 j = _
      unfold va_cpy
      rw [if_pos (by omega), show 0 + (j - 0) = j by omega, u1n _ _ _ _ _ _ (by omega), u1n _ _ _ _ _ _ (by omega), u1n _ _ _ _ _ _ (by omega), u1n _ _ _ _ _ _ (by omega)]
    have fo : ∀ i j, i ≠ 7 → c5.1 i j = (eU1 (eU1 (eU1 (eU1 c2 1 1 0) 8 0 ((eU1 c2 1 1 0).1 3 0)) 8 1 ((eU1 c2 1 1 0).1 3 1)) 8 2 ((eU1 c2 1 1 0).1 3 2)).1 i j := fun i j hi => by
      rw [← hc5]
      exact if_neg hi
    have f80 : c5.1 8 0 = Int32.ofInt (n : Nat) := by rw [fo 8 0 (by omega), u1n _ _ _ _ _ _ (by omega), u1n _ _ _ _ _ _ (by omega), u1s, u1n _ _ _ _ _ _ (by omega)]; exact d30
    have f81 : c5.1 8 1 = Int32.ofInt cv := by rw [fo 8 1 (by omega), u1n _ _ _ _ _ _ (by omega), u1s, u1n _ _ _ _ _ _ (by omega)]; exact v1
    have f82 : c5.1 8 2 = 0 := by rw [fo 8 2 (by omega), u1s, u1n _ _ _ _ _ _ (by omega), wc.1 3 2 (by omega)]; exact c32
    have f11 : c5.1 1 1 = 0 := by rw [fo 1 1 (by omega), u1n _ _ _ _ _ _ (by omega), u1n _ _ _ _ _ _ (by omega), u1n _ _ _ _ _ _ (by omega), u1s]
    have fr : ∀ i j, i ≠ 7 → i ≠ 8 → i ≠ 1 → c5.1 i j = c2.1 i j := fun i j i1 i2 i3 => by rw [fo i j i1, u1n _ _ _ _ _ _ (by omega), u1n _ _ _ _ _ _ (by omega), u1n _ _ _ _ _ _ (by omega), u1n _ _ _ _ _ _ (by omega)]
    have f2 : c5.2 = c2.2 := by rw [← hc5]; rfl
    rw [f80]
    generalize hc6 : eU1 (eU1 (eU1 c5 32 0 (0 : Int32)) 35 2 (0 : Int32)) 37 2 (0 : Int32) = c6
    have k6 : ∀ i j, ¬ (i = 32 ∧ j = 0) → ¬ (i = 35 ∧ j = 2) → ¬ (i = 37 ∧ j = 2) → c6.1 i j = c5.1 i j := fun i j i1 i2 i3 => by rw [← hc6, u1n _ _ _ _ _ _ (by omega), u1n _ _ _ _ _ _ (by omega), u1n _ _ _ _ _ _ (by omega)]
    have k62 : c6.2 = c2.2 := by rw [← hc6]; exact f2
    have m5k : ∀ i j, ¬ (i ≤ 10) → ¬ (i = 24 ∧ (j = 0 ∨ j = 18 ∨ j = 19 ∨ j = 21 ∨ j = 3 ∨ j = 4 ∨ (20 ≤ j ∧ j ≤ 24) ∨ (27 ≤ j ∧ j ≤ 29))) → ¬ (i = 24 ∧ (j = 1 ∨ j = 2 ∨ j = 25 ∨ j = 26 ∨ j = 16 ∨ j = 53 ∨ j = 54 ∨ j = 59)) → m5.1 i j = m.1 i j := fun i j i1 i2 i3 => by rw [e3 i j (by omega) (by omega), wk i j (by omega), mK wm i j i1 i2]
    refine ⟨_, c6, m5, rfl, rfl, fun i hi => ?_, ⟨?_, ?_⟩, ⟨0, by omega, ?_, ?_, fun i hi => by omega⟩, n, cv, (F, 0, false, s.2.2.2.1, 0, fun _ => 0, fun _ => 0), [], ⟨hF, by simp, fun i hi => by simp at hi, fun e => by simp at e⟩, ⟨⟨?_, ?_, ?_, fun h k hh hk => ?_⟩, ?_, fun k k1 k2 => ?_, ?_, fun i hi => by simp at hi⟩, ⟨⟨?_, ?_, ?_, fun h hh => ?_⟩, ?_, fun k k1 k2 => ?_, ?_, fun i hi => by simp at hi⟩, by simp, fun u hu => by simp at hu, ?_, ?_, ?_, fun j u hj => by simp at hj⟩
    · rw [k62, wc.2 4 i (by omega), ck2]; exact kp i hi
    · rw [k6 6 5 (by omega) (by omega) (by omega), fr 6 5 (by omega) (by omega) (by omega), g65, e3 24 25 (by omega) (by omega), w25]
    · rw [k6 6 6 (by omega) (by omega) (by omega), fr 6 6 (by omega) (by omega) (by omega), g66, e3 24 26 (by omega) (by omega), w26]
    · rw [k6 1 1 (by omega) (by omega) (by omega), f11]; rfl
    · rw [e3 24 18 (by omega) (by omega), wk 24 18 (by omega), wm.2 24 18 (by omega), m18]; rfl
    · rw [k6 8 0 (by omega) (by omega) (by omega)]; exact f80
    · rw [k6 8 1 (by omega) (by omega) (by omega)]; exact f81
    · rw [k6 8 2 (by omega) (by omega) (by omega)]; exact f82
    · rw [k6 7 _ (by omega) (by omega) (by omega), f7 _ (by omega)]; exact cr h k hh hk
    · rw [← hc6, u1n _ _ _ _ _ _ (by omega), u1n _ _ _ _ _ _ (by omega), u1s]; rfl
    · rw [k6 32 k (by omega) (by omega) (by omega), fr 32 k (by omega) (by omega) (by omega), cK wc 32 (by omega)]; exact ra.2.1.2.2.1 k k1 k2
    · rw [← hc6, u1n _ _ _ _ _ _ (by omega), u1s]; rfl
    · rw [e3 24 1 (by omega) (by omega)]; exact w1
    · rw [e3 24 2 (by omega) (by omega)]; exact w2
    · exact e16
    · have q := mr h hh
      rw [e2 0 h (by omega) (by omega) (by omega), e2 1 h (by omega) (by omega) (by omega), e2 2 h (by omega) (by omega) (by omega), wk 0 _ (by omega), wk 1 _ (by omega), wk 2 _ (by omega)]
      exact ⟨q.1, q.2.1, q.2.2.1, fun a k k1 k2 => by rw [e2 k h (by omega) (by omega) (by omega), wk k _ (by omega)]; exact q.2.2.2 a k k1 k2⟩
    · exact e59
    · rw [m5k 24 _ (by omega) (by omega) (by omega)]; exact ra.2.2.1.2.2.1 k k1 k2
    · exact e54
    · rw [← hc6, u1s]; rfl
    · exact e53
    · obtain ⟨p, p1, p2, -⟩ := ra.2.2.2.2.2.2.2.1
      exact ⟨p, p1, by rw [k6 37 1 (by omega) (by omega) (by omega), fr 37 1 (by omega) (by omega) (by omega), cK wc 37 (by omega)]; exact p2, trivial⟩
  · have q1' : f_re_readAll_L31 eFu (0 : Int32) c1 = some (0, c2) := q1
    obtain ⟨g, g65, g66, wc, wm⟩ := q3
    have g25 : ¬ (eU1 m2 24 25 (m2.1 24 27)).1 24 27 = 0 := by rw [u1n _ _ _ _ _ _ (by omega)]; exact g
    have g26 : ¬ (eU1 (eU1 m2 24 25 (m2.1 24 27)) 24 26 ((eU1 m2 24 25 (m2.1 24 27)).1 24 28)).1 24 27 = 0 := by rw [u1n _ _ _ _ _ _ (by omega)]; exact g25
    rw [q1', q2, obind, cut wc, obind]
    dsimp only
    rw [if_neg (show ¬ ¬ (0 : Int32) = 0 from fun e => e rfl)]
    unfold f_mm_text_J68
    rw [b_good g25, obind]
    dsimp only
    rw [if_pos rfl, b_good g26, obind]
    dsimp only
    rw [if_neg (show ¬ ¬ (0 : Int32) = 0 from fun e => e rfl)]
    generalize hw : (eU1 (eU1 m2 24 25 (m2.1 24 27)) 24 26 ((eU1 m2 24 25 (m2.1 24 27)).1 24 28)) = w
    have wk : ∀ i j, ¬ (i = 24 ∧ (j = 25 ∨ j = 26)) → w.1 i j = m2.1 i j := fun i j e => by rw [← hw, u1n _ _ _ _ _ _ (by omega), u1n _ _ _ _ _ _ (by omega)]
    have w25 : w.1 24 25 = m2.1 24 27 := by rw [← hw, u1n _ _ _ _ _ _ (by omega), u1s]
    have w26 : w.1 24 26 = m2.1 24 28 := by rw [← hw, u1s, u1n _ _ _ _ _ _ (by omega)]
    refine ⟨_, _, w, rfl, rfl, fun i hi => ?_, ⟨?_, ?_⟩, ⟨0, by omega, ?_, ?_, fun i hi => by omega⟩, n1, cv1, s, l, ra.cg (fun i hi => ?_) (fun i h i1 h1 => ?_) (fun i h i1 i2 => ?_) (fun h h1 => ?_)⟩
    · show c2.2 4 i = _
      rw [wc.2 4 i (by omega), ck2]; exact kp i hi
    · rw [u1n _ _ _ _ _ _ (by omega), w25]; exact g65
    · rw [u1n _ _ _ _ _ _ (by omega), w26]; exact g66
    · rw [u1s]; rfl
    · rw [wk 24 18 (by omega), wm.2 24 18 (by omega), m18]; rfl
    · rw [← cK wc i hi]; funext j; exact u1n _ _ _ _ _ _ (by omega)
    · rw [wk i h (by omega), wm.2 i h (by omega), mk i h (by omega)]
    · rw [wk i h (by omega), mK wm i h (by omega) (by omega)]
    · rw [wk 24 h (by omega), mK wm 24 h (by omega) (by omega)]
end
