/-! ===== the text: a line ===== -/
section
variable {c m c' m' c0 m0 : eW} {L x n : Nat} {F : Nat → Nat → Int} {cv : Int} {cd : Bool}
def upr (F : Nat → Nat → Int) (n : Nat) (G : Nat → Int) : Nat → Nat → Int := fun h => if h = n then G else F h
theorem upr_n {G : Nat → Int} : upr F n G n = G := if_pos rfl
theorem upr_o {G : Nat → Int} {h : Nat} (e : h ≠ n) : upr F n G h = F h := if_neg e
theorem FOK.more (hF : FOK n F cv) (hn : n < 12) {G : Nat → Int} (hk : Hk G) (h0 : G 0 = 0 → cntK F 0 n < 3) (h1 : G 0 = 1 → cntK F 1 n < 3) (h2 : G 0 = 2 → cntK F 2 n < 6) : FOK (n + 1) (upr F n G) cv := by
  obtain ⟨f1, f2, f3, f4, f5, f6, f7⟩ := hF
  have cg : ∀ k, cntK (upr F n G) k n = cntK F k n := fun k => cntK_cg fun h hh => by rw [upr_o (by omega)]
  refine ⟨by omega, f2, f3, ?_, ?_, ?_, fun h hh => ?_⟩
  · unfold cntK; rw [cg, upr_n]; split <;> omega
  · unfold cntK; rw [cg, upr_n]; split <;> omega
  · unfold cntK; rw [cg, upr_n]; split <;> omega
  · by_cases z : h = n
    · subst z
      unfold HOK
      rw [upr_n]
      exact hk
    · unfold HOK
      rw [upr_o z]
      exact f7 h (by omega)
theorem hold_line (rd : RD c0 m0 L x n F cv cd c m) {k : Int} {j : Nat} {room o : Nat} {kI R : Int32} (ek : kI = Int32.ofInt k) (eR : R = Int32.ofInt (room : Nat)) (kk : (k = 0 ∧ room = 3 ∧ j = 2) ∨ (k = 1 ∧ room = 3 ∧ j = 3) ∨ (k = 2 ∧ room = 6 ∧ j = 10)) {KX : eW → Option (Int32 × eW)} {KM : Int32 → Int32 → eW → Option eW}
    (hX : ∀ c3 m3 : eW, Ln c m L x n false (Gd k) 1 c3 m3 → Rst (En c m L x n k j) c m n (KX c3) ((mN m3).bind fun w2 => ((f_mm_number (1 : Int32) (9999 : Int32) w2).bind fun p3 => KM (Int32.ofInt ((12 + n : Nat) : Int)) p3.1 p3.2)))
    (hM : f_mm_readHolder kI R m = ((f_mm_manyOf kI m).bind fun p1 => (if ¬ p1.1 = R then (eChk ((12 : Int32) + (p1.2.1 24 3)) 24 ((f_mm_readName (eU1 p1.2 0 (Int32.toNatClampNeg ((12 : Int32) + (p1.2.1 24 3))) kI)).bind fun w2 => ((f_mm_number (1 : Int32) (9999 : Int32) w2).bind fun p3 => KM ((12 : Int32) + (p1.2.1 24 3)) p3.1 p3.2))) else ((f_mm_fails (5 : Int32) p1.2).bind fun w10 => (some w10)))))
    (hR : ∀ w, f_re_mostOf kI w = some (R, w)) (hO : ∀ w, f_re_lineOf kI w = some (o, w)) (hI : ∀ w, f_re_readItems o w = KX w) :
    LR c0 m0 L x (f_re_readLine_J33 kI c) ((f_mm_readHolder kI R m).bind mTL) := by
  subst ek eR
  have rd' := rd
  obtain ⟨t, ⟨g, g65, g66⟩, ⟨c30, m3⟩, ⟨cv1, cv2, cd1, cd2⟩, hF, cr, mr, nm, kp, wc, wm⟩ := rd'
  have hn := hF.1
  have k0 : 0 ≤ k ∧ k ≤ 2 := by omega
  have e1 : f_dr_countOf (Int32.ofInt k) c = some (Int32.ofInt ((cntK F k n : Nat) : Int), c) := d_cnt hF c30 cr k0.1 k0.2 n 0 eFu (by omega) (by rw [eFu_eq]; omega)
  have e2 : f_mm_manyOf (Int32.ofInt k) m = some (Int32.ofInt ((cntK F k n : Nat) : Int), m) := m_cnt hF m3 (fun h hh => (mr h hh).1) k0.1 k0.2 n 0 eFu (by omega) (by rw [eFu_eq]; omega)
  have cl : cntK F k n ≤ room := by
    obtain ⟨-, -, -, a, b, d, -⟩ := hF
    rcases kk with ⟨rfl, rfl, -⟩ | ⟨rfl, rfl, -⟩ | ⟨rfl, rfl, -⟩ <;> assumption
  have cn := cntK_le F k n
  have k3 : ¬ Int32.ofInt k = 3 := by rw [show (3 : Int32) = Int32.ofInt 3 from rfl, ieq (by omega) (by omega) (by omega) (by omega)]; omega
  unfold f_re_readLine_J33
  rw [if_pos k3, e1, obind]
  dsimp only
  rw [hR, obind, hM, e2, obind]
  dsimp only
  by_cases z : cntK F k n = room
  · rw [if_pos (show Int32.ofInt (room : Nat) ≤ Int32.ofInt ((cntK F k n : Nat) : Int) by rw [z]; exact Int32.le_refl _), if_neg (show ¬ ¬ Int32.ofInt ((cntK F k n : Nat) : Int) = Int32.ofInt (room : Nat) from fun y => y (by rw [z]))]
    obtain ⟨c', m', s1, s2, s3⟩ := refuse_ok (n := n) t g Lc.rfl Lm.rfl 5 (by decide)
    exact LR.no s1 (by rw [s2, obind]) (s3.bw wc wm)
  · have n12 : n < 12 := by
      have sm := cntK_sum (F := F) (n := n) fun h hh => (hF.hd hh).1
      obtain ⟨-, -, -, a, b, d, -⟩ := hF
      rcases kk with ⟨rfl, rfl, -⟩ | ⟨rfl, rfl, -⟩ | ⟨rfl, rfl, -⟩ <;> omega
    rw [if_neg (show ¬ Int32.ofInt (room : Nat) ≤ Int32.ofInt ((cntK F k n : Nat) : Int) by rw [ile (by omega) (by omega) (by omega) (by omega)]; omega), if_pos (show ¬ Int32.ofInt ((cntK F k n : Nat) : Int) = Int32.ofInt (room : Nat) by rw [ieq (by omega) (by omega) (by omega) (by omega)]; omega)]
    obtain ⟨c2, a1, a2, a3, a4, a5, a6, a7⟩ := add_ok n12 (k := k) c30
    rw [a1, obind, m3, t_i n12, ct n12, cl_t n12, mName]
    dsimp only
    rw [if_pos (show ¬ (1 : Int32) = 0 by decide)]
    have l0 : Ln0 c m n false (Gd k) 1 c2 (eU1 m 0 (12 + n) (Int32.ofInt k)) := by
      refine ⟨⟨n12, by omega, fun i hi => by rw [wc.2 4 i (by omega)]; exact kp i hi, nm⟩, ⟨by rw [u1n _ _ _ _ _ _ (by omega)]; exact g, by rw [a5]; exact g65, by rw [a5]; exact g66, a4, by rw [u1n _ _ _ _ _ _ (by omega)]; exact m3⟩, fun y => absurd y (by simp), a7, fun i hi => ?_, a2, Lm.rfl.u (by omega)⟩
      obtain rfl : i = 0 := by omega
      rw [u1s]; rfl
    obtain ⟨c3, m3', s1, s2, s3⟩ := l0.go (x0 := x) (t.1.cg (fun i => a2.1 0 i (by omega)) (by rw [a6]) (by rw [a6]) (fun i => u1n _ _ _ _ _ _ (by omega)) (u1n _ _ _ _ _ _ (by omega)) (u1n _ _ _ _ _ _ (by omega))) (Nat.le_refl _)
    rw [s1, s2, obind, obind]
    rw [hO, obind]
    dsimp only
    rw [hI]
    rcases hX c3 m3' s3 with ⟨c4, m4, q1, q2, G, m', G0, gk, gl, rfl⟩ | ⟨c4, m4, q1, q2, q3⟩
    · rw [q1, q2, obind]
      obtain ⟨⟨y, xy, tk⟩, -, ⟨h27, h65, h66, h30, h3⟩, hnm, hrow, hmrow, lc, lm⟩ := gl
      have f24 : ∀ i, i ≠ 3 → (eU1 m' 24 3 (Int32.ofInt ((n + 1 : Nat) : Int))).1 24 i = m'.1 24 i := fun i hi => u1n _ _ _ _ _ _ (by omega)
      have tk' : Tok c4 (eU1 m' 24 3 (Int32.ofInt ((n + 1 : Nat) : Int))) L y := by
        obtain ⟨tp, w3, tv, v4, w4, w5, w6, w7⟩ := tk
        exact ⟨tp.cg (fun _ => rfl) rfl rfl (fun i => u1n _ _ _ _ _ _ (by omega)) (f24 19 (by omega)) (f24 21 (by omega)), by rw [f24 20 (by omega)]; exact w3, tv, v4, w4, by rw [f24 22 (by omega)]; exact w5, fun e => by rw [f24 23 (by omega), f24 24 (by omega)]; exact w6 e, fun e => by rw [f24 23 (by omega)]; exact w7 e⟩
      have lm' : Lm n m (eU1 m' 24 3 (Int32.ofInt ((n + 1 : Nat) : Int))) := lm.u (by omega)
      rcases sign_rel tk' (by rw [f24 27 (by omega)]; exact h27) lc lm' with ⟨c5, m5, zz, r1, r2, r3, r4, r5, r6, r7⟩ | ⟨c5, m5, r1, r2, r3⟩
      · rw [r1, r2, obind]
        dsimp only
        rw [if_pos (.inr rfl)]
        have lc5 : Lc n c c5 := lc.tr r6.lc
        have lm5 : Lm n m m5 := lm'.tr r7.lm
        refine .inl ⟨c5, m5, zz, n + 1, upr F n G, cv, cd, rfl, rfl, ⟨r3, ⟨?_, ?_, ?_⟩, ⟨?_, ?_⟩, ⟨?_, ?_, ?_, ?_⟩, ?_, fun h i hh hi => ?_, fun h hh => ?_, fun h hh => ?_, kp, wc.tr lc5.wc, wm.tr lm5.wm⟩, by omega, fun e => by have := r5 e; omega⟩
        · rw [r7.2 24 27 (by omega), f24 27 (by omega)]; exact h27
        · rw [(r6.1 6 (by omega)).1]; exact h65
        · rw [(r6.1 6 (by omega)).1]; exact h66
        · rw [(r6.1 3 (by omega)).1]; exact h30
        · rw [r7.2 24 3 (by omega), u1s]
        · rw [lc5.1 3 1 (by omega)]; exact cv1
        · rw [lm5.2 24 4 (by omega)]; exact cv2
        · rw [lc5.1 6 3 (by omega)]; exact cd1
        · rw [lm5.2 24 29 (by omega)]; exact cd2
        · refine hF.more n12 gk (fun e => ?_) (fun e => ?_) (fun e => ?_) <;> rcases kk with ⟨rfl, rfl, -⟩ | ⟨rfl, rfl, -⟩ | ⟨rfl, rfl, -⟩ <;> omega
        · by_cases y : h = n
          · subst y
            rw [(r6.1 2 (by omega)).1, upr_n]; exact hrow i hi
          · rw [lc5.1 2 _ (by omega), upr_o y]; exact cr h i (by omega) hi
        · by_cases y : h = n
          · subst y
            have rw5 : ∀ i, i < j → m5.1 i (12 + h) = Int32.ofInt (G i) := fun i hi => by rw [r7.2 i _ (by omega), u1n _ _ _ _ _ _ (by omega)]; exact hmrow i hi
            rw [upr_n]
            refine ⟨rw5 0 (by omega), rw5 1 (by omega), fun e => rw5 2 (by omega), fun e i i3 i10 => rw5 i (by omega)⟩
          · rw [upr_o y, lm5.2 0 _ (by omega), lm5.2 1 _ (by omega), lm5.2 2 _ (by omega)]
            have q := mr h (by omega)
            exact ⟨q.1, q.2.1, q.2.2.1, fun e i i3 i10 => by rw [lm5.2 i _ (by omega)]; exact q.2.2.2 e i i3 i10⟩
        · by_cases y : h = n
          · subst y
            rw [(r6.1 5 (by omega)).2, r7.2 10 _ (by omega), r7.2 10 _ (by omega), u1n _ _ _ _ _ _ (by omega), u1n _ _ _ _ _ _ (by omega)]
            exact hnm rfl
          · rw [lc5.2 5 h (by omega), lm5.2 10 _ (by omega), lm5.2 10 _ (by omega)]
            exact nm h (by omega)
      · rw [r1, r2, obind]
        dsimp only
        rw [if_pos (.inl rfl)]
        exact .inr ⟨c5, m5, rfl, rfl, r3.bw wc wm⟩
    · rw [q1, q2, obind, obind]
      dsimp only
      rw [if_pos (.inl rfl), b_TL q3.1]
      exact .inr ⟨c4, m4, rfl, rfl, q3.bw wc wm⟩
/-- the line of what is carved out -/
theorem carve_line (rd : RD c0 m0 L x n F cv cd c m) : LR c0 m0 L x (f_re_readLine_J33 3 c) ((f_mm_goOn (eU1 m 24 29 (1 : Int32))).bind fun w17 => ((f_mm_number (0 : Int32) (50 : Int32) w17).bind fun p18 => mTL (eU1 p18.2 24 4 p18.1))) := by
  have rd' := rd
  obtain ⟨t, ⟨g, g65, g66⟩, ⟨c30, m3⟩, ⟨cv1, cv2, cd1, cd2⟩, hF, cr, mr, nm, kp, wc, wm⟩ := rd'
  have hn := hF.1
  unfold f_re_readLine_J33
  rw [if_neg (show ¬ ¬ (3 : Int32) = 3 from fun y => y rfl)]
  have g2 : (eU1 m 24 29 (1 : Int32)).1 24 27 = 0 := by rw [u1n _ _ _ _ _ _ (by omega)]; exact g
  obtain ⟨c2, m2, y, s1, s2, s3, s4, s5, s6, s7⟩ := scan_ok (c := eU1 c 6 3 1) (m := eU1 m 24 29 (1 : Int32)) (t.1.cg (fun i => u1n _ _ _ _ _ _ (by omega)) (u1n _ _ _ _ _ _ (by omega)) (u1n _ _ _ _ _ _ (by omega)) (fun i => u1n _ _ _ _ _ _ (by omega)) (u1n _ _ _ _ _ _ (by omega)) (u1n _ _ _ _ _ _ (by omega))) g2
  have wc2 : Wc c0 c2 := (wc.u (by omega)).tr (s6.lc (n := 0)).wc
  have wm2 : Wm m0 m2 := (wm.u (by omega)).tr (s7.lm (n := 0)).wm
  have g3 : m2.1 24 27 = 0 := by rw [s7.2 24 27 (by omega)]; exact g2
  have lo : f_re_lineOf 3 c2 = some (42, c2) := by unfold f_re_lineOf; rw [if_neg (by decide), if_neg (by decide), if_neg (by decide)]
  have ri : f_re_readItems 42 c2 = iNum 11 0 50 SG c2 := by rw [← x_carve]; rfl
  rw [s1, s2, obind, obind, lo, obind]
  dsimp only
  rw [ri]
  have no : ∀ b : Int32, ¬ b = 0 → LR c0 m0 L x ((((f_re_refuse b c2).bind fun p1 => (if p1.1 = 0 ∨ p1.1 = 1 then some (p1.1, p1.2) else none)).bind fun p8 => (if ¬ p8.1 = 0 then ((f_ta_scan p8.2).bind fun w9 => (SG w9)) else (some ((0 : Int32), p8.2)))).bind fun p15 => (if p15.1 = 0 ∨ p15.1 = 1 then some (p15.1, p15.2) else none)) (((f_mm_fails b m2).bind fun w2 => ((f_mm_goOn w2).bind fun w3 => ((f_mm_isGood w3).bind fun p4 => (if p4.1 = 0 then (some ((0 : Int32), p4.2)) else (some ((w2.1 24 23), p4.2)))))).bind fun p18 => mTL (eU1 p18.2 24 4 p18.1)) := fun b hb => by
    obtain ⟨c', m', r1, r2, r3⟩ := refuse_ok (n := 0) s3 g3 Lc.rfl Lm.rfl b hb
    have g4 : ¬ (eU1 m' 24 4 0).1 24 27 = 0 := by rw [u1n _ _ _ _ _ _ (by omega)]; exact r3.1
    rw [r1, r2]
    simp only [obind, b_go r3.1, b_good r3.1, if_true, true_or, not_true_eq_false, if_false]
    rw [b_TL g4]
    have bw := r3.bw wc2 wm2
    exact .inr ⟨c', _, rfl, rfl, g4, by rw [u1n _ _ _ _ _ _ (by omega)]; exact bw.2.1, by rw [u1n _ _ _ _ _ _ (by omega)]; exact bw.2.2.1, bw.2.2.2.1, bw.2.2.2.2.u (by omega)⟩
  have s3' := s3
  obtain ⟨tp, e3, tv, v4, e4, e5, e6, e7⟩ := s3'
  unfold iNum f_re_readNumber f_mm_number f_mm_number_J23
  rw [g_good g3, obind]
  dsimp only
  rw [if_neg (show ¬ (1 : Int32) = 0 by decide)]
  by_cases z : tv = 2
  · obtain ⟨v, v0, v9, w1, w2⟩ := e7 z
    have c4 : c2.1 1 4 = 2 := by rw [e4, z]; rfl
    have m4 : m2.1 24 22 = 2 := by rw [e5, z]; rfl
    rw [if_pos c4, if_pos m4, g_good g3, obind]
    dsimp only
    rw [if_neg (show ¬ (1 : Int32) = 0 by decide), w1, w2, in_dec (show (0 : Int32).toInt = 0 from rfl) (show (50 : Int32).toInt = 50 from rfl), obind, toI_ofI (by omega) (by omega)]
    dsimp only
    by_cases yy : 0 ≤ v ∧ v ≤ 50
    · rw [decide_eq_true yy, if_neg (show ¬ Int32.ofInt v < 0 by rw [show (0 : Int32) = Int32.ofInt 0 from rfl, ilt (by omega) (by omega) (by omega) (by omega)]; omega), if_pos (show Int32.ofInt v ≤ 50 by rw [show (50 : Int32) = Int32.ofInt 50 from rfl, ile (by omega) (by omega) (by omega) (by omega)]; omega), if_neg (show ¬ ¬ (11 : Int32) = 11 from fun w => w rfl), obind]
      dsimp only
      rw [if_pos (show ¬ (1 : Int32) = 0 by decide), if_pos (show ¬ b2i true = 0 by decide)]
      obtain ⟨c5, m5, y5, q1, q2, q3, q4, q5, q6, q7⟩ := scan_ok (c := eU1 c2 3 1 (Int32.ofInt v)) (m := m2) (tp.cg (fun i => u1n _ _ _ _ _ _ (by omega)) (u1n _ _ _ _ _ _ (by omega)) (u1n _ _ _ _ _ _ (by omega)) (fun _ => rfl) rfl rfl) g3
      have g5 : m5.1 24 27 = 0 := by rw [q7.2 24 27 (by omega)]; exact g3
      rw [q1, obind, q2, obind, g_good g5, obind]
      dsimp only
      rw [if_neg (show ¬ (1 : Int32) = 0 by decide), w2, obind]
      dsimp only
      have f24 : ∀ i, i ≠ 4 → (eU1 m5 24 4 (Int32.ofInt v)).1 24 i = m5.1 24 i := fun i hi => u1n _ _ _ _ _ _ (by omega)
      have tk' : Tok c5 (eU1 m5 24 4 (Int32.ofInt v)) L y5 := by
        obtain ⟨tp, w3, tv, v4, w4, w5, w6, w7⟩ := q3
        exact ⟨tp.cg (fun _ => rfl) rfl rfl (fun i => u1n _ _ _ _ _ _ (by omega)) (f24 19 (by omega)) (f24 21 (by omega)), by rw [f24 20 (by omega)]; exact w3, tv, v4, w4, by rw [f24 22 (by omega)]; exact w5, fun e => by rw [f24 23 (by omega), f24 24 (by omega)]; exact w6 e, fun e => by rw [f24 23 (by omega)]; exact w7 e⟩
      have wc5 : Wc c0 c5 := (wc2.u (by omega)).tr (q6.lc (n := 0)).wc
      have wm5 : Wm m0 (eU1 m5 24 4 (Int32.ofInt v)) := (wm2.tr (q7.lm (n := 0)).wm).u (by omega)
      rcases sign_rel (n := 0) tk' (by rw [f24 27 (by omega)]; exact g5) Lc.rfl Lm.rfl with ⟨c6, m6, zz, r1, r2, r3, r4, r5, r6, r7⟩ | ⟨c6, m6, r1, r2, r3⟩
      · rw [r1, r2, obind]
        dsimp only
        rw [if_pos (.inr rfl)]
        -- the class, the reference: from before the line
        have k1 : ∀ i j, i ≠ 1 → ¬ (i = 3 ∧ j = 1) → ¬ (i = 6 ∧ j = 3) → c6.1 i j = c.1 i j := fun i j i1 i2 i3 => by rw [(r6.1 i i1).1, (q6.1 i i1).1, u1n _ _ _ _ _ _ (by omega), (s6.1 i i1).1, u1n _ _ _ _ _ _ (by omega)]
        have k2 : ∀ i j, i ≠ 1 → c6.2 i j = c.2 i j := fun i j i1 => by rw [(r6.1 i i1).2, (q6.1 i i1).2, u1l, (s6.1 i i1).2]; rfl
        have k3 : ∀ i j, ¬ (i = 24 ∧ (j = 4 ∨ j = 29 ∨ (20 ≤ j ∧ j ≤ 24))) → m6.1 i j = m.1 i j := fun i j e => by rw [r7.2 i j (by omega), u1n _ _ _ _ _ _ (by omega), q7.2 i j (by omega), s7.2 i j (by omega), u1n _ _ _ _ _ _ (by omega)]
        obtain ⟨f1, f2, f3, f4, f5, f6, f7⟩ := hF
        refine .inl ⟨c6, m6, zz, n, F, v, true, rfl, rfl, ⟨r3, ⟨?_, ?_, ?_⟩, ⟨?_, ?_⟩, ⟨?_, ?_, ?_, ?_⟩, ⟨f1, yy.1, yy.2, f4, f5, f6, f7⟩, fun h i hh hi => ?_, fun h hh => ?_, fun h hh => ?_, kp, wc5.tr (r6.lc (n := 0)).wc, wm5.tr (r7.lm (n := 0)).wm⟩, by omega, fun e => by have := r5 e; omega⟩
        · rw [k3 24 27 (by omega)]; exact g
        · rw [k1 6 5 (by omega) (by omega) (by omega)]; exact g65
        · rw [k1 6 6 (by omega) (by omega) (by omega)]; exact g66
        · rw [k1 3 0 (by omega) (by omega) (by omega)]; exact c30
        · rw [k3 24 3 (by omega)]; exact m3
        · rw [(r6.1 3 (by omega)).1, (q6.1 3 (by omega)).1, u1s]
        · rw [r7.2 24 4 (by omega), u1s]
        · rw [(r6.1 6 (by omega)).1, (q6.1 6 (by omega)).1, u1n _ _ _ _ _ _ (by omega), (s6.1 6 (by omega)).1, u1s]; rfl
        · rw [r7.2 24 29 (by omega), u1n _ _ _ _ _ _ (by omega), q7.2 24 29 (by omega), s7.2 24 29 (by omega), u1s]; rfl
        · rw [k1 2 _ (by omega) (by omega) (by omega)]; exact cr h i hh hi
        · rw [k3 0 _ (by omega), k3 1 _ (by omega), k3 2 _ (by omega)]
          have q := mr h hh
          exact ⟨q.1, q.2.1, q.2.2.1, fun e i i3 i10 => by rw [k3 i _ (by omega)]; exact q.2.2.2 e i i3 i10⟩
        · rw [k2 5 _ (by omega), k3 10 _ (by omega), k3 10 _ (by omega)]; exact nm h hh
      · rw [r1, r2, obind]
        dsimp only
        rw [if_pos (.inl rfl)]
        exact .inr ⟨c6, m6, rfl, rfl, r3.bw wc5 wm5⟩
    · rw [decide_eq_false yy, if_neg (show ¬ ¬ b2i false = 0 by decide), if_neg (show ¬ Int32.ofInt v < 0 by rw [show (0 : Int32) = Int32.ofInt 0 from rfl, ilt (by omega) (by omega) (by omega) (by omega)]; omega), if_neg (show ¬ Int32.ofInt v ≤ 50 by rw [show (50 : Int32) = Int32.ofInt 50 from rfl, ile (by omega) (by omega) (by omega) (by omega)]; omega)]
      exact no 4 (by decide)
  · have c4 : ¬ c2.1 1 4 = 2 := by rw [e4, show (2 : Int32) = Int32.ofInt 2 from rfl, ieq (by omega) (by omega) (by omega) (by omega)]; omega
    have m4 : ¬ m2.1 24 22 = 2 := by rw [e5, show (2 : Int32) = Int32.ofInt 2 from rfl, ieq (by omega) (by omega) (by omega) (by omega)]; omega
    rw [if_neg c4, if_neg m4]
    exact no 2 (by decide)
end
