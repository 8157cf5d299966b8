/-! ===== the text: all of its lines ===== -/
section
variable {c m c' m' c0 m0 : eW} {L x n : Nat} {F : Nat → Nat → Int} {cv : Int} {cd : Bool}
theorem line_ok (rd : RD c0 m0 L x n F cv cd c m) : LR c0 m0 L x (f_re_readLine c) (f_mm_readLine m) := by
  have rd' := rd
  obtain ⟨t, ⟨g, g65, g66⟩, ⟨c30, m3⟩, ⟨cv1, cv2, cd1, cd2⟩, hF, cr, mr, nm, kp, wc, wm⟩ := rd'
  obtain ⟨r, r1, r2, kw, hw, -⟩ := kept_ok (fun i hi => by rw [wc.2 4 i (by omega)]; exact kp i hi) t
  have w0 : f_mm_isWord 3650991 14 m = some (b2i (decide (r = ((0 : Nat) : Int))), m) := hw 0 (by omega)
  have w1 : f_mm_isWord 16273711 14 m = some (b2i (decide (r = ((1 : Nat) : Int))), m) := hw 1 (by omega)
  have w2 : f_mm_isWord 3540595 0 m = some (b2i (decide (r = ((2 : Nat) : Int))), m) := hw 2 (by omega)
  have w3 : f_mm_isWord 3197637 0 m = some (b2i (decide (r = ((3 : Nat) : Int))), m) := hw 3 (by omega)
  have no : LR c0 m0 L x ((f_re_refuse 2 c).bind fun p7 => (if p7.1 = 0 ∨ p7.1 = 1 then some (p7.1, p7.2) else none)) ((f_mm_fails 2 m).bind mTL) := by
    obtain ⟨c', m', s1, s2, s3⟩ := refuse_ok (n := 0) t g Lc.rfl Lm.rfl 2 (by decide)
    exact LR.no s1 s2 (s3.bw wc wm)
  unfold f_re_readLine
  rw [kw, obind, mLine]
  simp only [w0, w1, w2, w3, obind, b2i_0]
  rcases (show r = 0 ∨ r = 1 ∨ r = 2 ∨ r = 3 ∨ r = -1 ∨ 4 ≤ r by omega) with rfl | rfl | rfl | rfl | rfl | z
  · rw [if_neg (by decide), if_neg (by decide), if_pos (by decide), if_neg (by decide)]
    exact hold_line rd (k := 0) (j := 2) (room := 3) (o := 39) (kI := 0) (R := 3) rfl rfl (by omega) (KX := f_re_readItems_39) (KM := kC0) (fun c3 m3 h => by rw [x_common]; exact common_rel h) (mHold0 _ _) (fun w => by unfold f_re_mostOf; rw [if_pos (by decide)]) (fun w => by unfold f_re_lineOf; rw [if_pos rfl]) (fun w => rfl)
  · rw [if_neg (by decide), if_neg (by decide), if_pos (by decide), if_pos (by decide), if_neg (by decide)]
    exact hold_line rd (k := 1) (j := 3) (room := 3) (o := 40) (kI := 1) (R := 3) rfl rfl (by omega) (KX := f_re_readItems_40) (KM := kO1) (fun c3 m3 h => by rw [x_option]; exact option_rel h) (mHold1 _ _) (fun w => by unfold f_re_mostOf; rw [if_pos (by decide)]) (fun w => by unfold f_re_lineOf; rw [if_neg (by decide), if_pos rfl]) (fun w => rfl)
  · rw [if_neg (by decide), if_neg (by decide), if_pos (by decide), if_pos (by decide), if_pos (by decide), if_neg (by decide)]
    exact hold_line rd (k := 2) (j := 10) (room := 6) (o := 41) (kI := 2) (R := 6) rfl rfl (by omega) (KX := f_re_readItems_41) (KM := kP1) (fun c3 m3 h => by rw [x_class]; exact class_rel h) (mHold2 _ _) (fun w => by unfold f_re_mostOf; rw [if_neg (show ¬ ¬ (2 : Int32) = 2 from fun y => y rfl)]) (fun w => by unfold f_re_lineOf; rw [if_neg (by decide), if_neg (by decide), if_pos rfl]) (fun w => rfl)
  · rw [if_neg (by decide), if_neg (by decide), if_neg (show ¬ ¬ Int32.ofInt 3 = (3 : Int32) from fun y => y rfl), cd1, cd2]
    cases cd
    · rw [if_pos (show b2i false = 0 by decide), if_pos (by decide), if_pos (by decide), if_pos (by decide), if_neg (by decide), if_neg (show ¬ ¬ b2i false = 0 by decide)]
      exact carve_line rd
    · rw [if_neg (show ¬ b2i true = 0 by decide), if_pos (by decide), if_pos (by decide), if_pos (by decide), if_neg (by decide), if_pos (show ¬ b2i true = 0 by decide)]
      exact no
  · rw [if_pos (show Int32.ofInt (-1) = (-1 : Int32) from rfl), if_pos (by decide), if_pos (by decide), if_pos (by decide), if_pos (by decide)]
    exact no
  · rw [if_neg (show ¬ Int32.ofInt r = (-1 : Int32) by rw [show (-1 : Int32) = Int32.ofInt (-1) from rfl, ieq (by omega) (by omega) (by omega) (by omega)]; omega), if_pos (show (3 : Int32) < Int32.ofInt r by rw [show (3 : Int32) = Int32.ofInt 3 from rfl, ilt (by omega) (by omega) (by omega) (by omega)]; omega), if_pos (decide_eq_false (by omega)), if_pos (decide_eq_false (by omega)), if_pos (decide_eq_false (by omega)), if_pos (decide_eq_false (by omega))]
    exact no
theorem Tok.t0 (t : Tok c m L x) : c.1 1 4 = m.1 24 22 := by
  obtain ⟨-, -, tv, -, e4, e5, -⟩ := t
  rw [e4, e5]
theorem lines_ok : ∀ (d i f1 f2 : Nat), i + d = 700 → d < f1 → d + 1 < f2 → ∀ (c m : eW) (x n : Nat) (F : Nat → Nat → Int) (cv : Int) (cd : Bool), RD c0 m0 L x n F cv cd c m → (¬ c.1 1 4 = 0 → i < x) → (∃ c' m' x n F cv cd, f_re_readAll_L31 f1 (Int32.ofInt (i : Nat)) c = some (1, c') ∧ f_mm_text_L47 f2 m = f_mm_text_J68 m' ∧ RD c0 m0 L x n F cv cd c' m') ∨ ∃ c' m', f_re_readAll_L31 f1 (Int32.ofInt (i : Nat)) c = some (0, c') ∧ f_mm_text_L47 f2 m = f_mm_text_J68 m' ∧ Bw c0 m0 c' m' := by
  intro d
  induction d with
  | zero =>
    intro i f1 f2 hi hf1 hf2 c m x n F cv cd rd ix
    obtain ⟨f1, rfl⟩ : ∃ g, f1 = g + 1 := ⟨f1 - 1, by omega⟩
    obtain ⟨f2, rfl⟩ : ∃ g, f2 = g + 1 := ⟨f2 - 1, by omega⟩
    obtain rfl : i = 700 := by omega
    have tk := rd.1.t0
    have t1 := rd.1.1.1
    have t2 := rd.1.1.2.1
    have z : c.1 1 4 = 0 := by
      by_cases y : c.1 1 4 = 0
      · exact y
      · have := ix y; omega
    left
    refine ⟨c, m, x, n, F, cv, cd, ?_, ?_, rd⟩
    · unfold f_re_readAll_L31
      rw [if_pos (by decide)]
    · rw [f_mm_text_L47, g_good rd.2.1.1, obind]
      dsimp only
      rw [if_neg (show ¬ (1 : Int32) = 0 by decide), if_pos (show m.1 24 22 = 0 by rw [← tk]; exact z)]
  | succ d ih =>
    intro i f1 f2 hi hf1 hf2 c m x n F cv cd rd ix
    obtain ⟨f1, rfl⟩ : ∃ g, f1 = g + 1 := ⟨f1 - 1, by omega⟩
    obtain ⟨f2, rfl⟩ : ∃ g, f2 = g + 1 := ⟨f2 - 1, by omega⟩
    have tk := rd.1.t0
    rw [f_re_readAll_L31, f_mm_text_L47, g_good rd.2.1.1, obind]
    dsimp only
    rw [if_neg (show ¬ (700 : Int32) ≤ Int32.ofInt (i : Nat) by rw [show (700 : Int32) = Int32.ofInt 700 from rfl, ile (by omega) (by omega) (by omega) (by omega)]; omega), if_neg (show ¬ (1 : Int32) = 0 by decide), ← tk]
    by_cases z : c.1 1 4 = 0
    · rw [if_pos z, if_pos z]
      exact .inl ⟨c, m, x, n, F, cv, cd, rfl, rfl, rd⟩
    · rw [if_neg z, if_neg z, isucc]
      have ixx := ix z
      rcases line_ok rd with ⟨c', m', z', n', F', cv', cd', q1, q2, q3, q4, q5⟩ | ⟨c', m', q1, q2, q3⟩
      · rw [q1, q2, obind, obind]
        dsimp only
        rw [if_pos (show ¬ (1 : Int32) = 0 by decide)]
        exact ih (i + 1) f1 f2 (by omega) (by omega) (by omega) c' m' z' n' F' cv' cd' q3 fun y => by have := q5 y; omega
      · obtain ⟨f2, rfl⟩ : ∃ g, f2 = g + 1 := ⟨f2 - 1, by omega⟩
        rw [q1, q2, obind, obind, f_mm_text_L47, b_good q3.1, obind]
        dsimp only
        rw [if_neg (show ¬ ¬ (0 : Int32) = 0 from fun y => y rfl), if_pos rfl]
        exact .inr ⟨c', m', rfl, rfl, q3⟩
end
