section
variable {n : Nat} {cv : Int} {c m : eW} {s : ZS} {l : List ZS}
theorem a_guess (h : RA n cv c m s l) (a1 a2 : Int32) : Ar n cv (f_xx_guess a1 a2 c) (f_mm_guess a1 a2 m) c m := by
  have h0 := h.q (Fr.rfl (w := c)) (m0k m)
  have g8 := h.1.2.1
  unfold f_xx_guess f_mm_guess
  simp only [x_isAmount, m_isAmount, in_dec (show (1 : Int32).toInt = 1 from rfl) (show (1000 : Int32).toInt = 1000 from rfl), obind, b2i_0]
  by_cases k : 0 ≤ a1.toInt ∧ a1.toInt ≤ 9999999
  · simp only [decide_eq_true k, Bool.true_eq_false, if_false]
    by_cases g : 1 ≤ a2.toInt ∧ a2.toInt ≤ 1000
    · simp only [decide_eq_true g, Bool.true_eq_false, if_false]
      rw [if_neg (show ¬ (a2 < 1) by rw [show (1 : Int32) = Int32.ofInt 1 from rfl, lt_i (by omega) (by omega)]; omega), if_neg (show ¬ ((1000 : Int32) < a2) by rw [show (1000 : Int32) = Int32.ofInt 1000 from rfl, i_lt (by omega) (by omega)]; omega), h.2.1.2.2.2.1, h0.2.2.1.2.2.2.1]
      by_cases e8 : s.2.2.2.2.1 = 8
      · rw [if_neg (by rw [show (8 : Int32) = Int32.ofInt 8 from rfl, ilt (by omega) (by omega) (by omega) (by omega)]; omega), if_neg (by rw [e8]; exact fun z => z rfl)]
        exact Ar.no h _
      · rw [if_pos (by rw [show (8 : Int32) = Int32.ofInt 8 from rfl, ilt (by omega) (by omega) (by omega) (by omega)]; omega), if_pos (by rw [show (8 : Int32) = Int32.ofInt 8 from rfl, ieq (by omega) (by omega) (by omega) (by omega)]; omega)]
        obtain ⟨z, z1, z2, rfl⟩ := amt_of k
        obtain ⟨y, y1, y2, rfl⟩ := amt_of g
        obtain ⟨p, p1, p2, p3⟩ := h.2.2.2.2.2.2.2.1
        obtain ⟨c1, d0, d1, d2, d3, d4, d5, d6, d7⟩ := ac_keep p1 h.2.2.2.1 p2 h.2.2.2.2.2.1 1 0 0
        obtain ⟨m1, f0, f1, f2, f3⟩ := m_keep h0.1 h0.2.2.1 h0.2.2.2
        have cs := d1.cs h.2.1
        have ms := h0.2.2.1.kk f1
        rw [d0, obind, f0, obind]
        unfold f_gu_add
        rw [cs.2.2.2.1, ms.2.2.2.1, if_neg (by rw [show (8 : Int32) = Int32.ofInt 8 from rfl, ile (by omega) (by omega) (by omega) (by omega)]; omega), eChk_of (by omega) (by omega) (by omega), eChk_of (by omega) (by omega) (by omega), eChk_of (by omega) (by omega) (by omega), eChk_of (by omega) (by omega) (by omega), icl (by omega) (by omega), nat_i, isucc, obind]
        have ans : (eU1 (eU1 (eU1 c1 33 s.2.2.2.2.1 (Int32.ofInt z)) 34 s.2.2.2.2.1 (Int32.ofInt y)) 35 2 (Int32.ofInt ((s.2.2.2.2.1 + 1 : Nat) : Int))).1 35 2 = Int32.ofInt ((s.2.2.2.2.1 + 1 : Nat) : Int) := by rw [u1s]
        rw [ans]
        refine ⟨_, _, _, (s.1, s.2.1, s.2.2.1, s.2.2.2.1, s.2.2.2.2.1 + 1, (fun i => if i = s.2.2.2.2.1 then z else s.2.2.2.2.2.1 i), (fun i => if i = s.2.2.2.2.1 then y else s.2.2.2.2.2.2 i)), (s :: l).take 12, rfl, rfl, ?_, ?_, ?_⟩
        · exact (d1.fr.sub (by decide)).tr (((Fr.rfl.u1 (by decide)).u1 (by decide)).u1 (by decide))
        · exact (Ka.z.tr f1.ka).tr (((Ka.u (fun _ _ _ _ _ _ _ _ => ⟨rfl, rfl⟩) (by omega)).u (by omega)).u (by omega))
        · refine act_fin h p1 p2 p3 d2 d3 d4 ?_ ?_ f2 f3 ?_ ?_ ?_ ?_ ?_ ?_ (fun _ _ _ _ _ _ => rfl)
          · funext i; rw [u1n _ _ _ _ _ _ (by omega), u1n _ _ _ _ _ _ (by omega), u1n _ _ _ _ _ _ (by omega)]
          · funext i; rw [u1n _ _ _ _ _ _ (by omega), u1n _ _ _ _ _ _ (by omega), u1n _ _ _ _ _ _ (by omega)]
          · funext i; rw [u1n _ _ _ _ _ _ (by omega), u1n _ _ _ _ _ _ (by omega), u1n _ _ _ _ _ _ (by omega)]
          · rw [u1n _ _ _ _ _ _ (by omega), u1n _ _ _ _ _ _ (by omega), u1n _ _ _ _ _ _ (by omega)]
          · refine ⟨h.1.1, by show s.2.2.2.2.1 + 1 ≤ 8; omega, fun i hi => ?_, h.1.2.2.2⟩
            show 0 ≤ (if i = s.2.2.2.2.1 then z else _) ∧ (if i = s.2.2.2.2.1 then z else _) ≤ _ ∧ 1 ≤ (if i = s.2.2.2.2.1 then y else _) ∧ (if i = s.2.2.2.2.1 then y else _) ≤ _
            have hi' : i < s.2.2.2.2.1 + 1 := hi
            by_cases e : i = s.2.2.2.2.1
            · rw [if_pos e, if_pos e]; exact ⟨z1, z2, y1, y2⟩
            · rw [if_neg e, if_neg e]; exact h.1.2.2.1 i (by omega)
          · obtain ⟨q1, q2, q3, q4, q5⟩ := cs
            refine ⟨CFu (CFu (CFu q1 (by omega) (by omega)) (by omega) (by omega)) (by omega) (by omega), ?_, fun k k1 k2 => ?_, by rw [u1s], fun i hi => ?_⟩
            · rw [u1n _ _ _ _ _ _ (by omega), u1n _ _ _ _ _ _ (by omega), u1n _ _ _ _ _ _ (by omega)]; exact q2
            · rw [u1n _ _ _ _ _ _ (by omega), u1n _ _ _ _ _ _ (by omega), u1n _ _ _ _ _ _ (by omega)]; exact q3 k k1 k2
            · have hi' : i < s.2.2.2.2.1 + 1 := hi
              by_cases e : i = s.2.2.2.2.1
              · subst e
                refine ⟨?_, ?_⟩
                · rw [u1n _ _ _ _ _ _ (by omega), u1n _ _ _ _ _ _ (by omega), u1s]
                  show _ = Int32.ofInt (if _ then _ else _); rw [if_pos rfl]
                · rw [u1n _ _ _ _ _ _ (by omega), u1s]
                  show _ = Int32.ofInt (if _ then _ else _); rw [if_pos rfl]
              · refine ⟨?_, ?_⟩
                · rw [u1n _ _ _ _ _ _ (by omega), u1n _ _ _ _ _ _ (by omega), u1n _ _ _ _ _ _ (by omega)]
                  show _ = Int32.ofInt (if _ then _ else _); rw [if_neg e]; exact (q5 i (by omega)).1
                · rw [u1n _ _ _ _ _ _ (by omega), u1n _ _ _ _ _ _ (by omega), u1n _ _ _ _ _ _ (by omega)]
                  show _ = Int32.ofInt (if _ then _ else _); rw [if_neg e]; exact (q5 i (by omega)).2
          · obtain ⟨q1, q2, q3, q4, q5⟩ := ms
            refine ⟨MFu (MFu (MFu q1 (by omega) (by omega)) (by omega) (by omega)) (by omega) (by omega), ?_, fun k k1 k2 => ?_, by rw [u1s], fun i hi => ?_⟩
            · rw [u1n _ _ _ _ _ _ (by omega), u1n _ _ _ _ _ _ (by omega), u1n _ _ _ _ _ _ (by omega)]; exact q2
            · rw [u1n _ _ _ _ _ _ (by omega), u1n _ _ _ _ _ _ (by omega), u1n _ _ _ _ _ _ (by omega)]; exact q3 k k1 k2
            · have hi' : i < s.2.2.2.2.1 + 1 := hi
              by_cases e : i = s.2.2.2.2.1
              · subst e
                refine ⟨?_, ?_⟩
                · rw [u1n _ _ _ _ _ _ (by omega), u1n _ _ _ _ _ _ (by omega), u1s]
                  show _ = Int32.ofInt (if _ then _ else _); rw [if_pos rfl]
                · rw [u1n _ _ _ _ _ _ (by omega), u1s]
                  show _ = Int32.ofInt (if _ then _ else _); rw [if_pos rfl]
              · refine ⟨?_, ?_⟩
                · rw [u1n _ _ _ _ _ _ (by omega), u1n _ _ _ _ _ _ (by omega), u1n _ _ _ _ _ _ (by omega)]
                  show _ = Int32.ofInt (if _ then _ else _); rw [if_neg e]; exact (q5 i (by omega)).1
                · rw [u1n _ _ _ _ _ _ (by omega), u1n _ _ _ _ _ _ (by omega), u1n _ _ _ _ _ _ (by omega)]
                  show _ = Int32.ofInt (if _ then _ else _); rw [if_neg e]; exact (q5 i (by omega)).2
          · refine .inr (.inl ⟨d5, rfl, rfl, rfl, rfl, rfl, fun i hi => ⟨?_, ?_⟩⟩)
            · show _ = (if _ then _ else _); rw [if_neg (by omega)]
            · show _ = (if _ then _ else _); rw [if_neg (by omega)]
    · simp only [decide_eq_false g, if_true]
      by_cases g0 : a2.toInt < 1
      · rw [if_pos (show a2 < 1 by rw [show (1 : Int32) = Int32.ofInt 1 from rfl, lt_i (by omega) (by omega)]; omega)]
        exact Ar.no h _
      · rw [if_neg (show ¬ (a2 < 1) by rw [show (1 : Int32) = Int32.ofInt 1 from rfl, lt_i (by omega) (by omega)]; omega), if_pos (show (1000 : Int32) < a2 by rw [show (1000 : Int32) = Int32.ofInt 1000 from rfl, i_lt (by omega) (by omega)]; omega)]
        exact Ar.no h _
  · simp only [decide_eq_false k, if_true]
    exact Ar.no h _
theorem CS.upf {k : Nat} (hk : k < 10) {h : Nat} {t : Int} (q : CS n cv c s) : CS n cv (eU1 c 7 (h * 10 + k) (Int32.ofInt t)) (upf s.1 h k t, s.2) := by
  obtain ⟨q1, q2, q3, q4, q5⟩ := q
  exact ⟨CF_upf q1 hk t, by rw [u1n _ _ _ _ _ _ (by omega)]; exact q2, fun i i1 i2 => by rw [u1n _ _ _ _ _ _ (by omega)]; exact q3 i i1 i2, by rw [u1n _ _ _ _ _ _ (by omega)]; exact q4, fun i hi => by rw [u1n _ _ _ _ _ _ (by omega), u1n _ _ _ _ _ _ (by omega)]; exact q5 i hi⟩
theorem MS.upf {k : Nat} (hk : k = 1 ∨ (3 ≤ k ∧ k < 10)) {h : Nat} {t : Int} (q : MS n cv m s) : MS n cv (eU1 m k h (Int32.ofInt t)) (upf s.1 h k t, s.2) := by
  obtain ⟨q1, q2, q3, q4, q5⟩ := q
  exact ⟨MF_upf q1 hk t, by rw [u1n _ _ _ _ _ _ (by omega)]; exact q2, fun i i1 i2 => by rw [u1n _ _ _ _ _ _ (by omega)]; exact q3 i i1 i2, by rw [u1n _ _ _ _ _ _ (by omega)]; exact q4, fun i hi => by rw [u1n _ _ _ _ _ _ (by omega), u1n _ _ _ _ _ _ (by omega)]; exact q5 i hi⟩
theorem upf_back {F : Nat → Nat → Int} {h k : Nat} {t : Int} : F = upf (upf F h k t) h k (F h k) := by rw [upf_upf, upf_id]
theorem Li_upf {h k : Nat} {t : Int} (hk : k = 1 ∨ k = 3) : Li n (upf s.1 h k t, s.2) s := fun i j _ _ h1 h3 => by show s.1 i j = upf s.1 h k t i j; rw [upf_n (by omega)]
theorem a_grant (h : RA n cv c m s l) (a1 a2 : Int32) : Ar n cv (f_xx_grant a1 a2 c) (f_mm_grant a1 a2 m) c m := by
  have h0 := h.q (Fr.rfl (w := c)) (m0k m)
  have hF := h.1.1
  have hn := hF.1
  have r2 := irange a2
  unfold f_xx_grant f_mm_grant
  simp only [c_takes hF h.2.1.1, m_isHolder hF h0.2.2.1.1, in_dec (show (1 : Int32).toInt = 1 from rfl) (show (9999 : Int32).toInt = 9999 from rfl), obind, b2i_0]
  by_cases g : 0 ≤ a1.toInt ∧ a1.toInt < n
  · simp only [decide_eq_true g, Bool.true_eq_false, if_false]
    obtain ⟨i, hi, rfl⟩ := hold_of g
    have fi := hF.hd hi
    rw [toI_ofI (a := (i : Int)) (by omega) (by omega), nat_i, eChk_of (by omega) (by omega) (by omega), icl (by omega) (by omega), nat_i, (h0.2.2.1.1.2.2.2 i hi).2.1]
    have ea : Int32.ofInt (s.1 i 1) + a2 = Int32.ofInt (s.1 i 1 + a2.toInt) := by rw [Int32.ofInt_add, ← iof a2]
    by_cases u : 1 ≤ a2.toInt ∧ a2.toInt ≤ 9999
    · simp only [decide_eq_true u, Bool.true_eq_false, if_false]
      rw [ea]
      by_cases v : a2.toInt ≤ 9999 - s.1 i 1
      · rw [decide_eq_true (show (0 ≤ (i : Int) ∧ (i : Int) < n) ∧ 1 ≤ a2.toInt ∧ a2.toInt ≤ 9999 - s.1 i 1 from ⟨by omega, by omega, v⟩), if_pos (by simp), if_pos (by rw [show (9999 : Int32) = Int32.ofInt 9999 from rfl, ile (by omega) (by omega) (by omega) (by omega)]; omega), show (1 : Int32) = Int32.ofInt (1 : Nat) from rfl, c_fact hF h.2.1.1 hi (by omega), obind]
        dsimp only
        rw [ea]
        obtain ⟨p, p1, p2, p3⟩ := h.2.2.2.2.2.2.2.1
        obtain ⟨c1, d0, d1, d2, d3, d4, d5, d6, d7⟩ := ac_keep p1 h.2.2.2.1 p2 h.2.2.2.2.2.1 2 (Int32.ofInt (i : Nat)) (Int32.ofInt (s.1 i 1))
        obtain ⟨m1, f0, f1, f2, f3⟩ := m_keep h0.1 h0.2.2.1 h0.2.2.2
        have cs := d1.cs h.2.1
        have ms := h0.2.2.1.kk f1
        rw [d0, obind, f0, obind, c_put hF cs.1 hi (by omega), obind, eChk_of (by omega) (by omega) (by omega), eChk_of (by omega) (by omega) (by omega), eChk_of (by omega) (by omega) (by omega), u1s, (ms.1.2.2.2 i hi).2.1, ea]
        have ts : SOK n cv (upf s.1 i 1 (s.1 i 1 + a2.toInt), s.2) := ⟨FOK_upf hF (by omega) (HOK_1 fi (by omega) (by omega)), h.1.2.1, h.1.2.2.1, h.1.2.2.2⟩
        refine ⟨_, _, _, (upf s.1 i 1 (s.1 i 1 + a2.toInt), s.2), (s :: l).take 12, rfl, rfl, ?_, ?_, ?_⟩
        · exact (d1.fr.sub (by decide)).tr (Fr.rfl.u1 (by decide))
        · exact (Ka.z.tr f1.ka).tr (Ka.u (fun _ _ _ _ _ _ _ _ => ⟨rfl, rfl⟩) (by omega))
        · refine act_fin h p1 p2 p3 d2 d3 d4 ?_ ?_ f2 f3 ?_ ?_ ts (cs.upf (by omega)) (ms.upf (by omega)) ?_ (Li_upf (by omega))
          · funext i; rw [u1n _ _ _ _ _ _ (by omega)]
          · funext i; rw [u1n _ _ _ _ _ _ (by omega)]
          · funext i; rw [u1n _ _ _ _ _ _ (by omega)]
          · rw [u1n _ _ _ _ _ _ (by omega)]
          · exact .inr (.inr (.inl ⟨d5, i, hi, d6, d7, upf_back, rfl⟩))
      · rw [decide_eq_false (fun z : (0 ≤ (i : Int) ∧ (i : Int) < n) ∧ 1 ≤ a2.toInt ∧ a2.toInt ≤ 9999 - s.1 i 1 => v z.2.2), if_neg (by simp), if_neg (by rw [show (9999 : Int32) = Int32.ofInt 9999 from rfl, ile (by omega) (by omega) (by omega) (by omega)]; omega)]
        exact Ar.no h _
    · simp only [decide_eq_false u, if_true]
      rw [decide_eq_false (fun z : (0 ≤ (i : Int) ∧ (i : Int) < n) ∧ 1 ≤ a2.toInt ∧ a2.toInt ≤ 9999 - s.1 i 1 => by omega), if_neg (by simp)]
      exact Ar.no h _
  · simp only [decide_eq_false g, decide_eq_false (fun z : (0 ≤ a1.toInt ∧ a1.toInt < n) ∧ 1 ≤ a2.toInt ∧ a2.toInt ≤ 9999 - s.1 a1.toInt.toNat 1 => g z.1), not_true_eq_false, if_true, if_false]
    exact Ar.no h _
theorem a_rank (h : RA n cv c m s l) (a1 a2 : Int32) : Ar n cv (f_xx_rank a1 a2 c) (f_mm_rank a1 a2 m) c m := by
  have h0 := h.q (Fr.rfl (w := c)) (m0k m)
  have hF := h.1.1
  have hn := hF.1
  unfold f_xx_rank f_mm_rank
  simp only [c_isClassA hF h.2.1.1, m_isClassA hF h0.2.2.1.1, in_dec (show (0 : Int32).toInt = 0 from rfl) (show (5 : Int32).toInt = 5 from rfl), obind, b2i_0]
  by_cases g : (0 ≤ a1.toInt ∧ a1.toInt < n) ∧ s.1 a1.toInt.toNat 0 = 2
  · simp only [decide_eq_true g, Bool.true_eq_false, if_false]
    by_cases u : 0 ≤ a2.toInt ∧ a2.toInt ≤ 5
    · simp only [decide_eq_true u, Bool.true_eq_false, if_false]
      rw [if_neg (show ¬ (a2 < 0) by rw [show (0 : Int32) = Int32.ofInt 0 from rfl, lt_i (by omega) (by omega)]; omega), if_neg (show ¬ ((5 : Int32) < a2) by rw [show (5 : Int32) = Int32.ofInt 5 from rfl, i_lt (by omega) (by omega)]; omega)]
      obtain ⟨⟨g1, g2⟩, g3⟩ := g
      obtain ⟨i, hi, rfl⟩ := hold_of ⟨g1, g2⟩
      obtain ⟨y, y1, y2, rfl⟩ := amt_of u
      rw [toI_ofI (a := (i : Int)) (by omega) (by omega), nat_i] at g3
      have fi := hF.hd hi
      have m3 := (h0.2.2.1.1.2.2.2 i hi).2.2.2 g3 3 (by omega) (by omega)
      rw [show (3 : Int32) = Int32.ofInt (3 : Nat) from rfl, c_fact hF h.2.1.1 hi (by omega), obind, eChk_of (by omega) (by omega) (by omega), icl (by omega) (by omega), nat_i, m3]
      dsimp only
      by_cases v : s.1 i 3 = y
      · rw [if_neg (fun z => z (by rw [v])), if_neg (fun z => z (by rw [v]))]
        exact Ar.no h _
      · have nv : ¬ (Int32.ofInt (s.1 i 3) = Int32.ofInt y) := by rw [ieq (by omega) (by omega) (by omega) (by omega)]; exact v
        rw [if_pos nv, if_pos nv, c_fact hF h.2.1.1 hi (by omega), obind]
        dsimp only
        obtain ⟨p, p1, p2, p3⟩ := h.2.2.2.2.2.2.2.1
        obtain ⟨c1, d0, d1, d2, d3, d4, d5, d6, d7⟩ := ac_keep p1 h.2.2.2.1 p2 h.2.2.2.2.2.1 4 (Int32.ofInt (i : Nat)) (Int32.ofInt (s.1 i 3))
        obtain ⟨m1, f0, f1, f2, f3⟩ := m_keep h0.1 h0.2.2.1 h0.2.2.2
        have cs := d1.cs h.2.1
        have ms := h0.2.2.1.kk f1
        rw [d0, obind, f0, obind, c_put hF cs.1 hi (by omega), obind, eChk_of (by omega) (by omega) (by omega), eChk_of (by omega) (by omega) (by omega), (ms.1.2.2.2 i hi).2.2.2 g3 3 (by omega) (by omega)]
        have ts : SOK n cv (upf s.1 i 3 y, s.2) := ⟨FOK_upf hF (by omega) (HOK_3 fi g3 (by omega) (by omega)), h.1.2.1, h.1.2.2.1, h.1.2.2.2⟩
        refine ⟨_, _, _, (upf s.1 i 3 y, s.2), (s :: l).take 12, rfl, rfl, ?_, ?_, ?_⟩
        · exact (d1.fr.sub (by decide)).tr (Fr.rfl.u1 (by decide))
        · exact (Ka.z.tr f1.ka).tr (Ka.u (fun _ _ _ _ _ _ _ _ => ⟨rfl, rfl⟩) (by omega))
        · refine act_fin h p1 p2 p3 d2 d3 d4 ?_ ?_ f2 f3 ?_ ?_ ts (cs.upf (by omega)) (ms.upf (by omega)) ?_ (Li_upf (by omega))
          · funext i; rw [u1n _ _ _ _ _ _ (by omega)]
          · funext i; rw [u1n _ _ _ _ _ _ (by omega)]
          · funext i; rw [u1n _ _ _ _ _ _ (by omega)]
          · rw [u1n _ _ _ _ _ _ (by omega)]
          · exact .inr (.inr (.inr (.inr ⟨d5, i, hi, d6, d7, upf_back, rfl⟩)))
    · simp only [decide_eq_false u, if_true]
      by_cases g0 : a2.toInt < 0
      · rw [if_pos (show a2 < 0 by rw [show (0 : Int32) = Int32.ofInt 0 from rfl, lt_i (by omega) (by omega)]; omega)]
        exact Ar.no h _
      · rw [if_neg (show ¬ (a2 < 0) by rw [show (0 : Int32) = Int32.ofInt 0 from rfl, lt_i (by omega) (by omega)]; omega), if_pos (show (5 : Int32) < a2 by rw [show (5 : Int32) = Int32.ofInt 5 from rfl, i_lt (by omega) (by omega)]; omega)]
        exact Ar.no h _
  · simp only [decide_eq_false g, if_true]
    exact Ar.no h _
theorem CFw {F : Nat → Nat → Int} {wv x : Int32} (h : CF c n F cv wv) : CF (eU1 c 8 2 x) n F cv x := by
  obtain ⟨a, b, d, e⟩ := h
  exact ⟨by rw [u1n _ _ _ _ _ _ (by omega)]; exact a, by rw [u1n _ _ _ _ _ _ (by omega)]; exact b, by rw [u1s], fun i k hi hk => by rw [u1n _ _ _ _ _ _ (by omega)]; exact e i k hi hk⟩
theorem MFw {F : Nat → Nat → Int} {wv x : Int32} (h : MF m n F cv wv) : MF (eU1 m 24 16 x) n F cv x := by
  obtain ⟨a, b, d, e⟩ := h
  refine ⟨by rw [u1n _ _ _ _ _ _ (by omega)]; exact a, by rw [u1n _ _ _ _ _ _ (by omega)]; exact b, by rw [u1s], fun j hj => ?_⟩
  have g := e j hj
  rw [u1n _ _ _ _ _ _ (by omega), u1n _ _ _ _ _ _ (by omega), u1n _ _ _ _ _ _ (by omega)]
  refine ⟨g.1, g.2.1, g.2.2.1, fun h2 q h3 h4 => ?_⟩
  rw [u1n _ _ _ _ _ _ (by omega)]
  exact g.2.2.2 h2 q h3 h4
theorem CS.w {x : Int32} (q : CS n cv c s) : CS n cv (eU1 c 8 2 x) (s.1, x, s.2.2) := by
  obtain ⟨q1, q2, q3, q4, q5⟩ := q
  exact ⟨CFw q1, by rw [u1n _ _ _ _ _ _ (by omega)]; exact q2, fun i i1 i2 => by rw [u1n _ _ _ _ _ _ (by omega)]; exact q3 i i1 i2, by rw [u1n _ _ _ _ _ _ (by omega)]; exact q4, fun i hi => by rw [u1n _ _ _ _ _ _ (by omega), u1n _ _ _ _ _ _ (by omega)]; exact q5 i hi⟩
theorem MS.w {x : Int32} (q : MS n cv m s) : MS n cv (eU1 m 24 16 x) (s.1, x, s.2.2) := by
  obtain ⟨q1, q2, q3, q4, q5⟩ := q
  exact ⟨MFw q1, by rw [u1n _ _ _ _ _ _ (by omega)]; exact q2, fun i i1 i2 => by rw [u1n _ _ _ _ _ _ (by omega)]; exact q3 i i1 i2, by rw [u1n _ _ _ _ _ _ (by omega)]; exact q4, fun i hi => by rw [u1n _ _ _ _ _ _ (by omega), u1n _ _ _ _ _ _ (by omega)]; exact q5 i hi⟩
theorem a_waive (h : RA n cv c m s l) (a1 a2 : Int32) : Ar n cv (f_xx_waive a1 a2 c) (f_mm_waive a1 a2 m) c m := by
  have h0 := h.q (Fr.rfl (w := c)) (m0k m)
  have hF := h.1.1
  have hn := hF.1
  unfold f_xx_waive f_mm_waive
  simp only [c_isClassA hF h.2.1.1, m_isClassA hF h0.2.2.1.1, obind, b2i_0]
  by_cases g : (0 ≤ a1.toInt ∧ a1.toInt < n) ∧ s.1 a1.toInt.toNat 0 = 2
  · simp only [decide_eq_true g, Bool.true_eq_false, if_false]
    obtain ⟨⟨g1, g2⟩, g3⟩ := g
    obtain ⟨i, hi, rfl⟩ := hold_of ⟨g1, g2⟩
    rw [c_isWaived hF h.2.1.1 hi, obind, h0.2.2.1.1.2.2.1, m_isOf, obind]
    dsimp only
    by_cases v : b2i (sb s.2.1 i) = a2
    · rw [if_neg (fun z => z v), if_neg (fun z => z v)]
      exact Ar.no h _
    · rw [if_pos v, if_pos v, h.2.1.1.2.2.1]
      obtain ⟨p, p1, p2, p3⟩ := h.2.2.2.2.2.2.2.1
      obtain ⟨c1, d0, d1, d2, d3, d4, d5, d6, d7⟩ := ac_keep p1 h.2.2.2.1 p2 h.2.2.2.2.2.1 3 (Int32.ofInt (i : Nat)) s.2.1
      obtain ⟨m1, f0, f1, f2, f3⟩ := m_keep h0.1 h0.2.2.1 h0.2.2.2
      have cs := d1.cs h.2.1
      have ms := h0.2.2.1.kk f1
      rw [d0, obind, f0, obind, cs.1.2.2.1, ms.1.2.2.1]
      refine ⟨_, _, _, (s.1, s.2.1 ^^^ ((1 : Int32) <<< (Int32.ofInt (i : Nat) &&& 31)), s.2.2), (s :: l).take 12, rfl, rfl, ?_, ?_, ?_⟩
      · exact (d1.fr.sub (by decide)).tr (Fr.rfl.u1 (by decide))
      · exact (Ka.z.tr f1.ka).tr (Ka.u (fun _ _ _ _ _ _ _ _ => ⟨rfl, rfl⟩) (by omega))
      · refine act_fin h p1 p2 p3 d2 d3 d4 ?_ ?_ f2 f3 ?_ ?_ ⟨h.1.1, h.1.2.1, h.1.2.2.1, h.1.2.2.2⟩ cs.w ms.w ?_ (fun _ _ _ _ _ _ => rfl)
        · funext i; rw [u1n _ _ _ _ _ _ (by omega)]
        · funext i; rw [u1n _ _ _ _ _ _ (by omega)]
        · funext i; rw [u1n _ _ _ _ _ _ (by omega)]
        · rw [u1n _ _ _ _ _ _ (by omega)]
        · exact .inr (.inr (.inr (.inl ⟨d5, d7, rfl, rfl⟩)))
  · simp only [decide_eq_false g, if_true]
    exact Ar.no h _
end
