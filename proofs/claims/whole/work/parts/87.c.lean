section
variable {c m : eW} {L : Nat}
/-- what comes after the blanks -/
noncomputable def goR (w : eW) : Option (eW) := ((f_mm_byteAt (w.1 24 21) (eU1 w 24 20 (w.1 24 21))).bind fun p4 => (if ¬ p4.1 = (-1 : Int32) then ((f_mm_isSmall p4.1 (eU1 (eU1 p4.2 24 23 (0 : Int32)) 24 24 (0 : Int32))).bind fun p5 => (if p5.1 = 0 then ((f_mm_isDigit p4.1 p5.2).bind fun p6 => (if p6.1 = 0 then (if ¬ p4.1 = (59 : Int32) then (some (eU1 (eU1 p6.2 24 21 ((p6.2.1 24 21) + (1 : Int32))) 24 22 (4 : Int32))) else (some (eU1 (eU1 p6.2 24 21 ((p6.2.1 24 21) + (1 : Int32))) 24 22 (3 : Int32)))) else (f_mm_goOn_L237 eFu p6.2))) else (f_mm_goOn_L94 eFu p5.2))) else (some (eU1 (eU1 (eU1 p4.2 24 23 (0 : Int32)) 24 24 (0 : Int32)) 24 22 (0 : Int32)))))
/-- both have scanned -/
def Sc (x y : Option eW) (c m : eW) (L x0 : Nat) : Prop := ∃ c' m' z, x = some c' ∧ y = some m' ∧ Tok c' m' L z ∧ x0 ≤ z ∧ (¬ c'.1 1 4 = 0 → x0 < z) ∧ Cs c c' ∧ Mg m m'
theorem scan_at {x : Nat} (t : Tp c m L x) : Sc (f_ta_scan_J39 c) (goR m) c m L x := by
  have t' := t
  obtain ⟨t1, t2, t3, t4, t5, t6, t7⟩ := t'
  have kc : Cs c (eU1 c 1 3 (c.1 1 2)) := Cs.rfl.u (by omega)
  have km : Mg m (eU1 m 24 20 (m.1 24 21)) := Mg.rfl.u (by omega)
  have tt := t.go kc km t2 (by rw [u1n _ _ _ _ _ _ (by omega)]; exact t5) (by rw [u1n _ _ _ _ _ _ (by omega)]; exact t6)
  have bA := m_byteAt tt t2
  unfold f_ta_scan_J39 goR
  rw [t6] at bA ⊢
  rw [bA, obind]
  dsimp only
  have km2 : Mg m (eU1 (eU1 (eU1 m 24 20 (Int32.ofInt (x : Nat))) 24 23 (0 : Int32)) 24 24 (0 : Int32)) := ((Mg.rfl.u (by omega)).u (by omega)).u (by omega)
  by_cases z : x < L
  · have br := t7 x z
    have r1 := br.rng (u := 97) (v := 122) (by omega) (by omega)
    have r2 := br.rng (u := 48) (v := 57) (by omega) (by omega)
    have r3 : c.1 0 x = 59 ↔ m.1 11 x = 59 := br.eqz (z := 59) (by omega) (by omega)
    rw [if_pos z, if_pos (by rw [t5, t3, ilt (by omega) (by omega) (by omega) (by omega)]; omega), t5, eChk_of (by omega) (by omega) (by omega), icl (by omega) (by omega), nat_i]
    have m11 : (eU1 m 24 20 (Int32.ofInt (x : Nat))).1 11 x = m.1 11 x := u1n _ _ _ _ _ _ (by omega)
    rw [m11, if_pos br.nn, m_small, c_letter, obind, obind]
    dsimp only
    have ec : ∀ a : Int32, (eU1 c 1 3 a).1 1 2 = Int32.ofInt (x : Nat) := fun a => by rw [u1n _ _ _ _ _ _ (by omega)]; exact t5
    have ec0 : ∀ a : Int32, (eU1 c 1 3 a).1 0 x = c.1 0 x := fun a => u1n _ _ _ _ _ _ (by omega)
    simp only [ec, m_digit, obind, c_digit]
    rw [eChk_of (by omega) (by omega) (by omega), eChk_of (by omega) (by omega) (by omega), icl (by omega) (by omega), nat_i]
    simp only [ec0]
    by_cases l1 : 97 ≤ (m.1 11 x).toInt ∧ (m.1 11 x).toInt ≤ 122
    · rw [if_neg (show ¬ b2i (decide (97 ≤ (c.1 0 x).toInt ∧ (c.1 0 x).toInt ≤ 122)) = 0 by rw [decide_eq_true (r1.mpr l1)]; decide), if_neg (show ¬ b2i (decide (97 ≤ (m.1 11 x).toInt ∧ (m.1 11 x).toInt ≤ 122)) = 0 by rw [decide_eq_true l1]; decide)]
      unfold f_ta_scanWord
      have kc2 : Cs c (eU2 (eU1 c 1 3 (Int32.ofInt (x : Nat))) 1 6 0) := (Cs.rfl.u (by omega)).v
      have t2' := t.go kc2 km2 t2 (ec (Int32.ofInt (x : Nat))) (by rw [u1n _ _ _ _ _ _ (by omega), u1n _ _ _ _ _ _ (by omega), u1n _ _ _ _ _ _ (by omega)]; exact t6)
      obtain ⟨c', m', y, g1, g2, g3, g4, g5, g6⟩ := word_loop t2 (L - x) x eFu eFu (by omega) (by rw [eFu_eq]; omega) (by rw [eFu_eq]; omega) _ _ [] t2' (Nat.le_refl _) (u1s c 1 3 (Int32.ofInt (x : Nat))) (by rw [u1n _ _ _ _ _ _ (by omega), u1n _ _ _ _ _ _ (by omega), u1s]) (fun b hb => by simp at hb) (by simp) (fun _ => ⟨by rw [u2s]; rfl, by rw [u1n _ _ _ _ _ _ (by omega), u1s]; rfl, by rw [u1s]; rfl⟩)
      refine ⟨c', m', y, by rw [g1]; rfl, g2, g3, g4.1, fun _ => g4.2 z ?_, kc2.tr g5, km2.tr g6⟩
      rw [u1n _ _ _ _ _ _ (by omega), u1n _ _ _ _ _ _ (by omega), u1n _ _ _ _ _ _ (by omega)]; exact l1
    · rw [if_pos (show b2i (decide (97 ≤ (c.1 0 x).toInt ∧ (c.1 0 x).toInt ≤ 122)) = 0 by rw [decide_eq_false (fun y => l1 (r1.mp y))]; decide), if_pos (show b2i (decide (97 ≤ (m.1 11 x).toInt ∧ (m.1 11 x).toInt ≤ 122)) = 0 by rw [decide_eq_false l1]; decide)]
      by_cases l2 : 48 ≤ (m.1 11 x).toInt ∧ (m.1 11 x).toInt ≤ 57
      · rw [if_neg (show ¬ b2i (decide (48 ≤ (c.1 0 x).toInt ∧ (c.1 0 x).toInt ≤ 57)) = 0 by rw [decide_eq_true (r2.mpr l2)]; decide), if_neg (show ¬ b2i (decide (48 ≤ (m.1 11 x).toInt ∧ (m.1 11 x).toInt ≤ 57)) = 0 by rw [decide_eq_true l2]; decide)]
        unfold f_ta_scanNumber
        have kc2 : Cs c (eU1 (eU1 c 1 3 (Int32.ofInt (x : Nat))) 1 5 0) := (Cs.rfl.u (by omega)).u (by omega)
        have t2' := t.go kc2 km2 t2 (by rw [u1n _ _ _ _ _ _ (by omega)]; exact ec _) (by rw [u1n _ _ _ _ _ _ (by omega), u1n _ _ _ _ _ _ (by omega), u1n _ _ _ _ _ _ (by omega)]; exact t6)
        obtain ⟨c', m', y, g1, g2, g3, g4, g5, g6⟩ := num_loop t2 (L - x) x eFu eFu (by omega) (by rw [eFu_eq]; omega) (by rw [eFu_eq]; omega) _ _ t2' (Nat.le_refl _) (by rw [u1n _ _ _ _ _ _ (by omega), u1s]) (by rw [u1n _ _ _ _ _ _ (by omega), u1n _ _ _ _ _ _ (by omega), u1s]) (fun _ => ⟨0, by omega, by rw [Nat.sub_self]; decide, by rw [u1s]; rfl, by rw [u1n _ _ _ _ _ _ (by omega), u1s]; rfl⟩)
        refine ⟨c', m', y, by rw [g1]; rfl, g2, g3, g4.1, fun _ => g4.2 z ?_, kc2.tr g5, km2.tr g6⟩
        rw [u1n _ _ _ _ _ _ (by omega), u1n _ _ _ _ _ _ (by omega), u1n _ _ _ _ _ _ (by omega)]; exact l2
      · rw [if_pos (show b2i (decide (48 ≤ (c.1 0 x).toInt ∧ (c.1 0 x).toInt ≤ 57)) = 0 by rw [decide_eq_false (fun y => l2 (r2.mp y))]; decide), if_pos (show b2i (decide (48 ≤ (m.1 11 x).toInt ∧ (m.1 11 x).toInt ≤ 57)) = 0 by rw [decide_eq_false l2]; decide)]
        have fin : ∀ v : Nat, v = 3 ∨ v = 4 → Sc (some (eU1 (eU1 (eU1 c 1 3 (Int32.ofInt (x : Nat))) 1 4 (Int32.ofInt (v : Nat))) 1 2 (Int32.ofInt (x : Nat) + 1))) (some (eU1 (eU1 (eU1 (eU1 (eU1 m 24 20 (Int32.ofInt (x : Nat))) 24 23 0) 24 24 0) 24 21 ((eU1 (eU1 (eU1 m 24 20 (Int32.ofInt (x : Nat))) 24 23 0) 24 24 0).1 24 21 + 1)) 24 22 (Int32.ofInt (v : Nat)))) c m L x := fun v hv => by
          have kc2 : Cs c (eU1 (eU1 (eU1 c 1 3 (Int32.ofInt (x : Nat))) 1 4 (Int32.ofInt (v : Nat))) 1 2 (Int32.ofInt (x : Nat) + 1)) := ((Cs.rfl.u (by omega)).u (by omega)).u (by omega)
          have km3 : Mg m (eU1 (eU1 (eU1 (eU1 (eU1 m 24 20 (Int32.ofInt (x : Nat))) 24 23 0) 24 24 0) 24 21 ((eU1 (eU1 (eU1 m 24 20 (Int32.ofInt (x : Nat))) 24 23 0) 24 24 0).1 24 21 + 1)) 24 22 (Int32.ofInt (v : Nat))) := (km2.u (by omega)).u (by omega)
          refine ⟨_, _, x + 1, rfl, rfl, ⟨t.go kc2 km3 (by omega) (by rw [u1s, isucc]) (by rw [u1n _ _ _ _ _ _ (by omega), u1s, u1n _ _ _ _ _ _ (by omega), u1n _ _ _ _ _ _ (by omega), u1n _ _ _ _ _ _ (by omega), t6, isucc]), ?_, v, by omega, by rw [u1n _ _ _ _ _ _ (by omega), u1s], by rw [u1s], fun z => by omega, fun z => by omega⟩, by omega, fun _ => by omega, kc2, km3⟩
          rw [u1n _ _ _ _ _ _ (by omega), u1n _ _ _ _ _ _ (by omega), u1s, u1n _ _ _ _ _ _ (by omega), u1n _ _ _ _ _ _ (by omega), u1n _ _ _ _ _ _ (by omega), u1n _ _ _ _ _ _ (by omega), u1s]
        by_cases l3 : m.1 11 x = 59
        · rw [if_neg (show ¬ ¬ c.1 0 x = 59 from fun y => y (r3.mpr l3)), if_neg (show ¬ ¬ m.1 11 x = 59 from fun y => y l3)]
          exact fin 3 (by omega)
        · rw [if_pos (show ¬ c.1 0 x = 59 from fun y => l3 (r3.mp y)), if_pos l3]
          exact fin 4 (by omega)
  · rw [if_neg z, if_neg (by rw [t5, t3, ilt (by omega) (by omega) (by omega) (by omega)]; omega), t5, if_neg (by simp)]
    have kc2 : Cs c (eU1 (eU1 c 1 3 (Int32.ofInt (x : Nat))) 1 4 0) := (Cs.rfl.u (by omega)).u (by omega)
    have km3 := km2.u (k := 22) (x := 0) (by omega)
    refine ⟨_, _, x, rfl, rfl, ⟨t.go kc2 km3 t2 (by rw [u1n _ _ _ _ _ _ (by omega), u1n _ _ _ _ _ _ (by omega)]; exact t5) (by rw [u1n _ _ _ _ _ _ (by omega), u1n _ _ _ _ _ _ (by omega), u1n _ _ _ _ _ _ (by omega), u1n _ _ _ _ _ _ (by omega)]; exact t6), ?_, 0, by omega, by rw [u1s]; rfl, by rw [u1s]; rfl, fun z => by omega, fun z => by omega⟩, Nat.le_refl _, fun z => absurd (by rw [u1s]) z, kc2, km3⟩
    rw [u1n _ _ _ _ _ _ (by omega), u1s, u1n _ _ _ _ _ _ (by omega), u1n _ _ _ _ _ _ (by omega), u1n _ _ _ _ _ _ (by omega), u1s]
theorem scan_loop : ∀ (d x f1 f2 : Nat), x + d = L → d < f1 → d < f2 → ∀ (c m : eW), Tp c m L x → Sc (f_ta_scan_L0 f1 c) (f_mm_goOn_L8 f2 m) c m L x := by
  intro d
  induction d with
  | zero =>
    intro x f1 f2 hx hf1 hf2 c m t
    obtain ⟨f1, rfl⟩ : ∃ g, f1 = g + 1 := ⟨f1 - 1, by omega⟩
    obtain ⟨f2, rfl⟩ : ∃ g, f2 = g + 1 := ⟨f2 - 1, by omega⟩
    have bA := m_byteAt t t.2.1
    have sa := scan_at t
    obtain ⟨t1, t2, t3, t4, t5, t6, t7⟩ := t
    rw [if_neg (show ¬ x < L by omega), ← t6] at bA
    unfold f_ta_scan_L0 f_mm_goOn_L8
    rw [if_pos (by rw [t3, t5, ile (by omega) (by omega) (by omega) (by omega)]; omega)]
    simp only [bA, obind]
    rw [if_neg (by decide), if_pos (by decide)]
    exact sa
  | succ d ih =>
    intro x f1 f2 hx hf1 hf2 c m t
    obtain ⟨f1, rfl⟩ : ∃ g, f1 = g + 1 := ⟨f1 - 1, by omega⟩
    obtain ⟨f2, rfl⟩ : ∃ g, f2 = g + 1 := ⟨f2 - 1, by omega⟩
    have bA := m_byteAt t t.2.1
    have sa := scan_at t
    have t' := t
    obtain ⟨t1, t2, t3, t4, t5, t6, t7⟩ := t'
    rw [if_pos (show x < L by omega), ← t6] at bA
    have br := t7 x (by omega)
    have r1 := br.eqz (z := 32) (by omega) (by omega)
    have r2 := br.eqz (z := 10) (by omega) (by omega)
    have step : Sc (f_ta_scan_L0 f1 (eU1 c 1 2 ((c.1 1 2) + (1 : Int32)))) (f_mm_goOn_L8 f2 (eU1 m 24 21 ((m.1 24 21) + (1 : Int32)))) c m L x := by
      have kc : Cs c (eU1 c 1 2 ((c.1 1 2) + (1 : Int32))) := Cs.rfl.u (by omega)
      have km : Mg m (eU1 m 24 21 ((m.1 24 21) + (1 : Int32))) := Mg.rfl.u (by omega)
      obtain ⟨c', m', y, g1, g2, g3, g4, g5, g6, g7⟩ := ih (x + 1) f1 f2 (by omega) (by omega) (by omega) _ _ (t.go kc km (show x + 1 ≤ L by omega) (by rw [u1s, t5, isucc]) (by rw [u1s, t6, isucc]))
      exact ⟨c', m', y, g1, g2, g3, by omega, fun _ => by omega, kc.tr g6, km.tr g7⟩
    unfold f_ta_scan_L0 f_mm_goOn_L8
    rw [if_neg (by rw [t3, t5, ile (by omega) (by omega) (by omega) (by omega)]; omega), t5, eChk_of (by omega) (by omega) (by omega), icl (by omega) (by omega), nat_i, c_blank, obind]
    dsimp only
    simp only [bA, obind]
    by_cases l1 : m.1 11 x = 32
    · rw [if_pos l1, if_neg (by rw [decide_eq_true (.inl (r1.mpr l1))]; decide)]
      exact step
    · by_cases l2 : m.1 11 x = 10
      · rw [if_neg l1, if_neg (show ¬ ¬ m.1 11 x = 10 from fun z => z l2), if_neg (by rw [decide_eq_true (.inr (r2.mpr l2))]; decide)]
        exact step
      · rw [if_neg l1, if_pos (show ¬ m.1 11 x = 10 from l2), if_pos (by rw [decide_eq_false (fun z => z.elim (fun y => l1 (r1.mp y)) (fun y => l2 (r2.mp y)))]; decide)]
        exact sa
theorem scan_ok {x : Nat} (t : Tp c m L x) (h : m.1 24 27 = 0) : Sc (f_ta_scan c) (f_mm_goOn m) c m L x := by
  unfold f_ta_scan f_mm_goOn f_mm_isGood
  rw [if_neg (fun z => z h), obind, if_pos (show ¬ (1 : Int32) = 0 by decide)]
  exact scan_loop (L - x) x eFu eFu (by have := t.2.1; omega) (by rw [eFu_eq]; have := t.1; omega) (by rw [eFu_eq]; have := t.1; omega) c m t
end
