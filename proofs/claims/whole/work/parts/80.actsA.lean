section
variable {n : Nat} {cv : Int} {c m : eW} {s : ZS} {l : List ZS}
theorem Ck.cs {c' : eW} (h : CS n cv c s) (k : Ck c c') : CS n cv c' s := by
  obtain ⟨a, b, d, e, f⟩ := h
  refine ⟨a.fr k.fr (by decide) (by decide), by rw [k.2 32 (by omega) (by omega)]; exact b, fun i => by rw [k.2 32 (by omega) (by omega)]; exact d i, by rw [k.2 35 (by omega) (by omega)]; exact e, fun i => by rw [k.2 33 (by omega) (by omega), k.2 34 (by omega) (by omega)]; exact f i⟩
theorem Kk.ka {m' : eW} (h : Kk m m') : Ka m m' := fun i k h1 h2 h3 h4 h5 h6 => ⟨h.2 i k h3 (by omega), by rw [h.1]⟩
theorem Ka.tr {a b c : eW} (h : Ka a b) (k : Ka b c) : Ka a c := fun i j h1 h2 h3 h4 h5 h6 => ⟨(k i j h1 h2 h3 h4 h5 h6).1.trans (h i j h1 h2 h3 h4 h5 h6).1, (k i j h1 h2 h3 h4 h5 h6).2.trans (h i j h1 h2 h3 h4 h5 h6).2⟩
theorem Ka.u {a b : eW} {i k : Nat} {x : Int32} (h : Ka a b) (hi : i = 1 ∨ i = 3 ∨ i = 22 ∨ i = 23 ∨ (i = 24 ∧ (k = 0 ∨ k = 16 ∨ (53 ≤ k ∧ k ≤ 59)))) : Ka a (eU1 b i k x) := fun j l h1 h2 h3 h4 h5 h6 => by
  rw [u1n _ _ _ _ _ _ (by omega), u1l]; exact h j l h1 h2 h3 h4 h5 h6
theorem in_dec {lo hi : Int32} {a b : Int} (h1 : lo.toInt = a) (h2 : hi.toInt = b) (x : Int32) (w : eW) : f_mm_in x lo hi w = some (b2i (decide (a ≤ x.toInt ∧ x.toInt ≤ b)), w) := by rw [m_in, h1, h2]
theorem lt_i {a : Int32} {z : Int} (h1 : -2147483648 ≤ z) (h2 : z < 2147483648) : (a < Int32.ofInt z) ↔ a.toInt < z := by
  have r := irange a
  rw [iof a, ilt (by omega) (by omega) (by omega) (by omega), toI_ofI (by omega) (by omega)]
theorem le_i {a : Int32} {z : Int} (h1 : -2147483648 ≤ z) (h2 : z < 2147483648) : (a ≤ Int32.ofInt z) ↔ a.toInt ≤ z := by
  have r := irange a
  rw [iof a, ile (by omega) (by omega) (by omega) (by omega), toI_ofI (by omega) (by omega)]
theorem i_lt {a : Int32} {z : Int} (h1 : -2147483648 ≤ z) (h2 : z < 2147483648) : (Int32.ofInt z < a) ↔ z < a.toInt := by
  have r := irange a
  rw [iof a, ilt (by omega) (by omega) (by omega) (by omega), toI_ofI (by omega) (by omega)]
theorem i_le {a : Int32} {z : Int} (h1 : -2147483648 ≤ z) (h2 : z < 2147483648) : (Int32.ofInt z ≤ a) ↔ z ≤ a.toInt := by
  have r := irange a
  rw [iof a, ile (by omega) (by omega) (by omega) (by omega), toI_ofI (by omega) (by omega)]
def heldI (a b : Int) : Int := a * b / 100
theorem held_ok {a b : Int} (h1 : 0 ≤ a) (h2 : a ≤ 9999999) (h3 : 0 ≤ b) (h4 : b ≤ 100) : ((((Int32.ofInt a).toInt64) * ((Int32.ofInt b).toInt64)) / (100 : Int64)).toInt32 = Int32.ofInt (heldI a b) ∧ 0 ≤ heldI a b ∧ heldI a b ≤ a := by
  have q := mul_le4 (a := a) (b := b) (A := 9999999) (B := 100) h1 h2 h3 h4
  have q2 : a * b ≤ a * 100 := Int.mul_le_mul_of_nonneg_left h4 h1
  refine ⟨?_, by unfold heldI; omega, by unfold heldI; omega⟩
  rw [i2j (by omega) (by omega), i2j (by omega) (by omega), ← Int64.ofInt_mul, jlit100, jdiv q.1 (by omega) (by omega) (by omega), j2i]
  rfl
theorem CFu {F : Nat → Nat → Int} {wv : Int32} {i k : Nat} {x : Int32} (h : CF c n F cv wv) (h7 : i ≠ 7) (h8 : i ≠ 8) : CF (eU1 c i k x) n F cv wv := h.fr (S := [i]) (Fr.rfl.u1 (by simp)) (by simpa using fun z => h7 z.symm) (by simpa using fun z => h8 z.symm)
theorem MFu {F : Nat → Nat → Int} {wv : Int32} {i k : Nat} {x : Int32} (h : MF m n F cv wv) (hi : 10 ≤ i) (hk : i ≠ 24 ∨ (k ≠ 1 ∧ k ≠ 2 ∧ k ≠ 16)) : MF (eU1 m i k x) n F cv wv := by
  obtain ⟨a, b, d, e⟩ := h
  refine ⟨by rw [u1n _ _ _ _ _ _ (by omega)]; exact a, by rw [u1n _ _ _ _ _ _ (by omega)]; exact b, by rw [u1n _ _ _ _ _ _ (by omega)]; exact d, fun j hj => ?_⟩
  have g := e j hj
  rw [u1n _ _ _ _ _ _ (by omega), u1n _ _ _ _ _ _ (by omega), u1n _ _ _ _ _ _ (by omega)]
  refine ⟨g.1, g.2.1, g.2.2.1, fun h2 q h3 h4 => ?_⟩
  rw [u1n _ _ _ _ _ _ (by omega)]
  exact g.2.2.2 h2 q h3 h4
theorem a_close (h : RA n cv c m s l) (a1 a2 : Int32) : Ar n cv (f_xx_close a1 a2 c) (f_mm_close a1 a2 m) c m := by
  have h0 := h.q (Fr.rfl (w := c)) (m0k m)
  unfold f_xx_close f_mm_close
  simp only [x_isAmount, m_isAmount, in_dec (show (0 : Int32).toInt = 0 from rfl) (show (100 : Int32).toInt = 100 from rfl), obind, b2i_0]
  by_cases k : 0 ≤ a1.toInt ∧ a1.toInt ≤ 9999999
  · simp only [decide_eq_true k, Bool.true_eq_false, if_false]
    by_cases g : 0 ≤ a2.toInt ∧ a2.toInt ≤ 100
    · simp only [decide_eq_true g, Bool.true_eq_false, not_false_eq_true, if_true]
      rw [if_neg (show ¬ (a2 < 0) by rw [show (0 : Int32) = Int32.ofInt 0 from rfl, lt_i (by omega) (by omega)]; omega), if_pos (show a2 ≤ 100 by rw [show (100 : Int32) = Int32.ofInt 100 from rfl, le_i (by omega) (by omega)]; omega)]
      obtain ⟨z, z1, z2, rfl⟩ := amt_of k
      obtain ⟨y, y1, y2, rfl⟩ := amt_of g
      obtain ⟨e1, e2, e3⟩ := held_ok z1 z2 y1 y2
      obtain ⟨p, p1, p2, p3⟩ := h.2.2.2.2.2.2.2.1
      obtain ⟨c1, d0, d1, d2, d3, d4, d5, d6, d7⟩ := ac_keepSale p1 h.2.2.2.1 p2 h.2.2.2.2.2.1 h.2.1.2.1
      obtain ⟨m1, f0, f1, f2, f3⟩ := m_keep h0.1 h0.2.2.1 h0.2.2.2
      rw [d0, obind, f0, obind]
      unfold f_sa_closeBy
      rw [obind, e1]
      have dealt : Int32.ofInt z - Int32.ofInt (heldI z y) = Int32.ofInt (z - heldI z y) := (Int32.ofInt_sub _ _).symm
      rw [dealt]
      have cs := d1.cs h.2.1
      have ms := h0.2.2.1.kk f1
      rw [show (eU1 (eU1 (eU1 (eU1 (eU1 c1 32 0 1) 32 1 (Int32.ofInt z)) 32 2 (Int32.ofInt (heldI z y))) 32 3 (Int32.ofInt (z - heldI z y))) 32 4 0).1 32 3 = Int32.ofInt (z - heldI z y) by rw [u1n _ _ _ _ _ _ (by omega), u1s]]
      refine ⟨Int32.ofInt (z - heldI z y), _, _, (s.1, s.2.1, true, (fun k => if k = 1 then Int32.ofInt z else if k = 2 then Int32.ofInt (heldI z y) else if k = 3 then Int32.ofInt (z - heldI z y) else 0), s.2.2.2.2), (s :: l).take 12, rfl, rfl, ?_, ?_, ?_⟩
      · exact (d1.fr.sub (by decide)).tr (((((Fr.rfl.u1 (by decide)).u1 (by decide)).u1 (by decide)).u1 (by decide)).u1 (by decide))
      · exact (Ka.z.tr f1.ka).tr (((((Ka.u (fun _ _ _ _ _ _ _ _ => ⟨rfl, rfl⟩) (by omega)).u (by omega)).u (by omega)).u (by omega)).u (by omega))
      · refine act_fin h p1 p2 p3 d2 d3 d4 ?_ ?_ f2 f3 ?_ ?_ ?_ ?_ ?_ ?_ (fun _ _ _ _ _ _ => rfl)
        · funext i; rw [u1n _ _ _ _ _ _ (by omega), u1n _ _ _ _ _ _ (by omega), u1n _ _ _ _ _ _ (by omega), u1n _ _ _ _ _ _ (by omega), u1n _ _ _ _ _ _ (by omega)]
        · funext i; rw [u1n _ _ _ _ _ _ (by omega), u1n _ _ _ _ _ _ (by omega), u1n _ _ _ _ _ _ (by omega), u1n _ _ _ _ _ _ (by omega), u1n _ _ _ _ _ _ (by omega)]
        · funext i; rw [u1n _ _ _ _ _ _ (by omega), u1n _ _ _ _ _ _ (by omega), u1n _ _ _ _ _ _ (by omega), u1n _ _ _ _ _ _ (by omega), u1n _ _ _ _ _ _ (by omega)]
        · rw [u1n _ _ _ _ _ _ (by omega), u1n _ _ _ _ _ _ (by omega), u1n _ _ _ _ _ _ (by omega), u1n _ _ _ _ _ _ (by omega), u1n _ _ _ _ _ _ (by omega)]
        · exact ⟨h.1.1, h.1.2.1, h.1.2.2.1, fun _ => ⟨heldI z y, z - heldI z y, rfl, rfl, by omega, by omega, by omega⟩⟩
        · obtain ⟨q1, q2, q3, q4, q5⟩ := cs
          refine ⟨CFu (CFu (CFu (CFu (CFu q1 (by omega) (by omega)) (by omega) (by omega)) (by omega) (by omega)) (by omega) (by omega)) (by omega) (by omega), ?_, fun k k1 k2 => ?_, ?_, fun i hi => ?_⟩
          · rw [u1n _ _ _ _ _ _ (by omega), u1n _ _ _ _ _ _ (by omega), u1n _ _ _ _ _ _ (by omega), u1n _ _ _ _ _ _ (by omega), u1s]; rfl
          · rcases (show k = 1 ∨ k = 2 ∨ k = 3 ∨ k = 4 by omega) with rfl | rfl | rfl | rfl
            · rw [u1n _ _ _ _ _ _ (by omega), u1n _ _ _ _ _ _ (by omega), u1n _ _ _ _ _ _ (by omega), u1s]; rfl
            · rw [u1n _ _ _ _ _ _ (by omega), u1n _ _ _ _ _ _ (by omega), u1s]; rfl
            · rw [u1n _ _ _ _ _ _ (by omega), u1s]; rfl
            · rw [u1s]; rfl
          · rw [u1n _ _ _ _ _ _ (by omega), u1n _ _ _ _ _ _ (by omega), u1n _ _ _ _ _ _ (by omega), u1n _ _ _ _ _ _ (by omega), u1n _ _ _ _ _ _ (by omega)]; exact q4
          · rw [u1n _ _ _ _ _ _ (by omega), u1n _ _ _ _ _ _ (by omega), u1n _ _ _ _ _ _ (by omega), u1n _ _ _ _ _ _ (by omega), u1n _ _ _ _ _ _ (by omega), u1n _ _ _ _ _ _ (by omega), u1n _ _ _ _ _ _ (by omega), u1n _ _ _ _ _ _ (by omega), u1n _ _ _ _ _ _ (by omega), u1n _ _ _ _ _ _ (by omega)]; exact q5 i hi
        · obtain ⟨q1, q2, q3, q4, q5⟩ := ms
          refine ⟨MFu (MFu (MFu (MFu (MFu q1 (by omega) (by omega)) (by omega) (by omega)) (by omega) (by omega)) (by omega) (by omega)) (by omega) (by omega), ?_, fun k k1 k2 => ?_, ?_, fun i hi => ?_⟩
          · rw [u1n _ _ _ _ _ _ (by omega), u1n _ _ _ _ _ _ (by omega), u1n _ _ _ _ _ _ (by omega), u1n _ _ _ _ _ _ (by omega), u1s]; rfl
          · rcases (show k = 1 ∨ k = 2 ∨ k = 3 ∨ k = 4 by omega) with rfl | rfl | rfl | rfl
            · rw [u1n _ _ _ _ _ _ (by omega), u1n _ _ _ _ _ _ (by omega), u1n _ _ _ _ _ _ (by omega), u1s]; rfl
            · rw [u1n _ _ _ _ _ _ (by omega), u1n _ _ _ _ _ _ (by omega), u1s]; rfl
            · rw [u1n _ _ _ _ _ _ (by omega), u1s]; rfl
            · rw [u1s]; rfl
          · rw [u1n _ _ _ _ _ _ (by omega), u1n _ _ _ _ _ _ (by omega), u1n _ _ _ _ _ _ (by omega), u1n _ _ _ _ _ _ (by omega), u1n _ _ _ _ _ _ (by omega)]; exact q4
          · rw [u1n _ _ _ _ _ _ (by omega), u1n _ _ _ _ _ _ (by omega), u1n _ _ _ _ _ _ (by omega), u1n _ _ _ _ _ _ (by omega), u1n _ _ _ _ _ _ (by omega), u1n _ _ _ _ _ _ (by omega), u1n _ _ _ _ _ _ (by omega), u1n _ _ _ _ _ _ (by omega), u1n _ _ _ _ _ _ (by omega), u1n _ _ _ _ _ _ (by omega)]; exact q5 i hi
        · exact .inl ⟨d5, rfl, rfl, rfl, d6, fun k k1 k2 => by rw [d7 k k1 k2]; exact h.2.1.2.2.1 k k1 k2⟩
    · simp only [decide_eq_false g, not_true_eq_false, if_false]
      by_cases g0 : a2.toInt < 0
      · rw [if_pos (show a2 < 0 by rw [show (0 : Int32) = Int32.ofInt 0 from rfl, lt_i (by omega) (by omega)]; omega)]
        exact Ar.no h _
      · rw [if_neg (show ¬ (a2 < 0) by rw [show (0 : Int32) = Int32.ofInt 0 from rfl, lt_i (by omega) (by omega)]; omega), if_neg (show ¬ (a2 ≤ 100) by rw [show (100 : Int32) = Int32.ofInt 100 from rfl, le_i (by omega) (by omega)]; omega)]
        exact Ar.no h _
  · simp only [decide_eq_false k, if_true]
    exact Ar.no h _
theorem a_release (h : RA n cv c m s l) (a1 a2 : Int32) : Ar n cv (f_xx_release a1 a2 c) (f_mm_release a1 a2 m) c m := by
  have h0 := h.q (Fr.rfl (w := c)) (m0k m)
  unfold f_xx_release f_mm_release
  rw [h.2.1.2.1, h.2.2.1.2.1]
  simp only [b2i_0]
  by_cases cl : s.2.2.1 = false
  · rw [if_pos cl, if_pos cl]
    exact Ar.no h _
  · rw [if_neg cl, if_neg cl]
    obtain ⟨he, de, s2, s3, b1, b2, b3⟩ := h.1.2.2.2 (by simpa using cl)
    have c2 := h.2.1.2.2.1 2 (by omega) (by omega)
    have c3 := h.2.1.2.2.1 3 (by omega) (by omega)
    have c4 := h.2.1.2.2.1 4 (by omega) (by omega)
    have m2 : m.1 24 56 = Int32.ofInt he := by rw [← s2]; exact h.2.2.1.2.2.1 2 (by omega) (by omega)
    rw [s2] at c2
    rw [s3] at c3
    rw [m2, in_dec (show (1 : Int32).toInt = 1 from rfl) (toI_ofI (by omega) (by omega)), obind, c2]
    dsimp only
    simp only [b2i_0]
    by_cases g : 1 ≤ a1.toInt ∧ a1.toInt ≤ he
    · simp only [decide_eq_true g, Bool.true_eq_false, not_false_eq_true, if_true]
      rw [if_neg (show ¬ (a1 < 1) by rw [show (1 : Int32) = Int32.ofInt 1 from rfl, lt_i (by omega) (by omega)]; omega), if_pos (show a1 ≤ Int32.ofInt he by rw [le_i (by omega) (by omega)]; omega)]
      obtain ⟨y, y1, y2, rfl⟩ := amt_of g
      obtain ⟨p, p1, p2, p3⟩ := h.2.2.2.2.2.2.2.1
      obtain ⟨c1, d0, d1, d2, d3, d4, d5, d6, d7⟩ := ac_keepSale p1 h.2.2.2.1 p2 h.2.2.2.2.2.1 h.2.1.2.1
      obtain ⟨m1, f0, f1, f2, f3⟩ := m_keep h0.1 h0.2.2.1 h0.2.2.2
      rw [d0, obind, f0, obind]
      have cs := d1.cs h.2.1
      have ms := h0.2.2.1.kk f1
      have k2 : c1.1 32 2 = Int32.ofInt he := by rw [d1.2 32 (by omega) (by omega)]; exact c2
      have k3 : c1.1 32 3 = Int32.ofInt de := by rw [d1.2 32 (by omega) (by omega)]; exact c3
      have k4 : c1.1 32 4 = s.2.2.2.1 4 := by rw [d1.2 32 (by omega) (by omega)]; exact c4
      have n2 : m1.1 24 56 = Int32.ofInt he := by rw [← s2]; exact ms.2.2.1 2 (by omega) (by omega)
      have n3 : m1.1 24 57 = Int32.ofInt de := by rw [← s3]; exact ms.2.2.1 3 (by omega) (by omega)
      have n4 : m1.1 24 58 = s.2.2.2.1 4 := ms.2.2.1 4 (by omega) (by omega)
      have tr : s.2.2.1 = true := by simpa using cl
      unfold f_sa_letGo
      rw [k2, k3, k4, n2, n3, n4]
      simp only [← Int32.ofInt_sub, ← Int32.ofInt_add, Int32.add_zero]
      have base : ∀ (x3 x4 : Int32) (c2 m2 : eW), (∃ z : Int, x3 = Int32.ofInt z ∧ 0 ≤ z ∧ z + (he - y) ≤ 9999999) → (∀ i k, ¬ (i = 32 ∧ (k = 2 ∨ k = 3 ∨ k = 4)) → c2.1 i k = c1.1 i k) → c2.2 = c1.2 → c2.1 32 2 = Int32.ofInt (he - y) → c2.1 32 3 = x3 → c2.1 32 4 = x4 → (∀ i k, ¬ (i = 24 ∧ (k = 56 ∨ k = 57 ∨ k = 58)) → m2.1 i k = m1.1 i k) → m2.2 = m1.2 → m2.1 24 56 = Int32.ofInt (he - y) → m2.1 24 57 = x3 → m2.1 24 58 = x4 → Ar n cv (some (Int32.ofInt (he - y), c2)) (some (Int32.ofInt (he - y), m2)) c m := by
        intro x3 x4 c2 m2 hx u1 u2 u3 u4 u5 v1 v2 v3 v4 v5
        refine ⟨_, c2, m2, (s.1, s.2.1, true, (fun k => if k = 1 then s.2.2.2.1 1 else if k = 2 then Int32.ofInt (he - y) else if k = 3 then x3 else x4), s.2.2.2.2), (s :: l).take 12, rfl, rfl, ?_, ?_, ?_⟩
        · intro i hi
          have i36 : i ≠ 36 := fun z => hi (by rw [z]; decide)
          have i37 : i ≠ 37 := fun z => hi (by rw [z]; decide)
          have i32 : i ≠ 32 := fun z => hi (by rw [z]; decide)
          exact ⟨by rw [← d1.2 i i36 i37]; funext k; exact u1 i k (by omega), by rw [u2, d1.1]⟩
        · exact (Ka.z.tr f1.ka).tr (fun i k h1 h2 h3 h4 h5 h6 => ⟨v1 i k (by omega), by rw [v2]⟩)
        · refine act_fin h p1 p2 p3 d2 d3 d4 (funext fun i => u1 36 i (by omega)) (funext fun i => u1 37 i (by omega)) f2 f3 (funext fun i => v1 21 i (by omega)) (v1 24 53 (by omega)) ?_ ?_ ?_ ?_ (fun _ _ _ _ _ _ => rfl)
          · obtain ⟨zz, w1, w2, w3⟩ := hx
            exact ⟨h.1.1, h.1.2.1, h.1.2.2.1, fun _ => ⟨he - y, zz, rfl, w1, by omega, w2, by omega⟩⟩
          · obtain ⟨q1, q2, q3, q4, q5⟩ := cs
            refine ⟨?_, by rw [u1 32 0 (by omega), q2, tr], fun k k1 k2 => ?_, by rw [u1 35 2 (by omega)]; exact q4, fun i hi => by rw [u1 33 i (by omega), u1 34 i (by omega)]; exact q5 i hi⟩
            · obtain ⟨t1, t2, t3, t4⟩ := q1
              exact ⟨by rw [u1 8 0 (by omega)]; exact t1, by rw [u1 8 1 (by omega)]; exact t2, by rw [u1 8 2 (by omega)]; exact t3, fun i k hi hk => by rw [u1 7 _ (by omega)]; exact t4 i k hi hk⟩
            · rcases (show k = 1 ∨ k = 2 ∨ k = 3 ∨ k = 4 by omega) with rfl | rfl | rfl | rfl
              · rw [u1 32 1 (by omega)]; exact q3 1 (by omega) (by omega)
              · exact u3
              · exact u4
              · exact u5
          · obtain ⟨q1, q2, q3, q4, q5⟩ := ms
            refine ⟨?_, by rw [v1 24 59 (by omega), q2, tr], fun k k1 k2 => ?_, by rw [v1 24 54 (by omega)]; exact q4, fun i hi => by rw [v1 22 i (by omega), v1 23 i (by omega)]; exact q5 i hi⟩
            · obtain ⟨t1, t2, t3, t4⟩ := q1
              refine ⟨by rw [v1 24 1 (by omega)]; exact t1, by rw [v1 24 2 (by omega)]; exact t2, by rw [v1 24 16 (by omega)]; exact t3, fun i hi => ?_⟩
              have t := t4 i hi
              rw [v1 0 i (by omega), v1 1 i (by omega), v1 2 i (by omega)]
              exact ⟨t.1, t.2.1, t.2.2.1, fun a k k1 k2 => by rw [v1 k i (by omega)]; exact t.2.2.2 a k k1 k2⟩
            · rcases (show k = 1 ∨ k = 2 ∨ k = 3 ∨ k = 4 by omega) with rfl | rfl | rfl | rfl
              · rw [v1 24 55 (by omega)]; exact q3 1 (by omega) (by omega)
              · exact v3
              · exact v4
              · exact v5
          · exact .inl ⟨d5, rfl, rfl, rfl, d6, fun k k1 k2 => by rw [d7 k k1 k2]; exact h.2.1.2.2.1 k k1 k2⟩
      by_cases a0 : a2 = 0
      · rw [if_pos a0, if_pos a0, if_pos a0, obind]
        rw [show (eU1 (eU1 c1 32 2 (Int32.ofInt (he - y))) 32 3 (Int32.ofInt (de + y))).1 32 2 = Int32.ofInt (he - y) by rw [u1n _ _ _ _ _ _ (by omega), u1s]]
        refine base (Int32.ofInt (de + y)) (s.2.2.2.1 4) _ _ ⟨de + y, rfl, by omega, by omega⟩ (fun i k e => by rw [u1n _ _ _ _ _ _ (by omega), u1n _ _ _ _ _ _ (by omega)]) rfl (by rw [u1n _ _ _ _ _ _ (by omega), u1s]) (by rw [u1s]) (by rw [u1n _ _ _ _ _ _ (by omega), u1n _ _ _ _ _ _ (by omega)]; exact k4) (fun i k e => by rw [u1n _ _ _ _ _ _ (by omega), u1n _ _ _ _ _ _ (by omega), u1n _ _ _ _ _ _ (by omega)]) rfl (by rw [u1n _ _ _ _ _ _ (by omega), u1n _ _ _ _ _ _ (by omega), u1s]) (by rw [u1s]) (by rw [u1n _ _ _ _ _ _ (by omega), u1s])
      · rw [if_neg a0, if_neg a0, if_neg a0, obind]
        rw [show (eU1 (eU1 c1 32 2 (Int32.ofInt (he - y))) 32 4 (s.2.2.2.1 4 + Int32.ofInt y)).1 32 2 = Int32.ofInt (he - y) by rw [u1n _ _ _ _ _ _ (by omega), u1s]]
        refine base (Int32.ofInt de) (s.2.2.2.1 4 + Int32.ofInt y) _ _ ⟨de, rfl, by omega, by omega⟩ (fun i k e => by rw [u1n _ _ _ _ _ _ (by omega), u1n _ _ _ _ _ _ (by omega)]) rfl (by rw [u1n _ _ _ _ _ _ (by omega), u1s]) (by rw [u1n _ _ _ _ _ _ (by omega), u1n _ _ _ _ _ _ (by omega)]; exact k3) (by rw [u1s]) (fun i k e => by rw [u1n _ _ _ _ _ _ (by omega), u1n _ _ _ _ _ _ (by omega), u1n _ _ _ _ _ _ (by omega)]) rfl (by rw [u1n _ _ _ _ _ _ (by omega), u1n _ _ _ _ _ _ (by omega), u1s]) (by rw [u1s]) (by rw [u1n _ _ _ _ _ _ (by omega), u1s])
    · simp only [decide_eq_false g, not_true_eq_false, if_false]
      by_cases g0 : a1.toInt < 1
      · rw [if_pos (show a1 < 1 by rw [show (1 : Int32) = Int32.ofInt 1 from rfl, lt_i (by omega) (by omega)]; omega)]
        exact Ar.no h _
      · rw [if_neg (show ¬ (a1 < 1) by rw [show (1 : Int32) = Int32.ofInt 1 from rfl, lt_i (by omega) (by omega)]; omega), if_neg (show ¬ (a1 ≤ Int32.ofInt he) by rw [le_i (by omega) (by omega)]; omega)]
        exact Ar.no h _
end
