section
variable {n : Nat} {cv : Int} {c m : eW} {s : ZS} {l : List ZS}
/-- the tape of both -/
def TR (c m : eW) (L : Nat) : Prop := L ≤ 700 ∧ c.1 1 1 = Int32.ofInt (L : Nat) ∧ m.1 24 18 = Int32.ofInt (L : Nat) ∧ ∀ i, i < L → BR (c.1 0 i) (m.1 11 i)
/-- what holds between the two, all along -/
def Rel (c m : eW) : Prop := (∀ i, i < 11 → c.2 4 i = (kst 65).2 i) ∧ (c.1 6 5 = m.1 24 25 ∧ c.1 6 6 = m.1 24 26) ∧ (∃ L, TR c m L) ∧ ∃ n cv s l, RA n cv c m s l
def Rr {α : Type} (x y : Option (α × eW)) : Prop := ∃ r c' m', x = some (r, c') ∧ y = some (r, m') ∧ Rel c' m'
theorem TR.fr {c' m' : eW} {L : Nat} (h : TR c m L) (e0 : c'.1 0 = c.1 0) (e1 : c'.1 1 1 = c.1 1 1) (f0 : ∀ i, m'.1 11 i = m.1 11 i) (f1 : m'.1 24 18 = m.1 24 18) : TR c' m' L := ⟨h.1, by rw [e1]; exact h.2.1, by rw [f1]; exact h.2.2.1, fun i hi => by rw [e0, f0]; exact h.2.2.2 i hi⟩
theorem Rel.q (h : Rel c m) {c' m' : eW} (k : Fr QS c c') (e : Km m m') : Rel c' m' := by
  obtain ⟨a, b, ⟨L, t⟩, n, cv, s, l, ra⟩ := h
  refine ⟨fun i hi => by rw [(k 4 (by decide)).2]; exact a i hi, ⟨by rw [(k 6 (by decide)).1, (e 24 25 (by omega) (by omega)).1]; exact b.1, by rw [(k 6 (by decide)).1, (e 24 26 (by omega) (by omega)).1]; exact b.2⟩, ⟨L, t.fr (k 0 (by decide)).1 (by rw [(k 1 (by decide)).1]) (fun i => (e 11 i (by omega) (by omega)).1) (e 24 18 (by omega) (by omega)).1⟩, n, cv, s, l, ra.q k e⟩
theorem Rr.q {α : Type} {x y : Option (α × eW)} (h : Rel c m) (q : Qr x y c m) : Rr x y := by
  obtain ⟨r, c', m', e1, e2, e3, e4⟩ := q
  exact ⟨r, c', m', e1, e2, h.q e3 e4⟩
theorem Rr.a {α : Type} {x y : Option (α × eW)} (h : Rel c m) (q : Ar n cv x y c m) : Rr x y := by
  obtain ⟨r, c', m', s, l, e1, e2, k, e, ra⟩ := q
  obtain ⟨a, b, ⟨L, t⟩, -⟩ := h
  refine ⟨r, c', m', e1, e2, fun i hi => by rw [(k 4 (by decide)).2]; exact a i hi, ⟨by rw [(k 6 (by decide)).1, (e 24 25 (by omega) (by omega) (by omega) (by omega) (by omega) (by omega)).1]; exact b.1, by rw [(k 6 (by decide)).1, (e 24 26 (by omega) (by omega) (by omega) (by omega) (by omega) (by omega)).1]; exact b.2⟩, ⟨L, t.fr (k 0 (by decide)).1 (by rw [(k 1 (by decide)).1]) (fun i => (e 11 i (by omega) (by omega) (by omega) (by omega) (by omega) (by omega)).1) (e 24 18 (by omega) (by omega) (by omega) (by omega) (by omega) (by omega)).1⟩, n, cv, s, l, ra⟩
theorem RA.gr (h : RA n cv c m s l) : GR c m s.2.2.2.2.1 s.2.2.2.2.2.1 s.2.2.2.2.2.2 := ⟨h.1.2.1, h.2.1.2.2.2.1, h.2.2.1.2.2.2.1, fun i hi => ⟨(h.2.1.2.2.2.2 i hi).1, (h.2.2.1.2.2.2.2 i hi).1, (h.2.1.2.2.2.2 i hi).2, (h.2.2.1.2.2.2.2 i hi).2, h.1.2.2.1 i hi⟩⟩
/-! the tape is fed and cut -/
def Cp (c c' : eW) : Prop := (∀ i, i ≠ 0 → i ≠ 1 → c'.1 i = c.1 i) ∧ (∀ k, k ≠ 1 → c'.1 1 k = c.1 1 k) ∧ c'.2 = c.2
def Mp (m m' : eW) : Prop := (∀ i k, i ≠ 11 → ¬ (i = 24 ∧ (k = 0 ∨ k = 18)) → m'.1 i k = m.1 i k) ∧ m'.2 = m.2
theorem Cp.tr {a b c : eW} (h : Cp a b) (k : Cp b c) : Cp a c := ⟨fun i e f => (k.1 i e f).trans (h.1 i e f), fun i e => (k.2.1 i e).trans (h.2.1 i e), k.2.2.trans h.2.2⟩
theorem Mp.tr {a b c : eW} (h : Mp a b) (k : Mp b c) : Mp a c := ⟨fun i j e f => (k.1 i j e f).trans (h.1 i j e f), k.2.trans h.2⟩
theorem Rel.p (h : Rel c m) {c' m' : eW} (k : Cp c c') (e : Mp m m') {L : Nat} (t : TR c' m' L) : Rel c' m' := by
  obtain ⟨a, b, -, n, cv, s, l, ra⟩ := h
  refine ⟨fun i hi => by rw [k.2.2]; exact a i hi, ⟨by rw [k.1 6 (by omega) (by omega), e.1 24 25 (by omega) (by omega)]; exact b.1, by rw [k.1 6 (by omega) (by omega), e.1 24 26 (by omega) (by omega)]; exact b.2⟩, ⟨L, t⟩, n, cv, s, l, ra.1, ?_, ?_, ra.2.2.2.q ra.1 (k.1 36 (by omega) (by omega)) (k.1 37 (by omega) (by omega)) (funext fun i => e.1 21 i (by omega) (by omega)) (e.1 24 53 (by omega) (by omega))⟩
  · obtain ⟨q1, q2, q3, q4, q5⟩ := ra.2.1
    exact ⟨q1.fr (S := [0, 1]) (fun i hi => ⟨k.1 i (by simp at hi; omega) (by simp at hi; omega), by rw [k.2.2]⟩) (by decide) (by decide), by rw [k.1 32 (by omega) (by omega)]; exact q2, fun i => by rw [k.1 32 (by omega) (by omega)]; exact q3 i, by rw [k.1 35 (by omega) (by omega)]; exact q4, fun i => by rw [k.1 33 (by omega) (by omega), k.1 34 (by omega) (by omega)]; exact q5 i⟩
  · obtain ⟨q1, q2, q3, q4, q5⟩ := ra.2.2.1
    refine ⟨?_, by rw [e.1 24 59 (by omega) (by omega)]; exact q2, fun i i1 i2 => by rw [e.1 24 _ (by omega) (by omega)]; exact q3 i i1 i2, by rw [e.1 24 54 (by omega) (by omega)]; exact q4, fun i => by rw [e.1 22 i (by omega) (by omega), e.1 23 i (by omega) (by omega)]; exact q5 i⟩
    obtain ⟨t1, t2, t3, t4⟩ := q1
    refine ⟨by rw [e.1 24 1 (by omega) (by omega)]; exact t1, by rw [e.1 24 2 (by omega) (by omega)]; exact t2, by rw [e.1 24 16 (by omega) (by omega)]; exact t3, fun i hi => ?_⟩
    have q := t4 i hi
    rw [e.1 0 i (by omega) (by omega), e.1 1 i (by omega) (by omega), e.1 2 i (by omega) (by omega)]
    exact ⟨q.1, q.2.1, q.2.2.1, fun a k k1 k2 => by rw [e.1 k i (by omega) (by omega)]; exact q.2.2.2 a k k1 k2⟩
theorem put_loop (a : Int32) : ∀ (d L f1 f2 : Nat), d ≤ 4 → L + d ≤ 700 → d < f1 → d < f2 → ∀ c m : eW, TR c m L → ∃ c' m', f_ta_put_L3 f1 a (Int32.ofInt (8 * (d : Int) - 8)) c = some c' ∧ f_mm_four_L3 f2 a (Int32.ofInt (8 * (d : Int) - 8)) m = some m' ∧ TR c' m' (L + d) ∧ Cp c c' ∧ Mp m m' := by
  intro d
  induction d with
  | zero =>
    intro L f1 f2 h4 hL hf1 hf2 c m t
    obtain ⟨f1, rfl⟩ : ∃ g, f1 = g + 1 := ⟨f1 - 1, by omega⟩
    obtain ⟨f2, rfl⟩ : ∃ g, f2 = g + 1 := ⟨f2 - 1, by omega⟩
    unfold f_ta_put_L3 f_mm_four_L3
    rw [if_pos (by decide), if_pos (by decide)]
    exact ⟨c, m, rfl, rfl, t, ⟨fun _ _ _ => rfl, fun _ _ => rfl, rfl⟩, ⟨fun _ _ _ _ => rfl, rfl⟩⟩
  | succ d ih =>
    intro L f1 f2 h4 hL hf1 hf2 c m t
    obtain ⟨f1, rfl⟩ : ∃ g, f1 = g + 1 := ⟨f1 - 1, by omega⟩
    obtain ⟨f2, rfl⟩ : ∃ g, f2 = g + 1 := ⟨f2 - 1, by omega⟩
    unfold f_ta_put_L3 f_mm_four_L3
    have e8 : Int32.ofInt (8 * ((d + 1 : Nat) : Int) - 8) + (-8 : Int32) = Int32.ofInt (8 * (d : Int) - 8) := by
      rw [show (-8 : Int32) = Int32.ofInt (-8) from rfl, ← Int32.ofInt_add]; congr 1; omega
    have n0 : ¬ (Int32.ofInt ((8 * d : Nat) : Int) < 0) := by rw [show (0 : Int32) = Int32.ofInt 0 from rfl, ilt (by omega) (by omega) (by omega) (by omega)]; omega
    have n7 : ¬ ((700 : Int32) ≤ Int32.ofInt (L : Nat)) := by rw [show (700 : Int32) = Int32.ofInt 700 from rfl, ile (by omega) (by omega) (by omega) (by omega)]; omega
    rw [e8, show (8 * ((d + 1 : Nat) : Int) - 8) = ((8 * d : Nat) : Int) by omega, t.2.1, t.2.2.1]
    simp only [n0, n7, if_false]
    rw [eChk_of (by omega) (by omega) (by omega), eChk_of (by omega) (by omega) (by omega), icl (by omega) (by omega), nat_i, isucc]
    have br := byte_ok a (show 8 * d ≤ 24 by omega)
    generalize vp_nar .byte ((((a).toUInt32 >>> ((Int32.ofInt ((8 * d : Nat) : Int)).toUInt32 &&& Int32.toUInt32 31)).toInt32).toInt8.toInt32) = x at *
    generalize (a >>> (Int32.ofInt ((8 * d : Nat) : Int) &&& 31)) &&& (255 : Int32) = y at *
    have cp1 : Cp c (eU1 (eU1 c 0 L x) 1 1 (Int32.ofInt ((L + 1 : Nat) : Int))) := ⟨fun i h1 h2 => by funext k; rw [u1n _ _ _ _ _ _ (by omega), u1n _ _ _ _ _ _ (by omega)], fun k h1 => by rw [u1n _ _ _ _ _ _ (by omega), u1n _ _ _ _ _ _ (by omega)], rfl⟩
    have mp1 : Mp m (eU1 (eU1 m 11 L y) 24 18 (Int32.ofInt ((L + 1 : Nat) : Int))) := ⟨fun i k h1 h2 => by rw [u1n _ _ _ _ _ _ (by omega), u1n _ _ _ _ _ _ (by omega)], rfl⟩
    have tb : ∀ i, i < L + 1 → BR ((eU1 (eU1 c 0 L x) 1 1 (Int32.ofInt ((L + 1 : Nat) : Int))).1 0 i) ((eU1 (eU1 m 11 L y) 24 18 (Int32.ofInt ((L + 1 : Nat) : Int))).1 11 i) := fun i hi => by
      have x1 : (eU1 (eU1 c 0 L x) 1 1 (Int32.ofInt ((L + 1 : Nat) : Int))).1 0 i = (eU1 c 0 L x).1 0 i := u1n _ _ _ _ _ _ (by omega)
      have x2 : (eU1 (eU1 m 11 L y) 24 18 (Int32.ofInt ((L + 1 : Nat) : Int))).1 11 i = (eU1 m 11 L y).1 11 i := u1n _ _ _ _ _ _ (by omega)
      rw [x1, x2]
      by_cases z : i = L
      · subst z; rw [u1s, u1s]; exact br
      · rw [u1n _ _ _ _ _ _ (by omega), u1n _ _ _ _ _ _ (by omega)]; exact t.2.2.2 i (by omega)
    obtain ⟨c', m', e1, e2, e3, e4, e5⟩ := ih (L + 1) f1 f2 (by omega) (by omega) (by omega) (by omega) (eU1 (eU1 c 0 L x) 1 1 (Int32.ofInt ((L + 1 : Nat) : Int))) (eU1 (eU1 m 11 L y) 24 18 (Int32.ofInt ((L + 1 : Nat) : Int))) ⟨by omega, by rw [u1s], by rw [u1s], tb⟩
    exact ⟨c', m', e1, e2, by rw [show L + (d + 1) = L + 1 + d by omega]; exact e3, cp1.tr e4, mp1.tr e5⟩
theorem put4 (a : Int32) {L : Nat} (hL : L + 4 ≤ 700) (t : TR c m L) : ∃ c' m', f_ta_put a c = some c' ∧ f_mm_four a m = some m' ∧ TR c' m' (L + 4) ∧ Cp c c' ∧ Mp m m' := put_loop a 4 L eFu eFu (by omega) hL (by rw [eFu_eq]; omega) (by rw [eFu_eq]; omega) c m t
theorem Mp.z : Mp m (eU1 m 24 0 0) := ⟨fun i k h1 h2 => u1n _ _ _ _ _ _ (by omega), rfl⟩
theorem r_feed (h : Rel c m) (a1 a2 a3 a4 a5 : Int32) : Rr (f_xx_feed a1 a2 a3 a4 a5 c) (f_mm_feed a1 a2 a3 a4 a5 m) := by
  obtain ⟨L, t⟩ := h.2.2.1
  unfold f_xx_feed f_mm_feed
  have l7 := t.1
  rw [t.2.1, t.2.2.1, show (20 : Int32) = Int32.ofInt 20 from rfl, ← Int32.ofInt_add, show (700 : Int32) = Int32.ofInt 700 from rfl]
  have cc : (Int32.ofInt ((L : Int) + 20) ≤ Int32.ofInt 700) ↔ L + 20 ≤ 700 := by rw [ile (by omega) (by omega) (by omega) (by omega)]; omega
  by_cases g : L + 20 ≤ 700
  · rw [if_pos (cc.mpr g), if_pos (cc.mpr g)]
    have t0 : TR c (eU1 m 24 0 0) L := t.fr rfl rfl (fun i => u1n _ _ _ _ _ _ (by omega)) (u1n _ _ _ _ _ _ (by omega))
    obtain ⟨c1, m1, e1, d1, t1, p1, q1⟩ := put4 a1 (by omega) t0
    obtain ⟨c2, m2, e2, d2, t2, p2, q2⟩ := put4 a2 (by omega) t1
    obtain ⟨c3, m3, e3, d3, t3, p3, q3⟩ := put4 a3 (by omega) t2
    obtain ⟨c4, m4, e4, d4, t4, p4, q4⟩ := put4 a4 (by omega) t3
    obtain ⟨c5, m5, e5, d5, t5, p5, q5⟩ := put4 a5 (by omega) t4
    rw [e1, obind, e2, obind, e3, obind, e4, obind, e5, obind, d1, obind, d2, obind, d3, obind, d4, obind, d5, obind, t5.2.1, t5.2.2.1]
    exact ⟨_, c5, m5, rfl, rfl, h.p ((((p1.tr p2).tr p3).tr p4).tr p5) (((((Mp.z.tr q1).tr q2).tr q3).tr q4).tr q5) t5⟩
  · rw [if_neg (fun z => g (cc.mp z)), if_neg (fun z => g (cc.mp z))]
    exact ⟨_, c, _, rfl, rfl, h.q Fr.rfl (m0k m)⟩
theorem r_end (h : Rel c m) (a1 : Int32) : Rr (f_xx_end a1 c) (f_mm_end a1 m) := by
  obtain ⟨L, t⟩ := h.2.2.1
  have l7 := t.1
  unfold f_xx_end f_mm_end f_ta_cut
  rw [t.2.1, t.2.2.1, in_dec (show (0 : Int32).toInt = 0 from rfl) (toI_ofI (by omega) (by omega)), obind]
  dsimp only
  simp only [b2i_0]
  by_cases g0 : a1.toInt < 0
  · rw [if_pos (show a1 < 0 by rw [show (0 : Int32) = Int32.ofInt 0 from rfl, lt_i (by omega) (by omega)]; omega), obind]
    dsimp only
    rw [if_pos rfl, if_neg (fun z => z (decide_eq_false (by omega)))]
    exact ⟨_, c, _, rfl, rfl, h.q Fr.rfl (m0k m)⟩
  · rw [if_neg (show ¬ (a1 < 0) by rw [show (0 : Int32) = Int32.ofInt 0 from rfl, lt_i (by omega) (by omega)]; omega)]
    by_cases g1 : a1.toInt ≤ L
    · rw [if_pos (show a1 ≤ Int32.ofInt (L : Nat) by rw [le_i (by omega) (by omega)]; omega), obind]
      dsimp only
      rw [if_neg (by decide), if_pos (by rw [decide_eq_true (show 0 ≤ a1.toInt ∧ a1.toInt ≤ (L : Int) by omega)]; simp)]
      obtain ⟨k, hk, rfl⟩ := hold_of (n := L + 1) (a := a1) (by omega)
      refine ⟨_, _, _, rfl, rfl, h.p (L := k) ⟨fun i h1 h2 => by funext j; exact u1n _ _ _ _ _ _ (by omega), fun j h1 => u1n _ _ _ _ _ _ (by omega), rfl⟩ (Mp.z.tr ⟨fun i j h1 h2 => u1n _ _ _ _ _ _ (by omega), rfl⟩) ⟨by omega, by rw [u1s], by rw [u1s], fun i hi => ?_⟩⟩
      rw [u1n _ _ _ _ _ _ (by omega), u1n _ _ _ _ _ _ (by omega), u1n _ _ _ _ _ _ (by omega)]
      exact t.2.2.2 i (by omega)
    · rw [if_neg (show ¬ (a1 ≤ Int32.ofInt (L : Nat)) by rw [le_i (by omega) (by omega)]; omega), obind]
      dsimp only
      rw [if_pos rfl, if_neg (fun z => z (decide_eq_false (by omega)))]
      exact ⟨_, c, _, rfl, rfl, h.q Fr.rfl (m0k m)⟩
theorem r_fault (h : Rel c m) (a1 : Int32) : Rr (f_xx_fault a1 c) (f_mm_fault a1 m) := by
  have hz := h.q (Fr.rfl (w := c)) (m0k m)
  unfold f_xx_fault f_mm_fault
  rw [h.2.1.1, h.2.1.2]
  by_cases a0 : a1 = 0
  · rw [if_neg (fun z => z a0), if_neg (fun z => z a0)]; exact ⟨_, _, _, rfl, rfl, hz⟩
  · rw [if_pos a0, if_pos a0]
    by_cases a1' : a1 = 1
    · rw [if_neg (fun z => z a1'), if_neg (fun z => z a1')]; exact ⟨_, _, _, rfl, rfl, hz⟩
    · rw [if_pos a1', if_pos a1']; exact ⟨_, _, _, rfl, rfl, hz⟩
theorem r_about (h : Rel c m) (a1 : Int32) : Rr (f_xx_about a1 c) (f_mm_about a1 m) := by
  have hz := h.q (Fr.rfl (w := c)) (m0k m)
  obtain ⟨L, t⟩ := h.2.2.1
  obtain ⟨n, cv, s, l, ra⟩ := h.2.2.2
  unfold f_xx_about f_mm_about
  rw [ra.2.1.1.1, ra.2.2.1.1.1, ra.2.1.1.2.1, ra.2.2.1.1.2.1, ra.2.2.2.2.2.1, ra.2.2.2.2.2.2.1, t.2.1, t.2.2.1, ra.2.1.2.2.2.1, ra.2.2.1.2.2.2.1, ra.2.1.1.2.2.1, ra.2.2.1.1.2.2.1]
  by_cases e0 : a1 = 0
  · rw [if_pos e0, if_pos e0]; exact ⟨_, _, _, rfl, rfl, hz⟩
  · rw [if_neg e0, if_neg e0]
    by_cases e1 : a1 = 1
    · rw [if_pos e1, if_pos e1]; exact ⟨_, _, _, rfl, rfl, hz⟩
    · rw [if_neg e1, if_neg e1]
      by_cases e2 : a1 = 2
      · rw [if_pos e2, if_pos e2]; exact ⟨_, _, _, rfl, rfl, hz⟩
      · rw [if_neg e2, if_neg e2]
        by_cases e3 : a1 = 3
        · rw [if_pos e3, if_pos e3]; exact ⟨_, _, _, rfl, rfl, hz⟩
        · rw [if_neg e3, if_neg e3]
          by_cases e4 : a1 = 4
          · rw [if_pos e4, if_pos e4]; exact ⟨_, _, _, rfl, rfl, hz⟩
          · rw [if_neg e4, if_neg e4]
            by_cases e5 : a1 = 5
            · rw [if_pos e5, if_pos e5]; exact ⟨_, _, _, rfl, rfl, hz⟩
            · rw [if_neg e5, if_neg e5]; exact ⟨_, _, _, rfl, rfl, hz⟩
theorem q_sale (ra : RA n cv c m s l) (a1 : Int32) : Qr (f_xx_sale a1 c) (f_mm_sale a1 m) c m := by
  have hF := ra.1.1
  have hn := hF.1
  have hC := ra.2.1.1
  have hM0 := ra.2.2.1.1.km (m0k m)
  unfold f_xx_sale f_mm_sale
  rw [ra.2.1.2.1, ra.2.2.1.2.1]
  simp only [b2i_0]
  by_cases cl : s.2.2.1 = false
  · rw [if_neg (fun z => z cl), if_neg (fun z => z cl)]
    exact Qr.of _ (Ok.ret ⟨rfl, Fr.rfl⟩) (Ok.ret ⟨rfl, m0k m⟩)
  · rw [if_pos cl, if_pos cl]
    obtain ⟨he, de, s2, s3, b1, b2, b3⟩ := ra.1.2.2.2 (by simpa using cl)
    have c1 := ra.2.1.2.2.1 1 (by omega) (by omega)
    have c2 := ra.2.1.2.2.1 2 (by omega) (by omega)
    have c3 := ra.2.1.2.2.1 3 (by omega) (by omega)
    have c4 := ra.2.1.2.2.1 4 (by omega) (by omega)
    have m1 : m.1 24 55 = s.2.2.2.1 1 := ra.2.2.1.2.2.1 1 (by omega) (by omega)
    have m2 : m.1 24 56 = s.2.2.2.1 2 := ra.2.2.1.2.2.1 2 (by omega) (by omega)
    have m3 : m.1 24 57 = s.2.2.2.1 3 := ra.2.2.1.2.2.1 3 (by omega) (by omega)
    have m4 : m.1 24 58 = s.2.2.2.1 4 := ra.2.2.1.2.2.1 4 (by omega) (by omega)
    have z24 : ∀ k, k ≠ 0 → (eU1 m 24 0 0).1 24 k = m.1 24 k := fun k hk => u1n _ _ _ _ _ _ (by omega)
    rw [c1, c2, c3, c4, ra.2.2.1.1.1, show (9 : Int32) = Int32.ofInt 9 from rfl, ← Int32.ofInt_add, in_dec (show (10 : Int32).toInt = 10 from rfl) (toI_ofI (show -2147483648 ≤ (9 : Int) + (n : Int) by omega) (by omega)), obind]
    dsimp only
    rw [z24 1 (by omega), ra.2.2.1.1.1, show (99 : Int32) = Int32.ofInt 99 from rfl, ← Int32.ofInt_add, in_dec (show (100 : Int32).toInt = 100 from rfl) (toI_ofI (show -2147483648 ≤ (99 : Int) + (n : Int) by omega) (by omega)), obind]
    dsimp only
    simp only [b2i_0]
    rw [z24 55 (by omega), z24 56 (by omega), z24 57 (by omega), z24 58 (by omega), m1, m2, m3, m4]
    have small : ∀ q : Int, 0 ≤ q → q ≤ 3 → a1 = Int32.ofInt q → ¬ (10 ≤ a1.toInt ∧ a1.toInt ≤ 9 + (n : Int)) ∧ ¬ (100 ≤ a1.toInt ∧ a1.toInt ≤ 99 + (n : Int)) := fun q q0 q3 e => by rw [e, toI_ofI (by omega) (by omega)]; omega
    by_cases e0 : a1 = 0
    · obtain ⟨w1, w2⟩ := small 0 (by omega) (by omega) e0
      simp only [decide_eq_false w1, decide_eq_false w2, if_true]
      rw [if_pos e0, if_pos e0]; exact Qr.of _ (Ok.ret ⟨rfl, Fr.rfl⟩) (Ok.ret ⟨rfl, m0k m⟩)
    rw [if_neg e0, if_neg e0]
    by_cases e1 : a1 = 1
    · obtain ⟨w1, w2⟩ := small 1 (by omega) (by omega) e1
      simp only [decide_eq_false w1, decide_eq_false w2, if_true]
      rw [if_pos e1, if_pos e1]; exact Qr.of _ (Ok.ret ⟨rfl, Fr.rfl⟩) (Ok.ret ⟨rfl, m0k m⟩)
    rw [if_neg e1, if_neg e1]
    by_cases e2 : a1 = 2
    · obtain ⟨w1, w2⟩ := small 2 (by omega) (by omega) e2
      simp only [decide_eq_false w1, decide_eq_false w2, if_true]
      rw [if_pos e2, if_pos e2]; exact Qr.of _ (Ok.ret ⟨rfl, Fr.rfl⟩) (Ok.ret ⟨rfl, m0k m⟩)
    rw [if_neg e2, if_neg e2]
    by_cases e3 : a1 = 3
    · obtain ⟨w1, w2⟩ := small 3 (by omega) (by omega) e3
      simp only [decide_eq_false w1, decide_eq_false w2, if_true]
      rw [if_pos e3, if_pos e3]; exact Qr.of _ (Ok.ret ⟨rfl, Fr.rfl⟩) (Ok.ret ⟨rfl, m0k m⟩)
    rw [if_neg e3, if_neg e3]
    unfold f_xx_saleOf f_xx_saleOf_J36
    have q10 : (10 : Int32) + Int32.ofInt (n : Nat) = Int32.ofInt ((10 : Int) + (n : Int)) := by rw [show (10 : Int32) = Int32.ofInt 10 from rfl, ← Int32.ofInt_add]
    have q100 : (100 : Int32) + Int32.ofInt (n : Nat) = Int32.ofInt ((100 : Int) + (n : Int)) := by rw [show (100 : Int32) = Int32.ofInt 100 from rfl, ← Int32.ofInt_add]
    rw [hC.1, c2, c3, s2, s3, q10, q100, show (10 : Int32) = Int32.ofInt 10 from rfl, show (100 : Int32) = Int32.ofInt 100 from rfl]
    have t1 : (a1 < Int32.ofInt 10) ↔ a1.toInt < 10 := lt_i (by omega) (by omega)
    have t2 : (Int32.ofInt ((10 : Int) + (n : Int)) ≤ a1) ↔ 10 + (n : Int) ≤ a1.toInt := i_le (by omega) (by omega)
    have t3 : (a1 < Int32.ofInt 100) ↔ a1.toInt < 100 := lt_i (by omega) (by omega)
    have t4 : (Int32.ofInt ((100 : Int) + (n : Int)) ≤ a1) ↔ 100 + (n : Int) ≤ a1.toInt := i_le (by omega) (by omega)
    simp only [t1, t2, t3, t4]
    by_cases g1 : 10 ≤ a1.toInt ∧ a1.toInt ≤ 9 + (n : Int)
    · simp only [decide_eq_true g1, Bool.true_eq_false, if_false]
      rw [if_neg (by omega), if_neg (by omega)]
      have ei : a1 - Int32.ofInt 10 = Int32.ofInt (((a1.toInt - 10).toNat : Nat) : Int) := by rw [iof a1, ← Int32.ofInt_sub, toI_ofI (irange a1).1 (irange a1).2]; congr 1; omega
      have hi : (a1.toInt - 10).toNat < n := by omega
      rw [ei]
      generalize (a1.toInt - 10).toNat = i at *
      refine Qr.of (Int32.ofInt (RPd n (XX n s.1 s.2.1 false 0 (100 * fallsI cv de)) (fallsI cv de) i)) ?_ (Ok.bind (m_paidOf hF hM0 hi b2 (by omega)) ?_)
      · refine Ok.bind (P := fun p => p.1 = Int32.ofInt (RPd n (XX n s.1 s.2.1 false 0 (100 * fallsI cv de)) (fallsI cv de) i) ∧ Fr QS c p.2) (Ok.bind (x_unitsFor hF hC hi b2 (by omega)) ?_) ?_
        · rintro ⟨r, c'⟩ hq; exact Ok.ret hq
        · rintro ⟨r, c'⟩ hq; exact Ok.ret hq
      · rintro ⟨r, c'⟩ ⟨q1, q2⟩
        exact Ok.ret ⟨q1, (m0k m).tr q2⟩
    · simp only [decide_eq_false g1, if_true]
      have J2 : (if a1.toInt < 10 then (if a1.toInt < 100 then some ((-2 : Int32), c) else if 100 + (n : Int) ≤ a1.toInt then some (-2, c) else (f_xx_unitsFor (a1 - Int32.ofInt 100) (Int32.ofInt de + Int32.ofInt he) c).bind fun p2 => (f_xx_unitsFor (a1 - Int32.ofInt 100) (p2.2.1 32 3) p2.2).bind fun p3 => some (p2.1 - p3.1, p3.2)) else if 10 + (n : Int) ≤ a1.toInt then (if a1.toInt < 100 then some ((-2 : Int32), c) else if 100 + (n : Int) ≤ a1.toInt then some (-2, c) else (f_xx_unitsFor (a1 - Int32.ofInt 100) (Int32.ofInt de + Int32.ofInt he) c).bind fun p2 => (f_xx_unitsFor (a1 - Int32.ofInt 100) (p2.2.1 32 3) p2.2).bind fun p3 => some (p2.1 - p3.1, p3.2)) else (f_xx_unitsFor (a1 - Int32.ofInt 10) (Int32.ofInt de) c).bind fun p1 => some (p1.1, p1.2)) = (if a1.toInt < 100 then some ((-2 : Int32), c) else if 100 + (n : Int) ≤ a1.toInt then some (-2, c) else (f_xx_unitsFor (a1 - Int32.ofInt 100) (Int32.ofInt de + Int32.ofInt he) c).bind fun p2 => (f_xx_unitsFor (a1 - Int32.ofInt 100) (p2.2.1 32 3) p2.2).bind fun p3 => some (p2.1 - p3.1, p3.2)) := by
        by_cases q : a1.toInt < 10
        · rw [if_pos q]
        · rw [if_neg q, if_pos (by omega)]
      rw [J2]
      by_cases g2 : 100 ≤ a1.toInt ∧ a1.toInt ≤ 99 + (n : Int)
      · simp only [decide_eq_true g2, Bool.true_eq_false, if_false]
        rw [if_neg (by omega), if_neg (by omega)]
        have ei : a1 - Int32.ofInt 100 = Int32.ofInt (((a1.toInt - 100).toNat : Nat) : Int) := by rw [iof a1, ← Int32.ofInt_sub, toI_ofI (irange a1).1 (irange a1).2]; congr 1; omega
        have hi : (a1.toInt - 100).toNat < n := by omega
        rw [ei]
        generalize (a1.toInt - 100).toNat = i at *
        refine Qr.of (Int32.ofInt (RPd n (XX n s.1 s.2.1 false 0 (100 * fallsI cv (de + he))) (fallsI cv (de + he)) i) - Int32.ofInt (RPd n (XX n s.1 s.2.1 false 0 (100 * fallsI cv de)) (fallsI cv de) i)) ?_ ?_
        · rw [← Int32.ofInt_add]
          refine Ok.bind (P := fun p => p.1 = Int32.ofInt (RPd n (XX n s.1 s.2.1 false 0 (100 * fallsI cv (de + he))) (fallsI cv (de + he)) i) - Int32.ofInt (RPd n (XX n s.1 s.2.1 false 0 (100 * fallsI cv de)) (fallsI cv de) i) ∧ Fr QS c p.2) (Ok.bind (x_unitsFor hF hC hi (show 0 ≤ de + he by omega) (by omega)) ?_) (fun p hp => Ok.ret hp)
          rintro ⟨r, c'⟩ ⟨q1, q2⟩
          dsimp only at q1 q2 ⊢
          rw [(q2 32 (by decide)).1, c3, s3]
          refine Ok.bind (x_unitsFor hF (hC.q q2) hi b2 (by omega)) ?_
          rintro ⟨r2, c''⟩ ⟨q3, q4⟩
          dsimp only at q3 q4 ⊢
          rw [q1, q3]
          exact Ok.ret ⟨rfl, q2.tr q4⟩
        · refine Ok.bind (m_paidOf hF hM0 hi b2 (by omega)) ?_
          rintro ⟨r, c'⟩ ⟨q1, q2⟩
          dsimp only at q1 q2 ⊢
          rw [(q2 24 57 (by omega) (by omega)).1, (q2 24 56 (by omega) (by omega)).1, z24 57 (by omega), z24 56 (by omega), m3, m2, s3, s2, ← Int32.ofInt_add]
          refine Ok.bind (m_paidOf hF (hM0.km q2) hi (show 0 ≤ de + he by omega) (by omega)) ?_
          rintro ⟨r2, c''⟩ ⟨q3, q4⟩
          dsimp only at q3 q4 ⊢
          rw [q1, q3]
          exact Ok.ret ⟨rfl, ((m0k m).tr q2).tr q4⟩
      · simp only [decide_eq_false g2, if_true]
        refine Qr.of (-2) ?_ (Ok.ret ⟨rfl, m0k m⟩)
        by_cases q : a1.toInt < 100
        · rw [if_pos q]; exact Ok.ret ⟨rfl, Fr.rfl⟩
        · rw [if_neg q, if_pos (by omega)]; exact Ok.ret ⟨rfl, Fr.rfl⟩
end
