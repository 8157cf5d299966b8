section
variable {n : Nat} {F : Nat → Nat → Int} {wv : Int32} {told : Bool} {set : Int32} {cv : Int} {c m : eW}
/-! votes -/
def vt (F : Nat → Nat → Int) (h : Nat) : Int := if F h 0 = 1 then 0 else F h 1 * F h 5 / 100
def vsum (F : Nat → Nat → Int) (set : Int32) : Nat → Int32
  | 0 => 0
  | h + 1 => vsum F set h + (if sb set h then Int32.ofInt (vt F h) else 0)
theorem c_votesOf (hF : FOK n F cv) (hC : CF c n F cv wv) {h : Nat} (hh : h < n) : f_fi_votesOf (Int32.ofInt (h : Nat)) c = some (Int32.ofInt (vt F h), c) := by
  have f := hF.hd hh
  unfold f_fi_votesOf vt
  rw [show (0 : Int32) = Int32.ofInt (0 : Nat) from rfl, c_fact hF hC hh (by omega), obind]
  dsimp only
  rw [ite_congr (propext (not_congr (show (Int32.ofInt (F h 0) = 1) ↔ F h 0 = 1 by rw [show (1 : Int32) = Int32.ofInt 1 from rfl, ieq (by omega) (by omega) (by omega) (by omega)]))) (fun _ => rfl) (fun _ => rfl)]
  by_cases e : F h 0 = 1
  · rw [if_neg (fun z => z e), if_pos e]; rfl
  · rw [if_pos e, if_neg e, show (1 : Int32) = Int32.ofInt (1 : Nat) from rfl, c_fact hF hC hh (by omega), obind]
    dsimp only
    rw [show (5 : Int32) = Int32.ofInt (5 : Nat) from rfl, c_fact hF hC hh (by omega), obind]
    dsimp only
    have q := mul_le4 (a := F h 1) (b := F h 5) (A := 9999) (B := 400) (by omega) (by omega) (by omega) (by omega)
    rw [← Int32.ofInt_mul, show (100 : Int32) = Int32.ofInt 100 from rfl, idiv (by omega) (by omega) (by omega) (by omega)]
theorem x_votes_loop (hF : FOK n F cv) (hC : CF c n F cv wv) (set : Int32) : ∀ (d k f : Nat), k + d = n → d < f → f_xx_votesTogether_L4 f set (vsum F set k) (Int32.ofInt (k : Nat)) c = some (vsum F set n, c) := by
  have hn := hF.1
  intro d
  induction d with
  | zero =>
    intro k f hk hf
    obtain ⟨f, rfl⟩ := Nat.exists_eq_succ_of_ne_zero (show f ≠ 0 by omega)
    have : k = n := by omega
    subst this
    unfold f_xx_votesTogether_L4
    rw [hC.1, if_pos (by rw [ile (by omega) (by omega) (by omega) (by omega)]; omega)]
  | succ d ih =>
    intro k f hk hf
    obtain ⟨f, rfl⟩ := Nat.exists_eq_succ_of_ne_zero (show f ≠ 0 by omega)
    unfold f_xx_votesTogether_L4
    have I := ih (k + 1) f (by omega) (by omega)
    rw [hC.1, if_neg (by rw [ile (by omega) (by omega) (by omega) (by omega)]; omega), isucc]
    simp only [vsum] at I
    by_cases e : sb set k = true
    · rw [if_neg (fun z => z (sb_iff.mpr e)), c_votesOf hF hC (by omega), obind]
      rw [if_pos e] at I
      exact I
    · rw [if_pos (fun z => e (sb_iff.mp z))]
      rw [if_neg e, Int32.add_zero] at I
      exact I
theorem x_votes (hF : FOK n F cv) (hC : CF c n F cv wv) (set : Int32) : f_xx_votesTogether set c = some (vsum F set n, c) := x_votes_loop hF hC set n 0 eFu (by omega) (by rw [eFu_eq]; have := hF.1; omega)
theorem m_votes_loop (hF : FOK n F cv) (hM : MF m n F cv wv) (set : Int32) : ∀ (d k f : Nat), k + d = n → d < f → f_mm_votesOf_L4 f set (vsum F set k) (Int32.ofInt (k : Nat)) m = some (vsum F set n, m) := by
  have hn := hF.1
  intro d
  induction d with
  | zero =>
    intro k f hk hf
    obtain ⟨f, rfl⟩ := Nat.exists_eq_succ_of_ne_zero (show f ≠ 0 by omega)
    have : k = n := by omega
    subst this
    unfold f_mm_votesOf_L4
    rw [hM.1, if_pos (by rw [ile (by omega) (by omega) (by omega) (by omega)]; omega)]
  | succ d ih =>
    intro k f hk hf
    obtain ⟨f, rfl⟩ := Nat.exists_eq_succ_of_ne_zero (show f ≠ 0 by omega)
    have fh := hF.hd (show k < n by omega)
    have hm := hM.2.2.2 k (by omega)
    have I := ih (k + 1) f (by omega) (by omega)
    unfold f_mm_votesOf_L4
    rw [hM.1, if_neg (by rw [ile (by omega) (by omega) (by omega) (by omega)]; omega), isucc]
    simp only [eChk_of (show 0 ≤ (k : Int) by omega) (show (k : Int) < (24 : Nat) by omega) (show 24 ≤ 2147483648 by omega)]
    rw [icl (by omega) (by omega), nat_i, hm.1, hm.2.1]
    simp only [m_isOf, obind, b2i_0]
    rw [ite_congr (propext (not_congr (show (Int32.ofInt (F k 0) = 0) ↔ F k 0 = 0 by rw [show (0 : Int32) = Int32.ofInt 0 from rfl, ieq (by omega) (by omega) (by omega) (by omega)]))) (fun _ => rfl) (fun _ => rfl), ite_congr (propext (not_congr (show (Int32.ofInt (F k 0) = 1) ↔ F k 0 = 1 by rw [show (1 : Int32) = Int32.ofInt 1 from rfl, ieq (by omega) (by omega) (by omega) (by omega)]))) (fun _ => rfl) (fun _ => rfl)]
    simp only [vsum] at I
    have I0 : sb set k = false → f_mm_votesOf_L4 f set (vsum F set k + 0) (Int32.ofInt ((k + 1 : Nat) : Int)) m = some (vsum F set n, m) := fun e => by
      rw [if_neg (by simp [e])] at I
      exact I
    by_cases e : sb set k = false
    · rw [if_pos e, if_pos e, if_pos e, I0 e]
      simp
    · rw [if_neg e, if_neg e, if_neg e]
      rw [if_pos (by simpa using e)] at I
      by_cases g0 : F k 0 = 0
      · rw [if_neg (fun z => z g0), ← I]
        have : vt F k = F k 1 := by
          unfold vt
          rw [if_neg (by omega), (fh.2.2.2.2.2.2.1 (by omega)).2.2.1]
          omega
        rw [this]
      · rw [if_pos g0]
        by_cases g1 : F k 0 = 1
        · rw [if_neg (fun z => z g1), ← I]
          have : vt F k = 0 := by unfold vt; rw [if_pos g1]
          rw [this]
          rfl
        · rw [if_pos g1, ← I, hm.2.2.2 (by omega) 5 (by omega) (by omega)]
          have q := mul_le4 (a := F k 1) (b := F k 5) (A := 9999) (B := 400) (by omega) (by omega) (by omega) (by omega)
          rw [← Int32.ofInt_mul, show (100 : Int32) = Int32.ofInt 100 from rfl, idiv (by omega) (by omega) (by omega) (by omega)]
          unfold vt
          rw [if_neg g1]
theorem m_votes (hF : FOK n F cv) (hM : MF m n F cv wv) (set : Int32) : f_mm_votesOf set m = some (vsum F set n, m) := m_votes_loop hF hM set n 0 eFu (by omega) (by rw [eFu_eq]; have := hF.1; omega)
theorem q_votes (hF : FOK n F cv) (hC : CF c n F cv wv) (hM : MF m n F cv wv) (a1 : Int32) : Qr (f_xx_votes a1 c) (f_mm_votes a1 m) c m := by
  unfold f_xx_votes f_mm_votes
  rw [x_votes hF hC, obind, m_votes hF (hM.km (m0k m)), obind]
  exact Qr.of _ (Ok.ret ⟨rfl, Fr.rfl⟩) (Ok.ret ⟨rfl, m0k m⟩)
/-! who has more -/
noncomputable def pset (x y : Nat → Rat) : Nat → Int32
  | 0 => 0
  | h + 1 => if y h < x h then pset x y h ||| ((1 : Int32) <<< (Int32.ofInt (h : Nat) &&& 31)) else pset x y h
theorem fa_remember (w : eW) : f_fa_remember w = some (eU2 (eCp2 w 23 22 0 0 12) 24 9 (w.2 24 5)) := by
  unfold f_fa_remember
  rw [if_pos (by decide)]
  rfl
theorem more_loop (hF : FOK n F cv) {falls : Int} (hb : 0 ≤ falls ∧ falls ≤ 999999900) {w : eW} (h : CP n F cv wv told set falls w) {y : Nat → Rat} {a : Nat → Int} {b : Int} (b1 : 1 ≤ b) (b2 : b ≤ 5939406000) (e9 : w.2 24 9 = Int64.ofInt b) (ha : ∀ k, k < n → w.2 23 k = Int64.ofInt (a k) ∧ (a k : Rat) = y k * (b : Rat) ∧ 0 ≤ a k ∧ a k ≤ 5939405406060000000) : ∀ (d k f : Nat), k + d = n → d < f → f_xx_thoseWithMore_L22 f (pset (XX n F wv told set falls) y k) (Int32.ofInt (k : Nat)) w = some (pset (XX n F wv told set falls) y n, w) := by
  have hn := hF.1
  intro d
  induction d with
  | zero =>
    intro k f hk hf
    obtain ⟨f, rfl⟩ := Nat.exists_eq_succ_of_ne_zero (show f ≠ 0 by omega)
    have : k = n := by omega
    subst this
    unfold f_xx_thoseWithMore_L22
    rw [h.1.1, if_pos (by rw [ile (by omega) (by omega) (by omega) (by omega)]; omega)]
  | succ d ih =>
    intro k f hk hf
    obtain ⟨f, rfl⟩ := Nat.exists_eq_succ_of_ne_zero (show f ≠ 0 by omega)
    have I := ih (k + 1) f (by omega) (by omega)
    obtain ⟨z1, z2, z3, z4⟩ := ha k (by omega)
    unfold f_xx_thoseWithMore_L22 f_fa_hasMoreThanRemembered
    rw [h.1.1, if_neg (by rw [ile (by omega) (by omega) (by omega) (by omega)]; omega), isucc, if_neg (by rw [show (0 : Int32) = Int32.ofInt 0 from rfl, ilt (by omega) (by omega) (by omega) (by omega)]; omega), if_neg (by rw [show (12 : Int32) = Int32.ofInt 12 from rfl, ile (by omega) (by omega) (by omega) (by omega)]; omega), eChk_of (by omega) (by omega) (by omega), icl (by omega) (by omega), nat_i, z1, e9, show (1 : Int32) = b2i true from rfl, fa_reaches hF hb h (show k < n by omega) z3 (by omega) (show 0 < b by omega) (by omega) z2, obind]
    dsimp only
    simp only [b2i_0]
    simp only [pset] at I
    by_cases g : y k < XX n F wv told set falls k
    · rw [if_pos g] at I
      rw [if_neg (by simp [g]), obind]
      dsimp only
      rw [if_neg (by decide)]
      exact I
    · rw [if_neg g] at I
      rw [if_pos (by simp [g]), obind]
      dsimp only
      rw [if_pos rfl]
      exact I
theorem x_more (hF : FOK n F cv) (hC : CF c n F cv wv) {a b : Int} (a1 : 0 ≤ a) (a2 : a ≤ 9999999) (b1 : 0 ≤ b) (b2 : b ≤ 9999999) : Ok (f_xx_thoseWithMore (Int32.ofInt a) (Int32.ofInt b) c) fun p => p.1 = pset (fun h => XA n F wv cv h a) (fun h => XA n F wv cv h b) n ∧ Fr QS c p.2 := by
  have hn := hF.1
  unfold f_xx_thoseWithMore
  refine Ok.bind (xx_pour hF hC b1 b2) ?_
  rintro w1 ⟨q1, -, -, q4⟩
  obtain ⟨v, x, e1, e2, e3, e4, e5⟩ := q4.ab hF (falls_b hF b1 b2)
  rw [fa_remember, obind]
  have f2 : Fr QS w1 (eU2 (eCp2 w1 23 22 0 0 12) 24 9 (w1.2 24 5)) := by
    refine Fr.u2 (fun i hi => ⟨rfl, ?_⟩) (by decide)
    have : i ≠ 23 := fun z => hi (by rw [z]; decide)
    show (fun b => if i = 23 then _ else w1.2 i b) = _
    simp [this]
  refine Ok.bind (xx_pour hF (q4.1.q f2) a1 a2) ?_
  rintro w3 ⟨r1, r2, r3, r4⟩
  have L := more_loop hF (falls_b hF a1 a2) r4 (y := fun h => XA n F wv cv h b) (a := x) (b := v) e2 e4 (by rw [r2, u2s]; exact e1) (fun k hk => by
    obtain ⟨y1, y2, y3, y4, y5, y6⟩ := e5 k hk
    refine ⟨?_, y3, y4, y5⟩
    rw [r3, u2n _ _ _ _ _ _ (by omega)]
    unfold eCp2 va_cpy
    dsimp only
    rw [if_pos rfl, if_pos (by omega), show 0 + (k - 0) = k by omega]
    exact y1) n 0 eFu (by omega) (by rw [eFu_eq]; omega)
  rw [show (0 : Int32) = pset (XX n F wv false 0 (100 * fallsI cv a)) (fun h => XA n F wv cv h b) 0 from rfl]
  have L2 : f_xx_thoseWithMore_L22 eFu (pset (XX n F wv false 0 (100 * fallsI cv a)) (fun h => XA n F wv cv h b) 0) (pset (XX n F wv false 0 (100 * fallsI cv a)) (fun h => XA n F wv cv h b) 0) w3 = _ := L
  rw [L2]
  exact Ok.ret ⟨rfl, (q1.tr f2).tr r1⟩
theorem pset_cg {x y u v : Nat → Rat} : ∀ {n : Nat}, (∀ h, h < n → (y h < x h ↔ v h < u h)) → pset x y n = pset u v n
  | 0, _ => rfl
  | n + 1, k => by
    simp only [pset]
    rw [pset_cg fun h hh => k h (by omega)]
    by_cases e : y n < x n
    · rw [if_pos e, if_pos ((k n (by omega)).mp e)]
    · rw [if_neg e, if_neg (fun z => e ((k n (by omega)).mpr z))]
theorem pset_0 {x y : Nat → Rat} : ∀ {n : Nat}, (∀ h, h < n → ¬ y h < x h) → pset x y n = 0
  | 0, _ => rfl
  | n + 1, k => by
    simp only [pset]
    rw [if_neg (k n (by omega)), pset_0 fun h hh => k h (by omega)]
theorem mprefers_loop (hF : FOK n F cv) (hC : CF c n F cv wv) {a b : Int} (a2 : a ≤ 9999999) (b1 : 0 ≤ b) (hab : b < a) : ∀ (d k f : Nat), k + d = n → d < f → ∀ w : eW, MF w n F cv wv → Ok (f_mm_prefersOf_L5 f (Int32.ofInt a) (Int32.ofInt b) (pset (fun h => XA n F wv cv h a) (fun h => XA n F wv cv h b) k) (Int32.ofInt (k : Nat)) w) fun p => p.1 = pset (fun h => XA n F wv cv h a) (fun h => XA n F wv cv h b) n ∧ Km w p.2 := by
  have hn := hF.1
  intro d
  induction d with
  | zero =>
    intro k f hk hf w hM
    obtain ⟨f, rfl⟩ := Nat.exists_eq_succ_of_ne_zero (show f ≠ 0 by omega)
    have : k = n := by omega
    subst this
    unfold f_mm_prefersOf_L5
    rw [hM.1, if_pos (by rw [ile (by omega) (by omega) (by omega) (by omega)]; omega)]
    exact Ok.ret ⟨rfl, Km.rfl⟩
  | succ d ih =>
    intro k f hk hf w hM
    obtain ⟨f, rfl⟩ := Nat.exists_eq_succ_of_ne_zero (show f ≠ 0 by omega)
    unfold f_mm_prefersOf_L5
    rw [hM.1, if_neg (by rw [ile (by omega) (by omega) (by omega) (by omega)]; omega), if_neg (by rw [ile (by omega) (by omega) (by omega) (by omega)]; omega), isucc]
    refine Ok.bind (m_asksFor hF hM (show k < n by omega) (show 0 ≤ a by omega) a2) ?_
    rintro w1 ⟨k1, as, nb⟩
    refine Ok.bind (m_isLike hF (hM.km k1) (show k < n by omega) b1 (by omega) as nb) ?_
    rintro ⟨r, w2⟩ ⟨q1, q2, -⟩
    dsimp only at q1 q2 ⊢
    rw [q1]
    simp only [b2i_0]
    have I := ih (k + 1) f (by omega) (by omega) w2 ((hM.km k1).km q2)
    have mo := XA_mono hF hC (show k < n by omega) b1 (show b ≤ a by omega) a2
    simp only [pset] at I
    by_cases g : XA n F wv cv k b = XA n F wv cv k a
    · rw [if_neg (by simp [g]), Int32.or_zero]
      rw [if_neg (by rw [g]; exact Rat.lt_irrefl)] at I
      exact Ok.imp I fun p hp => ⟨hp.1, (k1.tr q2).tr hp.2⟩
    · rw [if_pos (decide_eq_false g)]
      rw [if_pos (by grind)] at I
      exact Ok.imp I fun p hp => ⟨hp.1, (k1.tr q2).tr hp.2⟩
theorem m_prefersOf (hF : FOK n F cv) (hC : CF c n F cv wv) (hM : MF m n F cv wv) {a b : Int} (a1 : 0 ≤ a) (a2 : a ≤ 9999999) (b1 : 0 ≤ b) (b2 : b ≤ 9999999) : Ok (f_mm_prefersOf (Int32.ofInt a) (Int32.ofInt b) m) fun p => p.1 = pset (fun h => XA n F wv cv h a) (fun h => XA n F wv cv h b) n ∧ Km m p.2 := by
  have hn := hF.1
  unfold f_mm_prefersOf
  by_cases e : b < a
  · exact mprefers_loop hF hC a2 b1 e n 0 eFu (by omega) (by rw [eFu_eq]; omega) m hM
  · rw [pset_0 fun h hh => by
      have := XA_mono hF hC hh a1 (show a ≤ b by omega) b2
      grind]
    rw [eFu_eq]
    unfold f_mm_prefersOf_L5
    rw [hM.1]
    by_cases z : n = 0
    · rw [if_pos (by rw [z]; decide)]; exact Ok.ret ⟨rfl, Km.rfl⟩
    · rw [if_neg (by rw [show (0 : Int32) = Int32.ofInt 0 from rfl, ile (by omega) (by omega) (by omega) (by omega)]; omega), if_pos (by rw [ile (by omega) (by omega) (by omega) (by omega)]; omega)]
      exact Ok.ret ⟨rfl, Km.rfl⟩
theorem q_prefers (hF : FOK n F cv) (hC : CF c n F cv wv) (hM : MF m n F cv wv) (a1 a2 : Int32) : Qr (f_xx_prefers a1 a2 c) (f_mm_prefers a1 a2 m) c m := by
  have hM0 := hM.km (m0k m)
  unfold f_xx_prefers f_mm_prefers
  simp only [x_isAmount, m_isAmount, obind, b2i_0]
  by_cases h : 0 ≤ a1.toInt ∧ a1.toInt ≤ 9999999
  · simp only [decide_eq_true h, Bool.true_eq_false, if_false, not_false_eq_true, not_true_eq_false, if_true]
    by_cases k : 0 ≤ a2.toInt ∧ a2.toInt ≤ 9999999
    · simp only [decide_eq_true k, Bool.true_eq_false, if_false, not_false_eq_true, not_true_eq_false, if_true]
      obtain ⟨y, y1, y2, rfl⟩ := amt_of h
      obtain ⟨z, z1, z2, rfl⟩ := amt_of k
      refine Qr.of (pset (fun h => XA n F wv cv h y) (fun h => XA n F wv cv h z) n) (Ok.bind (x_more hF hC y1 y2 z1 z2) ?_) (Ok.bind (m_prefersOf hF hC hM0 y1 y2 z1 z2) ?_)
      · rintro ⟨r, c'⟩ ⟨q1, q2⟩
        exact Ok.ret ⟨q1, q2⟩
      · rintro ⟨r, c'⟩ ⟨q1, q2⟩
        exact Ok.ret ⟨q1, (m0k m).tr q2⟩
    · simp only [decide_eq_false k, Bool.true_eq_false, if_false, not_false_eq_true, not_true_eq_false, if_true]
      exact Qr.of _ (Ok.ret ⟨rfl, Fr.rfl⟩) (Ok.ret ⟨rfl, m0k m⟩)
  · simp only [decide_eq_false h, Bool.true_eq_false, if_false, not_false_eq_true, not_true_eq_false, if_true]
    exact Qr.of _ (Ok.ret ⟨rfl, Fr.rfl⟩) (Ok.ret ⟨rfl, m0k m⟩)
theorem q_passes (hF : FOK n F cv) (hC : CF c n F cv wv) (hM : MF m n F cv wv) (a1 a2 : Int32) : Qr (f_xx_passes a1 a2 c) (f_mm_passes a1 a2 m) c m := by
  have hM0 := hM.km (m0k m)
  unfold f_xx_passes f_mm_passes
  simp only [x_isAmount, m_isAmount, obind, b2i_0]
  by_cases h : 0 ≤ a1.toInt ∧ a1.toInt ≤ 9999999
  · simp only [decide_eq_true h, Bool.true_eq_false, if_false, not_false_eq_true, not_true_eq_false, if_true]
    by_cases k : 0 ≤ a2.toInt ∧ a2.toInt ≤ 9999999
    · simp only [decide_eq_true k, Bool.true_eq_false, if_false, not_false_eq_true, not_true_eq_false, if_true]
      obtain ⟨y, y1, y2, rfl⟩ := amt_of h
      obtain ⟨z, z1, z2, rfl⟩ := amt_of k
      generalize hs : pset (fun h => XA n F wv cv h y) (fun h => XA n F wv cv h z) n = s
      refine Qr.of (if vsum F s n ≤ vsum F (s ^^^ (-1 : Int32)) n then 0 else 1) (Ok.bind (x_more hF hC y1 y2 z1 z2) ?_) (Ok.bind (m_prefersOf hF hC hM0 y1 y2 z1 z2) ?_)
      · rintro ⟨r, c'⟩ ⟨q1, q2⟩
        dsimp only at q1 q2 ⊢
        rw [q1, hs, x_votes hF (hC.q q2), obind]
        dsimp only
        rw [x_votes hF (hC.q q2), obind]
        dsimp only
        refine Ok.br (fun g => ?_) (fun g => ?_)
        · rw [if_pos g]; exact Ok.ret ⟨rfl, q2⟩
        · rw [if_neg g]; exact Ok.ret ⟨rfl, q2⟩
      · rintro ⟨r, c'⟩ ⟨q1, q2⟩
        dsimp only at q1 q2 ⊢
        rw [q1, hs, m_votes hF (hM0.km q2), obind]
        dsimp only
        rw [m_votes hF (hM0.km q2), obind]
        dsimp only
        refine Ok.br (fun g => ?_) (fun g => ?_)
        · rw [if_pos g]; exact Ok.ret ⟨rfl, (m0k m).tr q2⟩
        · rw [if_neg g]; exact Ok.ret ⟨rfl, (m0k m).tr q2⟩
    · simp only [decide_eq_false k, Bool.true_eq_false, if_false, not_false_eq_true, not_true_eq_false, if_true]
      exact Qr.of _ (Ok.ret ⟨rfl, Fr.rfl⟩) (Ok.ret ⟨rfl, m0k m⟩)
  · simp only [decide_eq_false h, Bool.true_eq_false, if_false, not_false_eq_true, not_true_eq_false, if_true]
    exact Qr.of _ (Ok.ret ⟨rfl, Fr.rfl⟩) (Ok.ret ⟨rfl, m0k m⟩)
/-! unpaid -/
theorem munp_loop (hF : FOK n F cv) {falls : Int} (hb : 0 ≤ falls ∧ falls ≤ 999999900) {w : eW} (hM : MT w n F cv wv told set) {q : Nat} (q6 : q ≤ 6) (h1 : bf n F wv told set q ≤ falls) (h2 : q < 6 → falls < bf n F wv told set (q + 1)) : ∀ (d r f : Nat), r + d = q → d < f → f_mm_unpaid_L32 f (Int64.ofInt (falls - bf n F wv told set r)) (Int32.ofInt (r : Nat)) w = some (if q = 6 then -1 else Int32.ofInt (q : Nat), w) := by
  intro d
  induction d with
  | zero =>
    intro r f hr hf
    obtain ⟨f, rfl⟩ := Nat.exists_eq_succ_of_ne_zero (show f ≠ 0 by omega)
    have : r = q := by omega
    subst this
    unfold f_mm_unpaid_L32
    rw [show (6 : Int32) = Int32.ofInt 6 from rfl, ite_congr (propext (ile (by omega) (by omega) (by omega) (by omega))) (fun _ => rfl) (fun _ => rfl)]
    by_cases e : r = 6
    · rw [if_pos (by omega), if_pos e]
    · rw [if_neg (by omega), if_neg e, m_firstsOf hF hM (by omega), obind]
      dsimp only
      have b0 := bf_nn (wv := wv) (told := told) (set := set) hF r
      have rb := rp_b (wv := wv) (told := told) (set := set) hF r
      have := h2 (by omega)
      simp only [bf] at this
      simp only [lg_cmp_ge]
      rw [if_neg (by rw [jle (by omega) (by omega) (by omega) (by omega)]; omega)]
  | succ d ih =>
    intro r f hr hf
    obtain ⟨f, rfl⟩ := Nat.exists_eq_succ_of_ne_zero (show f ≠ 0 by omega)
    unfold f_mm_unpaid_L32
    have b0 := bf_nn (wv := wv) (told := told) (set := set) hF r
    have rb := rp_b (wv := wv) (told := told) (set := set) hF r
    have mo := bf_mono (wv := wv) (told := told) (set := set) hF (show r + 1 ≤ q by omega)
    have I := ih (r + 1) f (by omega) (by omega)
    simp only [bf] at mo I
    rw [show (6 : Int32) = Int32.ofInt 6 from rfl, if_neg (by rw [ile (by omega) (by omega) (by omega) (by omega)]; omega)]
    simp only [m_firstsOf hF hM (show r < 6 by omega), obind, lg_cmp_ge]
    rw [if_pos (by rw [jle (by omega) (by omega) (by omega) (by omega)]; omega), ← Int64.ofInt_sub, isucc, ← I, show falls - (bf n F wv told set r + rp n F wv told set r) = falls - bf n F wv told set r - rp n F wv told set r by omega]
theorem q_unpaid (hF : FOK n F cv) (hC : CF c n F cv wv) (hM : MF m n F cv wv) (a1 : Int32) : Qr (f_xx_unpaid a1 c) (f_mm_unpaid a1 m) c m := by
  have hM0 := hM.km (m0k m)
  unfold f_xx_unpaid f_mm_unpaid
  simp only [x_isAmount, m_isAmount, obind, b2i_0]
  by_cases h : 0 ≤ a1.toInt ∧ a1.toInt ≤ 9999999
  · simp only [decide_eq_true h, Bool.true_eq_false, if_false, not_false_eq_true, not_true_eq_false, if_true]
    obtain ⟨y, y1, y2, rfl⟩ := amt_of h
    obtain ⟨w1, e1, f1, -, ar⟩ := fa_arrange (told := false) (set := m.1 24 35) hF hC
    have ar0 : f_fa_arrange (0 : Int32) (0 : Int32) c = f_fa_arrange (b2i false) 0 c := rfl
    obtain ⟨w2, e2, f2, -, ar2⟩ := fa_arrange (told := false) (set := 0) hF hC
    rw [ar0, e2, obind]
    have hC2 := hC.fr f2 (by decide) (by decide)
    obtain ⟨e3, e4⟩ := x_falls hF hC2 y1 y2
    rw [e3, obind]
    dsimp only
    rw [e4]
    obtain ⟨⟨r, w3⟩, e5, e6, q, q6, e7, h1, h2⟩ := fa_firstUnpaid hF (falls_b hF y1 y2) ar2.2.1
    dsimp only at e6 e7
    rw [e5, obind]
    dsimp only
    subst e6
    subst e7
    refine Qr.of (if q = 6 then -1 else Int32.ofInt (q : Nat)) ?_ ?_
    · refine Ok.iff (e := q = 6) (by rw [show (5 : Int32) = Int32.ofInt 5 from rfl, ilt (by omega) (by omega) (by omega) (by omega)]; omega) (fun g => ?_) (fun g => ?_)
      · rw [if_pos g]; exact Ok.ret ⟨rfl, f2.sub (by decide)⟩
      · rw [if_neg g]; exact Ok.ret ⟨rfl, f2.sub (by decide)⟩
    · rw [hM0.2.1, m_fallsBy hF.2.1 hF.2.2.1 y1 y2, obind]
      dsimp only
      have k1 : Km (eU1 m 24 0 0) (eU1 (eU1 m 24 0 0) 24 36 0) := Km.rfl.u1 (by omega)
      have mt : MT (eU1 (eU1 m 24 0 0) 24 36 0) n F cv wv false (m.1 24 35) := ⟨hM0.km k1, by rw [u1s]; rfl, by rw [u1n _ _ _ _ _ _ (by omega), u1n _ _ _ _ _ _ (by omega)]⟩
      have L := munp_loop hF (falls_b hF y1 y2) mt q6 (by rw [bf_false _ 0]; exact h1) (by rw [bf_false _ 0]; exact h2) q 0 eFu (by omega) (by rw [eFu_eq]; omega)
      rw [show 100 * fallsI cv y - bf n F wv false (m.1 24 35) 0 = 100 * fallsI cv y by show 100 * fallsI cv y - 0 = _; omega] at L
      rw [show (0 : Int32) = Int32.ofInt ((0 : Nat) : Int) from rfl] at *
      rw [L]
      exact Ok.ret ⟨rfl, (m0k m).tr k1⟩
  · simp only [decide_eq_false h, Bool.true_eq_false, if_false, not_false_eq_true, not_true_eq_false, if_true]
    exact Qr.of _ (Ok.ret ⟨rfl, Fr.rfl⟩) (Ok.ret ⟨rfl, m0k m⟩)
end
