/-! ===== one fact changed ===== -/
def upf (F : Nat → Nat → Int) (h k : Nat) (t : Int) : Nat → Nat → Int := fun i j => if i = h ∧ j = k then t else F i j
section
variable {n : Nat} {F : Nat → Nat → Int} {wv : Int32} {told : Bool} {set : Int32} {cv : Int} {c m : eW}
theorem upf_s {h k : Nat} {t : Int} : upf F h k t h k = t := by unfold upf; rw [if_pos ⟨rfl, rfl⟩]
theorem upf_n {h k i j : Nat} {t : Int} (e : i ≠ h ∨ j ≠ k) : upf F h k t i j = F i j := by unfold upf; rw [if_neg (by omega)]
theorem upf_o {h k i : Nat} {t : Int} (e : i ≠ h) : upf F h k t i = F i := by funext j; exact upf_n (.inl e)
theorem upf_upf {h k : Nat} {s t : Int} : upf (upf F h k s) h k t = upf F h k t := by
  funext i j
  unfold upf
  by_cases e : i = h ∧ j = k
  · rw [if_pos e, if_pos e]
  · rw [if_neg e, if_neg e, if_neg e]
theorem upf_id {h k : Nat} : upf F h k (F h k) = F := by
  funext i j
  unfold upf
  by_cases e : i = h ∧ j = k
  · rw [if_pos e, e.1, e.2]
  · rw [if_neg e]
theorem cntK_upf {h k : Nat} {t : Int} (hk : k ≠ 0) (q : Int) : ∀ n, cntK (upf F h k t) q n = cntK F q n
  | 0 => rfl
  | n + 1 => by simp only [cntK]; rw [cntK_upf hk q n, upf_n (.inr (by omega))]
theorem FOK_upf (hF : FOK n F cv) {h k : Nat} {t : Int} (hk : k ≠ 0) (ho : HOK (upf F h k t) h) : FOK n (upf F h k t) cv := by
  obtain ⟨a, b, c, d, e, f, g⟩ := hF
  refine ⟨a, b, c, by rw [cntK_upf hk]; exact d, by rw [cntK_upf hk]; exact e, by rw [cntK_upf hk]; exact f, fun i hi => ?_⟩
  by_cases e : i = h
  · rw [e]; exact ho
  · have := g i hi
    unfold HOK at *
    rw [upf_o e]; exact this
theorem HOK_1 {h : Nat} (ho : HOK F h) {t : Int} (t1 : 1 ≤ t) (t2 : t ≤ 9999) : HOK (upf F h 1 t) h := by
  unfold HOK at *
  simp only [upf_s, upf_n (h := h) (i := h) (k := 1) (t := t) (F := F) (j := 0) (.inr (by omega)), upf_n (h := h) (i := h) (k := 1) (t := t) (F := F) (j := 2) (.inr (by omega)), upf_n (h := h) (i := h) (k := 1) (t := t) (F := F) (j := 3) (.inr (by omega)), upf_n (h := h) (i := h) (k := 1) (t := t) (F := F) (j := 4) (.inr (by omega)), upf_n (h := h) (i := h) (k := 1) (t := t) (F := F) (j := 5) (.inr (by omega)), upf_n (h := h) (i := h) (k := 1) (t := t) (F := F) (j := 6) (.inr (by omega)), upf_n (h := h) (i := h) (k := 1) (t := t) (F := F) (j := 7) (.inr (by omega)), upf_n (h := h) (i := h) (k := 1) (t := t) (F := F) (j := 8) (.inr (by omega)), upf_n (h := h) (i := h) (k := 1) (t := t) (F := F) (j := 9) (.inr (by omega))]
  exact ⟨ho.1, t1, t2, ho.2.2.2⟩
theorem HOK_3 {h : Nat} (ho : HOK F h) (h2 : F h 0 = 2) {t : Int} (t1 : 0 ≤ t) (t2 : t ≤ 5) : HOK (upf F h 3 t) h := by
  unfold HOK at *
  simp only [upf_s, upf_n (h := h) (i := h) (k := 3) (t := t) (F := F) (j := 0) (.inr (by omega)), upf_n (h := h) (i := h) (k := 3) (t := t) (F := F) (j := 2) (.inr (by omega)), upf_n (h := h) (i := h) (k := 3) (t := t) (F := F) (j := 1) (.inr (by omega)), upf_n (h := h) (i := h) (k := 3) (t := t) (F := F) (j := 4) (.inr (by omega)), upf_n (h := h) (i := h) (k := 3) (t := t) (F := F) (j := 5) (.inr (by omega)), upf_n (h := h) (i := h) (k := 3) (t := t) (F := F) (j := 6) (.inr (by omega)), upf_n (h := h) (i := h) (k := 3) (t := t) (F := F) (j := 7) (.inr (by omega)), upf_n (h := h) (i := h) (k := 3) (t := t) (F := F) (j := 8) (.inr (by omega)), upf_n (h := h) (i := h) (k := 3) (t := t) (F := F) (j := 9) (.inr (by omega))]
  refine ⟨ho.1, ho.2.1, ho.2.2.1, ho.2.2.2.1, ho.2.2.2.2.1, ho.2.2.2.2.2.1, fun z => absurd h2 z, t1, t2, ho.2.2.2.2.2.2.2.2.2⟩
theorem HOK_4 {h : Nat} (ho : HOK F h) (h2 : F h 0 = 2) {t : Int} (t1 : 0 ≤ t) (t2 : t ≤ 400) : HOK (upf F h 4 t) h := by
  unfold HOK at *
  simp only [upf_s, upf_n (h := h) (i := h) (k := 4) (t := t) (F := F) (j := 0) (.inr (by omega)), upf_n (h := h) (i := h) (k := 4) (t := t) (F := F) (j := 2) (.inr (by omega)), upf_n (h := h) (i := h) (k := 4) (t := t) (F := F) (j := 3) (.inr (by omega)), upf_n (h := h) (i := h) (k := 4) (t := t) (F := F) (j := 1) (.inr (by omega)), upf_n (h := h) (i := h) (k := 4) (t := t) (F := F) (j := 5) (.inr (by omega)), upf_n (h := h) (i := h) (k := 4) (t := t) (F := F) (j := 6) (.inr (by omega)), upf_n (h := h) (i := h) (k := 4) (t := t) (F := F) (j := 7) (.inr (by omega)), upf_n (h := h) (i := h) (k := 4) (t := t) (F := F) (j := 8) (.inr (by omega)), upf_n (h := h) (i := h) (k := 4) (t := t) (F := F) (j := 9) (.inr (by omega))]
  refine ⟨ho.1, ho.2.1, ho.2.2.1, ho.2.2.2.1, ho.2.2.2.2.1, ho.2.2.2.2.2.1, fun z => absurd h2 z, ho.2.2.2.2.2.2.2.1, ho.2.2.2.2.2.2.2.2.1, t1, t2, ho.2.2.2.2.2.2.2.2.2.2.2⟩
theorem CF_upf (hC : CF c n F cv wv) {h k : Nat} (hk : k < 10) (t : Int) : CF (eU1 c 7 (h * 10 + k) (Int32.ofInt t)) n (upf F h k t) cv wv := by
  obtain ⟨a, b, d, e⟩ := hC
  refine ⟨by rw [u1n _ _ _ _ _ _ (by omega)]; exact a, by rw [u1n _ _ _ _ _ _ (by omega)]; exact b, by rw [u1n _ _ _ _ _ _ (by omega)]; exact d, fun i j hi hj => ?_⟩
  by_cases z : i = h ∧ j = k
  · rw [z.1, z.2, u1s, upf_s]
  · rw [u1n _ _ _ _ _ _ (by omega), upf_n (by omega)]; exact e i j hi hj
theorem MF_upf (hM : MF m n F cv wv) {h k : Nat} (hk : k = 1 ∨ (3 ≤ k ∧ k < 10)) (t : Int) : MF (eU1 m k h (Int32.ofInt t)) n (upf F h k t) cv wv := by
  obtain ⟨a, b, d, e⟩ := hM
  refine ⟨by rw [u1n _ _ _ _ _ _ (by omega)]; exact a, by rw [u1n _ _ _ _ _ _ (by omega)]; exact b, by rw [u1n _ _ _ _ _ _ (by omega)]; exact d, fun i hi => ?_⟩
  obtain ⟨e0, e1, e2, e3⟩ := e i hi
  rw [upf_n (.inr (by omega)), upf_n (k := k) (j := 2) (.inr (by omega))]
  refine ⟨by rw [u1n _ _ _ _ _ _ (by omega)]; exact e0, ?_, fun z => by rw [u1n _ _ _ _ _ _ (by omega)]; exact e2 z, fun z j h3 h10 => ?_⟩
  · by_cases z : i = h ∧ 1 = k
    · rw [z.1, ← z.2, u1s, upf_s]
    · rw [u1n _ _ _ _ _ _ (by omega), upf_n (by omega)]; exact e1
  · by_cases y : i = h ∧ j = k
    · rw [y.1, y.2, u1s, upf_s]
    · rw [u1n _ _ _ _ _ _ (by omega), upf_n (by omega)]; exact e3 z j h3 h10
theorem c_put (hF : FOK n F cv) (hC : CF c n F cv wv) {h k : Nat} (hh : h < n) (hk : k < 10) (x : Int32) : f_fi_put (Int32.ofInt (h : Nat)) (Int32.ofInt (k : Nat)) x c = some (eU1 c 7 (h * 10 + k) x) := by
  have hn := hF.1
  unfold f_fi_put
  rw [c_isHolder hF hC, obind]
  dsimp only
  rw [toI_ofI (by omega) (by omega), decide_eq_true (show 0 ≤ (h : Int) ∧ (h : Int) < n by omega)]
  have e : ((h : Int) * (10 : Nat) + k).toNat = h * 10 + k := by omega
  rw [if_neg (by decide), if_neg (by rw [show (0 : Int32) = Int32.ofInt 0 from rfl, ilt (by omega) (by omega) (by omega) (by omega)]; omega), if_neg (by rw [show (10 : Int32) = Int32.ofInt 10 from rfl, ile (by omega) (by omega) (by omega) (by omega)]; omega), show (10 : Int32) = Int32.ofInt (10 : Nat) from rfl, ← Int32.ofInt_mul, ← Int32.ofInt_add, eChk_of (by omega) (by omega) (by omega), icl (by omega) (by omega), e]
theorem c_takes (hF : FOK n F cv) (hC : CF c n F cv wv) (a b : Int32) : f_fi_takesShares a b c = some (b2i (decide ((0 ≤ a.toInt ∧ a.toInt < n) ∧ 1 ≤ b.toInt ∧ b.toInt ≤ 9999 - F a.toInt.toNat 1)), c) := by
  have hn := hF.1
  have rb := irange b
  unfold f_fi_takesShares
  rw [c_isHolder hF hC, obind]
  dsimp only
  simp only [b2i_0]
  by_cases h : 0 ≤ a.toInt ∧ a.toInt < n
  · rw [if_neg (by simp [h])]
    by_cases k : 1 ≤ b.toInt
    · rw [if_neg (by rw [iof b, show (1 : Int32) = Int32.ofInt 1 from rfl, ilt (by omega) (by omega) (by omega) (by omega)]; omega)]
      have hh : a.toInt.toNat < n := by omega
      have f := hF.hd hh
      have e := c_fact hF hC hh (k := 1) (by omega)
      rw [show Int32.ofInt ((a.toInt.toNat : Nat) : Int) = a by rw [Int.toNat_of_nonneg h.1]; exact (iof a).symm] at e
      rw [show (1 : Int32) = Int32.ofInt (1 : Nat) from rfl, e, obind]
      dsimp only
      rw [show (9999 : Int32) = Int32.ofInt 9999 from rfl, ← Int32.ofInt_sub]
      by_cases g : b.toInt ≤ 9999 - F a.toInt.toNat 1
      · rw [if_neg (by rw [iof b, ilt (by omega) (by omega) (by omega) (by omega)]; omega), decide_eq_true ⟨h, k, g⟩]; rfl
      · rw [if_pos (by rw [iof b, ilt (by omega) (by omega) (by omega) (by omega)]; omega), decide_eq_false (fun z => g z.2.2)]; rfl
    · rw [if_pos (by rw [iof b, show (1 : Int32) = Int32.ofInt 1 from rfl, ilt (by omega) (by omega) (by omega) (by omega)]; omega), decide_eq_false (fun z => k z.2.1)]; rfl
  · rw [if_pos (by simpa using h), decide_eq_false (fun z => h z.1)]; rfl
/-- back as it was -/
theorem back1 {c c' : eW} {p : Nat} {x y : Int32} (h : Fr QS (eU1 c 7 p x) c') (e : c.1 7 p = y) : Fr QS c (eU1 c' 7 p y) := fun i hi => by
  refine ⟨?_, (h i hi).2⟩
  funext k
  by_cases z : i = 7 ∧ k = p
  · rw [z.1, z.2, u1s, e]
  · rw [u1n _ _ _ _ _ _ (by omega), (h i hi).1, u1n _ _ _ _ _ _ (by omega)]
theorem backm {m m' : eW} {i p : Nat} {x y : Int32} (hi : i < 10) (h : Km (eU1 m i p x) m') (e : m.1 i p = y) : Km m (eU1 m' i p y) := fun j k h1 h2 => by
  have := h j k h1 h2
  refine ⟨?_, this.2⟩
  by_cases z : j = i ∧ k = p
  · rw [z.1, z.2, u1s, e]
  · rw [u1n _ _ _ _ _ _ (by omega), this.1, u1n _ _ _ _ _ _ (by omega)]
theorem q_dilutes (hF : FOK n F cv) (hC : CF c n F cv wv) (hM : MF m n F cv wv) (a1 a2 a3 a4 : Int32) : Qr (f_xx_dilutes a1 a2 a3 a4 c) (f_mm_dilutes a1 a2 a3 a4 m) c m := by
  have hn := hF.1
  have hM0 := hM.km (m0k m)
  have r4 := irange a4
  unfold f_xx_dilutes f_mm_dilutes
  simp only [x_isAsked hF hC, m_isHolder hF hM0, m_isAmount, obind, b2i_0]
  by_cases h : 0 ≤ a1.toInt ∧ a1.toInt < n
  · by_cases k : 0 ≤ a2.toInt ∧ a2.toInt ≤ 9999999
    · simp only [decide_eq_true (And.intro h k), decide_eq_true h, decide_eq_true k, Bool.true_eq_false, if_false, c_takes hF hC, obind, b2i_0]
      by_cases g : 0 ≤ a3.toInt ∧ a3.toInt < n
      · simp only [decide_eq_true g, Bool.true_eq_false, if_false]
        obtain ⟨i, hi, rfl⟩ := hold_of h
        obtain ⟨z, z1, z2, rfl⟩ := amt_of k
        obtain ⟨o, ho, rfl⟩ := hold_of g
        have fo := hF.hd ho
        have hm := hM0.2.2.2 o ho
        rw [eChk_of (by omega) (by omega) (by omega)]
        simp only [icl (show -2147483648 ≤ (o : Int) by omega) (show (o : Int) < 2147483648 by omega), nat_i, hm.2.1]
        rw [toI_ofI (a := (o : Int)) (by omega) (by omega), nat_i]
        by_cases u : 1 ≤ a4.toInt ∧ a4.toInt ≤ 9999 - F o 1
        · rw [decide_eq_true ⟨by omega, u⟩, if_pos (by simp), if_neg (by rw [iof a4, show (1 : Int32) = Int32.ofInt 1 from rfl, ilt (by omega) (by omega) (by omega) (by omega)]; omega), if_pos (by rw [iof a4, show (9999 : Int32) = Int32.ofInt 9999 from rfl, ← Int32.ofInt_sub, ile (by omega) (by omega) (by omega) (by omega)]; omega)]
          have hF2 := FOK_upf hF (h := o) (k := 1) (t := F o 1 + a4.toInt) (by omega) (HOK_1 fo (by omega) (by omega))
          have ea : Int32.ofInt (F o 1) + a4 = Int32.ofInt (F o 1 + a4.toInt) := by rw [Int32.ofInt_add, ← iof a4]
          refine Qr.of (Int32.ofInt (RPd n (XX n F wv false 0 (100 * fallsI cv z)) (fallsI cv z) i) - Int32.ofInt (RPd n (XX n (upf F o 1 (F o 1 + a4.toInt)) wv false 0 (100 * fallsI cv z)) (fallsI cv z) i)) ?_ ?_
          · refine Ok.bind (x_unitsFor hF hC hi z1 z2) ?_
            rintro ⟨r1, c1⟩ ⟨p1, p2⟩
            dsimp only at p1 p2 ⊢
            have hC1 := hC.q p2
            rw [show (1 : Int32) = Int32.ofInt (1 : Nat) from rfl, c_fact hF hC1 ho (by omega), obind]
            dsimp only
            rw [c_put hF hC1 ho (by omega), obind, ea]
            have hC2 := CF_upf hC1 (h := o) (k := 1) (by omega) (F o 1 + a4.toInt)
            refine Ok.bind (x_unitsFor hF2 hC2 hi z1 z2) ?_
            rintro ⟨r2, c2⟩ ⟨q1, q2⟩
            dsimp only at q1 q2 ⊢
            rw [c_put hF2 (hC2.q q2) ho (by omega), obind, p1, q1]
            exact Ok.ret ⟨rfl, p2.tr (back1 q2 (hC1.2.2.2 o 1 ho (by omega)))⟩
          · refine Ok.bind (m_paidOf hF hM0 hi z1 z2) ?_
            rintro ⟨r1, c1⟩ ⟨p1, p2⟩
            dsimp only at p1 p2 ⊢
            have hM1 := hM0.km p2
            have hm1 := hM1.2.2.2 o ho
            rw [eChk_of (by omega) (by omega) (by omega), eChk_of (by omega) (by omega) (by omega), hm1.2.1, ea]
            have hM2 := MF_upf hM1 (h := o) (k := 1) (by omega) (F o 1 + a4.toInt)
            refine Ok.bind (m_paidOf hF2 hM2 hi z1 z2) ?_
            rintro ⟨r2, c2⟩ ⟨q1, q2⟩
            dsimp only at q1 q2 ⊢
            rw [eChk_of (by omega) (by omega) (by omega), eChk_of (by omega) (by omega) (by omega), (hM2.km q2).2.2.2 o ho |>.2.1, upf_s, ← ea, p1, q1]
            refine Ok.ret ⟨rfl, ((m0k m).tr p2).tr ?_⟩
            refine backm (by omega) q2 ?_
            rw [hm1.2.1]
            grind
        · rw [decide_eq_false (fun z => u z.2), if_neg (by simp)]
          by_cases u1 : 1 ≤ a4.toInt
          · rw [if_neg (by rw [iof a4, show (1 : Int32) = Int32.ofInt 1 from rfl, ilt (by omega) (by omega) (by omega) (by omega)]; omega), if_neg (by rw [iof a4, show (9999 : Int32) = Int32.ofInt 9999 from rfl, ← Int32.ofInt_sub, ile (by omega) (by omega) (by omega) (by omega)]; omega)]
            exact Qr.of _ (Ok.ret ⟨rfl, Fr.rfl⟩) (Ok.ret ⟨rfl, m0k m⟩)
          · rw [if_pos (by rw [iof a4, show (1 : Int32) = Int32.ofInt 1 from rfl, ilt (by omega) (by omega) (by omega) (by omega)]; omega)]
            exact Qr.of _ (Ok.ret ⟨rfl, Fr.rfl⟩) (Ok.ret ⟨rfl, m0k m⟩)
      · simp only [decide_eq_false g, decide_eq_false (fun z : (0 ≤ a3.toInt ∧ a3.toInt < n) ∧ 1 ≤ a4.toInt ∧ a4.toInt ≤ 9999 - F a3.toInt.toNat 1 => g z.1), not_true_eq_false, if_false, if_true]
        exact Qr.of _ (Ok.ret ⟨rfl, Fr.rfl⟩) (Ok.ret ⟨rfl, m0k m⟩)
    · simp only [decide_eq_false (fun z : (0 ≤ a1.toInt ∧ a1.toInt < n) ∧ (0 ≤ a2.toInt ∧ a2.toInt ≤ 9999999) => k z.2), decide_eq_true h, decide_eq_false k, Bool.true_eq_false, if_false, if_true]
      exact Qr.of _ (Ok.ret ⟨rfl, Fr.rfl⟩) (Ok.ret ⟨rfl, m0k m⟩)
  · simp only [decide_eq_false (fun z : (0 ≤ a1.toInt ∧ a1.toInt < n) ∧ (0 ≤ a2.toInt ∧ a2.toInt ≤ 9999999) => h z.1), decide_eq_false h, if_true]
    exact Qr.of _ (Ok.ret ⟨rfl, Fr.rfl⟩) (Ok.ret ⟨rfl, m0k m⟩)
end
