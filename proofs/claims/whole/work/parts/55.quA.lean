/-! ===== questions: what the class has poured, what the reference has laid ===== -/
theorem qmr {a b c : Rat} (hc : 0 < c) : (a * c ≤ b * c) ↔ a ≤ b := by rw [← Rat.not_lt, ← Rat.not_lt, Rat.mul_lt_mul_right hc]
def QS : List Nat := [9, 10, 11, 12, 13, 14, 15, 16, 17, 18, 19, 20, 21, 22, 23, 24, 25, 26, 27, 28, 29, 30, 31]
/-- what a question may change of the reference's world -/
def Km (w w' : eW) : Prop := ∀ i k, ¬ (12 ≤ i ∧ i ≤ 20) → ¬ (i = 24 ∧ (k = 0 ∨ (34 ≤ k ∧ k ≤ 50))) → w'.1 i k = w.1 i k ∧ w'.2 i k = w.2 i k
theorem Km.rfl {w : eW} : Km w w := fun _ _ _ _ => ⟨Eq.refl _, Eq.refl _⟩
theorem Km.tr {a b c : eW} (h : Km a b) (k : Km b c) : Km a c := fun i j h1 h2 => ⟨(k i j h1 h2).1.trans (h i j h1 h2).1, (k i j h1 h2).2.trans (h i j h1 h2).2⟩
theorem Km.u1 {w v : eW} {i k : Nat} {x : Int32} (h : Km w v) (hi : (12 ≤ i ∧ i ≤ 20) ∨ (i = 24 ∧ (k = 0 ∨ (34 ≤ k ∧ k ≤ 50)))) : Km w (eU1 v i k x) := fun j l h1 h2 => by
  rw [u1n _ _ _ _ _ _ (by omega), u1l]; exact h j l h1 h2
theorem Km.u2 {w v : eW} {i k : Nat} {x : Int64} (h : Km w v) (hi : (12 ≤ i ∧ i ≤ 20) ∨ (i = 24 ∧ (k = 0 ∨ (34 ≤ k ∧ k ≤ 50)))) : Km w (eU2 v i k x) := fun j l h1 h2 => by
  rw [u2n _ _ _ _ _ _ (by omega), u2l]; exact h j l h1 h2
theorem KL.km {w v : eW} (h : KL w v) : Km w v := fun i k h1 h2 => h i k (by omega) (by omega)
section
variable {n : Nat} {F : Nat → Nat → Int} {wv : Int32} {told : Bool} {set : Int32} {cv : Int}
theorem MF.km {w w' : eW} (h : MF w n F cv wv) (k : Km w w') : MF w' n F cv wv := by
  unfold MF at *
  rw [(k 24 1 (by omega) (by omega)).1, (k 24 2 (by omega) (by omega)).1, (k 24 16 (by omega) (by omega)).1]
  refine ⟨h.1, h.2.1, h.2.2.1, fun j hj => ?_⟩
  have e := h.2.2.2 j hj
  rw [(k 0 j (by omega) (by omega)).1, (k 1 j (by omega) (by omega)).1, (k 2 j (by omega) (by omega)).1]
  refine ⟨e.1, e.2.1, e.2.2.1, fun h2 i h3 h4 => ?_⟩
  rw [(k i j (by omega) (by omega)).1]
  exact e.2.2.2 h2 i h3 h4
noncomputable def XP (n : Nat) (F : Nat → Nat → Int) (wv : Int32) (told : Bool) (set : Int32) (falls : Int) : (Nat → Rat) × Rat := @Classical.epsilon _ ⟨((fun _ => 0), 0)⟩ (fun p => IsF n F wv told set falls p.1 p.2)
noncomputable def XX (n : Nat) (F : Nat → Nat → Int) (wv : Int32) (told : Bool) (set : Int32) (falls : Int) (h : Nat) : Rat := (XP n F wv told set falls).1 h
noncomputable def XL (n : Nat) (F : Nat → Nat → Int) (wv : Int32) (told : Bool) (set : Int32) (falls : Int) : Rat := (XP n F wv told set falls).2
theorem XP_is {falls : Int} {x : Nat → Rat} {lv : Rat} (h : IsF n F wv told set falls x lv) : IsF n F wv told set falls (XX n F wv told set falls) (XL n F wv told set falls) :=
  @Classical.epsilon_spec _ (fun p : (Nat → Rat) × Rat => IsF n F wv told set falls p.1 p.2) ⟨(x, lv), h⟩
theorem XP_eq {falls : Int} {x : Nat → Rat} {lv : Rat} (h : IsF n F wv told set falls x lv) : (∀ k, k < n → x k = XX n F wv told set falls k) ∧ lv = XL n F wv told set falls := IsF_uniq h (XP_is h)
/-- the class has poured -/
def CP (n : Nat) (F : Nat → Nat → Int) (cv : Int) (wv : Int32) (told : Bool) (set : Int32) (falls : Int) (w : eW) : Prop := CF w n F cv wv ∧ Arr n F wv told set w ∧ IsF n F wv told set falls (XX n F wv told set falls) (XL n F wv told set falls) ∧ PV n w (if ap n F wv told set < falls then 150000000 else 5939406000) (XX n F wv told set falls) (XL n F wv told set falls)
theorem PFr.q {w w' : eW} (h : PFr w w') : Fr QS w w' := h.fr.sub (by decide)
theorem CF.q {w w' : eW} (h : CF w n F cv wv) (k : Fr QS w w') : CF w' n F cv wv := h.fr k (by decide) (by decide)
theorem CP_pour (hF : FOK n F cv) {falls : Int} (hb : 0 ≤ falls ∧ falls ≤ 999999900) {w : eW} (hC : CF w n F cv wv) (ha : Arr n F wv told set w) : Ok (f_fa_pour (Int64.ofInt falls) w) fun w' => PFr w w' ∧ CP n F cv wv told set falls w' := by
  refine Ok.imp (fa_pour hF hb ha) ?_
  rintro w' ⟨q1, x, lv, q2, q3⟩
  refine ⟨q1, hC.q q1.q, ha.pfr q1, XP_is q3, ?_⟩
  obtain ⟨e1, e2⟩ := XP_eq q3
  obtain ⟨b, a, la, lb, z1, z2, z3, z4, z5, z6, z7, z8, z9, z10, z11⟩ := q2
  exact ⟨b, a, la, lb, z1, z2, z3, z4, z5, z6, z7, z8, z9, e2 ▸ z10, fun h hh => ⟨(z11 h hh).1, by rw [(z11 h hh).2, e1 h hh]⟩⟩
theorem falls_b (hF : FOK n F cv) {a : Int} (h1 : 0 ≤ a) (h2 : a ≤ 9999999) : 0 ≤ 100 * fallsI cv a ∧ 100 * fallsI cv a ≤ 999999900 := by
  have q := fallsI_b hF.2.1 hF.2.2.1 h1 h2
  omega
theorem x_falls (hF : FOK n F cv) {c : eW} (hC : CF c n F cv wv) {a : Int} (h1 : 0 ≤ a) (h2 : a ≤ 9999999) : f_fi_fallsOf (Int32.ofInt a) c = some (Int32.ofInt (fallsI cv a), c) ∧ ((Int32.ofInt (fallsI cv a)).toInt64) * (100 : Int64) = Int64.ofInt (100 * fallsI cv a) := by
  have q := fallsI_b hF.2.1 hF.2.2.1 h1 h2
  refine ⟨c_fallsOf hF hC h1 h2, ?_⟩
  rw [i2j (by omega) (by omega), jlit100, ← Int64.ofInt_mul, Int.mul_comm]
/-- arranged and poured -/
theorem CP_all (hF : FOK n F cv) {c : eW} (hC : CF c n F cv wv) {a : Int} (h1 : 0 ≤ a) (h2 : a ≤ 9999999) {β : Type} {P : β → Prop} {k : eW → Option β} (hk : ∀ w', Fr QS c w' → w'.2 24 9 = c.2 24 9 → w'.2 23 = c.2 23 → CP n F cv wv told set (100 * fallsI cv a) w' → Ok (k w') P) :
    Ok ((f_fa_arrange (b2i told) set c).bind fun w1 => ((f_fi_fallsOf (Int32.ofInt a) w1).bind fun p2 => ((f_fa_pour (((p2.1).toInt64) * (100 : Int64)) p2.2).bind k))) P := by
  refine Ok.bind (fa_arrange hF hC) ?_
  rintro w1 ⟨f1, e1, ar⟩
  have hC1 := hC.fr f1 (by decide) (by decide)
  obtain ⟨e2, e3⟩ := x_falls hF hC1 h1 h2
  rw [e2, obind]
  dsimp only
  rw [e3]
  refine Ok.bind (CP_pour hF (falls_b hF h1 h2) hC1 ar) ?_
  rintro w2 ⟨f2, cp⟩
  refine hk w2 ((f1.sub (by decide)).tr f2.q) ?_ ?_ cp
  · rw [f2.2 24 9 (by omega) (by omega) (by omega) (by omega) (by omega), e1]
  · rw [(f2.fr 23 (by decide)).2, (f1 23 (by decide)).2]
theorem xx_pour (hF : FOK n F cv) {c : eW} (hC : CF c n F cv wv) {a : Int} (h1 : 0 ≤ a) (h2 : a ≤ 9999999) : Ok (f_xx_pour (Int32.ofInt a) c) fun c' => Fr QS c c' ∧ c'.2 24 9 = c.2 24 9 ∧ c'.2 23 = c.2 23 ∧ CP n F cv wv false 0 (100 * fallsI cv a) c' := by
  unfold f_xx_pour
  exact CP_all (told := false) (set := 0) hF hC h1 h2 fun w' q1 q2 q3 q4 => Ok.ret ⟨q1, q2, q3, q4⟩
/-- what a holder has of what is poured -/
theorem CP.ab (hF : FOK n F cv) {falls : Int} (hb : 0 ≤ falls ∧ falls ≤ 999999900) {w : eW} (h : CP n F cv wv told set falls w) : ∃ (b : Int) (a : Nat → Int), w.2 24 5 = Int64.ofInt b ∧ 1 ≤ b ∧ b ≤ (if ap n F wv told set < falls then 150000000 else 5939406000) ∧ b ≤ 5939406000 ∧ ∀ k, k < n → w.2 22 k = Int64.ofInt (a k) ∧ f_fa_aboveOf (Int32.ofInt (k : Nat)) w = some (Int64.ofInt (a k), w) ∧ (a k : Rat) = XX n F wv told set falls k * (b : Rat) ∧ 0 ≤ a k ∧ a k ≤ 5939405406060000000 ∧ a k ≤ falls * b := by
  have hn := hF.1
  obtain ⟨h0, h1, h2, b, a, la, lb, z1, z2, z3, z4, z5, z6, z7, z8, z9, z10, z11⟩ := h
  have b9 : b ≤ 5939406000 := by split at z3 <;> omega
  refine ⟨b, a, z1, z2, z3, b9, fun k hk => ?_⟩
  obtain ⟨y1, y2⟩ := z11 k hk
  have xb := IsF_b hF hb.1 h2 hk
  have b0 : (0 : Rat) ≤ (b : Rat) := by exact_mod_cast (show 0 ≤ b by omega)
  have a0 : 0 ≤ a k := by
    have : (0 : Rat) ≤ (a k : Rat) := by rw [y2]; exact Rat.mul_nonneg xb.1 b0
    exact_mod_cast this
  have a1 : a k ≤ falls * b := by
    have : (a k : Rat) ≤ ((falls * b : Int) : Rat) := by rw [y2, Rat.intCast_mul]; exact Rat.mul_le_mul_of_nonneg_right xb.2 b0
    exact_mod_cast this
  have a2 := mul_le4 hb.1 hb.2 (show 0 ≤ b by omega) b9
  refine ⟨y1, ?_, y2, a0, by omega, a1⟩
  unfold f_fa_aboveOf
  rw [h1.1.1]
  simp (disch := omega) only [ilit, ilt, ile, eChk_of, icl, nat_i, y1]
  rw [if_neg (by omega), if_neg (by omega)]
theorem CP.lev {falls : Int} {w : eW} (h : CP n F cv wv told set falls w) : ∃ (la lb : Int), w.2 24 6 = Int64.ofInt la ∧ w.2 24 7 = Int64.ofInt lb ∧ 0 ≤ la ∧ la ≤ 10000000000000 ∧ 1 ≤ lb ∧ lb ≤ 150000000 ∧ (la : Rat) = XL n F wv told set falls * (lb : Rat) := by
  obtain ⟨h0, h1, h2, b, a, la, lb, z1, z2, z3, z4, z5, z6, z7, z8, z9, z10, z11⟩ := h
  exact ⟨la, lb, z4, z5, z6, z7, z8, z9, z10⟩
/-! the reference -/
def MP (n : Nat) (F : Nat → Nat → Int) (cv : Int) (wv : Int32) (told : Bool) (set : Int32) (falls : Int) (w : eW) : Prop := MF w n F cv wv ∧ (0 < n → IsF n F wv told set falls (XX n F wv told set falls) (XL n F wv told set falls) ∧ LV n w (XX n F wv told set falls) ∧ (told = false → w.2 24 39 = Int64.ofInt (XL n F wv told set falls).num ∧ w.2 24 40 = Int64.ofInt (((XL n F wv told set falls).den : Nat) : Int)))
theorem MP_lay (hF : FOK n F cv) {falls : Int} (hb : 0 ≤ falls ∧ falls ≤ 999999900) {w : eW} (hM : MT w n F cv wv told set) : Ok (f_mm_lay (Int64.ofInt falls) w) fun w' => KL w w' ∧ MP n F cv wv told set falls w' := by
  refine Ok.imp (m_lay hF hb hM) ?_
  rintro w' ⟨q1, q2⟩
  refine ⟨q2, hM.1.kl q2, fun hn => ?_⟩
  obtain ⟨-, x, lv, i1, ⟨b, a, l1, l2, l3, l4⟩, l5⟩ := q1 hn
  obtain ⟨e1, e2⟩ := XP_eq i1
  exact ⟨XP_is i1, ⟨b, a, l1, l2, l3, fun h hh => ⟨(l4 h hh).1, by rw [(l4 h hh).2.1, e1 h hh], (l4 h hh).2.2⟩⟩, fun ht => e2 ▸ l5 ht⟩
theorem m_layChoice (hF : FOK n F cv) {m : eW} (hM : MF m n F cv wv) {a : Int} (h1 : 0 ≤ a) (h2 : a ≤ 9999999) (set : Int32) : Ok (f_mm_layChoice set (Int32.ofInt a) m) fun m' => Km m m' ∧ MP n F cv wv true set (100 * fallsI cv a) m' := by
  unfold f_mm_layChoice
  have k1 : Km m (eU1 (eU1 m 24 36 1) 24 35 set) := (Km.rfl.u1 (by omega)).u1 (by omega)
  rw [hM.2.1, m_fallsBy hF.2.1 hF.2.2.1 h1 h2, obind]
  have mt : MT (eU1 (eU1 m 24 36 1) 24 35 set) n F cv wv true set := ⟨hM.km k1, by rw [u1n _ _ _ _ _ _ (by omega), u1s]; rfl, by rw [u1s]⟩
  refine Ok.bind (MP_lay hF (falls_b hF h1 h2) mt) ?_
  rintro w' ⟨q1, q2⟩
  exact Ok.ret ⟨k1.tr q1.km, q2⟩
/-- with none told, the set says nothing -/
theorem tnd_false (s : Int32) (h : Nat) : tnd false s F h = false := rfl
theorem fst_false (s t : Int32) : fst_ false s F wv = fst_ false t F wv := by
  funext h
  unfold fst_
  simp only [tnd_false, Bool.false_eq_true, if_false]
theorem prefs_false (s t : Int32) : prefs F wv false s = prefs F wv false t := by
  funext h
  unfold prefs
  rw [fst_false s t]
theorem rp_false (s t : Int32) (r : Nat) : rp n F wv false s r = rp n F wv false t r := by
  unfold rp
  rw [prefs_false s t]
theorem bf_false (s t : Int32) : ∀ r : Nat, bf n F wv false s r = bf n F wv false t r
  | 0 => rfl
  | r + 1 => by simp only [bf]; rw [bf_false s t r, rp_false s t]
theorem ap_false (s t : Int32) : ap n F wv false s = ap n F wv false t := by
  unfold ap
  rw [prefs_false s t]
theorem rx_false (s t : Int32) (falls : Int) (h : Nat) : rx n F wv false s falls h = rx n F wv false t falls h := by
  unfold rx
  rw [bf_false s t, bf_false s t, rp_false s t, prefs_false s t]
theorem vl_false (s t : Int32) (h : Nat) (v : Rat) : vl F wv false s h v = vl F wv false t h v := by
  unfold vl ps
  simp only [tnd_false, Bool.false_eq_true, if_false]
theorem tt_false (s t : Int32) (v : Rat) : tt n F wv false s v = tt n F wv false t v := by
  unfold tt
  simp only [vl_false s t]
theorem IsF_false (s t : Int32) {falls : Int} {x : Nat → Rat} {lv : Rat} : IsF n F wv false s falls x lv = IsF n F wv false t falls x lv := by
  unfold IsF
  simp only [ap_false s t, rx_false s t, vl_false s t, tt_false s t]
theorem XP_false (s t : Int32) {falls : Int} : XP n F wv false s falls = XP n F wv false t falls := by
  unfold XP
  simp only [IsF_false s t]
theorem XX_false (s t : Int32) {falls : Int} : XX n F wv false s falls = XX n F wv false t falls := by
  funext h
  unfold XX
  rw [XP_false s t]
theorem XL_false (s t : Int32) {falls : Int} : XL n F wv false s falls = XL n F wv false t falls := by
  unfold XL
  rw [XP_false s t]
theorem MP_false (s t : Int32) {falls : Int} {w : eW} : MP n F cv wv false s falls w = MP n F cv wv false t falls w := by
  unfold MP
  rw [IsF_false s t, XX_false s t, XL_false s t]
theorem m_layBy (hF : FOK n F cv) {m : eW} (hM : MF m n F cv wv) {a : Int} (h1 : 0 ≤ a) (h2 : a ≤ 9999999) : Ok (f_mm_layBy (Int32.ofInt a) m) fun m' => Km m m' ∧ m'.1 24 36 = 0 ∧ m'.2 24 43 = m.2 24 43 ∧ m'.2 24 44 = m.2 24 44 ∧ MP n F cv wv false 0 (100 * fallsI cv a) m' := by
  unfold f_mm_layBy
  have k1 : Km m (eU1 m 24 36 0) := Km.rfl.u1 (by omega)
  rw [hM.2.1, m_fallsBy hF.2.1 hF.2.2.1 h1 h2, obind]
  have mt : MT (eU1 m 24 36 0) n F cv wv false (m.1 24 35) := ⟨hM.km k1, by rw [u1s]; rfl, by rw [u1n _ _ _ _ _ _ (by omega)]⟩
  refine Ok.bind (MP_lay hF (falls_b hF h1 h2) mt) ?_
  rintro w' ⟨q1, q2⟩
  refine Ok.ret ⟨k1.tr q1.km, by rw [(mt.kl q1).2.1]; rfl, by rw [(q1 24 43 (by omega) (by omega)).2]; rfl, by rw [(q1 24 44 (by omega) (by omega)).2]; rfl, by rw [MP_false 0 (m.1 24 35)]; exact q2⟩
theorem MP.ab {falls : Int} {w : eW} (h : MP n F cv wv told set falls w) (hn : 0 < n) : ∃ (b : Int) (a : Nat → Int), w.2 24 38 = Int64.ofInt b ∧ 1 ≤ b ∧ b ≤ 15000000000 ∧ ∀ h, h < n → w.2 16 h = Int64.ofInt (a h) ∧ (a h : Rat) = XX n F wv told set falls h * (b : Rat) ∧ 0 ≤ a h ∧ a h < 9223372036854775807 := (h.2 hn).2.1
theorem m_lowest {falls : Int} {w : eW} (hn : n ≤ 12) (h : MP n F cv wv told set falls w) {k : Nat} (hk : k < n) (l : Bool) : f_mm_lowest (Int32.ofInt (k : Nat)) (b2i l) w = some (if l then Int64.ofInt (((XX n F wv told set falls k).den : Nat) : Int) else Int64.ofInt (XX n F wv told set falls k).num, w) := by
  obtain ⟨b, a, e1, e2, e3, e4⟩ := h.ab (by omega)
  obtain ⟨y1, y2, y3, y4⟩ := e4 k hk
  have q := q_low y3 (show 0 < b by omega) y2
  unfold f_mm_lowest
  rw [eChk_of (by omega) (by omega) (by omega), icl (by omega) (by omega), nat_i, y1, e1, m_common y3 (by omega) (by omega) (by omega), obind]
  dsimp only
  simp only [b2i_0]
  have gp : ¬ (Int64.ofInt ((Int.gcd (a k) b : Nat) : Int) = 0) := by
    rw [jlit0, jeq (by omega) (by omega) (by omega) (by omega)]; omega
  rw [eChk_of (by omega) (by omega) (by omega), if_neg gp, if_neg gp, y1, e1, jdiv (by omega) (by omega) (by omega) (by omega), jdiv (by omega) (by omega) (by omega) (by omega), q.1, q.2.1]
  cases l <;> simp
end
/-! ===== both answer alike ===== -/
def Qr {α : Type} (x y : Option (α × eW)) (c m : eW) : Prop := ∃ r c' m', x = some (r, c') ∧ y = some (r, m') ∧ Fr QS c c' ∧ Km m m'
theorem Qr.of {α : Type} {x y : Option (α × eW)} {c m : eW} (R : α) (h1 : Ok x fun p => p.1 = R ∧ Fr QS c p.2) (h2 : Ok y fun p => p.1 = R ∧ Km m p.2) : Qr x y c m := by
  obtain ⟨⟨r, c'⟩, e1, e2, e3⟩ := h1
  obtain ⟨⟨s, m'⟩, d1, d2, d3⟩ := h2
  dsimp only at e2 d2
  subst e2
  subst d2
  exact ⟨_, c', m', e1, d1, e3, d3⟩
section
variable {n : Nat} {F : Nat → Nat → Int} {wv : Int32} {told : Bool} {set : Int32} {cv : Int} {c m : eW}
theorem hold_of {a : Int32} (h : 0 ≤ a.toInt ∧ a.toInt < n) : ∃ k : Nat, k < n ∧ a = Int32.ofInt (k : Nat) := ⟨a.toInt.toNat, by omega, by rw [Int.toNat_of_nonneg h.1]; exact iof a⟩
theorem amt_of {a : Int32} {z y : Int} (h : z ≤ a.toInt ∧ a.toInt ≤ y) : ∃ k : Int, z ≤ k ∧ k ≤ y ∧ a = Int32.ofInt k := ⟨a.toInt, h.1, h.2, iof a⟩
theorem m0k (m : eW) : Km m (eU1 m 24 0 0) := Km.rfl.u1 (by omega)
theorem x_isAB (a : Int32) (c : eW) : f_xx_isAboveOrBelow a c = some (b2i (decide (a = 0 ∨ a = 1)), c) := by
  unfold f_xx_isAboveOrBelow
  by_cases h : a = 0
  · simp [h, b2i]
  · by_cases k : a = 1
    · simp [k, b2i]
    · simp [h, k, b2i]
theorem m_in01 (a : Int32) (m : eW) : f_mm_in a 0 1 m = some (b2i (decide (a = 0 ∨ a = 1)), m) := by
  rw [m_in]
  have e : (decide ((0 : Int32).toInt ≤ a.toInt ∧ a.toInt ≤ (1 : Int32).toInt)) = decide (a = 0 ∨ a = 1) := by
    apply decide_eq_decide.mpr
    rw [← Int32.toInt_inj, ← Int32.toInt_inj]
    have e0 : (0 : Int32).toInt = 0 := rfl
    have e1 : (1 : Int32).toInt = 1 := rfl
    rw [e0, e1]
    omega
  rw [e]
theorem x_isAsked (hF : FOK n F cv) (hC : CF c n F cv wv) (a b : Int32) : f_xx_isAsked a b c = some (b2i (decide ((0 ≤ a.toInt ∧ a.toInt < n) ∧ (0 ≤ b.toInt ∧ b.toInt ≤ 9999999))), c) := by
  unfold f_xx_isAsked
  rw [c_isHolder hF hC, obind]
  dsimp only
  simp only [b2i_0]
  by_cases h : 0 ≤ a.toInt ∧ a.toInt < n
  · rw [if_neg (by simp [h]), x_isAmount, obind]
    dsimp only
    simp only [b2i_0]
    by_cases k : 0 ≤ b.toInt ∧ b.toInt ≤ 9999999
    · rw [if_neg (by simp [k])]; simp [h, k, b2i]
    · rw [if_pos (by simpa using k), decide_eq_false (fun z => k z.2)]; rfl
  · rw [if_pos (by simpa using h), decide_eq_false (fun z => h z.1)]; rfl
theorem x_isUnits (b : Int32) (c : eW) : f_xx_isUnits b c = some (b2i (decide (1 ≤ b.toInt ∧ b.toInt ≤ 9999999)), c) := by
  have r := irange b
  unfold f_xx_isUnits
  rw [iof b]
  simp (disch := omega) only [ilit, ilt]
  rw [← iof b]
  by_cases h1 : b.toInt < (1 : Nat)
  · rw [if_pos h1, decide_eq_false (by omega)]; rfl
  · rw [if_neg h1]
    by_cases h2 : ((9999999 : Nat) : Int) < b.toInt
    · rw [if_pos h2, decide_eq_false (by omega)]; rfl
    · rw [if_neg h2, decide_eq_true (by omega)]; rfl
/-- the fraction in lowest terms -/
noncomputable def ND (x : Rat) (a : Int32) : Int64 := if a = 0 then Int64.ofInt x.num else Int64.ofInt ((x.den : Nat) : Int)
theorem CP.low (hF : FOK n F cv) {falls : Int} (hb : 0 ≤ falls ∧ falls ≤ 999999900) {w : eW} (h : CP n F cv wv told set falls w) {k : Nat} (hk : k < n) (a : Int32) : ((f_fa_aboveOf (Int32.ofInt (k : Nat)) w).bind fun p4 => ((f_nu_lowest p4.1 (p4.2.2 24 5) a p4.2).bind fun p5 => (some (p5.1, p5.2)))) = some (ND (XX n F wv told set falls k) a, w) := by
  obtain ⟨b, x, e1, e2, e3, e4, e5⟩ := h.ab hF hb
  obtain ⟨y1, y2, y3, y4, y5, y6⟩ := e5 k hk
  rw [y2, obind]
  dsimp only
  rw [e1, nu_lowest y4 (by omega) (by omega) (by omega) y3, obind]
  rfl
theorem MP.low {falls : Int} {w : eW} (hn : n ≤ 12) (h : MP n F cv wv told set falls w) {k : Nat} (hk : k < n) {a : Int32} (ha : a = 0 ∨ a = 1) : (if ¬ a = (1 : Int32) then ((f_mm_lowest (Int32.ofInt (k : Nat)) (0 : Int32) w).bind fun p5 => (some (p5.1, p5.2))) else ((f_mm_lowest (Int32.ofInt (k : Nat)) (1 : Int32) w).bind fun p6 => (some (p6.1, p6.2)))) = some (ND (XX n F wv told set falls k) a, w) := by
  have e0 := m_lowest hn h hk false
  have e1 := m_lowest hn h hk true
  rcases ha with rfl | rfl
  · rw [if_pos (by decide), show (0 : Int32) = b2i false from rfl, e0, obind]
    rfl
  · rw [if_neg (by decide), show (1 : Int32) = b2i true from rfl, e1, obind]
    rfl
theorem q_has (hF : FOK n F cv) (hC : CF c n F cv wv) (hM : MF m n F cv wv) (a1 a2 a3 : Int32) : Qr (f_xx_has a1 a2 a3 c) (f_mm_has a1 a2 a3 m) c m := by
  have hM0 := hM.km (m0k m)
  unfold f_xx_has f_mm_has
  rw [x_isAsked hF hC, obind, m_isHolder hF hM0, obind]
  dsimp only
  simp only [b2i_0]
  by_cases h : 0 ≤ a1.toInt ∧ a1.toInt < n
  · by_cases k : 0 ≤ a2.toInt ∧ a2.toInt ≤ 9999999
    · rw [if_neg (by simp [h, k]), if_neg (by simp [h]), x_isAB, obind, m_isAmount, obind]
      dsimp only
      simp only [b2i_0]
      rw [if_neg (by simp [k] : ¬ (decide (0 ≤ a2.toInt ∧ a2.toInt ≤ 9999999) = false)), m_in01, obind]
      dsimp only
      simp only [b2i_0]
      by_cases j : a3 = 0 ∨ a3 = 1
      · rw [if_pos (by simp [j]), if_pos (by simp [j])]
        obtain ⟨h1, hh, rfl⟩ := hold_of h
        obtain ⟨z, z1, z2, rfl⟩ := amt_of k
        refine Qr.of (ND (XX n F wv false 0 (100 * fallsI cv z) h1) a3) ?_ ?_
        · refine Ok.bind (xx_pour hF hC z1 z2) ?_
          rintro c' ⟨q1, -, -, q4⟩
          rw [q4.low hF (falls_b hF z1 z2) hh]
          exact Ok.ret ⟨rfl, q1⟩
        · refine Ok.bind (m_layBy hF hM0 z1 z2) ?_
          rintro m' ⟨q1, -, -, -, q4⟩
          rw [q4.low hF.1 hh j]
          exact Ok.ret ⟨rfl, (m0k m).tr q1⟩
      · rw [if_neg (by simpa using j), if_neg (by simpa using j)]
        exact Qr.of _ (Ok.ret ⟨rfl, Fr.rfl⟩) (Ok.ret ⟨rfl, m0k m⟩)
    · rw [if_pos (decide_eq_false fun z => k z.2), if_neg (by simp [h]), m_isAmount, obind]
      dsimp only
      simp only [b2i_0]
      rw [if_pos (by simpa using k)]
      exact Qr.of _ (Ok.ret ⟨rfl, Fr.rfl⟩) (Ok.ret ⟨rfl, m0k m⟩)
  · rw [if_pos (decide_eq_false fun z => h z.1), if_pos (by simpa using h)]
    exact Qr.of _ (Ok.ret ⟨rfl, Fr.rfl⟩) (Ok.ret ⟨rfl, m0k m⟩)
theorem q_chosen (hF : FOK n F cv) (hC : CF c n F cv wv) (hM : MF m n F cv wv) (a0 a1 a2 a3 : Int32) : Qr (f_xx_chosen a0 a1 a2 a3 c) (f_mm_chosen a0 a1 a2 a3 m) c m := by
  have hM0 := hM.km (m0k m)
  unfold f_xx_chosen f_mm_chosen
  rw [x_isAsked hF hC, obind, m_isHolder hF hM0, obind]
  dsimp only
  simp only [b2i_0]
  by_cases h : 0 ≤ a1.toInt ∧ a1.toInt < n
  · by_cases k : 0 ≤ a2.toInt ∧ a2.toInt ≤ 9999999
    · rw [if_neg (by simp [h, k]), if_neg (by simp [h]), x_isAB, obind, m_isAmount, obind]
      dsimp only
      simp only [b2i_0]
      rw [if_neg (by simp [k] : ¬ (decide (0 ≤ a2.toInt ∧ a2.toInt ≤ 9999999) = false)), m_in01, obind]
      dsimp only
      simp only [b2i_0]
      by_cases j : a3 = 0 ∨ a3 = 1
      · rw [if_pos (by simp [j]), if_pos (by simp [j])]
        obtain ⟨h1, hh, rfl⟩ := hold_of h
        obtain ⟨z, z1, z2, rfl⟩ := amt_of k
        refine Qr.of (ND (XX n F wv true a0 (100 * fallsI cv z) h1) a3) ?_ ?_
        · refine CP_all (told := true) (set := a0) hF hC z1 z2 ?_
          intro c' q1 _ _ q4
          rw [q4.low hF (falls_b hF z1 z2) hh]
          exact Ok.ret ⟨rfl, q1⟩
        · refine Ok.bind (m_layChoice hF hM0 z1 z2 a0) ?_
          rintro m' ⟨q1, q4⟩
          rw [q4.low hF.1 hh j]
          exact Ok.ret ⟨rfl, (m0k m).tr q1⟩
      · rw [if_neg (by simpa using j), if_neg (by simpa using j)]
        exact Qr.of _ (Ok.ret ⟨rfl, Fr.rfl⟩) (Ok.ret ⟨rfl, m0k m⟩)
    · rw [if_pos (decide_eq_false fun z => k z.2), if_neg (by simp [h]), m_isAmount, obind]
      dsimp only
      simp only [b2i_0]
      rw [if_pos (by simpa using k)]
      exact Qr.of _ (Ok.ret ⟨rfl, Fr.rfl⟩) (Ok.ret ⟨rfl, m0k m⟩)
  · rw [if_pos (decide_eq_false fun z => h z.1), if_pos (by simpa using h)]
    exact Qr.of _ (Ok.ret ⟨rfl, Fr.rfl⟩) (Ok.ret ⟨rfl, m0k m⟩)
theorem n_0 {n : Nat} (hn : n ≤ 12) : (Int32.ofInt (n : Nat) = 0) ↔ n = 0 := by
  rw [show (0 : Int32) = Int32.ofInt 0 from rfl, ieq (by omega) (by omega) (by omega) (by omega)]; omega
theorem q_level (hF : FOK n F cv) (hC : CF c n F cv wv) (hM : MF m n F cv wv) (a2 a3 : Int32) : Qr (f_xx_level a2 a3 c) (f_mm_level a2 a3 m) c m := by
  have hM0 := hM.km (m0k m)
  unfold f_xx_level f_mm_level
  rw [x_isAmount, obind, m_isAmount, obind]
  dsimp only
  simp only [b2i_0]
  by_cases k : 0 ≤ a2.toInt ∧ a2.toInt ≤ 9999999
  · rw [if_neg (by simp [k]), if_neg (by simp [k]), x_isAB, obind, m_in01, obind]
    dsimp only
    simp only [b2i_0]
    by_cases j : a3 = 0 ∨ a3 = 1
    · rw [if_neg (by simp [j] : ¬ (decide (a3 = 0 ∨ a3 = 1) = false)), if_neg (by simp [j] : ¬ (decide (a3 = 0 ∨ a3 = 1) = false)), hC.1, hM0.1]
      by_cases e : n = 0
      · rw [if_neg (fun z => z ((n_0 hF.1).mpr e)), if_neg (fun z => z ((n_0 hF.1).mpr e))]
        exact Qr.of _ (Ok.ret ⟨rfl, Fr.rfl⟩) (Ok.ret ⟨rfl, m0k m⟩)
      · rw [if_pos (fun z => e ((n_0 hF.1).mp z)), if_pos (fun z => e ((n_0 hF.1).mp z))]
        obtain ⟨z, z1, z2, rfl⟩ := amt_of k
        refine Qr.of (ND (XL n F wv false 0 (100 * fallsI cv z)) a3) ?_ ?_
        · refine Ok.bind (xx_pour hF hC z1 z2) ?_
          rintro c' ⟨q1, -, -, q4⟩
          obtain ⟨la, lb, l1, l2, l3, l4, l5, l6, l7⟩ := q4.lev
          rw [l1, l2, nu_lowest l3 (by omega) (by omega) (by omega) l7, obind]
          exact Ok.ret ⟨rfl, q1⟩
        · refine Ok.bind (m_layBy hF hM0 z1 z2) ?_
          rintro m' ⟨q1, -, -, -, q4⟩
          obtain ⟨e1, e2⟩ := (q4.2 (by omega)).2.2 rfl
          rw [e1, e2]
          rcases j with rfl | rfl
          · rw [if_neg (by decide)]; exact Ok.ret ⟨rfl, (m0k m).tr q1⟩
          · rw [if_pos (by decide)]; exact Ok.ret ⟨rfl, (m0k m).tr q1⟩
    · rw [if_pos (by simpa using j), if_pos (by simpa using j)]
      exact Qr.of _ (Ok.ret ⟨rfl, Fr.rfl⟩) (Ok.ret ⟨rfl, m0k m⟩)
  · rw [if_pos (by simpa using k), if_pos (by simpa using k)]
    exact Qr.of _ (Ok.ret ⟨rfl, Fr.rfl⟩) (Ok.ret ⟨rfl, m0k m⟩)
end
