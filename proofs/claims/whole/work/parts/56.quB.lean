section
variable {n : Nat} {F : Nat → Nat → Int} {wv : Int32} {told : Bool} {set : Int32} {cv : Int} {c m : eW}
theorem lvr_lt {la lb A r : Int} {l : Rat} (hb : 0 < lb) (h : (la : Rat) = l * (lb : Rat)) : (A * lb < la * r) ↔ ((A : Rat) < l * (r : Rat)) := by
  have b0 : (0 : Rat) < (lb : Rat) := by exact_mod_cast hb
  have e : ((la * r : Int) : Rat) = l * (r : Rat) * (lb : Rat) := by rw [Rat.intCast_mul, h]; grind
  have e2 : ((A * lb : Int) : Rat) = (A : Rat) * (lb : Rat) := Rat.intCast_mul _ _
  rw [← Rat.intCast_lt_intCast, e, e2]
  exact Rat.mul_lt_mul_right b0
theorem lvr_le {la lb A r : Int} {l : Rat} (hb : 0 < lb) (h : (la : Rat) = l * (lb : Rat)) : (A * lb ≤ la * r) ↔ ((A : Rat) ≤ l * (r : Rat)) := by
  have b0 : (0 : Rat) < (lb : Rat) := by exact_mod_cast hb
  have e : ((la * r : Int) : Rat) = l * (r : Rat) * (lb : Rat) := by rw [Rat.intCast_mul, h]; grind
  have e2 : ((A * lb : Int) : Rat) = (A : Rat) * (lb : Rat) := Rat.intCast_mul _ _
  rw [← Rat.intCast_le_intCast, e, e2]
  exact qmr b0
theorem xz {a b : Int} {x : Rat} (hb : 0 < b) (h : (a : Rat) = x * (b : Rat)) : a = 0 ↔ x = 0 := by
  have b0 : (0 : Rat) < (b : Rat) := by exact_mod_cast hb
  constructor
  · intro z
    rw [z] at h
    have : x * (b : Rat) = 0 := by rw [← h]; rfl
    rcases Rat.mul_eq_zero.mp this with q | q
    · exact q
    · grind
  · intro z
    rw [z, Rat.zero_mul] at h
    exact_mod_cast h
noncomputable def RSt (F : Nat → Nat → Int) (wv : Int32) (h : Nat) (x l : Rat) : Int32 := if x = 0 then 0 else if F h 0 ≠ 2 then 4 else if l = 0 then 1 else if canT F h = false then 2 else if ((lid F wv h * 100 : Int) : Rat) < l * (F h 5 : Rat) then 4 else if lid F wv h = pref F wv h then 1 else if (((lid F wv h - pref F wv h) * 100 : Int) : Rat) ≤ l * (F h 5 : Rat) then 3 else 2
theorem x_stateOf (hF : FOK n F cv) {falls : Int} (hb : 0 ≤ falls ∧ falls ≤ 999999900) {w : eW} (h : CP n F cv wv told set falls w) {k : Nat} (hk : k < n) : f_fa_stateOf (Int32.ofInt (k : Nat)) w = some (RSt F wv k (XX n F wv told set falls k) (XL n F wv told set falls), w) := by
  have hf := hF.hd hk
  have hC := h.1
  obtain ⟨b, x, e1, e2, e3, e4, e5⟩ := h.ab hF hb
  obtain ⟨y1, y2, y3, y4, y5, y6⟩ := e5 k hk
  obtain ⟨la, lb, l1, l2, l3, l4, l5, l6, l7⟩ := h.lev
  unfold f_fa_stateOf RSt
  rw [y2, obind]
  dsimp only
  simp only [lg_cmp_eq, lg_cmp_le, lg_cmp_lt, jlit0]
  simp (disch := omega) only [jeq]
  by_cases c1 : x k = 0
  · rw [if_neg (fun z => z c1), if_pos ((xz (by omega) y3).mp c1)]
  rw [if_pos c1, if_neg (fun z => c1 ((xz (by omega) y3).mpr z)), c_isClass hF hC hk, obind]
  dsimp only
  simp only [b2i_0]
  by_cases c2 : F k 0 = 2
  · rw [if_pos (by simp [c2]), if_neg (fun z => z c2 : ¬ (F k 0 ≠ 2)), l1]
    simp (disch := omega) only [jeq]
    by_cases c3 : la = 0
    · rw [if_neg (fun z => z c3), if_pos ((xz (by omega) l7).mp c3)]
    rw [if_pos c3, if_neg (fun z => c3 ((xz (by omega) l7).mpr z)), c_canTurn hF hC hk, obind]
    dsimp only
    simp only [b2i_0]
    by_cases c4 : canT F k = false
    · rw [if_neg (fun z => z c4), if_pos c4]
    rw [if_pos c4, if_neg c4]
    have ct : canT F k = true := by simpa using c4
    have pb := pref_b (wv := wv) hF hk
    have lbd := lid_b (wv := wv) hF hk ct
    rw [show (5 : Int32) = Int32.ofInt (5 : Nat) from rfl, c_fact hF hC hk (by omega), obind]
    dsimp only
    rw [c_prefOf hF hC hk, obind]
    dsimp only
    rw [c_lidOf hF hC hk ct, obind]
    dsimp only
    rw [l1, l2, i2j (by omega) (by omega), i2j (by omega) (by omega), i2j (by omega) (by omega)]
    have p1 := mul_le4 (a := la) (b := F k 5) (A := 10000000000000) (B := 400) (by omega) (by omega) (by omega) (by omega)
    have p2 := mul_le4 (a := lid F wv k) (b := lb * 100) (A := 198000) (B := 15000000000) (by omega) (by omega) (by omega) (by omega)
    have p3 := mul_le4 (a := pref F wv k) (b := lb * 100) (A := 99000) (B := 15000000000) (by omega) (by omega) (by omega) (by omega)
    simp only [jlit100, ← Int64.ofInt_mul, ← Int64.ofInt_add]
    simp (disch := omega) only [jle, jlt, jeq]
    have t1 := lvr_lt (A := lid F wv k * 100) (r := F k 5) (by omega) l7
    have t2 := lvr_le (A := (lid F wv k - pref F wv k) * 100) (r := F k 5) (by omega) l7
    have t3 : lid F wv k * (lb * 100) = lid F wv k * 100 * lb := by grind
    have t4 : pref F wv k * (lb * 100) = pref F wv k * 100 * lb := by grind
    have t5 : (lid F wv k - pref F wv k) * 100 * lb = lid F wv k * 100 * lb - pref F wv k * 100 * lb := by grind
    rw [t3, t4]
    by_cases d1 : lid F wv k * 100 * lb < la * F k 5
    · rw [if_neg (by omega), if_pos (t1.mp d1)]
    rw [if_pos (by omega), if_neg (fun z => d1 (t1.mpr z))]
    by_cases d2 : lid F wv k = pref F wv k
    · rw [if_neg (by rw [d2]; exact fun z => z rfl), if_pos d2]
    have d2' : ¬ (lid F wv k * 100 * lb = pref F wv k * 100 * lb) := by
      intro z
      have := Int.eq_of_mul_eq_mul_right (by omega) z
      omega
    rw [if_pos d2', if_neg d2]
    by_cases d3 : (lid F wv k - pref F wv k) * 100 * lb ≤ la * F k 5
    · rw [if_neg (by omega), if_pos (t2.mp d3)]
    · rw [if_pos (by omega), if_neg (fun z => d3 (t2.mpr z))]
  · rw [if_neg (by simp [c2]), if_pos c2]
theorem CP.xlb (hF : FOK n F cv) {falls : Int} {w : eW} (h : CP n F cv wv told set falls w) : 0 ≤ (XL n F wv told set falls).num ∧ (XL n F wv told set falls).num ≤ 10000000000000 ∧ 1 ≤ (((XL n F wv told set falls).den : Nat) : Int) ∧ (((XL n F wv told set falls).den : Nat) : Int) ≤ 150000000 := by
  obtain ⟨la, lb, l1, l2, l3, l4, l5, l6, l7⟩ := h.lev
  have q := q_low l3 (show 0 < lb by omega) l7
  have g1 := q.2.2.1
  refine ⟨?_, ?_, ?_, ?_⟩
  · rw [← q.1]; exact Int.ediv_nonneg l3 (by omega)
  · rw [← q.1]; exact Int.le_trans (Int.ediv_le_self _ l3) l4
  · have := (XL n F wv told set falls).den_pos; omega
  · rw [← q.2.1]; exact Int.le_trans (Int.ediv_le_self _ (by omega)) l6
theorem m_stateOf (hF : FOK n F cv) {falls : Int} {w : eW} (h : MP n F cv wv false set falls w) (hl : 0 ≤ (XL n F wv false set falls).num ∧ (XL n F wv false set falls).num ≤ 10000000000000 ∧ 1 ≤ (((XL n F wv false set falls).den : Nat) : Int) ∧ (((XL n F wv false set falls).den : Nat) : Int) ≤ 150000000) {k : Nat} (hk : k < n) : f_mm_stateOf (Int32.ofInt (k : Nat)) w = some (RSt F wv k (XX n F wv false set falls k) (XL n F wv false set falls), w) := by
  have hn := hF.1
  have hf := hF.hd hk
  have hM := h.1
  have hm := hM.2.2.2 k hk
  obtain ⟨b, x, e1, e2, e3, e5⟩ := h.ab (by omega)
  obtain ⟨y1, y3, y4, y5⟩ := e5 k hk
  obtain ⟨l1, l2⟩ := (h.2 (by omega)).2.2 rfl
  generalize XL n F wv false set falls = l at *
  have l7 : (l.num : Rat) = l * ((l.den : Int) : Rat) := by rw [← q_nd l]; rfl
  unfold f_mm_stateOf RSt
  rw [eChk_of (by omega) (by omega) (by omega), icl (by omega) (by omega), nat_i, y1, l1, l2]
  generalize l.num = la at *
  generalize ((l.den : Nat) : Int) = lb at *
  simp only [lg_cmp_eq, lg_cmp_le, lg_cmp_lt, jlit0]
  simp (disch := omega) only [jeq]
  by_cases c1 : x k = 0
  · rw [if_neg (fun z => z c1), if_pos ((xz (by omega) y3).mp c1)]
  rw [if_pos c1, if_neg (fun z => c1 ((xz (by omega) y3).mpr z)), eChk_of (by omega) (by omega) (by omega), hm.1]
  by_cases c2' : ¬ F k 0 = 2
  · rw [if_neg (by simp (disch := omega) only [ilit, ieq]; omega), if_pos c2']
  have c2 : F k 0 = 2 := by omega
  rw [if_pos (by rw [c2]; rfl), if_neg (fun z => z c2 : ¬ (F k 0 ≠ 2)), eChk_of (by omega) (by omega) (by omega), eChk_of (by omega) (by omega) (by omega), hm.2.2.2 c2 6 (by omega) (by omega), hm.2.2.2 c2 5 (by omega) (by omega), hm.2.2.2 c2 7 (by omega) (by omega), i2j (by omega) (by omega)]
  have p1 := mul_le4 (a := la) (b := F k 5) (A := 10000000000000) (B := 400) (by omega) (by omega) (by omega) (by omega)
  have pb := pref_b (wv := wv) hF hk
  have by0 : la * F k 5 = 0 ↔ la = 0 := by rw [Int.mul_eq_zero]; omega
  have t1 := lvr_lt (A := lid F wv k * 100) (r := F k 5) (by omega) l7
  have t2 := lvr_le (A := (lid F wv k - pref F wv k) * 100) (r := F k 5) (by omega) l7
  have p3 := mul_le4 (a := pref F wv k) (b := 100 * lb) (A := 99000) (B := 15000000000) (by omega) (by omega) (by omega) (by omega)
  simp only [jlit100, ← Int64.ofInt_mul]
  by_cases c6 : F k 6 = 0
  · rw [if_neg (by rw [c6]; exact fun z => z rfl), m_prefOf hF hM hk, obind]
    dsimp only
    have ct : canT F k = true := by simp [canT, c2, c6]
    have lp : lid F wv k = pref F wv k := by simp [lid, c6]
    rw [if_neg (show ¬ canT F k = false by simp [ct]), i2j (by omega) (by omega)]
    simp only [← Int64.ofInt_mul]
    simp (disch := omega) only [jle]
    rw [lp] at t1
    have t3 : pref F wv k * (100 * lb) = pref F wv k * 100 * lb := by grind
    by_cases c3 : la = 0
    · rw [if_pos ((xz (by omega) l7).mp c3), if_pos (by rw [c3, Int.zero_mul]; exact p3.1)]
    · rw [if_neg (fun z => c3 ((xz (by omega) l7).mpr z)), lp, t3, if_pos (rfl : pref F wv k = pref F wv k)]
      by_cases d1 : pref F wv k * 100 * lb < la * F k 5
      · rw [if_neg (by omega), if_pos (t1.mp d1)]
      · rw [if_pos (by omega), if_neg (fun z => d1 (t1.mpr z))]
  · rw [if_pos (by simp (disch := omega) only [ilit, ieq]; omega)]
    simp (disch := omega) only [jeq, by0]
    by_cases c3 : la = 0
    · rw [if_pos c3, if_pos ((xz (by omega) l7).mp c3), if_neg (fun z => z c3)]
    rw [if_neg c3, if_neg (fun z => c3 ((xz (by omega) l7).mpr z)), eChk_of (by omega) (by omega) (by omega), if_pos c3]
    by_cases c7 : F k 7 = -1
    · rw [if_neg (by rw [c7]; decide), if_pos (show canT F k = false by simp [canT, c6, c7])]
    have ct : canT F k = true := by simp [canT, c2, c7]
    have lp : lid F wv k = top F wv k := by simp [lid, c6]
    have lbd := lid_b (wv := wv) hF hk ct
    have p2 := mul_le4 (a := lid F wv k) (b := 100 * lb) (A := 198000) (B := 15000000000) (by omega) (by omega) (by omega) (by omega)
    have p4 := mul_le4 (a := lid F wv k - pref F wv k) (b := 100 * lb) (A := 198000) (B := 15000000000) (by omega) (by omega) (by omega) (by omega)
    have t3 : lid F wv k * (100 * lb) = lid F wv k * 100 * lb := by grind
    have t4 : (lid F wv k - pref F wv k) * (100 * lb) = (lid F wv k - pref F wv k) * 100 * lb := by grind
    rw [if_pos (by rw [show (0 : Int32) = Int32.ofInt 0 from rfl, ile (by omega) (by omega) (by omega) (by omega)]; omega), if_neg (show ¬ canT F k = false by simp [ct])]
    have tp := m_topOf hF hM hk c2 c7
    have pp := m_prefOf hF hM hk
    rw [← lp] at tp
    simp only [tp, pp, obind]
    rw [← Int32.ofInt_sub, i2j (by omega) (by omega), i2j (by omega) (by omega)]
    simp only [← Int64.ofInt_mul]
    simp (disch := omega) only [jle, jlt, ile]
    rw [t3, t4]
    by_cases d1 : lid F wv k * 100 * lb < la * F k 5
    · rw [if_neg (by omega), if_pos (t1.mp d1)]
    rw [if_pos (by omega), if_neg (fun z => d1 (t1.mpr z))]
    by_cases d2 : lid F wv k = pref F wv k
    · rw [if_pos d2, if_neg (show ¬ (la * F k 5 < (lid F wv k - pref F wv k) * 100 * lb) by rw [d2, Int.sub_self]; omega), if_pos (by omega)]
    rw [if_neg d2, if_neg (show ¬ (lid F wv k ≤ pref F wv k) by omega)]
    by_cases d3 : (lid F wv k - pref F wv k) * 100 * lb ≤ la * F k 5
    · rw [if_neg (by omega), if_pos (t2.mp d3)]
    · rw [if_pos (by omega), if_neg (fun z => d3 (t2.mpr z))]
/-- what the class pours somewhere serves the reference -/
theorem CP_ex (hF : FOK n F cv) (hC : CF c n F cv wv) {a : Int} (h1 : 0 ≤ a) (h2 : a ≤ 9999999) : ∃ w, CP n F cv wv told set (100 * fallsI cv a) w := by
  obtain ⟨w, -, h⟩ := CP_all (told := told) (set := set) hF hC h1 h2 (k := fun w => some w) (P := fun w => CP n F cv wv told set (100 * fallsI cv a) w) (fun w' _ _ _ h => Ok.ret h)
  exact ⟨w, h⟩
theorem q_state (hF : FOK n F cv) (hC : CF c n F cv wv) (hM : MF m n F cv wv) (a1 a2 : Int32) : Qr (f_xx_state a1 a2 c) (f_mm_state a1 a2 m) c m := by
  have hM0 := hM.km (m0k m)
  unfold f_xx_state f_mm_state
  rw [x_isAsked hF hC, obind, m_isHolder hF hM0, obind]
  dsimp only
  simp only [b2i_0]
  by_cases h : 0 ≤ a1.toInt ∧ a1.toInt < n
  · by_cases k : 0 ≤ a2.toInt ∧ a2.toInt ≤ 9999999
    · rw [if_pos (by simp [h, k]), if_neg (by simp [h]), m_isAmount, obind]
      dsimp only
      simp only [b2i_0]
      rw [if_pos (by simp [k])]
      obtain ⟨h1, hh, rfl⟩ := hold_of h
      obtain ⟨z, z1, z2, rfl⟩ := amt_of k
      refine Qr.of (RSt F wv h1 (XX n F wv false 0 (100 * fallsI cv z) h1) (XL n F wv false 0 (100 * fallsI cv z))) ?_ ?_
      · refine Ok.bind (xx_pour hF hC z1 z2) ?_
        rintro c' ⟨q1, -, -, q4⟩
        rw [x_stateOf hF (falls_b hF z1 z2) q4 hh, obind]
        exact Ok.ret ⟨rfl, q1⟩
      · refine Ok.bind (m_layBy hF hM0 z1 z2) ?_
        rintro m' ⟨q1, -, -, -, q4⟩
        obtain ⟨w, hw⟩ := CP_ex (told := false) (set := 0) hF hC z1 z2
        rw [m_stateOf hF q4 (hw.xlb hF) hh, obind]
        exact Ok.ret ⟨rfl, (m0k m).tr q1⟩
    · rw [if_neg (by simp [k]), if_neg (by simp [h]), m_isAmount, obind]
      dsimp only
      simp only [b2i_0]
      rw [if_neg (by simpa using k)]
      exact Qr.of _ (Ok.ret ⟨rfl, Fr.rfl⟩) (Ok.ret ⟨rfl, m0k m⟩)
  · rw [if_neg (by simp [h]), if_pos (by simpa using h)]
    exact Qr.of _ (Ok.ret ⟨rfl, Fr.rfl⟩) (Ok.ret ⟨rfl, m0k m⟩)
end
