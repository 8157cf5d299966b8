section
variable {n : Nat} {F : Nat → Nat → Int} {wv : Int32} {told : Bool} {set : Int32} {cv : Int} {c m : eW}
theorem Lk_xor (hn : n ≤ 12) {s t b : Int32} (h : Lk n F s t) : Lk n F (s ^^^ b) (t ^^^ b) := fun i hi => by
  have := h i hi
  unfold tnd at *
  rw [sb_xor _ _ (by omega), sb_xor _ _ (by omega)]
  cases ct : canT F i
  · simp
  · rw [ct] at this
    simp at this
    rw [this]
theorem St_lk (hF : FOK n F cv) (hC : CF c n F cv wv) {z : Int} (z1 : 0 ≤ z) (z2 : z ≤ 9999999) {s t : Int32} (h : Lk n F s t) (k : St n F wv cv z s) : St n F wv cv z t := fun i hi ct => by
  have := k i hi ct
  rw [XC_lk hF hC z1 z2 h hi, XC_lk hF hC z1 z2 (Lk_xor hF.1 h) hi] at this
  exact this
theorem pI_cg {P Q : Prop} (h : P ↔ Q) : pI P = pI Q := by
  by_cases e : P
  · rw [pI_t e, pI_t (h.mp e)]
  · rw [pI_f e, pI_f (fun z => e (h.mpr z))]
theorem SetR_lk (hF : FOK n F cv) {r : Nat} {s : Int32} (hs : SetR (plr F n) r s) (hb : ∀ j h, (plr F n)[j]? = some h → r.testBit j = sb set h) : Lk n F s set := fun i hi => by
  have hn := hF.1
  unfold tnd
  cases ct : canT F i
  · simp
  · congr 1
    obtain ⟨j, hj⟩ := List.mem_iff_getElem?.mp (plr_mem.mpr ⟨hi, ct⟩)
    rw [Bool.and_true, Bool.and_true]
    cases e : sb set i
    · rw [Bool.eq_false_iff]
      intro y
      obtain ⟨j', a, b⟩ := (hs i (by omega)).mp y
      rw [hb j' i a, e] at b; cases b
    · exact (hs i (by omega)).mpr ⟨j, hj, by rw [hb j i hj, e]⟩
theorem q_steady (hF : FOK n F cv) (hC : CF c n F cv wv) (hM : MF m n F cv wv) (a1 a2 : Int32) : Qr (f_xx_steady a1 a2 c) (f_mm_steady a1 a2 m) c m := by
  have hM0 := hM.km (m0k m)
  unfold f_xx_steady f_mm_steady
  simp only [x_isAmount, m_isAmount, obind, b2i_0]
  by_cases h : 0 ≤ a2.toInt ∧ a2.toInt ≤ 9999999
  · simp only [decide_eq_true h, Bool.true_eq_false, not_false_eq_true, if_true]
    obtain ⟨z, z1, z2, rfl⟩ := amt_of h
    refine Qr.of (pI (St n F wv cv z a1)) ?_ ?_
    · refine Ok.bind (ga_gather hF hC) ?_
      rintro w1 ⟨f1, g1⟩
      obtain ⟨r, e1, r1, r2⟩ := ga_rowOf (plr_6 hF) (plr_12 hF) g1 a1
      have r64 : r < 64 := Nat.lt_of_lt_of_le r1 (Nat.pow_le_pow_right (n := 2) (by omega) (plr_6 hF))
      rw [e1, obind]
      dsimp only
      obtain ⟨e2, e3⟩ := x_falls hF (hC.q f1) z1 z2
      rw [e2, obind]
      dsimp only
      rw [e3]
      refine Ok.bind (ga_round hF z1 z2 r64 (hC.q f1) g1) ?_
      rintro w2 ⟨f2, g2, p1, p2⟩
      obtain ⟨s, hs, -⟩ := id p1
      rw [ga_isSteady hF z1 z2 r64 ((hC.q f1).q f2) g2 p1 p2 hs, obind]
      dsimp only
      have lk := SetR_lk hF hs r2
      have lk' : Lk n F a1 s := fun i hi => (lk i hi).symm
      rw [pI_cg ⟨St_lk hF hC z1 z2 lk, St_lk hF hC z1 z2 lk'⟩]
      by_cases g : St n F wv cv z a1
      · rw [pI_t g, if_neg (by decide)]; exact Ok.ret ⟨rfl, f1.tr f2⟩
      · rw [pI_f g, if_pos rfl]; exact Ok.ret ⟨rfl, f1.tr f2⟩
    · refine Ok.bind (m_isSteady hF hC hM0 z1 z2 a1) ?_
      rintro ⟨r, m1⟩ ⟨q1, q2⟩
      dsimp only at q1 q2 ⊢
      rw [q1]
      by_cases g : St n F wv cv z a1
      · rw [pI_t g, if_neg (by decide)]; exact Ok.ret ⟨rfl, (m0k m).tr q2⟩
      · rw [pI_f g, if_pos rfl]; exact Ok.ret ⟨rfl, (m0k m).tr q2⟩
  · simp only [decide_eq_false h, not_true_eq_false, if_false]
    exact Qr.of _ (Ok.ret ⟨rfl, Fr.rfl⟩) (Ok.ret ⟨rfl, m0k m⟩)
/-! all sets of those who can turn, in their order -/
def good (F : Nat → Nat → Int) : Nat → List Nat
  | 0 => [0]
  | n + 1 => if canT F n then good F n ++ (good F n).map (2 ^ n + ·) else good F n
def gd (F : Nat → Nat → Int) (n s : Nat) : Bool := decide (∀ i, i < n → s.testBit i = true → canT F i = true)
theorem range_two (n : Nat) : List.range (2 ^ (n + 1)) = List.range (2 ^ n) ++ (List.range (2 ^ n)).map (2 ^ n + ·) := by
  rw [Nat.pow_succ, Nat.mul_two, List.range_add]
theorem good_eq : ∀ n, (List.range (2 ^ n)).filter (gd F n) = good F n
  | 0 => by
    simp only [good]
    rw [show List.range (2 ^ 0) = [0] from rfl]
    simp [List.filter, gd]
  | n + 1 => by
    rw [range_two, List.filter_append]
    have a : (List.range (2 ^ n)).filter (gd F (n + 1)) = good F n := by
      rw [← good_eq n]
      refine List.filter_congr fun s hs => ?_
      have hs2 : s < 2 ^ n := List.mem_range.mp hs
      unfold gd
      apply decide_eq_decide.mpr
      constructor
      · intro h i hi; exact h i (by omega)
      · intro h i hi t
        by_cases e : i = n
        · rw [e, Nat.testBit_lt_two_pow hs2] at t; cases t
        · exact h i (by omega) t
    rw [a, List.filter_map]
    simp only [good]
    by_cases e : canT F n = true
    · rw [if_pos e]
      congr 1
      rw [← good_eq n]
      congr 1
      refine List.filter_congr fun s hs => ?_
      have hs2 : s < 2 ^ n := List.mem_range.mp hs
      show gd F (n + 1) (2 ^ n + s) = gd F n s
      unfold gd
      apply decide_eq_decide.mpr
      constructor
      · intro h i hi t
        exact h i (by omega) (by rw [Nat.testBit_two_pow_add_gt hi]; exact t)
      · intro h i hi t
        by_cases y : i = n
        · rw [y]; exact e
        · rw [Nat.testBit_two_pow_add_gt (by omega)] at t
          exact h i (by omega) t
    · rw [if_neg e]
      have : (List.range (2 ^ n)).filter (gd F (n + 1) ∘ (2 ^ n + ·)) = [] := by
        rw [List.filter_eq_nil_iff]
        intro s hs
        have hs2 : s < 2 ^ n := List.mem_range.mp hs
        show ¬ gd F (n + 1) (2 ^ n + s) = true
        unfold gd
        rw [decide_eq_true_eq]
        intro h
        refine e (h n (by omega) ?_)
        rw [Nat.testBit_two_pow_add_eq, Nat.testBit_lt_two_pow hs2]; rfl
      rw [this]
      simp
def sig (F : Nat → Nat → Int) : Nat → Nat → Nat
  | 0, _ => 0
  | n + 1, r => sig F n r + (if canT F n = true ∧ r.testBit (plr F n).length = true then 2 ^ n else 0)
theorem plr_mono (n : Nat) : (plr F n).length ≤ (plr F (n + 1)).length := by
  simp only [plr]
  split
  · simp
  · exact Nat.le_refl _
theorem sig_cg : ∀ {n r s : Nat}, (∀ j, j < (plr F n).length → r.testBit j = s.testBit j) → sig F n r = sig F n s
  | 0, r, s, _ => rfl
  | n + 1, r, s, h => by
    simp only [sig]
    rw [sig_cg (n := n) fun j hj => h j (Nat.lt_of_lt_of_le hj (plr_mono n))]
    by_cases e : canT F n = true
    · rw [h (plr F n).length (by simp only [plr]; rw [if_pos e]; simp)]
    · rw [if_neg (fun z => e z.1), if_neg (fun z => e z.1)]
theorem sig_lt : ∀ {n r : Nat}, sig F n r < 2 ^ n
  | 0, r => by simp [sig]
  | n + 1, r => by
    have := sig_lt (n := n) (r := r)
    have e : 2 ^ (n + 1) = 2 ^ n * 2 := Nat.pow_succ _ _
    simp only [sig]
    split <;> omega
theorem sig_good : ∀ n, (List.range (2 ^ (plr F n).length)).map (sig F n) = good F n
  | 0 => rfl
  | n + 1 => by
    simp only [good]
    by_cases e : canT F n = true
    · have el : (plr F (n + 1)).length = (plr F n).length + 1 := by simp only [plr]; rw [if_pos e]; simp
      rw [if_pos e, el, range_two, List.map_append, List.map_map]
      congr 1
      · rw [← sig_good n]
        refine List.map_congr_left fun r hr => ?_
        have hr2 := List.mem_range.mp hr
        simp only [sig]
        rw [if_neg (fun z => by rw [Nat.testBit_lt_two_pow hr2] at z; cases z.2)]
        rfl
      · rw [← sig_good n, List.map_map]
        refine List.map_congr_left fun r hr => ?_
        have hr2 := List.mem_range.mp hr
        show sig F (n + 1) (2 ^ (plr F n).length + r) = 2 ^ n + sig F n r
        simp only [sig]
        rw [if_pos ⟨e, by rw [Nat.testBit_two_pow_add_eq, Nat.testBit_lt_two_pow hr2]; rfl⟩, sig_cg (s := r) fun j hj => Nat.testBit_two_pow_add_gt hj r]
        omega
    · have el : plr F (n + 1) = plr F n := by simp only [plr]; rw [if_neg e]
      rw [if_neg e, el, ← sig_good n]
      refine List.map_congr_left fun r hr => ?_
      simp only [sig]
      rw [if_neg (fun z => e z.1)]
      rfl
theorem sig_bit : ∀ {n r h : Nat}, ((sig F n r).testBit h = true) ↔ ∃ j, (plr F n)[j]? = some h ∧ r.testBit j = true
  | 0, r, h => by simp [sig, plr]
  | n + 1, r, h => by
    have lt := sig_lt (n := n) (r := r) (F := F)
    have ih := sig_bit (n := n) (r := r) (h := h)
    simp only [sig, plr]
    by_cases e : canT F n = true
    · rw [if_pos e]
      by_cases b : r.testBit (plr F n).length = true
      · rw [if_pos ⟨e, b⟩, Nat.add_comm]
        by_cases y : h = n
        · rw [y, Nat.testBit_two_pow_add_eq, Nat.testBit_lt_two_pow lt]
          simp only [Bool.not_false, true_iff]
          exact ⟨(plr F n).length, by simp, b⟩
        · by_cases y2 : h < n
          · rw [Nat.testBit_two_pow_add_gt y2, ih]
            constructor
            · rintro ⟨j, a, q⟩
              exact ⟨j, by rw [List.getElem?_append_left (List.getElem?_eq_some_iff.mp a).1]; exact a, q⟩
            · rintro ⟨j, a, q⟩
              by_cases jl : j < (plr F n).length
              · rw [List.getElem?_append_left jl] at a; exact ⟨j, a, q⟩
              · rw [List.getElem?_append_right (by omega)] at a
                have := List.mem_of_getElem? a
                simp at this
                omega
          · rw [Nat.testBit_lt_two_pow (Nat.lt_of_lt_of_le (show 2 ^ n + sig F n r < 2 ^ (n + 1) by rw [Nat.pow_succ]; omega) (Nat.pow_le_pow_right (by omega) (by omega)))]
            simp only [Bool.false_eq_true, false_iff]
            rintro ⟨j, a, q⟩
            have := List.mem_of_getElem? a
            rw [List.mem_append, plr_mem] at this
            simp at this
            omega
      · rw [if_neg (fun z => b z.2), Nat.add_zero, ih]
        constructor
        · rintro ⟨j, a, q⟩
          exact ⟨j, by rw [List.getElem?_append_left (List.getElem?_eq_some_iff.mp a).1]; exact a, q⟩
        · rintro ⟨j, a, q⟩
          by_cases jl : j < (plr F n).length
          · rw [List.getElem?_append_left jl] at a; exact ⟨j, a, q⟩
          · have l2 := (List.getElem?_eq_some_iff.mp a).1
            simp at l2
            have : j = (plr F n).length := by omega
            rw [this] at q
            exact absurd q b
    · rw [if_neg (fun z => e z.1), if_neg e, Nat.add_zero]
      exact ih
theorem sig_set (r : Nat) : SetR (plr F n) r (Int32.ofInt ((sig F n r : Nat) : Int)) := fun h hh => by
  rw [sb_nat _ hh]
  exact sig_bit
/-- the k-th that is steady, or how many -/
noncomputable def scanL (st : Nat → Prop) (k : Int32) : List Nat → Int32 → Int32
  | [], c => if k = -1 then c else -1
  | s :: L, c => @ite _ (st s) (Classical.propDecidable _) (if c = k then Int32.ofInt (s : Nat) else scanL st k L (c + 1)) (scanL st k L c)
theorem scan_t {st : Nat → Prop} {k c : Int32} {s : Nat} {L : List Nat} (h : st s) : scanL st k (s :: L) c = if c = k then Int32.ofInt (s : Nat) else scanL st k L (c + 1) := by simp only [scanL]; rw [if_pos h]
theorem scan_f {st : Nat → Prop} {k c : Int32} {s : Nat} {L : List Nat} (h : ¬ st s) : scanL st k (s :: L) c = scanL st k L c := by simp only [scanL]; rw [if_neg h]
/-- a set's steadiness -/
abbrev StN (n : Nat) (F : Nat → Nat → Int) (wv : Int32) (cv : Int) (z : Int) (s : Nat) : Prop := St n F wv cv z (Int32.ofInt (s : Nat))
theorem all_loop (hF : FOK n F cv) {z : Int} (z1 : 0 ≤ z) (z2 : z ≤ 9999999) : ∀ (d k f : Nat), k + d = 2 ^ (plr F n).length → d < f → ∀ w : eW, CF w n F cv wv → GW w (plr F n) → (∀ r, r < k → RW n F wv cv z w r) → Ok (f_ga_playAll_L3 f (Int64.ofInt (100 * fallsI cv z)) (Int32.ofInt (k : Nat)) w) fun w' => Fr QS w w' ∧ GW w' (plr F n) ∧ ∀ r, r < 2 ^ (plr F n).length → RW n F wv cv z w' r := by
  have l6 := plr_6 hF
  have p64 : 2 ^ (plr F n).length ≤ 64 := Nat.pow_le_pow_right (n := 2) (by omega) l6
  have p0 : 0 < 2 ^ (plr F n).length := Nat.two_pow_pos _
  intro d
  induction d with
  | zero =>
    intro k f hk hf w hC hg h2
    obtain ⟨f, rfl⟩ := Nat.exists_eq_succ_of_ne_zero (show f ≠ 0 by omega)
    have : k = 2 ^ (plr F n).length := by omega
    subst this
    unfold f_ga_playAll_L3
    rw [hg.1, pow_nat (by omega), if_pos (by rw [ile (by omega) (by omega) (by omega) (by omega)]; omega)]
    exact Ok.ret ⟨Fr.rfl, hg, h2⟩
  | succ d ih =>
    intro k f hk hf w hC hg h2
    obtain ⟨f, rfl⟩ := Nat.exists_eq_succ_of_ne_zero (show f ≠ 0 by omega)
    unfold f_ga_playAll_L3
    rw [hg.1, pow_nat (by omega), if_neg (by rw [ile (by omega) (by omega) (by omega) (by omega)]; omega), isucc]
    refine Ok.bind (ga_play hF z1 z2 (show k < 64 by omega) hC hg) ?_
    rintro w1 ⟨p1, p2⟩
    refine Ok.imp (ih (k + 1) f (by omega) (by omega) w1 (hC.q p1.1) (hg.pl p1) fun i hi => ?_) ?_
    · by_cases e : i = k
      · rw [e]; exact p2
      · exact (h2 i (by omega)).pl hF p1 e
    · rintro w' ⟨q1, q2⟩
      exact ⟨p1.1.tr q1, q2⟩
theorem row_st (hF : FOK n F cv) {z : Int} (z1 : 0 ≤ z) (z2 : z ≤ 9999999) {w : eW} (hC : CF w n F cv wv) (hg : GW w (plr F n)) (ha : ∀ r, r < 2 ^ (plr F n).length → RW n F wv cv z w r) {r : Nat} (hr : r < 2 ^ (plr F n).length) : f_ga_isSteady (Int32.ofInt (r : Nat)) w = some (pI (StN n F wv cv z (sig F n r)), w) := by
  have l6 := plr_6 hF
  have p64 : 2 ^ (plr F n).length ≤ 64 := Nat.pow_le_pow_right (n := 2) (by omega) l6
  have p0 : 0 < 2 ^ (plr F n).length := Nat.two_pow_pos _
  refine ga_isSteady hF z1 z2 (by omega) hC hg (ha r hr) (fun i hi => ha _ ?_) (sig_set r)
  exact Nat.xor_lt_two_pow hr (Nat.pow_lt_pow_right (by omega) hi)
theorem count_loop (hF : FOK n F cv) {z : Int} (z1 : 0 ≤ z) (z2 : z ≤ 9999999) {w : eW} (hC : CF w n F cv wv) (hg : GW w (plr F n)) (ha : ∀ r, r < 2 ^ (plr F n).length → RW n F wv cv z w r) : ∀ (d k f j : Nat), k + d = 2 ^ (plr F n).length → d < f → j ≤ k → f_ga_countSteady_L4 f (Int32.ofInt (j : Nat)) (Int32.ofInt (k : Nat)) w = some (scanL (StN n F wv cv z) (-1) ((List.range' k d).map (sig F n)) (Int32.ofInt (j : Nat)), w) := by
  have l6 := plr_6 hF
  have p64 : 2 ^ (plr F n).length ≤ 64 := Nat.pow_le_pow_right (n := 2) (by omega) l6
  have p0 : 0 < 2 ^ (plr F n).length := Nat.two_pow_pos _
  intro d
  induction d with
  | zero =>
    intro k f j hk hf hj
    obtain ⟨f, rfl⟩ := Nat.exists_eq_succ_of_ne_zero (show f ≠ 0 by omega)
    unfold f_ga_countSteady_L4
    rw [hg.1, pow_nat (by omega), if_pos (by rw [ile (by omega) (by omega) (by omega) (by omega)]; omega)]
    simp [scanL]
  | succ d ih =>
    intro k f j hk hf hj
    obtain ⟨f, rfl⟩ := Nat.exists_eq_succ_of_ne_zero (show f ≠ 0 by omega)
    unfold f_ga_countSteady_L4
    rw [hg.1, pow_nat (by omega), if_neg (by rw [ile (by omega) (by omega) (by omega) (by omega)]; omega), row_st hF z1 z2 hC hg ha (by omega), obind]
    dsimp only
    simp only [isucc]
    rw [List.range'_succ, List.map_cons]
    by_cases g : StN n F wv cv z (sig F n k)
    · rw [pI_t g, if_neg (by decide), scan_t g, if_neg (by rw [show (-1 : Int32) = Int32.ofInt (-1) from rfl, ieq (by omega) (by omega) (by omega) (by omega)]; omega), ih (k + 1) f (j + 1) (by omega) (by omega) (by omega), isucc]
    · rw [pI_f g, if_pos rfl, scan_f g, Int32.add_zero, ih (k + 1) f j (by omega) (by omega) (by omega)]
theorem kth_loop (hF : FOK n F cv) {z : Int} (z1 : 0 ≤ z) (z2 : z ≤ 9999999) {w : eW} (hC : CF w n F cv wv) (hg : GW w (plr F n)) (ha : ∀ r, r < 2 ^ (plr F n).length → RW n F wv cv z w r) {q : Int32} (hq : ¬ q = -1) : ∀ (d k f : Nat) (j : Int32), k + d = 2 ^ (plr F n).length → d < f → f_ga_steadySet_L4 f q j (Int32.ofInt (k : Nat)) w = some (scanL (StN n F wv cv z) q ((List.range' k d).map (sig F n)) j, w) := by
  have l6 := plr_6 hF
  have p64 : 2 ^ (plr F n).length ≤ 64 := Nat.pow_le_pow_right (n := 2) (by omega) l6
  have p0 : 0 < 2 ^ (plr F n).length := Nat.two_pow_pos _
  intro d
  induction d with
  | zero =>
    intro k f j hk hf
    obtain ⟨f, rfl⟩ := Nat.exists_eq_succ_of_ne_zero (show f ≠ 0 by omega)
    unfold f_ga_steadySet_L4
    rw [hg.1, pow_nat (by omega), if_pos (by rw [ile (by omega) (by omega) (by omega) (by omega)]; omega)]
    simp [scanL, hq]
  | succ d ih =>
    intro k f j hk hf
    obtain ⟨f, rfl⟩ := Nat.exists_eq_succ_of_ne_zero (show f ≠ 0 by omega)
    unfold f_ga_steadySet_L4
    rw [hg.1, pow_nat (by omega), if_neg (by rw [ile (by omega) (by omega) (by omega) (by omega)]; omega), row_st hF z1 z2 hC hg ha (by omega), obind]
    dsimp only
    rw [List.range'_succ, List.map_cons]
    by_cases g : StN n F wv cv z (sig F n k)
    · rw [pI_t g, if_neg (by decide), scan_t g]
      by_cases e : j = q
      · rw [if_neg (fun z => z e), if_pos e]
        obtain ⟨s, e1, hs⟩ := ga_setOf (plr_6 hF) (plr_12 hF) hg (show k < 64 by omega)
        rw [e1, obind, SetR_uniq hs (sig_set k)]
      · rw [if_pos e, if_neg e, isucc, ih (k + 1) f (j + 1) (by omega) (by omega)]
    · rw [pI_f g, if_pos rfl, scan_f g, isucc, ih (k + 1) f j (by omega) (by omega)]
theorem ones_fin : ∀ h : Fin 32, sb (-1) h = true := by decide
/-- who can turn, as a set -/
def CanS (F : Nat → Nat → Int) (k : Nat) (x : Int32) : Prop := ∀ h, h < 32 → (sb x h = true ↔ h < k ∧ canT F h = true)
theorem can_and (hn : n ≤ 12) {x : Int32} (hx : CanS F n x) {s : Nat} (hs : s < 2 ^ n) : ((Int32.ofInt (s : Nat) &&& (x ^^^ (-1 : Int32))) = 0) ↔ gd F n s = true := by
  unfold gd
  rw [decide_eq_true_eq]
  constructor
  · intro e i hi t
    have : sb (Int32.ofInt (s : Nat) &&& (x ^^^ (-1 : Int32))) i = false := by rw [e]; exact sb_zero i (by omega)
    rw [sb_and _ _ (by omega), sb_xor _ _ (by omega), sb_nat _ (by omega), t, ones_fin ⟨i, by omega⟩] at this
    have y : sb x i = true := by simpa using this
    exact ((hx i (by omega)).mp y).2
  · intro h
    refine sb_ext fun i hi => ?_
    rw [sb_and _ _ hi, sb_xor _ _ hi, sb_nat _ hi, ones_fin ⟨i, hi⟩, sb_zero i hi]
    cases t : s.testBit i
    · rfl
    · have hin : i < n := by
        apply Classical.byContradiction
        intro y
        rw [Nat.testBit_lt_two_pow (Nat.lt_of_lt_of_le hs (Nat.pow_le_pow_right (by omega) (by omega)))] at t
        cases t
      rw [(hx i hi).mpr ⟨hin, h i hin t⟩]
      rfl
theorem msets_loop (hF : FOK n F cv) (hC : CF c n F cv wv) {z : Int} (z1 : 0 ≤ z) (z2 : z ≤ 9999999) {x : Int32} (hx : CanS F n x) (q : Int32) : ∀ (d k f : Nat) (j : Int32), k + d = 2 ^ n → d < f → ∀ w : eW, MF w n F cv wv → Ok (f_mm_steadies_L61 f (Int32.ofInt z) q x j (Int32.ofInt (k : Nat)) w) fun p => p.1 = scanL (StN n F wv cv z) q ((List.range' k d).filter (gd F n)) j ∧ Km w p.2 := by
  have hn := hF.1
  have p4 : 2 ^ n ≤ 2 ^ 12 := Nat.pow_le_pow_right (n := 2) (by omega) hn
  have p0 : 0 < 2 ^ n := Nat.two_pow_pos _
  intro d
  induction d with
  | zero =>
    intro k f j hk hf w hM
    obtain ⟨f, rfl⟩ := Nat.exists_eq_succ_of_ne_zero (show f ≠ 0 by omega)
    unfold f_mm_steadies_L61
    rw [hM.1, pow_nat (by omega), if_pos (by rw [ile (by omega) (by omega) (by omega) (by omega)]; omega)]
    by_cases e : q = -1
    · rw [if_neg (fun z => z e)]; exact Ok.ret ⟨by simp [scanL, e], Km.rfl⟩
    · rw [if_pos e]; exact Ok.ret ⟨by simp [scanL, e], Km.rfl⟩
  | succ d ih =>
    intro k f j hk hf w hM
    obtain ⟨f, rfl⟩ := Nat.exists_eq_succ_of_ne_zero (show f ≠ 0 by omega)
    unfold f_mm_steadies_L61
    rw [hM.1, pow_nat (by omega), if_neg (by rw [ile (by omega) (by omega) (by omega) (by omega)]; omega), isucc, List.range'_succ, List.filter_cons]
    by_cases e : gd F n k = true
    · rw [if_neg (fun z => z ((can_and hn hx (by omega)).mpr e)), if_pos e]
      refine Ok.bind (m_isSteady hF hC hM z1 z2 _) ?_
      rintro ⟨r, w1⟩ ⟨q1, q2⟩
      dsimp only at q1 q2 ⊢
      rw [q1]
      by_cases g : StN n F wv cv z k
      · rw [pI_t g, if_pos (by decide), scan_t g]
        by_cases y : j = q
        · rw [if_neg (fun z => z y), if_pos y]; exact Ok.ret ⟨rfl, q2⟩
        · rw [if_pos y, if_neg y]
          refine Ok.imp (ih (k + 1) f (j + 1) (by omega) (by omega) w1 (hM.km q2)) ?_
          rintro p ⟨r1, r2⟩
          exact ⟨r1, q2.tr r2⟩
      · rw [pI_f g, if_neg (by decide), scan_f g]
        refine Ok.imp (ih (k + 1) f j (by omega) (by omega) w1 (hM.km q2)) ?_
        rintro p ⟨r1, r2⟩
        exact ⟨r1, q2.tr r2⟩
    · rw [if_pos (fun z => e ((can_and hn hx (by omega)).mp z)), if_neg e]
      exact ih (k + 1) f j (by omega) (by omega) w hM
theorem mcan_loop (hF : FOK n F cv) (hC : CF c n F cv wv) {z : Int} (z1 : 0 ≤ z) (z2 : z ≤ 9999999) (q : Int32) {w : eW} (hM : MF w n F cv wv) : ∀ (d k f : Nat) (x : Int32), k + d = n → d < f → CanS F k x → Ok (f_mm_steadies_L20 f (Int32.ofInt z) q x (Int32.ofInt (k : Nat)) w) fun p => p.1 = scanL (StN n F wv cv z) q (good F n) 0 ∧ Km w p.2 := by
  have hn := hF.1
  have p4 : 2 ^ n ≤ 2 ^ 12 := Nat.pow_le_pow_right (n := 2) (by omega) hn
  have p0 : 0 < 2 ^ n := Nat.two_pow_pos _
  intro d
  induction d with
  | zero =>
    intro k f x hk hf hx
    obtain ⟨f, rfl⟩ := Nat.exists_eq_succ_of_ne_zero (show f ≠ 0 by omega)
    have : k = n := by omega
    subst this
    unfold f_mm_steadies_L20
    rw [hM.1, if_pos (by rw [ile (by omega) (by omega) (by omega) (by omega)]; omega), ← good_eq, List.range_eq_range']
    exact msets_loop hF hC z1 z2 hx q (2 ^ k) 0 eFu 0 (by omega) (by rw [eFu_eq]; omega) w hM
  | succ d ih =>
    intro k f x hk hf hx
    obtain ⟨f, rfl⟩ := Nat.exists_eq_succ_of_ne_zero (show f ≠ 0 by omega)
    unfold f_mm_steadies_L20
    rw [hM.1, if_neg (by rw [ile (by omega) (by omega) (by omega) (by omega)]; omega), m_canTurn hF hM (by omega), obind]
    dsimp only
    simp only [b2i_0]
    rw [isucc]
    by_cases e : canT F k = true
    · rw [if_neg (by simp [e])]
      refine ih (k + 1) f _ (by omega) (by omega) fun h hh => ?_
      rw [sb_or _ _ hh, sb_pow hh (by omega), Bool.or_eq_true, hx h hh, decide_eq_true_eq]
      constructor
      · rintro (⟨a, b⟩ | rfl)
        · exact ⟨by omega, b⟩
        · exact ⟨by omega, e⟩
      · rintro ⟨a, b⟩
        by_cases y : h = k
        · exact .inr y
        · exact .inl ⟨by omega, b⟩
    · rw [if_pos (by simpa using e), Int32.or_zero]
      refine ih (k + 1) f _ (by omega) (by omega) fun h hh => ?_
      rw [hx h hh]
      constructor
      · rintro ⟨a, b⟩; exact ⟨by omega, b⟩
      · rintro ⟨a, b⟩
        by_cases y : h = k
        · rw [y] at b; exact absurd b e
        · exact ⟨by omega, b⟩
theorem q_steadies (hF : FOK n F cv) (hC : CF c n F cv wv) (hM : MF m n F cv wv) (a1 a2 : Int32) : Qr (f_xx_steadies a1 a2 c) (f_mm_steadies a1 a2 m) c m := by
  have hM0 := hM.km (m0k m)
  have l6 := plr_6 hF
  have p64 : 2 ^ (plr F n).length ≤ 64 := Nat.pow_le_pow_right (n := 2) (by omega) l6
  have p0 : 0 < 2 ^ (plr F n).length := Nat.two_pow_pos _
  unfold f_xx_steadies f_mm_steadies
  simp only [x_isAmount, m_isAmount, obind, b2i_0]
  by_cases h : 0 ≤ a1.toInt ∧ a1.toInt ≤ 9999999
  · simp only [decide_eq_true h, Bool.true_eq_false, not_false_eq_true, if_true]
    obtain ⟨z, z1, z2, rfl⟩ := amt_of h
    refine Qr.of (scanL (StN n F wv cv z) a2 (good F n) 0) ?_ ?_
    · refine Ok.bind (ga_gather hF hC) ?_
      rintro w1 ⟨f1, g1⟩
      obtain ⟨e2, e3⟩ := x_falls hF (hC.q f1) z1 z2
      rw [e2, obind]
      dsimp only
      rw [e3]
      unfold f_ga_playAll
      refine Ok.bind (all_loop hF z1 z2 (2 ^ (plr F n).length) 0 eFu (by omega) (by rw [eFu_eq]; omega) w1 (hC.q f1) g1 (by omega)) ?_
      rintro w2 ⟨f2, g2, p1⟩
      have hC2 := (hC.q f1).q f2
      rw [← sig_good, List.range_eq_range']
      by_cases e : a2 = -1
      · rw [if_neg (fun z => z e), e]
        unfold f_ga_countSteady
        have L := count_loop hF z1 z2 hC2 g2 p1 (2 ^ (plr F n).length) 0 eFu 0 (by omega) (by rw [eFu_eq]; omega) (by omega)
        have L' : f_ga_countSteady_L4 eFu 0 0 w2 = _ := L
        rw [L', obind]
        exact Ok.ret ⟨rfl, f1.tr f2⟩
      · rw [if_pos e]
        unfold f_ga_steadySet
        have L := kth_loop hF z1 z2 hC2 g2 p1 e (2 ^ (plr F n).length) 0 eFu 0 (by omega) (by rw [eFu_eq]; omega)
        have L' : f_ga_steadySet_L4 eFu a2 0 0 w2 = _ := L
        rw [L', obind]
        exact Ok.ret ⟨rfl, f1.tr f2⟩
    · refine Ok.imp (mcan_loop hF hC z1 z2 a2 hM0 n 0 eFu 0 (by omega) (by rw [eFu_eq]; have := hF.1; omega) fun h hh => by rw [sb_zero h hh]; simp) ?_
      rintro p ⟨r1, r2⟩
      exact ⟨r1, (m0k m).tr r2⟩
  · simp only [decide_eq_false h, not_true_eq_false, if_false]
    exact Qr.of _ (Ok.ret ⟨rfl, Fr.rfl⟩) (Ok.ret ⟨rfl, m0k m⟩)
end
