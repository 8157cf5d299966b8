/-! ===== whole units ===== -/
section
noncomputable def qf (x : Rat) : Int := (x / 100).floor
noncomputable def fr (x : Rat) : Rat := x / 100 - (qf x : Rat)
theorem fr_b (x : Rat) : 0 ≤ fr x ∧ fr x < 1 := by
  have a := Rat.floor_le (x / 100)
  have b := Rat.lt_floor_add_one (x / 100)
  rw [Rat.intCast_add] at b
  unfold fr qf
  constructor
  · grind
  · have : ((1 : Int) : Rat) = 1 := rfl
    grind
theorem qf_div {a b : Int} {x : Rat} (hb : 0 < b) (h : (a : Rat) = x * (b : Rat)) : a / (100 * b) = qf x ∧ ((a % (100 * b) : Int) : Rat) = fr x * ((100 * b : Int) : Rat) := by
  have b0 : (0 : Rat) < (b : Rat) := by exact_mod_cast hb
  have u0 : 0 < 100 * b := by omega
  have ur : ((100 * b : Int) : Rat) = 100 * (b : Rat) := by rw [Rat.intCast_mul]; rfl
  have up : (0 : Rat) < ((100 * b : Int) : Rat) := by exact_mod_cast u0
  have e : (a : Rat) = (x / 100) * ((100 * b : Int) : Rat) := by rw [ur, h, Rat.div_def]; grind
  have k : a / (100 * b) = qf x := by
    apply Int.le_antisymm
    · unfold qf
      rw [Rat.le_floor_iff]
      have t := Int.ediv_mul_le a (show 100 * b ≠ 0 by omega)
      have t2 : ((a / (100 * b) : Int) : Rat) * ((100 * b : Int) : Rat) ≤ (x / 100) * ((100 * b : Int) : Rat) := by
        rw [← Rat.intCast_mul, ← e]; exact_mod_cast t
      exact (qmr up).mp t2
    · rw [Int.le_ediv_iff_mul_le u0]
      have t := Rat.floor_le (x / 100)
      have t2 := Rat.mul_le_mul_of_nonneg_right t (Rat.le_of_lt up)
      rw [← e, ← Rat.intCast_mul] at t2
      exact_mod_cast t2
  refine ⟨k, ?_⟩
  rw [Int.emod_def, k, Rat.intCast_sub, Rat.intCast_mul, e]
  unfold fr
  grind
theorem fr_lt {a b c : Int} {x y : Rat} (hb : 0 < b) (h : (a : Rat) = x * (b : Rat)) (k : (c : Rat) = y * (b : Rat)) : (a % (100 * b) < c % (100 * b)) ↔ fr x < fr y := by
  have up : (0 : Rat) < ((100 * b : Int) : Rat) := by exact_mod_cast (show 0 < 100 * b by omega)
  rw [← Rat.intCast_lt_intCast, (qf_div hb h).2, (qf_div hb k).2]
  exact Rat.mul_lt_mul_right up
theorem fr_le {a b c : Int} {x y : Rat} (hb : 0 < b) (h : (a : Rat) = x * (b : Rat)) (k : (c : Rat) = y * (b : Rat)) : (a % (100 * b) ≤ c % (100 * b)) ↔ fr x ≤ fr y := by
  have := fr_lt hb k h
  rw [← Rat.not_lt, ← this]; omega
/-- who comes before whom -/
noncomputable def ah (x : Nat → Rat) (h i : Nat) : Bool := decide (fr (x h) < fr (x i) ∨ (fr (x i) = fr (x h) ∧ i < h))
def cntb (p : Nat → Bool) : Nat → Nat
  | 0 => 0
  | k + 1 => cntb p k + (if p k then 1 else 0)
theorem cntb_mono {p q : Nat → Bool} : ∀ {n : Nat}, (∀ i, i < n → p i = true → q i = true) → cntb p n ≤ cntb q n
  | 0, _ => Nat.le_refl _
  | n + 1, k => by
    have a := cntb_mono (n := n) fun i hi => k i (by omega)
    have b := k n (by omega)
    simp only [cntb]
    by_cases c : p n = true
    · rw [if_pos c, if_pos (b c)]; omega
    · rw [if_neg c]; omega
theorem cntb_lt {p q : Nat → Bool} : ∀ {n : Nat}, (∀ i, i < n → p i = true → q i = true) → ∀ k, k < n → p k = false → q k = true → cntb p n < cntb q n
  | 0, _, k, hk => by omega
  | n + 1, h, k, hk => fun a b => by
    simp only [cntb]
    by_cases e : k = n
    · subst e
      have := cntb_mono (n := k) fun i hi => h i (by omega)
      rw [if_neg (by simp [a]), if_pos b]; omega
    · have := cntb_lt (n := n) (fun i hi => h i (by omega)) k (by omega) a b
      have c := h n (by omega)
      by_cases d : p n = true
      · rw [if_pos d, if_pos (c d)]; omega
      · rw [if_neg d]; omega
theorem cntb_le (p : Nat → Bool) : ∀ n, cntb p n ≤ n
  | 0 => Nat.le_refl _
  | n + 1 => by have := cntb_le p n; simp only [cntb]; split <;> omega
theorem cntb_all {p : Nat → Bool} : ∀ {n : Nat}, (∀ i, i < n → p i = true) → cntb p n = n
  | 0, _ => rfl
  | n + 1, h => by simp only [cntb]; rw [cntb_all fun i hi => h i (by omega), if_pos (h n (by omega))]
theorem cntb_add {p : Nat → Bool} {k : Nat} (hp : p k = false) : ∀ {n : Nat}, cntb (fun i => p i || decide (i = k)) n = cntb p n + (if k < n then 1 else 0)
  | 0 => by simp [cntb]
  | n + 1 => by
    simp only [cntb, cntb_add hp (n := n)]
    by_cases e : n = k
    · subst e; simp [hp]
    · by_cases d : k < n
      · simp [d, e, show k < n + 1 by omega]; omega
      · simp [d, e, show ¬ k < n + 1 by omega]
theorem ah_irr {x : Nat → Rat} (h : Nat) : ah x h h = false := by
  unfold ah
  simp only [decide_eq_false_iff_not]
  grind
theorem ah_tot {x : Nat → Rat} {h i : Nat} (k : i ≠ h) : ah x h i = true ∨ ah x i h = true := by
  unfold ah
  simp only [decide_eq_true_eq]
  by_cases a : fr (x h) < fr (x i)
  · exact .inl (.inl a)
  · by_cases b : fr (x i) < fr (x h)
    · exact .inr (.inl b)
    · have : fr (x i) = fr (x h) := by grind
      rcases Nat.lt_or_gt_of_ne k with c | c
      · exact .inl (.inr ⟨this, c⟩)
      · exact .inr (.inr ⟨this.symm, c⟩)
theorem ah_asy {x : Nat → Rat} {h i : Nat} (k : ah x h i = true) : ah x i h = false := by
  unfold ah at *
  simp only [decide_eq_true_eq] at k
  simp only [decide_eq_false_iff_not]
  rcases k with k | k
  · grind
  · intro z
    rcases z with z | z
    · grind
    · omega
/-- who has one more: closed under coming before -/
def Dn (n : Nat) (x : Nat → Rat) (H : Nat → Bool) : Prop := ∀ i k, i < n → k < n → ah x k i = true → H k = true → H i = true
theorem Dn_iff {n : Nat} {x : Nat → Rat} {H : Nat → Bool} (d : Dn n x H) {h : Nat} (hh : h < n) : H h = true ↔ cntb (ah x h) n < cntb H n := by
  constructor
  · intro t
    exact cntb_lt (fun i hi k => d i h hi hh k t) h hh (ah_irr h) t
  · intro t
    apply Classical.byContradiction
    intro z
    have : cntb H n ≤ cntb (ah x h) n := cntb_mono fun i hi k => by
      have ne : i ≠ h := fun e => z (e ▸ k)
      rcases ah_tot ne with a | a
      · exact a
      · exact absurd (d h i hh hi a k) z
    omega
noncomputable def RPd (n : Nat) (x : Nat → Rat) (T : Int) (h : Nat) : Int := qf (x h) + (if ((cntb (ah x h) n : Nat) : Int) < T - isum (fun i => qf (x i)) n then 1 else 0)
end
section
variable {n : Nat} {F : Nat → Nat → Int} {wv : Int32} {told : Bool} {set : Int32} {cv : Int} {c m : eW}
/-- all is dealt out -/
theorem XX_sum (hF : FOK n F cv) (hn : 0 < n) {falls : Int} (hb : 0 ≤ falls) {x : Nat → Rat} {lv : Rat} (h : IsF n F wv false set falls x lv) : sm x n = (falls : Rat) := by
  rcases h with ⟨h1, h2, h3⟩ | ⟨h1, h2, h3, h4, h5⟩ | ⟨h1, h2, h3, h4⟩
  · rw [sm_cg h2]; exact rx_sum hF hb h1
  · rw [sm_cg h5]; exact h3
  · exfalso
    obtain ⟨v, hv⟩ : ∃ v : Rat, 0 ≤ v ∧ ∀ p, p ∈ edgs F wv false set n → eV p ≤ v := by
      have : ∀ l : List (Int × Int), ∃ v : Rat, 0 ≤ v ∧ ∀ p, p ∈ l → eV p ≤ v := by
        intro l
        induction l with
        | nil => exact ⟨0, Rat.le_refl, fun p hp => by simp at hp⟩
        | cons q l ih =>
          obtain ⟨v, v0, hv⟩ := ih
          by_cases e : eV q ≤ v
          · exact ⟨v, v0, fun p hp => by rcases List.mem_cons.mp hp with rfl | hp; exact e; exact hv p hp⟩
          · refine ⟨eV q, by grind, fun p hp => ?_⟩
            rcases List.mem_cons.mp hp with rfl | hp
            · exact Rat.le_refl
            · have := hv p hp; grind
      exact this _
    have gp := last_goes (set := set) hF hn (e := v) fun k hk p hp => hv.2 p (edg_in hk p hp)
    have hs : ∀ u, v ≤ u → tt n F wv false set u = (rfall n F wv false set v : Rat) + (rgall n F wv false set v : Rat) * (u / 100) := fun u hu => rs_tt hF hv.1 hu fun k hk p hp => .inl (hv.2 p (edg_in hk p hp))
    have g1 : (1 : Rat) ≤ (rgall n F wv false set v : Rat) := by exact_mod_cast (show (1 : Int) ≤ rgall n F wv false set v by omega)
    generalize (rgall n F wv false set v : Rat) = g at *
    generalize (rfall n F wv false set v : Rat) = f at *
    let d : Rat := max 0 ((falls : Rat) - f)
    have d0 : 0 ≤ d := by show 0 ≤ max 0 ((falls : Rat) - f); grind
    have d1 : (falls : Rat) - f ≤ d := by show (falls : Rat) - f ≤ max 0 ((falls : Rat) - f); grind
    have t := h3 (v + 100 * d) (by grind)
    rw [hs (v + 100 * d) (by grind)] at t
    have e1 : (v + 100 * d) / 100 = v / 100 + d := by grind
    have e2 : 0 ≤ v / 100 := qnn hv.1 (by grind)
    rw [e1] at t
    have e3 : v / 100 + d ≤ g * (v / 100 + d) := by
      have := Rat.mul_le_mul_of_nonneg_right g1 (show 0 ≤ v / 100 + d by grind)
      rw [Rat.one_mul] at this; exact this
    grind
theorem paid_left (hF : FOK n F cv) (hn : 0 < n) {T : Int} (hb : 0 ≤ T) {x : Nat → Rat} {lv : Rat} (h : IsF n F wv false set (100 * T) x lv) : T - isum (fun i => qf (x i)) n ≤ n := by
  have s := XX_sum hF hn (show 0 ≤ 100 * T by omega) h
  have e : sm x n = (((isum (fun i => qf (x i)) n : Int) : Rat) + sm (fun i => fr (x i)) n) * 100 := by
    rw [isum_cast, ← sm_add, ← sm_mul]
    exact sm_cg fun i hi => by unfold fr; grind
  have f1 : sm (fun i => fr (x i)) n ≤ (n : Rat) := by
    have : sm (fun i => fr (x i)) n ≤ sm (fun _ => (1 : Rat)) n := sm_le fun i hi => Rat.le_of_lt (fr_b _).2
    have k : ∀ n : Nat, sm (fun _ => (1 : Rat)) n = (n : Rat) := by
      intro n
      induction n with
      | zero => rfl
      | succ n ih => simp only [sm, ih]; rw [Rat.natCast_add]; rfl
    rw [k] at this
    exact this
  rw [e, Rat.intCast_mul] at s
  have s2 : ((100 : Int) : Rat) = 100 := rfl
  rw [s2] at s
  have : ((T - isum (fun i => qf (x i)) n : Int) : Rat) ≤ ((n : Int) : Rat) := by
    rw [Rat.intCast_sub]
    have : ((n : Int) : Rat) = (n : Rat) := rfl
    grind
  exact_mod_cast this
theorem qf_b {x : Rat} {T : Int} (h0 : 0 ≤ x) (h1 : x ≤ ((100 * T : Int) : Rat)) : 0 ≤ qf x ∧ qf x ≤ T := by
  unfold qf
  have e : ((100 * T : Int) : Rat) = 100 * (T : Rat) := by rw [Rat.intCast_mul]; rfl
  constructor
  · rw [Rat.le_floor_iff]; exact qnn h0 (by grind)
  · have := Rat.floor_le (x / 100)
    have k : ((x / 100).floor : Rat) ≤ (T : Rat) := by grind
    exact_mod_cast k
/-- the class -/
theorem units_loop (hF : FOK n F cv) {w : eW} (h19 : w.1 19 0 = Int32.ofInt (n : Nat)) {x : Nat → Rat} {b : Int} (b1 : 1 ≤ b) (b2 : b ≤ 5939406000) {a : Nat → Int} {T : Int} (hT : 0 ≤ T ∧ T ≤ 9999999) (ha : ∀ k, k < n → w.2 22 k = Int64.ofInt (a k) ∧ f_fa_aboveOf (Int32.ofInt (k : Nat)) w = some (Int64.ofInt (a k), w) ∧ (a k : Rat) = x k * (b : Rat) ∧ 0 ≤ a k ∧ a k ≤ 5939405406060000000) (hx : ∀ k, k < n → 0 ≤ qf (x k) ∧ qf (x k) ≤ T) {h : Nat} (hh : h < n) :
    ∀ (d k f : Nat), k + d = n → d < f → f_fa_unitsOf_L36 f (Int32.ofInt (h : Nat)) (Int64.ofInt (100 * b)) (Int64.ofInt (a h % (100 * b))) (Int64.ofInt (T - isum (fun i => qf (x i)) k)) (Int32.ofInt ((cntb (ah x h) k : Nat) : Int)) (Int32.ofInt (k : Nat)) w = some (Int32.ofInt (RPd n x T h), w) := by
  have hn := hF.1
  intro d
  induction d with
  | zero =>
    intro k f hk hf
    obtain ⟨f, rfl⟩ := Nat.exists_eq_succ_of_ne_zero (show f ≠ 0 by omega)
    have : k = n := by omega
    subst this
    unfold f_fa_unitsOf_L36
    obtain ⟨y1, y2, y3, y4, y5⟩ := ha h hh
    have ib := isum_b (f := fun i => qf (x i)) (B := 9999999) (n := k) fun i hi => by have := hx i hi; omega
    have cb := cntb_le (ah x h) k
    have q := hx h hh
    rw [h19, if_pos (by rw [ile (by omega) (by omega) (by omega) (by omega)]; omega), y2, obind]
    dsimp only
    rw [if_neg (by rw [jlit0, jeq (by omega) (by omega) (by omega) (by omega)]; omega), i2j (by omega) (by omega)]
    simp only [lg_cmp_ge]
    rw [jdiv y4 (by omega) (by omega) (by omega), (qf_div (by omega) y3).1, j2i, ite_congr (propext (jle (by omega) (by omega) (by omega) (by omega))) (fun _ => rfl) (fun _ => rfl)]
    unfold RPd
    by_cases e : ((cntb (ah x h) k : Nat) : Int) < T - isum (fun i => qf (x i)) k
    · rw [if_neg (by omega), if_pos e, show (1 : Int32) = Int32.ofInt 1 from rfl, ← Int32.ofInt_add]
    · rw [if_pos (by omega), if_neg e, show (0 : Int32) = Int32.ofInt 0 from rfl, ← Int32.ofInt_add]
  | succ d ih =>
    intro k f hk hf
    obtain ⟨f, rfl⟩ := Nat.exists_eq_succ_of_ne_zero (show f ≠ 0 by omega)
    obtain ⟨y1, y2, y3, y4, y5⟩ := ha h hh
    obtain ⟨z1, z2, z3, z4, z5⟩ := ha k (by omega)
    have cb := cntb_le (ah x h) k
    unfold f_fa_unitsOf_L36
    have u0 : ¬ (Int64.ofInt (100 * b) = 0) := by rw [jlit0, jeq (by omega) (by omega) (by omega) (by omega)]; omega
    rw [h19, if_neg (by rw [ile (by omega) (by omega) (by omega) (by omega)]; omega), eChk_of (by omega) (by omega) (by omega), if_neg u0, eChk_of (by omega) (by omega) (by omega), if_neg u0, icl (by omega) (by omega), nat_i, z1, jmod z4 (by omega) (by omega) (by omega), jdiv z4 (by omega) (by omega) (by omega), (qf_div (by omega) z3).1, ← Int64.ofInt_sub]
    simp only [isucc]
    have e1 := ih (k + 1) f (by omega) (by omega)
    have r1 := Int.emod_nonneg (a k) (show 100 * b ≠ 0 by omega)
    have r2 := Int.emod_lt_of_pos (a k) (show 0 < 100 * b by omega)
    have r3 := Int.emod_nonneg (a h) (show 100 * b ≠ 0 by omega)
    have r4 := Int.emod_lt_of_pos (a h) (show 0 < 100 * b by omega)
    rw [isum_succ, show T - (isum (fun i => qf (x i)) k + qf (x k)) = T - isum (fun i => qf (x i)) k - qf (x k) by omega] at e1
    simp only [lg_cmp_gt, lg_cmp_eq]
    rw [ite_congr (propext (jlt (by omega) (by omega) (by omega) (by omega))) (fun _ => rfl) (fun _ => rfl)]
    have t1 := fr_lt (show 0 < b by omega) y3 z3
    have t2 := fr_lt (show 0 < b by omega) z3 y3
    simp only [cntb] at e1
    by_cases g1 : a h % (100 * b) < a k % (100 * b)
    · rw [if_pos g1, ← e1, if_pos (show ah x h k = true by unfold ah; simp only [decide_eq_true_eq]; exact .inl (t1.mp g1))]
    · rw [if_neg g1, ite_congr (propext (not_congr (jeq (by omega) (by omega) (by omega) (by omega)))) (fun _ => rfl) (fun _ => rfl)]
      by_cases g2 : a k % (100 * b) = a h % (100 * b)
      · have fe : fr (x k) = fr (x h) := by
          have a1 : ¬ fr (x h) < fr (x k) := fun z => g1 (t1.mpr z)
          have a2 : ¬ fr (x k) < fr (x h) := fun z => by have := t2.mpr z; omega
          grind
        rw [if_neg (fun z => z g2), ite_congr (propext (ile (by omega) (by omega) (by omega) (by omega))) (fun _ => rfl) (fun _ => rfl)]
        by_cases g3 : k < h
        · rw [if_neg (by omega), ← e1, if_pos (show ah x h k = true by unfold ah; simp only [decide_eq_true_eq]; exact .inr ⟨fe, g3⟩)]
        · rw [if_pos (by omega), ← e1, if_neg (show ¬ ah x h k = true by unfold ah; simp only [decide_eq_true_eq]; intro z; rcases z with z | z; grind; omega)]
          simp only [Int32.add_zero, Nat.add_zero]
      · rw [if_pos g2, ← e1, if_neg (show ¬ ah x h k = true by
          unfold ah; simp only [decide_eq_true_eq]; intro z; rcases z with z | z
          · exact g1 (t1.mpr z)
          · have a1 : ¬ fr (x k) < fr (x h) := by rw [z.1]; exact Rat.lt_irrefl
            have : ¬ a k % (100 * b) < a h % (100 * b) := fun y => a1 (t2.mp y)
            omega)]
        simp only [Int32.add_zero, Nat.add_zero]
theorem x_unitsFor (hF : FOK n F cv) (hC : CF c n F cv wv) {h : Nat} (hh : h < n) {a : Int} (h1 : 0 ≤ a) (h2 : a ≤ 9999999) : Ok (f_xx_unitsFor (Int32.ofInt (h : Nat)) (Int32.ofInt a) c) fun p => p.1 = Int32.ofInt (RPd n (XX n F wv false 0 (100 * fallsI cv a)) (fallsI cv a) h) ∧ Fr QS c p.2 := by
  have q := fallsI_b hF.2.1 hF.2.2.1 h1 h2
  have fb := falls_b hF h1 h2
  unfold f_xx_unitsFor
  refine Ok.bind (xx_pour hF hC h1 h2) ?_
  rintro c' ⟨q1, -, -, q4⟩
  rw [c_fallsOf hF q4.1 h1 h2, obind]
  dsimp only
  obtain ⟨b, x, e1, e2, e3, e4, e5⟩ := q4.ab hF fb
  obtain ⟨y1, y2, y3, y4, y5, y6⟩ := e5 h hh
  unfold f_fa_unitsOf
  rw [e1, jlit100, ← Int64.ofInt_mul, Int.mul_comm b 100]
  simp only [lg_cmp_gt]
  rw [if_pos (by rw [jlit0, jlt (by omega) (by omega) (by omega) (by omega)]; omega), y2, obind]
  dsimp only
  rw [if_neg (by rw [jlit0, jeq (by omega) (by omega) (by omega) (by omega)]; omega), jmod y4 (by omega) (by omega) (by omega), i2j (by omega) (by omega)]
  have L := units_loop hF q4.2.1.1.1 e2 e4 (T := fallsI cv a) (by omega) (fun k hk => by obtain ⟨z1, z2, z3, z4, z5, z6⟩ := e5 k hk; exact ⟨z1, z2, z3, z4, z5⟩) (fun k hk => by
    have xb := IsF_b hF fb.1 q4.2.2.1 hk
    exact qf_b xb.1 xb.2) hh n 0 eFu (by omega) (by rw [eFu_eq]; have := hF.1; omega)
  rw [show fallsI cv a - isum (fun i => qf (XX n F wv false 0 (100 * fallsI cv a) i)) 0 = fallsI cv a by show fallsI cv a - 0 = _; omega] at L
  rw [show ((0 : Int32)) = Int32.ofInt ((cntb (ah (XX n F wv false 0 (100 * fallsI cv a)) h) 0 : Nat) : Int) from rfl]
  have L2 : f_fa_unitsOf_L36 eFu (Int32.ofInt (h : Nat)) (Int64.ofInt (100 * b)) (Int64.ofInt (x h % (100 * b))) (Int64.ofInt (fallsI cv a)) (Int32.ofInt ((cntb (ah (XX n F wv false 0 (100 * fallsI cv a)) h) 0 : Nat) : Int)) (Int32.ofInt ((cntb (ah (XX n F wv false 0 (100 * fallsI cv a)) h) 0 : Nat) : Int)) c' = _ := L
  rw [L2, obind]
  exact Ok.ret ⟨rfl, q1⟩
end
section
variable {n : Nat} {F : Nat → Nat → Int} {wv : Int32} {told : Bool} {set : Int32} {cv : Int} {c m : eW}
/-- what lies while whole units are dealt out -/
def PW (n : Nat) (a : Nat → Int) (w w' : eW) : Prop := w'.2 = w.2 ∧ w'.1 24 = w.1 24 ∧ (∀ i, i ≠ 17 → i ≠ 18 → w'.1 i = w.1 i)
theorem PW.rfl {n : Nat} {a : Nat → Int} {w : eW} : PW n a w w := ⟨Eq.refl _, Eq.refl _, fun _ _ _ => Eq.refl _⟩
theorem PW.tr {n : Nat} {a : Nat → Int} {u v w : eW} (h : PW n a u v) (k : PW n a v w) : PW n a u w := ⟨k.1.trans h.1, k.2.1.trans h.2.1, fun i h1 h2 => (k.2.2 i h1 h2).trans (h.2.2 i h1 h2)⟩
theorem PW.u1 {n : Nat} {a : Nat → Int} {u v : eW} {i k : Nat} {x : Int32} (h : PW n a u v) (hi : i = 17 ∨ i = 18) : PW n a u (eU1 v i k x) := ⟨h.1, by rw [← h.2.1]; funext j; exact u1n _ _ _ _ _ _ (by omega), fun j h1 h2 => by rw [← h.2.2 j h1 h2]; funext l; exact u1n _ _ _ _ _ _ (by omega)⟩
theorem PW.km {n : Nat} {a : Nat → Int} {u v : eW} (h : PW n a u v) : Km u v := fun i k h1 h2 => ⟨by rw [h.2.2 i (by omega) (by omega)], by rw [h.1]⟩
def HW (n : Nat) (x : Nat → Rat) (H : Nat → Bool) (w : eW) : Prop := ∀ h, h < n → w.1 18 h = b2i (H h) ∧ w.1 17 h = Int32.ofInt (qf (x h) + (if H h then 1 else 0))
theorem best_loop (hn : n ≤ 12) {x : Nat → Rat} {b : Int} (b1 : 1 ≤ b) (b2 : b ≤ 15000000000) {a : Nat → Int} {w : eW} (h24 : w.1 24 1 = Int32.ofInt (n : Nat)) (ha : ∀ k, k < n → w.2 16 k = Int64.ofInt (a k) ∧ (a k : Rat) = x k * (b : Rat) ∧ 0 ≤ a k ∧ a k < 9223372036854775807) {H : Nat → Bool} (hw : HW n x H w) (hx : ∃ i, i < n ∧ H i = false) (k84 : Int64 → Int32 → eW → Option eW) (left : Int32) {P : eW → Prop}
    (fin : ∀ k, k < n → H k = false → (∀ i, i < n → H i = false → i = k ∨ ah x i k = true) → Ok (k84 (Int64.ofInt (100 * b)) (left + (-1 : Int32)) (eU1 (eU1 w 18 k 1) 17 k (w.1 17 k + 1))) P) :
    ∀ (d j f : Nat), j + d = n → d < f → ∀ best : Int32, ((best = -1 ∧ ∀ i, i < j → H i = true) ∨ (∃ k, k < j ∧ best = Int32.ofInt (k : Nat) ∧ H k = false ∧ ∀ i, i < j → H i = false → i = k ∨ ah x i k = true)) → Ok (f_mm_layPaid_L102 k84 f (Int64.ofInt (100 * b)) left best (Int32.ofInt (j : Nat)) w) P := by
  intro d
  induction d with
  | zero =>
    intro j f hj hf best hb
    obtain ⟨f, rfl⟩ := Nat.exists_eq_succ_of_ne_zero (show f ≠ 0 by omega)
    have : j = n := by omega
    subst this
    unfold f_mm_layPaid_L102
    rw [h24, if_pos (by rw [ile (by omega) (by omega) (by omega) (by omega)]; omega)]
    rcases hb with ⟨-, hb⟩ | ⟨k, hk, rfl, h1, h2⟩
    · obtain ⟨i, hi, hz⟩ := hx
      rw [hb i hi] at hz
      cases hz
    · rw [eChk_of (by omega) (by omega) (by omega), eChk_of (by omega) (by omega) (by omega), eChk_of (by omega) (by omega) (by omega), icl (by omega) (by omega), nat_i]
      exact fin k hk h1 h2
  | succ d ih =>
    intro j f hj hf best hb
    obtain ⟨f, rfl⟩ := Nat.exists_eq_succ_of_ne_zero (show f ≠ 0 by omega)
    unfold f_mm_layPaid_L102
    have hjw := hw j (by omega)
    have u0 : ¬ (Int64.ofInt (100 * b) = 0) := by rw [jlit0, jeq (by omega) (by omega) (by omega) (by omega)]; omega
    rw [h24, if_neg (by rw [ile (by omega) (by omega) (by omega) (by omega)]; omega), eChk_of (by omega) (by omega) (by omega), icl (by omega) (by omega), nat_i, hjw.1]
    simp only [b2i_0]
    rw [isucc]
    by_cases hH' : ¬ H j = false
    · have hH := hH'
      rw [if_pos hH]
      refine ih (j + 1) f (by omega) (by omega) best ?_
      have hH : H j = true := by simpa using hH
      rcases hb with ⟨e, hb⟩ | ⟨k, hk, e, h1, h2⟩
      · exact .inl ⟨e, fun i hi => by by_cases z : i = j; rw [z]; exact hH; exact hb i (by omega)⟩
      · refine .inr ⟨k, by omega, e, h1, fun i hi hz => ?_⟩
        by_cases z : i = j
        · rw [z, hH] at hz; cases hz
        · exact h2 i (by omega) hz
    have hH : H j = false := by simpa using hH'
    rw [if_neg (fun z => z hH)]
    have self : ∀ i, i < j + 1 → H i = false → (∀ i, i < j → H i = false → ah x i j = true) → i = j ∨ ah x i j = true := fun i hi hz hy => by
      by_cases z : i = j
      · exact .inl z
      · exact .inr (hy i (by omega) hz)
    rcases hb with ⟨rfl, hb⟩ | ⟨k, hk, rfl, h1, h2⟩
    · rw [if_pos (by decide)]
      refine ih (j + 1) f (by omega) (by omega) _ (.inr ⟨j, by omega, rfl, hH, fun i hi hz => self i hi hz fun i hi hz => ?_⟩)
      rw [hb i hi] at hz; cases hz
    · obtain ⟨y1, y2, y3, y4⟩ := ha j (by omega)
      obtain ⟨z1, z2, z3, z4⟩ := ha k (by omega)
      have r1 := Int.emod_nonneg (a k) (show 100 * b ≠ 0 by omega)
      have r2 := Int.emod_lt_of_pos (a k) (show 0 < 100 * b by omega)
      have r3 := Int.emod_nonneg (a j) (show 100 * b ≠ 0 by omega)
      have r4 := Int.emod_lt_of_pos (a j) (show 0 < 100 * b by omega)
      rw [if_neg (by rw [show (0 : Int32) = Int32.ofInt 0 from rfl, ilt (by omega) (by omega) (by omega) (by omega)]; omega), eChk_of (by omega) (by omega) (by omega), if_neg u0, eChk_of (by omega) (by omega) (by omega), if_neg u0, icl (by omega) (by omega), nat_i, y1, z1, jmod y3 (by omega) (by omega) (by omega), jmod z3 (by omega) (by omega) (by omega)]
      simp only [lg_cmp_le]
      rw [ite_congr (propext (jle (by omega) (by omega) (by omega) (by omega))) (fun _ => rfl) (fun _ => rfl)]
      have t := fr_le (show 0 < b by omega) y2 z2
      by_cases g : a j % (100 * b) ≤ a k % (100 * b)
      · rw [if_pos g]
        refine ih (j + 1) f (by omega) (by omega) _ (.inr ⟨k, by omega, rfl, h1, fun i hi hz => ?_⟩)
        by_cases z : i = j
        · right
          rw [z]
          unfold ah
          simp only [decide_eq_true_eq]
          have := t.mp g
          by_cases e : fr (x j) < fr (x k)
          · exact .inl e
          · exact .inr ⟨by grind, hk⟩
        · exact h2 i (by omega) hz
      · rw [if_neg g]
        have lt : fr (x k) < fr (x j) := by rw [← Rat.not_le]; exact fun z => g (t.mpr z)
        refine ih (j + 1) f (by omega) (by omega) _ (.inr ⟨j, by omega, rfl, hH, fun i hi hz => self i hi hz fun i hi hz => ?_⟩)
        unfold ah
        simp only [decide_eq_true_eq]
        rcases h2 i hi hz with rfl | h3
        · exact .inl lt
        · unfold ah at h3
          simp only [decide_eq_true_eq] at h3
          left
          rcases h3 with h3 | h3 <;> grind
theorem deal_loop (hn : n ≤ 12) (hn0 : 0 < n) {x : Nat → Rat} {b : Int} (b1 : 1 ≤ b) (b2 : b ≤ 15000000000) {a : Nat → Int} (hq : ∀ h, h < n → 0 ≤ qf (x h) ∧ qf (x h) ≤ 9999999) {L : Int} (hL : -1000000000 ≤ L ∧ L ≤ n) :
    ∀ (d f : Nat), d < f → ∀ (j : Nat) (H : Nat → Bool) (w : eW), d = (L - j).toNat → w.1 24 1 = Int32.ofInt (n : Nat) → (∀ k, k < n → w.2 16 k = Int64.ofInt (a k) ∧ (a k : Rat) = x k * (b : Rat) ∧ 0 ≤ a k ∧ a k < 9223372036854775807) → HW n x H w → Dn n x H → cntb H n = j → (j : Int) ≤ max L 0 → Ok (f_mm_layPaid_L84 f (Int64.ofInt (100 * b)) (Int32.ofInt (L - j)) w) fun w' => PW n a w w' ∧ ∃ H', HW n x H' w' ∧ Dn n x H' ∧ cntb H' n = L.toNat := by
  intro d
  induction d with
  | zero =>
    intro f hf j H w hd h24 ha hw dn hc hj
    obtain ⟨f, rfl⟩ := Nat.exists_eq_succ_of_ne_zero (show f ≠ 0 by omega)
    unfold f_mm_layPaid_L84
    rw [if_pos (by rw [show (0 : Int32) = Int32.ofInt 0 from rfl, ile (by omega) (by omega) (by omega) (by omega)]; omega)]
    exact Ok.ret ⟨PW.rfl, H, hw, dn, by omega⟩
  | succ d ih =>
    intro f hf j H w hd h24 ha hw dn hc hj
    obtain ⟨f, rfl⟩ := Nat.exists_eq_succ_of_ne_zero (show f ≠ 0 by omega)
    unfold f_mm_layPaid_L84
    rw [if_neg (by rw [show (0 : Int32) = Int32.ofInt 0 from rfl, ile (by omega) (by omega) (by omega) (by omega)]; omega), h24, if_neg (by rw [show (0 : Int32) = Int32.ofInt 0 from rfl, ile (by omega) (by omega) (by omega) (by omega)]; omega)]
    have ex : ∃ i, i < n ∧ H i = false := by
      apply Classical.byContradiction
      intro z
      have : cntb H n = n := cntb_all fun i hi => by
        cases e : H i with
        | true => rfl
        | false => exact absurd ⟨i, hi, e⟩ z
      omega
    refine best_loop hn b1 b2 h24 ha hw ex (f_mm_layPaid_L84 f) _ ?_ n 0 eFu (by omega) (by rw [eFu_eq]; omega) _ (.inl ⟨rfl, by omega⟩)
    intro k hk hz hmin
    rw [show (-1 : Int32) = Int32.ofInt (-1) from rfl, ← Int32.ofInt_add, show L - j + -1 = L - (j + 1 : Nat) by omega]
    have p1 : PW n a w (eU1 (eU1 w 18 k 1) 17 k (w.1 17 k + 1)) := (PW.rfl.u1 (by omega)).u1 (by omega)
    refine Ok.imp (ih f (by omega) (j + 1) (fun i => H i || decide (i = k)) _ (by omega) (by rw [p1.2.1, h24]) (fun i hi => by rw [p1.1]; exact ha i hi) ?_ ?_ ?_ (by omega)) ?_
    · intro i hi
      have hwi := hw i hi
      by_cases e : i = k
      · subst e
        rw [u1n _ _ _ _ _ _ (by omega), u1s, u1s, hwi.2, hz]
        have q := hq i hi
        simp only [Bool.or_true, Bool.false_or, decide_true, if_true]
        refine ⟨rfl, ?_⟩
        rw [if_neg (by simp), show (1 : Int32) = Int32.ofInt 1 from rfl, ← Int32.ofInt_add, Int.add_zero]
      · rw [u1n _ _ _ _ _ _ (by omega), u1n _ _ _ _ _ _ (by omega), u1n _ _ _ _ _ _ (by omega), u1n _ _ _ _ _ _ (by omega), hwi.1, hwi.2]
        simp [e]
    · intro i l hi hl t u
      have g : H i = true ∨ H i = false := by cases H i <;> simp
      rcases g with g | g
      · simp [g]
      · have hi2 := hmin i hi g
        simp only [Bool.or_eq_true, decide_eq_true_eq] at u ⊢
        rcases u with u | rfl
        · rw [dn i l hi hl t u] at g; cases g
        · rcases hi2 with e | e
          · exact .inr e
          · rw [ah_asy e] at t; cases t
    · rw [cntb_add hz, if_pos hk, hc]
    · rintro w' ⟨q1, q2⟩
      exact ⟨p1.tr q1, q2⟩
theorem whole_loop (hn : n ≤ 12) (hn0 : 0 < n) {x : Nat → Rat} {b : Int} (b1 : 1 ≤ b) (b2 : b ≤ 15000000000) {a : Nat → Int} (hq : ∀ h, h < n → 0 ≤ qf (x h) ∧ qf (x h) ≤ 9999999) {T : Int} (hT : 0 ≤ T ∧ T ≤ 9999999) (hL : T - isum (fun i => qf (x i)) n ≤ n) :
    ∀ (d k f : Nat), k + d = n → d < f → ∀ w : eW, w.1 24 1 = Int32.ofInt (n : Nat) → (∀ k, k < n → w.2 16 k = Int64.ofInt (a k) ∧ (a k : Rat) = x k * (b : Rat) ∧ 0 ≤ a k ∧ a k < 9223372036854775807) → HW k x (fun _ => false) w → Ok (f_mm_layPaid_L32 f (Int64.ofInt (100 * b)) (Int32.ofInt (T - isum (fun i => qf (x i)) k)) (Int32.ofInt (k : Nat)) w) fun w' => PW n a w w' ∧ ∀ h, h < n → w'.1 17 h = Int32.ofInt (RPd n x T h) := by
  intro d
  induction d with
  | zero =>
    intro k f hk hf w h24 ha hw
    obtain ⟨f, rfl⟩ := Nat.exists_eq_succ_of_ne_zero (show f ≠ 0 by omega)
    have : k = n := by omega
    subst this
    have ib := isum_b (f := fun i => qf (x i)) (B := 9999999) (n := k) fun i hi => by have := hq i hi; omega
    unfold f_mm_layPaid_L32
    rw [h24, if_pos (by rw [ile (by omega) (by omega) (by omega) (by omega)]; omega)]
    have D := deal_loop hn hn0 b1 b2 (a := a) hq (L := T - isum (fun i => qf (x i)) k) (by omega) _ eFu (by rw [eFu_eq]; omega) 0 (fun _ => false) w rfl h24 ha hw (fun i k _ _ _ z => by cases z) ?_ (by omega)
    · rw [show T - isum (fun i => qf (x i)) k - ((0 : Nat) : Int) = T - isum (fun i => qf (x i)) k by omega] at D
      refine Ok.imp D ?_
      rintro w' ⟨q1, H, q2, q3, q4⟩
      refine ⟨q1, fun h hh => ?_⟩
      rw [(q2 h hh).2]
      unfold RPd
      have := Dn_iff q3 hh
      rw [q4] at this
      by_cases e : H h = true
      · rw [if_pos e, if_pos (by have := this.mp e; omega)]
      · rw [if_neg e, if_neg (by have : ¬ (cntb (ah x h) k < (T - isum (fun i => qf (x i)) k).toNat) := fun z => e (this.mpr z); omega)]
    · have : ∀ n, cntb (fun _ => false) n = 0 := by
        intro n
        induction n with
        | zero => rfl
        | succ n ih => simp [cntb, ih]
      exact this k
  | succ d ih =>
    intro k f hk hf w h24 ha hw
    obtain ⟨f, rfl⟩ := Nat.exists_eq_succ_of_ne_zero (show f ≠ 0 by omega)
    unfold f_mm_layPaid_L32
    obtain ⟨y1, y2, y3, y4⟩ := ha k (by omega)
    have u0 : ¬ (Int64.ofInt (100 * b) = 0) := by rw [jlit0, jeq (by omega) (by omega) (by omega) (by omega)]; omega
    rw [h24, if_neg (by rw [ile (by omega) (by omega) (by omega) (by omega)]; omega), eChk_of (by omega) (by omega) (by omega), if_neg u0, eChk_of (by omega) (by omega) (by omega), eChk_of (by omega) (by omega) (by omega), eChk_of (by omega) (by omega) (by omega), icl (by omega) (by omega), nat_i, u1s, y1, jdiv y3 (by omega) (by omega) (by omega), (qf_div (by omega) y2).1, j2i, ← Int32.ofInt_sub, isucc]
    have p1 : PW n a w (eU1 (eU1 w 17 k (Int32.ofInt (qf (x k)))) 18 k (vp_nar .boolean (0 : Int32))) := (PW.rfl.u1 (by omega)).u1 (by omega)
    have I := ih (k + 1) f (by omega) (by omega) _ (by rw [p1.2.1]; exact h24) (fun i hi => by rw [p1.1]; exact ha i hi) ?_
    · rw [isum_succ, show T - (isum (fun i => qf (x i)) k + qf (x k)) = T - isum (fun i => qf (x i)) k - qf (x k) by omega] at I
      refine Ok.imp I ?_
      rintro w' ⟨q1, q2⟩
      exact ⟨p1.tr q1, q2⟩
    · intro i hi
      by_cases e : i = k
      · subst e
        rw [u1s, u1n _ _ _ _ _ _ (by omega), u1s]
        exact ⟨rfl, by simp⟩
      · have := hw i (by omega)
        rw [u1n _ _ _ _ _ _ (by omega), u1n _ _ _ _ _ _ (by omega), u1n _ _ _ _ _ _ (by omega), u1n _ _ _ _ _ _ (by omega)]
        exact this
theorem m_paidOf (hF : FOK n F cv) (hM : MF m n F cv wv) {h : Nat} (hh : h < n) {a : Int} (h1 : 0 ≤ a) (h2 : a ≤ 9999999) : Ok (f_mm_paidOf (Int32.ofInt (h : Nat)) (Int32.ofInt a) m) fun p => p.1 = Int32.ofInt (RPd n (XX n F wv false 0 (100 * fallsI cv a)) (fallsI cv a) h) ∧ Km m p.2 := by
  have hn := hF.1
  have q := fallsI_b hF.2.1 hF.2.2.1 h1 h2
  have fb := falls_b hF h1 h2
  unfold f_mm_paidOf f_mm_layPaid
  refine Ok.bind (P := fun w => Km m w ∧ ∀ h, h < n → w.1 17 h = Int32.ofInt (RPd n (XX n F wv false 0 (100 * fallsI cv a)) (fallsI cv a) h)) (Ok.bind (m_layBy hF hM h1 h2) ?_) ?_
  · rintro m1 ⟨k1, -, -, -, mp⟩
    rw [mp.1.2.1, m_fallsBy hF.2.1 hF.2.2.1 h1 h2, obind]
    dsimp only
    obtain ⟨b, x, e1, e2, e3, e5⟩ := mp.ab (by omega)
    rw [e1, jlit100, ← Int64.ofInt_mul, jdiv (by omega) (by omega) (by omega) (by omega), j2i, show 100 * fallsI cv a / 100 = fallsI cv a by omega]
    have W := whole_loop hn (by omega) e2 e3 (a := x) (x := XX n F wv false 0 (100 * fallsI cv a)) (fun k hk => by
      have xb := IsF_b hF fb.1 (mp.2 (by omega)).1 hk
      have := qf_b xb.1 xb.2
      omega) (T := fallsI cv a) (by omega) (paid_left hF (by omega) q.2.2.1 (mp.2 (by omega)).1) n 0 eFu (by omega) (by rw [eFu_eq]; omega) m1 mp.1.1 e5 (fun i hi => by omega)
    rw [show fallsI cv a - isum (fun i => qf (XX n F wv false 0 (100 * fallsI cv a) i)) 0 = fallsI cv a by show fallsI cv a - 0 = _; omega] at W
    refine Ok.imp W ?_
    rintro w' ⟨q1, q2⟩
    exact ⟨k1.tr q1.km, q2⟩
  · rintro w ⟨k1, hw⟩
    rw [eChk_of (by omega) (by omega) (by omega), icl (by omega) (by omega), nat_i, hw h hh]
    exact Ok.ret ⟨rfl, k1⟩
theorem q_paid (hF : FOK n F cv) (hC : CF c n F cv wv) (hM : MF m n F cv wv) (a1 a2 : Int32) : Qr (f_xx_paid a1 a2 c) (f_mm_paid a1 a2 m) c m := by
  have hM0 := hM.km (m0k m)
  unfold f_xx_paid f_mm_paid
  rw [x_isAsked hF hC, obind, m_isHolder hF hM0, obind]
  dsimp only
  simp only [b2i_0]
  by_cases h : 0 ≤ a1.toInt ∧ a1.toInt < n
  · by_cases k : 0 ≤ a2.toInt ∧ a2.toInt ≤ 9999999
    · rw [if_neg (by simp [h, k]), if_neg (by simp [h]), m_isAmount, obind]
      dsimp only
      simp only [b2i_0]
      rw [if_neg (by simp [k])]
      obtain ⟨h1, hh, rfl⟩ := hold_of h
      obtain ⟨z, z1, z2, rfl⟩ := amt_of k
      refine Qr.of (Int32.ofInt (RPd n (XX n F wv false 0 (100 * fallsI cv z)) (fallsI cv z) h1)) (Ok.bind (x_unitsFor hF hC hh z1 z2) ?_) (Ok.bind (m_paidOf hF hM0 hh z1 z2) ?_)
      · rintro ⟨r, c'⟩ ⟨q1, q2⟩
        exact Ok.ret ⟨q1, q2⟩
      · rintro ⟨r, c'⟩ ⟨q1, q2⟩
        exact Ok.ret ⟨q1, (m0k m).tr q2⟩
    · rw [if_pos (by simp [k]), if_neg (by simp [h]), m_isAmount, obind]
      dsimp only
      simp only [b2i_0]
      rw [if_pos (by simpa using k)]
      exact Qr.of _ (Ok.ret ⟨rfl, Fr.rfl⟩) (Ok.ret ⟨rfl, m0k m⟩)
  · rw [if_pos (by simp [h]), if_pos (by simpa using h)]
    exact Qr.of _ (Ok.ret ⟨rfl, Fr.rfl⟩) (Ok.ret ⟨rfl, m0k m⟩)
end
