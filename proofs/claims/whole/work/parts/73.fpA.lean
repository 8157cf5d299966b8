/-! ===== numbers with a point, 0 or more ===== -/
section
abbrev P2 (q : Int) : Rat := (2 : Rat) ^ q
theorem two_ne : (2 : Rat) ≠ 0 := by decide
theorem P2_add (a b : Int) : P2 (a + b) = P2 a * P2 b := Rat.zpow_add two_ne a b
theorem P2_pos (a : Int) : 0 < P2 a := Rat.zpow_pos (by decide)
theorem P2_0 : P2 0 = 1 := Rat.zpow_zero 2
theorem P2_nat (k : Nat) : P2 (k : Int) = ((2 ^ k : Nat) : Rat) := by
  show (2 : Rat) ^ (k : Int) = _
  rw [Rat.zpow_natCast, Rat.natCast_pow]; rfl
theorem P2_neg (a : Int) : P2 a * P2 (-a) = 1 := by rw [← P2_add, Int.add_right_neg, P2_0]
theorem P2_1 : P2 1 = 2 := Rat.zpow_one 2
theorem P2_succ (a : Int) : P2 (a + 1) = P2 a * 2 := by rw [P2_add, P2_1]
theorem P2_ge1 {a : Int} (h : 0 ≤ a) : 1 ≤ P2 a := by
  obtain ⟨k, rfl⟩ := Int.eq_ofNat_of_zero_le h
  rw [P2_nat]
  exact_mod_cast Nat.one_le_two_pow
theorem P2_mono {a b : Int} (h : a ≤ b) : P2 a ≤ P2 b := by
  rw [show b = a + (b - a) by omega, P2_add]
  have := Rat.mul_le_mul_of_nonneg_left (P2_ge1 (show 0 ≤ b - a by omega)) (Rat.le_of_lt (P2_pos a))
  rwa [Rat.mul_one] at this
theorem P2_lt {a b : Int} (h : P2 a < P2 b) : a < b := by
  apply Classical.byContradiction
  intro z
  have := P2_mono (show b ≤ a by omega)
  grind
/-- the format is none too small -/
abbrev Gf (f : FP.Core.Fmt) : Prop := 2 ≤ f.p ∧ 2 ≤ f.w
variable {f : FP.Core.Fmt}
theorem T_pos : 0 < f.tails := Nat.two_pow_pos _
theorem T_2 (g : Gf f) : 2 ^ f.p = 2 * f.tails := by
  unfold FP.Core.Fmt.tails
  rw [show f.p = (f.p - 1) + 1 by omega, Nat.pow_succ]
  simp; omega
theorem X_e (g : Gf f) : f.exps = 2 * (f.emax + 1) := by
  unfold FP.Core.Fmt.exps FP.Core.Fmt.emax
  have : 0 < 2 ^ (f.w - 1) := Nat.two_pow_pos _
  rw [show f.w = (f.w - 1) + 1 by omega, Nat.pow_succ]
  simp only [Nat.add_sub_cancel]
  omega
theorem emax_1 (g : Gf f) : 1 ≤ f.emax := by
  unfold FP.Core.Fmt.emax
  have : 2 ^ 1 ≤ 2 ^ (f.w - 1) := Nat.pow_le_pow_right (by omega) (by omega)
  omega
/-- the bits of the infinite -/
def fI (f : FP.Core.Fmt) : Nat := (f.exps - 1) * f.tails
/-- what bits are worth -/
def fV (f : FP.Core.Fmt) (n : Nat) : Rat := if n / f.tails = 0 then (n : Rat) * P2 f.qmin else ((f.tails + n % f.tails : Nat) : Rat) * P2 (f.qmin + ((n / f.tails : Nat) - 1 : Int))
theorem div_lt_X (g : Gf f) {n : Nat} (h : n < fI f) : n / f.tails < f.exps - 1 := (Nat.div_lt_iff_lt_mul T_pos).mpr h
theorem dec_fin (g : Gf f) {n : Nat} (h : n < fI f) : ∃ c q, FP.Core.decode f n = .fin false c q ∧ fV f n = (c : Rat) * P2 q := by
  have d := div_lt_X g h
  have eE : FP.Core.fieldE f n = n / f.tails := by unfold FP.Core.fieldE; exact Nat.mod_eq_of_lt (by omega)
  have eS : FP.Core.fieldS f n = false := by
    unfold FP.Core.fieldS
    rw [Nat.div_eq_of_lt (show n / f.tails < f.exps by omega)]; rfl
  unfold FP.Core.decode fV
  rw [eE, eS, if_neg (by omega)]
  by_cases z : n / f.tails = 0
  · rw [if_pos z, if_pos z]
    have : FP.Core.fieldT f n = n := by
      unfold FP.Core.fieldT
      exact Nat.mod_eq_of_lt (by rcases (Nat.div_eq_zero_iff).mp z with y | y; have := T_pos (f := f); omega; exact y)
    exact ⟨_, _, rfl, by rw [this]⟩
  · rw [if_neg z, if_neg z]
    exact ⟨_, _, rfl, rfl⟩
theorem jc (g : Gf f) {n : Nat} (h : n < fI f) : ∃ j c : Nat, n = j * f.tails + c ∧ fV f n = (c : Rat) * P2 (f.qmin + j) ∧ c < 2 * f.tails ∧ (j = 0 ∨ f.tails ≤ c) := by
  have t := T_pos (f := f)
  have dm := Nat.div_add_mod n f.tails
  have ml := Nat.mod_lt n t
  unfold fV
  by_cases z : n / f.tails = 0
  · rw [if_pos z]
    rw [z, Nat.mul_zero] at dm
    exact ⟨0, n, by omega, by simp, by omega, .inl rfl⟩
  · rw [if_neg z]
    obtain ⟨j, hj⟩ := Nat.exists_eq_succ_of_ne_zero z
    rw [hj] at dm ⊢
    refine ⟨j, f.tails + n % f.tails, ?_, ?_, by omega, .inr (by omega)⟩
    · have : f.tails * j.succ = j * f.tails + f.tails := by rw [Nat.succ_eq_add_one, Nat.mul_add, Nat.mul_one, Nat.mul_comm]
      omega
    · congr 2
      omega
/-- the nearest, of two the even one -/
def NR (c : Nat) (x : Rat) : Prop := (c : Rat) - 1 / 2 ≤ x ∧ x ≤ (c : Rat) + 1 / 2 ∧ (x = (c : Rat) - 1 / 2 ∨ x = (c : Rat) + 1 / 2 → c % 2 = 0)
theorem near_NR {num den : Nat} (h : 0 < den) {x : Rat} (hx : (num : Rat) = x * (den : Rat)) : NR (FP.Core.nearest num den) x := by
  have d0 : (0 : Rat) < (den : Rat) := by exact_mod_cast h
  have dm := Nat.div_add_mod num den
  have ml := Nat.mod_lt num h
  have e : (x - ((num / den : Nat) : Rat)) * (den : Rat) = ((num % den : Nat) : Rat) := by
    have : ((den * (num / den) + num % den : Nat) : Rat) = (num : Rat) := by rw [dm]
    rw [Rat.natCast_add, Rat.natCast_mul, hx] at this
    grind
  unfold FP.Core.nearest NR
  generalize num / den = q at *
  generalize num % den = r at *
  have r0 : (0 : Rat) ≤ (r : Rat) := by exact_mod_cast Nat.zero_le r
  have r1 : (r : Rat) < (den : Rat) := by exact_mod_cast ml
  have half : ∀ {a b : Rat}, a * (den : Rat) ≤ b * (den : Rat) → a ≤ b := fun k => (qmr d0).mp k
  by_cases c1 : 2 * r < den
  · rw [if_pos c1]
    have c2 : 2 * (r : Rat) < (den : Rat) := by exact_mod_cast c1
    have a1 : (q : Rat) ≤ x := half (by grind)
    have a2 : x < (q : Rat) + 1 / 2 := (Rat.mul_lt_mul_right d0).mp (by grind)
    exact ⟨by grind, by grind, fun z => by exfalso; grind⟩
  · rw [if_neg c1]
    by_cases c2 : den < 2 * r
    · rw [if_pos c2]
      have c3 : (den : Rat) < 2 * (r : Rat) := by exact_mod_cast c2
      have a1 : (q : Rat) + 1 / 2 < x := (Rat.mul_lt_mul_right d0).mp (by grind)
      have a2 : x < (q : Rat) + 1 := (Rat.mul_lt_mul_right d0).mp (by grind)
      have e1 : ((q + 1 : Nat) : Rat) = (q : Rat) + 1 := by rw [Rat.natCast_add]; rfl
      rw [e1]
      exact ⟨by grind, by grind, fun z => by exfalso; grind⟩
    · rw [if_neg c2]
      have c3 : 2 * (r : Rat) = (den : Rat) := by exact_mod_cast (show 2 * r = den by omega)
      have ex : x = (q : Rat) + 1 / 2 := by
        have : (x - (q : Rat) - 1 / 2) * (den : Rat) = 0 := by grind
        rcases Rat.mul_eq_zero.mp this with z | z
        · grind
        · exfalso; grind
      rcases Nat.mod_two_eq_zero_or_one q with m | m
      · rw [m, Nat.add_zero]
        exact ⟨by grind, by grind, fun _ => m⟩
      · rw [m]
        have e1 : ((q + 1 : Nat) : Rat) = (q : Rat) + 1 := by rw [Rat.natCast_add]; rfl
        rw [e1]
        exact ⟨by grind, by grind, fun _ => by omega⟩
theorem lead_ok {num den : Nat} (hn : 0 < num) (hd : 0 < den) {x : Rat} (hx : (num : Rat) = x * (den : Rat)) : P2 (FP.Core.leading num den) ≤ x ∧ x < P2 (FP.Core.leading num den + 1) := by
  have d0 : (0 : Rat) < (den : Rat) := by exact_mod_cast hd
  have a1 : ((2 ^ num.log2 : Nat) : Rat) ≤ (num : Rat) := by exact_mod_cast Nat.log2_self_le (by omega)
  have a2 : (num : Rat) < ((2 ^ (num.log2 + 1) : Nat) : Rat) := by exact_mod_cast Nat.lt_log2_self
  have b1 : ((2 ^ den.log2 : Nat) : Rat) ≤ (den : Rat) := by exact_mod_cast Nat.log2_self_le (by omega)
  have b2 : (den : Rat) < ((2 ^ (den.log2 + 1) : Nat) : Rat) := by exact_mod_cast Nat.lt_log2_self
  rw [← P2_nat] at a1 a2 b1 b2
  generalize hk : (num.log2 : Int) - (den.log2 : Int) = k
  have up : x < P2 (k + 1) := by
    refine (Rat.mul_lt_mul_right d0).mp ?_
    rw [← hx]
    have e : P2 ((num.log2 + 1 : Nat) : Int) = P2 (k + 1) * P2 (den.log2 : Int) := by rw [← P2_add]; congr 1; omega
    have := Rat.mul_le_mul_of_nonneg_left b1 (Rat.le_of_lt (P2_pos (k + 1)))
    rw [e] at a2
    grind
  have lo : P2 (k - 1) ≤ x := by
    refine (qmr d0).mp ?_
    rw [← hx]
    have e : P2 (num.log2 : Int) = P2 (k - 1) * P2 ((den.log2 + 1 : Nat) : Int) := by rw [← P2_add]; congr 1; omega
    have := Rat.mul_le_mul_of_nonneg_left (Rat.le_of_lt b2) (Rat.le_of_lt (P2_pos (k - 1)))
    rw [e] at a1
    grind
  have tst : (den * 2 ^ k.toNat ≤ num * 2 ^ (-k).toNat) ↔ P2 k ≤ x := by
    have s : (den * 2 ^ k.toNat ≤ num * 2 ^ (-k).toNat) ↔ ((den * 2 ^ k.toNat : Nat) : Rat) ≤ ((num * 2 ^ (-k).toNat : Nat) : Rat) := by
      constructor
      · intro h; exact_mod_cast h
      · intro h; exact_mod_cast h
    rw [s, Rat.natCast_mul, Rat.natCast_mul, ← P2_nat, ← P2_nat, hx]
    have ee : P2 (k.toNat : Int) = P2 k * P2 ((-k).toNat : Int) := by rw [← P2_add]; congr 1; omega
    have pp := P2_pos ((-k).toNat : Int)
    have : (den : Rat) * P2 (k.toNat : Int) = P2 k * ((den : Rat) * P2 ((-k).toNat : Int)) := by rw [ee]; grind
    rw [this, show x * (den : Rat) * P2 ((-k).toNat : Int) = x * ((den : Rat) * P2 ((-k).toNat : Int)) by grind]
    exact qmr (Rat.mul_pos d0 pp)
  unfold FP.Core.leading
  simp only [hk]
  by_cases c : den * 2 ^ k.toNat ≤ num * 2 ^ (-k).toNat
  · rw [if_pos c]; exact ⟨tst.mp c, up⟩
  · rw [if_neg c]
    refine ⟨lo, ?_⟩
    rw [show k - 1 + 1 = k by omega, ← Rat.not_le]
    exact fun z => c (tst.mpr z)
/-- the rounding, told by what it is -/
def Rd (f : FP.Core.Fmt) (v : Rat) (n : Nat) : Prop := ∃ j c : Nat, n = min (fI f) (j * f.tails + c) ∧ NR c (v * P2 (-(f.qmin + j))) ∧ (j = 0 ∨ (f.tails : Rat) ≤ v * P2 (-(f.qmin + j))) ∧ v * P2 (-(f.qmin + j)) < ((2 * f.tails : Nat) : Rat)
theorem NR_lo {c t : Nat} {x : Rat} (h : NR c x) (k : (t : Rat) ≤ x) : t ≤ c := by
  apply Classical.byContradiction
  intro z
  have : ((c + 1 : Nat) : Rat) ≤ (t : Rat) := by exact_mod_cast (show c + 1 ≤ t by omega)
  rw [Rat.natCast_add] at this
  have e : ((1 : Nat) : Rat) = 1 := rfl
  have := h.2.1
  grind
theorem NR_hi {c t : Nat} {x : Rat} (h : NR c x) (k : x < (t : Rat)) : c ≤ t := by
  apply Classical.byContradiction
  intro z
  have : ((t + 1 : Nat) : Rat) ≤ (c : Rat) := by exact_mod_cast (show t + 1 ≤ c by omega)
  rw [Rat.natCast_add] at this
  have e : ((1 : Nat) : Rat) = 1 := rfl
  have := h.1
  grind
theorem asm_0 (t : Nat) : FP.Core.assemble f false 0 t = t := by unfold FP.Core.assemble; simp
theorem asm_f (e t : Nat) : FP.Core.assemble f false e t = e * f.tails + t := by unfold FP.Core.assemble; simp
theorem RC (g : Gf f) {num den : Nat} {e : Int} (hn : 0 < num) (hd : 0 < den) {v : Rat} (hv : (num : Rat) * P2 e = v * (den : Rat)) : Rd f v (FP.Core.encode f (FP.Core.roundRatio f false num den e)) := by
  have d0 : (0 : Rat) < (den : Rat) := by exact_mod_cast hd
  have X := X_e g
  have em := emax_1 g
  have T0 := T_pos (f := f)
  have T2 := T_2 g
  have hq : f.qmax = f.qmin + ((f.exps : Int) - 3) := by unfold FP.Core.Fmt.qmax FP.Core.Fmt.qmin; rw [X]; omega
  -- the leading digit
  have hx : (num : Rat) = (v * P2 (-e)) * (den : Rat) := by
    have := P2_neg e
    have : (num : Rat) * (P2 e * P2 (-e)) = v * P2 (-e) * (den : Rat) := by grind
    rw [P2_neg, Rat.mul_one] at this
    exact this
  have ld := lead_ok hn hd hx
  generalize hk : FP.Core.leading num den = k at *
  have l1 : P2 (k + e) ≤ v := by
    rw [P2_add]
    have := Rat.mul_le_mul_of_nonneg_right ld.1 (Rat.le_of_lt (P2_pos e))
    rw [Rat.mul_assoc, Rat.mul_comm (P2 (-e)), P2_neg, Rat.mul_one] at this
    exact this
  have l2 : v < P2 (k + e + 1) := by
    have := (Rat.mul_lt_mul_right (P2_pos e)).mpr ld.2
    rw [Rat.mul_assoc, Rat.mul_comm (P2 (-e)), P2_neg, Rat.mul_one, ← P2_add] at this
    rw [show k + e + 1 = k + 1 + e by omega]
    exact this
  obtain ⟨j, hj⟩ : ∃ j : Nat, FP.Core.quantum f num den e = f.qmin + j ∧ (j = 0 ∨ f.qmin + j = k + e - ((f.p : Int) - 1)) ∧ k + e - ((f.p : Int) - 1) ≤ f.qmin + j := by
    unfold FP.Core.quantum
    rw [hk]
    by_cases z : f.qmin ≤ k + e - ((f.p : Int) - 1)
    · exact ⟨(k + e - ((f.p : Int) - 1) - f.qmin).toNat, by omega, by omega, by omega⟩
    · exact ⟨0, by omega, .inl rfl, by omega⟩
  have tP : (f.tails : Rat) = P2 ((f.p : Int) - 1) := by
    unfold FP.Core.Fmt.tails
    rw [← P2_nat]
    congr 1
    omega
  have x1 : j = 0 ∨ (f.tails : Rat) ≤ v * P2 (-(f.qmin + j)) := by
    rcases hj.2.1 with z | z
    · exact .inl z
    · right
      have := Rat.mul_le_mul_of_nonneg_right l1 (Rat.le_of_lt (P2_pos (-(f.qmin + j))))
      rw [← P2_add] at this
      rw [tP, show (f.p : Int) - 1 = k + e + -(f.qmin + j) by omega]
      exact this
  have x2 : v * P2 (-(f.qmin + j)) < ((2 * f.tails : Nat) : Rat) := by
    have := (Rat.mul_lt_mul_right (P2_pos (-(f.qmin + j)))).mpr l2
    rw [← P2_add] at this
    have m := P2_mono (show k + e + 1 + -(f.qmin + j) ≤ (f.p : Int) by omega)
    have e2 : ((2 * f.tails : Nat) : Rat) = P2 (f.p : Int) := by rw [← T2, P2_nat]
    rw [e2]
    grind
  unfold FP.Core.roundRatio
  rw [if_neg (by omega), hj.1]
  unfold FP.Core.roundAt
  have ud : 0 < FP.Core.unitsDen den e (f.qmin + j) := by unfold FP.Core.unitsDen; exact Nat.mul_pos hd (Nat.two_pow_pos _)
  have nr := near_NR (num := FP.Core.unitsNum num e (f.qmin + j)) ud (x := v * P2 (-(f.qmin + j))) (by
    unfold FP.Core.unitsNum FP.Core.unitsDen
    rw [Rat.natCast_mul, Rat.natCast_mul, ← P2_nat, ← P2_nat]
    have e3 : P2 ((e - (f.qmin + j)).toNat : Int) = P2 e * (P2 (-(f.qmin + j)) * P2 (((f.qmin + j) - e).toNat : Int)) := by rw [← P2_add, ← P2_add]; congr 1; omega
    rw [e3, ← Rat.mul_assoc, hv]
    grind)
  generalize FP.Core.nearest (FP.Core.unitsNum num e (f.qmin + j)) (FP.Core.unitsDen den e (f.qmin + j)) = c at *
  refine ⟨j, c, ?_, nr, x1, x2⟩
  have c2 : c ≤ 2 * f.tails := NR_hi nr x2
  have c1 : j = 0 ∨ f.tails ≤ c := by
    rcases x1 with z | z
    · exact .inl z
    · exact .inr (NR_lo nr z)
  have I : fI f = (f.exps - 1) * f.tails := rfl
  have xt : ∀ a b : Nat, a ≤ b → a * f.tails ≤ b * f.tails := fun a b h => Nat.mul_le_mul_right _ h
  unfold FP.Core.settle FP.Core.bound
  by_cases s1 : c < 2 ^ f.p
  · rw [if_pos s1]
    by_cases s2 : f.qmin + j ≤ f.qmax
    · rw [if_pos s2]
      have jb : j ≤ f.exps - 3 := by omega
      have y := xt j (f.exps - 3) jb
      have y2 : (f.exps - 1) * f.tails = (f.exps - 3) * f.tails + 2 * f.tails := by rw [← Nat.add_mul]; congr 1; omega
      have enc : FP.Core.encode f (.fin false c (f.qmin + j)) = j * f.tails + c := by
        unfold FP.Core.encode
        dsimp only
        by_cases s3 : c < f.tails
        · have : j = 0 := by omega
          rw [if_pos s3, asm_0, this]; omega
        · rw [if_neg s3, asm_f, show (f.qmin + (j : Int) - f.qmin).toNat = j by omega, Nat.add_mul]; omega
      rw [enc, I]
      omega
    · rw [if_neg s2]
      have jb : f.exps - 2 ≤ j := by omega
      have y := xt (f.exps - 2) j jb
      have y2 : (f.exps - 1) * f.tails = (f.exps - 2) * f.tails + f.tails := by rw [show f.exps - 1 = (f.exps - 2) + 1 by omega, Nat.add_mul]; omega
      show FP.Core.assemble f false (f.exps - 1) 0 = _
      rw [asm_f, I]
      omega
  · rw [if_neg s1]
    have ce : c = 2 * f.tails := by omega
    by_cases s2 : f.qmin + j + 1 ≤ f.qmax
    · rw [if_pos s2]
      have jb : j + 1 ≤ f.exps - 3 := by omega
      have y := xt (j + 1) (f.exps - 3) jb
      have y2 : (f.exps - 1) * f.tails = (f.exps - 3) * f.tails + 2 * f.tails := by rw [← Nat.add_mul]; congr 1; omega
      have y3 : (j + 1) * f.tails = j * f.tails + f.tails := by rw [Nat.add_mul]; omega
      have enc : FP.Core.encode f (.fin false f.tails (f.qmin + j + 1)) = j * f.tails + c := by
        unfold FP.Core.encode
        dsimp only
        rw [if_neg (by omega), asm_f, show (f.qmin + (j : Int) + 1 - f.qmin).toNat = j + 1 by omega, show j + 1 + 1 = j + 2 by omega, Nat.add_mul]; omega
      rw [enc, I]
      omega
    · rw [if_neg s2]
      have jb : f.exps - 3 ≤ j := by omega
      have y := xt (f.exps - 3) j jb
      have y2 : (f.exps - 1) * f.tails = (f.exps - 3) * f.tails + 2 * f.tails := by rw [← Nat.add_mul]; congr 1; omega
      show FP.Core.assemble f false (f.exps - 1) 0 = _
      rw [asm_f, I]
      omega
theorem P2_step {a b : Int} (h : a < b) : P2 (-b) * 2 ≤ P2 (-a) := by
  rw [← P2_succ]
  exact P2_mono (by omega)
theorem Rd_mono {v w : Rat} {n m : Nat} (hv : 0 ≤ v) (hvw : v ≤ w) (a : Rd f v n) (b : Rd f w m) : n ≤ m := by
  obtain ⟨j, c, rfl, n1, x1, y1⟩ := a
  obtain ⟨i, d, rfl, n2, x2, y2⟩ := b
  have le : ∀ k : Int, v * P2 k ≤ w * P2 k := fun k => Rat.mul_le_mul_of_nonneg_right hvw (Rat.le_of_lt (P2_pos k))
  have key : j * f.tails + c ≤ i * f.tails + d := by
    rcases Nat.lt_trichotomy j i with z | z | z
    · have c2 := NR_hi n1 y1
      have d1 : f.tails ≤ d := by
        rcases x2 with h | h
        · omega
        · exact NR_lo n2 h
      have : (j + 1) * f.tails ≤ i * f.tails := Nat.mul_le_mul_right _ z
      rw [Nat.add_mul] at this
      omega
    · subst z
      have l := le (-(f.qmin + j))
      have : c ≤ d := by
        apply Classical.byContradiction
        intro q
        have s : ((d + 1 : Nat) : Rat) ≤ (c : Rat) := by exact_mod_cast (show d + 1 ≤ c by omega)
        rw [Rat.natCast_add] at s
        have e1 : ((1 : Nat) : Rat) = 1 := rfl
        have p1 := n1.1
        have p2 := n2.2.1
        have q1 : v * P2 (-(f.qmin + j)) = (c : Rat) - 1 / 2 := by grind
        have q2 : w * P2 (-(f.qmin + j)) = (d : Rat) + 1 / 2 := by grind
        have ec := n1.2.2 (.inl q1)
        have ed := n2.2.2 (.inr q2)
        have : (c : Rat) = ((d + 1 : Nat) : Rat) := by rw [Rat.natCast_add]; grind
        have : c = d + 1 := by exact_mod_cast this
        omega
      omega
    · exfalso
      rcases x1 with h | h
      · omega
      · have st := P2_step (a := f.qmin + i) (b := f.qmin + j) (by omega)
        have l := le (-(f.qmin + j))
        have w0 : 0 ≤ w := by grind
        have := Rat.mul_le_mul_of_nonneg_left st w0
        rw [Rat.natCast_mul] at y2
        have e2 : ((2 : Nat) : Rat) = 2 := rfl
        grind
  omega
/-- a number's rounding -/
def rn (f : FP.Core.Fmt) (v : Rat) : Nat := if v ≤ 0 then 0 else FP.Core.encode f (FP.Core.roundRatio f false v.num.toNat v.den 0)
theorem rn_Rd (g : Gf f) {v : Rat} (h : 0 < v) : Rd f v (rn f v) := by
  unfold rn
  rw [if_neg (by grind)]
  have n0 := num_pos.mpr h
  refine RC g (by omega) v.den_pos ?_
  rw [P2_0, Rat.mul_one]
  have : ((v.num.toNat : Nat) : Rat) = (v.num : Rat) := by
    have : ((v.num.toNat : Nat) : Int) = v.num := by omega
    have e : (((v.num.toNat : Nat) : Int) : Rat) = ((v.num.toNat : Nat) : Rat) := rfl
    rw [← e, this]
  rw [this, ← q_nd v]
theorem rn_eq (g : Gf f) {num den : Nat} {e : Int} (hn : 0 < num) (hd : 0 < den) {v : Rat} (hv : (num : Rat) * P2 e = v * (den : Rat)) : FP.Core.encode f (FP.Core.roundRatio f false num den e) = rn f v := by
  have d0 : (0 : Rat) < (den : Rat) := by exact_mod_cast hd
  have n0 : (0 : Rat) < (num : Rat) := by exact_mod_cast hn
  have v0 : 0 < v := by
    have := Rat.mul_pos n0 (P2_pos e)
    rw [hv] at this
    exact (Rat.mul_pos_iff_of_pos_right d0).mp this
  have a := RC g hn hd hv
  have b := rn_Rd g v0
  exact Nat.le_antisymm (Rd_mono (Rat.le_of_lt v0) Rat.le_refl a b) (Rd_mono (Rat.le_of_lt v0) Rat.le_refl b a)
theorem rn_0 : rn f 0 = 0 := by unfold rn; rw [if_pos Rat.le_refl]
theorem rn_mono (g : Gf f) {v w : Rat} (h : v ≤ w) : rn f v ≤ rn f w := by
  by_cases z : 0 < v
  · exact Rd_mono (Rat.le_of_lt z) h (rn_Rd g z) (rn_Rd g (by grind))
  · have : rn f v = 0 := by unfold rn; rw [if_pos (by grind)]
    omega
theorem rn_I (g : Gf f) (v : Rat) : rn f v ≤ fI f := by
  by_cases z : 0 < v
  · obtain ⟨j, c, e, -⟩ := rn_Rd g z
    omega
  · have : rn f v = 0 := by unfold rn; rw [if_pos (by grind)]
    omega
theorem V_nn (n : Nat) : 0 ≤ fV f n := by
  unfold fV
  split
  · exact Rat.mul_nonneg (by exact_mod_cast Nat.zero_le n) (Rat.le_of_lt (P2_pos _))
  · exact Rat.mul_nonneg (by exact_mod_cast Nat.zero_le _) (Rat.le_of_lt (P2_pos _))
theorem V_0 : fV f 0 = 0 := by
  unfold fV
  rw [if_pos (Nat.zero_div _)]
  exact Rat.zero_mul _
theorem V_Rd (g : Gf f) {n : Nat} (h : n < fI f) : Rd f (fV f n) n := by
  obtain ⟨j, c, e, ev, c2, jc⟩ := jc g h
  have x : fV f n * P2 (-(f.qmin + j)) = (c : Rat) := by rw [ev, Rat.mul_assoc, P2_neg, Rat.mul_one]
  refine ⟨j, c, by omega, ?_, ?_, ?_⟩
  · rw [x]
    exact ⟨by grind, by grind, fun z => by exfalso; grind⟩
  · rw [x]
    rcases jc with z | z
    · exact .inl z
    · exact .inr (by exact_mod_cast z)
  · rw [x]
    exact_mod_cast c2
theorem V_mono (g : Gf f) {n m : Nat} (hm : m < fI f) (hn : n < fI f) (h : fV f n ≤ fV f m) : n ≤ m := Rd_mono (V_nn n) h (V_Rd g hn) (V_Rd g hm)
theorem V_lt (g : Gf f) {n m : Nat} (hm : m < fI f) (hn : n < fI f) (h : n < m) : fV f n < fV f m := by
  apply Classical.byContradiction
  intro z
  have := V_mono g hn hm (by grind)
  omega
theorem rn_V (g : Gf f) {n : Nat} (h : n < fI f) : rn f (fV f n) = n := by
  by_cases z : 0 < fV f n
  · exact Nat.le_antisymm (Rd_mono (V_nn n) Rat.le_refl (rn_Rd g z) (V_Rd g h)) (Rd_mono (V_nn n) Rat.le_refl (V_Rd g h) (rn_Rd g z))
  · have e0 : fV f n = 0 := by have := V_nn (f := f) n; grind
    have : n = 0 := by
      apply Classical.byContradiction
      intro y
      have := V_lt g h (show 0 < fI f by omega) (show 0 < n by omega)
      rw [V_0, e0] at this
      exact Rat.lt_irrefl this
    rw [e0, rn_0, this]
end
section
variable {f : FP.Core.Fmt}
theorem dec_inf (g : Gf f) : FP.Core.decode f (fI f) = .inf false := by
  have t := T_pos (f := f)
  have X := X_e g
  have em := emax_1 g
  have d : fI f / f.tails = f.exps - 1 := Nat.mul_div_cancel _ t
  have m : fI f % f.tails = 0 := Nat.mul_mod_left _ _
  have eE : FP.Core.fieldE f (fI f) = f.exps - 1 := by unfold FP.Core.fieldE; rw [d]; exact Nat.mod_eq_of_lt (by omega)
  have eS : FP.Core.fieldS f (fI f) = false := by
    unfold FP.Core.fieldS
    rw [d, Nat.div_eq_of_lt (show f.exps - 1 < f.exps by omega)]; rfl
  unfold FP.Core.decode
  rw [if_pos eE, if_pos (show FP.Core.fieldT f (fI f) = 0 from m), eS]
theorem sg_f (c : Nat) : FP.Core.signed false c = (c : Int) := rfl
theorem iu (c : Nat) {q e : Int} (h : e ≤ q) : ((FP.Core.inUnits c q e : Nat) : Rat) * P2 e = (c : Rat) * P2 q := by
  unfold FP.Core.inUnits
  rw [Rat.natCast_mul, ← P2_nat, Rat.mul_assoc, ← P2_add]
  congr 2
  omega
theorem cmp_nat {a b n m : Nat} (h1 : a < b ↔ n < m) (h2 : b < a ↔ m < n) : compare (a : Int) (b : Int) = compare n m := by
  rcases Nat.lt_trichotomy n m with z | z | z
  · have := h1.mpr z
    rw [Nat.compare_eq_lt.mpr z]
    exact Int.compare_eq_lt.mpr (by omega)
  · subst z
    have : a = b := by
      have n1 : ¬ a < b := fun y => by have := h1.mp y; omega
      have n2 : ¬ b < a := fun y => by have := h2.mp y; omega
      omega
    subst this
    rw [Nat.compare_eq_eq.mpr rfl]
    exact Int.compare_eq_eq.mpr rfl
  · have := h2.mpr z
    rw [Nat.compare_eq_gt.mpr z]
    exact Int.compare_eq_gt.mpr (by omega)
theorem cmp_ff (g : Gf f) {n m : Nat} (hn : n < fI f) (hm : m < fI f) : FP.Core.cmp f n m = some (compare n m) := by
  obtain ⟨c, q, e1, v1⟩ := dec_fin g hn
  obtain ⟨d, r, e2, v2⟩ := dec_fin g hm
  unfold FP.Core.cmp
  rw [e1, e2]
  show some (compare (FP.Core.signed false _) (FP.Core.signed false _)) = _
  rw [sg_f, sg_f]
  have a1 := iu c (show min q r ≤ q by omega)
  have a2 := iu d (show min q r ≤ r by omega)
  rw [← v1] at a1
  rw [← v2] at a2
  have pp := P2_pos (min q r)
  have lt : ∀ {x y : Nat} {u v : Nat}, u < fI f → v < fI f → ((x : Nat) : Rat) * P2 (min q r) = fV f u → ((y : Nat) : Rat) * P2 (min q r) = fV f v → (x < y ↔ u < v) := by
    intro x y u v hu hv eu ev
    constructor
    · intro h
      have h' : (x : Rat) < (y : Rat) := by exact_mod_cast h
      have := (Rat.mul_lt_mul_right pp).mpr h'
      rw [eu, ev] at this
      apply Classical.byContradiction
      intro z
      have k : fV f v ≤ fV f u := by
        by_cases y : u = v
        · rw [y]; exact Rat.le_refl
        · exact Rat.le_of_lt (V_lt g hu hv (by omega))
      grind
    · intro h
      have := V_lt g hv hu h
      rw [← eu, ← ev] at this
      have := (Rat.mul_lt_mul_right pp).mp this
      exact_mod_cast this
  rw [cmp_nat (lt hn hm a1 a2) (lt hm hn a2 a1)]
theorem cmp_le (g : Gf f) {n m : Nat} (hn : n ≤ fI f) (hm : m ≤ fI f) : FP.Core.cmp f n m = some (compare n m) := by
  by_cases a : n = fI f
  · by_cases b : m = fI f
    · unfold FP.Core.cmp
      rw [a, b, dec_inf g]
      show some (compare (FP.Core.signed false 1) (FP.Core.signed false 1)) = _
      rw [Nat.compare_eq_eq.mpr rfl]; rfl
    · obtain ⟨d, r, e2, v2⟩ := dec_fin g (show m < fI f by omega)
      unfold FP.Core.cmp
      rw [a, dec_inf g, e2]
      rw [Nat.compare_eq_gt.mpr (show m < fI f by omega)]; rfl
  · by_cases b : m = fI f
    · obtain ⟨d, r, e2, v2⟩ := dec_fin g (show n < fI f by omega)
      unfold FP.Core.cmp
      rw [b, dec_inf g, e2]
      rw [Nat.compare_eq_lt.mpr (show n < fI f by omega)]; rfl
    · exact cmp_ff g (by omega) (by omega)
theorem enc_0 (q : Int) : FP.Core.encode f (.fin false 0 q) = 0 := by
  unfold FP.Core.encode
  dsimp only
  rw [if_pos T_pos, asm_0]
theorem round_rn (g : Gf f) (c : Nat) (q : Int) : FP.Core.encode f (FP.Core.round f (.fin false c q)) = rn f ((c : Rat) * P2 q) := by
  show FP.Core.encode f (FP.Core.roundRatio f false c 1 q) = _
  by_cases z : c = 0
  · subst z
    unfold FP.Core.roundRatio
    rw [if_pos rfl, enc_0]
    have : ((0 : Nat) : Rat) = 0 := rfl
    rw [this, Rat.zero_mul, rn_0]
  · exact rn_eq g (by omega) (by omega) (by
      have : ((1 : Nat) : Rat) = 1 := rfl
      rw [this, Rat.mul_one])
theorem mul_rn (g : Gf f) {n m : Nat} (hn : n < fI f) (hm : m < fI f) : FP.Core.mul f n m = rn f (fV f n * fV f m) := by
  obtain ⟨c, q, e1, v1⟩ := dec_fin g hn
  obtain ⟨d, r, e2, v2⟩ := dec_fin g hm
  unfold FP.Core.mul
  rw [e1, e2]
  show FP.Core.encode f (FP.Core.round f (.fin (false != false) (c * d) (q + r))) = _
  rw [show (false != false) = false from rfl, round_rn g, v1, v2, Rat.natCast_mul, P2_add]
  congr 1
  grind
theorem enc_inf : FP.Core.encode f (.inf false) = fI f := by
  unfold FP.Core.encode
  dsimp only
  rw [asm_f]; rfl
theorem mul_inf (g : Gf f) {m : Nat} (h0 : 0 < m) (hm : m < fI f) : FP.Core.mul f (fI f) m = fI f := by
  obtain ⟨d, r, e2, v2⟩ := dec_fin g hm
  have d0 : d ≠ 0 := fun z => by
    rw [z] at v2
    have : ((0 : Nat) : Rat) = 0 := rfl
    rw [this, Rat.zero_mul] at v2
    have := V_lt g hm (show 0 < fI f by omega) h0
    rw [V_0, v2] at this
    exact Rat.lt_irrefl this
  unfold FP.Core.mul
  rw [dec_inf g, e2]
  show FP.Core.encode f (FP.Core.round f (if d = 0 then .nan else .inf (false != false))) = _
  rw [if_neg d0]
  exact enc_inf
theorem V_pos (g : Gf f) {n : Nat} (h : n < fI f) (h0 : 0 < n) : 0 < fV f n := by
  have := V_lt g h (show 0 < fI f by omega) h0
  rwa [V_0] at this
theorem div_rn (g : Gf f) {n m : Nat} (hn : n < fI f) (hm : m < fI f) (h0 : 0 < m) : FP.Core.div f n m = rn f (fV f n / fV f m) := by
  obtain ⟨c, q, e1, v1⟩ := dec_fin g hn
  obtain ⟨d, r, e2, v2⟩ := dec_fin g hm
  have vp := V_pos g hm h0
  have d0 : d ≠ 0 := fun z => by
    rw [z] at v2
    have : ((0 : Nat) : Rat) = 0 := rfl
    rw [this, Rat.zero_mul] at v2
    grind
  unfold FP.Core.div
  rw [e1, e2]
  show FP.Core.encode f (if d = 0 then _ else FP.Core.roundRatio f (false != false) c d (q - r)) = _
  rw [if_neg d0, show (false != false) = false from rfl]
  by_cases z : c = 0
  · subst z
    unfold FP.Core.roundRatio
    rw [if_pos rfl, enc_0, v1]
    have : ((0 : Nat) : Rat) = 0 := rfl
    rw [this, Rat.zero_mul, qz, rn_0]
  · refine rn_eq g (by omega) (by omega) ?_
    have e3 : fV f n = fV f n / fV f m * fV f m := (qeq vp).mp rfl
    generalize fV f n / fV f m = x at *
    rw [v1, v2] at e3
    rw [show q - r = q + -r by omega, P2_add, ← Rat.mul_assoc, e3]
    have := P2_neg r
    grind
theorem add_rn (g : Gf f) {n m : Nat} (hn : n < fI f) (hm : m < fI f) : FP.Core.add f n m = rn f (fV f n + fV f m) := by
  obtain ⟨c, q, e1, v1⟩ := dec_fin g hn
  obtain ⟨d, r, e2, v2⟩ := dec_fin g hm
  unfold FP.Core.add
  rw [e1, e2]
  have a1 := iu c (show min q r ≤ q by omega)
  have a2 := iu d (show min q r ≤ r by omega)
  show FP.Core.encode f (FP.Core.round f (.fin (FP.Core.sumSign false false (FP.Core.sumUnits false c q false d r (min q r))) (FP.Core.sumUnits false c q false d r (min q r)).natAbs (min q r))) = _
  have su : FP.Core.sumUnits false c q false d r (min q r) = ((FP.Core.inUnits c q (min q r) + FP.Core.inUnits d r (min q r) : Nat) : Int) := by
    unfold FP.Core.sumUnits
    rw [sg_f, sg_f]; omega
  have ss : FP.Core.sumSign false false (FP.Core.sumUnits false c q false d r (min q r)) = false := by
    unfold FP.Core.sumSign
    rw [su]
    split
    · rfl
    · exact decide_eq_false (by omega)
  rw [ss, su, Int.natAbs_natCast, round_rn g, v1, v2, ← a1, ← a2, Rat.natCast_add]
  congr 1
  grind
theorem sub_rn (g : Gf f) {n m : Nat} (hn : n < fI f) (hm : m < fI f) (h : m ≤ n) : FP.Core.sub f n m = rn f (fV f n - fV f m) := by
  obtain ⟨c, q, e1, v1⟩ := dec_fin g hn
  obtain ⟨d, r, e2, v2⟩ := dec_fin g hm
  unfold FP.Core.sub
  rw [e1, e2]
  have a1 := iu c (show min q r ≤ q by omega)
  have a2 := iu d (show min q r ≤ r by omega)
  show FP.Core.encode f (FP.Core.round f (.fin (FP.Core.sumSign false true (FP.Core.sumUnits false c q true d r (min q r))) (FP.Core.sumUnits false c q true d r (min q r)).natAbs (min q r))) = _
  have le : FP.Core.inUnits d r (min q r) ≤ FP.Core.inUnits c q (min q r) := by
    have vv : fV f m ≤ fV f n := by
      by_cases y : m = n
      · rw [y]; exact Rat.le_refl
      · exact Rat.le_of_lt (V_lt g hn hm (by omega))
    rw [v1, v2, ← a1, ← a2] at vv
    have := (qmr (P2_pos (min q r))).mp vv
    exact_mod_cast this
  have su : FP.Core.sumUnits false c q true d r (min q r) = ((FP.Core.inUnits c q (min q r) - FP.Core.inUnits d r (min q r) : Nat) : Int) := by
    unfold FP.Core.sumUnits
    rw [sg_f]
    show _ + -((FP.Core.inUnits d r (min q r) : Nat) : Int) = _
    omega
  have ss : FP.Core.sumSign false true (FP.Core.sumUnits false c q true d r (min q r)) = false := by
    unfold FP.Core.sumSign
    rw [su]
    split
    · rfl
    · exact decide_eq_false (by omega)
  have cast : ((FP.Core.inUnits c q (min q r) - FP.Core.inUnits d r (min q r) : Nat) : Rat) = ((FP.Core.inUnits c q (min q r) : Nat) : Rat) - ((FP.Core.inUnits d r (min q r) : Nat) : Rat) := by
    have : ((FP.Core.inUnits c q (min q r) - FP.Core.inUnits d r (min q r) : Nat) : Rat) + ((FP.Core.inUnits d r (min q r) : Nat) : Rat) = ((FP.Core.inUnits c q (min q r) : Nat) : Rat) := by
      rw [← Rat.natCast_add]
      congr 1
      omega
    grind
  rw [ss, su, Int.natAbs_natCast, round_rn g, v1, v2, ← a1, ← a2, cast]
  congr 1
  grind
theorem int_rn (g : Gf f) {i : Int} (h : 0 ≤ i) : FP.Core.fromInt f i = rn f (i : Rat) := by
  unfold FP.Core.fromInt FP.Core.ofInt
  rw [decide_eq_false (by omega), round_rn g, P2_0, Rat.mul_one]
  congr 1
  have : ((i.natAbs : Nat) : Int) = i := by omega
  have e : (((i.natAbs : Nat) : Int) : Rat) = ((i.natAbs : Nat) : Rat) := rfl
  rw [← e, this]
/-- powers of two -/
def eP (f : FP.Core.Fmt) (k : Int) : Nat := ((f.emax : Int) + k).toNat * f.tails
theorem eP_V (g : Gf f) {k : Int} (h1 : 1 - (f.emax : Int) ≤ k) (h2 : k ≤ f.emax) : eP f k < fI f ∧ fV f (eP f k) = P2 k := by
  have t := T_pos (f := f)
  have X := X_e g
  have em := emax_1 g
  have lt : eP f k < fI f := by
    unfold eP fI
    exact Nat.mul_lt_mul_of_pos_right (by omega) t
  refine ⟨lt, ?_⟩
  unfold fV
  have d : eP f k / f.tails = ((f.emax : Int) + k).toNat := Nat.mul_div_cancel _ t
  have m : eP f k % f.tails = 0 := Nat.mul_mod_left _ _
  rw [d, m, if_neg (by omega), Nat.add_zero]
  have tP : (f.tails : Rat) = P2 ((f.p : Int) - 1) := by
    unfold FP.Core.Fmt.tails
    rw [← P2_nat]
    congr 1
    omega
  rw [tP, ← P2_add]
  congr 1
  unfold FP.Core.Fmt.qmin
  omega
theorem rn_P (g : Gf f) {k : Int} (h1 : 1 - (f.emax : Int) ≤ k) (h2 : k ≤ f.emax) : rn f (P2 k) = eP f k := by
  obtain ⟨a, b⟩ := eP_V g h1 h2
  rw [← b, rn_V g a]
/-- one exponent up or down -/
theorem V_up (g : Gf f) {n : Nat} (h0 : f.tails ≤ n) (h : n + f.tails < fI f) : fV f (n + f.tails) = fV f n * 2 := by
  have t := T_pos (f := f)
  have d : (n + f.tails) / f.tails = n / f.tails + 1 := Nat.add_div_right _ t
  have m : (n + f.tails) % f.tails = n % f.tails := Nat.add_mod_right _ _
  have n0 : 0 < n / f.tails := Nat.div_pos h0 t
  unfold fV
  rw [d, m, if_neg (by omega), if_neg (by omega), Rat.mul_assoc, ← P2_succ]
  congr 2
  omega
theorem dbl_rn (g : Gf f) {n : Nat} (h0 : f.tails ≤ n) (h : n + f.tails < fI f) : rn f (fV f n * 2) = n + f.tails := by rw [← V_up g h0 h, rn_V g h]
theorem hlf_rn (g : Gf f) {n : Nat} (h0 : 2 * f.tails ≤ n) (h : n < fI f) : rn f (fV f n / 2) = n - f.tails := by
  have t := T_pos (f := f)
  have e := V_up g (n := n - f.tails) (by omega) (by omega)
  rw [show n - f.tails + f.tails = n by omega] at e
  rw [e, show fV f (n - f.tails) * 2 / 2 = fV f (n - f.tails) by rw [Rat.div_def, Rat.mul_assoc, Rat.mul_inv_cancel _ (by decide), Rat.mul_one], rn_V g (by omega)]
end
