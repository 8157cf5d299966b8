/-! ===== the class's game ===== -/
section
variable {n : Nat} {F : Nat → Nat → Int} {wv : Int32} {told : Bool} {set : Int32} {cv : Int} {c m : eW}
/-- those who can turn, in their order -/
def plr (F : Nat → Nat → Int) : Nat → List Nat
  | 0 => []
  | h + 1 => if canT F h then plr F h ++ [h] else plr F h
theorem plr_cnt : ∀ k, (plr F k).length ≤ cntK F 2 k
  | 0 => Nat.le_refl _
  | k + 1 => by
    have := plr_cnt k
    simp only [plr, cntK]
    by_cases e : canT F k = true
    · have e2 : F k 0 = 2 := by unfold canT at e; simp only [decide_eq_true_eq] at e; exact e.1
      rw [if_pos e, if_pos e2, List.length_append]
      simp; omega
    · rw [if_neg e]; omega
theorem plr_mem : ∀ {k h : Nat}, h ∈ plr F k ↔ h < k ∧ canT F h = true
  | 0, h => by simp [plr]
  | k + 1, h => by
    simp only [plr]
    by_cases e : canT F k = true
    · rw [if_pos e, List.mem_append, plr_mem]
      simp only [List.mem_singleton]
      constructor
      · rintro (⟨a, b⟩ | rfl)
        · exact ⟨by omega, b⟩
        · exact ⟨by omega, e⟩
      · rintro ⟨a, b⟩
        by_cases z : h = k
        · exact .inr z
        · exact .inl ⟨by omega, b⟩
    · rw [if_neg e, plr_mem]
      constructor
      · rintro ⟨a, b⟩; exact ⟨by omega, b⟩
      · rintro ⟨a, b⟩
        by_cases z : h = k
        · rw [z] at b; exact absurd b e
        · exact ⟨by omega, b⟩
theorem plr_nodup : ∀ k, (plr F k).Nodup
  | 0 => List.nodup_nil
  | k + 1 => by
    simp only [plr]
    by_cases e : canT F k = true
    · rw [if_pos e, List.nodup_append]
      refine ⟨plr_nodup k, by simp, fun a ha b hb => ?_⟩
      have := (plr_mem.mp ha).1
      simp at hb
      omega
    · rw [if_neg e]; exact plr_nodup k
def GW (w : eW) (l : List Nat) : Prop := w.1 31 1 = Int32.ofInt ((l.length : Nat) : Int) ∧ ∀ (i h : Nat), l[i]? = some h → w.1 28 i = Int32.ofInt (h : Nat)
theorem gather_loop (hF : FOK n F cv) : ∀ (d k f : Nat), k + d = n → d < f → ∀ w : eW, CF w n F cv wv → GW w (plr F k) → Ok (f_ga_gather_L7 f (Int32.ofInt (k : Nat)) w) fun w' => Fr [28, 31] w w' ∧ GW w' (plr F n) := by
  have hn := hF.1
  intro d
  induction d with
  | zero =>
    intro k f hk hf w hC hg
    obtain ⟨f, rfl⟩ := Nat.exists_eq_succ_of_ne_zero (show f ≠ 0 by omega)
    have : k = n := by omega
    subst this
    unfold f_ga_gather_L7
    rw [hC.1, if_pos (by rw [ile (by omega) (by omega) (by omega) (by omega)]; omega)]
    exact Ok.ret ⟨Fr.rfl, hg⟩
  | succ d ih =>
    intro k f hk hf w hC hg
    obtain ⟨f, rfl⟩ := Nat.exists_eq_succ_of_ne_zero (show f ≠ 0 by omega)
    have hkn : k < n := by omega
    have pc := plr_cnt (F := F) (k + 1)
    have c6 : cntK F 2 (k + 1) ≤ 6 := by
      have mono : ∀ d k : Nat, cntK F 2 k ≤ cntK F 2 (k + d) := by
        intro d
        induction d with
        | zero => intro k; exact Nat.le_refl _
        | succ d ih2 => intro k; have := ih2 k; rw [← Nat.add_assoc]; simp only [cntK]; omega
      have := mono d (k + 1)
      rw [show k + 1 + d = n by omega] at this
      have := hF.2.2.2.2.2.1
      omega
    unfold f_ga_gather_L7
    rw [hC.1, if_neg (by rw [ile (by omega) (by omega) (by omega) (by omega)]; omega), c_canTurn hF hC hkn, obind]
    dsimp only
    simp only [b2i_0]
    rw [isucc]
    simp only [plr] at pc
    by_cases e : canT F k = true
    · rw [if_pos e] at pc
      simp only [List.length_append, List.length_cons, List.length_nil] at pc
      rw [if_neg (by simp [e]), hg.1, if_neg (by rw [show (6 : Int32) = Int32.ofInt 6 from rfl, ile (by omega) (by omega) (by omega) (by omega)]; omega), eChk_of (by omega) (by omega) (by omega), icl (by omega) (by omega), nat_i, isucc]
      have f1 : Fr [28, 31] w (eU1 (eU1 w 28 (plr F k).length (Int32.ofInt (k : Nat))) 31 1 (Int32.ofInt (((plr F k).length + 1 : Nat) : Int))) := (Fr.rfl.u1 (by decide)).u1 (by decide)
      refine Ok.imp (ih (k + 1) f (by omega) (by omega) _ (hC.fr f1 (by decide) (by decide)) ?_) ?_
      · simp only [plr]
        rw [if_pos e]
        refine ⟨by rw [u1s]; simp, fun i h hi => ?_⟩
        rw [List.getElem?_append] at hi
        by_cases z : i < (plr F k).length
        · rw [if_pos z] at hi
          rw [u1n _ _ _ _ _ _ (by omega), u1n _ _ _ _ _ _ (by omega)]
          exact hg.2 i h hi
        · rw [if_neg z] at hi
          have : i = (plr F k).length := by
            apply Classical.byContradiction
            intro y
            have : ([k] : List Nat)[i - (plr F k).length]? = none := List.getElem?_eq_none (by simp; omega)
            rw [this] at hi; cases hi
          subst this
          simp at hi
          subst hi
          rw [u1n _ _ _ _ _ _ (by omega), u1s]
      · rintro w' ⟨q1, q2⟩
        exact ⟨f1.tr q1, q2⟩
    · rw [if_pos (by simpa using e)]
      have e' : plr F (k + 1) = plr F k := by simp only [plr]; rw [if_neg e]
      exact ih (k + 1) f (by omega) (by omega) w hC (by rw [e']; exact hg)
theorem ga_gather (hF : FOK n F cv) (hC : CF c n F cv wv) : Ok (f_ga_gather c) fun w' => Fr QS c w' ∧ GW w' (plr F n) := by
  unfold f_ga_gather
  have f1 : Fr [28, 31] c (eU1 c 31 1 0) := Fr.rfl.u1 (by decide)
  refine Ok.imp (gather_loop hF n 0 eFu (by omega) (by rw [eFu_eq]; have := hF.1; omega) _ (hC.fr f1 (by decide) (by decide)) ⟨by rw [u1s]; rfl, fun i h hi => by simp [plr] at hi⟩) ?_
  rintro w' ⟨q1, q2⟩
  exact ⟨(f1.tr q1).sub (by decide), q2⟩
/-! rows and sets -/
theorem row_loop {l : List Nat} (hl : l.length ≤ 6) (hb : ∀ h, h ∈ l → h < 12) {w : eW} (hg : GW w l) (set : Int32) : ∀ (d k f : Nat), k + d = l.length → d < f → ∀ r : Nat, r < 2 ^ k → (∀ j h, j < k → l[j]? = some h → r.testBit j = sb set h) → ∃ r' : Nat, f_ga_rowOf_L4 f set (Int32.ofInt (r : Nat)) (Int32.ofInt (k : Nat)) w = some (Int32.ofInt (r' : Nat), w) ∧ r' < 2 ^ l.length ∧ ∀ j h, l[j]? = some h → r'.testBit j = sb set h := by
  intro d
  induction d with
  | zero =>
    intro k f hk hf r hr ht
    obtain ⟨f, rfl⟩ := Nat.exists_eq_succ_of_ne_zero (show f ≠ 0 by omega)
    have : k = l.length := by omega
    subst this
    unfold f_ga_rowOf_L4
    rw [hg.1, if_pos (by rw [ile (by omega) (by omega) (by omega) (by omega)]; omega)]
    exact ⟨r, rfl, hr, fun j h hj => ht j h (List.getElem?_eq_some_iff.mp hj).1 hj⟩
  | succ d ih =>
    intro k f hk hf r hr ht
    obtain ⟨f, rfl⟩ := Nat.exists_eq_succ_of_ne_zero (show f ≠ 0 by omega)
    have hkl : k < l.length := by omega
    have hlk : l[k]? = some l[k] := List.getElem?_eq_getElem hkl
    have h12 := hb _ (List.getElem_mem hkl)
    unfold f_ga_rowOf_L4
    rw [hg.1, if_neg (by rw [ile (by omega) (by omega) (by omega) (by omega)]; omega), eChk_of (by omega) (by omega) (by omega), icl (by omega) (by omega), nat_i, hg.2 k _ hlk]
    have key : Int32.ofInt (r : Nat) ||| (((set >>> (Int32.ofInt (l[k] : Nat) &&& 31)) &&& (1 : Int32)) <<< (Int32.ofInt (k : Nat) &&& 31)) = Int32.ofInt ((r ||| (if sb set l[k] then 2 ^ k else 0) : Nat) : Int) := by
      refine sb_ext fun i hi => ?_
      rw [sb_or _ _ hi, sb_bitat _ hi (by omega) (by omega), sb_nat _ hi, sb_nat _ hi, Nat.testBit_or]
      congr 1
      by_cases e : sb set l[k] = true
      · rw [if_pos e, e, Nat.testBit_two_pow]; simp [eq_comm]
      · rw [if_neg e]; simp [e]
    rw [key, isucc]
    refine ih (k + 1) f (by omega) (by omega) _ ?_ ?_
    · apply Nat.or_lt_two_pow
      · have : 2 ^ (k + 1) = 2 ^ k * 2 := Nat.pow_succ _ _; omega
      · have : 2 ^ (k + 1) = 2 ^ k * 2 := Nat.pow_succ _ _
        have : 0 < 2 ^ k := Nat.two_pow_pos k
        split <;> omega
    · intro j h hj hjl
      rw [Nat.testBit_or]
      by_cases e : j = k
      · subst e
        rw [hlk] at hjl
        cases hjl
        rw [Nat.testBit_lt_two_pow hr]
        by_cases g : sb set l[j] = true
        · rw [if_pos g, Nat.testBit_two_pow]; simp [g]
        · rw [if_neg g]; simp [g]
      · rw [ht j h (by omega) hjl]
        by_cases g : sb set l[k] = true
        · rw [if_pos g, Nat.testBit_two_pow]; simp; omega
        · rw [if_neg g]; simp
theorem ga_rowOf {l : List Nat} (hl : l.length ≤ 6) (hb : ∀ h, h ∈ l → h < 12) {w : eW} (hg : GW w l) (set : Int32) : ∃ r' : Nat, f_ga_rowOf set w = some (Int32.ofInt (r' : Nat), w) ∧ r' < 2 ^ l.length ∧ ∀ j h, l[j]? = some h → r'.testBit j = sb set h := row_loop hl hb hg set l.length 0 eFu (by omega) (by rw [eFu_eq]; omega) 0 (by simp) (by omega)
theorem set_loop {l : List Nat} (hl : l.length ≤ 6) (hb : ∀ h, h ∈ l → h < 12) {w : eW} (hg : GW w l) {r : Nat} (hr : r < 64) : ∀ (d k f : Nat), k + d = l.length → d < f → ∀ s : Int32, (∀ h, h < 32 → (sb s h = true ↔ ∃ j, j < k ∧ l[j]? = some h ∧ r.testBit j = true)) → ∃ s' : Int32, f_ga_setOf_L4 f (Int32.ofInt (r : Nat)) s (Int32.ofInt (k : Nat)) w = some (s', w) ∧ ∀ h, h < 32 → (sb s' h = true ↔ ∃ j, l[j]? = some h ∧ r.testBit j = true) := by
  intro d
  induction d with
  | zero =>
    intro k f hk hf s hs
    obtain ⟨f, rfl⟩ := Nat.exists_eq_succ_of_ne_zero (show f ≠ 0 by omega)
    have : k = l.length := by omega
    subst this
    unfold f_ga_setOf_L4
    rw [hg.1, if_pos (by rw [ile (by omega) (by omega) (by omega) (by omega)]; omega)]
    refine ⟨s, rfl, fun h hh => ?_⟩
    rw [hs h hh]
    constructor
    · rintro ⟨j, a, b⟩; exact ⟨j, b⟩
    · rintro ⟨j, b⟩; exact ⟨j, (List.getElem?_eq_some_iff.mp b.1).1, b⟩
  | succ d ih =>
    intro k f hk hf s hs
    obtain ⟨f, rfl⟩ := Nat.exists_eq_succ_of_ne_zero (show f ≠ 0 by omega)
    have hkl : k < l.length := by omega
    have hlk : l[k]? = some l[k] := List.getElem?_eq_getElem hkl
    have h12 := hb _ (List.getElem_mem hkl)
    unfold f_ga_setOf_L4
    rw [hg.1, if_neg (by rw [ile (by omega) (by omega) (by omega) (by omega)]; omega), eChk_of (by omega) (by omega) (by omega), icl (by omega) (by omega), nat_i, hg.2 k _ hlk, isucc]
    refine ih (k + 1) f (by omega) (by omega) _ fun h hh => ?_
    rw [sb_or _ _ hh, sb_bitat _ hh (by omega) (by omega), sb_nat _ (by omega), Bool.or_eq_true, hs h hh, Bool.and_eq_true, decide_eq_true_eq]
    constructor
    · rintro (⟨j, a, b⟩ | ⟨a, b⟩)
      · exact ⟨j, by omega, b⟩
      · exact ⟨k, by omega, by rw [hlk, a], b⟩
    · rintro ⟨j, a, b, q⟩
      by_cases e : j = k
      · subst e
        rw [hlk] at b
        cases b
        exact .inr ⟨rfl, q⟩
      · exact .inl ⟨j, by omega, b, q⟩
/-- the set of a row -/
def SetR (l : List Nat) (r : Nat) (s : Int32) : Prop := ∀ h, h < 32 → (sb s h = true ↔ ∃ j, l[j]? = some h ∧ r.testBit j = true)
theorem ga_setOf {l : List Nat} (hl : l.length ≤ 6) (hb : ∀ h, h ∈ l → h < 12) {w : eW} (hg : GW w l) {r : Nat} (hr : r < 64) : ∃ s' : Int32, f_ga_setOf (Int32.ofInt (r : Nat)) w = some (s', w) ∧ SetR l r s' := set_loop hl hb hg hr l.length 0 eFu (by omega) (by rw [eFu_eq]; omega) 0 fun h hh => by rw [sb_zero h hh]; simp
theorem SetR_uniq {l : List Nat} {r : Nat} {s t : Int32} (a : SetR l r s) (b : SetR l r t) : s = t := sb_ext fun i hi => by
  have x := a i hi
  have y := b i hi
  rw [← y] at x
  cases h1 : sb s i <;> cases h2 : sb t i
  · rfl
  · have := x.mpr h2; rw [h1] at this; cases this
  · have := x.mp h1; rw [h2] at this; cases this
  · rfl
end
section
variable {n : Nat} {F : Nat → Nat → Int} {wv : Int32} {told : Bool} {set : Int32} {cv : Int} {c m : eW}
def RowD (w : eW) (l : List Nat) (r : Nat) (x : Nat → Rat) : Prop := ∃ (b : Int) (a : Nat → Int), w.2 30 r = Int64.ofInt b ∧ 1 ≤ b ∧ b ≤ 5939406000 ∧ ∀ i h, l[i]? = some h → w.2 29 (r * 6 + i) = Int64.ofInt (a i) ∧ (a i : Rat) = x h * (b : Rat) ∧ 0 ≤ a i ∧ a i ≤ 5939405406060000000
/-- a row is played -/
def RW (n : Nat) (F : Nat → Nat → Int) (wv : Int32) (cv : Int) (z : Int) (w : eW) (r : Nat) : Prop := ∃ s, SetR (plr F n) r s ∧ RowD w (plr F n) r (XC n F wv cv z s)
def PlF (r : Nat) (w w' : eW) : Prop := Fr QS w w' ∧ w'.1 28 = w.1 28 ∧ w'.1 31 = w.1 31 ∧ (∀ k, k ≠ r → w'.2 30 k = w.2 30 k) ∧ ∀ k, ¬ (r * 6 ≤ k ∧ k < r * 6 + 6) → w'.2 29 k = w.2 29 k
theorem GW.pl {w w' : eW} {l : List Nat} {r : Nat} (h : GW w l) (k : PlF r w w') : GW w' l := by
  unfold GW at *
  rw [k.2.1, k.2.2.1]
  exact h
theorem PlF.tr {r : Nat} {a b c : eW} (h : PlF r a b) (k : PlF r b c) : PlF r a c := ⟨h.1.tr k.1, k.2.1.trans h.2.1, k.2.2.1.trans h.2.2.1, fun i hi => (k.2.2.2.1 i hi).trans (h.2.2.2.1 i hi), fun i hi => (k.2.2.2.2 i hi).trans (h.2.2.2.2 i hi)⟩
theorem plr_6 (hF : FOK n F cv) : (plr F n).length ≤ 6 := Nat.le_trans (plr_cnt n) hF.2.2.2.2.2.1
theorem plr_12 (hF : FOK n F cv) : ∀ h, h ∈ plr F n → h < 12 := fun h hh => by have := (plr_mem.mp hh).1; have := hF.1; omega
theorem RW.pl (hF : FOK n F cv) {w w' : eW} {r k : Nat} {z : Int} (h : RW n F wv cv z w k) (p : PlF r w w') (hk : k ≠ r) : RW n F wv cv z w' k := by
  obtain ⟨s, hs, b, a, e1, e2, e3, e4⟩ := h
  refine ⟨s, hs, b, a, by rw [p.2.2.2.1 k hk]; exact e1, e2, e3, fun i h hi => ?_⟩
  have := (List.getElem?_eq_some_iff.mp hi).1
  have := plr_6 hF
  rw [p.2.2.2.2 _ (by omega)]
  exact e4 i h hi
theorem play_loop (hF : FOK n F cv) {falls : Int} (hb : 0 ≤ falls ∧ falls ≤ 999999900) {s : Int32} {r : Nat} (hr : r < 64) {b : Int} {a : Nat → Int} : ∀ (d k f : Nat), k + d = (plr F n).length → d < f → ∀ w : eW, GW w (plr F n) → (∀ i, i < n → f_fa_aboveOf (Int32.ofInt (i : Nat)) w = some (Int64.ofInt (a i), w)) → w.1 19 0 = Int32.ofInt (n : Nat) → (∀ i, i < n → w.2 22 i = Int64.ofInt (a i)) → (∀ i h, i < k → (plr F n)[i]? = some h → w.2 29 (r * 6 + i) = Int64.ofInt (a h)) → Ok (f_ga_play_L41 f (Int32.ofInt (r : Nat)) (Int32.ofInt (k : Nat)) w) fun w' => PlF r w w' ∧ w'.2 30 = w.2 30 ∧ ∀ i h, (plr F n)[i]? = some h → w'.2 29 (r * 6 + i) = Int64.ofInt (a h) := by
  have hn := hF.1
  have l6 := plr_6 hF
  intro d
  induction d with
  | zero =>
    intro k f hk hf w hg ha h19 h22 hd
    obtain ⟨f, rfl⟩ := Nat.exists_eq_succ_of_ne_zero (show f ≠ 0 by omega)
    have : k = (plr F n).length := by omega
    subst this
    unfold f_ga_play_L41
    rw [hg.1, if_pos (by rw [ile (by omega) (by omega) (by omega) (by omega)]; omega)]
    exact Ok.ret ⟨⟨Fr.rfl, rfl, rfl, fun _ _ => rfl, fun _ _ => rfl⟩, rfl, fun i h hi => hd i h (List.getElem?_eq_some_iff.mp hi).1 hi⟩
  | succ d ih =>
    intro k f hk hf w hg ha h19 h22 hd
    obtain ⟨f, rfl⟩ := Nat.exists_eq_succ_of_ne_zero (show f ≠ 0 by omega)
    have hkl : k < (plr F n).length := by omega
    have hlk : (plr F n)[k]? = some (plr F n)[k] := List.getElem?_eq_getElem hkl
    have hm := plr_mem.mp (List.getElem_mem hkl)
    generalize (plr F n)[k] = q at *
    unfold f_ga_play_L41
    have e : ((r : Int) * (6 : Nat) + k).toNat = r * 6 + k := by omega
    rw [hg.1, if_neg (by rw [ile (by omega) (by omega) (by omega) (by omega)]; omega), eChk_of (by omega) (by omega) (by omega), icl (by omega) (by omega), nat_i, hg.2 k _ hlk, ha q hm.1, obind]
    dsimp only
    rw [show (6 : Int32) = Int32.ofInt (6 : Nat) from rfl, ← Int32.ofInt_mul, ← Int32.ofInt_add, eChk_of (by omega) (by omega) (by omega), icl (by omega) (by omega), e, isucc]
    have p1 : PlF r w (eU2 w 29 (r * 6 + k) (Int64.ofInt (a q))) := ⟨Fr.rfl.u2 (by decide), rfl, rfl, fun j hj => u2n _ _ _ _ _ _ (by omega), fun j hj => u2n _ _ _ _ _ _ (by omega)⟩
    have h22' : ∀ i, i < n → (eU2 w 29 (r * 6 + k) (Int64.ofInt (a q))).2 22 i = Int64.ofInt (a i) := fun i hi => by rw [u2n _ _ _ _ _ _ (by omega)]; exact h22 i hi
    refine Ok.imp (ih (k + 1) f (by omega) (by omega) _ (hg.pl p1) ?_ h19 h22' ?_) ?_
    · intro i hi
      unfold f_fa_aboveOf
      rw [show (eU2 w 29 (r * 6 + k) (Int64.ofInt (a q))).1 19 0 = Int32.ofInt (n : Nat) from h19]
      simp (disch := omega) only [ilit, ilt, ile, eChk_of, icl, nat_i, h22' i hi]
      rw [if_neg (by omega), if_neg (by omega)]
    · intro i h hi hil
      by_cases z : i = k
      · subst z
        rw [hlk] at hil
        cases hil
        rw [u2s]
      · rw [u2n _ _ _ _ _ _ (by omega)]; exact hd i h (by omega) hil
    · rintro w' ⟨q1, q2, q3⟩
      exact ⟨p1.tr q1, by rw [q2]; funext j; exact u2n _ _ _ _ _ _ (by omega), q3⟩
theorem ga_play (hF : FOK n F cv) {z : Int} (z1 : 0 ≤ z) (z2 : z ≤ 9999999) {r : Nat} (hr : r < 64) {w : eW} (hC : CF w n F cv wv) (hg : GW w (plr F n)) : Ok (f_ga_play (Int32.ofInt (r : Nat)) (Int64.ofInt (100 * fallsI cv z)) w) fun w' => PlF r w w' ∧ RW n F wv cv z w' r := by
  have hn := hF.1
  have fb := falls_b hF z1 z2
  unfold f_ga_play
  rw [if_neg (by rw [show (0 : Int32) = Int32.ofInt 0 from rfl, ilt (by omega) (by omega) (by omega) (by omega)]; omega), if_pos (by rw [show (64 : Int32) = Int32.ofInt 64 from rfl, ilt (by omega) (by omega) (by omega) (by omega)]; omega)]
  obtain ⟨s, e1, hs⟩ := ga_setOf (plr_6 hF) (plr_12 hF) hg hr
  rw [e1, obind]
  dsimp only
  refine Ok.bind (fa_arrange (told := true) (set := s) hF hC) ?_
  rintro w1 ⟨f1, -, ar⟩
  have hC1 := hC.fr f1 (by decide) (by decide)
  refine Ok.bind (CP_pour hF fb hC1 ar) ?_
  rintro w2 ⟨f2, cp⟩
  have f12 : Fr SB w w2 → True := fun _ => trivial
  have g28 : w2.1 28 = w.1 28 := by rw [(f2.fr 28 (by decide)).1, (f1 28 (by decide)).1]
  have g31 : w2.1 31 = w.1 31 := by rw [(f2.fr 31 (by decide)).1, (f1 31 (by decide)).1]
  have g30 : w2.2 30 = w.2 30 := by rw [(f2.fr 30 (by decide)).2, (f1 30 (by decide)).2]
  have g29 : w2.2 29 = w.2 29 := by rw [(f2.fr 29 (by decide)).2, (f1 29 (by decide)).2]
  obtain ⟨b, a, y1, y2, y3, y4, y5⟩ := cp.ab hF fb
  rw [eChk_of (by omega) (by omega) (by omega), icl (by omega) (by omega), nat_i, y1]
  have p1 : PlF r w (eU2 w2 30 r (Int64.ofInt b)) := by
    refine ⟨((f1.sub (by decide)).tr f2.q).u2 (by decide), g28, g31, fun k hk => ?_, fun k hk => ?_⟩
    · rw [u2n _ _ _ _ _ _ (by omega), g30]
    · rw [u2n _ _ _ _ _ _ (by omega), g29]
  have h22 : ∀ i, i < n → (eU2 w2 30 r (Int64.ofInt b)).2 22 i = Int64.ofInt (a i) := fun i hi => by rw [u2n _ _ _ _ _ _ (by omega)]; exact (y5 i hi).1
  refine Ok.imp (play_loop (s := s) hF fb hr (b := b) (a := a) (plr F n).length 0 eFu (by omega) (by rw [eFu_eq]; have := plr_6 hF; omega) _ (hg.pl p1) ?_ cp.2.1.1.1 h22 (by omega)) ?_
  · intro i hi
    unfold f_fa_aboveOf
    rw [show (eU2 w2 30 r (Int64.ofInt b)).1 19 0 = Int32.ofInt (n : Nat) from cp.2.1.1.1]
    simp (disch := omega) only [ilit, ilt, ile, eChk_of, icl, nat_i, h22 i hi]
    rw [if_neg (by omega), if_neg (by omega)]
  · rintro w' ⟨q1, q2, q3⟩
    refine ⟨p1.tr q1, s, hs, b, fun i => a ((plr F n).getD i 0), by rw [q2, u2s], y2, y4, fun i h hi => ?_⟩
    have hm := plr_mem.mp (List.mem_of_getElem? hi)
    have eg : (plr F n).getD i 0 = h := by simp [List.getD, hi]
    obtain ⟨x1, x2, x3, x4, x5, x6⟩ := y5 h hm.1
    dsimp only
    rw [eg]
    exact ⟨q3 i h hi, x3, x4, x5⟩
theorem row_xor {r i : Nat} (hr : r < 64) (hi : i < 6) : Int32.ofInt (r : Nat) ^^^ ((1 : Int32) <<< (Int32.ofInt (i : Nat) &&& 31)) = Int32.ofInt ((r ^^^ 2 ^ i : Nat) : Int) ∧ r ^^^ 2 ^ i < 64 := by
  refine ⟨sb_ext fun j hj => ?_, Nat.xor_lt_two_pow (n := 6) hr ?_⟩
  · rw [sb_xor _ _ hj, sb_pow hj (by omega), sb_nat _ hj, sb_nat _ hj, Nat.testBit_xor, Nat.testBit_two_pow]
    simp [eq_comm]
  · have : 2 ^ i ≤ 2 ^ 5 := Nat.pow_le_pow_right (by omega) (by omega)
    omega
theorem xor_ne {r i : Nat} : r ^^^ 2 ^ i ≠ r := fun h => by
  have : (r ^^^ 2 ^ i).testBit i = r.testBit i := by rw [h]
  rw [Nat.testBit_xor, Nat.testBit_two_pow] at this
  cases hh : r.testBit i <;> simp [hh] at this
theorem xor_inj {r i j : Nat} (h : r ^^^ 2 ^ i = r ^^^ 2 ^ j) : i = j := by
  apply Classical.byContradiction
  intro ne
  have : (r ^^^ 2 ^ i).testBit i = (r ^^^ 2 ^ j).testBit i := by rw [h]
  rw [Nat.testBit_xor, Nat.testBit_xor, Nat.testBit_two_pow, Nat.testBit_two_pow] at this
  have e : decide (j = i) = false := by simp; omega
  rw [e] at this
  cases hh : r.testBit i <;> simp [hh] at this
theorem round_loop (hF : FOK n F cv) {z : Int} (z1 : 0 ≤ z) (z2 : z ≤ 9999999) {r : Nat} (hr : r < 64) : ∀ (d k f : Nat), k + d = (plr F n).length → d < f → ∀ w : eW, CF w n F cv wv → GW w (plr F n) → RW n F wv cv z w r → (∀ i, i < k → RW n F wv cv z w (r ^^^ 2 ^ i)) → Ok (f_ga_playRound_L12 f (Int32.ofInt (r : Nat)) (Int64.ofInt (100 * fallsI cv z)) (Int32.ofInt (k : Nat)) w) fun w' => Fr QS w w' ∧ GW w' (plr F n) ∧ RW n F wv cv z w' r ∧ ∀ i, i < (plr F n).length → RW n F wv cv z w' (r ^^^ 2 ^ i) := by
  have l6 := plr_6 hF
  intro d
  induction d with
  | zero =>
    intro k f hk hf w hC hg h1 h2
    obtain ⟨f, rfl⟩ := Nat.exists_eq_succ_of_ne_zero (show f ≠ 0 by omega)
    have : k = (plr F n).length := by omega
    subst this
    unfold f_ga_playRound_L12
    rw [hg.1, if_pos (by rw [ile (by omega) (by omega) (by omega) (by omega)]; omega)]
    exact Ok.ret ⟨Fr.rfl, hg, h1, h2⟩
  | succ d ih =>
    intro k f hk hf w hC hg h1 h2
    obtain ⟨f, rfl⟩ := Nat.exists_eq_succ_of_ne_zero (show f ≠ 0 by omega)
    unfold f_ga_playRound_L12
    obtain ⟨x1, x2⟩ := row_xor hr (show k < 6 by omega)
    rw [hg.1, if_neg (by rw [ile (by omega) (by omega) (by omega) (by omega)]; omega), x1, isucc]
    refine Ok.bind (ga_play hF z1 z2 x2 hC hg) ?_
    rintro w1 ⟨p1, p2⟩
    refine Ok.imp (ih (k + 1) f (by omega) (by omega) w1 (hC.q p1.1) (hg.pl p1) (h1.pl hF p1 (fun e => xor_ne e.symm)) fun i hi => ?_) ?_
    · by_cases e : i = k
      · rw [e]; exact p2
      · exact (h2 i (by omega)).pl hF p1 (fun y => e (xor_inj y))
    · rintro w' ⟨q1, q2⟩
      exact ⟨p1.1.tr q1, q2⟩
theorem ga_round (hF : FOK n F cv) {z : Int} (z1 : 0 ≤ z) (z2 : z ≤ 9999999) {r : Nat} (hr : r < 64) {w : eW} (hC : CF w n F cv wv) (hg : GW w (plr F n)) : Ok (f_ga_playRound (Int32.ofInt (r : Nat)) (Int64.ofInt (100 * fallsI cv z)) w) fun w' => Fr QS w w' ∧ GW w' (plr F n) ∧ RW n F wv cv z w' r ∧ ∀ i, i < (plr F n).length → RW n F wv cv z w' (r ^^^ 2 ^ i) := by
  unfold f_ga_playRound
  refine Ok.bind (ga_play hF z1 z2 hr hC hg) ?_
  rintro w1 ⟨p1, p2⟩
  refine Ok.imp (round_loop hF z1 z2 hr (plr F n).length 0 eFu (by omega) (by rw [eFu_eq]; have := plr_6 hF; omega) w1 (hC.q p1.1) (hg.pl p1) p2 (by omega)) ?_
  rintro w' ⟨q1, q2⟩
  exact ⟨p1.1.tr q1, q2⟩
/-- whoever turns otherwise in a row turns so in its set -/
theorem SetR_xor (hF : FOK n F cv) {r i h : Nat} {s t : Int32} (hs : SetR (plr F n) r s) (ht : SetR (plr F n) (r ^^^ 2 ^ i) t) (hi : (plr F n)[i]? = some h) : Lk n F t (s ^^^ ((1 : Int32) <<< (Int32.ofInt (h : Nat) &&& 31))) := by
  have hn := hF.1
  intro k hk
  unfold tnd
  cases ct : canT F k
  · simp
  · have hh := (plr_mem.mp (List.mem_of_getElem? hi)).1
    congr 1
    rw [sb_xor _ _ (by omega), sb_pow (by omega) (by omega)]
    obtain ⟨j, hj⟩ := List.mem_iff_getElem?.mp (plr_mem.mpr ⟨hk, ct⟩)
    have uq : ∀ j', (plr F n)[j']? = some k → j' = j := fun j' hj' => by
      have l1 := (List.getElem?_eq_some_iff.mp hj').1
      have l2 := (List.getElem?_eq_some_iff.mp hj).1
      have a := (List.getElem?_eq_some_iff.mp hj').2
      have b := (List.getElem?_eq_some_iff.mp hj).2
      have nd := List.pairwise_iff_getElem.mp (plr_nodup (F := F) n)
      rcases Nat.lt_trichotomy j' j with y | y | y
      · exact absurd (a.trans b.symm) (nd j' j l1 l2 y)
      · exact y
      · exact absurd (b.trans a.symm) (nd j j' l2 l1 y)
    have A : sb s k = r.testBit j := by
      cases e : r.testBit j
      · rw [Bool.eq_false_iff]
        intro y
        obtain ⟨j', a, b⟩ := (hs k (by omega)).mp y
        rw [uq j' a, e] at b; cases b
      · exact (hs k (by omega)).mpr ⟨j, hj, e⟩
    have B : sb t k = (r ^^^ 2 ^ i).testBit j := by
      cases e : (r ^^^ 2 ^ i).testBit j
      · rw [Bool.eq_false_iff]
        intro y
        obtain ⟨j', a, b⟩ := (ht k (by omega)).mp y
        rw [uq j' a, e] at b; cases b
      · exact (ht k (by omega)).mpr ⟨j, hj, e⟩
    rw [A, B, Nat.testBit_xor, Nat.testBit_two_pow]
    congr 1
    by_cases e : i = j
    · rw [e] at hi
      rw [hi] at hj
      cases hj
      simp [e]
    · have : k ≠ h := fun y => e (uq i (by rw [hi, y]))
      simp [e, this]
theorem steady_loop (hF : FOK n F cv) {z : Int} (z1 : 0 ≤ z) (z2 : z ≤ 9999999) {r : Nat} (hr : r < 64) {w : eW} (hC : CF w n F cv wv) (hg : GW w (plr F n)) (h1 : RW n F wv cv z w r) (h2 : ∀ i, i < (plr F n).length → RW n F wv cv z w (r ^^^ 2 ^ i)) {s : Int32} (hs : SetR (plr F n) r s) : ∀ (d k f : Nat), k + d = (plr F n).length → d < f → (∀ i h, i < k → (plr F n)[i]? = some h → XC n F wv cv z (s ^^^ ((1 : Int32) <<< (Int32.ofInt (h : Nat) &&& 31))) h ≤ XC n F wv cv z s h) → f_ga_isSteady_L2 f (Int32.ofInt (r : Nat)) (Int32.ofInt (k : Nat)) w = some (pI (St n F wv cv z s), w) := by
  have hn := hF.1
  have l6 := plr_6 hF
  intro d
  induction d with
  | zero =>
    intro k f hk hf hst
    obtain ⟨f, rfl⟩ := Nat.exists_eq_succ_of_ne_zero (show f ≠ 0 by omega)
    have : k = (plr F n).length := by omega
    subst this
    unfold f_ga_isSteady_L2
    rw [hg.1, if_pos (by rw [ile (by omega) (by omega) (by omega) (by omega)]; omega), pI_t]
    intro h hh ct
    obtain ⟨j, hj⟩ := List.mem_iff_getElem?.mp (plr_mem.mpr ⟨hh, ct⟩)
    exact hst j h (List.getElem?_eq_some_iff.mp hj).1 hj
  | succ d ih =>
    intro k f hk hf hst
    obtain ⟨f, rfl⟩ := Nat.exists_eq_succ_of_ne_zero (show f ≠ 0 by omega)
    have hkl : k < (plr F n).length := by omega
    have hlk : (plr F n)[k]? = some (plr F n)[k] := List.getElem?_eq_getElem hkl
    have hm := plr_mem.mp (List.getElem_mem hkl)
    generalize (plr F n)[k] = q at *
    obtain ⟨x1, x2⟩ := row_xor hr (show k < 6 by omega)
    obtain ⟨s1, hs1, b1, a1, c1, c2, c3, c4⟩ := h1
    have := SetR_uniq hs1 hs
    subst this
    obtain ⟨t, ht, b2, a2, d1, d2, d3, d4⟩ := h2 k hkl
    obtain ⟨c5, c6, c7, c8⟩ := c4 k q hlk
    obtain ⟨d5, d6, d7, d8⟩ := d4 k q hlk
    have lk := XC_lk hF hC z1 z2 (SetR_xor hF hs ht hlk) hm.1
    rw [lk] at d6
    have sg := sgn_rat (by omega) (by omega) d6 c6
    unfold f_ga_isSteady_L2 f_ga_gains
    have e : ((r : Int) * (6 : Nat) + k).toNat = r * 6 + k := by omega
    have e' : (((r ^^^ 2 ^ k : Nat) : Int) * (6 : Nat) + k).toNat = (r ^^^ 2 ^ k) * 6 + k := by omega
    rw [hg.1, if_neg (by rw [ile (by omega) (by omega) (by omega) (by omega)]; omega), x1, isucc]
    rw [if_neg (by rw [show (0 : Int32) = Int32.ofInt 0 from rfl, ilt (by omega) (by omega) (by omega) (by omega)]; omega), if_neg (by rw [show (64 : Int32) = Int32.ofInt 64 from rfl, ile (by omega) (by omega) (by omega) (by omega)]; omega), if_neg (by rw [show (0 : Int32) = Int32.ofInt 0 from rfl, ilt (by omega) (by omega) (by omega) (by omega)]; omega), if_neg (by rw [show (64 : Int32) = Int32.ofInt 64 from rfl, ile (by omega) (by omega) (by omega) (by omega)]; omega)]
    unfold f_ga_gains_J25
    rw [if_neg (show ¬ ((1 : Int32) = 0) by decide), if_neg (by rw [show (0 : Int32) = Int32.ofInt 0 from rfl, ilt (by omega) (by omega) (by omega) (by omega)]; omega), if_pos (by rw [show (6 : Int32) = Int32.ofInt 6 from rfl, ilt (by omega) (by omega) (by omega) (by omega)]; omega)]
    rw [show (6 : Int32) = Int32.ofInt (6 : Nat) from rfl, ← Int32.ofInt_mul, ← Int32.ofInt_add, ← Int32.ofInt_mul, ← Int32.ofInt_add, eChk_of (by omega) (by omega) (by omega), eChk_of (by omega) (by omega) (by omega), eChk_of (by omega) (by omega) (by omega), eChk_of (by omega) (by omega) (by omega), icl (by omega) (by omega), icl (by omega) (by omega), icl (by omega) (by omega), icl (by omega) (by omega), e, e', nat_i, nat_i, c5, d5, c1, d1, nu_cmp d7 (by omega) (by omega) (by omega) c7 (by omega) (by omega) (by omega), obind]
    dsimp only
    generalize a2 k * b1 - a1 k * b2 = zz at *
    by_cases g : 0 < zz
    · rw [sgn_p g, if_neg (by decide), obind]
      dsimp only
      rw [if_neg (by decide), pI_f]
      intro st
      have := st q hm.1 hm.2
      have n1 : ¬ XC n F wv cv z (s1 ^^^ ((1 : Int32) <<< (Int32.ofInt (q : Nat) &&& 31))) q < XC n F wv cv z s1 q := fun t => by have := sg.1.mpr t; omega
      have n2 : ¬ XC n F wv cv z (s1 ^^^ ((1 : Int32) <<< (Int32.ofInt (q : Nat) &&& 31))) q = XC n F wv cv z s1 q := fun t => by have := sg.2.mpr t; omega
      grind
    · rw [if_pos (by unfold sgn; split; decide; rw [if_pos (by omega)]; decide), obind]
      dsimp only
      rw [if_pos rfl]
      refine ih (k + 1) f (by omega) (by omega) fun i h hi hil => ?_
      by_cases e : i = k
      · subst e
        rw [hlk] at hil
        cases hil
        by_cases g0 : zz = 0
        · have := sg.2.mp g0
          rw [this]
          exact Rat.le_refl
        · exact Rat.le_of_lt (sg.1.mp (by omega))
      · exact hst i h (by omega) hil
theorem ga_isSteady (hF : FOK n F cv) {z : Int} (z1 : 0 ≤ z) (z2 : z ≤ 9999999) {r : Nat} (hr : r < 64) {w : eW} (hC : CF w n F cv wv) (hg : GW w (plr F n)) (h1 : RW n F wv cv z w r) (h2 : ∀ i, i < (plr F n).length → RW n F wv cv z w (r ^^^ 2 ^ i)) {s : Int32} (hs : SetR (plr F n) r s) : f_ga_isSteady (Int32.ofInt (r : Nat)) w = some (pI (St n F wv cv z s), w) := by
  unfold f_ga_isSteady
  exact steady_loop hF z1 z2 hr hC hg h1 h2 hs (plr F n).length 0 eFu (by omega) (by rw [eFu_eq]; have := plr_6 hF; omega) (by omega)
end
