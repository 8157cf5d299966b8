/-! ===== steps of the curves ===== -/
/-- who, rise, ratio, fixed by, slope by -/
abbrev ZStp : Type := Nat × Int × Int × Int × Int
def lsum (f : ZStp → Rat) : List ZStp → Rat
  | [] => 0
  | s :: l => f s + lsum f l
def lint (f : ZStp → Int) : List ZStp → Int
  | [] => 0
  | s :: l => f s + lint f l
theorem lsum_app {f : ZStp → Rat} : ∀ (l k : List ZStp), lsum f (l ++ k) = lsum f l + lsum f k
  | [], k => by simp only [List.nil_append, lsum, Rat.zero_add]
  | s :: l, k => by simp only [List.cons_append, lsum, lsum_app l k]; grind
theorem lint_app {f : ZStp → Int} : ∀ (l k : List ZStp), lint f (l ++ k) = lint f l + lint f k
  | [], k => by simp only [List.nil_append, lint, Int.zero_add]
  | s :: l, k => by simp only [List.cons_append, lint, lint_app l k]; omega
theorem lsum_perm {f : ZStp → Rat} {l k : List ZStp} (h : l.Perm k) : lsum f l = lsum f k := by
  induction h with
  | nil => rfl
  | cons x _ ih => simp only [lsum, ih]
  | swap x y l => simp only [lsum]; grind
  | trans _ _ a b => rw [a, b]
theorem lint_cast {f : ZStp → Int} : ∀ l : List ZStp, ((lint f l : Int) : Rat) = lsum (fun s => (f s : Rat)) l
  | [] => rfl
  | s :: l => by simp only [lint, lsum, Rat.intCast_add, lint_cast l]
theorem lsum_cg {f g : ZStp → Rat} : ∀ {l : List ZStp}, (∀ s, s ∈ l → f s = g s) → lsum f l = lsum g l
  | [], _ => rfl
  | s :: l, k => by
    simp only [lsum]
    rw [k s (by simp), lsum_cg (l := l) (fun s hs => k s (by simp [hs]))]
theorem lsum_0 {f : ZStp → Rat} {l : List ZStp} (k : ∀ s, s ∈ l → f s = 0) : lsum f l = 0 := by
  rw [lsum_cg (g := fun _ => 0) k]
  clear k
  induction l with
  | nil => rfl
  | cons s l ih => simp only [lsum, ih, Rat.add_zero]
theorem lsum_add {f g : ZStp → Rat} : ∀ l : List ZStp, lsum (fun s => f s + g s) l = lsum f l + lsum g l
  | [] => by simp only [lsum, Rat.add_zero]
  | s :: l => by simp only [lsum, lsum_add l]; grind
theorem lsum_mul {f : ZStp → Rat} (c : Rat) : ∀ l : List ZStp, lsum (fun s => f s * c) l = lsum f l * c
  | [] => by simp only [lsum]; grind
  | s :: l => by simp only [lsum, lsum_mul c l]; grind
/-- sums over all holders of what their own steps give -/
theorem lsum_sm {f : ZStp → Rat} {n : Nat} : ∀ {l : List ZStp}, (∀ s, s ∈ l → s.1 < n) → sm (fun h => lsum (fun s => if s.1 = h then f s else 0) l) n = lsum f l
  | [], _ => by
    simp only [lsum]
    rename_i k
    clear k
    induction n with
    | zero => rfl
    | succ n ih => simp only [sm, ih, Rat.add_zero]
  | s :: l, k => by
    simp only [lsum]
    rw [sm_add, sm_at (k s (by simp)), lsum_sm (l := l) (fun s hs => k s (by simp [hs]))]
/-- the level of a step -/
def sL (s : ZStp) : Rat := 100 * (s.2.1 : Rat) / (s.2.2.1 : Rat)
def jm (v : Rat) (s : ZStp) : Rat := if sL s ≤ v then (s.2.2.2.1 : Rat) + (s.2.2.2.2 : Rat) * (v / 100) else 0
def Gs (s : ZStp) : Prop := 0 ≤ s.2.1 ∧ 0 < s.2.2.1 ∧ s.2.2.2.1 * s.2.2.1 + s.2.2.2.2 * s.2.1 = 0
theorem sL_le {s : ZStp} (g : Gs s) {v : Rat} : (sL s ≤ v) ↔ (100 * (s.2.1 : Rat) ≤ v * (s.2.2.1 : Rat)) := qle (by exact_mod_cast g.2.1)
theorem sL_ge {s : ZStp} (g : Gs s) {v : Rat} : (v ≤ sL s) ↔ (v * (s.2.2.1 : Rat) ≤ 100 * (s.2.1 : Rat)) := qge (by exact_mod_cast g.2.1)
theorem sL_nn {s : ZStp} (g : Gs s) : 0 ≤ sL s := qnn (Rat.mul_nonneg (by grind) (by exact_mod_cast g.1)) (by exact_mod_cast g.2.1)
theorem sL_lt {s t : ZStp} (g : Gs s) (k : Gs t) : (sL s < sL t) ↔ (s.2.1 * t.2.2.1 < t.2.1 * s.2.2.1) := by
  have a : (0 : Rat) < (s.2.2.1 : Rat) := by exact_mod_cast g.2.1
  have b : (0 : Rat) < (t.2.2.1 : Rat) := by exact_mod_cast k.2.1
  unfold sL
  rw [Rat.div_lt_iff a, ← Rat.intCast_lt_intCast, Rat.intCast_mul, Rat.intCast_mul]
  have e : 100 * (t.2.1 : Rat) / (t.2.2.1 : Rat) * (s.2.2.1 : Rat) = (100 * ((t.2.1 : Rat) * (s.2.2.1 : Rat))) / (t.2.2.1 : Rat) := by
    rw [Rat.div_def, Rat.div_def]; grind
  rw [e, Rat.lt_div_iff b]
  constructor <;> intro q <;> grind
/-- a step bears on nothing where it stands -/
theorem jm_at {s : ZStp} (g : Gs s) {v : Rat} (h : v = sL s) : (s.2.2.2.1 : Rat) + (s.2.2.2.2 : Rat) * (v / 100) = 0 := by
  have a : (0 : Rat) < (s.2.2.1 : Rat) := by exact_mod_cast g.2.1
  have e : (s.2.2.2.1 : Rat) * (s.2.2.1 : Rat) + (s.2.2.2.2 : Rat) * (s.2.1 : Rat) = 0 := by exact_mod_cast g.2.2
  have d : v * (s.2.2.1 : Rat) = 100 * (s.2.1 : Rat) := by
    rw [h]; exact Rat.div_mul_cancel (by grind)
  have z : ((s.2.2.2.1 : Rat) + (s.2.2.2.2 : Rat) * (v / 100)) * (s.2.2.1 : Rat) = 0 := by grind
  rcases Rat.mul_eq_zero.mp z with q | q
  · exact q
  · grind
theorem jm_lo {s : ZStp} (g : Gs s) {v : Rat} (h : v ≤ sL s) : jm v s = 0 := by
  unfold jm
  split
  · exact jm_at g (by grind)
  · rfl
theorem jm_hi {s : ZStp} {v : Rat} (h : sL s ≤ v) : jm v s = (s.2.2.2.1 : Rat) + (s.2.2.2.2 : Rat) * (v / 100) := if_pos h
section
variable (n : Nat) (F : Nat → Nat → Int) (wv : Int32) (told : Bool) (set : Int32)
def ss (h : Nat) : Int := if F h 0 = 0 then F h 1 * 100 else if F h 0 = 1 then 0 else F h 1 * F h 5
def stp (h : Nat) : List ZStp :=
  if F h 0 = 0 then []
  else if F h 0 = 1 then [(h, F h 2 * 100, 100, -(F h 1) * (F h 2 * 100), F h 1 * 100)]
  else if tnd told set F h then []
  else if canT F h then
    (if told then [(h, lid F wv h - pref F wv h, F h 5, F h 1 * (lid F wv h - pref F wv h), -(F h 1 * F h 5))]
    else [(h, lid F wv h - pref F wv h, F h 5, F h 1 * (lid F wv h - pref F wv h), -(F h 1 * F h 5)), (h, lid F wv h, F h 5, -(F h 1) * lid F wv h, F h 1 * F h 5)])
  else []
def alls : Nat → List ZStp
  | 0 => []
  | h + 1 => alls h ++ stp F wv told set h
end
section
variable {n : Nat} {F : Nat → Nat → Int} {wv : Int32} {told : Bool} {set : Int32} {cv : Int}
theorem stp_good (hF : FOK n F cv) {h : Nat} (hh : h < n) : ∀ s, s ∈ stp F wv told set h → s.1 = h ∧ Gs s := by
  have f := hF.hd hh
  have p := pref_b (wv := wv) hF hh
  intro s hs
  unfold stp at hs
  split at hs
  · simp at hs
  · split at hs
    · rename_i h0 h1
      have g := f.2.2.2.2.1 h1
      simp only [List.mem_singleton] at hs
      subst hs
      refine ⟨rfl, by show 0 ≤ F h 2 * 100; omega, by show (0 : Int) < 100; omega, ?_⟩
      show -(F h 1) * (F h 2 * 100) * 100 + F h 1 * 100 * (F h 2 * 100) = 0
      grind
    · split at hs
      · simp at hs
      · split at hs
        · rename_i hc
          have l := lid_b (wv := wv) hF hh hc
          have g1 : Gs (h, lid F wv h - pref F wv h, F h 5, F h 1 * (lid F wv h - pref F wv h), -(F h 1 * F h 5)) := by
            refine ⟨by show 0 ≤ lid F wv h - pref F wv h; omega, by show 0 < F h 5; omega, ?_⟩
            show F h 1 * (lid F wv h - pref F wv h) * F h 5 + -(F h 1 * F h 5) * (lid F wv h - pref F wv h) = 0
            grind
          have g2 : Gs (h, lid F wv h, F h 5, -(F h 1) * lid F wv h, F h 1 * F h 5) := by
            refine ⟨by show 0 ≤ lid F wv h; omega, by show 0 < F h 5; omega, ?_⟩
            show -(F h 1) * lid F wv h * F h 5 + F h 1 * F h 5 * lid F wv h = 0
            grind
          split at hs
          · simp only [List.mem_singleton] at hs
            subst hs
            exact ⟨rfl, g1⟩
          · simp only [List.mem_cons, List.not_mem_nil, or_false] at hs
            rcases hs with hs | hs
            · subst hs; exact ⟨rfl, g1⟩
            · subst hs; exact ⟨rfl, g2⟩
        · simp at hs
theorem alls_good (hF : FOK n F cv) : ∀ k, k ≤ n → ∀ s, s ∈ alls F wv told set k → s.1 < k ∧ Gs s
  | 0, _, s, hs => by simp [alls] at hs
  | k + 1, hk, s, hs => by
    simp only [alls, List.mem_append] at hs
    rcases hs with hs | hs
    · have := alls_good hF k (by omega) s hs
      exact ⟨by omega, this.2⟩
    · have := stp_good hF (by omega) s hs
      exact ⟨by omega, this.2⟩
theorem alls_of (hF : FOK n F cv) {f : ZStp → Rat} {h : Nat} : ∀ k, k ≤ n → lsum (fun s => if s.1 = h then f s else 0) (alls F wv told set k) = if h < k then lsum f (stp F wv told set h) else 0
  | 0, _ => by simp [alls, lsum]
  | k + 1, hk => by
    simp only [alls, lsum_app]
    rw [alls_of hF k (by omega)]
    by_cases e : h = k
    · subst e
      rw [if_neg (by omega), if_pos (by omega), Rat.zero_add]
      exact lsum_cg fun s hs => if_pos (stp_good hF (by omega) s hs).1
    · rw [lsum_0 (l := stp F wv told set k) (fun s hs => if_neg (by have := (stp_good hF (by omega) s hs).1; omega)), Rat.add_zero]
      by_cases e2 : h < k
      · rw [if_pos e2, if_pos (by omega)]
      · rw [if_neg e2, if_neg (by omega)]
theorem cA {s p l r v : Rat} : s * min (p + v * (r / 100)) l = s * p + s * r * (v / 100) + ((if 100 * (l - p) ≤ v * r then s * (l - p) + -(s * r) * (v / 100) else 0) + 0) := by
  by_cases c : 100 * (l - p) ≤ v * r
  · rw [if_pos c, show min (p + v * (r / 100)) l = l by grind]; grind
  · rw [if_neg c, show min (p + v * (r / 100)) l = p + v * (r / 100) by grind]; grind
theorem cB {s p l r v : Rat} (hp : 0 ≤ p) : s * max (min (p + v * (r / 100)) l) (v * (r / 100)) = s * p + s * r * (v / 100) + ((if 100 * (l - p) ≤ v * r then s * (l - p) + -(s * r) * (v / 100) else 0) + ((if 100 * l ≤ v * r then -s * l + s * r * (v / 100) else 0) + 0)) := by
  by_cases c : 100 * (l - p) ≤ v * r
  · rw [if_pos c, show min (p + v * (r / 100)) l = l by grind]
    by_cases d : 100 * l ≤ v * r
    · rw [if_pos d, show max l (v * (r / 100)) = v * (r / 100) by grind]; grind
    · rw [if_neg d, show max l (v * (r / 100)) = l by grind]; grind
  · rw [if_neg c, if_neg (by grind), show min (p + v * (r / 100)) l = p + v * (r / 100) by grind, show max (p + v * (r / 100)) (v * (r / 100)) = p + v * (r / 100) by grind]; grind
theorem vl_dec (hF : FOK n F cv) {h : Nat} (hh : h < n) {v : Rat} (h0 : 0 ≤ v) : vl F wv told set h v = (prefs F wv told set h : Rat) + (ss F h : Rat) * (v / 100) + lsum (jm v) (stp F wv told set h) := by
  have f := hF.hd hh
  have p := pref_b (wv := wv) hF hh
  have pp : (0 : Rat) ≤ (pref F wv h : Rat) := by exact_mod_cast p.1
  have G := stp_good (wv := wv) (told := told) (set := set) hF hh
  have r0 : (0 : Rat) < (F h 5 : Rat) := by exact_mod_cast (show 0 < F h 5 by omega)
  have y0 : 0 ≤ v * ((F h 5 : Rat) / 100) := Rat.mul_nonneg h0 (by grind)
  unfold vl ps prefs ss fst_
  unfold stp at G ⊢
  split
  · rename_i k0
    rw [show tnd told set F h = false by simp [tnd, canT, k0], show pref F wv h = 0 by simp [pref, k0]]
    simp only [lsum, Rat.intCast_mul, Bool.false_eq_true, if_false]
    grind
  · split
    · rename_i k0 k1
      rw [if_neg k0, if_pos k1] at G
      rw [show tnd told set F h = false by simp [tnd, canT, k1], show pref F wv h = 0 by simp [pref, k1]]
      have g := (G _ (List.mem_singleton.mpr rfl)).2
      simp only [lsum, jm, sL_le g, Rat.intCast_mul, Bool.false_eq_true, if_false, Rat.intCast_neg]
      split <;> grind
    · rename_i k0 k1
      rw [if_neg k0, if_neg k1] at G
      split
      · rename_i kt
        simp only [lsum, Rat.intCast_mul]
        grind
      · rename_i kt
        rw [if_neg kt] at G
        split
        · rename_i hc
          have l := lid_b (wv := wv) hF hh hc
          have ll : (pref F wv h : Rat) ≤ (lid F wv h : Rat) := by exact_mod_cast l.1
          rw [if_pos hc] at G
          split
          · rename_i ht
            rw [if_pos ht] at G
            have g := (G _ (List.mem_singleton.mpr rfl)).2
            simp only [lsum, jm, sL_le g, Rat.intCast_mul, Rat.intCast_sub, Rat.intCast_neg]
            exact cA
          · rename_i ht
            rw [if_neg ht] at G
            have g := (G _ (List.mem_cons_self)).2
            have g2 := (G _ (List.mem_cons_of_mem _ (List.mem_singleton.mpr rfl))).2
            simp only [lsum, jm, sL_le g, sL_le g2, Rat.intCast_mul, Rat.intCast_sub, Rat.intCast_neg]
            exact cB pp
        · simp only [lsum, Rat.intCast_mul]
          grind
end
section
variable {n : Nat} {F : Nat → Nat → Int} {wv : Int32} {told : Bool} {set : Int32} {cv : Int}
theorem IsF_lin (hF : FOK n F cv) {falls : Int} {lo v A B : Rat} (h0 : 0 ≤ lo) (h1 : lo < v) (hB : 0 < B) (hl : ∀ y, lo ≤ y → y ≤ v → tt n F wv told set y = A + B * (y / 100)) (hv : A + B * (v / 100) = falls) (hap : ap n F wv told set < falls) : IsF n F wv told set falls (fun h => vl F wv told set h v) v := by
  refine .inr (.inl ⟨hap, by grind, by rw [hl v (by grind) Rat.le_refl, hv], fun u hu huv => ?_, fun h hh => rfl⟩)
  by_cases c : lo ≤ u
  · rw [hl u c (by grind)]
    have := Rat.mul_lt_mul_of_pos_left (show u / 100 < v / 100 by grind) hB
    grind
  · have e1 := hl lo Rat.le_refl (by grind)
    have e2 := tt_mono (wv := wv) (told := told) (set := set) hF hu (show u ≤ lo by grind)
    have := Rat.mul_lt_mul_of_pos_left (show lo / 100 < v / 100 by grind) hB
    grind
theorem IsF_flat (hF : FOK n F cv) {falls : Int} {lo : Rat} {x : Nat → Rat} (h0 : 0 ≤ lo) (hx : ∀ h, h < n → ∀ v, lo ≤ v → x h = vl F wv told set h v) (hl : tt n F wv told set lo < falls) (hap : ap n F wv told set < falls) : IsF n F wv told set falls x 0 := by
  refine .inr (.inr ⟨hap, rfl, fun v hv => ?_, lo, h0, hx⟩)
  by_cases c : lo ≤ v
  · have : tt n F wv told set v = tt n F wv told set lo := sm_cg fun h hh => by rw [← hx h hh v c, ← hx h hh lo Rat.le_refl]
    rw [this]; exact hl
  · have := tt_mono (wv := wv) (told := told) (set := set) hF hv (show v ≤ lo by grind)
    grind
theorem IsF_cg {falls : Int} {x y : Nat → Rat} {l : Rat} (hx : IsF n F wv told set falls x l) (e : ∀ h, h < n → x h = y h) : IsF n F wv told set falls y l := by
  rcases hx with ⟨a1, a2, a3⟩ | ⟨a1, a2, a3, a4, a5⟩ | ⟨a1, a2, a3, v0, a4, a5⟩
  · exact .inl ⟨a1, fun h hh => by rw [← e h hh, a2 h hh], a3⟩
  · exact .inr (.inl ⟨a1, a2, a3, a4, fun h hh => by rw [← e h hh, a5 h hh]⟩)
  · exact .inr (.inr ⟨a1, a2, a3, v0, a4, fun h hh v hv => by rw [← e h hh, a5 h hh v hv]⟩)
end
section
variable (n : Nat) (F : Nat → Nat → Int) (wv : Int32) (told : Bool) (set : Int32)
def fxt (t : List ZStp) (h : Nat) : Int := prefs F wv told set h + lint (fun s => if s.1 = h then s.2.2.2.1 else 0) t
def sxt (t : List ZStp) (h : Nat) : Int := ss F h + lint (fun s => if s.1 = h then s.2.2.2.2 else 0) t
def AF (t : List ZStp) : Int := ap n F wv told set + lint (fun s => s.2.2.2.1) t
def AS (t : List ZStp) : Int := isum (ss F) n + lint (fun s => s.2.2.2.2) t
/-- steps taken, steps left, the level that is reached -/
def Sw (falls : Int) (t u : List ZStp) (lo : Rat) : Prop := (t ++ u).Perm (alls F wv told set n) ∧ 0 ≤ lo ∧ (∀ s, s ∈ t → sL s ≤ lo) ∧ (∀ s, s ∈ u → lo ≤ sL s) ∧ u.Pairwise (fun a b => sL a ≤ sL b) ∧ (AF n F wv told set t : Rat) + (AS n F t : Rat) * (lo / 100) < falls
end
section
variable {n : Nat} {F : Nat → Nat → Int} {wv : Int32} {told : Bool} {set : Int32} {cv : Int}
theorem sw_vl (hF : FOK n F cv) {t u : List ZStp} (hp : (t ++ u).Perm (alls F wv told set n)) {v : Rat} (h0 : 0 ≤ v) (ht : ∀ s, s ∈ t → sL s ≤ v) (hu : ∀ s, s ∈ u → v ≤ sL s) {h : Nat} (hh : h < n) : vl F wv told set h v = (fxt F wv told set t h : Rat) + (sxt F t h : Rat) * (v / 100) := by
  have e := alls_of (wv := wv) (told := told) (set := set) hF (f := jm v) (h := h) n (Nat.le_refl _)
  rw [if_pos hh, ← lsum_perm hp, lsum_app] at e
  have gu : ∀ s, s ∈ u → Gs s := fun s hs => (alls_good hF n (Nat.le_refl _) s (hp.mem_iff.mp (by simp [hs]))).2
  rw [lsum_0 (l := u) (fun s hs => by split; exact jm_lo (gu s hs) (hu s hs); rfl), Rat.add_zero] at e
  rw [vl_dec hF hh h0, ← e]
  unfold fxt sxt
  rw [Rat.intCast_add, Rat.intCast_add, lint_cast, lint_cast]
  rw [lsum_cg (l := t) (g := fun s => (((if s.1 = h then s.2.2.2.1 else 0 : Int) : Rat)) + (((if s.1 = h then s.2.2.2.2 else 0 : Int) : Rat)) * (v / 100)) (fun s hs => by
    by_cases c : s.1 = h
    · rw [if_pos c, if_pos c, if_pos c, jm_hi (ht s hs)]
    · rw [if_neg c, if_neg c, if_neg c, Rat.intCast_zero, Rat.zero_mul, Rat.add_zero]), lsum_add, lsum_mul]
  grind
theorem AF_sm (hF : FOK n F cv) {t u : List ZStp} (hp : (t ++ u).Perm (alls F wv told set n)) : (AF n F wv told set t : Rat) = sm (fun h => (fxt F wv told set t h : Rat)) n ∧ (AS n F t : Rat) = sm (fun h => (sxt F t h : Rat)) n := by
  have wt : ∀ s, s ∈ t → s.1 < n := fun s hs => (alls_good hF n (Nat.le_refl _) s (hp.mem_iff.mp (by simp [hs]))).1
  unfold AF AS fxt sxt ap
  constructor
  · rw [Rat.intCast_add, isum_cast, lint_cast, ← lsum_sm wt, ← sm_add]
    apply sm_cg
    intro h hh
    rw [Rat.intCast_add, lint_cast]
    congr 1
    apply lsum_cg
    intro s hs
    split <;> rfl
  · rw [Rat.intCast_add, isum_cast, lint_cast, ← lsum_sm wt, ← sm_add]
    apply sm_cg
    intro h hh
    rw [Rat.intCast_add, lint_cast]
    congr 1
    apply lsum_cg
    intro s hs
    split <;> rfl
theorem sw_tt (hF : FOK n F cv) {t u : List ZStp} (hp : (t ++ u).Perm (alls F wv told set n)) {v : Rat} (h0 : 0 ≤ v) (ht : ∀ s, s ∈ t → sL s ≤ v) (hu : ∀ s, s ∈ u → v ≤ sL s) : tt n F wv told set v = (AF n F wv told set t : Rat) + (AS n F t : Rat) * (v / 100) := by
  have q := AF_sm hF hp
  unfold tt
  rw [q.1, q.2, sm_cg (fun h hh => sw_vl hF hp h0 ht hu hh), sm_add, sm_mul]
theorem Sw_step (hF : FOK n F cv) {falls : Int} {t u : List ZStp} {s : ZStp} {lo : Rat} (w : Sw n F wv told set falls t (s :: u) lo) (hs : (AF n F wv told set t : Rat) + (AS n F t : Rat) * (sL s / 100) < falls) : Sw n F wv told set falls (t ++ [s]) u (sL s) := by
  obtain ⟨a, b, c, d, e, f⟩ := w
  have gs : Gs s := (alls_good hF n (Nat.le_refl _) s (a.mem_iff.mp (by simp))).2
  refine ⟨by rw [List.append_assoc]; exact a, sL_nn gs, ?_, ?_, (List.pairwise_cons.mp e).2, ?_⟩
  · intro x hx
    have l := d s (by simp)
    simp only [List.mem_append, List.mem_singleton] at hx
    rcases hx with hx | hx
    · have := c x hx
      grind
    · rw [hx]; exact Rat.le_refl
  · exact (List.pairwise_cons.mp e).1
  · have z := jm_at gs rfl
    unfold AF AS at *
    rw [lint_app, lint_app]
    simp only [lint, Int.add_zero, Rat.intCast_add] at *
    grind
theorem Sw_level (hF : FOK n F cv) {falls : Int} {t u : List ZStp} {lo : Rat} (w : Sw n F wv told set falls t u lo) (hap : ap n F wv told set < falls) (hA : 0 < AS n F t) {v : Rat} (hv : v = ((100 * (falls - AF n F wv told set t) : Int) : Rat) / (AS n F t : Rat)) (hu : ∀ s, s ∈ u → v ≤ sL s) : IsF n F wv told set falls (fun h => (fxt F wv told set t h : Rat) + (sxt F t h : Rat) * (v / 100)) v := by
  obtain ⟨a, b, c, d, e, f⟩ := w
  have B : (0 : Rat) < (AS n F t : Rat) := by exact_mod_cast hA
  have ev : (AF n F wv told set t : Rat) + (AS n F t : Rat) * (v / 100) = falls := by
    have : v * (AS n F t : Rat) = ((100 * (falls - AF n F wv told set t) : Int) : Rat) := by rw [hv]; exact Rat.div_mul_cancel (by grind)
    rw [Rat.intCast_mul, Rat.intCast_sub] at this
    grind
  have hlo : lo < v := by
    have : (AS n F t : Rat) * (lo / 100) < (AS n F t : Rat) * (v / 100) := by grind
    have := Rat.lt_of_mul_lt_mul_left this (by grind)
    grind
  refine IsF_cg (IsF_lin hF b hlo B (fun y h1 h2 => sw_tt hF a (by grind) (fun s hs => by have := c s hs; grind) (fun s hs => by have := hu s hs; grind)) ev hap) ?_
  intro h hh
  exact sw_vl hF a (by grind) (fun s hs => by have := c s hs; grind) hu hh
theorem Sw_stop {falls : Int} {t u : List ZStp} {s : ZStp} {lo : Rat} (w : Sw n F wv told set falls t (s :: u) lo) (hs : (falls : Rat) ≤ (AF n F wv told set t : Rat) + (AS n F t : Rat) * (sL s / 100)) : 0 < AS n F t ∧ ∀ x, x ∈ s :: u → ((100 * (falls - AF n F wv told set t) : Int) : Rat) / (AS n F t : Rat) ≤ sL x := by
  obtain ⟨a, b, c, d, e, f⟩ := w
  have l := d s (by simp)
  have A : (0 : Rat) < (AS n F t : Rat) := by
    have := Rat.mul_nonneg (a := - (AS n F t : Rat)) (b := sL s / 100 - lo / 100)
    grind
  refine ⟨by exact_mod_cast A, ?_⟩
  have k : ((100 * (falls - AF n F wv told set t) : Int) : Rat) / (AS n F t : Rat) ≤ sL s := by
    rw [qle A, Rat.intCast_mul, Rat.intCast_sub]
    grind
  intro x hx
  rcases List.mem_cons.mp hx with hx | hx
  · rw [hx]; exact k
  · have := (List.pairwise_cons.mp e).1 x hx
    grind
theorem Sw_flat (hF : FOK n F cv) {falls : Int} {t : List ZStp} {lo : Rat} (w : Sw n F wv told set falls t [] lo) (hap : ap n F wv told set < falls) (hA : AS n F t ≤ 0) : IsF n F wv told set falls (fun h => (fxt F wv told set t h : Rat)) 0 := by
  obtain ⟨a, b, c, d, e, f⟩ := w
  have A : (AS n F t : Rat) ≤ 0 := by exact_mod_cast hA
  have lin : ∀ h, h < n → ∀ v, lo ≤ v → vl F wv told set h v = (fxt F wv told set t h : Rat) + (sxt F t h : Rat) * (v / 100) := fun h hh v hv => sw_vl hF a (by grind) (fun s hs => by have := c s hs; grind) (fun s hs => by simp at hs) hh
  have nn : ∀ h, h < n → 0 ≤ (sxt F t h : Rat) := by
    intro h hh
    have m := (vl_mono (wv := wv) (told := told) (set := set) hF hh b (show lo ≤ lo + 100 by grind)).2
    rw [lin h hh lo Rat.le_refl, lin h hh (lo + 100) (by grind)] at m
    grind
  have z : ∀ h, h < n → (0 : Rat) = (sxt F t h : Rat) := sm_eq (f := fun _ => 0) nn (by
    rw [sm_0, ← (AF_sm hF a).2]
    have := sm_nn nn
    rw [← (AF_sm hF a).2] at this
    grind)
  refine IsF_flat hF b (fun h hh v hv => ?_) ?_ hap
  · rw [lin h hh v hv, ← z h hh]; grind
  · rw [sw_tt hF a b c d]; exact f
end
