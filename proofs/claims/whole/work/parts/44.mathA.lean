theorem qself {z : Rat} (h : z ≠ 0) : z / z = 1 := by rw [Rat.div_def, Rat.mul_inv_cancel _ h]
theorem qz (z : Rat) : 0 / z = 0 := by rw [Rat.div_def, Rat.zero_mul]
theorem qass (a b c : Rat) : a * b / c = a * (b / c) := by rw [Rat.div_def, Rat.div_def, Rat.mul_assoc]
theorem qnn {a b : Rat} (h1 : 0 ≤ a) (h2 : 0 < b) : 0 ≤ a / b := by
  rw [Rat.div_def]; exact Rat.mul_nonneg h1 (Rat.le_of_lt (Rat.inv_pos.mpr h2))
theorem qeq {a d x : Rat} (h : 0 < d) : (a / d = x) ↔ (a = x * d) := by
  constructor
  · intro e; rw [← e, Rat.div_mul_cancel (by grind)]
  · intro e; rw [e, Rat.mul_div_cancel (by grind)]
theorem qle {a d x : Rat} (h : 0 < d) : (a / d ≤ x) ↔ (a ≤ x * d) := by
  have := Rat.lt_div_iff (a := x) (b := a) (c := d) h
  grind
theorem qge {a d x : Rat} (h : 0 < d) : (x ≤ a / d) ↔ (x * d ≤ a) := by
  have := Rat.div_lt_iff (a := a) (b := d) (c := x) h
  grind
/-! ===== what falls, as numbers: curves of a level, ranks ===== -/
def sm (f : Nat → Rat) : Nat → Rat
  | 0 => 0
  | h + 1 => sm f h + f h
theorem sm_le {f g : Nat → Rat} : ∀ {n : Nat}, (∀ h, h < n → f h ≤ g h) → sm f n ≤ sm g n
  | 0, _ => Rat.le_refl
  | n + 1, k => by
    have a := sm_le (n := n) (fun h hh => k h (by omega))
    have b := k n (by omega)
    simp only [sm]
    grind
theorem sm_cg {f g : Nat → Rat} : ∀ {n : Nat}, (∀ h, h < n → f h = g h) → sm f n = sm g n
  | 0, _ => rfl
  | n + 1, k => by
    have a := sm_cg (n := n) (fun h hh => k h (by omega))
    have b := k n (by omega)
    simp only [sm]
    grind
theorem sm_eq {f g : Nat → Rat} : ∀ {n : Nat}, (∀ h, h < n → f h ≤ g h) → sm f n = sm g n → ∀ h, h < n → f h = g h
  | 0, _, _ => fun h hh => absurd hh (by omega)
  | n + 1, k, e => by
    intro h hh
    have a := sm_le (n := n) (fun h hh => k h (by omega))
    have b := k n (by omega)
    simp only [sm] at e
    by_cases hn : h = n
    · subst hn; grind
    · exact sm_eq (n := n) (fun h hh => k h (by omega)) (by grind) h (by omega)
theorem sm_add {f g : Nat → Rat} : ∀ n : Nat, sm (fun h => f h + g h) n = sm f n + sm g n
  | 0 => by simp only [sm]; grind
  | n + 1 => by simp only [sm, sm_add n]; grind
theorem sm_mul {f : Nat → Rat} (c : Rat) : ∀ n : Nat, sm (fun h => f h * c) n = sm f n * c
  | 0 => by simp only [sm]; grind
  | n + 1 => by simp only [sm, sm_mul c n]; grind
theorem sm_nn {f : Nat → Rat} : ∀ {n : Nat}, (∀ h, h < n → 0 ≤ f h) → 0 ≤ sm f n
  | 0, _ => Rat.le_refl
  | n + 1, k => by
    have a := sm_nn (n := n) (fun h hh => k h (by omega))
    have b := k n (by omega)
    simp only [sm]
    grind
/-- one of a sum of such as are 0 or more -/
theorem sm_one {f : Nat → Rat} : ∀ {n : Nat}, (∀ h, h < n → 0 ≤ f h) → ∀ h, h < n → f h ≤ sm f n
  | 0, _ => fun h hh => absurd hh (by omega)
  | n + 1, k => by
    intro h hh
    have a := sm_nn (n := n) (fun h hh => k h (by omega))
    have b := k n (by omega)
    simp only [sm]
    by_cases hn : h = n
    · subst hn; grind
    · have := sm_one (n := n) (fun h hh => k h (by omega)) h (by omega)
      grind
/-- a sum with but one that isn't 0 -/
theorem sm_at {c : Rat} {k : Nat} : ∀ {n : Nat}, k < n → sm (fun h => if k = h then c else 0) n = c
  | 0, hk => absurd hk (by omega)
  | n + 1, hk => by
    simp only [sm]
    by_cases hn : k = n
    · subst hn
      rw [if_pos rfl, sm_cg (g := fun _ => 0) (fun h hh => if_neg (by omega))]
      have z : ∀ m : Nat, sm (fun _ => (0 : Rat)) m = 0 := by
        intro m
        induction m with
        | zero => rfl
        | succ m ih => simp only [sm, ih]; grind
      rw [z]; grind
    · rw [if_neg hn, sm_at (n := n) (by omega)]; grind
theorem sm_0 : ∀ m : Nat, sm (fun _ => (0 : Rat)) m = 0
  | 0 => rfl
  | m + 1 => by simp only [sm, sm_0 m, Rat.add_zero]
section
variable (n : Nat) (F : Nat → Nat → Int) (wv : Int32) (told : Bool) (set : Int32)
/-- of a share, in hundredths, at a level -/
def ps (h : Nat) (v : Rat) : Rat :=
  if F h 0 = 0 then v
  else if F h 0 = 1 then max 0 (v - 100 * (F h 2 : Rat))
  else if tnd told set F h then v * ((F h 5 : Rat) / 100)
  else if canT F h then
    (if told then min ((pref F wv h : Rat) + v * ((F h 5 : Rat) / 100)) (lid F wv h : Rat)
    else max (min ((pref F wv h : Rat) + v * ((F h 5 : Rat) / 100)) (lid F wv h : Rat)) (v * ((F h 5 : Rat) / 100)))
  else (pref F wv h : Rat) + v * ((F h 5 : Rat) / 100)
def vl (h : Nat) (v : Rat) : Rat := (F h 1 : Rat) * ps F wv told set h v
def tt (v : Rat) : Rat := sm (fun h => vl F wv told set h v) n
def prefs (h : Nat) : Int := F h 1 * fst_ told set F wv h
def isum (f : Nat → Int) : Nat → Int
  | 0 => 0
  | h + 1 => isum f h + f h
/-- PREFS of a rank, of the first ranks, of all -/
def rp (r : Nat) : Int := isum (fun h => if F h 3 = r then prefs F wv told set h else 0) n
def bf : Nat → Int
  | 0 => 0
  | r + 1 => bf r + rp n F wv told set r
def ap : Int := isum (prefs F wv told set) n
def rx (falls : Int) (h : Nat) : Rat :=
  if bf n F wv told set ((F h 3).toNat + 1) ≤ falls then (prefs F wv told set h : Rat)
  else if falls ≤ bf n F wv told set (F h 3).toNat then 0
  else (prefs F wv told set h : Rat) * ((falls : Rat) - (bf n F wv told set (F h 3).toNat : Rat)) / (rp n F wv told set (F h 3).toNat : Rat)
/-- what falls to each, and the level -/
def IsF (falls : Int) (x : Nat → Rat) (lv : Rat) : Prop :=
  (falls ≤ ap n F wv told set ∧ (∀ h, h < n → x h = rx n F wv told set falls h) ∧ lv = 0) ∨
  (ap n F wv told set < falls ∧ 0 ≤ lv ∧ tt n F wv told set lv = falls ∧ (∀ u, 0 ≤ u → u < lv → tt n F wv told set u < falls) ∧ ∀ h, h < n → x h = vl F wv told set h lv) ∨
  (ap n F wv told set < falls ∧ lv = 0 ∧ (∀ v, 0 ≤ v → tt n F wv told set v < falls) ∧ ∃ v0, 0 ≤ v0 ∧ ∀ h, h < n → ∀ v, v0 ≤ v → x h = vl F wv told set h v)
end
section
variable {n : Nat} {F : Nat → Nat → Int} {wv : Int32} {told : Bool} {set : Int32} {cv : Int}
theorem ps_mono (hF : FOK n F cv) {h : Nat} (hh : h < n) {u v : Rat} (h0 : 0 ≤ u) (huv : u ≤ v) : 0 ≤ ps F wv told set h u ∧ ps F wv told set h u ≤ ps F wv told set h v := by
  have f := hF.hd hh
  have p := pref_b (wv := wv) hF hh
  have r5 : (0 : Rat) ≤ (F h 5 : Rat) / 100 := by
    have : (0 : Rat) ≤ (F h 5 : Rat) := by exact_mod_cast (show (0 : Int) ≤ F h 5 by omega)
    grind
  have pp : (0 : Rat) ≤ (pref F wv h : Rat) := by exact_mod_cast p.1
  have a := Rat.mul_le_mul_of_nonneg_right huv r5
  have b := Rat.mul_nonneg h0 r5
  unfold ps
  split
  · grind
  · split
    · grind
    · split
      · grind
      · split
        · rename_i hc
          have l := lid_b (wv := wv) hF hh hc
          have ll : (pref F wv h : Rat) ≤ (lid F wv h : Rat) := by exact_mod_cast l.1
          split <;> grind
        · grind
theorem vl_mono (hF : FOK n F cv) {h : Nat} (hh : h < n) {u v : Rat} (h0 : 0 ≤ u) (huv : u ≤ v) : 0 ≤ vl F wv told set h u ∧ vl F wv told set h u ≤ vl F wv told set h v := by
  have f := hF.hd hh
  have q := ps_mono (wv := wv) (told := told) (set := set) hF hh h0 huv
  have s1 : (0 : Rat) ≤ (F h 1 : Rat) := by exact_mod_cast (show (0 : Int) ≤ F h 1 by omega)
  unfold vl
  exact ⟨Rat.mul_nonneg s1 q.1, Rat.mul_le_mul_of_nonneg_left q.2 s1⟩
theorem tt_mono (hF : FOK n F cv) {u v : Rat} (h0 : 0 ≤ u) (huv : u ≤ v) : tt n F wv told set u ≤ tt n F wv told set v :=
  sm_le fun _ hh => (vl_mono hF hh h0 huv).2
theorem ps_0 (hF : FOK n F cv) {h : Nat} (hh : h < n) : ps F wv told set h 0 = (fst_ told set F wv h : Rat) := by
  have f := hF.hd hh
  have p := pref_b (wv := wv) hF hh
  have pp : (0 : Rat) ≤ (pref F wv h : Rat) := by exact_mod_cast p.1
  have z : (0 : Rat) * ((F h 5 : Rat) / 100) = 0 := Rat.zero_mul _
  unfold ps fst_ 
  rw [z]
  split
  · rename_i h0
    rw [show tnd told set F h = false by simp [tnd, canT, h0], show pref F wv h = 0 by simp [pref, h0]]; rfl
  · split
    · rename_i h0
      rw [show tnd told set F h = false by simp [tnd, canT, h0], show pref F wv h = 0 by simp [pref, h0]]
      have : (1 : Rat) ≤ (F h 2 : Rat) := by exact_mod_cast (show (1 : Int) ≤ F h 2 by omega)
      grind
    · split
      · rfl
      · split
        · rename_i hc
          have l := lid_b (wv := wv) hF hh hc
          have ll : (pref F wv h : Rat) ≤ (lid F wv h : Rat) := by exact_mod_cast l.1
          split <;> grind
        · grind
theorem isum_cast {f : Nat → Int} : ∀ n, ((isum f n : Int) : Rat) = sm (fun h => (f h : Rat)) n
  | 0 => rfl
  | n + 1 => by simp only [isum, sm, Rat.intCast_add, isum_cast n]
theorem tt_0 (hF : FOK n F cv) : tt n F wv told set 0 = (ap n F wv told set : Rat) := by
  unfold tt ap
  rw [isum_cast]
  apply sm_cg
  intro h hh
  unfold vl prefs
  rw [ps_0 hF hh, Rat.intCast_mul]
theorem prefs_nn (hF : FOK n F cv) {h : Nat} (hh : h < n) : 0 ≤ prefs F wv told set h := by
  have f := hF.hd hh
  have q := fst_b (wv := wv) (told := told) (set := set) hF hh
  unfold prefs
  exact Int.mul_nonneg (by omega) q.1
theorem vl_prefs (hF : FOK n F cv) {h : Nat} (hh : h < n) {v : Rat} (h0 : 0 ≤ v) : (prefs F wv told set h : Rat) ≤ vl F wv told set h v := by
  have q := (vl_mono (wv := wv) (told := told) (set := set) hF hh (u := 0) (v := v) Rat.le_refl h0).2
  unfold vl prefs at *
  rw [ps_0 hF hh] at q
  rw [Rat.intCast_mul]
  exact q
end
section
variable {n : Nat} {F : Nat → Nat → Int} {wv : Int32} {told : Bool} {set : Int32} {cv : Int}
theorem isum_cg {f g : Nat → Int} : ∀ {n : Nat}, (∀ h, h < n → f h = g h) → isum f n = isum g n
  | 0, _ => rfl
  | n + 1, k => by
    have a := isum_cg (n := n) (fun h hh => k h (by omega))
    have b := k n (by omega)
    simp only [isum, a, b]
theorem isum_nn {f : Nat → Int} : ∀ {n : Nat}, (∀ h, h < n → 0 ≤ f h) → 0 ≤ isum f n
  | 0, _ => Int.le_refl _
  | n + 1, k => by
    have a := isum_nn (n := n) (fun h hh => k h (by omega))
    have b := k n (by omega)
    simp only [isum]
    omega
theorem isum_one {f : Nat → Int} : ∀ {n : Nat}, (∀ h, h < n → 0 ≤ f h) → ∀ h, h < n → f h ≤ isum f n
  | 0, _ => fun h hh => absurd hh (by omega)
  | n + 1, k => by
    intro h hh
    have a := isum_nn (n := n) (fun h hh => k h (by omega))
    have b := k n (by omega)
    simp only [isum]
    by_cases hn : h = n
    · subst hn; omega
    · have := isum_one (n := n) (fun h hh => k h (by omega)) h (by omega)
      omega
theorem isum_add {f g : Nat → Int} : ∀ n : Nat, isum (fun h => f h + g h) n = isum f n + isum g n
  | 0 => rfl
  | n + 1 => by simp only [isum, isum_add n]; omega
theorem rp_nn (hF : FOK n F cv) (r : Nat) : 0 ≤ rp n F wv told set r := by
  apply isum_nn
  intro h hh
  have := prefs_nn (wv := wv) (told := told) (set := set) hF hh
  split <;> omega
theorem prefs_rp (hF : FOK n F cv) {h : Nat} (hh : h < n) : prefs F wv told set h ≤ rp n F wv told set (F h 3).toNat := by
  have q := isum_one (f := fun k => if F k 3 = ((F h 3).toNat : Nat) then prefs F wv told set k else 0) (n := n) (by
    intro k hk
    have := prefs_nn (wv := wv) (told := told) (set := set) hF hk
    split <;> omega) h hh
  have f := hF.hd hh
  unfold rp
  rw [if_pos (by omega)] at q
  exact q
theorem bf_mono (hF : FOK n F cv) {r : Nat} : ∀ {s : Nat}, r ≤ s → bf n F wv told set r ≤ bf n F wv told set s
  | 0, h => by rw [show r = 0 by omega]; exact Int.le_refl _
  | s + 1, h => by
    by_cases e : r = s + 1
    · subst e; exact Int.le_refl _
    · have := bf_mono hF (r := r) (s := s) (by omega)
      have := rp_nn (wv := wv) (told := told) (set := set) hF s
      simp only [bf]
      omega
theorem bf_eq : ∀ r : Nat, (∀ h, h < n → 0 ≤ F h 3) → bf n F wv told set r = isum (fun h => if F h 3 < r then prefs F wv told set h else 0) n
  | 0, k => by
    simp only [bf]
    rw [isum_cg (g := fun _ => 0) (fun h hh => if_neg (by have := k h hh; omega))]
    clear k
    induction n with
    | zero => rfl
    | succ n ih => simp only [isum, ← ih]; rfl
  | r + 1, k => by
    simp only [bf, bf_eq r k, rp]
    rw [← isum_add]
    apply isum_cg
    intro h hh
    by_cases e : F h 3 = r
    · rw [if_neg (by omega), if_pos e, if_pos (by omega)]; omega
    · by_cases e2 : F h 3 < r
      · rw [if_pos e2, if_neg e, if_pos (by omega)]; omega
      · rw [if_neg e2, if_neg e, if_neg (by omega)]; omega
theorem bf_6 (hF : FOK n F cv) : bf n F wv told set 6 = ap n F wv told set := by
  rw [bf_eq 6 (fun h hh => by have := hF.hd hh; omega)]
  unfold ap
  apply isum_cg
  intro h hh
  have := hF.hd hh
  rw [if_pos (by omega)]
/-- paid by ranks, at the first rank that is not paid wholly -/
theorem rx_at (hF : FOK n F cv) {falls : Int} {r : Nat} (h1 : bf n F wv told set r ≤ falls) (h2 : falls ≤ bf n F wv told set (r + 1)) {h : Nat} (hh : h < n) :
    rx n F wv told set falls h = if F h 3 < r then (prefs F wv told set h : Rat) else if F h 3 = r then (prefs F wv told set h : Rat) * (((falls : Rat) - (bf n F wv told set r : Rat)) / (rp n F wv told set r : Rat)) else 0 := by
  have f := hF.hd hh
  have pn := prefs_nn (wv := wv) (told := told) (set := set) hF hh
  have pr := prefs_rp (wv := wv) (told := told) (set := set) hF hh
  unfold rx
  by_cases a : F h 3 < r
  · rw [if_pos a, if_pos]
    have := bf_mono (wv := wv) (told := told) (set := set) hF (r := (F h 3).toNat + 1) (s := r) (by omega)
    omega
  · rw [if_neg a]
    by_cases b : F h 3 = r
    · rw [if_pos b, show (F h 3).toNat = r by omega]
      rw [show (F h 3).toNat = r by omega] at pr
      have e : bf n F wv told set (r + 1) = bf n F wv told set r + rp n F wv told set r := rfl
      have rn := rp_nn (wv := wv) (told := told) (set := set) hF r
      by_cases z : rp n F wv told set r = 0
      · have pz : prefs F wv told set h = 0 := by omega
        rw [pz]
        split
        · rw [Rat.intCast_zero, Rat.zero_mul]
        · split
          · rw [Rat.intCast_zero, Rat.zero_mul]
          · rw [Rat.intCast_zero, Rat.zero_mul, Rat.zero_mul, qz]
      · have zz : (rp n F wv told set r : Rat) ≠ 0 := by exact_mod_cast z
        by_cases g : bf n F wv told set (r + 1) ≤ falls
        · rw [if_pos g]
          have : (falls : Rat) - (bf n F wv told set r : Rat) = (rp n F wv told set r : Rat) := by
            have : falls - bf n F wv told set r = rp n F wv told set r := by omega
            rw [← this, Rat.intCast_sub]
          rw [this, qself zz]
          grind
        · rw [if_neg g]
          by_cases k : falls ≤ bf n F wv told set r
          · rw [if_pos k]
            have : falls = bf n F wv told set r := by omega
            rw [this, Rat.sub_self, qz]
            grind
          · rw [if_neg k, qass]
    · rw [if_neg b]
      have m := bf_mono (wv := wv) (told := told) (set := set) hF (r := r + 1) (s := (F h 3).toNat) (by omega)
      have e : bf n F wv told set ((F h 3).toNat + 1) = bf n F wv told set (F h 3).toNat + rp n F wv told set (F h 3).toNat := rfl
      split
      · rw [show prefs F wv told set h = 0 by omega]; rfl
      · rw [if_pos (by omega)]
end
section
variable {n : Nat} {F : Nat → Nat → Int} {wv : Int32} {told : Bool} {set : Int32} {cv : Int}
theorem IsF_uniq {falls : Int} {x y : Nat → Rat} {lx ly : Rat} (hx : IsF n F wv told set falls x lx) (hy : IsF n F wv told set falls y ly) : (∀ h, h < n → x h = y h) ∧ lx = ly := by
  rcases hx with ⟨a1, a2, a3⟩ | ⟨a1, a2, a3, a4, a5⟩ | ⟨a1, a2, a3, v0, a4, a5⟩
  · rcases hy with ⟨b1, b2, b3⟩ | ⟨b1, b2, b3, b4, b5⟩ | ⟨b1, b2, b3, v1, b4, b5⟩
    · exact ⟨fun h hh => by rw [a2 h hh, b2 h hh], by rw [a3, b3]⟩
    · omega
    · omega
  · rcases hy with ⟨b1, b2, b3⟩ | ⟨b1, b2, b3, b4, b5⟩ | ⟨b1, b2, b3, v1, b4, b5⟩
    · omega
    · have e : lx = ly := by
        have p := b4 lx a2
        have q := a4 ly b2
        grind
      subst e
      exact ⟨fun h hh => by rw [a5 h hh, b5 h hh], rfl⟩
    · have := b3 lx a2
      grind
  · rcases hy with ⟨b1, b2, b3⟩ | ⟨b1, b2, b3, b4, b5⟩ | ⟨b1, b2, b3, v1, b4, b5⟩
    · omega
    · have := a3 ly b2
      grind
    · refine ⟨fun h hh => ?_, by rw [a2, b2]⟩
      rw [a5 h hh (max v0 v1) (by grind), b5 h hh (max v0 v1) (by grind)]
/-- the first rank that is not paid wholly -/
theorem opn_r (hF : FOK n F cv) {falls : Int} (h0 : 0 ≤ falls) (h1 : falls ≤ ap n F wv told set) : ∃ r, r < 6 ∧ bf n F wv told set r ≤ falls ∧ falls ≤ bf n F wv told set (r + 1) := by
  rw [← bf_6 hF] at h1
  by_cases c5 : bf n F wv told set 5 ≤ falls
  · exact ⟨5, by omega, c5, h1⟩
  by_cases c4 : bf n F wv told set 4 ≤ falls
  · exact ⟨4, by omega, c4, Int.le_of_lt (Int.not_le.mp c5)⟩
  by_cases c3 : bf n F wv told set 3 ≤ falls
  · exact ⟨3, by omega, c3, Int.le_of_lt (Int.not_le.mp c4)⟩
  by_cases c2 : bf n F wv told set 2 ≤ falls
  · exact ⟨2, by omega, c2, Int.le_of_lt (Int.not_le.mp c3)⟩
  by_cases c1 : bf n F wv told set 1 ≤ falls
  · exact ⟨1, by omega, c1, Int.le_of_lt (Int.not_le.mp c2)⟩
  · exact ⟨0, by omega, h0, Int.le_of_lt (Int.not_le.mp c1)⟩
theorem sm_rank (hF : FOK n F cv) {r : Nat} (c : Rat) : sm (fun h => if F h 3 < r then (prefs F wv told set h : Rat) else if F h 3 = r then (prefs F wv told set h : Rat) * c else 0) n = (bf n F wv told set r : Rat) + (rp n F wv told set r : Rat) * c := by
  rw [bf_eq r (fun h hh => by have := hF.hd hh; omega), isum_cast]
  unfold rp
  rw [isum_cast, ← sm_mul, ← sm_add]
  apply sm_cg
  intro h hh
  by_cases a : F h 3 < r
  · rw [if_pos a, if_pos a, if_neg (by omega)]; simp only [Rat.intCast_zero, Rat.zero_mul, Rat.add_zero]
  · by_cases b : F h 3 = r
    · rw [if_neg a, if_neg a, if_pos b, if_pos b]; simp only [Rat.intCast_zero, Rat.zero_add]
    · rw [if_neg a, if_neg a, if_neg b, if_neg b]; simp only [Rat.intCast_zero, Rat.zero_mul, Rat.add_zero]
theorem rx_sum (hF : FOK n F cv) {falls : Int} (h0 : 0 ≤ falls) (h1 : falls ≤ ap n F wv told set) : sm (fun h => rx n F wv told set falls h) n = (falls : Rat) := by
  obtain ⟨r, r6, a, b⟩ := opn_r hF h0 h1
  rw [sm_cg (fun h hh => rx_at hF a b hh), sm_rank hF]
  have e : bf n F wv told set (r + 1) = bf n F wv told set r + rp n F wv told set r := rfl
  by_cases z : rp n F wv told set r = 0
  · rw [z, show falls = bf n F wv told set r by omega]; simp only [Rat.intCast_zero, Rat.zero_mul, Rat.add_zero]
  · have zz : (rp n F wv told set r : Rat) ≠ 0 := by exact_mod_cast z
    have := Rat.div_mul_cancel (a := (falls : Rat) - (bf n F wv told set r : Rat)) zz
    grind
theorem rx_b (hF : FOK n F cv) {falls : Int} {h : Nat} (hh : h < n) : 0 ≤ rx n F wv told set falls h ∧ rx n F wv told set falls h ≤ (prefs F wv told set h : Rat) := by
  have f := hF.hd hh
  have pn := prefs_nn (wv := wv) (told := told) (set := set) hF hh
  have pr := prefs_rp (wv := wv) (told := told) (set := set) hF hh
  have pn' : (0 : Rat) ≤ (prefs F wv told set h : Rat) := by exact_mod_cast pn
  have e : bf n F wv told set ((F h 3).toNat + 1) = bf n F wv told set (F h 3).toNat + rp n F wv told set (F h 3).toNat := rfl
  unfold rx
  split
  · grind
  · split
    · grind
    · rename_i a b
      have rpos : (0 : Rat) < (rp n F wv told set (F h 3).toNat : Rat) := by exact_mod_cast (show 0 < rp n F wv told set (F h 3).toNat by omega)
      have c1 : (0 : Rat) ≤ (falls : Rat) - (bf n F wv told set (F h 3).toNat : Rat) := by
        rw [← Rat.intCast_sub]; exact_mod_cast (show 0 ≤ falls - bf n F wv told set (F h 3).toNat by omega)
      have c2 : (falls : Rat) - (bf n F wv told set (F h 3).toNat : Rat) ≤ (rp n F wv told set (F h 3).toNat : Rat) := by
        rw [← Rat.intCast_sub]; exact_mod_cast (show falls - bf n F wv told set (F h 3).toNat ≤ rp n F wv told set (F h 3).toNat by omega)
      constructor
      · exact qnn (Rat.mul_nonneg pn' c1) rpos
      · rw [qle rpos]
        exact Rat.mul_le_mul_of_nonneg_left c2 pn'
theorem rx_mono (hF : FOK n F cv) {a b : Int} (hab : a ≤ b) {h : Nat} (hh : h < n) : rx n F wv told set a h ≤ rx n F wv told set b h := by
  have f := hF.hd hh
  have pn := prefs_nn (wv := wv) (told := told) (set := set) hF hh
  have pn' : (0 : Rat) ≤ (prefs F wv told set h : Rat) := by exact_mod_cast pn
  have xa := rx_b (wv := wv) (told := told) (set := set) hF (falls := a) hh
  have xb := rx_b (wv := wv) (told := told) (set := set) hF (falls := b) hh
  have e : bf n F wv told set ((F h 3).toNat + 1) = bf n F wv told set (F h 3).toNat + rp n F wv told set (F h 3).toNat := rfl
  unfold rx at *
  by_cases c1 : bf n F wv told set ((F h 3).toNat + 1) ≤ b
  · rw [if_pos c1] at *
    exact xa.2
  · rw [if_neg c1] at *
    rw [if_neg (show ¬ bf n F wv told set ((F h 3).toNat + 1) ≤ a by omega)] at *
    by_cases c2 : a ≤ bf n F wv told set (F h 3).toNat
    · rw [if_pos c2] at *
      exact xb.1
    · rw [if_neg c2, if_neg (show ¬ b ≤ bf n F wv told set (F h 3).toNat by omega)]
      have rpos : (0 : Rat) < (rp n F wv told set (F h 3).toNat : Rat) := by exact_mod_cast (show 0 < rp n F wv told set (F h 3).toNat by omega)
      rw [qle rpos, Rat.div_mul_cancel (by grind)]
      apply Rat.mul_le_mul_of_nonneg_left _ pn'
      have : (a : Rat) ≤ (b : Rat) := by exact_mod_cast hab
      grind
theorem IsF_mono (hF : FOK n F cv) {a b : Int} (hab : a ≤ b) {x y : Nat → Rat} {lx ly : Rat} (hx : IsF n F wv told set a x lx) (hy : IsF n F wv told set b y ly) {h : Nat} (hh : h < n) : x h ≤ y h := by
  have ab : (a : Rat) ≤ (b : Rat) := by exact_mod_cast hab
  rcases hx with ⟨a1, a2, a3⟩ | ⟨a1, a2, a3, a4, a5⟩ | ⟨a1, a2, a3, v0, a4, a5⟩
  · rw [a2 h hh]
    have q := (rx_b (wv := wv) (told := told) (set := set) hF (falls := a) hh).2
    rcases hy with ⟨b1, b2, b3⟩ | ⟨b1, b2, b3, b4, b5⟩ | ⟨b1, b2, b3, v1, b4, b5⟩
    · rw [b2 h hh]; exact rx_mono hF hab hh
    · rw [b5 h hh]; exact Rat.le_trans q (vl_prefs hF hh b2)
    · rw [b5 h hh v1 Rat.le_refl]; exact Rat.le_trans q (vl_prefs hF hh b4)
  · rw [a5 h hh]
    rcases hy with ⟨b1, b2, b3⟩ | ⟨b1, b2, b3, b4, b5⟩ | ⟨b1, b2, b3, v1, b4, b5⟩
    · omega
    · rw [b5 h hh]
      by_cases c : lx ≤ ly
      · exact (vl_mono hF hh a2 c).2
      · have := a4 ly b2 (by grind)
        grind
    · rw [b5 h hh (max lx v1) (by grind)]
      exact (vl_mono hF hh a2 (by grind)).2
  · rcases hy with ⟨b1, b2, b3⟩ | ⟨b1, b2, b3, b4, b5⟩ | ⟨b1, b2, b3, v1, b4, b5⟩
    · omega
    · have := a3 ly b2
      grind
    · rw [a5 h hh (max v0 v1) (by grind), b5 h hh (max v0 v1) (by grind)]
      exact Rat.le_refl
theorem IsF_b (hF : FOK n F cv) {a : Int} (h0 : 0 ≤ a) {x : Nat → Rat} {lx : Rat} (hx : IsF n F wv told set a x lx) {h : Nat} (hh : h < n) : 0 ≤ x h ∧ x h ≤ (a : Rat) := by
  rcases hx with ⟨a1, a2, a3⟩ | ⟨a1, a2, a3, a4, a5⟩ | ⟨a1, a2, a3, v0, a4, a5⟩
  · rw [a2 h hh]
    refine ⟨(rx_b hF hh).1, ?_⟩
    rw [← rx_sum hF h0 a1]
    exact sm_one (f := fun h => rx n F wv told set a h) (fun k hk => (rx_b hF hk).1) h hh
  · rw [a5 h hh]
    refine ⟨(vl_mono hF hh a2 Rat.le_refl).1, ?_⟩
    rw [← a3]
    exact sm_one (f := fun h => vl F wv told set h lx) (fun k hk => (vl_mono hF hk a2 Rat.le_refl).1) h hh
  · rw [a5 h hh v0 Rat.le_refl]
    refine ⟨(vl_mono hF hh a4 Rat.le_refl).1, ?_⟩
    have q := a3 v0 a4
    have := sm_one (f := fun h => vl F wv told set h v0) (fun k hk => (vl_mono hF hk a4 Rat.le_refl).1) h hh
    unfold tt at q
    grind
end
