/-! ===== the reference's spans ===== -/
section
variable (n : Nat) (F : Nat → Nat → Int) (wv : Int32) (told : Bool) (set : Int32)
def rfx (h : Nat) (e : Rat) : Int :=
  if F h 0 = 0 then 0
  else if F h 0 = 1 then (if 100 * (F h 2 : Rat) ≤ e then -100 * F h 2 else 0)
  else if tnd told set F h = true ∨ canT F h = false then fst_ told set F wv h
  else if F h 6 = 0 then (if told = false ∧ 100 * (pref F wv h : Rat) ≤ e * (F h 5 : Rat) then 0 else pref F wv h)
  else if told = false ∧ 100 * (top F wv h : Rat) ≤ e * (F h 5 : Rat) then 0
  else if 100 * ((top F wv h : Rat) - (pref F wv h : Rat)) ≤ e * (F h 5 : Rat) then top F wv h
  else pref F wv h
def gor (h : Nat) (e : Rat) : Int :=
  if F h 0 = 0 then 100
  else if F h 0 = 1 then (if 100 * (F h 2 : Rat) ≤ e then 100 else 0)
  else if tnd told set F h = true ∨ canT F h = false then F h 5
  else if F h 6 = 0 then (if told = false ∧ 100 * (pref F wv h : Rat) ≤ e * (F h 5 : Rat) then F h 5 else 0)
  else if told = false ∧ 100 * (top F wv h : Rat) ≤ e * (F h 5 : Rat) then F h 5
  else if 100 * ((top F wv h : Rat) - (pref F wv h : Rat)) ≤ e * (F h 5 : Rat) then 0
  else F h 5
def edg (h : Nat) : List (Int × Int) :=
  if F h 0 = 1 then [(100 * F h 2, 1)]
  else if F h 0 = 2 ∧ F h 6 = 0 ∧ told = false then [(100 * pref F wv h, F h 5)]
  else if F h 0 = 2 ∧ F h 6 = 1 ∧ F h 7 ≠ -1 ∧ tnd told set F h = false then
    (if told = true then [(100 * (top F wv h - pref F wv h), F h 5)] else [(100 * (top F wv h - pref F wv h), F h 5), (100 * top F wv h, F h 5)])
  else []
def edgs : Nat → List (Int × Int)
  | 0 => [(0, 1)]
  | h + 1 => edgs h ++ edg F wv told set h
def eV (p : Int × Int) : Rat := (p.1 : Rat) / (p.2 : Rat)
def rfall (e : Rat) : Int := isum (fun h => F h 1 * rfx F wv told set h e) n
def rgall (e : Rat) : Int := isum (fun h => F h 1 * gor F wv told set h e) n
end
section
variable {n : Nat} {F : Nat → Nat → Int} {wv : Int32} {told : Bool} {set : Int32} {cv : Int}
theorem edg_good (hF : FOK n F cv) {h : Nat} (hh : h < n) : ∀ p, p ∈ edg F wv told set h → 0 ≤ p.1 ∧ 0 < p.2 ∧ p.2 ≤ 400 ∧ p.1 ≤ 19800000 := by
  have f := hF.hd hh
  have q := pref_b (wv := wv) hF hh
  intro p hp
  unfold edg at hp
  split at hp
  · rename_i k
    have g := f.2.2.2.2.1 k
    simp only [List.mem_singleton] at hp
    subst hp
    dsimp only
    omega
  · split at hp
    · simp only [List.mem_singleton] at hp
      subst hp
      dsimp only
      omega
    · split at hp
      · rename_i k
        have hc : canT F h = true := by unfold canT; simp only [decide_eq_true_eq]; exact ⟨k.1, .inr k.2.2.1⟩
        have l := lid_b (wv := wv) hF hh hc
        rw [show lid F wv h = top F wv h by unfold lid; rw [if_neg (by omega)]] at l
        split at hp
        · simp only [List.mem_singleton] at hp
          subst hp
          dsimp only
          omega
        · simp only [List.mem_cons, List.not_mem_nil, or_false] at hp
          rcases hp with hp | hp
          · subst hp
            dsimp only
            omega
          · subst hp
            dsimp only
            omega
      · simp at hp
theorem eV_le {p : Int × Int} (h : 0 < p.2) {v : Rat} : (eV p ≤ v) ↔ ((p.1 : Rat) ≤ v * (p.2 : Rat)) := qle (by exact_mod_cast h)
theorem eV_ge {p : Int × Int} (h : 0 < p.2) {v : Rat} : (v ≤ eV p) ↔ (v * (p.2 : Rat) ≤ (p.1 : Rat)) := qge (by exact_mod_cast h)
theorem gor_nn (hF : FOK n F cv) {h : Nat} (hh : h < n) {e : Rat} : 0 ≤ gor F wv told set h e ∧ gor F wv told set h e ≤ 400 := by
  have f := hF.hd hh
  unfold gor
  repeat' split
  all_goals omega
theorem rs_vl (hF : FOK n F cv) {h : Nat} (hh : h < n) {e v : Rat} (h0 : 0 ≤ e) (hev : e ≤ v) (hp : ∀ p, p ∈ edg F wv told set h → eV p ≤ e ∨ v ≤ eV p) : vl F wv told set h v = ((F h 1 * rfx F wv told set h e : Int) : Rat) + ((F h 1 * gor F wv told set h e : Int) : Rat) * (v / 100) := by
  have f := hF.hd hh
  have q := pref_b (wv := wv) hF hh
  have pp : (0 : Rat) ≤ (pref F wv h : Rat) := by exact_mod_cast q.1
  have G := edg_good (wv := wv) (told := told) (set := set) hF hh
  have r0 : (0 : Rat) < (F h 5 : Rat) := by exact_mod_cast (show 0 < F h 5 by omega)
  have rr := Rat.mul_le_mul_of_nonneg_right hev (Rat.le_of_lt r0)
  unfold vl
  rw [Rat.intCast_mul, Rat.intCast_mul]
  suffices hs : ps F wv told set h v = (rfx F wv told set h e : Rat) + (gor F wv told set h e : Rat) * (v / 100) by
    rw [hs]; grind
  unfold ps rfx gor
  unfold edg at hp G
  by_cases k0 : F h 0 = 0
  · rw [if_pos k0, if_pos k0, if_pos k0]; grind
  rw [if_neg k0, if_neg k0, if_neg k0]
  by_cases k1 : F h 0 = 1
  · rw [if_pos k1, if_pos k1, if_pos k1]
    rw [if_pos k1] at hp G
    have := hp _ (List.mem_singleton.mpr rfl)
    rw [eV_le (by show (0 : Int) < 1; omega), eV_ge (by show (0 : Int) < 1; omega)] at this
    simp only [Rat.intCast_mul] at this
    by_cases c : 100 * (F h 2 : Rat) ≤ e
    · rw [if_pos c, if_pos c, Rat.intCast_mul]; grind
    · rw [if_neg c, if_neg c]; grind
  rw [if_neg k1, if_neg k1, if_neg k1]
  rw [if_neg k1] at hp G
  have k2 : F h 0 = 2 := by omega
  by_cases kt : tnd told set F h = true
  · rw [if_pos kt, if_pos (.inl kt), if_pos (.inl kt)]
    unfold fst_
    rw [if_pos kt]; grind
  rw [if_neg kt]
  by_cases kc : canT F h = true
  · have l := lid_b (wv := wv) hF hh kc
    have ll : (pref F wv h : Rat) ≤ (lid F wv h : Rat) := by exact_mod_cast l.1
    have kn : ¬ (tnd told set F h = true ∨ canT F h = false) := by simp [kt, kc]
    rw [if_pos kc, if_neg kn, if_neg kn]
    by_cases k6 : F h 6 = 0
    · have el : lid F wv h = pref F wv h := by unfold lid; rw [if_pos k6]
      rw [if_pos k6, if_pos k6, el]
      by_cases ht : told = true
      · have nt : ∀ c : Prop, ¬ (told = false ∧ c) := fun c z => by rw [ht] at z; exact absurd z.1 (by decide)
        rw [if_pos ht, if_neg (nt _), if_neg (nt _)]
        have := Rat.mul_nonneg (show 0 ≤ v by grind) (show 0 ≤ (F h 5 : Rat) / 100 by grind)
        grind
      · have ht' : told = false := by simpa using ht
        rw [if_neg ht]
        rw [if_pos ⟨k2, k6, ht'⟩] at hp G
        have := hp _ (List.mem_singleton.mpr rfl)
        rw [eV_le (G _ (List.mem_singleton.mpr rfl)).2.1, eV_ge (G _ (List.mem_singleton.mpr rfl)).2.1] at this
        simp only [Rat.intCast_mul] at this
        by_cases c : 100 * (pref F wv h : Rat) ≤ e * (F h 5 : Rat)
        · rw [if_pos ⟨ht', c⟩, if_pos ⟨ht', c⟩]; grind
        · rw [if_neg (fun z => c z.2), if_neg (fun z => c z.2)]
          have := Rat.mul_nonneg (show 0 ≤ v by grind) (show 0 ≤ (F h 5 : Rat) / 100 by grind)
          grind
    · have el : lid F wv h = top F wv h := by unfold lid; rw [if_neg k6]
      have k6' : F h 6 = 1 := by omega
      have k7 : F h 7 ≠ -1 := by
        unfold canT at kc
        simp only [decide_eq_true_eq] at kc
        omega
      have kt' : tnd told set F h = false := by simpa using kt
      rw [el] at l ll
      rw [if_neg k6, if_neg k6, el]
      rw [if_neg (by omega), if_pos ⟨k2, k6', k7, kt'⟩] at hp G
      by_cases ht : told = true
      · have nt : ∀ c : Prop, ¬ (told = false ∧ c) := fun c z => by rw [ht] at z; exact absurd z.1 (by decide)
        rw [if_pos ht, if_neg (nt _), if_neg (nt _)]
        rw [if_pos ht] at hp G
        have := hp _ (List.mem_singleton.mpr rfl)
        rw [eV_le (G _ (List.mem_singleton.mpr rfl)).2.1, eV_ge (G _ (List.mem_singleton.mpr rfl)).2.1] at this
        simp only [Rat.intCast_mul, Rat.intCast_sub] at this
        by_cases c : 100 * ((top F wv h : Rat) - (pref F wv h : Rat)) ≤ e * (F h 5 : Rat)
        · rw [if_pos c, if_pos c]; grind
        · rw [if_neg c, if_neg c]; grind
      · have ht' : told = false := by simpa using ht
        rw [if_neg ht]
        rw [if_neg ht] at hp G
        have p1 := hp _ List.mem_cons_self
        rw [eV_le (G _ List.mem_cons_self).2.1, eV_ge (G _ List.mem_cons_self).2.1] at p1
        have p2 := hp _ (List.mem_cons_of_mem _ (List.mem_singleton.mpr rfl))
        rw [eV_le (G _ (List.mem_cons_of_mem _ (List.mem_singleton.mpr rfl))).2.1, eV_ge (G _ (List.mem_cons_of_mem _ (List.mem_singleton.mpr rfl))).2.1] at p2
        simp only [Rat.intCast_mul, Rat.intCast_sub] at p1 p2
        by_cases c2 : 100 * (top F wv h : Rat) ≤ e * (F h 5 : Rat)
        · rw [if_pos ⟨ht', c2⟩, if_pos ⟨ht', c2⟩]; grind
        · have nn : ¬ (told = false ∧ 100 * (top F wv h : Rat) ≤ e * (F h 5 : Rat)) := fun z => c2 z.2
          rw [if_neg nn, if_neg nn]
          by_cases c : 100 * ((top F wv h : Rat) - (pref F wv h : Rat)) ≤ e * (F h 5 : Rat)
          · rw [if_pos c, if_pos c]; grind
          · rw [if_neg c, if_neg c]; grind
  · rw [if_neg kc, if_pos (.inr (by simpa using kc)), if_pos (.inr (by simpa using kc))]
    unfold fst_
    rw [if_neg kt]; grind
def Spn (n : Nat) (F : Nat → Nat → Int) (wv : Int32) (told : Bool) (set : Int32) (e v : Rat) : Prop := ∀ h, h < n → ∀ p, p ∈ edg F wv told set h → eV p ≤ e ∨ v ≤ eV p
theorem rs_tt (hF : FOK n F cv) {e v : Rat} (h0 : 0 ≤ e) (hev : e ≤ v) (hp : Spn n F wv told set e v) : tt n F wv told set v = (rfall n F wv told set e : Rat) + (rgall n F wv told set e : Rat) * (v / 100) := by
  unfold tt rfall rgall
  rw [sm_cg (fun h hh => rs_vl hF hh h0 hev (hp h hh)), sm_add, sm_mul, isum_cast, isum_cast]
theorem Spn_mono {e v u : Rat} (hp : Spn n F wv told set e v) (h : u ≤ v) : Spn n F wv told set e u := fun k hk p hq => by
  rcases hp k hk p hq with a | a
  · exact .inl a
  · exact .inr (by grind)
theorem Spn_self (e : Rat) : Spn n F wv told set e e := fun k hk p hq => by grind
theorem rs_level (hF : FOK n F cv) {falls : Int} {e v : Rat} (h0 : 0 ≤ e) (hap : ap n F wv told set < falls) (hl : tt n F wv told set e < falls) (hg : 0 < rgall n F wv told set e) (hv : v = ((100 * (falls - rfall n F wv told set e) : Int) : Rat) / (rgall n F wv told set e : Rat)) (hp : Spn n F wv told set e v) : IsF n F wv told set falls (fun h => ((F h 1 * rfx F wv told set h e : Int) : Rat) + ((F h 1 * gor F wv told set h e : Int) : Rat) * (v / 100)) v := by
  have B : (0 : Rat) < (rgall n F wv told set e : Rat) := by exact_mod_cast hg
  have ev : (rfall n F wv told set e : Rat) + (rgall n F wv told set e : Rat) * (v / 100) = falls := by
    have : v * (rgall n F wv told set e : Rat) = ((100 * (falls - rfall n F wv told set e) : Int) : Rat) := by rw [hv]; exact Rat.div_mul_cancel (by grind)
    rw [Rat.intCast_mul, Rat.intCast_sub] at this
    grind
  have hlo : e < v := by
    rw [rs_tt hF h0 Rat.le_refl (Spn_self e)] at hl
    have : (rgall n F wv told set e : Rat) * (e / 100) < (rgall n F wv told set e : Rat) * (v / 100) := by grind
    have := Rat.lt_of_mul_lt_mul_left this (by grind)
    grind
  refine IsF_cg (IsF_lin hF h0 hlo B (fun y h1 h2 => rs_tt hF h0 h1 (Spn_mono hp h2)) ev hap) ?_
  intro h hh
  exact rs_vl hF hh h0 (by grind) (hp h hh)
theorem rs_next (hF : FOK n F cv) {falls : Int} {e v : Rat} (h0 : 0 ≤ e) (hev : e ≤ v) (hl : tt n F wv told set e < falls) (hp : Spn n F wv told set e v) (hc : rgall n F wv told set e ≤ 0 ∨ (rgall n F wv told set e : Rat) * v < ((100 * (falls - rfall n F wv told set e) : Int) : Rat)) : tt n F wv told set v < falls := by
  rw [rs_tt hF h0 hev hp]
  rw [rs_tt hF h0 Rat.le_refl (Spn_self e)] at hl
  rcases hc with hc | hc
  · have : (rgall n F wv told set e : Rat) ≤ 0 := by exact_mod_cast hc
    have := Rat.mul_nonneg (a := - (rgall n F wv told set e : Rat)) (b := v / 100 - e / 100) (by grind) (by grind)
    grind
  · rw [Rat.intCast_mul, Rat.intCast_sub] at hc
    grind
theorem rs_flat (hF : FOK n F cv) {falls : Int} {e : Rat} (h0 : 0 ≤ e) (hap : ap n F wv told set < falls) (hl : tt n F wv told set e < falls) (hg : rgall n F wv told set e ≤ 0) (hp : ∀ v, Spn n F wv told set e v) : IsF n F wv told set falls (fun h => ((F h 1 * rfx F wv told set h e : Int) : Rat)) 0 := by
  have nn : ∀ h, h < n → 0 ≤ F h 1 * gor F wv told set h e := by
    intro h hh
    have f := hF.hd hh
    exact Int.mul_nonneg (by omega) (gor_nn hF hh).1
  refine IsF_flat hF h0 (fun h hh v hv => ?_) hl hap
  have z : F h 1 * gor F wv told set h e = 0 := by
    have a := isum_one nn h hh
    have b := nn h hh
    unfold rgall at hg
    omega
  rw [rs_vl hF hh h0 hv (hp v h hh), z]
  grind
end
