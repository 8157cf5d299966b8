/-! ===== no class has less by more TIMES ===== -/
section
variable {n : Nat} {F G : Nat → Nat → Int} {wv : Int32} {told : Bool} {set : Int32} {cv : Int} {c m : eW}
theorem pref_cg {h : Nat} (e : F h = G h) : pref F wv h = pref G wv h := by unfold pref; rw [e]
theorem canT_cg {h : Nat} (e : F h = G h) : canT F h = canT G h := by unfold canT; rw [e]
theorem lid_cg {h : Nat} (e : F h = G h) : lid F wv h = lid G wv h := by unfold lid top; rw [pref_cg e, e]
theorem tnd_cg {h : Nat} (e : F h = G h) : tnd told set F h = tnd told set G h := by unfold tnd; rw [canT_cg e]
theorem fst_cg {h : Nat} (e : F h = G h) : fst_ told set F wv h = fst_ told set G wv h := by unfold fst_; rw [tnd_cg e, pref_cg e]
theorem prefs_cg {h : Nat} (e : F h = G h) : prefs F wv told set h = prefs G wv told set h := by unfold prefs; rw [fst_cg e, e]
theorem vl_cg {h : Nat} (e : F h = G h) (v : Rat) : vl F wv told set h v = vl G wv told set h v := by unfold vl ps; rw [tnd_cg e, canT_cg e, pref_cg e, lid_cg e, e]
/-- a holder's own share of a sum -/
theorem sm_split {x : Nat → Rat} {h : Nat} (hh : h < n) : sm x n = sm (fun i => if i = h then 0 else x i) n + x h := by
  rw [← sm_at (c := x h) hh, ← sm_add]
  refine sm_cg fun i hi => ?_
  by_cases e : i = h
  · rw [if_pos e, if_pos e.symm, e]; grind
  · rw [if_neg e, if_neg (fun z => e z.symm)]; grind
theorem sm_other {x y : Nat → Rat} {h : Nat} (hh : h < n) (e : sm x n = sm y n) (k : ∀ i, i < n → i ≠ h → y i ≤ x i) : x h ≤ y h := by
  rw [sm_split hh, sm_split (x := y) hh] at e
  have : sm (fun i => if i = h then 0 else y i) n ≤ sm (fun i => if i = h then 0 else x i) n := sm_le fun i hi => by
    by_cases z : i = h
    · rw [if_pos z, if_pos z]; exact Rat.le_refl
    · rw [if_neg z, if_neg z]; exact k i hi z
  grind
theorem isum_le {f g : Nat → Int} : ∀ {n : Nat}, (∀ h, h < n → f h ≤ g h) → isum f n ≤ isum g n
  | 0, _ => Int.le_refl _
  | n + 1, k => by
    have := isum_le (n := n) fun h hh => k h (by omega)
    have := k n (by omega)
    simp only [isum]; omega
theorem rank_frac {B g p p2 o : Rat} (hg : 0 < g) (hp : 0 ≤ p) (hpp : p ≤ p2) (ho : 0 ≤ o) : (if o + p ≤ g then p else p * g / (o + p)) ≤ (if o + p2 ≤ g then p2 else p2 * g / (o + p2)) := by
  by_cases e2 : o + p2 ≤ g
  · rw [if_pos e2, if_pos (by grind)]; exact hpp
  · rw [if_neg e2]
    have s2 : 0 < o + p2 := by grind
    have q1 : p * o ≤ p2 * o := Rat.mul_le_mul_of_nonneg_right hpp ho
    by_cases e1 : o + p ≤ g
    · rw [if_pos e1, qge s2]
      have q2 : p2 * (o + p) ≤ p2 * g := Rat.mul_le_mul_of_nonneg_left e1 (by grind)
      grind
    · rw [if_neg e1]
      have s1 : 0 < o + p := by grind
      rw [qle s1]
      have e : p2 * g / (o + p2) * (o + p) = p2 * g * (o + p) / (o + p2) := by rw [Rat.div_def, Rat.div_def]; grind
      rw [e, qge s2]
      have q3 : g * (p * o) ≤ g * (p2 * o) := Rat.mul_le_mul_of_nonneg_left q1 (by grind)
      grind
theorem last_case (hF : FOK n F cv) (hn : 0 < n) {falls : Int} (hb : 0 ≤ falls) {x : Nat → Rat} {lv : Rat} (h : IsF n F wv false set falls x lv) : (falls ≤ ap n F wv false set ∧ ∀ h, h < n → x h = rx n F wv false set falls h) ∨ (ap n F wv false set < falls ∧ 0 ≤ lv ∧ tt n F wv false set lv = falls ∧ (∀ u, 0 ≤ u → u < lv → tt n F wv false set u < falls) ∧ ∀ h, h < n → x h = vl F wv false set h lv) := by
  have s := XX_sum hF hn hb h
  rcases h with ⟨h1, h2, h3⟩ | ⟨h1, h2, h3, h4, h5⟩ | ⟨h1, h2, h3, v0, h4, h5⟩
  · exact .inl ⟨h1, h2⟩
  · exact .inr ⟨h1, h2, h3, h4, h5⟩
  · exfalso
    have t := h3 v0 h4
    unfold tt at t
    rw [← sm_cg fun i hi => h5 i hi v0 Rat.le_refl, s] at t
    exact Rat.lt_irrefl t
/-- two firms that differ in one holder's PREF alone, which is no less in the second -/
theorem times_mono (hF : FOK n F cv) (hG : FOK n G cv) {h : Nat} (hh : h < n) (eo : ∀ i, i ≠ h → F i = G i) (e3 : F h 3 = G h 3) (ep : prefs F wv false set h ≤ prefs G wv false set h) (ev : ∀ v, 0 ≤ v → vl F wv false set h v ≤ vl G wv false set h v) {falls : Int} (hb : 0 ≤ falls) {x y : Nat → Rat} {lx ly : Rat} (hx : IsF n F wv false set falls x lx) (hy : IsF n G wv false set falls y ly) : x h ≤ y h := by
  have pl : ∀ i, prefs F wv false set i ≤ prefs G wv false set i := fun i => by
    by_cases e : i = h
    · rw [e]; exact ep
    · rw [prefs_cg (eo i e)]; exact Int.le_refl _
  have al : ap n F wv false set ≤ ap n G wv false set := isum_le fun i _ => pl i
  have sx := XX_sum hF (by omega) hb hx
  have sy := XX_sum hG (by omega) hb hy
  have f3 := (hF.hd hh)
  rcases last_case hF (by omega) hb hx with ⟨a1, a2⟩ | ⟨a1, a2, a3, a4, a5⟩
  · rcases last_case hG (by omega) hb hy with ⟨b1, b2⟩ | ⟨b1, b2, b3, b4, b5⟩
    · rw [a2 h hh, b2 h hh]
      obtain ⟨r, hr⟩ : ∃ r : Nat, F h 3 = r := ⟨(F h 3).toNat, by omega⟩
      have hr2 : G h 3 = r := by rw [← e3]; exact hr
      have nn : 0 ≤ rx n G wv false set falls h := (rx_b hG hh).1
      have pn := prefs_nn (wv := wv) (told := false) (set := set) hF hh
      have eB : bf n F wv false set r = bf n G wv false set r := by
        rw [bf_eq r fun i hi => by have := hF.hd hi; omega, bf_eq r fun i hi => by have := hG.hd hi; omega]
        refine isum_cg fun i hi => ?_
        by_cases e : i = h
        · rw [e, hr, hr2, if_neg (by omega), if_neg (by omega)]
        · rw [prefs_cg (eo i e), eo i e]
      have oth : ∀ (A : Nat → Nat → Int), A h 3 = r → rp n A wv false set r = isum (fun i => if i = h then 0 else if A i 3 = r then prefs A wv false set i else 0) n + prefs A wv false set h := by
        intro A hA
        unfold rp
        have : ∀ m : Nat, isum (fun i => if i = h then prefs A wv false set h else 0) m = if h < m then prefs A wv false set h else 0 := by
          intro m
          induction m with
          | zero => rfl
          | succ m ih =>
            simp only [isum, ih]
            by_cases z : m = h
            · rw [if_pos z, if_neg (by omega), if_pos (by omega)]; omega
            · rw [if_neg z]
              by_cases y : h < m
              · rw [if_pos y, if_pos (by omega)]; omega
              · rw [if_neg y, if_neg (by omega)]; omega
        have t := this n
        rw [if_pos hh] at t
        rw [← t, ← isum_add]
        refine isum_cg fun i hi => ?_
        by_cases z : i = h
        · rw [if_pos z, if_pos z, z, if_pos hA]; omega
        · rw [if_neg z, if_neg z]; omega
      have eO : isum (fun i => if i = h then 0 else if F i 3 = r then prefs F wv false set i else 0) n = isum (fun i => if i = h then 0 else if G i 3 = r then prefs G wv false set i else 0) n := by
        refine isum_cg fun i hi => ?_
        by_cases e : i = h
        · rw [if_pos e, if_pos e]
        · rw [if_neg e, if_neg e, prefs_cg (eo i e), eo i e]
      have o0 : 0 ≤ isum (fun i => if i = h then 0 else if G i 3 = r then prefs G wv false set i else 0) n := isum_nn fun i hi => by
        split
        · omega
        · split
          · exact prefs_nn hG hi
          · omega
      have rF := oth F hr
      have rG := oth G hr2
      rw [eO] at rF
      generalize isum (fun i => if i = h then 0 else if G i 3 = r then prefs G wv false set i else 0) n = o at *
      unfold rx at nn ⊢
      rw [hr] at *
      rw [hr2] at nn ⊢
      rw [nat_i] at *
      have eF : bf n F wv false set (r + 1) = bf n G wv false set r + (o + prefs F wv false set h) := by show bf n F wv false set r + rp n F wv false set r = _; rw [rF, eB]
      have eG : bf n G wv false set (r + 1) = bf n G wv false set r + (o + prefs G wv false set h) := by show bf n G wv false set r + rp n G wv false set r = _; rw [rG]
      rw [eG, rG] at nn
      rw [eF, eG, rF, rG, eB]
      clear eB rF rG oth eF eG
      generalize bf n G wv false set r = B at *
      by_cases z : falls ≤ B
      · by_cases y : B + (o + prefs F wv false set h) ≤ falls
        · rw [if_pos y]
          have : prefs F wv false set h = 0 := by omega
          rw [this]; exact nn
        · rw [if_neg y, if_pos z]; exact nn
      · have k := rank_frac (B := (B : Rat)) (g := (falls : Rat) - (B : Rat)) (p := (prefs F wv false set h : Rat)) (p2 := (prefs G wv false set h : Rat)) (o := (o : Rat)) (by
            have : (B : Rat) < (falls : Rat) := by exact_mod_cast (show B < falls by omega)
            grind) (by exact_mod_cast pn) (by exact_mod_cast ep) (by exact_mod_cast o0)
        have c1 : ∀ p : Int, ((o : Rat) + (p : Rat) ≤ (falls : Rat) - (B : Rat)) = (B + (o + p) ≤ falls) := fun p => propext (by
          rw [← Rat.intCast_le_intCast, Rat.intCast_add, Rat.intCast_add]
          constructor <;> intro _ <;> grind)
        simp only [c1] at k
        simp only [if_neg z, Rat.intCast_add]
        exact k
    · omega
  · refine sm_other hh (by rw [sx, sy]) fun i hi ne => ?_
    rw [a5 i hi]
    rcases last_case hG (by omega) hb hy with ⟨b1, b2⟩ | ⟨b1, b2, b3, b4, b5⟩
    · rw [b2 i hi]
      refine Rat.le_trans (rx_b hG hi).2 ?_
      rw [← prefs_cg (eo i ne)]
      exact vl_prefs hF hi a2
    · rw [b5 i hi, ← vl_cg (eo i ne)]
      refine (vl_mono hF hi b2 ?_).2
      apply Classical.byContradiction
      intro z
      have lt : lx < ly := by grind
      have t := b4 lx a2 lt
      have : tt n F wv false set lx ≤ tt n G wv false set lx := sm_le fun j hj => by
        by_cases e : j = h
        · rw [e]; exact ev lx a2
        · rw [vl_cg (eo j e)]; exact Rat.le_refl
      rw [a3] at this
      grind
theorem pref_times (hF : FOK n F cv) {h : Nat} (hh : h < n) {s t : Int} (hst : s ≤ t) : pref (upf F h 4 s) wv h ≤ pref (upf F h 4 t) wv h := by
  have f := hF.hd hh
  unfold pref
  simp only [upf_s, upf_n (h := h) (i := h) (k := 4) (F := F) (j := 0) (.inr (by omega)), upf_n (h := h) (i := h) (k := 4) (F := F) (j := 2) (.inr (by omega)), upf_n (h := h) (i := h) (k := 4) (F := F) (j := 8) (.inr (by omega)), upf_n (h := h) (i := h) (k := 4) (F := F) (j := 9) (.inr (by omega))]
  by_cases e : F h 0 = 2 ∧ sb wv h = false
  · rw [if_pos e, if_pos e]
    have g := f.2.2.2.2.2.1 e.1
    exact Int.mul_le_mul_of_nonneg_left (by omega) (by omega)
  · rw [if_neg e, if_neg e]; exact Int.le_refl _
theorem vl_times (hF : FOK n F cv) {h : Nat} (hh : h < n) {s t : Int} (hst : s ≤ t) (v : Rat) : vl (upf F h 4 s) wv false set h v ≤ vl (upf F h 4 t) wv false set h v := by
  have f := hF.hd hh
  have p := pref_times (wv := wv) hF hh hst
  have pq : (pref (upf F h 4 s) wv h : Rat) ≤ (pref (upf F h 4 t) wv h : Rat) := by exact_mod_cast p
  have l : lid (upf F h 4 s) wv h ≤ lid (upf F h 4 t) wv h := by
    unfold lid top
    simp only [upf_n (h := h) (i := h) (k := 4) (F := F) (j := 6) (.inr (by omega)), upf_n (h := h) (i := h) (k := 4) (F := F) (j := 2) (.inr (by omega)), upf_n (h := h) (i := h) (k := 4) (F := F) (j := 7) (.inr (by omega))]
    split <;> omega
  have lq : (lid (upf F h 4 s) wv h : Rat) ≤ (lid (upf F h 4 t) wv h : Rat) := by exact_mod_cast l
  have ct : canT (upf F h 4 s) h = canT (upf F h 4 t) h := by
    unfold canT
    simp only [upf_n (h := h) (i := h) (k := 4) (F := F) (j := 6) (.inr (by omega)), upf_n (h := h) (i := h) (k := 4) (F := F) (j := 0) (.inr (by omega)), upf_n (h := h) (i := h) (k := 4) (F := F) (j := 7) (.inr (by omega))]
  unfold vl
  rw [upf_n (.inr (by omega)), upf_n (.inr (by omega))]
  refine Rat.mul_le_mul_of_nonneg_left ?_ (by exact_mod_cast (show 0 ≤ F h 1 by omega))
  unfold ps
  simp only [tnd_false, ct, Bool.false_eq_true, if_false, upf_n (h := h) (i := h) (k := 4) (F := F) (j := 0) (.inr (by omega)), upf_n (h := h) (i := h) (k := 4) (F := F) (j := 2) (.inr (by omega)), upf_n (h := h) (i := h) (k := 4) (F := F) (j := 5) (.inr (by omega))]
  generalize v * ((F h 5 : Rat) / 100) = r
  split
  · exact Rat.le_refl
  · split
    · exact Rat.le_refl
    · split <;> grind
/-- what a class has by TIMES -/
noncomputable def XT (n : Nat) (F : Nat → Nat → Int) (wv : Int32) (cv : Int) (h : Nat) (z : Int) (t : Int) : Rat := XA n (upf F h 4 t) wv cv h z
theorem XT_mono (hF : FOK n F cv) (hC : CF c n F cv wv) {h : Nat} (hh : h < n) (h2 : F h 0 = 2) {z : Int} (z1 : 0 ≤ z) (z2 : z ≤ 9999999) {s t : Int} (s0 : 0 ≤ s) (hst : s ≤ t) (t4 : t ≤ 400) : XT n F wv cv h z s ≤ XT n F wv cv h z t := by
  have hs := FOK_upf hF (h := h) (k := 4) (t := s) (by omega) (HOK_4 (hF.hd hh) h2 s0 (by omega))
  have ht := FOK_upf hF (h := h) (k := 4) (t := t) (by omega) (HOK_4 (hF.hd hh) h2 (by omega) t4)
  obtain ⟨u, hu⟩ := CP_ex (told := false) (set := 0) hs (CF_upf hC (h := h) (k := 4) (by omega) s) z1 z2
  obtain ⟨v, hv⟩ := CP_ex (told := false) (set := 0) ht (CF_upf hC (h := h) (k := 4) (by omega) t) z1 z2
  refine times_mono hs ht hh (fun i hi => by rw [upf_o hi, upf_o hi]) (by rw [upf_n (.inr (by omega)), upf_n (.inr (by omega))]) ?_ (fun v _ => vl_times hF hh hst v) (falls_b hF z1 z2).1 hu.2.2.1 hv.2.2.1
  unfold prefs fst_
  simp only [tnd_false, Bool.false_eq_true, if_false]
  rw [upf_n (.inr (by omega)), upf_n (.inr (by omega))]
  have f := hF.hd hh
  exact Int.mul_le_mul_of_nonneg_left (pref_times hF hh hst) (by omega)
end
