theorem q_nd (v : Rat) : v * ((v.den : Nat) : Rat) = (v.num : Rat) := by
  have h : (v.num : Rat) / ((v.den : Int) : Rat) = v := by rw [← Rat.divInt_eq_div]; exact Rat.num_divInt_den v
  rw [Rat.intCast_natCast] at h
  have d : ((v.den : Nat) : Rat) ≠ 0 := by
    have : (0 : Rat) < ((v.den : Nat) : Rat) := by exact_mod_cast v.den_pos
    grind
  have := Rat.div_mul_cancel (a := (v.num : Rat)) d
  rw [h] at this
  exact this
section
variable {n : Nat} {F : Nat → Nat → Int} {wv : Int32} {told : Bool} {set : Int32} {cv : Int}
theorem lev_loop (hF : FOK n F cv) {e : Rat} {b u : Int} : ∀ (d k f : Nat), k + d = n → d < f → ∀ w : eW, MT w n F cv wv told set → FX F wv told set e w n → w.2 24 38 = Int64.ofInt b → w.2 24 39 = Int64.ofInt u → (∀ h, h < k → w.2 16 h = Int64.ofInt (F h 1 * (rfx F wv told set h e * b + gor F wv told set h e * u))) →
    Ok (f_mm_layLevel_L38 f (Int32.ofInt (k : Nat)) w) fun w' => w'.1 = w.1 ∧ (∀ i, i ≠ 16 → w'.2 i = w.2 i) ∧ ∀ h, h < n → w'.2 16 h = Int64.ofInt (F h 1 * (rfx F wv told set h e * b + gor F wv told set h e * u)) := by
  have hn := hF.1
  intro d
  induction d with
  | zero =>
    intro k f hk hf w hM fx e1 e2 hv
    obtain ⟨f, rfl⟩ : ∃ g, f = g + 1 := ⟨f - 1, by omega⟩
    obtain rfl : k = n := by omega
    unfold f_mm_layLevel_L38
    rw [hM.many, if_pos (by rw [ile (by omega) (by omega) (by omega) (by omega)]; omega)]
    exact Ok.ret ⟨rfl, fun _ _ => rfl, hv⟩
  | succ d ih =>
    intro k f hk hf w hM fx e1 e2 hv
    obtain ⟨f, rfl⟩ : ∃ g, f = g + 1 := ⟨f - 1, by omega⟩
    have fh := hF.hd (h := k) (by omega)
    have em := hM.1.2.2.2 k (by omega)
    unfold f_mm_layLevel_L38
    rw [hM.many, if_neg (by rw [ile (by omega) (by omega) (by omega) (by omega)]; omega)]
    simp (disch := omega) only [eChk_of, icl, nat_i, isucc]
    rw [em.2.1, i2j (by omega) (by omega), (fx k (by omega)).1, (fx k (by omega)).2, e1, e2, ← Int64.ofInt_mul, ← Int64.ofInt_mul, ← Int64.ofInt_add, ← Int64.ofInt_mul]
    have k1 : KL w (eU2 w 16 k (Int64.ofInt (F k 1 * (rfx F wv told set k e * b + gor F wv told set k e * u)))) := KL.rfl.u2 (by omega)
    refine Ok.imp (ih (k + 1) f (by omega) (by omega) _ (hM.kl k1) (fun h hh => by rw [u2n _ _ _ _ _ _ (by omega), u2n _ _ _ _ _ _ (by omega)]; exact fx h hh) (by rw [u2n _ _ _ _ _ _ (by omega)]; exact e1) (by rw [u2n _ _ _ _ _ _ (by omega)]; exact e2) ?_) ?_
    · intro h hh
      by_cases z : h = k
      · subst z; rw [u2s]
      · rw [u2n _ _ _ _ _ _ (by omega)]; exact hv h (by omega)
    · rintro w' ⟨q1, q2, q3⟩
      refine ⟨by rw [q1]; rfl, fun i hi => ?_, q3⟩
      rw [q2 i hi]
      funext j
      rw [u2n _ _ _ _ _ _ (by omega)]
/-- what lay leaves: fractions, and the level in lowest terms where turning isn't told -/
def LPo (n : Nat) (F : Nat → Nat → Int) (wv : Int32) (told : Bool) (set : Int32) (falls : Int) (w w' : eW) : Prop := KL w w' ∧ ∃ x lv, IsF n F wv told set falls x lv ∧ LV n w' x ∧ (told = false → w'.2 24 39 = Int64.ofInt lv.num ∧ w'.2 24 40 = Int64.ofInt ((lv.den : Nat) : Int))
theorem m_layLevel (hF : FOK n F cv) {falls : Int} (hb : 0 ≤ falls ∧ falls ≤ 999999900) {e v : Rat} (hg : 0 < rgall n F wv told set e) (hv : v = ((100 * (falls - rfall n F wv told set e) : Int) : Rat) / (rgall n F wv told set e : Rat)) (isf : IsF n F wv told set falls (fun h => ((F h 1 * rfx F wv told set h e : Int) : Rat) + ((F h 1 * gor F wv told set h e : Int) : Rat) * (v / 100)) v) (v0 : 0 ≤ v) {w : eW} (hM : MT w n F cv wv told set) (fx : FX F wv told set e w n) :
    Ok (f_mm_layLevel (Int64.ofInt (100 * (falls - rfall n F wv told set e))) (Int64.ofInt (rgall n F wv told set e)) w) fun w' => LPo n F wv told set falls w w' := by
  have rb := rall_b (wv := wv) (told := told) (set := set) hF e
  have B : (0 : Rat) < (rgall n F wv told set e : Rat) := by exact_mod_cast hg
  have ev : ((100 * (falls - rfall n F wv told set e) : Int) : Rat) = v * (rgall n F wv told set e : Rat) := by rw [hv]; exact (Rat.div_mul_cancel (by grind)).symm
  have l0 : 0 ≤ 100 * (falls - rfall n F wv told set e) := by
    have : (0 : Rat) ≤ ((100 * (falls - rfall n F wv told set e) : Int) : Rat) := by rw [ev]; exact Rat.mul_nonneg v0 (by grind)
    exact_mod_cast this
  obtain ⟨q1, q2, q3, q4⟩ := q_low l0 hg ev
  unfold f_mm_layLevel
  rw [m_common l0 (by omega) (by omega) (by omega), obind]
  simp (disch := omega) only [jzero, jdiv]
  rw [if_neg (by omega), if_neg (by omega), q1, q2, jlit100, ← Int64.ofInt_mul]
  have dle : (v.den : Int) ≤ rgall n F wv told set e := by
    rw [← q2]
    exact Int.ediv_le_self _ (by omega)
  have dpos : 0 < v.den := v.den_pos
  have k1 : KL w (eU2 (eU2 (eU2 w 24 39 (Int64.ofInt v.num)) 24 40 (Int64.ofInt (v.den : Nat))) 24 38 (Int64.ofInt (100 * (v.den : Nat)))) := ((KL.rfl.u2 (by omega)).u2 (by omega)).u2 (by omega)
  refine Ok.imp (lev_loop hF (e := e) (b := 100 * (v.den : Nat)) (u := v.num) n 0 eFu (by omega) (by rw [eFu_eq]; have := hF.1; omega) _ (hM.kl k1) (fun h hh => by rw [u2n _ _ _ _ _ _ (by omega), u2n _ _ _ _ _ _ (by omega), u2n _ _ _ _ _ _ (by omega), u2n _ _ _ _ _ _ (by omega), u2n _ _ _ _ _ _ (by omega), u2n _ _ _ _ _ _ (by omega)]; exact fx h hh) (by rw [u2s]) (by rw [u2n _ _ _ _ _ _ (by omega), u2n _ _ _ _ _ _ (by omega), u2s]) (by omega)) ?_
  rintro w' ⟨w1, w2, w3⟩
  have dq : (0 : Rat) < ((v.den : Nat) : Rat) := by exact_mod_cast dpos
  have vd := q_nd v
  refine ⟨k1.tr fun i j h1 h2 => ⟨by rw [w1], by rw [w2 i (by omega)]⟩, _, _, isf, ⟨100 * (v.den : Nat), _, ?_, by omega, by omega, fun h hh => ⟨w3 h hh, ?_⟩⟩, fun _ => ⟨?_, ?_⟩⟩
  · rw [w2 24 (by omega), u2s]
  · have e1 : ((F h 1 * (rfx F wv told set h e * (100 * (v.den : Nat)) + gor F wv told set h e * v.num) : Int) : Rat) = (((F h 1 * rfx F wv told set h e : Int) : Rat) + ((F h 1 * gor F wv told set h e : Int) : Rat) * (v / 100)) * ((100 * (v.den : Nat) : Int) : Rat) := by
      simp only [Rat.intCast_mul, Rat.intCast_add, Rat.intCast_natCast]
      rw [← vd]
      grind
    have bx := IsF_b hF hb.1 isf hh
    refine ⟨e1, ?_, ?_⟩
    · have : (0 : Rat) ≤ ((F h 1 * (rfx F wv told set h e * (100 * (v.den : Nat)) + gor F wv told set h e * v.num) : Int) : Rat) := by
        rw [e1]
        exact Rat.mul_nonneg bx.1 (by rw [Rat.intCast_mul, Rat.intCast_natCast]; grind)
      exact_mod_cast this
    · have : ((F h 1 * (rfx F wv told set h e * (100 * (v.den : Nat)) + gor F wv told set h e * v.num) : Int) : Rat) ≤ ((falls * (100 * (v.den : Nat)) : Int) : Rat) := by
        rw [e1, Rat.intCast_mul falls]
        exact Rat.mul_le_mul_of_nonneg_right bx.2 (by rw [Rat.intCast_mul, Rat.intCast_natCast]; grind)
      have this : F h 1 * (rfx F wv told set h e * (100 * (v.den : Nat)) + gor F wv told set h e * v.num) ≤ falls * (100 * (v.den : Nat)) := by exact_mod_cast this
      have m := mul_le4 (a := falls) (b := 100 * (v.den : Nat)) (A := 999999900) (B := 4799520000) (by omega) (by omega) (by omega) (by omega)
      omega
  · rw [w2 24 (by omega), u2n _ _ _ _ _ _ (by omega), u2n _ _ _ _ _ _ (by omega), u2s]
  · rw [w2 24 (by omega), u2n _ _ _ _ _ _ (by omega), u2s]
end
section
variable {n : Nat} {F : Nat → Nat → Int} {wv : Int32} {told : Bool} {set : Int32} {cv : Int}
theorem flat_loop (hF : FOK n F cv) {e : Rat} : ∀ (d k f : Nat), k + d = n → d < f → ∀ w : eW, MT w n F cv wv told set → FX F wv told set e w n → (∀ h, h < k → w.2 16 h = Int64.ofInt (F h 1 * rfx F wv told set h e)) →
    Ok (f_mm_lay_L147 f (Int32.ofInt (k : Nat)) w) fun w' => w'.1 = w.1 ∧ (∀ i, i ≠ 16 → w'.2 i = w.2 i) ∧ ∀ h, h < n → w'.2 16 h = Int64.ofInt (F h 1 * rfx F wv told set h e) := by
  have hn := hF.1
  intro d
  induction d with
  | zero =>
    intro k f hk hf w hM fx hv
    obtain ⟨f, rfl⟩ : ∃ g, f = g + 1 := ⟨f - 1, by omega⟩
    obtain rfl : k = n := by omega
    unfold f_mm_lay_L147
    rw [hM.many, if_pos (by rw [ile (by omega) (by omega) (by omega) (by omega)]; omega)]
    exact Ok.ret ⟨rfl, fun _ _ => rfl, hv⟩
  | succ d ih =>
    intro k f hk hf w hM fx hv
    obtain ⟨f, rfl⟩ : ∃ g, f = g + 1 := ⟨f - 1, by omega⟩
    have fh := hF.hd (h := k) (by omega)
    have em := hM.1.2.2.2 k (by omega)
    unfold f_mm_lay_L147
    rw [hM.many, if_neg (by rw [ile (by omega) (by omega) (by omega) (by omega)]; omega)]
    simp (disch := omega) only [eChk_of, icl, nat_i, isucc]
    rw [em.2.1, i2j (by omega) (by omega), (fx k (by omega)).1, ← Int64.ofInt_mul]
    have k1 : KL w (eU2 w 16 k (Int64.ofInt (F k 1 * rfx F wv told set k e))) := KL.rfl.u2 (by omega)
    refine Ok.imp (ih (k + 1) f (by omega) (by omega) _ (hM.kl k1) (fun h hh => by rw [u2n _ _ _ _ _ _ (by omega), u2n _ _ _ _ _ _ (by omega)]; exact fx h hh) ?_) ?_
    · intro h hh
      by_cases z : h = k
      · subst z; rw [u2s]
      · rw [u2n _ _ _ _ _ _ (by omega)]; exact hv h (by omega)
    · rintro w' ⟨q1, q2, q3⟩
      refine ⟨by rw [q1]; rfl, fun i hi => ?_, q3⟩
      rw [q2 i hi]
      funext j
      rw [u2n _ _ _ _ _ _ (by omega)]
theorem edg_in : ∀ {k h : Nat}, h < k → ∀ p, p ∈ edg F wv told set h → p ∈ edgs F wv told set k
  | 0, h, hh, _, _ => by omega
  | k + 1, h, hh, p, hp => by
    simp only [edgs, List.mem_append]
    by_cases z : h = k
    · subst z; exact .inr hp
    · exact .inl (edg_in (k := k) (by omega) p hp)
theorem zero_in : ∀ k, ((0, 1) : Int × Int) ∈ edgs F wv told set k
  | 0 => by simp [edgs]
  | k + 1 => by simp only [edgs, List.mem_append]; exact .inl (zero_in k)
theorem EV.kf {w w' : eW} {l : List (Int × Int)} (h : EV w l) (k : KF w w') : EV w' l := by
  unfold EV at *
  rw [k.1, k.2 12 (by omega) (by omega), k.2 13 (by omega) (by omega)]
  exact h
/-- at the last edge nobody goes on: only where turning is told -/
theorem last_goes (hF : FOK n F cv) (hn0 : 0 < n) {e : Rat} (hall : ∀ h, h < n → ∀ p, p ∈ edg F wv false set h → eV p ≤ e) : 0 < rgall n F wv false set e := by
  have pos : ∀ h, h < n → 0 < gor F wv false set h e := by
    intro h hh
    have fh := hF.hd hh
    have G := edg_good (wv := wv) (told := false) (set := set) hF hh
    have H := hall h hh
    unfold edg at G H
    unfold gor
    by_cases k0 : F h 0 = 0
    · rw [if_pos k0]; omega
    rw [if_neg k0]
    by_cases k1 : F h 0 = 1
    · rw [if_pos k1] at *
      have := H _ (List.mem_singleton.mpr rfl)
      rw [eV_le (by show (0 : Int) < 1; omega)] at this
      simp only [Rat.intCast_mul] at this
      rw [if_pos (by grind)]; omega
    rw [if_neg k1] at *
    have k2 : F h 0 = 2 := by omega
    by_cases kc : canT F h = false
    · rw [if_pos (.inr kc)]; omega
    have kt : tnd false set F h = false := rfl
    have kn : ¬ (tnd false set F h = true ∨ canT F h = false) := by
      intro z
      rcases z with z | z
      · rw [kt] at z; exact absurd z (by decide)
      · exact kc z
    rw [if_neg kn]
    by_cases k6 : F h 6 = 0
    · rw [if_pos k6]
      rw [if_pos ⟨k2, k6, rfl⟩] at G H
      have := H _ (List.mem_singleton.mpr rfl)
      rw [eV_le (G _ (List.mem_singleton.mpr rfl)).2.1] at this
      simp only [Rat.intCast_mul] at this
      rw [if_pos ⟨rfl, by grind⟩]; omega
    · rw [if_neg k6]
      have k7 : F h 7 ≠ -1 := by
        have kc' : canT F h = true := by simpa using kc
        unfold canT at kc'
        simp only [decide_eq_true_eq] at kc'
        omega
      rw [if_neg (by omega), if_pos ⟨k2, by omega, k7, kt⟩, if_neg (by decide)] at G H
      have := H _ (List.mem_cons_of_mem _ (List.mem_singleton.mpr rfl))
      rw [eV_le (G _ (List.mem_cons_of_mem _ (List.mem_singleton.mpr rfl))).2.1] at this
      simp only [Rat.intCast_mul] at this
      rw [if_pos ⟨rfl, by grind⟩]; omega
  have nn : ∀ h, h < n → 0 ≤ F h 1 * gor F wv false set h e := by
    intro h hh
    have f := hF.hd hh
    exact Int.mul_nonneg (by omega) (Int.le_of_lt (pos h hh))
  have a := isum_one nn 0 hn0
  have b := Int.mul_pos (show 0 < F 0 1 by have := hF.hd hn0; omega) (pos 0 hn0)
  unfold rgall
  omega
theorem lay_loop (hF : FOK n F cv) (hn0 : 0 < n) {falls : Int} (hb : 0 ≤ falls ∧ falls ≤ 999999900) (hap : ap n F wv told set < falls) {l : List (Int × Int)} (hp : l.Perm (edgs F wv told set n)) (hs : l.Pairwise (fun x y => eV x ≤ eV y)) : ∀ (u : List (Int × Int)) (t : List (Int × Int)) (p : Int × Int) (f : Nat), l = t ++ p :: u → u.length + 1 < f → ∀ w : eW, MT w n F cv wv told set → EV w l → tt n F wv told set (eV p) < falls →
    Ok (f_mm_lay_L28 f (Int64.ofInt falls) (Int32.ofInt ((t.length : Nat) : Int)) w) fun w' => LPo n F wv told set falls w w' := by
  have hn := hF.1
  have elen := edgs_len (F := F) (wv := wv) (told := told) (set := set) n
  have ll := hp.length_eq
  have G : ∀ q, q ∈ l → Eb q := fun q hq => edgs_good hF n (Nat.le_refl _) q (hp.mem_iff.mp hq)
  intro u
  induction u with
  | nil =>
    intro t p f e hf w hM ev hl
    obtain ⟨f, rfl⟩ : ∃ g, f = g + 2 := ⟨f - 2, by omega⟩
    have hi : l[t.length]? = some p := by rw [e, List.getElem?_append_right (Nat.le_refl _), Nat.sub_self, List.getElem?_cons_zero]
    have gp := G p (by rw [e]; simp)
    have lt : l.length = t.length + 1 := by rw [e, List.length_append, List.length_singleton]
    have p0 : 0 ≤ eV p := qnn (by exact_mod_cast gp.1) (by exact_mod_cast gp.2.1)
    have rb := rall_b (wv := wv) (told := told) (set := set) hF (eV p)
    have below : ∀ h, h < n → ∀ q, q ∈ edg F wv told set h → eV q ≤ eV p := by
      intro h hh q hq
      have mq := hp.mem_iff.mpr (edg_in hh q hq)
      rw [e] at mq hs
      rw [List.pairwise_append] at hs
      rcases List.mem_append.mp mq with m | m
      · exact hs.2.2 q m p (by simp)
      · rw [List.mem_singleton.mp m]; exact Rat.le_refl
    have spn : ∀ v, Spn n F wv told set (eV p) v := fun v h hh q hq => .inl (below h hh q hq)
    unfold f_mm_lay_L28
    rw [ev.1, if_neg (by rw [ile (by omega) (by omega) (by omega) (by omega)]; omega)]
    simp (disch := omega) only [eChk_of, icl, nat_i]
    rw [(ev.2 _ _ hi).1, (ev.2 _ _ hi).2]
    refine Ok.bind (m_layFrom hF gp hM) ?_
    rintro w1 ⟨kf, fx⟩
    have hM1 := hM.kl kf.kl
    have ev1 := ev.kf kf
    rw [m_allGoes hF hM1 fx, obind]
    dsimp only
    rw [m_allFixed hF hM1 fx, obind]
    dsimp only
    rw [ev1.1, lt]
    have s1 : Int32.ofInt ((t.length + 1 : Nat) : Int) - 1 = Int32.ofInt ((t.length : Nat) : Int) := by rw [show (1 : Int32) = Int32.ofInt 1 from rfl, ← Int32.ofInt_sub]; congr 1; omega
    rw [s1, if_neg (fun z => z rfl), ← Int64.ofInt_sub, jlit100, ← Int64.ofInt_mul]
    unfold f_mm_lay_J85
    simp (disch := omega) only [lg_cmp_le, jlit0, jle]
    by_cases c : rgall n F wv told set (eV p) ≤ 0
    · rw [if_pos c, isucc]
      have tt' : told = true := by
        by_cases z : told = true
        · exact z
        · have z' : told = false := by simpa using z
          subst z'
          have := last_goes (set := set) hF hn0 below
          omega
      rw [f_mm_lay_L28, ev1.1, lt, if_pos (by rw [ile (by omega) (by omega) (by omega) (by omega)]; omega)]
      have k2 : KL w1 (eU2 w1 24 38 1) := KL.rfl.u2 (by omega)
      refine Ok.imp (flat_loop hF (e := eV p) n 0 eFu (by omega) (by rw [eFu_eq]; omega) _ (hM1.kl k2) (fun h hh => by rw [u2n _ _ _ _ _ _ (by omega), u2n _ _ _ _ _ _ (by omega)]; exact fx h hh) (by omega)) ?_
      rintro w' ⟨w1', w2', w3'⟩
      have isf := rs_flat hF p0 hap hl c spn
      refine ⟨(kf.kl.tr k2).tr fun i j h1 h2 => ⟨by rw [w1'], by rw [w2' i (by omega)]⟩, _, _, isf, ⟨1, _, ?_, by omega, by omega, fun h hh => ⟨w3' h hh, ?_⟩⟩, fun z => by rw [tt'] at z; exact absurd z (by decide)⟩
      · rw [w2' 24 (by omega), u2s]; rfl
      · have bx := IsF_b hF hb.1 isf hh
        have m1 : 0 ≤ F h 1 * rfx F wv told set h (eV p) := by exact_mod_cast bx.1
        have m2 : F h 1 * rfx F wv told set h (eV p) ≤ falls := by exact_mod_cast bx.2
        refine ⟨by grind, m1, by omega⟩
    · rw [if_neg c, if_pos (by decide)]
      have isf := rs_level hF p0 hap hl (by omega) rfl (spn _)
      have v0 : 0 ≤ ((100 * (falls - rfall n F wv told set (eV p)) : Int) : Rat) / (rgall n F wv told set (eV p) : Rat) := by
        rcases isf with ⟨z, _⟩ | ⟨_, z, _⟩ | ⟨_, z, _⟩
        · omega
        · exact z
        · rw [z]; exact Rat.le_refl
      refine Ok.bind (m_layLevel hF hb (by omega) rfl isf v0 hM1 fx) ?_
      rintro w' ⟨q1, q2⟩
      exact Ok.ret ⟨kf.kl.tr q1, q2⟩
  | cons q u ih =>
    intro t p f e hf w hM ev hl
    obtain ⟨f, rfl⟩ : ∃ g, f = g + 1 := ⟨f - 1, by omega⟩
    have hi : l[t.length]? = some p := by rw [e, List.getElem?_append_right (Nat.le_refl _), Nat.sub_self, List.getElem?_cons_zero]
    have hi2 : l[t.length + 1]? = some q := by rw [e, List.getElem?_append_right (by omega), show t.length + 1 - t.length = 1 by omega, List.getElem?_cons_succ, List.getElem?_cons_zero]
    have gp := G p (by rw [e]; simp)
    have gq := G q (by rw [e]; simp)
    have lt : l.length = t.length + (u.length + 2) := by rw [e, List.length_append, List.length_cons, List.length_cons]
    have p0 : 0 ≤ eV p := qnn (by exact_mod_cast gp.1) (by exact_mod_cast gp.2.1)
    have rb := rall_b (wv := wv) (told := told) (set := set) hF (eV p)
    have hs' := hs
    rw [e, List.pairwise_append] at hs'
    have pq : eV p ≤ eV q := (List.pairwise_cons.mp hs'.2.1).1 q (by simp)
    have spn : ∀ v, v ≤ eV q → Spn n F wv told set (eV p) v := by
      intro v hv h hh r hr
      have mr := hp.mem_iff.mpr (edg_in hh r hr)
      rw [e] at mr
      rcases List.mem_append.mp mr with m | m
      · exact .inl (hs'.2.2 r m p (by simp))
      · rcases List.mem_cons.mp m with m | m
        · rw [m]; exact .inl Rat.le_refl
        · rcases List.mem_cons.mp m with m | m
          · rw [m]; exact .inr hv
          · have := (List.pairwise_cons.mp (List.pairwise_cons.mp hs'.2.1).2).1 r m
            exact .inr (by grind)
    unfold f_mm_lay_L28
    rw [ev.1, if_neg (by rw [ile (by omega) (by omega) (by omega) (by omega)]; omega)]
    simp (disch := omega) only [eChk_of, icl, nat_i]
    rw [(ev.2 _ _ hi).1, (ev.2 _ _ hi).2]
    refine Ok.bind (m_layFrom hF gp hM) ?_
    rintro w1 ⟨kf, fx⟩
    have hM1 := hM.kl kf.kl
    have ev1 := ev.kf kf
    rw [m_allGoes hF hM1 fx, obind]
    dsimp only
    rw [m_allFixed hF hM1 fx, obind]
    dsimp only
    rw [ev1.1, lt]
    have s1 : Int32.ofInt ((t.length + (u.length + 2) : Nat) : Int) - 1 = Int32.ofInt ((t.length + (u.length + 1) : Nat) : Int) := by rw [show (1 : Int32) = Int32.ofInt 1 from rfl, ← Int32.ofInt_sub]; congr 1; omega
    rw [s1, if_pos (by rw [ieq (by omega) (by omega) (by omega) (by omega)]; omega), ← Int64.ofInt_sub, jlit100, ← Int64.ofInt_mul]
    unfold f_mm_lay_J85
    rw [isucc]
    have up : (rgall n F wv told set (eV p) ≤ 0 ∨ (rgall n F wv told set (eV p) : Rat) * eV q < ((100 * (falls - rfall n F wv told set (eV p)) : Int) : Rat)) → Ok (f_mm_lay_L28 f (Int64.ofInt falls) (Int32.ofInt ((t.length + 1 : Nat) : Int)) w1) fun w' => LPo n F wv told set falls w w' := by
      intro hc
      have hl2 := rs_next hF p0 pq hl (spn _ Rat.le_refl) hc
      have := ih (t ++ [p]) q f (by rw [List.append_assoc]; exact e) (by rw [List.length_cons] at hf; omega) w1 hM1 ev1 hl2
      rw [List.length_append, List.length_singleton] at this
      refine Ok.imp this ?_
      rintro w' ⟨q1, q2⟩
      exact ⟨kf.kl.tr q1, q2⟩
    have m1 := mul_le4 (a := rgall n F wv told set (eV p)) (b := q.1) (A := 47995200) (B := 19800000) (by omega) (by omega) (by omega) (by omega)
    have m2 : -1 * 2500000000000 * 400 ≤ 100 * (falls - rfall n F wv told set (eV p)) * q.2 ∧ 100 * (falls - rfall n F wv told set (eV p)) * q.2 ≤ 2500000000000 * 400 := by
      constructor
      · have := Int.mul_le_mul_of_nonneg_right (show -2500000000000 ≤ 100 * (falls - rfall n F wv told set (eV p)) by omega) (show 0 ≤ q.2 by omega)
        omega
      · have := Int.mul_le_mul_of_nonneg_right (show 100 * (falls - rfall n F wv told set (eV p)) ≤ 2500000000000 by omega) (show 0 ≤ q.2 by omega)
        omega
    have qd : (0 : Rat) < (q.2 : Rat) := by exact_mod_cast gq.2.1
    have eq_ : eV q * (q.2 : Rat) = (q.1 : Rat) := Rat.div_mul_cancel (by grind)
    have cmp : (rgall n F wv told set (eV p) : Rat) * eV q < ((100 * (falls - rfall n F wv told set (eV p)) : Int) : Rat) ↔ rgall n F wv told set (eV p) * q.1 < 100 * (falls - rfall n F wv told set (eV p)) * q.2 := by
      rw [← Rat.mul_lt_mul_right qd, Rat.mul_assoc, eq_, ← Rat.intCast_mul, ← Rat.intCast_mul, Rat.intCast_lt_intCast]
    have g0 : (lg_cmp (Int64.ofInt (rgall n F wv told set (eV p))) 0 ≤ 0) ↔ rgall n F wv told set (eV p) ≤ 0 := by
      rw [lg_cmp_le, jlit0, jle (by omega) (by omega) (by omega) (by omega)]
    by_cases c : rgall n F wv told set (eV p) ≤ 0
    · rw [if_pos (g0.mpr c)]
      exact up (.inl c)
    · rw [if_neg (fun z => c (g0.mp z)), if_neg (by decide), eChk_of (by omega) (by omega) (by omega), eChk_of (by omega) (by omega) (by omega), icl (by omega) (by omega), nat_i, (ev1.2 _ _ hi2).1, (ev1.2 _ _ hi2).2, ← Int64.ofInt_mul, ← Int64.ofInt_mul]
      have lc : (0 < lg_cmp (Int64.ofInt (100 * (falls - rfall n F wv told set (eV p)) * q.2)) (Int64.ofInt (rgall n F wv told set (eV p) * q.1))) ↔ rgall n F wv told set (eV p) * q.1 < 100 * (falls - rfall n F wv told set (eV p)) * q.2 := by
        rw [lg_cmp_gt, jlt (by omega) (by omega) (by omega) (by omega)]
      by_cases d : rgall n F wv told set (eV p) * q.1 < 100 * (falls - rfall n F wv told set (eV p)) * q.2
      · rw [if_pos (lc.mpr d)]
        exact up (.inr (cmp.mpr d))
      · rw [if_neg (fun z => d (lc.mp z))]
        have B : (0 : Rat) < (rgall n F wv told set (eV p) : Rat) := by exact_mod_cast (show 0 < rgall n F wv told set (eV p) by omega)
        have vle : ((100 * (falls - rfall n F wv told set (eV p)) : Int) : Rat) / (rgall n F wv told set (eV p) : Rat) ≤ eV q := by
          rw [qle B, Rat.mul_comm]
          have : ¬ (rgall n F wv told set (eV p) : Rat) * eV q < ((100 * (falls - rfall n F wv told set (eV p)) : Int) : Rat) := fun z => d (cmp.mp z)
          grind
        have isf := rs_level hF p0 hap hl (by omega) rfl (spn _ vle)
        have v0 : 0 ≤ ((100 * (falls - rfall n F wv told set (eV p)) : Int) : Rat) / (rgall n F wv told set (eV p) : Rat) := by
          rcases isf with ⟨z, _⟩ | ⟨_, z, _⟩ | ⟨_, z, _⟩
          · omega
          · exact z
          · rw [z]; exact Rat.le_refl
        refine Ok.bind (m_layLevel hF hb (by omega) rfl isf v0 hM1 fx) ?_
        rintro w' ⟨q1, q2⟩
        exact Ok.ret ⟨kf.kl.tr q1, q2⟩
theorem m_lay (hF : FOK n F cv) {falls : Int} (hb : 0 ≤ falls ∧ falls ≤ 999999900) {w : eW} (hM : MT w n F cv wv told set) : Ok (f_mm_lay (Int64.ofInt falls) w) fun w' => (0 < n → LPo n F wv told set falls w w') ∧ KL w w' := by
  have hn := hF.1
  have ab := ap_b (wv := wv) (told := told) (set := set) hF
  unfold f_mm_lay
  rw [m_firsts hF hM, obind]
  simp (disch := omega) only [lg_cmp_le, jle]
  rw [hM.many]
  have ranks : (n = 0 ∨ falls ≤ ap n F wv told set) → Ok ((f_mm_layRanks (Int64.ofInt falls) w).bind fun w2 => some w2) fun w' => (0 < n → LPo n F wv told set falls w w') ∧ KL w w' := by
    intro h
    refine Ok.bind (m_layRanks hF hb h hM) ?_
    rintro w' ⟨q1, q2, q3, q4⟩
    refine Ok.ret ⟨fun hn0 => ⟨q1, _, 0, .inl ⟨by omega, fun _ _ => rfl, rfl⟩, q4, fun _ => ⟨by rw [q2]; rfl, by rw [q3]; rfl⟩⟩, q1⟩
  by_cases c : falls ≤ ap n F wv told set
  · rw [if_pos c]
    exact ranks (.inr c)
  · rw [if_neg c]
    by_cases z : n = 0
    · rw [if_neg (by rw [z]; exact fun y => y rfl)]
      exact ranks (.inl z)
    · rw [if_pos (by rw [show (0 : Int32) = Int32.ofInt 0 from rfl, ieq (by omega) (by omega) (by omega) (by omega)]; omega)]
      refine Ok.bind (m_layEdges hF hM) ?_
      rintro w1 ⟨ke, l, l1, l2, l3⟩
      have elen := edgs_len (F := F) (wv := wv) (told := told) (set := set) n
      have ll := l1.length_eq
      have G : ∀ q, q ∈ l → Eb q := fun q hq => edgs_good hF n (Nat.le_refl _) q (l1.mem_iff.mp hq)
      have zi : ((0, 1) : Int × Int) ∈ l := l1.mem_iff.mpr (zero_in n)
      cases l with
      | nil => simp at zi
      | cons p u =>
        have gp := G p (by simp)
        have p0 : 0 ≤ eV p := qnn (by exact_mod_cast gp.1) (by exact_mod_cast gp.2.1)
        have pz : eV p ≤ 0 := by
          have e0 : eV (0, 1) = 0 := by unfold eV; exact qz _
          rcases List.mem_cons.mp zi with m | m
          · rw [← m, e0]; exact Rat.le_refl
          · have := (List.pairwise_cons.mp l2).1 _ m
            rw [e0] at this; exact this
        have hap : ap n F wv told set < falls := by omega
        have tl : tt n F wv told set (eV p) < falls := by
          rw [show eV p = 0 by grind, tt_0 hF]
          exact_mod_cast hap
        rw [List.length_cons] at ll
        refine Ok.imp (lay_loop hF (by omega) hb hap l1 l2 u [] p eFu rfl (by rw [eFu_eq]; omega) w1 (hM.kl ke.kl) l3 tl) ?_
        rintro w' ⟨q1, q2⟩
        exact ⟨fun _ => ⟨ke.kl.tr q1, q2⟩, ke.kl.tr q1⟩
end
