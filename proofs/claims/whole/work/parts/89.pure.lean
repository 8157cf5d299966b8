/-! ===== every run of calls ===== -/
section
variable {c m c' m' : eW}
theorem Rel.cg (h : Rel c m) (k : ∀ i, i < 39 → c'.1 i = c.1 i ∧ c'.2 i = c.2 i) (e : ∀ i, i < 25 → m'.1 i = m.1 i ∧ m'.2 i = m.2 i) : Rel c' m' := by
  obtain ⟨a, b, ⟨L, t⟩, n, cv, s, l, ra⟩ := h
  refine ⟨fun i hi => by rw [(k 4 (by omega)).2]; exact a i hi, ⟨by rw [(k 6 (by omega)).1, (e 24 (by omega)).1]; exact b.1, by rw [(k 6 (by omega)).1, (e 24 (by omega)).1]; exact b.2⟩, ⟨L, t.fr (k 0 (by omega)).1 (by rw [(k 1 (by omega)).1]) (fun i => by rw [(e 11 (by omega)).1]) (by rw [(e 24 (by omega)).1])⟩, n, cv, s, l, ra.cg (fun i hi => (k i (by omega)).1) (fun i j hi _ => by rw [(e i (by omega)).1]) (fun i j hi _ => by rw [(e i (by omega)).1]) (fun j _ => by rw [(e 24 (by omega)).1])⟩
theorem Rel.mg (w : eW) (h : Rel c m) : Rel (eMgM m (eMgC c w)) (eSM (eMgM m (eMgC c w))) := by
  refine h.cg (fun i hi => ⟨?_, ?_⟩) (fun i hi => ⟨?_, ?_⟩)
  · funext b; simp [eMgM, eMgC, hi]
  · funext b; simp [eMgM, eMgC, hi]
  · funext b; simp [eSM, eMgM, show 39 + i < 64 by omega, show ¬ 39 + i < 39 by omega]
  · funext b; simp [eSM, eMgM, show 39 + i < 64 by omega, show ¬ 39 + i < 39 by omega]
theorem sm_mg (c w : eW) : eSM (eMgC c w) = eSM w := by
  unfold eSM eMgC
  have e : ∀ a : Nat, ¬ 39 + a < 39 := fun a => by omega
  simp only [e, if_false]
theorem rel_0 : Rel w0 (eSM w0) := by
  refine ⟨fun i _ => rfl, ⟨rfl, rfl⟩, ⟨0, by omega, rfl, rfl, fun i hi => by omega⟩, 0, 0, (fun _ _ => 0, 0, false, fun _ => 0, 0, fun _ => 0, fun _ => 0), [], ⟨⟨by omega, by omega, by omega, by simp [cntK], by simp [cntK], by simp [cntK], fun h hh => by omega⟩, by simp, fun i hi => by simp at hi, fun z => by simp at z⟩, ⟨⟨rfl, rfl, rfl, fun h k hh => by omega⟩, rfl, fun k k1 k2 => ?_, rfl, fun i hi => by simp at hi⟩, ⟨⟨rfl, rfl, rfl, fun h hh => by omega⟩, rfl, fun k k1 k2 => ?_, rfl, fun i hi => by simp at hi⟩, by simp, fun u hu => by simp at hu, rfl, rfl, ⟨0, by omega, rfl, trivial⟩, fun j u hj => by simp at hj⟩
  · rfl
  · show (if 39 + 24 = 6 then (if 54 + k = 6 then (-1 : Int32) else 0) else if 39 + 24 = 63 then (if 54 + k = 26 then (-1 : Int32) else 0) else 0) = 0
    rw [if_neg (by omega), if_pos rfl, if_neg (by omega)]
set_option maxHeartbeats 4000000 in
theorem law_ok (zs : List Int32) (hz : zs.length ≤ 3072) : ∀ (n a : Nat) (w : eW), a ≤ zs.length → zs.length < a + 6 * n → Rel w (eSM w) → ∃ x, f_law zs n (Int32.ofInt (a : Nat)) w = some x := by
  intro n
  induction n with
  | zero => intro a w h1 h2; omega
  | succ n ih =>
    intro a w h1 h2 h
    rw [f_law]
    have e6 : Int32.ofNat zs.length - (6 : Int32) = Int32.ofInt ((zs.length : Int) - 6) := by
      rw [show Int32.ofNat zs.length = Int32.ofInt ((zs.length : Nat) : Int) from Int32.ofInt_eq_ofNat.symm, show (6 : Int32) = Int32.ofInt 6 from rfl, ← Int32.ofInt_sub]
    rw [e6]
    by_cases stop : zs.length < a + 6
    · rw [if_pos (by rw [ilt (by omega) (by omega) (by omega) (by omega)]; omega)]
      exact ⟨w, rfl⟩
    rw [if_neg (by rw [ilt (by omega) (by omega) (by omega) (by omega)]; omega), eChk_of (by omega) (by omega) (by omega)]
    have c1 : ∀ {ρ : Type} {y : Option ρ}, eChk (Int32.ofInt (a : Nat) + 1) zs.length y = y := fun {ρ y} => by rw [iadd' 1]; exact eChk_of (by omega) (by omega) (by omega)
    have c2 : ∀ {ρ : Type} {y : Option ρ}, eChk (Int32.ofInt (a : Nat) + 2) zs.length y = y := fun {ρ y} => by rw [iadd' 2]; exact eChk_of (by omega) (by omega) (by omega)
    have c3 : ∀ {ρ : Type} {y : Option ρ}, eChk (Int32.ofInt (a : Nat) + 3) zs.length y = y := fun {ρ y} => by rw [iadd' 3]; exact eChk_of (by omega) (by omega) (by omega)
    have c4 : ∀ {ρ : Type} {y : Option ρ}, eChk (Int32.ofInt (a : Nat) + 4) zs.length y = y := fun {ρ y} => by rw [iadd' 4]; exact eChk_of (by omega) (by omega) (by omega)
    have c5 : ∀ {ρ : Type} {y : Option ρ}, eChk (Int32.ofInt (a : Nat) + 5) zs.length y = y := fun {ρ y} => by rw [iadd' 5]; exact eChk_of (by omega) (by omega) (by omega)
    have go : ∀ v : eW, Rel v (eSM v) → ∃ x, f_law zs n (Int32.ofInt (a : Nat) + 6) v = some x := fun v hv => by
      rw [iadd' 6]
      exact ih (a + 6) v (by omega) (by omega) hv
    generalize (List.getD zs (Int32.toNatClampNeg (Int32.ofInt (a : Nat))) 0) &&& (63 : Int32) = op
    generalize List.getD zs (Int32.toNatClampNeg (Int32.ofInt (a : Nat) + 1)) 0 = x1
    generalize List.getD zs (Int32.toNatClampNeg (Int32.ofInt (a : Nat) + 2)) 0 = x2
    generalize List.getD zs (Int32.toNatClampNeg (Int32.ofInt (a : Nat) + 3)) 0 = x3
    generalize List.getD zs (Int32.toNatClampNeg (Int32.ofInt (a : Nat) + 4)) 0 = x4
    generalize List.getD zs (Int32.toNatClampNeg (Int32.ofInt (a : Nat) + 5)) 0 = x5
    generalize Int32.ofInt (a : Nat) + 6 = a6 at go ⊢
    obtain ⟨n', cv, s, l, ra⟩ := h.2.2.2
    have hF := ra.1.1
    have hC := ra.2.1.1
    have hM := ra.2.2.1.1
    by_cases h0 : op = (0 : Int32)
    · rw [if_pos h0]
      simp only [c1, c2, c3, c4, c5]
      obtain ⟨r, c', m', e1, e2, e3⟩ : Rr (f_xx_feed x1 x2 x3 x4 x5 w) (f_mm_feed x1 x2 x3 x4 x5 (eSM w)) := r_feed h x1 x2 x3 x4 x5 
      rw [e1, obind]
      dsimp only
      rw [sm_mg, e2, obind]
      dsimp only
      rw [if_pos (rfl)]
      exact go _ (e3.mg w)
    rw [if_neg h0]
    by_cases h1 : op = (1 : Int32)
    · rw [if_pos h1]
      simp only [c1]
      obtain ⟨r, c', m', e1, e2, e3⟩ : Rr (f_xx_end x1 w) (f_mm_end x1 (eSM w)) := r_end h x1 
      rw [e1, obind]
      dsimp only
      rw [sm_mg, e2, obind]
      dsimp only
      rw [if_pos (rfl)]
      exact go _ (e3.mg w)
    rw [if_neg h1]
    by_cases h2 : op = (2 : Int32)
    · rw [if_pos h2]
      obtain ⟨r, c', m', e1, e2, e3⟩ : Rr (f_xx_text w) (f_mm_text (eSM w)) := r_text h 
      rw [e1, obind]
      dsimp only
      rw [sm_mg, e2, obind]
      dsimp only
      rw [if_pos (rfl)]
      exact go _ (e3.mg w)
    rw [if_neg h2]
    by_cases h3 : op = (3 : Int32)
    · rw [if_pos h3]
      simp only [c1]
      obtain ⟨r, c', m', e1, e2, e3⟩ : Rr (f_xx_fault x1 w) (f_mm_fault x1 (eSM w)) := r_fault h x1 
      rw [e1, obind]
      dsimp only
      rw [sm_mg, e2, obind]
      dsimp only
      rw [if_pos (rfl)]
      exact go _ (e3.mg w)
    rw [if_neg h3]
    by_cases h4 : op = (4 : Int32)
    · rw [if_pos h4]
      simp only [c1]
      obtain ⟨r, c', m', e1, e2, e3⟩ : Rr (f_xx_about x1 w) (f_mm_about x1 (eSM w)) := r_about h x1 
      rw [e1, obind]
      dsimp only
      rw [sm_mg, e2, obind]
      dsimp only
      rw [if_pos (rfl)]
      exact go _ (e3.mg w)
    rw [if_neg h4]
    by_cases h5 : op = (5 : Int32)
    · rw [if_pos h5]
      simp only [c1, c2]
      obtain ⟨r, c', m', e1, e2, e3⟩ : Rr (f_xx_holder x1 x2 w) (f_mm_holder x1 x2 (eSM w)) := Rr.q h (q_holder hF hC hM x1 x2 )
      rw [e1, obind]
      dsimp only
      rw [sm_mg, e2, obind]
      dsimp only
      rw [if_pos (rfl)]
      exact go _ (e3.mg w)
    rw [if_neg h5]
    by_cases h6 : op = (6 : Int32)
    · rw [if_pos h6]
      simp only [c1, c2, c3]
      obtain ⟨r, c', m', e1, e2, e3⟩ : Rr (f_xx_has x1 x2 x3 w) (f_mm_has x1 x2 x3 (eSM w)) := Rr.q h (q_has hF hC hM x1 x2 x3 )
      rw [e1, obind]
      dsimp only
      rw [sm_mg, e2, obind]
      dsimp only
      rw [if_pos ((lg_cmp_eq _ _).mpr rfl)]
      exact go _ (e3.mg w)
    rw [if_neg h6]
    by_cases h7 : op = (7 : Int32)
    · rw [if_pos h7]
      simp only [c1, c2]
      obtain ⟨r, c', m', e1, e2, e3⟩ : Rr (f_xx_state x1 x2 w) (f_mm_state x1 x2 (eSM w)) := Rr.q h (q_state hF hC hM x1 x2 )
      rw [e1, obind]
      dsimp only
      rw [sm_mg, e2, obind]
      dsimp only
      rw [if_pos (rfl)]
      exact go _ (e3.mg w)
    rw [if_neg h7]
    by_cases h8 : op = (8 : Int32)
    · rw [if_pos h8]
      simp only [c1, c2]
      obtain ⟨r, c', m', e1, e2, e3⟩ : Rr (f_xx_paid x1 x2 w) (f_mm_paid x1 x2 (eSM w)) := Rr.q h (q_paid hF hC hM x1 x2 )
      rw [e1, obind]
      dsimp only
      rw [sm_mg, e2, obind]
      dsimp only
      rw [if_pos (rfl)]
      exact go _ (e3.mg w)
    rw [if_neg h8]
    by_cases h9 : op = (9 : Int32)
    · rw [if_pos h9]
      simp only [c1, c2]
      obtain ⟨r, c', m', e1, e2, e3⟩ : Rr (f_xx_level x1 x2 w) (f_mm_level x1 x2 (eSM w)) := Rr.q h (q_level hF hC hM x1 x2 )
      rw [e1, obind]
      dsimp only
      rw [sm_mg, e2, obind]
      dsimp only
      rw [if_pos ((lg_cmp_eq _ _).mpr rfl)]
      exact go _ (e3.mg w)
    rw [if_neg h9]
    by_cases h10 : op = (10 : Int32)
    · rw [if_pos h10]
      simp only [c1, c2]
      obtain ⟨r, c', m', e1, e2, e3⟩ : Rr (f_xx_least x1 x2 w) (f_mm_least x1 x2 (eSM w)) := Rr.q h (q_least hF hC hM x1 x2 )
      rw [e1, obind]
      dsimp only
      rw [sm_mg, e2, obind]
      dsimp only
      rw [if_pos (rfl)]
      exact go _ (e3.mg w)
    rw [if_neg h10]
    by_cases h11 : op = (11 : Int32)
    · rw [if_pos h11]
      simp only [c1, c2, c3]
      obtain ⟨r, c', m', e1, e2, e3⟩ : Rr (f_xx_flat x1 x2 x3 w) (f_mm_flat x1 x2 x3 (eSM w)) := Rr.q h (q_flat hF hC hM x1 x2 x3 )
      rw [e1, obind]
      dsimp only
      rw [sm_mg, e2, obind]
      dsimp only
      rw [if_pos (rfl)]
      exact go _ (e3.mg w)
    rw [if_neg h11]
    by_cases h12 : op = (12 : Int32)
    · rw [if_pos h12]
      simp only [c1]
      obtain ⟨r, c', m', e1, e2, e3⟩ : Rr (f_xx_unpaid x1 w) (f_mm_unpaid x1 (eSM w)) := Rr.q h (q_unpaid hF hC hM x1 )
      rw [e1, obind]
      dsimp only
      rw [sm_mg, e2, obind]
      dsimp only
      rw [if_pos (rfl)]
      exact go _ (e3.mg w)
    rw [if_neg h12]
    by_cases h13 : op = (13 : Int32)
    · rw [if_pos h13]
      simp only [c1, c2, c3]
      obtain ⟨r, c', m', e1, e2, e3⟩ : Rr (f_xx_wants x1 x2 x3 w) (f_mm_wants x1 x2 x3 (eSM w)) := Rr.q h (q_wants hF hC hM x1 x2 x3 )
      rw [e1, obind]
      dsimp only
      rw [sm_mg, e2, obind]
      dsimp only
      rw [if_pos (rfl)]
      exact go _ (e3.mg w)
    rw [if_neg h13]
    by_cases h14 : op = (14 : Int32)
    · rw [if_pos h14]
      simp only [c1, c2, c3, c4]
      obtain ⟨r, c', m', e1, e2, e3⟩ : Rr (f_xx_dilutes x1 x2 x3 x4 w) (f_mm_dilutes x1 x2 x3 x4 (eSM w)) := Rr.q h (q_dilutes hF hC hM x1 x2 x3 x4 )
      rw [e1, obind]
      dsimp only
      rw [sm_mg, e2, obind]
      dsimp only
      rw [if_pos (rfl)]
      exact go _ (e3.mg w)
    rw [if_neg h14]
    by_cases h15 : op = (15 : Int32)
    · rw [if_pos h15]
      simp only [c1, c2]
      obtain ⟨r, c', m', e1, e2, e3⟩ : Rr (f_xx_prefers x1 x2 w) (f_mm_prefers x1 x2 (eSM w)) := Rr.q h (q_prefers hF hC hM x1 x2 )
      rw [e1, obind]
      dsimp only
      rw [sm_mg, e2, obind]
      dsimp only
      rw [if_pos (rfl)]
      exact go _ (e3.mg w)
    rw [if_neg h15]
    by_cases h16 : op = (16 : Int32)
    · rw [if_pos h16]
      simp only [c1]
      obtain ⟨r, c', m', e1, e2, e3⟩ : Rr (f_xx_votes x1 w) (f_mm_votes x1 (eSM w)) := Rr.q h (q_votes hF hC hM x1 )
      rw [e1, obind]
      dsimp only
      rw [sm_mg, e2, obind]
      dsimp only
      rw [if_pos (rfl)]
      exact go _ (e3.mg w)
    rw [if_neg h16]
    by_cases h17 : op = (17 : Int32)
    · rw [if_pos h17]
      simp only [c1, c2]
      obtain ⟨r, c', m', e1, e2, e3⟩ : Rr (f_xx_passes x1 x2 w) (f_mm_passes x1 x2 (eSM w)) := Rr.q h (q_passes hF hC hM x1 x2 )
      rw [e1, obind]
      dsimp only
      rw [sm_mg, e2, obind]
      dsimp only
      rw [if_pos (rfl)]
      exact go _ (e3.mg w)
    rw [if_neg h17]
    by_cases h18 : op = (18 : Int32)
    · rw [if_pos h18]
      simp only [c1, c2]
      obtain ⟨r, c', m', e1, e2, e3⟩ : Rr (f_xx_breaks x1 x2 w) (f_mm_breaks x1 x2 (eSM w)) := Rr.q h (q_breaks hF hC hM x1 x2 )
      rw [e1, obind]
      dsimp only
      rw [sm_mg, e2, obind]
      dsimp only
      rw [if_pos ((lg_cmp_eq _ _).mpr rfl)]
      exact go _ (e3.mg w)
    rw [if_neg h18]
    by_cases h19 : op = (19 : Int32)
    · rw [if_pos h19]
      simp only [c1, c2, c3]
      obtain ⟨r, c', m', e1, e2, e3⟩ : Rr (f_xx_part x1 x2 x3 w) (f_mm_part x1 x2 x3 (eSM w)) := Rr.q h (q_part hF hC hM x1 x2 x3 )
      rw [e1, obind]
      dsimp only
      rw [sm_mg, e2, obind]
      dsimp only
      rw [if_pos ((lg_cmp_eq _ _).mpr rfl)]
      exact go _ (e3.mg w)
    rw [if_neg h19]
    by_cases h20 : op = (20 : Int32)
    · rw [if_pos h20]
      simp only [c1, c2, c3, c4]
      obtain ⟨r, c', m', e1, e2, e3⟩ : Rr (f_xx_chosen x1 x2 x3 x4 w) (f_mm_chosen x1 x2 x3 x4 (eSM w)) := Rr.q h (q_chosen hF hC hM x1 x2 x3 x4 )
      rw [e1, obind]
      dsimp only
      rw [sm_mg, e2, obind]
      dsimp only
      rw [if_pos ((lg_cmp_eq _ _).mpr rfl)]
      exact go _ (e3.mg w)
    rw [if_neg h20]
    by_cases h21 : op = (21 : Int32)
    · rw [if_pos h21]
      simp only [c1, c2]
      obtain ⟨r, c', m', e1, e2, e3⟩ : Rr (f_xx_steady x1 x2 w) (f_mm_steady x1 x2 (eSM w)) := Rr.q h (q_steady hF hC hM x1 x2 )
      rw [e1, obind]
      dsimp only
      rw [sm_mg, e2, obind]
      dsimp only
      rw [if_pos (rfl)]
      exact go _ (e3.mg w)
    rw [if_neg h21]
    by_cases h22 : op = (22 : Int32)
    · rw [if_pos h22]
      simp only [c1, c2]
      obtain ⟨r, c', m', e1, e2, e3⟩ : Rr (f_xx_steadies x1 x2 w) (f_mm_steadies x1 x2 (eSM w)) := Rr.q h (q_steadies hF hC hM x1 x2 )
      rw [e1, obind]
      dsimp only
      rw [sm_mg, e2, obind]
      dsimp only
      rw [if_pos (rfl)]
      exact go _ (e3.mg w)
    rw [if_neg h22]
    by_cases h23 : op = (23 : Int32)
    · rw [if_pos h23]
      simp only [c1, c2]
      obtain ⟨r, c', m', e1, e2, e3⟩ : Rr (f_xx_close x1 x2 w) (f_mm_close x1 x2 (eSM w)) := Rr.a h (a_close ra x1 x2 )
      rw [e1, obind]
      dsimp only
      rw [sm_mg, e2, obind]
      dsimp only
      rw [if_pos (rfl)]
      exact go _ (e3.mg w)
    rw [if_neg h23]
    by_cases h24 : op = (24 : Int32)
    · rw [if_pos h24]
      simp only [c1, c2]
      by_cases b : x2 = 0
      · rw [if_pos b]
        obtain ⟨r, c', m', e1, e2, e3⟩ : Rr (f_xx_release x1 0 w) (f_mm_release x1 0 (eSM w)) := Rr.a h (a_release ra x1 0)
        rw [e1, obind]
        dsimp only
        rw [if_pos b, sm_mg, e2, obind]
        dsimp only
        rw [if_pos rfl]
        exact go _ (e3.mg w)
      · rw [if_neg b]
        obtain ⟨r, c', m', e1, e2, e3⟩ : Rr (f_xx_release x1 1 w) (f_mm_release x1 1 (eSM w)) := Rr.a h (a_release ra x1 1)
        rw [e1, obind]
        dsimp only
        rw [if_neg b, sm_mg, e2, obind]
        dsimp only
        rw [if_pos rfl]
        exact go _ (e3.mg w)
    rw [if_neg h24]
    by_cases h25 : op = (25 : Int32)
    · rw [if_pos h25]
      simp only [c1]
      obtain ⟨r, c', m', e1, e2, e3⟩ : Rr (f_xx_sale x1 w) (f_mm_sale x1 (eSM w)) := Rr.q h (q_sale ra x1 )
      rw [e1, obind]
      dsimp only
      rw [sm_mg, e2, obind]
      dsimp only
      rw [if_pos (rfl)]
      exact go _ (e3.mg w)
    rw [if_neg h25]
    by_cases h26 : op = (26 : Int32)
    · rw [if_pos h26]
      simp only [c1, c2]
      obtain ⟨r, c', m', e1, e2, e3⟩ : Rr (f_xx_guess x1 x2 w) (f_mm_guess x1 x2 (eSM w)) := Rr.a h (a_guess ra x1 x2 )
      rw [e1, obind]
      dsimp only
      rw [sm_mg, e2, obind]
      dsimp only
      rw [if_pos (rfl)]
      exact go _ (e3.mg w)
    rw [if_neg h26]
    by_cases h27 : op = (27 : Int32)
    · rw [if_pos h27]
      simp only [c1]
      obtain ⟨r, c', m', e1, e2, e3⟩ : Rr (f_xx_mean x1 w) (f_mm_mean x1 (eSM w)) := Rr.q h (q_mean hF hC hM ra.gr x1 )
      rw [e1, obind]
      dsimp only
      rw [sm_mg, e2, obind]
      dsimp only
      rw [if_pos ((lg_cmp_eq _ _).mpr rfl)]
      exact go _ (e3.mg w)
    rw [if_neg h27]
    by_cases h28 : op = (28 : Int32)
    · rw [if_pos h28]
      simp only [c1, c2]
      obtain ⟨r, c', m', e1, e2, e3⟩ : Rr (f_xx_multiple x1 x2 w) (f_mm_multiple x1 x2 (eSM w)) := Rr.q h (q_multiple hF hC hM x1 x2 )
      rw [e1, obind]
      dsimp only
      rw [sm_mg, e2, obind]
      dsimp only
      rw [if_pos (rfl)]
      exact go _ (e3.mg w)
    rw [if_neg h28]
    by_cases h29 : op = (29 : Int32)
    · rw [if_pos h29]
      simp only [c1, c2, c3]
      obtain ⟨r, c', m', e1, e2, e3⟩ : Rr (f_xx_yields x1 x2 x3 w) (f_mm_yields x1 x2 x3 (eSM w)) := Rr.q h (q_yields hF hC hM x1 x2 x3 )
      rw [e1, obind]
      dsimp only
      rw [sm_mg, e2, obind]
      dsimp only
      rw [if_pos (rfl)]
      exact go _ (e3.mg w)
    rw [if_neg h29]
    by_cases h30 : op = (30 : Int32)
    · rw [if_pos h30]
      simp only [c1, c2]
      obtain ⟨r, c', m', e1, e2, e3⟩ : Rr (f_xx_grant x1 x2 w) (f_mm_grant x1 x2 (eSM w)) := Rr.a h (a_grant ra x1 x2 )
      rw [e1, obind]
      dsimp only
      rw [sm_mg, e2, obind]
      dsimp only
      rw [if_pos (rfl)]
      exact go _ (e3.mg w)
    rw [if_neg h30]
    by_cases h31 : op = (31 : Int32)
    · rw [if_pos h31]
      simp only [c1, c2]
      by_cases b : x2 = 0
      · rw [if_pos b]
        obtain ⟨r, c', m', e1, e2, e3⟩ : Rr (f_xx_waive x1 0 w) (f_mm_waive x1 0 (eSM w)) := Rr.a h (a_waive ra x1 0)
        rw [e1, obind]
        dsimp only
        rw [if_pos b, sm_mg, e2, obind]
        dsimp only
        rw [if_pos rfl]
        exact go _ (e3.mg w)
      · rw [if_neg b]
        obtain ⟨r, c', m', e1, e2, e3⟩ : Rr (f_xx_waive x1 1 w) (f_mm_waive x1 1 (eSM w)) := Rr.a h (a_waive ra x1 1)
        rw [e1, obind]
        dsimp only
        rw [if_neg b, sm_mg, e2, obind]
        dsimp only
        rw [if_pos rfl]
        exact go _ (e3.mg w)
    rw [if_neg h31]
    by_cases h32 : op = (32 : Int32)
    · rw [if_pos h32]
      simp only [c1, c2]
      obtain ⟨r, c', m', e1, e2, e3⟩ : Rr (f_xx_rank x1 x2 w) (f_mm_rank x1 x2 (eSM w)) := Rr.a h (a_rank ra x1 x2 )
      rw [e1, obind]
      dsimp only
      rw [sm_mg, e2, obind]
      dsimp only
      rw [if_pos (rfl)]
      exact go _ (e3.mg w)
    rw [if_neg h32]
    by_cases h33 : op = (33 : Int32)
    · rw [if_pos h33]
      obtain ⟨r, c', m', e1, e2, e3⟩ : Rr (f_xx_undo w) (f_mm_undo (eSM w)) := Rr.a h (a_undo ra )
      rw [e1, obind]
      dsimp only
      rw [sm_mg, e2, obind]
      dsimp only
      rw [if_pos (rfl)]
      exact go _ (e3.mg w)
    rw [if_neg h33]
    exact go w h
theorem pure_goal (zs : List Int32) (h : zs.length ≤ 3072) : ∃ (n : Nat) (x : eW), f_law zs n 0 w0 = some x :=
  ⟨513, law_ok zs h 513 0 w0 (by omega) (by omega) rel_0⟩
end
