/-! ===== the text: lines of holders ===== -/
section
variable {c m c' m' c1 m1 : eW} {L x0 n : Nat} {G : Nat → Int}
theorem n_inc : Int32.ofInt (n : Nat) + 1 = Int32.ofInt ((n + 1 : Nat) : Int) := isucc n
/-- where the line of a holder comes to its sign -/
def En (c1 m1 : eW) (L x0 n : Nat) (k : Int) (j : Nat) (c m : eW) : Prop := ∃ G m', G 0 = k ∧ Hk G ∧ Ln c1 m1 L x0 n true G j c m' ∧ m = eU1 m' 24 3 (Int32.ofInt ((n + 1 : Nat) : Int))
theorem b_inc : BB n m (eU1 m 24 3 (m.1 24 3 + 1)) := BB.rfl.u (by omega)
noncomputable def kC0 (t v : Int32) (w : eW) : Option eW := eChk t 24 (some (eU1 (eU1 w 1 (Int32.toNatClampNeg t) v) 24 3 ((w.1 24 3) + (1 : Int32))))
noncomputable def kO2 (t v : Int32) (w : eW) : Option eW := eChk t 24 (some (eU1 (eU1 w 2 (Int32.toNatClampNeg t) v) 24 3 ((w.1 24 3) + (1 : Int32))))
noncomputable def kO1 (t v : Int32) (w : eW) : Option eW := eChk t 24 ((f_mm_keyword (52 : Int32) (0 : Int32) (eU1 w 1 (Int32.toNatClampNeg t) v)).bind fun w5 => ((f_mm_number (1 : Int32) (999 : Int32) w5).bind fun p8 => kO2 t p8.1 p8.2))
noncomputable def kP2 (t v : Int32) (w : eW) : Option eW := eChk t 24 ((f_mm_readTerms t (eU1 w 2 (Int32.toNatClampNeg t) v)).bind fun w7 => (some (eU1 w7 24 3 ((w7.1 24 3) + (1 : Int32)))))
noncomputable def kP1 (t v : Int32) (w : eW) : Option eW := eChk t 24 ((f_mm_keyword (52 : Int32) (0 : Int32) (eU1 w 1 (Int32.toNatClampNeg t) v)).bind fun w5 => ((f_mm_number (1 : Int32) (99 : Int32) w5).bind fun p6 => kP2 t p6.1 p6.2))
theorem mHold0 (a2 : Int32) (w : eW) : f_mm_readHolder 0 a2 w = ((f_mm_manyOf 0 w).bind fun p1 => (if ¬ p1.1 = a2 then (eChk ((12 : Int32) + (p1.2.1 24 3)) 24 ((f_mm_readName (eU1 p1.2 0 (Int32.toNatClampNeg ((12 : Int32) + (p1.2.1 24 3))) 0)).bind fun w2 => ((f_mm_number (1 : Int32) (9999 : Int32) w2).bind fun p3 => kC0 ((12 : Int32) + (p1.2.1 24 3)) p3.1 p3.2))) else ((f_mm_fails (5 : Int32) p1.2).bind fun w10 => (some w10)))) := by
  unfold f_mm_readHolder kC0
  simp only [show (0 : Int32) = 0 from rfl, if_true, show ¬ (0 : Int32) = 2 by decide, not_false_eq_true]
theorem mHold1 (a2 : Int32) (w : eW) : f_mm_readHolder 1 a2 w = ((f_mm_manyOf 1 w).bind fun p1 => (if ¬ p1.1 = a2 then (eChk ((12 : Int32) + (p1.2.1 24 3)) 24 ((f_mm_readName (eU1 p1.2 0 (Int32.toNatClampNeg ((12 : Int32) + (p1.2.1 24 3))) 1)).bind fun w2 => ((f_mm_number (1 : Int32) (9999 : Int32) w2).bind fun p3 => kO1 ((12 : Int32) + (p1.2.1 24 3)) p3.1 p3.2))) else ((f_mm_fails (5 : Int32) p1.2).bind fun w10 => (some w10)))) := by
  unfold f_mm_readHolder kO1 kO2
  simp only [show ¬ (1 : Int32) = 0 by decide, if_false, not_true_eq_false, if_true, show ¬ (1 : Int32) = 2 by decide, not_false_eq_true]
theorem mHold2 (a2 : Int32) (w : eW) : f_mm_readHolder 2 a2 w = ((f_mm_manyOf 2 w).bind fun p1 => (if ¬ p1.1 = a2 then (eChk ((12 : Int32) + (p1.2.1 24 3)) 24 ((f_mm_readName (eU1 p1.2 0 (Int32.toNatClampNeg ((12 : Int32) + (p1.2.1 24 3))) 2)).bind fun w2 => ((f_mm_number (1 : Int32) (9999 : Int32) w2).bind fun p3 => kP1 ((12 : Int32) + (p1.2.1 24 3)) p3.1 p3.2))) else ((f_mm_fails (5 : Int32) p1.2).bind fun w10 => (some w10)))) := by
  unfold f_mm_readHolder kP1 kP2
  simp only [show ¬ (2 : Int32) = 0 by decide, if_false, not_true_eq_false, if_true, show ¬ (2 : Int32) = 1 by decide, not_false_eq_true]
/-- what the class holds of a new holder -/
def Gd (k : Int) : Nat → Int := fun j => if j = 0 then k else if j = 4 then 100 else if j = 5 then 100 else if j = 7 then -1 else 0
theorem b_C0 (hn : n < 12) (v : Int32) : ∃ m', kC0 (Int32.ofInt ((12 + n : Nat) : Int)) v m = some m' ∧ BB n m m' := by
  unfold kC0
  rw [ct hn, cl_t hn]
  exact ⟨_, rfl, (BB.rfl.u (by omega)).u (by omega)⟩
theorem b_O2 (hn : n < 12) (v : Int32) : ∃ m', kO2 (Int32.ofInt ((12 + n : Nat) : Int)) v m = some m' ∧ BB n m m' := by
  unfold kO2
  rw [ct hn, cl_t hn]
  exact ⟨_, rfl, (BB.rfl.u (by omega)).u (by omega)⟩
theorem b_P2 (hn : n < 12) (g : ¬ m.1 24 27 = 0) (v : Int32) : ∃ m', kP2 (Int32.ofInt ((12 + n : Nat) : Int)) v m = some m' ∧ BB n m m' := by
  have b1 : BB n m (eU1 m 2 (12 + n) v) := BB.rfl.u (by omega)
  unfold kP2
  obtain ⟨m', e1, e2⟩ := b_terms hn (b1.ng g)
  rw [ct hn, cl_t hn, e1, obind]
  exact ⟨_, rfl, (b1.tr e2).u (by omega)⟩
theorem b_O1 (hn : n < 12) (g : ¬ m.1 24 27 = 0) (v : Int32) : ∃ m', kO1 (Int32.ofInt ((12 + n : Nat) : Int)) v m = some m' ∧ BB n m m' := by
  have b1 : BB n m (eU1 m 1 (12 + n) v) := BB.rfl.u (by omega)
  unfold kO1
  rw [ct hn, cl_t hn, b_key (b1.ng g), obind, b_num (b1.ng g), obind]
  obtain ⟨m', e1, e2⟩ := b_O2 (m := eU1 m 1 (12 + n) v) hn 0
  exact ⟨m', e1, b1.tr e2⟩
theorem b_P1 (hn : n < 12) (g : ¬ m.1 24 27 = 0) (v : Int32) : ∃ m', kP1 (Int32.ofInt ((12 + n : Nat) : Int)) v m = some m' ∧ BB n m m' := by
  have b1 : BB n m (eU1 m 1 (12 + n) v) := BB.rfl.u (by omega)
  unfold kP1
  rw [ct hn, cl_t hn, b_key (b1.ng g), obind, b_num (b1.ng g), obind]
  obtain ⟨m', e1, e2⟩ := b_P2 (m := eU1 m 1 (12 + n) v) hn (b1.ng g) 0
  exact ⟨m', e1, b1.tr e2⟩
theorem Ln.i3 {j : Nat} {q : Bool} (h : Ln c1 m1 L x0 n q G j c m) : m.1 24 3 + 1 = Int32.ofInt ((n + 1 : Nat) : Int) := by rw [h.2.2.1.2.2.2.2]; exact isucc n
theorem en_of {j : Nat} {k : Int} (h : Ln c1 m1 L x0 n true G j c m) (h0 : G 0 = k) (hk : Hk G) {K : eW → Option (Int32 × eW)} (e : K = SG) : Rst (En c1 m1 L x0 n k j) c1 m1 n (K c) (some (eU1 m 24 3 (m.1 24 3 + 1))) := by
  subst e
  exact .inl ⟨c, _, rfl, rfl, G, m, h0, hk, h, by rw [h.i3]⟩
theorem common_rel (h : Ln c1 m1 L x0 n false (Gd 0) 1 c m) : Rst (En c1 m1 L x0 n 0 2) c1 m1 n (iName (iNum 1 1 9999 SG) c) ((mN m).bind fun w2 => ((f_mm_number (1 : Int32) (9999 : Int32) w2).bind fun p3 => kC0 (Int32.ofInt ((12 + n : Nat) : Int)) p3.1 p3.2)) := by
  have hn := h.2.1.1
  refine name_rel h (KM := fun w2 => ((f_mm_number (1 : Int32) (9999 : Int32) w2).bind fun p3 => kC0 (Int32.ofInt ((12 + n : Nat) : Int)) p3.1 p3.2)) (fun c' m' h' => ?_) (fun m' g => ?_)
  · refine num_rel h' (a := 1) (by omega) (by omega) (lo := 1) (hi := 9999) (by omega) (by omega) (by omega) rfl rfl rfl (KM := kC0 (Int32.ofInt ((12 + n : Nat) : Int))) (fun c' m' v v0 v1 h'' => ?_) (fun m' g => b_C0 hn 0)
    unfold kC0
    rw [ct hn, cl_t hn]
    have l2 := h''.wr (j := 1) (by omega) (v := Int32.ofInt v) rfl
    have e3 : m'.1 24 3 = (eU1 m' 1 (12 + n) (Int32.ofInt v)).1 24 3 := (u1n _ _ _ _ _ _ (by omega)).symm
    rw [e3]
    refine en_of l2 rfl ?_ rfl
    simp [Hk, HOK, upg, Gd]
    omega
  · show ∃ m'', ((f_mm_number (1 : Int32) (9999 : Int32) m').bind fun p3 => kC0 (Int32.ofInt ((12 + n : Nat) : Int)) p3.1 p3.2) = some m'' ∧ BB n m' m''
    rw [b_num g, obind]
    exact b_C0 hn 0
theorem option_rel (h : Ln c1 m1 L x0 n false (Gd 1) 1 c m) : Rst (En c1 m1 L x0 n 1 3) c1 m1 n (iName (iNum 1 1 9999 (iWord 4 (iNum 2 1 999 SG))) c) ((mN m).bind fun w2 => ((f_mm_number (1 : Int32) (9999 : Int32) w2).bind fun p3 => kO1 (Int32.ofInt ((12 + n : Nat) : Int)) p3.1 p3.2)) := by
  have hn := h.2.1.1
  refine name_rel h (KM := fun w2 => ((f_mm_number (1 : Int32) (9999 : Int32) w2).bind fun p3 => kO1 (Int32.ofInt ((12 + n : Nat) : Int)) p3.1 p3.2)) (fun c' m' h' => ?_) (fun m' g => ?_)
  · refine num_rel h' (a := 1) (by omega) (by omega) (lo := 1) (hi := 9999) (by omega) (by omega) (by omega) rfl rfl rfl (KM := kO1 (Int32.ofInt ((12 + n : Nat) : Int))) (fun c' m' v v0 v1 h'' => ?_) (fun m' g => b_O1 hn g 0)
    unfold kO1
    rw [ct hn, cl_t hn]
    have l2 := h''.wr (j := 1) (by omega) (v := Int32.ofInt v) rfl
    refine word_rel l2 (i := 4) (by omega) (by omega) rfl rfl rfl (KM := fun w5 => ((f_mm_number (1 : Int32) (999 : Int32) w5).bind fun p8 => kO2 (Int32.ofInt ((12 + n : Nat) : Int)) p8.1 p8.2)) (fun c' m' h3 => ?_) (fun m' g => ?_)
    · refine num_rel h3 (a := 2) (by omega) (by omega) (lo := 1) (hi := 999) (by omega) (by omega) (by omega) rfl rfl rfl (KM := kO2 (Int32.ofInt ((12 + n : Nat) : Int))) (fun c' m' u u0 u1 h4 => ?_) (fun m' g => b_O2 hn 0)
      unfold kO2
      rw [ct hn, cl_t hn]
      have l3 := h4.wr (j := 2) (by omega) (v := Int32.ofInt u) rfl
      have e3 : m'.1 24 3 = (eU1 m' 2 (12 + n) (Int32.ofInt u)).1 24 3 := (u1n _ _ _ _ _ _ (by omega)).symm
      rw [e3]
      refine en_of l3 rfl ?_ rfl
      simp [Hk, HOK, upg, Gd]
      omega
    · show ∃ m'', ((f_mm_number (1 : Int32) (999 : Int32) m').bind fun p3 => kO2 (Int32.ofInt ((12 + n : Nat) : Int)) p3.1 p3.2) = some m'' ∧ BB n m' m''
      rw [b_num g, obind]
      exact b_O2 hn 0
  · show ∃ m'', ((f_mm_number (1 : Int32) (9999 : Int32) m').bind fun p3 => kO1 (Int32.ofInt ((12 + n : Nat) : Int)) p3.1 p3.2) = some m'' ∧ BB n m' m''
    rw [b_num g, obind]
    exact b_O1 hn g 0
theorem class_rel (h : Ln c1 m1 L x0 n false (Gd 2) 1 c m) : Rst (En c1 m1 L x0 n 2 10) c1 m1 n (iName (iNum 1 1 9999 (iWord 4 (iNum 2 1 99 (iWord 5 (iNum 3 0 5 tTimes))))) c) ((mN m).bind fun w2 => ((f_mm_number (1 : Int32) (9999 : Int32) w2).bind fun p3 => kP1 (Int32.ofInt ((12 + n : Nat) : Int)) p3.1 p3.2)) := by
  have hn := h.2.1.1
  refine name_rel h (KM := fun w2 => ((f_mm_number (1 : Int32) (9999 : Int32) w2).bind fun p3 => kP1 (Int32.ofInt ((12 + n : Nat) : Int)) p3.1 p3.2)) (fun c' m' h' => ?_) (fun m' g => ?_)
  · refine num_rel h' (a := 1) (by omega) (by omega) (lo := 1) (hi := 9999) (by omega) (by omega) (by omega) rfl rfl rfl (KM := kP1 (Int32.ofInt ((12 + n : Nat) : Int))) (fun c' m' v v0 v1 h'' => ?_) (fun m' g => b_P1 hn g 0)
    unfold kP1
    rw [ct hn, cl_t hn]
    have l2 := h''.wr (j := 1) (by omega) (v := Int32.ofInt v) rfl
    refine word_rel l2 (i := 4) (by omega) (by omega) rfl rfl rfl (KM := fun w5 => ((f_mm_number (1 : Int32) (99 : Int32) w5).bind fun p8 => kP2 (Int32.ofInt ((12 + n : Nat) : Int)) p8.1 p8.2)) (fun c' m' h3 => ?_) (fun m' g => ?_)
    · refine num_rel h3 (a := 2) (by omega) (by omega) (lo := 1) (hi := 99) (by omega) (by omega) (by omega) rfl rfl rfl (KM := kP2 (Int32.ofInt ((12 + n : Nat) : Int))) (fun c' m' u u0 u1 h4 => ?_) (fun m' g => b_P2 hn g 0)
      unfold kP2
      rw [ct hn, cl_t hn]
      have l3 := h4.wr (j := 2) (by omega) (v := Int32.ofInt u) rfl
      rcases terms_rel l3 (by simp [Hk, HOK, upg, Gd]; omega) rfl rfl rfl rfl rfl rfl rfl with ⟨c5, m5, e1, e2, G', g0, gk, gl⟩ | ⟨c5, m5, e1, e2, e3⟩
      · rw [e1, e2, obind]
        exact en_of gl g0 gk rfl
      · rw [e1, e2, obind]
        exact .inr ⟨c5, _, rfl, rfl, e3.bb b_inc⟩
    · show ∃ m'', ((f_mm_number (1 : Int32) (99 : Int32) m').bind fun p3 => kP2 (Int32.ofInt ((12 + n : Nat) : Int)) p3.1 p3.2) = some m'' ∧ BB n m' m''
      rw [b_num g, obind]
      exact b_P2 hn g 0
  · show ∃ m'', ((f_mm_number (1 : Int32) (9999 : Int32) m').bind fun p3 => kP1 (Int32.ofInt ((12 + n : Nat) : Int)) p3.1 p3.2) = some m'' ∧ BB n m' m''
    rw [b_num g, obind]
    exact b_P1 hn g 0
/-- the sign, and what is looked at behind it -/
theorem sign_rel {x : Nat} (t : Tok c m L x) (g : m.1 24 27 = 0) (lc : Lc n c1 c) (lm : Lm n m1 m) : (∃ c' m' z, SG c = some (1, c') ∧ mTL m = some m' ∧ Tok c' m' L z ∧ x ≤ z ∧ (¬ c'.1 1 4 = 0 → x < z) ∧ Cs c c' ∧ Mg m m') ∨ ∃ c' m', SG c = some (0, c') ∧ mTL m = some m' ∧ Bfd c1 m1 n c' m' := by
  have t' := t
  obtain ⟨tp, e3, tv, v4, e4, e5, -⟩ := t'
  unfold SG f_re_readSign mTL
  rw [g_good g, obind]
  dsimp only
  rw [if_neg (show ¬ (1 : Int32) = 0 by decide), e4, e5]
  by_cases z : Int32.ofInt (tv : Nat) = (3 : Int32)
  · rw [if_pos z, if_pos z, obind]
    dsimp only
    rw [if_pos (show ¬ (1 : Int32) = 0 by decide)]
    obtain ⟨c', m', y, s1, s2, s3, s4, s5, s6, s7⟩ := scan_ok tp g
    rw [s1, s2, obind, obind]
    exact .inl ⟨c', m', y, rfl, rfl, s3, s4, s5, s6, s7⟩
  · rw [if_neg z, if_neg z]
    obtain ⟨c', m', s1, s2, s3⟩ := refuse_ok t g lc lm 2 (by decide)
    rw [s1, s2]
    simp only [obind, b_go s3.1, if_true, not_true_eq_false, if_false]
    exact .inr ⟨c', m', rfl, rfl, s3⟩
end
