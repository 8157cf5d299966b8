/-! ===== the text: the terms of a class ===== -/
section
variable {c m c1 m1 : eW} {L x0 n : Nat} {G : Nat → Int}
abbrev Hk (G : Nat → Int) : Prop := HOK (fun _ => G) 0
theorem ct {ρ : Type} (hn : n < 12) {x : Option ρ} : eChk (Int32.ofInt ((12 + n : Nat) : Int)) 24 x = x := eChk_of (by omega) (by omega) (by omega)
theorem cl_t (hn : n < 12) : Int32.toNatClampNeg (Int32.ofInt ((12 + n : Nat) : Int)) = 12 + n := by rw [icl (by omega) (by omega), nat_i]
noncomputable def kY9 (a v : Int32) (w : eW) : Option eW := eChk a 24 (some (eU1 w 9 (Int32.toNatClampNeg a) v))
noncomputable def kY8 (a v : Int32) (w : eW) : Option eW := eChk a 24 ((f_mm_number (0 : Int32) (20 : Int32) (eU1 w 8 (Int32.toNatClampNeg a) v)).bind fun p17 => kY9 a p17.1 p17.2)
noncomputable def kYear (a1 v : Int32) (w : eW) : Option eW := (if v = 0 then (eChk a1 24 (if v = 0 then (eChk a1 24 (some (eU1 (eU1 w 8 (Int32.toNatClampNeg a1) (0 : Int32)) 9 (Int32.toNatClampNeg a1) (0 : Int32)))) else ((f_mm_number (0 : Int32) (20 : Int32) (eU1 w 8 (Int32.toNatClampNeg a1) (0 : Int32))).bind fun p15 => (eChk a1 24 (some (eU1 p15.2 9 (Int32.toNatClampNeg a1) p15.1)))))) else ((f_mm_number (0 : Int32) (30 : Int32) w).bind fun p16 => (eChk a1 24 (if v = 0 then (eChk a1 24 (some (eU1 (eU1 p16.2 8 (Int32.toNatClampNeg a1) p16.1) 9 (Int32.toNatClampNeg a1) (0 : Int32)))) else ((f_mm_number (0 : Int32) (20 : Int32) (eU1 p16.2 8 (Int32.toNatClampNeg a1) p16.1)).bind fun p17 => (eChk a1 24 (some (eU1 p17.2 9 (Int32.toNatClampNeg a1) p17.1))))))))
theorem mJ138 (a1 s0 s1 : Int32) (w : eW) : f_mm_readTerms_J138 a1 s0 s1 w = eChk s1 24 ((f_mm_goesOver (26379852 : Int32) (25 : Int32) (eU1 w 7 (Int32.toNatClampNeg s1) s0)).bind fun p14 => kYear a1 p14.1 p14.2) := rfl
theorem kYear_0 (a : Int32) (w : eW) : kYear a 0 w = eChk a 24 (eChk a 24 (some (eU1 (eU1 w 8 (Int32.toNatClampNeg a) (0 : Int32)) 9 (Int32.toNatClampNeg a) (0 : Int32)))) := by
  unfold kYear
  rw [if_pos rfl, if_pos rfl]
theorem kYear_1 (a : Int32) (w : eW) : kYear a 1 w = ((f_mm_number (0 : Int32) (30 : Int32) w).bind fun p16 => kY8 a p16.1 p16.2) := by
  unfold kYear
  rw [if_neg (show ¬ (1 : Int32) = 0 by decide)]
  simp only [show ¬ (1 : Int32) = 0 by decide, if_false]
  rfl
/-- where the terms of a class end -/
def TC (c1 m1 : eW) (L x0 n : Nat) (c m : eW) : Prop := ∃ G, G 0 = 2 ∧ Hk G ∧ Ln c1 m1 L x0 n true G 10 c m
theorem b_Y9 (hn : n < 12) (v : Int32) : ∃ m', kY9 (Int32.ofInt ((12 + n : Nat) : Int)) v m = some m' ∧ BB n m m' := by
  unfold kY9
  rw [ct hn, cl_t hn]
  exact ⟨_, rfl, BB.rfl.u (by omega)⟩
theorem b_Y8 (hn : n < 12) (g : ¬ m.1 24 27 = 0) (v : Int32) : ∃ m', kY8 (Int32.ofInt ((12 + n : Nat) : Int)) v m = some m' ∧ BB n m m' := by
  have b1 : BB n m (eU1 m 8 (12 + n) v) := BB.rfl.u (by omega)
  unfold kY8
  rw [ct hn, cl_t hn, b_num (b1.ng g), obind]
  obtain ⟨m', e1, e2⟩ := b_Y9 (m := eU1 m 8 (12 + n) v) hn 0
  exact ⟨m', e1, b1.tr e2⟩
theorem year_rel (h : Ln c1 m1 L x0 n true G 7 c m) {s0 : Int32} (hs : s0 = Int32.ofInt (G 7)) (hk : Hk G) (h0 : G 0 = 2) (h8 : G 8 = 0) (h9 : G 9 = 0) : Rst (TC c1 m1 L x0 n) c1 m1 n (tYear c) (f_mm_readTerms_J138 (Int32.ofInt ((12 + n : Nat) : Int)) s0 (Int32.ofInt ((12 + n : Nat) : Int)) m) := by
  have hn := h.2.1.1
  rw [mJ138, ct hn, cl_t hn]
  have l8 := h.wr (by omega) hs
  unfold tYear
  refine opt_rel l8 (i := 10) (by omega) (.inl ⟨by omega, rfl⟩) rfl rfl rfl (KM := kYear (Int32.ofInt ((12 + n : Nat) : Int))) (fun c' m' h' => ?_) ?_
  · rw [kYear_1]
    refine num_rel h' (a := 8) (by omega) (by omega) (lo := 0) (hi := 30) (by omega) (by omega) (by omega) rfl rfl rfl (KM := kY8 (Int32.ofInt ((12 + n : Nat) : Int))) (fun c' m' v v0 v1 h'' => ?_) (fun m' g => b_Y8 hn g 0)
    unfold kY8
    rw [ct hn, cl_t hn]
    have l9 := h''.wr (j := 8) (by omega) (v := Int32.ofInt v) rfl
    refine num_rel l9 (a := 9) (by omega) (by omega) (lo := 0) (hi := 20) (by omega) (by omega) (by omega) rfl rfl rfl (KM := kY9 (Int32.ofInt ((12 + n : Nat) : Int))) (fun c' m' u u0 u1 h3 => ?_) (fun m' g => b_Y9 hn 0)
    unfold kY9
    rw [ct hn, cl_t hn]
    have l10 := h3.wr (j := 9) (by omega) (v := Int32.ofInt u) rfl
    refine .inl ⟨c', _, rfl, rfl, _, ?_, ?_, l10⟩
    · exact h0
    · simp [Hk, HOK, upg] at hk ⊢
      omega
  · rw [kYear_0, ct hn, ct hn, cl_t hn]
    have l9 := l8.wr (by omega) (v := 0) (by rw [h8]; rfl)
    have l10 := l9.wr (by omega) (v := 0) (by rw [h9]; rfl)
    exact .inl ⟨c, _, rfl, rfl, G, h0, hk, l10⟩
noncomputable def kCap (a v : Int32) (w : eW) : Option eW := (if v = 0 then (f_mm_readTerms_J138 a (-1 : Int32) a w) else ((f_mm_number (0 : Int32) (2000 : Int32) w).bind fun p11 => (f_mm_readTerms_J138 a p11.1 a p11.2)))
theorem mR6_1 (a : Int32) (w : eW) : mR6 a 1 w = eChk a 24 (eChk a 24 ((f_mm_goesOver (3120 : Int32) (0 : Int32) (eU1 w 6 (Int32.toNatClampNeg a) 1)).bind fun p10 => kCap a p10.1 p10.2)) := by
  unfold mR6
  rw [u1s, if_neg (show ¬ ¬ (1 : Int32) = 1 from fun z => z rfl)]
  rfl
theorem mR6_0 (a : Int32) (w : eW) : mR6 a 0 w = eChk a 24 (eChk a 24 (f_mm_readTerms_J138 a (-1 : Int32) a (eU1 w 6 (Int32.toNatClampNeg a) 0))) := by
  unfold mR6
  rw [u1s, if_pos (show ¬ (0 : Int32) = 1 by decide)]
theorem cap_rel (h : Ln c1 m1 L x0 n true G 6 c m) (hk : Hk G) (h0 : G 0 = 2) (h6 : G 6 = 1) (h7 : G 7 = -1) (h8 : G 8 = 0) (h9 : G 9 = 0) : Rst (TC c1 m1 L x0 n) c1 m1 n (tCap c) (mR6 (Int32.ofInt ((12 + n : Nat) : Int)) 1 m) := by
  have hn := h.2.1.1
  rw [mR6_1, ct hn, ct hn, cl_t hn]
  have l7 := h.wr (by omega) (v := 1) (by rw [h6]; rfl)
  unfold tCap
  refine opt_rel l7 (i := 9) (by omega) (.inl ⟨by omega, rfl⟩) rfl rfl rfl (KM := kCap (Int32.ofInt ((12 + n : Nat) : Int))) (fun c' m' h' => ?_) ?_
  · unfold kCap
    rw [if_neg (show ¬ (1 : Int32) = 0 by decide)]
    refine num_rel h' (a := 7) (by omega) (by omega) (lo := 0) (hi := 2000) (by omega) (by omega) (by omega) rfl rfl rfl (KM := fun v w => f_mm_readTerms_J138 (Int32.ofInt ((12 + n : Nat) : Int)) v (Int32.ofInt ((12 + n : Nat) : Int)) w) (fun c' m' v v0 v1 h'' => ?_) (fun m' g => b_138 hn g 0)
    refine year_rel h'' (s0 := Int32.ofInt v) rfl ?_ h0 h8 h9
    simp [Hk, HOK, upg] at hk ⊢
    omega
  · unfold kCap
    rw [if_pos rfl]
    exact year_rel l7 (s0 := -1) (by rw [h7]; rfl) hk h0 h8 h9
noncomputable def kSh (a v : Int32) (w : eW) : Option eW := (if v = 0 then mR6 a 0 w else mR6 a 1 w)
theorem share_rel (h : Ln c1 m1 L x0 n true G 5 c m) {s0 : Int32} (hs : s0 = Int32.ofInt (G 5)) (hk : Hk G) (h0 : G 0 = 2) (h6 : G 6 = 0) (h7 : G 7 = -1) (h8 : G 8 = 0) (h9 : G 9 = 0) : Rst (TC c1 m1 L x0 n) c1 m1 n (tShare c) (f_mm_readTerms_J76 (Int32.ofInt ((12 + n : Nat) : Int)) s0 (Int32.ofInt ((12 + n : Nat) : Int)) m) := by
  have hn := h.2.1.1
  rw [mJ76, ct hn, cl_t hn]
  have l6 := h.wr (by omega) hs
  unfold tShare
  refine opt_rel l6 (i := 8) (by omega) (.inr ⟨rfl, by omega, rfl⟩) rfl rfl rfl (KM := kSh (Int32.ofInt ((12 + n : Nat) : Int))) (fun c' m' h' => ?_) ?_
  · unfold kSh
    rw [if_neg (show ¬ (1 : Int32) = 0 by decide)]
    refine cap_rel h' ?_ h0 rfl h7 h8 h9
    simp [Hk, HOK, upg] at hk ⊢
    omega
  · unfold kSh
    rw [if_pos rfl, mR6_0, ct hn, ct hn, cl_t hn]
    exact year_rel (l6.wr (by omega) (v := 0) (by rw [h6]; rfl)) (s0 := -1) (by rw [h7]; rfl) hk h0 h8 h9
noncomputable def kRa (a v : Int32) (w : eW) : Option eW := (if v = 0 then (f_mm_readTerms_J76 a (100 : Int32) a w) else ((f_mm_number (1 : Int32) (400 : Int32) w).bind fun p5 => (f_mm_readTerms_J76 a p5.1 a p5.2)))
theorem mR4_e (a v : Int32) (w : eW) : mR4 a v w = eChk a 24 ((f_mm_goesOver (18927919 : Int32) (0 : Int32) (eU1 w 4 (Int32.toNatClampNeg a) v)).bind fun p4 => kRa a p4.1 p4.2) := rfl
theorem ratio_rel (h : Ln c1 m1 L x0 n true G 4 c m) {s0 : Int32} (hs : s0 = Int32.ofInt (G 4)) (hk : Hk G) (h0 : G 0 = 2) (h5 : G 5 = 100) (h6 : G 6 = 0) (h7 : G 7 = -1) (h8 : G 8 = 0) (h9 : G 9 = 0) : Rst (TC c1 m1 L x0 n) c1 m1 n (tRatio c) (mR4 (Int32.ofInt ((12 + n : Nat) : Int)) s0 m) := by
  have hn := h.2.1.1
  rw [mR4_e, ct hn, cl_t hn]
  have l5 := h.wr (by omega) hs
  unfold tRatio
  refine opt_rel l5 (i := 7) (by omega) (.inl ⟨by omega, rfl⟩) rfl rfl rfl (KM := kRa (Int32.ofInt ((12 + n : Nat) : Int))) (fun c' m' h' => ?_) ?_
  · unfold kRa
    rw [if_neg (show ¬ (1 : Int32) = 0 by decide)]
    refine num_rel h' (a := 5) (by omega) (by omega) (lo := 1) (hi := 400) (by omega) (by omega) (by omega) rfl rfl rfl (KM := fun v w => f_mm_readTerms_J76 (Int32.ofInt ((12 + n : Nat) : Int)) v (Int32.ofInt ((12 + n : Nat) : Int)) w) (fun c' m' v v0 v1 h'' => ?_) (fun m' g => b_76 hn g 0)
    refine share_rel h'' (s0 := Int32.ofInt v) rfl ?_ h0 h6 h7 h8 h9
    simp [Hk, HOK, upg] at hk ⊢
    omega
  · unfold kRa
    rw [if_pos rfl]
    exact share_rel l5 (s0 := 100) (by rw [h5]; rfl) hk h0 h6 h7 h8 h9
noncomputable def kTi (a v : Int32) (w : eW) : Option eW := (if v = 0 then mR4 a 100 w else ((f_mm_number (0 : Int32) (400 : Int32) w).bind fun p6 => mR4 a p6.1 p6.2))
noncomputable def kRk (a v : Int32) (w : eW) : Option eW := eChk a 24 ((f_mm_goesOver (21279923 : Int32) (0 : Int32) (eU1 w 3 (Int32.toNatClampNeg a) v)).bind fun p3 => kTi a p3.1 p3.2)
theorem mTerms' (a : Int32) (w : eW) : f_mm_readTerms a w = ((f_mm_keyword (591307 : Int32) (0 : Int32) w).bind fun w1 => ((f_mm_number (0 : Int32) (5 : Int32) w1).bind fun p2 => kRk a p2.1 p2.2)) := rfl
theorem b_Rk (hn : n < 12) (g : ¬ m.1 24 27 = 0) (v : Int32) : ∃ m', kRk (Int32.ofInt ((12 + n : Nat) : Int)) v m = some m' ∧ BB n m m' := b_3 hn g v
theorem times_rel (h : Ln c1 m1 L x0 n true G 3 c m) {s0 : Int32} (hs : s0 = Int32.ofInt (G 3)) (hk : Hk G) (h0 : G 0 = 2) (h4 : G 4 = 100) (h5 : G 5 = 100) (h6 : G 6 = 0) (h7 : G 7 = -1) (h8 : G 8 = 0) (h9 : G 9 = 0) : Rst (TC c1 m1 L x0 n) c1 m1 n (tTimes c) (kRk (Int32.ofInt ((12 + n : Nat) : Int)) s0 m) := by
  have hn := h.2.1.1
  unfold kRk
  rw [ct hn, cl_t hn]
  have l4 := h.wr (by omega) hs
  unfold tTimes
  refine opt_rel l4 (i := 6) (by omega) (.inl ⟨by omega, rfl⟩) rfl rfl rfl (KM := kTi (Int32.ofInt ((12 + n : Nat) : Int))) (fun c' m' h' => ?_) ?_
  · unfold kTi
    rw [if_neg (show ¬ (1 : Int32) = 0 by decide)]
    refine num_rel h' (a := 4) (by omega) (by omega) (lo := 0) (hi := 400) (by omega) (by omega) (by omega) rfl rfl rfl (KM := fun v w => mR4 (Int32.ofInt ((12 + n : Nat) : Int)) v w) (fun c' m' v v0 v1 h'' => ?_) (fun m' g => b_R4 hn g 0)
    refine ratio_rel h'' (s0 := Int32.ofInt v) rfl ?_ h0 h5 h6 h7 h8 h9
    simp [Hk, HOK, upg] at hk ⊢
    omega
  · unfold kTi
    rw [if_pos rfl]
    exact ratio_rel l4 (s0 := 100) (by rw [h4]; rfl) hk h0 h5 h6 h7 h8 h9
theorem terms_rel (h : Ln c1 m1 L x0 n true G 3 c m) (hk : Hk G) (h0 : G 0 = 2) (h4 : G 4 = 100) (h5 : G 5 = 100) (h6 : G 6 = 0) (h7 : G 7 = -1) (h8 : G 8 = 0) (h9 : G 9 = 0) : Rst (TC c1 m1 L x0 n) c1 m1 n (iWord 5 (iNum 3 0 5 tTimes) c) (f_mm_readTerms (Int32.ofInt ((12 + n : Nat) : Int)) m) := by
  have hn := h.2.1.1
  rw [mTerms']
  refine word_rel h (i := 5) (by omega) (by omega) rfl rfl rfl (KM := fun w1 => ((f_mm_number (0 : Int32) (5 : Int32) w1).bind fun p2 => kRk (Int32.ofInt ((12 + n : Nat) : Int)) p2.1 p2.2)) (fun c' m' h' => ?_) (fun m' g => ?_)
  · refine num_rel h' (a := 3) (by omega) (by omega) (lo := 0) (hi := 5) (by omega) (by omega) (by omega) rfl rfl rfl (KM := fun v w => kRk (Int32.ofInt ((12 + n : Nat) : Int)) v w) (fun c' m' v v0 v1 h'' => ?_) (fun m' g => b_Rk hn g 0)
    refine times_rel h'' (s0 := Int32.ofInt v) rfl ?_ h0 h4 h5 h6 h7 h8 h9
    simp [Hk, HOK, upg] at hk ⊢
    omega
  · show ∃ m'', ((f_mm_number (0 : Int32) (5 : Int32) m').bind fun p2 => kRk (Int32.ofInt ((12 + n : Nat) : Int)) p2.1 p2.2) = some m'' ∧ BB n m' m''
    rw [b_num g, obind]
    exact b_Rk hn g 0
end
