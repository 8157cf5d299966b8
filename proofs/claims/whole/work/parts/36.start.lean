def w0 : eW := (fun a b => if a = 6 then (if b = 6 then -1 else 0) else if a = 63 then (if b = 26 then -1 else 0) else 0, fun a b => if a = 4 then (kst 65).2 b else if a = 24 then (if b = 5 then 1 else if b = 7 then 1 else if b = 9 then 1 else 0) else if a = 27 then (if b = 5 then 1 else 0) else if a = 63 then (if b = 38 then 1 else if b = 40 then 1 else 0) else 0)
theorem eInj_of {A : Nat → Prop} {ad : Nat → Nat} {cA : Nat → ClassId} {w : eW} {SH : List eSh} (h : va_D A (eWs ad cA w 0 SH)) : eInj ad SH.length := fun i j hi hj hij => h.1 i j _ _ (eWs_at (List.getElem?_eq_getElem hi)) (eWs_at (List.getElem?_eq_getElem hj)) hij
theorem eIn_A {A : Nat → Prop} {ad : Nat → Nat} {cA : Nat → ClassId} {w : eW} {SH : List eSh} (h : va_D A (eWs ad cA w 0 SH)) : ∀ i, i < SH.length → A (ad i) := fun i hi => h.2 i _ (eWs_at (List.getElem?_eq_getElem hi))
theorem nw_in {args : Array Value} {s : State} (h : (Jvm.Cond.and given_1 narrow_1).before args s = true) : ∀ c ∈ flatC narrow_1, c.before args s = true := fun c hc => flat_of_before _ h c (List.mem_append_right _ hc)
theorem nz_COMMON_LINE : ∀ j, j < 12 → Cond.eq (.elem (.static "ExitFalls$Reader" "COMMON_LINE" "[I") (.int (Int32.ofNat j))) (.int (zCOMMON_LINE.getD j 0)) ∈ flatC narrow_1 := by decide +kernel
theorem nz_OPTION_LINE : ∀ j, j < 20 → Cond.eq (.elem (.static "ExitFalls$Reader" "OPTION_LINE" "[I") (.int (Int32.ofNat j))) (.int (zOPTION_LINE.getD j 0)) ∈ flatC narrow_1 := by decide +kernel
theorem nz_CLASS_LINE : ∀ j, j < 68 → Cond.eq (.elem (.static "ExitFalls$Reader" "CLASS_LINE" "[I") (.int (Int32.ofNat j))) (.int (zCLASS_LINE.getD j 0)) ∈ flatC narrow_1 := by decide +kernel
theorem nz_CARVE_LINE : ∀ j, j < 8 → Cond.eq (.elem (.static "ExitFalls$Reader" "CARVE_LINE" "[I") (.int (Int32.ofNat j))) (.int (zCARVE_LINE.getD j 0)) ∈ flatC narrow_1 := by decide +kernel
theorem nz_str : ∀ j, j < 65 → Cond.eq (.elem (.field (Term.string "ExitFalls$Reader" 33) "java/lang/String" "value" "[B") (.int (Int32.ofNat j))) (.int (kByt.getD j 0)) ∈ flatC narrow_1 := by decide +kernel
section
variable {args : Array Value} {s : State}
theorem sa_COMMON_LINE (h : (Jvm.Cond.and given_1 narrow_1).before args s = true) (hts : ∀ w ∈ lw_tbl, w.before args s = true) {A : Nat → Prop} (hA : ∀ a : Nat, a < s.heap.size → ¬ A a) : ∃ t : Nat, va_Z "ExitFalls$Reader" "COMMON_LINE" "[I" (.ref t) A s s.heap ∧ va_T .int t zCOMMON_LINE.length (fun j => .int (zCOMMON_LINE.getD j 0)) A s s.heap := by
  have hn := nw_in h
  obtain ⟨t, h1, h2⟩ := va_Tof (tm := .static "ExitFalls$Reader" "COMMON_LINE" "[I") (ty := .int) (N := 12) (f := fun j => .int (zCOMMON_LINE.getD j 0)) (by decide) (hn _ (by decide +kernel)) (va_eqt (hn (.eq (.length (.static "ExitFalls$Reader" "COMMON_LINE" "[I")) (.int 12)) (by decide +kernel))) (fun j hj => va_eqt (hn _ (nz_COMMON_LINE j hj))) hA
  exact ⟨t, va_Zref (hts _ (List.mem_append_right _ (List.mem_append_right _ (List.mem_append_right _ (List.mem_append_left _ (List.mem_of_getElem? (i := 39) rfl)))))) (hts _ (eTb_in (tb1 3 rfl rfl))) h1 hA, h2⟩
theorem sa_OPTION_LINE (h : (Jvm.Cond.and given_1 narrow_1).before args s = true) (hts : ∀ w ∈ lw_tbl, w.before args s = true) {A : Nat → Prop} (hA : ∀ a : Nat, a < s.heap.size → ¬ A a) : ∃ t : Nat, va_Z "ExitFalls$Reader" "OPTION_LINE" "[I" (.ref t) A s s.heap ∧ va_T .int t zOPTION_LINE.length (fun j => .int (zOPTION_LINE.getD j 0)) A s s.heap := by
  have hn := nw_in h
  obtain ⟨t, h1, h2⟩ := va_Tof (tm := .static "ExitFalls$Reader" "OPTION_LINE" "[I") (ty := .int) (N := 20) (f := fun j => .int (zOPTION_LINE.getD j 0)) (by decide) (hn _ (by decide +kernel)) (va_eqt (hn (.eq (.length (.static "ExitFalls$Reader" "OPTION_LINE" "[I")) (.int 20)) (by decide +kernel))) (fun j hj => va_eqt (hn _ (nz_OPTION_LINE j hj))) hA
  exact ⟨t, va_Zref (hts _ (List.mem_append_right _ (List.mem_append_right _ (List.mem_append_right _ (List.mem_append_left _ (List.mem_of_getElem? (i := 41) rfl)))))) (hts _ (eTb_in (tb1 3 rfl rfl))) h1 hA, h2⟩
theorem sa_CLASS_LINE (h : (Jvm.Cond.and given_1 narrow_1).before args s = true) (hts : ∀ w ∈ lw_tbl, w.before args s = true) {A : Nat → Prop} (hA : ∀ a : Nat, a < s.heap.size → ¬ A a) : ∃ t : Nat, va_Z "ExitFalls$Reader" "CLASS_LINE" "[I" (.ref t) A s s.heap ∧ va_T .int t zCLASS_LINE.length (fun j => .int (zCLASS_LINE.getD j 0)) A s s.heap := by
  have hn := nw_in h
  obtain ⟨t, h1, h2⟩ := va_Tof (tm := .static "ExitFalls$Reader" "CLASS_LINE" "[I") (ty := .int) (N := 68) (f := fun j => .int (zCLASS_LINE.getD j 0)) (by decide) (hn _ (by decide +kernel)) (va_eqt (hn (.eq (.length (.static "ExitFalls$Reader" "CLASS_LINE" "[I")) (.int 68)) (by decide +kernel))) (fun j hj => va_eqt (hn _ (nz_CLASS_LINE j hj))) hA
  exact ⟨t, va_Zref (hts _ (List.mem_append_right _ (List.mem_append_right _ (List.mem_append_right _ (List.mem_append_left _ (List.mem_of_getElem? (i := 43) rfl)))))) (hts _ (eTb_in (tb1 3 rfl rfl))) h1 hA, h2⟩
theorem sa_CARVE_LINE (h : (Jvm.Cond.and given_1 narrow_1).before args s = true) (hts : ∀ w ∈ lw_tbl, w.before args s = true) {A : Nat → Prop} (hA : ∀ a : Nat, a < s.heap.size → ¬ A a) : ∃ t : Nat, va_Z "ExitFalls$Reader" "CARVE_LINE" "[I" (.ref t) A s s.heap ∧ va_T .int t zCARVE_LINE.length (fun j => .int (zCARVE_LINE.getD j 0)) A s s.heap := by
  have hn := nw_in h
  obtain ⟨t, h1, h2⟩ := va_Tof (tm := .static "ExitFalls$Reader" "CARVE_LINE" "[I") (ty := .int) (N := 8) (f := fun j => .int (zCARVE_LINE.getD j 0)) (by decide) (hn _ (by decide +kernel)) (va_eqt (hn (.eq (.length (.static "ExitFalls$Reader" "CARVE_LINE" "[I")) (.int 8)) (by decide +kernel))) (fun j hj => va_eqt (hn _ (nz_CARVE_LINE j hj))) hA
  exact ⟨t, va_Zref (hts _ (List.mem_append_right _ (List.mem_append_right _ (List.mem_append_right _ (List.mem_append_left _ (List.mem_of_getElem? (i := 45) rfl)))))) (hts _ (eTb_in (tb1 3 rfl rfl))) h1 hA, h2⟩
theorem sk_KS (h : (Jvm.Cond.and given_1 narrow_1).before args s = true) (hts : ∀ w ∈ lw_tbl, w.before args s = true) {A : Nat → Prop} (hA : ∀ a : Nat, a < s.heap.size → ¬ A a) : ∃ aK aV : Nat, eKS aK aV A s := by
  have hn := nw_in h
  obtain ⟨adK, adV, h1, h2⟩ := vk_Sof (N := 1) (tm := fun _ => (Term.string "ExitFalls$Reader" 33)) (len := [65]) (byt := [kByt]) (A := A) (args := args) (s := s) (fun i hi => by obtain rfl : i = 0 := (by omega); decide) (fun i hi => hn _ (by decide +kernel)) (fun i hi => hn _ (by decide +kernel)) (fun i hi => hn _ (by decide +kernel)) (fun i hi => by obtain rfl : i = 0 := (by omega); exact hn (.eq (.length (.field (Term.string "ExitFalls$Reader" 33) "java/lang/String" "value" "[B")) (.int 65)) (by decide +kernel)) (fun i hi j hj => by obtain rfl : i = 0 := (by omega); exact hn _ (nz_str j hj)) (fun i j hi hj hij => absurd (show i = j by omega) hij) hA
  have h3 := h2 0 (by omega)
  obtain ⟨g1, g2, g3, g4⟩ := h1.1 0 (by omega)
  refine ⟨adK 0, adV 0, vk_R.of (hts (.stringRef "ExitFalls$Reader" 33 kText) (List.mem_append_right _ (List.mem_append_left _ (List.mem_of_getElem? (i := 97) rfl)))) h3, g1, g2, g3, g4, ?_, ?_⟩
  · exact va_Zof (hts _ (List.mem_append_right _ (List.mem_append_left _ (List.mem_of_getElem? (i := 107) rfl)))) (hts _ (eTb_in (tb1 5 rfl rfl))) (va_eqt (hn _ (by decide +kernel))) hA
  · exact va_Zqof (hts _ (List.mem_append_right _ (List.mem_append_left _ (List.mem_of_getElem? (i := 123) rfl)))) (hts _ (eTb_in (tb1 7 rfl rfl))) (hn _ (by decide +kernel)) hA
set_option maxRecDepth 100000 in
set_option maxHeartbeats 4000000 in
theorem sk_Ns (hts : ∀ w ∈ lw_tbl, w.before args s = true) : eNs s := by
  intro q hq
  simp only [eNst, List.mem_cons, List.not_mem_nil, or_false] at hq
  rcases hq with rfl | rfl | rfl | rfl | rfl | rfl | rfl | rfl | rfl | rfl
  · exact va_tabs rfl rfl (hts _ (List.mem_append_right _ (List.mem_append_left _ (List.mem_of_getElem? (i := 31) rfl))))
  · exact va_tabs rfl rfl (hts _ (List.mem_append_right _ (List.mem_append_left _ (List.mem_of_getElem? (i := 176) rfl))))
  · exact va_tabs rfl rfl (hts _ (List.mem_append_right _ (List.mem_append_left _ (List.mem_of_getElem? (i := 179) rfl))))
  · exact va_tabs rfl rfl (hts _ (List.mem_append_right _ (List.mem_append_right _ (List.mem_append_left _ (List.mem_of_getElem? (i := 42) rfl)))))
  · exact va_tabs rfl rfl (hts _ (List.mem_append_right _ (List.mem_append_right _ (List.mem_append_left _ (List.mem_of_getElem? (i := 72) rfl)))))
  · exact va_tabs rfl rfl (hts _ (List.mem_append_right _ (List.mem_append_right _ (List.mem_append_left _ (List.mem_of_getElem? (i := 91) rfl)))))
  · exact va_tabs rfl rfl (hts _ (List.mem_append_right _ (List.mem_append_right _ (List.mem_append_left _ (List.mem_of_getElem? (i := 123) rfl)))))
  · exact va_tabs rfl rfl (hts _ (List.mem_append_right _ (List.mem_append_right _ (List.mem_append_left _ (List.mem_of_getElem? (i := 142) rfl)))))
  · exact va_tabs rfl rfl (hts _ (List.mem_append_right _ (List.mem_append_left _ (List.mem_of_getElem? (i := 185) rfl))))
  · exact va_tabs rfl rfl (hts _ (List.mem_append_right _ (List.mem_append_left _ (List.mem_of_getElem? (i := 71) rfl))))
set_option maxRecDepth 100000 in
set_option maxHeartbeats 4000000 in
theorem sk_K (hts : ∀ w ∈ lw_tbl, w.before args s = true) : ∃ (D : va_G) (cA : Nat → ClassId), va_K D vwCl (eTys cA) s := by
  have hte : ∀ w ∈ eTb, w.before args s = true := fun w h => hts w (eTb_in h)
  obtain ⟨c0, iS0, hk0⟩ := u_known (C := RX0) (T := TX0) (N := 3) (n := 3) hte wfX0 (hte (.instantiable RX0 3) (tb2 141 rfl rfl))
  obtain ⟨c1, iS1, hk1⟩ := u_known (C := RX1) (T := TX1) (N := 6) (n := 6) hte wfX1 (hte (.instantiable RX1 6) (tb2 41 rfl rfl))
  obtain ⟨c2, iS2, hk2⟩ := u_known (C := RX2) (T := TX2) (N := 14) (n := 14) hte wfX2 (hte (.instantiable RX2 14) (tb1 184 rfl rfl))
  obtain ⟨c3, iS3, hk3⟩ := u_known (C := RX3) (T := TX3) (N := 10) (n := 10) hte wfX3 (hte (.instantiable RX3 10) (tb1 178 rfl rfl))
  obtain ⟨c4, iS4, hk4⟩ := u_known (C := RX4) (T := TX4) (N := 4) (n := 4) hte wfX4 (hte (.instantiable RX4 4) (tb1 70 rfl rfl))
  obtain ⟨c5, iS5, hk5⟩ := u_known (C := RX5) (T := TX5) (N := 4) (n := 4) hte wfX5 (hte (.instantiable RX5 4) (tb2 71 rfl rfl))
  obtain ⟨c6, iS6, hk6⟩ := u_known (C := RX6) (T := TX6) (N := 3) (n := 3) hte wfX6 (hte (.instantiable RX6 3) (tb2 122 rfl rfl))
  obtain ⟨c7, iS7, hk7⟩ := u_known (C := RX8) (T := TX8) (N := 7) (n := 7) hte wfX8 (hte (.instantiable RX8 7) (tb1 64 rfl rfl))
  obtain ⟨c8, iS8, hk8⟩ := u_known (C := RX9) (T := TX9) (N := 5) (n := 5) hte wfX9 (hte (.instantiable RX9 5) (tb2 90 rfl rfl))
  obtain ⟨c9, iS9, hk9⟩ := u_known (C := RX10) (T := TX10) (N := 7) (n := 7) hte wfX10 (hte (.instantiable RX10 7) (tb1 30 rfl rfl))
  obtain ⟨c10, iS10, hk10⟩ := u_known (C := RX11) (T := TX11) (N := 9) (n := 9) hte wfX11 (hte (.instantiable RX11 9) (tb1 22 rfl rfl))
  obtain ⟨c11, iS11, hk11⟩ := u_known (C := RX12) (T := TX12) (N := 60) (n := 60) hte wfX12 (hte (.instantiable RX12 60) (tb5 69 rfl rfl))
  obtain ⟨a0, kA0, cm0, f0, g0, h0⟩ := Cond.arrayClass_spec (hte (.arrayClass .int) (tb1 96 rfl rfl))
  obtain ⟨a1, kA1, cm1, f1, g1, h1⟩ := Cond.arrayClass_spec (hte (.arrayClass .long) (tb1 95 rfl rfl))
  obtain ⟨a2, kA2, cm2, f2, g2, h2⟩ := Cond.arrayClass_spec (hte (.arrayClass .byte) (tb1 62 rfl rfl))
  obtain ⟨a3, kA3, cm3, f3, g3, h3⟩ := Cond.arrayClass_spec (hte (.arrayClass .boolean) (tb6 15 rfl rfl))
  refine ⟨(fun k => match k with | 0 => c0 | 1 => c1 | 2 => c2 | 3 => c3 | 4 => c4 | 5 => c5 | 6 => c6 | 7 => c7 | 8 => c8 | 9 => c9 | 10 => c10 | _ => c11, fun k => match k with | 0 => iS0 | 1 => iS1 | 2 => iS2 | 3 => iS3 | 4 => iS4 | 5 => iS5 | 6 => iS6 | 7 => iS7 | 8 => iS8 | 9 => iS9 | 10 => iS10 | _ => iS11), fun k => match k with | 0 => a0 | 1 => a1 | 2 => a2 | _ => a3, fun k q hq => ?_, fun k q hq => ?_⟩
  · match k, hq with
    | 0, hq => cases hq; exact hk0
    | 1, hq => cases hq; exact hk1
    | 2, hq => cases hq; exact hk2
    | 3, hq => cases hq; exact hk3
    | 4, hq => cases hq; exact hk4
    | 5, hq => cases hq; exact hk5
    | 6, hq => cases hq; exact hk6
    | 7, hq => cases hq; exact hk7
    | 8, hq => cases hq; exact hk8
    | 9, hq => cases hq; exact hk9
    | 10, hq => cases hq; exact hk10
    | 11, hq => cases hq; exact hk11
    | k + 12, hq => simp [vwCl] at hq
  · match k, hq with
    | 0, hq => cases hq; exact ⟨fun n z => ⟨fun k h => (by cases h), kA0, g0, cm0, h0⟩, f0⟩
    | 1, hq => cases hq; exact ⟨fun n z => ⟨fun k h => (by cases h), kA1, g1, cm1, h1⟩, f1⟩
    | 2, hq => cases hq; exact ⟨fun n z => ⟨fun k h => (by cases h), kA2, g2, cm2, h2⟩, f2⟩
    | 3, hq => cases hq; exact ⟨fun n z => ⟨fun k h => (by cases h), kA3, g3, cm3, h3⟩, f3⟩
    | k + 4, hq => simp [eTys] at hq
end
