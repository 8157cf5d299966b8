theorem dkX0_0 : decode cX0_init 0 = .ok (.aload_n 0, 1) := by decide +kernel
theorem dkX0_1 : decode cX0_init 1 = .ok (.invokespecial 3, 3) := by decide +kernel
theorem dkX0_4 : decode cX0_init 4 = .ok (.aload_n 0, 1) := by decide +kernel
theorem dkX0_5 : decode cX0_init 5 = .ok (.bipush 96, 2) := by decide +kernel
theorem dkX0_7 : decode cX0_init 7 = .ok (.newarray .int, 2) := by decide +kernel
theorem dkX0_9 : decode cX0_init 9 = .ok (.putfield 11, 3) := by decide +kernel
theorem dkX0_12 : decode cX0_init 12 = .ok (.return_, 1) := by decide +kernel
def fin_X0 (cA : Nat → ClassId) (f : Nat → Nat) (h0 : Nat) : va_W := [(h0, .inr (0, [.ref (f 0), .int 0, .int 0])), ((f 0), .inl (cA 0, 96, .inl (fun _ => 0)))]
set_option maxRecDepth 100000 in
set_option maxHeartbeats 4000000 in
theorem wkX0_init : Cond.code yX0_init cX0_init 1 none ∈ eTb := tb2 144 rfl rfl
theorem hdX0_init : yX0_init.cls ≠ "java/lang/invoke/MethodHandle" ∧ yX0_init.cls ≠ "java/lang/invoke/VarHandle" ∧ (parseMethodDescriptor yX0_init.desc).map (fun d => d.parameters.length) = some 0 := by decide +kernel
set_option maxRecDepth 100000 in
set_option maxHeartbeats 4000000 in
theorem ct_X0 (l : Launch) (D : va_G) (cA : Nat → ClassId) (aK aV : Nat) (h0 sz : Nat) : Met l yX0_init (eWd yX0_init cX0_init 1 none) { frames := 1, cells := 1, slots := 96, locals := 12 } (va_Pc [.ref h0] (fun U => U.heap.size = sz ∧ va_P D vwCl [(h0, .inr (0, [.null, .int 0, .int 0]))] U.heap ∧ va_K D vwCl (eTys cA) U ∧ va_D (fun _ => True) [(h0, .inr (0, [.null, .int 0, .int 0]))] ∧ eEx aK aV (va_A [(h0, .inr (0, [.null, .int 0, .int 0]))] sz) U)) (va_Qv (fun _ : Nat → Nat => True) (fun f t => va_P D vwCl (fin_X0 cA f h0) t.heap ∧ va_D (va_A [(h0, .inr (0, [.null, .int 0, .int 0]))] sz) (fin_X0 cA f h0)) (va_A [(h0, .inr (0, [.null, .int 0, .int 0]))] sz)) 1 96 (va_A [(h0, .inr (0, [.null, .int 0, .int 0]))] sz) := by
  refine Met.ofW (cc := cX0_init) (maxL := 1) (ret := none) (by decide +kernel) rfl ?_
  intro p e s m args below meth c s₁ B hml hv
  obtain ⟨rfl, hsz, hP, hK, hD0, hEx⟩ := hv
  have hx := B.exec
  have hb := B.bytes
  have hr := B.returns
  have hts := atoms_spec (ws := eWd yX0_init cX0_init 1 none) B.pre
  have hown : s.vm.findClass RX0 = some m.cls := findClass_of_methodNamed B.named
  have hlocks := B.notSynchronized
  have hin : meth.name = "<init>" := (name_of_methodNamed B.named B.method).1
  subst hsz
  have hD := hD0.self (sz := s.heap.size)
  generalize hAe : va_A [(h0, .inr (0, [.null, .int 0, .int 0]))] s.heap.size = A at hD hEx ⊢
  have hA : ∀ q : Nat, s.heap.size ≤ q → A q := fun q h => by rw [← hAe]; exact Or.inr h
  have hS : va_S A s.heap s.heap [] := va_S.rf
  have hP : va_P D vwCl [(h0, .inr (0, [.null, .int 0, .int 0]))] s.heap := hP
  have hl := lv_entry ([.ref h0]) (n := 1) (Nat.le_of_ble_eq_true rfl)
  rw [lg_entry_eq]
  generalize (lg_sl ([.ref h0]) ++ List.replicate (1 - (lg_sl ([.ref h0])).length) Slot.unset).toArray = ls at hl ⊢
  have hl : lv_has ls 1 [(0, .ref h0)] := hl
  refine lv_aload_n hx hb dkX0_0 rfl (lv_at hl 0 rfl) ?_
  refine W.objInit hx hb hown (hts (.methodLink RX0 3 objectInit) (eTb_wd _ (tb2 145 rfl rfl))) (hts (.instanceMethod objectInit) (eTb_wd _ (tb1 27 rfl rfl))) (hts (.code objectInit ⟨#[0xb1]⟩ 1 none) (eTb_wd _ (tb1 28 rfl rfl))) rfl (by rw [hml]; exact hl.1) rfl dkX0_1 (Nat.le_of_ble_eq_true rfl) (Nat.le_of_ble_eq_true rfl) ?_
  refine W.eq (g2 := F0 m 4 ls []) rfl ?_
  refine lv_aload_n hx hb dkX0_4 rfl (lv_at hl 0 rfl) ?_
  refine lv_bipush (v := (96 : Int32)) hx hb dkX0_5 (by decide) ?_
  refine va_newa (atype := .int) (ty := .int) (a0 := (96, .inl (fun _ => 0))) hx hb (hts (.arrayClass .int) (eTb_wd _ (tb1 96 rfl rfl))) rfl hK hP hD hS hA (fun _ => rfl) (by decide) rfl (Nat.le_of_ble_eq_true rfl) (Nat.le_of_ble_eq_true rfl) (Nat.le_of_ble_eq_true rfl) dkX0_7 (fun q7 cZ H hKn hP hD hS => ?_)
  have eZ : cZ = cA 0 := Option.some.inj ((hKn.2 4 _ rfl).2.symm.trans (hK.2 0 _ rfl).2)
  subst eZ
  clear hKn
  have hP : va_P D vwCl [(h0, .inr (0, [.null, .int 0, .int 0])), (q7, .inl (cA 0, 96, .inl (fun _ => 0)))] H := hP
  have hD : va_D A [(h0, .inr (0, [.null, .int 0, .int 0])), (q7, .inl (cA 0, 96, .inl (fun _ => 0)))] := hD
  refine W.widen (k := 1) (n := 96) (by omega) (by omega) ?_
  refine va_putF (D := D) (ci := 0) (v := .ref q7) (ty := .array .int) (C := RX0) (T := TX0) (N := 3) hx hb hts (fun w h => eTb_wd w (wfX0 w h)) tyX0 tyX0_ok nmX0 hown hK hP hD hS 0 rfl rfl 0 (by decide) (hts (.fieldLink RX0 11 "ExitFalls$Acts" "rows" "[I") (eTb_wd _ (tb2 146 rfl rfl))) (fun _ h9 => h9) rfl hin rfl (by decide +kernel) rfl rfl (Nat.le_of_ble_eq_true rfl) dkX0_9 (fun H locs hP hD hS => ?_)
  have hP : va_P D vwCl [(h0, .inr (0, [.ref q7, .int 0, .int 0])), (q7, .inl (cA 0, 96, .inl (fun _ => 0)))] H := hP
  have hD : va_D A [(h0, .inr (0, [.ref q7, .int 0, .int 0])), (q7, .inl (cA 0, 96, .inl (fun _ => 0)))] := hD
  have hP9 := hP.sub (ws' := [(h0, .inr (0, [.ref q7, .int 0, .int 0])), (q7, .inl (cA 0, 96, .inl (fun _ => 0)))]) [0, 1] rfl
  have hD9 := hD.sub (ws' := [(h0, .inr (0, [.ref q7, .int 0, .int 0])), (q7, .inl (cA 0, 96, .inl (fun _ => 0)))]) [0, 1] (by decide) rfl
  exact W.vret hx hb hr (fun t ht hW => ⟨⟨(fun i => match i with | 0 => q7 | _ => 0), rfl, trivial, by rw [ht]; exact hP9, hD9⟩, hS.F ht⟩) hS.2.2 dkX0_12
theorem dkX6_0 : decode cX6_init 0 = .ok (.aload_n 0, 1) := by decide +kernel
theorem dkX6_1 : decode cX6_init 1 = .ok (.invokespecial 3, 3) := by decide +kernel
theorem dkX6_4 : decode cX6_init 4 = .ok (.aload_n 0, 1) := by decide +kernel
theorem dkX6_5 : decode cX6_init 5 = .ok (.bipush 8, 2) := by decide +kernel
theorem dkX6_7 : decode cX6_init 7 = .ok (.newarray .int, 2) := by decide +kernel
theorem dkX6_9 : decode cX6_init 9 = .ok (.putfield 9, 3) := by decide +kernel
theorem dkX6_12 : decode cX6_init 12 = .ok (.aload_n 0, 1) := by decide +kernel
theorem dkX6_13 : decode cX6_init 13 = .ok (.bipush 8, 2) := by decide +kernel
theorem dkX6_15 : decode cX6_init 15 = .ok (.newarray .int, 2) := by decide +kernel
theorem dkX6_17 : decode cX6_init 17 = .ok (.putfield 15, 3) := by decide +kernel
theorem dkX6_20 : decode cX6_init 20 = .ok (.return_, 1) := by decide +kernel
def fin_X6 (cA : Nat → ClassId) (f : Nat → Nat) (h0 : Nat) : va_W := [(h0, .inr (6, [.ref (f 0), .ref (f 1), .int 0])), ((f 0), .inl (cA 0, 8, .inl (fun _ => 0))), ((f 1), .inl (cA 0, 8, .inl (fun _ => 0)))]
set_option maxRecDepth 100000 in
set_option maxHeartbeats 4000000 in
theorem wkX6_init : Cond.code yX6_init cX6_init 1 none ∈ eTb := tb2 125 rfl rfl
theorem hdX6_init : yX6_init.cls ≠ "java/lang/invoke/MethodHandle" ∧ yX6_init.cls ≠ "java/lang/invoke/VarHandle" ∧ (parseMethodDescriptor yX6_init.desc).map (fun d => d.parameters.length) = some 0 := by decide +kernel
set_option maxRecDepth 100000 in
set_option maxHeartbeats 4000000 in
theorem ct_X6 (l : Launch) (D : va_G) (cA : Nat → ClassId) (aK aV : Nat) (h0 sz : Nat) : Met l yX6_init (eWd yX6_init cX6_init 1 none) { frames := 1, cells := 2, slots := 16, locals := 12 } (va_Pc [.ref h0] (fun U => U.heap.size = sz ∧ va_P D vwCl [(h0, .inr (6, [.null, .null, .int 0]))] U.heap ∧ va_K D vwCl (eTys cA) U ∧ va_D (fun _ => True) [(h0, .inr (6, [.null, .null, .int 0]))] ∧ eEx aK aV (va_A [(h0, .inr (6, [.null, .null, .int 0]))] sz) U)) (va_Qv (fun _ : Nat → Nat => True) (fun f t => va_P D vwCl (fin_X6 cA f h0) t.heap ∧ va_D (va_A [(h0, .inr (6, [.null, .null, .int 0]))] sz) (fin_X6 cA f h0)) (va_A [(h0, .inr (6, [.null, .null, .int 0]))] sz)) 2 16 (va_A [(h0, .inr (6, [.null, .null, .int 0]))] sz) := by
  refine Met.ofW (cc := cX6_init) (maxL := 1) (ret := none) (by decide +kernel) rfl ?_
  intro p e s m args below meth c s₁ B hml hv
  obtain ⟨rfl, hsz, hP, hK, hD0, hEx⟩ := hv
  have hx := B.exec
  have hb := B.bytes
  have hr := B.returns
  have hts := atoms_spec (ws := eWd yX6_init cX6_init 1 none) B.pre
  have hown : s.vm.findClass RX6 = some m.cls := findClass_of_methodNamed B.named
  have hlocks := B.notSynchronized
  have hin : meth.name = "<init>" := (name_of_methodNamed B.named B.method).1
  subst hsz
  have hD := hD0.self (sz := s.heap.size)
  generalize hAe : va_A [(h0, .inr (6, [.null, .null, .int 0]))] s.heap.size = A at hD hEx ⊢
  have hA : ∀ q : Nat, s.heap.size ≤ q → A q := fun q h => by rw [← hAe]; exact Or.inr h
  have hS : va_S A s.heap s.heap [] := va_S.rf
  have hP : va_P D vwCl [(h0, .inr (6, [.null, .null, .int 0]))] s.heap := hP
  have hl := lv_entry ([.ref h0]) (n := 1) (Nat.le_of_ble_eq_true rfl)
  rw [lg_entry_eq]
  generalize (lg_sl ([.ref h0]) ++ List.replicate (1 - (lg_sl ([.ref h0])).length) Slot.unset).toArray = ls at hl ⊢
  have hl : lv_has ls 1 [(0, .ref h0)] := hl
  refine lv_aload_n hx hb dkX6_0 rfl (lv_at hl 0 rfl) ?_
  refine W.objInit hx hb hown (hts (.methodLink RX6 3 objectInit) (eTb_wd _ (tb2 126 rfl rfl))) (hts (.instanceMethod objectInit) (eTb_wd _ (tb1 27 rfl rfl))) (hts (.code objectInit ⟨#[0xb1]⟩ 1 none) (eTb_wd _ (tb1 28 rfl rfl))) rfl (by rw [hml]; exact hl.1) rfl dkX6_1 (Nat.le_of_ble_eq_true rfl) (Nat.le_of_ble_eq_true rfl) ?_
  refine W.eq (g2 := F0 m 4 ls []) rfl ?_
  refine lv_aload_n hx hb dkX6_4 rfl (lv_at hl 0 rfl) ?_
  refine lv_bipush (v := (8 : Int32)) hx hb dkX6_5 (by decide) ?_
  refine va_newa (atype := .int) (ty := .int) (a0 := (8, .inl (fun _ => 0))) hx hb (hts (.arrayClass .int) (eTb_wd _ (tb1 96 rfl rfl))) rfl hK hP hD hS hA (fun _ => rfl) (by decide) rfl (Nat.le_of_ble_eq_true rfl) (Nat.le_of_ble_eq_true rfl) (Nat.le_of_ble_eq_true rfl) dkX6_7 (fun q7 cZ H hKn hP hD hS => ?_)
  have eZ : cZ = cA 0 := Option.some.inj ((hKn.2 4 _ rfl).2.symm.trans (hK.2 0 _ rfl).2)
  subst eZ
  clear hKn
  have hP : va_P D vwCl [(h0, .inr (6, [.null, .null, .int 0])), (q7, .inl (cA 0, 8, .inl (fun _ => 0)))] H := hP
  have hD : va_D A [(h0, .inr (6, [.null, .null, .int 0])), (q7, .inl (cA 0, 8, .inl (fun _ => 0)))] := hD
  refine W.widen (k := 1) (n := 8) (by omega) (by omega) ?_
  refine va_putF (D := D) (ci := 6) (v := .ref q7) (ty := .array .int) (C := RX6) (T := TX6) (N := 3) hx hb hts (fun w h => eTb_wd w (wfX6 w h)) tyX6 tyX6_ok nmX6 hown hK hP hD hS 0 rfl rfl 0 (by decide) (hts (.fieldLink RX6 9 "ExitFalls$Guesses" "amounts" "[I") (eTb_wd _ (tb2 127 rfl rfl))) (fun _ h9 => h9) rfl hin rfl (by decide +kernel) rfl rfl (Nat.le_of_ble_eq_true rfl) dkX6_9 (fun H locs hP hD hS => ?_)
  have hP : va_P D vwCl [(h0, .inr (6, [.ref q7, .null, .int 0])), (q7, .inl (cA 0, 8, .inl (fun _ => 0)))] H := hP
  have hD : va_D A [(h0, .inr (6, [.ref q7, .null, .int 0])), (q7, .inl (cA 0, 8, .inl (fun _ => 0)))] := hD
  refine lv_aload_n hx hb dkX6_12 rfl (lv_at hl 0 rfl) ?_
  refine lv_bipush (v := (8 : Int32)) hx hb dkX6_13 (by decide) ?_
  refine va_newa (atype := .int) (ty := .int) (a0 := (8, .inl (fun _ => 0))) hx hb (hts (.arrayClass .int) (eTb_wd _ (tb1 96 rfl rfl))) rfl hK hP hD hS hA (fun _ => rfl) (by decide) rfl (Nat.le_of_ble_eq_true rfl) (Nat.le_of_ble_eq_true rfl) (Nat.le_of_ble_eq_true rfl) dkX6_15 (fun q15 cZ H hKn hP hD hS => ?_)
  have eZ : cZ = cA 0 := Option.some.inj ((hKn.2 4 _ rfl).2.symm.trans (hK.2 0 _ rfl).2)
  subst eZ
  clear hKn
  have hP : va_P D vwCl [(h0, .inr (6, [.ref q7, .null, .int 0])), (q7, .inl (cA 0, 8, .inl (fun _ => 0))), (q15, .inl (cA 0, 8, .inl (fun _ => 0)))] H := hP
  have hD : va_D A [(h0, .inr (6, [.ref q7, .null, .int 0])), (q7, .inl (cA 0, 8, .inl (fun _ => 0))), (q15, .inl (cA 0, 8, .inl (fun _ => 0)))] := hD
  refine W.widen (k := 2) (n := 16) (by omega) (by omega) ?_
  refine va_putF (D := D) (ci := 6) (v := .ref q15) (ty := .array .int) (C := RX6) (T := TX6) (N := 3) hx hb hts (fun w h => eTb_wd w (wfX6 w h)) tyX6 tyX6_ok nmX6 hown hK hP hD hS 0 rfl rfl 1 (by decide) (hts (.fieldLink RX6 15 "ExitFalls$Guesses" "weights" "[I") (eTb_wd _ (tb2 129 rfl rfl))) (fun _ h9 => h9) rfl hin rfl (by decide +kernel) rfl rfl (Nat.le_of_ble_eq_true rfl) dkX6_17 (fun H locs hP hD hS => ?_)
  have hP : va_P D vwCl [(h0, .inr (6, [.ref q7, .ref q15, .int 0])), (q7, .inl (cA 0, 8, .inl (fun _ => 0))), (q15, .inl (cA 0, 8, .inl (fun _ => 0)))] H := hP
  have hD : va_D A [(h0, .inr (6, [.ref q7, .ref q15, .int 0])), (q7, .inl (cA 0, 8, .inl (fun _ => 0))), (q15, .inl (cA 0, 8, .inl (fun _ => 0)))] := hD
  have hP9 := hP.sub (ws' := [(h0, .inr (6, [.ref q7, .ref q15, .int 0])), (q7, .inl (cA 0, 8, .inl (fun _ => 0))), (q15, .inl (cA 0, 8, .inl (fun _ => 0)))]) [0, 1, 2] rfl
  have hD9 := hD.sub (ws' := [(h0, .inr (6, [.ref q7, .ref q15, .int 0])), (q7, .inl (cA 0, 8, .inl (fun _ => 0))), (q15, .inl (cA 0, 8, .inl (fun _ => 0)))]) [0, 1, 2] (by decide) rfl
  exact W.vret hx hb hr (fun t ht hW => ⟨⟨(fun i => match i with | 0 => q7 | 1 => q15 | _ => 0), rfl, trivial, by rw [ht]; exact hP9, hD9⟩, hS.F ht⟩) hS.2.2 dkX6_20
theorem dkX9_0 : decode cX9_init 0 = .ok (.aload_n 0, 1) := by decide +kernel
theorem dkX9_1 : decode cX9_init 1 = .ok (.invokespecial 1, 3) := by decide +kernel
theorem dkX9_4 : decode cX9_init 4 = .ok (.return_, 1) := by decide +kernel
def fin_X9 (cA : Nat → ClassId) (f : Nat → Nat) (h0 : Nat) : va_W := [(h0, .inr (8, [.int 0, .int 0, .int 0, .int 0, .int 0]))]
set_option maxRecDepth 100000 in
set_option maxHeartbeats 4000000 in
theorem wkX9_init : Cond.code yX9_init cX9_init 1 none ∈ eTb := tb2 93 rfl rfl
theorem hdX9_init : yX9_init.cls ≠ "java/lang/invoke/MethodHandle" ∧ yX9_init.cls ≠ "java/lang/invoke/VarHandle" ∧ (parseMethodDescriptor yX9_init.desc).map (fun d => d.parameters.length) = some 0 := by decide +kernel
set_option maxRecDepth 100000 in
set_option maxHeartbeats 4000000 in
theorem ct_X9 (l : Launch) (D : va_G) (cA : Nat → ClassId) (aK aV : Nat) (h0 sz : Nat) : Met l yX9_init (eWd yX9_init cX9_init 1 none) { frames := 1, cells := 0, slots := 0, locals := 12 } (va_Pc [.ref h0] (fun U => U.heap.size = sz ∧ va_P D vwCl [(h0, .inr (8, [.int 0, .int 0, .int 0, .int 0, .int 0]))] U.heap ∧ va_K D vwCl (eTys cA) U ∧ va_D (fun _ => True) [(h0, .inr (8, [.int 0, .int 0, .int 0, .int 0, .int 0]))] ∧ eEx aK aV (va_A [(h0, .inr (8, [.int 0, .int 0, .int 0, .int 0, .int 0]))] sz) U)) (va_Qv (fun _ : Nat → Nat => True) (fun f t => va_P D vwCl (fin_X9 cA f h0) t.heap ∧ va_D (va_A [(h0, .inr (8, [.int 0, .int 0, .int 0, .int 0, .int 0]))] sz) (fin_X9 cA f h0)) (va_A [(h0, .inr (8, [.int 0, .int 0, .int 0, .int 0, .int 0]))] sz)) 0 0 (va_A [(h0, .inr (8, [.int 0, .int 0, .int 0, .int 0, .int 0]))] sz) := by
  refine Met.ofW (cc := cX9_init) (maxL := 1) (ret := none) (by decide +kernel) rfl ?_
  intro p e s m args below meth c s₁ B hml hv
  obtain ⟨rfl, hsz, hP, hK, hD0, hEx⟩ := hv
  have hx := B.exec
  have hb := B.bytes
  have hr := B.returns
  have hts := atoms_spec (ws := eWd yX9_init cX9_init 1 none) B.pre
  have hown : s.vm.findClass RX9 = some m.cls := findClass_of_methodNamed B.named
  have hlocks := B.notSynchronized
  have hin : meth.name = "<init>" := (name_of_methodNamed B.named B.method).1
  subst hsz
  have hD := hD0.self (sz := s.heap.size)
  generalize hAe : va_A [(h0, .inr (8, [.int 0, .int 0, .int 0, .int 0, .int 0]))] s.heap.size = A at hD hEx ⊢
  have hA : ∀ q : Nat, s.heap.size ≤ q → A q := fun q h => by rw [← hAe]; exact Or.inr h
  have hS : va_S A s.heap s.heap [] := va_S.rf
  have hP : va_P D vwCl [(h0, .inr (8, [.int 0, .int 0, .int 0, .int 0, .int 0]))] s.heap := hP
  have hl := lv_entry ([.ref h0]) (n := 1) (Nat.le_of_ble_eq_true rfl)
  rw [lg_entry_eq]
  generalize (lg_sl ([.ref h0]) ++ List.replicate (1 - (lg_sl ([.ref h0])).length) Slot.unset).toArray = ls at hl ⊢
  have hl : lv_has ls 1 [(0, .ref h0)] := hl
  refine lv_aload_n hx hb dkX9_0 rfl (lv_at hl 0 rfl) ?_
  refine W.objInit hx hb hown (hts (.methodLink RX9 1 objectInit) (eTb_wd _ (tb2 94 rfl rfl))) (hts (.instanceMethod objectInit) (eTb_wd _ (tb1 27 rfl rfl))) (hts (.code objectInit ⟨#[0xb1]⟩ 1 none) (eTb_wd _ (tb1 28 rfl rfl))) rfl (by rw [hml]; exact hl.1) rfl dkX9_1 (Nat.le_of_ble_eq_true rfl) (Nat.le_of_ble_eq_true rfl) ?_
  refine W.eq (g2 := F0 m 4 ls []) rfl ?_
  have hP9 := hP.sub (ws' := [(h0, .inr (8, [.int 0, .int 0, .int 0, .int 0, .int 0]))]) [0] rfl
  have hD9 := hD.sub (ws' := [(h0, .inr (8, [.int 0, .int 0, .int 0, .int 0, .int 0]))]) [0] (by decide) rfl
  exact W.vret hx hb hr (fun t ht hW => ⟨⟨(fun _ => 0), rfl, trivial, by rw [ht]; exact hP9, hD9⟩, hS.F ht⟩) hS.2.2 dkX9_4
theorem dkX10_0 : decode cX10_init 0 = .ok (.aload_n 0, 1) := by decide +kernel
theorem dkX10_1 : decode cX10_init 1 = .ok (.invokespecial 3, 3) := by decide +kernel
theorem dkX10_4 : decode cX10_init 4 = .ok (.aload_n 0, 1) := by decide +kernel
theorem dkX10_5 : decode cX10_init 5 = .ok (.sipush 700, 3) := by decide +kernel
theorem dkX10_8 : decode cX10_init 8 = .ok (.newarray .byte, 2) := by decide +kernel
theorem dkX10_10 : decode cX10_init 10 = .ok (.putfield 9, 3) := by decide +kernel
theorem dkX10_13 : decode cX10_init 13 = .ok (.return_, 1) := by decide +kernel
def fin_X10 (cA : Nat → ClassId) (f : Nat → Nat) (h0 : Nat) : va_W := [(h0, .inr (9, [.ref (f 0), .int 0, .int 0, .int 0, .int 0, .int 0, .long 0])), ((f 0), .inl (cA 2, 700, .inl (fun _ => 0)))]
set_option maxRecDepth 100000 in
set_option maxHeartbeats 4000000 in
theorem wkX10_init : Cond.code yX10_init cX10_init 1 none ∈ eTb := tb1 33 rfl rfl
theorem hdX10_init : yX10_init.cls ≠ "java/lang/invoke/MethodHandle" ∧ yX10_init.cls ≠ "java/lang/invoke/VarHandle" ∧ (parseMethodDescriptor yX10_init.desc).map (fun d => d.parameters.length) = some 0 := by decide +kernel
set_option maxRecDepth 100000 in
set_option maxHeartbeats 4000000 in
theorem ct_X10 (l : Launch) (D : va_G) (cA : Nat → ClassId) (aK aV : Nat) (h0 sz : Nat) : Met l yX10_init (eWd yX10_init cX10_init 1 none) { frames := 1, cells := 1, slots := 700, locals := 12 } (va_Pc [.ref h0] (fun U => U.heap.size = sz ∧ va_P D vwCl [(h0, .inr (9, [.null, .int 0, .int 0, .int 0, .int 0, .int 0, .long 0]))] U.heap ∧ va_K D vwCl (eTys cA) U ∧ va_D (fun _ => True) [(h0, .inr (9, [.null, .int 0, .int 0, .int 0, .int 0, .int 0, .long 0]))] ∧ eEx aK aV (va_A [(h0, .inr (9, [.null, .int 0, .int 0, .int 0, .int 0, .int 0, .long 0]))] sz) U)) (va_Qv (fun _ : Nat → Nat => True) (fun f t => va_P D vwCl (fin_X10 cA f h0) t.heap ∧ va_D (va_A [(h0, .inr (9, [.null, .int 0, .int 0, .int 0, .int 0, .int 0, .long 0]))] sz) (fin_X10 cA f h0)) (va_A [(h0, .inr (9, [.null, .int 0, .int 0, .int 0, .int 0, .int 0, .long 0]))] sz)) 1 700 (va_A [(h0, .inr (9, [.null, .int 0, .int 0, .int 0, .int 0, .int 0, .long 0]))] sz) := by
  refine Met.ofW (cc := cX10_init) (maxL := 1) (ret := none) (by decide +kernel) rfl ?_
  intro p e s m args below meth c s₁ B hml hv
  obtain ⟨rfl, hsz, hP, hK, hD0, hEx⟩ := hv
  have hx := B.exec
  have hb := B.bytes
  have hr := B.returns
  have hts := atoms_spec (ws := eWd yX10_init cX10_init 1 none) B.pre
  have hown : s.vm.findClass RX10 = some m.cls := findClass_of_methodNamed B.named
  have hlocks := B.notSynchronized
  have hin : meth.name = "<init>" := (name_of_methodNamed B.named B.method).1
  subst hsz
  have hD := hD0.self (sz := s.heap.size)
  generalize hAe : va_A [(h0, .inr (9, [.null, .int 0, .int 0, .int 0, .int 0, .int 0, .long 0]))] s.heap.size = A at hD hEx ⊢
  have hA : ∀ q : Nat, s.heap.size ≤ q → A q := fun q h => by rw [← hAe]; exact Or.inr h
  have hS : va_S A s.heap s.heap [] := va_S.rf
  have hP : va_P D vwCl [(h0, .inr (9, [.null, .int 0, .int 0, .int 0, .int 0, .int 0, .long 0]))] s.heap := hP
  have hl := lv_entry ([.ref h0]) (n := 1) (Nat.le_of_ble_eq_true rfl)
  rw [lg_entry_eq]
  generalize (lg_sl ([.ref h0]) ++ List.replicate (1 - (lg_sl ([.ref h0])).length) Slot.unset).toArray = ls at hl ⊢
  have hl : lv_has ls 1 [(0, .ref h0)] := hl
  refine lv_aload_n hx hb dkX10_0 rfl (lv_at hl 0 rfl) ?_
  refine W.objInit hx hb hown (hts (.methodLink RX10 3 objectInit) (eTb_wd _ (tb1 34 rfl rfl))) (hts (.instanceMethod objectInit) (eTb_wd _ (tb1 27 rfl rfl))) (hts (.code objectInit ⟨#[0xb1]⟩ 1 none) (eTb_wd _ (tb1 28 rfl rfl))) rfl (by rw [hml]; exact hl.1) rfl dkX10_1 (Nat.le_of_ble_eq_true rfl) (Nat.le_of_ble_eq_true rfl) ?_
  refine W.eq (g2 := F0 m 4 ls []) rfl ?_
  refine lv_aload_n hx hb dkX10_4 rfl (lv_at hl 0 rfl) ?_
  refine lv_sipush (v := (700 : Int32)) hx hb dkX10_5 (by decide) ?_
  refine va_newa (atype := .byte) (ty := .byte) (a0 := (700, .inl (fun _ => 0))) hx hb (hts (.arrayClass .byte) (eTb_wd _ (tb1 62 rfl rfl))) rfl hK hP hD hS hA (fun _ => rfl) (by decide) rfl (Nat.le_of_ble_eq_true rfl) (Nat.le_of_ble_eq_true rfl) (Nat.le_of_ble_eq_true rfl) dkX10_8 (fun q8 cZ H hKn hP hD hS => ?_)
  have eZ : cZ = cA 2 := Option.some.inj ((hKn.2 4 _ rfl).2.symm.trans (hK.2 2 _ rfl).2)
  subst eZ
  clear hKn
  have hP : va_P D vwCl [(h0, .inr (9, [.null, .int 0, .int 0, .int 0, .int 0, .int 0, .long 0])), (q8, .inl (cA 2, 700, .inl (fun _ => 0)))] H := hP
  have hD : va_D A [(h0, .inr (9, [.null, .int 0, .int 0, .int 0, .int 0, .int 0, .long 0])), (q8, .inl (cA 2, 700, .inl (fun _ => 0)))] := hD
  refine W.widen (k := 1) (n := 700) (by omega) (by omega) ?_
  refine va_putF (D := D) (ci := 9) (v := .ref q8) (ty := .array .byte) (C := RX10) (T := TX10) (N := 7) hx hb hts (fun w h => eTb_wd w (wfX10 w h)) tyX10 tyX10_ok nmX10 hown hK hP hD hS 0 rfl rfl 0 (by decide) (hts (.fieldLink RX10 9 "ExitFalls$Tape" "bytes" "[B") (eTb_wd _ (tb1 35 rfl rfl))) (fun _ h9 => h9) rfl hin rfl (by decide +kernel) rfl rfl (Nat.le_of_ble_eq_true rfl) dkX10_10 (fun H locs hP hD hS => ?_)
  have hP : va_P D vwCl [(h0, .inr (9, [.ref q8, .int 0, .int 0, .int 0, .int 0, .int 0, .long 0])), (q8, .inl (cA 2, 700, .inl (fun _ => 0)))] H := hP
  have hD : va_D A [(h0, .inr (9, [.ref q8, .int 0, .int 0, .int 0, .int 0, .int 0, .long 0])), (q8, .inl (cA 2, 700, .inl (fun _ => 0)))] := hD
  have hP9 := hP.sub (ws' := [(h0, .inr (9, [.ref q8, .int 0, .int 0, .int 0, .int 0, .int 0, .long 0])), (q8, .inl (cA 2, 700, .inl (fun _ => 0)))]) [0, 1] rfl
  have hD9 := hD.sub (ws' := [(h0, .inr (9, [.ref q8, .int 0, .int 0, .int 0, .int 0, .int 0, .long 0])), (q8, .inl (cA 2, 700, .inl (fun _ => 0)))]) [0, 1] (by decide) rfl
  exact W.vret hx hb hr (fun t ht hW => ⟨⟨(fun i => match i with | 0 => q8 | _ => 0), rfl, trivial, by rw [ht]; exact hP9, hD9⟩, hS.F ht⟩) hS.2.2 dkX10_13
theorem dkX4_0 : decode cX4_init 0 = .ok (.aload_n 0, 1) := by decide +kernel
theorem dkX4_1 : decode cX4_init 1 = .ok (.invokespecial 3, 3) := by decide +kernel
theorem dkX4_4 : decode cX4_init 4 = .ok (.aload_n 0, 1) := by decide +kernel
theorem dkX4_5 : decode cX4_init 5 = .ok (.bipush 120, 2) := by decide +kernel
theorem dkX4_7 : decode cX4_init 7 = .ok (.newarray .int, 2) := by decide +kernel
theorem dkX4_9 : decode cX4_init 9 = .ok (.putfield 9, 3) := by decide +kernel
theorem dkX4_12 : decode cX4_init 12 = .ok (.return_, 1) := by decide +kernel
def fin_X4 (cA : Nat → ClassId) (f : Nat → Nat) (h0 : Nat) : va_W := [(h0, .inr (4, [.int 0, .int 0, .int 0, .ref (f 0)])), ((f 0), .inl (cA 0, 120, .inl (fun _ => 0)))]
set_option maxRecDepth 100000 in
set_option maxHeartbeats 4000000 in
theorem wkX4_init : Cond.code yX4_init cX4_init 1 none ∈ eTb := tb1 73 rfl rfl
theorem hdX4_init : yX4_init.cls ≠ "java/lang/invoke/MethodHandle" ∧ yX4_init.cls ≠ "java/lang/invoke/VarHandle" ∧ (parseMethodDescriptor yX4_init.desc).map (fun d => d.parameters.length) = some 0 := by decide +kernel
set_option maxRecDepth 100000 in
set_option maxHeartbeats 4000000 in
theorem ct_X4 (l : Launch) (D : va_G) (cA : Nat → ClassId) (aK aV : Nat) (h0 sz : Nat) : Met l yX4_init (eWd yX4_init cX4_init 1 none) { frames := 1, cells := 1, slots := 120, locals := 12 } (va_Pc [.ref h0] (fun U => U.heap.size = sz ∧ va_P D vwCl [(h0, .inr (4, [.int 0, .int 0, .int 0, .null]))] U.heap ∧ va_K D vwCl (eTys cA) U ∧ va_D (fun _ => True) [(h0, .inr (4, [.int 0, .int 0, .int 0, .null]))] ∧ eEx aK aV (va_A [(h0, .inr (4, [.int 0, .int 0, .int 0, .null]))] sz) U)) (va_Qv (fun _ : Nat → Nat => True) (fun f t => va_P D vwCl (fin_X4 cA f h0) t.heap ∧ va_D (va_A [(h0, .inr (4, [.int 0, .int 0, .int 0, .null]))] sz) (fin_X4 cA f h0)) (va_A [(h0, .inr (4, [.int 0, .int 0, .int 0, .null]))] sz)) 1 120 (va_A [(h0, .inr (4, [.int 0, .int 0, .int 0, .null]))] sz) := by
  refine Met.ofW (cc := cX4_init) (maxL := 1) (ret := none) (by decide +kernel) rfl ?_
  intro p e s m args below meth c s₁ B hml hv
  obtain ⟨rfl, hsz, hP, hK, hD0, hEx⟩ := hv
  have hx := B.exec
  have hb := B.bytes
  have hr := B.returns
  have hts := atoms_spec (ws := eWd yX4_init cX4_init 1 none) B.pre
  have hown : s.vm.findClass RX4 = some m.cls := findClass_of_methodNamed B.named
  have hlocks := B.notSynchronized
  have hin : meth.name = "<init>" := (name_of_methodNamed B.named B.method).1
  subst hsz
  have hD := hD0.self (sz := s.heap.size)
  generalize hAe : va_A [(h0, .inr (4, [.int 0, .int 0, .int 0, .null]))] s.heap.size = A at hD hEx ⊢
  have hA : ∀ q : Nat, s.heap.size ≤ q → A q := fun q h => by rw [← hAe]; exact Or.inr h
  have hS : va_S A s.heap s.heap [] := va_S.rf
  have hP : va_P D vwCl [(h0, .inr (4, [.int 0, .int 0, .int 0, .null]))] s.heap := hP
  have hl := lv_entry ([.ref h0]) (n := 1) (Nat.le_of_ble_eq_true rfl)
  rw [lg_entry_eq]
  generalize (lg_sl ([.ref h0]) ++ List.replicate (1 - (lg_sl ([.ref h0])).length) Slot.unset).toArray = ls at hl ⊢
  have hl : lv_has ls 1 [(0, .ref h0)] := hl
  refine lv_aload_n hx hb dkX4_0 rfl (lv_at hl 0 rfl) ?_
  refine W.objInit hx hb hown (hts (.methodLink RX4 3 objectInit) (eTb_wd _ (tb1 74 rfl rfl))) (hts (.instanceMethod objectInit) (eTb_wd _ (tb1 27 rfl rfl))) (hts (.code objectInit ⟨#[0xb1]⟩ 1 none) (eTb_wd _ (tb1 28 rfl rfl))) rfl (by rw [hml]; exact hl.1) rfl dkX4_1 (Nat.le_of_ble_eq_true rfl) (Nat.le_of_ble_eq_true rfl) ?_
  refine W.eq (g2 := F0 m 4 ls []) rfl ?_
  refine lv_aload_n hx hb dkX4_4 rfl (lv_at hl 0 rfl) ?_
  refine lv_bipush (v := (120 : Int32)) hx hb dkX4_5 (by decide) ?_
  refine va_newa (atype := .int) (ty := .int) (a0 := (120, .inl (fun _ => 0))) hx hb (hts (.arrayClass .int) (eTb_wd _ (tb1 96 rfl rfl))) rfl hK hP hD hS hA (fun _ => rfl) (by decide) rfl (Nat.le_of_ble_eq_true rfl) (Nat.le_of_ble_eq_true rfl) (Nat.le_of_ble_eq_true rfl) dkX4_7 (fun q7 cZ H hKn hP hD hS => ?_)
  have eZ : cZ = cA 0 := Option.some.inj ((hKn.2 4 _ rfl).2.symm.trans (hK.2 0 _ rfl).2)
  subst eZ
  clear hKn
  have hP : va_P D vwCl [(h0, .inr (4, [.int 0, .int 0, .int 0, .null])), (q7, .inl (cA 0, 120, .inl (fun _ => 0)))] H := hP
  have hD : va_D A [(h0, .inr (4, [.int 0, .int 0, .int 0, .null])), (q7, .inl (cA 0, 120, .inl (fun _ => 0)))] := hD
  refine W.widen (k := 1) (n := 120) (by omega) (by omega) ?_
  refine va_putF (D := D) (ci := 4) (v := .ref q7) (ty := .array .int) (C := RX4) (T := TX4) (N := 4) hx hb hts (fun w h => eTb_wd w (wfX4 w h)) tyX4 tyX4_ok nmX4 hown hK hP hD hS 0 rfl rfl 3 (by decide) (hts (.fieldLink RX4 9 "ExitFalls$Firm" "facts" "[I") (eTb_wd _ (tb1 85 rfl rfl))) (fun _ h9 => h9) rfl hin rfl (by decide +kernel) rfl rfl (Nat.le_of_ble_eq_true rfl) dkX4_9 (fun H locs hP hD hS => ?_)
  have hP : va_P D vwCl [(h0, .inr (4, [.int 0, .int 0, .int 0, .ref q7])), (q7, .inl (cA 0, 120, .inl (fun _ => 0)))] H := hP
  have hD : va_D A [(h0, .inr (4, [.int 0, .int 0, .int 0, .ref q7])), (q7, .inl (cA 0, 120, .inl (fun _ => 0)))] := hD
  have hP9 := hP.sub (ws' := [(h0, .inr (4, [.int 0, .int 0, .int 0, .ref q7])), (q7, .inl (cA 0, 120, .inl (fun _ => 0)))]) [0, 1] rfl
  have hD9 := hD.sub (ws' := [(h0, .inr (4, [.int 0, .int 0, .int 0, .ref q7])), (q7, .inl (cA 0, 120, .inl (fun _ => 0)))]) [0, 1] (by decide) rfl
  exact W.vret hx hb hr (fun t ht hW => ⟨⟨(fun i => match i with | 0 => q7 | _ => 0), rfl, trivial, by rw [ht]; exact hP9, hD9⟩, hS.F ht⟩) hS.2.2 dkX4_12
theorem dkX5_0 : decode cX5_init 0 = .ok (.aload_n 0, 1) := by decide +kernel
theorem dkX5_1 : decode cX5_init 1 = .ok (.invokespecial 3, 3) := by decide +kernel
theorem dkX5_4 : decode cX5_init 4 = .ok (.aload_n 0, 1) := by decide +kernel
theorem dkX5_5 : decode cX5_init 5 = .ok (.bipush 6, 2) := by decide +kernel
theorem dkX5_7 : decode cX5_init 7 = .ok (.newarray .int, 2) := by decide +kernel
theorem dkX5_9 : decode cX5_init 9 = .ok (.putfield 9, 3) := by decide +kernel
theorem dkX5_12 : decode cX5_init 12 = .ok (.aload_n 0, 1) := by decide +kernel
theorem dkX5_13 : decode cX5_init 13 = .ok (.sipush 384, 3) := by decide +kernel
theorem dkX5_16 : decode cX5_init 16 = .ok (.newarray .long, 2) := by decide +kernel
theorem dkX5_18 : decode cX5_init 18 = .ok (.putfield 15, 3) := by decide +kernel
theorem dkX5_21 : decode cX5_init 21 = .ok (.aload_n 0, 1) := by decide +kernel
theorem dkX5_22 : decode cX5_init 22 = .ok (.bipush 64, 2) := by decide +kernel
theorem dkX5_24 : decode cX5_init 24 = .ok (.newarray .long, 2) := by decide +kernel
theorem dkX5_26 : decode cX5_init 26 = .ok (.putfield 19, 3) := by decide +kernel
theorem dkX5_29 : decode cX5_init 29 = .ok (.return_, 1) := by decide +kernel
def fin_X5 (cA : Nat → ClassId) (f : Nat → Nat) (h0 : Nat) : va_W := [(h0, .inr (5, [.ref (f 0), .int 0, .ref (f 1), .ref (f 2)])), ((f 0), .inl (cA 0, 6, .inl (fun _ => 0))), ((f 1), .inl (cA 1, 384, .inr (.inl (fun _ => 0)))), ((f 2), .inl (cA 1, 64, .inr (.inl (fun _ => 0))))]
set_option maxRecDepth 100000 in
set_option maxHeartbeats 4000000 in
theorem wkX5_init : Cond.code yX5_init cX5_init 1 none ∈ eTb := tb2 74 rfl rfl
theorem hdX5_init : yX5_init.cls ≠ "java/lang/invoke/MethodHandle" ∧ yX5_init.cls ≠ "java/lang/invoke/VarHandle" ∧ (parseMethodDescriptor yX5_init.desc).map (fun d => d.parameters.length) = some 0 := by decide +kernel
set_option maxRecDepth 100000 in
set_option maxHeartbeats 4000000 in
theorem ct_X5 (l : Launch) (D : va_G) (cA : Nat → ClassId) (aK aV : Nat) (h0 sz : Nat) : Met l yX5_init (eWd yX5_init cX5_init 1 none) { frames := 1, cells := 3, slots := 454, locals := 12 } (va_Pc [.ref h0] (fun U => U.heap.size = sz ∧ va_P D vwCl [(h0, .inr (5, [.null, .int 0, .null, .null]))] U.heap ∧ va_K D vwCl (eTys cA) U ∧ va_D (fun _ => True) [(h0, .inr (5, [.null, .int 0, .null, .null]))] ∧ eEx aK aV (va_A [(h0, .inr (5, [.null, .int 0, .null, .null]))] sz) U)) (va_Qv (fun _ : Nat → Nat => True) (fun f t => va_P D vwCl (fin_X5 cA f h0) t.heap ∧ va_D (va_A [(h0, .inr (5, [.null, .int 0, .null, .null]))] sz) (fin_X5 cA f h0)) (va_A [(h0, .inr (5, [.null, .int 0, .null, .null]))] sz)) 3 454 (va_A [(h0, .inr (5, [.null, .int 0, .null, .null]))] sz) := by
  refine Met.ofW (cc := cX5_init) (maxL := 1) (ret := none) (by decide +kernel) rfl ?_
  intro p e s m args below meth c s₁ B hml hv
  obtain ⟨rfl, hsz, hP, hK, hD0, hEx⟩ := hv
  have hx := B.exec
  have hb := B.bytes
  have hr := B.returns
  have hts := atoms_spec (ws := eWd yX5_init cX5_init 1 none) B.pre
  have hown : s.vm.findClass RX5 = some m.cls := findClass_of_methodNamed B.named
  have hlocks := B.notSynchronized
  have hin : meth.name = "<init>" := (name_of_methodNamed B.named B.method).1
  subst hsz
  have hD := hD0.self (sz := s.heap.size)
  generalize hAe : va_A [(h0, .inr (5, [.null, .int 0, .null, .null]))] s.heap.size = A at hD hEx ⊢
  have hA : ∀ q : Nat, s.heap.size ≤ q → A q := fun q h => by rw [← hAe]; exact Or.inr h
  have hS : va_S A s.heap s.heap [] := va_S.rf
  have hP : va_P D vwCl [(h0, .inr (5, [.null, .int 0, .null, .null]))] s.heap := hP
  have hl := lv_entry ([.ref h0]) (n := 1) (Nat.le_of_ble_eq_true rfl)
  rw [lg_entry_eq]
  generalize (lg_sl ([.ref h0]) ++ List.replicate (1 - (lg_sl ([.ref h0])).length) Slot.unset).toArray = ls at hl ⊢
  have hl : lv_has ls 1 [(0, .ref h0)] := hl
  refine lv_aload_n hx hb dkX5_0 rfl (lv_at hl 0 rfl) ?_
  refine W.objInit hx hb hown (hts (.methodLink RX5 3 objectInit) (eTb_wd _ (tb2 75 rfl rfl))) (hts (.instanceMethod objectInit) (eTb_wd _ (tb1 27 rfl rfl))) (hts (.code objectInit ⟨#[0xb1]⟩ 1 none) (eTb_wd _ (tb1 28 rfl rfl))) rfl (by rw [hml]; exact hl.1) rfl dkX5_1 (Nat.le_of_ble_eq_true rfl) (Nat.le_of_ble_eq_true rfl) ?_
  refine W.eq (g2 := F0 m 4 ls []) rfl ?_
  refine lv_aload_n hx hb dkX5_4 rfl (lv_at hl 0 rfl) ?_
  refine lv_bipush (v := (6 : Int32)) hx hb dkX5_5 (by decide) ?_
  refine va_newa (atype := .int) (ty := .int) (a0 := (6, .inl (fun _ => 0))) hx hb (hts (.arrayClass .int) (eTb_wd _ (tb1 96 rfl rfl))) rfl hK hP hD hS hA (fun _ => rfl) (by decide) rfl (Nat.le_of_ble_eq_true rfl) (Nat.le_of_ble_eq_true rfl) (Nat.le_of_ble_eq_true rfl) dkX5_7 (fun q7 cZ H hKn hP hD hS => ?_)
  have eZ : cZ = cA 0 := Option.some.inj ((hKn.2 4 _ rfl).2.symm.trans (hK.2 0 _ rfl).2)
  subst eZ
  clear hKn
  have hP : va_P D vwCl [(h0, .inr (5, [.null, .int 0, .null, .null])), (q7, .inl (cA 0, 6, .inl (fun _ => 0)))] H := hP
  have hD : va_D A [(h0, .inr (5, [.null, .int 0, .null, .null])), (q7, .inl (cA 0, 6, .inl (fun _ => 0)))] := hD
  refine W.widen (k := 1) (n := 6) (by omega) (by omega) ?_
  refine va_putF (D := D) (ci := 5) (v := .ref q7) (ty := .array .int) (C := RX5) (T := TX5) (N := 4) hx hb hts (fun w h => eTb_wd w (wfX5 w h)) tyX5 tyX5_ok nmX5 hown hK hP hD hS 0 rfl rfl 0 (by decide) (hts (.fieldLink RX5 9 "ExitFalls$Game" "players" "[I") (eTb_wd _ (tb2 76 rfl rfl))) (fun _ h9 => h9) rfl hin rfl (by decide +kernel) rfl rfl (Nat.le_of_ble_eq_true rfl) dkX5_9 (fun H locs hP hD hS => ?_)
  have hP : va_P D vwCl [(h0, .inr (5, [.ref q7, .int 0, .null, .null])), (q7, .inl (cA 0, 6, .inl (fun _ => 0)))] H := hP
  have hD : va_D A [(h0, .inr (5, [.ref q7, .int 0, .null, .null])), (q7, .inl (cA 0, 6, .inl (fun _ => 0)))] := hD
  refine lv_aload_n hx hb dkX5_12 rfl (lv_at hl 0 rfl) ?_
  refine lv_sipush (v := (384 : Int32)) hx hb dkX5_13 (by decide) ?_
  refine va_newa (atype := .long) (ty := .long) (a0 := (384, .inr (.inl (fun _ => 0)))) hx hb (hts (.arrayClass .long) (eTb_wd _ (tb1 95 rfl rfl))) rfl hK hP hD hS hA (fun _ => rfl) (by decide) rfl (Nat.le_of_ble_eq_true rfl) (Nat.le_of_ble_eq_true rfl) (Nat.le_of_ble_eq_true rfl) dkX5_16 (fun q16 cZ H hKn hP hD hS => ?_)
  have eZ : cZ = cA 1 := Option.some.inj ((hKn.2 4 _ rfl).2.symm.trans (hK.2 1 _ rfl).2)
  subst eZ
  clear hKn
  have hP : va_P D vwCl [(h0, .inr (5, [.ref q7, .int 0, .null, .null])), (q7, .inl (cA 0, 6, .inl (fun _ => 0))), (q16, .inl (cA 1, 384, .inr (.inl (fun _ => 0))))] H := hP
  have hD : va_D A [(h0, .inr (5, [.ref q7, .int 0, .null, .null])), (q7, .inl (cA 0, 6, .inl (fun _ => 0))), (q16, .inl (cA 1, 384, .inr (.inl (fun _ => 0))))] := hD
  refine W.widen (k := 2) (n := 390) (by omega) (by omega) ?_
  refine va_putF (D := D) (ci := 5) (v := .ref q16) (ty := .array .long) (C := RX5) (T := TX5) (N := 4) hx hb hts (fun w h => eTb_wd w (wfX5 w h)) tyX5 tyX5_ok nmX5 hown hK hP hD hS 0 rfl rfl 2 (by decide) (hts (.fieldLink RX5 15 "ExitFalls$Game" "above" "[J") (eTb_wd _ (tb2 78 rfl rfl))) (fun _ h9 => h9) rfl hin rfl (by decide +kernel) rfl rfl (Nat.le_of_ble_eq_true rfl) dkX5_18 (fun H locs hP hD hS => ?_)
  have hP : va_P D vwCl [(h0, .inr (5, [.ref q7, .int 0, .ref q16, .null])), (q7, .inl (cA 0, 6, .inl (fun _ => 0))), (q16, .inl (cA 1, 384, .inr (.inl (fun _ => 0))))] H := hP
  have hD : va_D A [(h0, .inr (5, [.ref q7, .int 0, .ref q16, .null])), (q7, .inl (cA 0, 6, .inl (fun _ => 0))), (q16, .inl (cA 1, 384, .inr (.inl (fun _ => 0))))] := hD
  refine lv_aload_n hx hb dkX5_21 rfl (lv_at hl 0 rfl) ?_
  refine lv_bipush (v := (64 : Int32)) hx hb dkX5_22 (by decide) ?_
  refine va_newa (atype := .long) (ty := .long) (a0 := (64, .inr (.inl (fun _ => 0)))) hx hb (hts (.arrayClass .long) (eTb_wd _ (tb1 95 rfl rfl))) rfl hK hP hD hS hA (fun _ => rfl) (by decide) rfl (Nat.le_of_ble_eq_true rfl) (Nat.le_of_ble_eq_true rfl) (Nat.le_of_ble_eq_true rfl) dkX5_24 (fun q24 cZ H hKn hP hD hS => ?_)
  have eZ : cZ = cA 1 := Option.some.inj ((hKn.2 4 _ rfl).2.symm.trans (hK.2 1 _ rfl).2)
  subst eZ
  clear hKn
  have hP : va_P D vwCl [(h0, .inr (5, [.ref q7, .int 0, .ref q16, .null])), (q7, .inl (cA 0, 6, .inl (fun _ => 0))), (q16, .inl (cA 1, 384, .inr (.inl (fun _ => 0)))), (q24, .inl (cA 1, 64, .inr (.inl (fun _ => 0))))] H := hP
  have hD : va_D A [(h0, .inr (5, [.ref q7, .int 0, .ref q16, .null])), (q7, .inl (cA 0, 6, .inl (fun _ => 0))), (q16, .inl (cA 1, 384, .inr (.inl (fun _ => 0)))), (q24, .inl (cA 1, 64, .inr (.inl (fun _ => 0))))] := hD
  refine W.widen (k := 3) (n := 454) (by omega) (by omega) ?_
  refine va_putF (D := D) (ci := 5) (v := .ref q24) (ty := .array .long) (C := RX5) (T := TX5) (N := 4) hx hb hts (fun w h => eTb_wd w (wfX5 w h)) tyX5 tyX5_ok nmX5 hown hK hP hD hS 0 rfl rfl 3 (by decide) (hts (.fieldLink RX5 19 "ExitFalls$Game" "below" "[J") (eTb_wd _ (tb2 79 rfl rfl))) (fun _ h9 => h9) rfl hin rfl (by decide +kernel) rfl rfl (Nat.le_of_ble_eq_true rfl) dkX5_26 (fun H locs hP hD hS => ?_)
  have hP : va_P D vwCl [(h0, .inr (5, [.ref q7, .int 0, .ref q16, .ref q24])), (q7, .inl (cA 0, 6, .inl (fun _ => 0))), (q16, .inl (cA 1, 384, .inr (.inl (fun _ => 0)))), (q24, .inl (cA 1, 64, .inr (.inl (fun _ => 0))))] H := hP
  have hD : va_D A [(h0, .inr (5, [.ref q7, .int 0, .ref q16, .ref q24])), (q7, .inl (cA 0, 6, .inl (fun _ => 0))), (q16, .inl (cA 1, 384, .inr (.inl (fun _ => 0)))), (q24, .inl (cA 1, 64, .inr (.inl (fun _ => 0))))] := hD
  have hP9 := hP.sub (ws' := [(h0, .inr (5, [.ref q7, .int 0, .ref q16, .ref q24])), (q7, .inl (cA 0, 6, .inl (fun _ => 0))), (q16, .inl (cA 1, 384, .inr (.inl (fun _ => 0)))), (q24, .inl (cA 1, 64, .inr (.inl (fun _ => 0))))]) [0, 1, 2, 3] rfl
  have hD9 := hD.sub (ws' := [(h0, .inr (5, [.ref q7, .int 0, .ref q16, .ref q24])), (q7, .inl (cA 0, 6, .inl (fun _ => 0))), (q16, .inl (cA 1, 384, .inr (.inl (fun _ => 0)))), (q24, .inl (cA 1, 64, .inr (.inl (fun _ => 0))))]) [0, 1, 2, 3] (by decide) rfl
  exact W.vret hx hb hr (fun t ht hW => ⟨⟨(fun i => match i with | 0 => q7 | 1 => q16 | 2 => q24 | _ => 0), rfl, trivial, by rw [ht]; exact hP9, hD9⟩, hS.F ht⟩) hS.2.2 dkX5_29
theorem dkX1_0 : decode cX1_init 0 = .ok (.aload_n 0, 1) := by decide +kernel
theorem dkX1_1 : decode cX1_init 1 = .ok (.invokespecial 3, 3) := by decide +kernel
theorem dkX1_4 : decode cX1_init 4 = .ok (.aload_n 0, 1) := by decide +kernel
theorem dkX1_5 : decode cX1_init 5 = .ok (.bipush 30, 2) := by decide +kernel
theorem dkX1_7 : decode cX1_init 7 = .ok (.newarray .long, 2) := by decide +kernel
theorem dkX1_9 : decode cX1_init 9 = .ok (.putfield 11, 3) := by decide +kernel
theorem dkX1_12 : decode cX1_init 12 = .ok (.aload_n 0, 1) := by decide +kernel
theorem dkX1_13 : decode cX1_init 13 = .ok (.bipush 30, 2) := by decide +kernel
theorem dkX1_15 : decode cX1_init 15 = .ok (.newarray .long, 2) := by decide +kernel
theorem dkX1_17 : decode cX1_init 17 = .ok (.putfield 15, 3) := by decide +kernel
theorem dkX1_20 : decode cX1_init 20 = .ok (.aload_n 0, 1) := by decide +kernel
theorem dkX1_21 : decode cX1_init 21 = .ok (.lconst 1, 1) := by decide +kernel
theorem dkX1_22 : decode cX1_init 22 = .ok (.putfield 18, 3) := by decide +kernel
theorem dkX1_25 : decode cX1_init 25 = .ok (.return_, 1) := by decide +kernel
def fin_X1 (cA : Nat → ClassId) (f : Nat → Nat) (h0 : Nat) : va_W := [(h0, .inr (1, [.ref (f 0), .ref (f 1), .int 0, .int 0, .long 0, .long 1])), ((f 0), .inl (cA 1, 30, .inr (.inl (fun _ => 0)))), ((f 1), .inl (cA 1, 30, .inr (.inl (fun _ => 0))))]
set_option maxRecDepth 100000 in
set_option maxHeartbeats 4000000 in
theorem wkX1_init : Cond.code yX1_init cX1_init 1 none ∈ eTb := tb2 44 rfl rfl
theorem hdX1_init : yX1_init.cls ≠ "java/lang/invoke/MethodHandle" ∧ yX1_init.cls ≠ "java/lang/invoke/VarHandle" ∧ (parseMethodDescriptor yX1_init.desc).map (fun d => d.parameters.length) = some 0 := by decide +kernel
set_option maxRecDepth 100000 in
set_option maxHeartbeats 4000000 in
theorem ct_X1 (l : Launch) (D : va_G) (cA : Nat → ClassId) (aK aV : Nat) (h0 sz : Nat) : Met l yX1_init (eWd yX1_init cX1_init 1 none) { frames := 1, cells := 2, slots := 60, locals := 12 } (va_Pc [.ref h0] (fun U => U.heap.size = sz ∧ va_P D vwCl [(h0, .inr (1, [.null, .null, .int 0, .int 0, .long 0, .long 0]))] U.heap ∧ va_K D vwCl (eTys cA) U ∧ va_D (fun _ => True) [(h0, .inr (1, [.null, .null, .int 0, .int 0, .long 0, .long 0]))] ∧ eEx aK aV (va_A [(h0, .inr (1, [.null, .null, .int 0, .int 0, .long 0, .long 0]))] sz) U)) (va_Qv (fun _ : Nat → Nat => True) (fun f t => va_P D vwCl (fin_X1 cA f h0) t.heap ∧ va_D (va_A [(h0, .inr (1, [.null, .null, .int 0, .int 0, .long 0, .long 0]))] sz) (fin_X1 cA f h0)) (va_A [(h0, .inr (1, [.null, .null, .int 0, .int 0, .long 0, .long 0]))] sz)) 2 60 (va_A [(h0, .inr (1, [.null, .null, .int 0, .int 0, .long 0, .long 0]))] sz) := by
  refine Met.ofW (cc := cX1_init) (maxL := 1) (ret := none) (by decide +kernel) rfl ?_
  intro p e s m args below meth c s₁ B hml hv
  obtain ⟨rfl, hsz, hP, hK, hD0, hEx⟩ := hv
  have hx := B.exec
  have hb := B.bytes
  have hr := B.returns
  have hts := atoms_spec (ws := eWd yX1_init cX1_init 1 none) B.pre
  have hown : s.vm.findClass RX1 = some m.cls := findClass_of_methodNamed B.named
  have hlocks := B.notSynchronized
  have hin : meth.name = "<init>" := (name_of_methodNamed B.named B.method).1
  subst hsz
  have hD := hD0.self (sz := s.heap.size)
  generalize hAe : va_A [(h0, .inr (1, [.null, .null, .int 0, .int 0, .long 0, .long 0]))] s.heap.size = A at hD hEx ⊢
  have hA : ∀ q : Nat, s.heap.size ≤ q → A q := fun q h => by rw [← hAe]; exact Or.inr h
  have hS : va_S A s.heap s.heap [] := va_S.rf
  have hP : va_P D vwCl [(h0, .inr (1, [.null, .null, .int 0, .int 0, .long 0, .long 0]))] s.heap := hP
  have hl := lv_entry ([.ref h0]) (n := 1) (Nat.le_of_ble_eq_true rfl)
  rw [lg_entry_eq]
  generalize (lg_sl ([.ref h0]) ++ List.replicate (1 - (lg_sl ([.ref h0])).length) Slot.unset).toArray = ls at hl ⊢
  have hl : lv_has ls 1 [(0, .ref h0)] := hl
  refine lv_aload_n hx hb dkX1_0 rfl (lv_at hl 0 rfl) ?_
  refine W.objInit hx hb hown (hts (.methodLink RX1 3 objectInit) (eTb_wd _ (tb2 45 rfl rfl))) (hts (.instanceMethod objectInit) (eTb_wd _ (tb1 27 rfl rfl))) (hts (.code objectInit ⟨#[0xb1]⟩ 1 none) (eTb_wd _ (tb1 28 rfl rfl))) rfl (by rw [hml]; exact hl.1) rfl dkX1_1 (Nat.le_of_ble_eq_true rfl) (Nat.le_of_ble_eq_true rfl) ?_
  refine W.eq (g2 := F0 m 4 ls []) rfl ?_
  refine lv_aload_n hx hb dkX1_4 rfl (lv_at hl 0 rfl) ?_
  refine lv_bipush (v := (30 : Int32)) hx hb dkX1_5 (by decide) ?_
  refine va_newa (atype := .long) (ty := .long) (a0 := (30, .inr (.inl (fun _ => 0)))) hx hb (hts (.arrayClass .long) (eTb_wd _ (tb1 95 rfl rfl))) rfl hK hP hD hS hA (fun _ => rfl) (by decide) rfl (Nat.le_of_ble_eq_true rfl) (Nat.le_of_ble_eq_true rfl) (Nat.le_of_ble_eq_true rfl) dkX1_7 (fun q7 cZ H hKn hP hD hS => ?_)
  have eZ : cZ = cA 1 := Option.some.inj ((hKn.2 4 _ rfl).2.symm.trans (hK.2 1 _ rfl).2)
  subst eZ
  clear hKn
  have hP : va_P D vwCl [(h0, .inr (1, [.null, .null, .int 0, .int 0, .long 0, .long 0])), (q7, .inl (cA 1, 30, .inr (.inl (fun _ => 0))))] H := hP
  have hD : va_D A [(h0, .inr (1, [.null, .null, .int 0, .int 0, .long 0, .long 0])), (q7, .inl (cA 1, 30, .inr (.inl (fun _ => 0))))] := hD
  refine W.widen (k := 1) (n := 30) (by omega) (by omega) ?_
  refine va_putF (D := D) (ci := 1) (v := .ref q7) (ty := .array .long) (C := RX1) (T := TX1) (N := 6) hx hb hts (fun w h => eTb_wd w (wfX1 w h)) tyX1 tyX1_ok nmX1 hown hK hP hD hS 0 rfl rfl 0 (by decide) (hts (.fieldLink RX1 11 "ExitFalls$Breaks" "above" "[J") (eTb_wd _ (tb2 46 rfl rfl))) (fun _ h9 => h9) rfl hin rfl (by decide +kernel) rfl rfl (Nat.le_of_ble_eq_true rfl) dkX1_9 (fun H locs hP hD hS => ?_)
  have hP : va_P D vwCl [(h0, .inr (1, [.ref q7, .null, .int 0, .int 0, .long 0, .long 0])), (q7, .inl (cA 1, 30, .inr (.inl (fun _ => 0))))] H := hP
  have hD : va_D A [(h0, .inr (1, [.ref q7, .null, .int 0, .int 0, .long 0, .long 0])), (q7, .inl (cA 1, 30, .inr (.inl (fun _ => 0))))] := hD
  refine lv_aload_n hx hb dkX1_12 rfl (lv_at hl 0 rfl) ?_
  refine lv_bipush (v := (30 : Int32)) hx hb dkX1_13 (by decide) ?_
  refine va_newa (atype := .long) (ty := .long) (a0 := (30, .inr (.inl (fun _ => 0)))) hx hb (hts (.arrayClass .long) (eTb_wd _ (tb1 95 rfl rfl))) rfl hK hP hD hS hA (fun _ => rfl) (by decide) rfl (Nat.le_of_ble_eq_true rfl) (Nat.le_of_ble_eq_true rfl) (Nat.le_of_ble_eq_true rfl) dkX1_15 (fun q15 cZ H hKn hP hD hS => ?_)
  have eZ : cZ = cA 1 := Option.some.inj ((hKn.2 4 _ rfl).2.symm.trans (hK.2 1 _ rfl).2)
  subst eZ
  clear hKn
  have hP : va_P D vwCl [(h0, .inr (1, [.ref q7, .null, .int 0, .int 0, .long 0, .long 0])), (q7, .inl (cA 1, 30, .inr (.inl (fun _ => 0)))), (q15, .inl (cA 1, 30, .inr (.inl (fun _ => 0))))] H := hP
  have hD : va_D A [(h0, .inr (1, [.ref q7, .null, .int 0, .int 0, .long 0, .long 0])), (q7, .inl (cA 1, 30, .inr (.inl (fun _ => 0)))), (q15, .inl (cA 1, 30, .inr (.inl (fun _ => 0))))] := hD
  refine W.widen (k := 2) (n := 60) (by omega) (by omega) ?_
  refine va_putF (D := D) (ci := 1) (v := .ref q15) (ty := .array .long) (C := RX1) (T := TX1) (N := 6) hx hb hts (fun w h => eTb_wd w (wfX1 w h)) tyX1 tyX1_ok nmX1 hown hK hP hD hS 0 rfl rfl 1 (by decide) (hts (.fieldLink RX1 15 "ExitFalls$Breaks" "below" "[J") (eTb_wd _ (tb2 48 rfl rfl))) (fun _ h9 => h9) rfl hin rfl (by decide +kernel) rfl rfl (Nat.le_of_ble_eq_true rfl) dkX1_17 (fun H locs hP hD hS => ?_)
  have hP : va_P D vwCl [(h0, .inr (1, [.ref q7, .ref q15, .int 0, .int 0, .long 0, .long 0])), (q7, .inl (cA 1, 30, .inr (.inl (fun _ => 0)))), (q15, .inl (cA 1, 30, .inr (.inl (fun _ => 0))))] H := hP
  have hD : va_D A [(h0, .inr (1, [.ref q7, .ref q15, .int 0, .int 0, .long 0, .long 0])), (q7, .inl (cA 1, 30, .inr (.inl (fun _ => 0)))), (q15, .inl (cA 1, 30, .inr (.inl (fun _ => 0))))] := hD
  refine lv_aload_n hx hb dkX1_20 rfl (lv_at hl 0 rfl) ?_
  refine lv_lconst (v := 1) hx hb dkX1_21 (by decide) ?_
  refine va_put (D := D) (ci := 1) (v := .long 1) (ty := .long) (C := RX1) (T := TX1) (N := 6) hx hb hts (fun w h => eTb_wd w (wfX1 w h)) tyX1 tyX1_ok nmX1 hown hK hP hD hS 0 rfl rfl 5 (by decide) (hts (.fieldLink RX1 18 "ExitFalls$Breaks" "partBelow" "J") (eTb_wd _ (tb2 55 rfl rfl))) (fun _ h9 => h9) rfl (by decide +kernel) rfl rfl (Nat.le_of_ble_eq_true rfl) dkX1_22 (fun H locs hP hD hS => ?_)
  have hP : va_P D vwCl [(h0, .inr (1, [.ref q7, .ref q15, .int 0, .int 0, .long 0, .long 1])), (q7, .inl (cA 1, 30, .inr (.inl (fun _ => 0)))), (q15, .inl (cA 1, 30, .inr (.inl (fun _ => 0))))] H := hP
  have hD : va_D A [(h0, .inr (1, [.ref q7, .ref q15, .int 0, .int 0, .long 0, .long 1])), (q7, .inl (cA 1, 30, .inr (.inl (fun _ => 0)))), (q15, .inl (cA 1, 30, .inr (.inl (fun _ => 0))))] := hD
  have hP9 := hP.sub (ws' := [(h0, .inr (1, [.ref q7, .ref q15, .int 0, .int 0, .long 0, .long 1])), (q7, .inl (cA 1, 30, .inr (.inl (fun _ => 0)))), (q15, .inl (cA 1, 30, .inr (.inl (fun _ => 0))))]) [0, 1, 2] rfl
  have hD9 := hD.sub (ws' := [(h0, .inr (1, [.ref q7, .ref q15, .int 0, .int 0, .long 0, .long 1])), (q7, .inl (cA 1, 30, .inr (.inl (fun _ => 0)))), (q15, .inl (cA 1, 30, .inr (.inl (fun _ => 0))))]) [0, 1, 2] (by decide) rfl
  exact W.vret hx hb hr (fun t ht hW => ⟨⟨(fun i => match i with | 0 => q7 | 1 => q15 | _ => 0), rfl, trivial, by rw [ht]; exact hP9, hD9⟩, hS.F ht⟩) hS.2.2 dkX1_25
theorem dkX2_0 : decode cX2_init 0 = .ok (.aload_n 0, 1) := by decide +kernel
theorem dkX2_1 : decode cX2_init 1 = .ok (.invokespecial 3, 3) := by decide +kernel
theorem dkX2_4 : decode cX2_init 4 = .ok (.aload_n 0, 1) := by decide +kernel
theorem dkX2_5 : decode cX2_init 5 = .ok (.bipush 12, 2) := by decide +kernel
theorem dkX2_7 : decode cX2_init 7 = .ok (.newarray .long, 2) := by decide +kernel
theorem dkX2_9 : decode cX2_init 9 = .ok (.putfield 9, 3) := by decide +kernel
theorem dkX2_12 : decode cX2_init 12 = .ok (.aload_n 0, 1) := by decide +kernel
theorem dkX2_13 : decode cX2_init 13 = .ok (.bipush 12, 2) := by decide +kernel
theorem dkX2_15 : decode cX2_init 15 = .ok (.newarray .long, 2) := by decide +kernel
theorem dkX2_17 : decode cX2_init 17 = .ok (.putfield 15, 3) := by decide +kernel
theorem dkX2_20 : decode cX2_init 20 = .ok (.aload_n 0, 1) := by decide +kernel
theorem dkX2_21 : decode cX2_init 21 = .ok (.bipush 12, 2) := by decide +kernel
theorem dkX2_23 : decode cX2_init 23 = .ok (.newarray .long, 2) := by decide +kernel
theorem dkX2_25 : decode cX2_init 25 = .ok (.putfield 18, 3) := by decide +kernel
theorem dkX2_28 : decode cX2_init 28 = .ok (.aload_n 0, 1) := by decide +kernel
theorem dkX2_29 : decode cX2_init 29 = .ok (.bipush 12, 2) := by decide +kernel
theorem dkX2_31 : decode cX2_init 31 = .ok (.newarray .long, 2) := by decide +kernel
theorem dkX2_33 : decode cX2_init 33 = .ok (.putfield 21, 3) := by decide +kernel
theorem dkX2_36 : decode cX2_init 36 = .ok (.aload_n 0, 1) := by decide +kernel
theorem dkX2_37 : decode cX2_init 37 = .ok (.bipush 24, 2) := by decide +kernel
theorem dkX2_39 : decode cX2_init 39 = .ok (.newarray .int, 2) := by decide +kernel
theorem dkX2_41 : decode cX2_init 41 = .ok (.putfield 24, 3) := by decide +kernel
theorem dkX2_44 : decode cX2_init 44 = .ok (.aload_n 0, 1) := by decide +kernel
theorem dkX2_45 : decode cX2_init 45 = .ok (.bipush 24, 2) := by decide +kernel
theorem dkX2_47 : decode cX2_init 47 = .ok (.newarray .int, 2) := by decide +kernel
theorem dkX2_49 : decode cX2_init 49 = .ok (.putfield 28, 3) := by decide +kernel
theorem dkX2_52 : decode cX2_init 52 = .ok (.aload_n 0, 1) := by decide +kernel
theorem dkX2_53 : decode cX2_init 53 = .ok (.bipush 24, 2) := by decide +kernel
theorem dkX2_55 : decode cX2_init 55 = .ok (.newarray .int, 2) := by decide +kernel
theorem dkX2_57 : decode cX2_init 57 = .ok (.putfield 31, 3) := by decide +kernel
theorem dkX2_60 : decode cX2_init 60 = .ok (.aload_n 0, 1) := by decide +kernel
theorem dkX2_61 : decode cX2_init 61 = .ok (.bipush 24, 2) := by decide +kernel
theorem dkX2_63 : decode cX2_init 63 = .ok (.newarray .int, 2) := by decide +kernel
theorem dkX2_65 : decode cX2_init 65 = .ok (.putfield 34, 3) := by decide +kernel
theorem dkX2_68 : decode cX2_init 68 = .ok (.aload_n 0, 1) := by decide +kernel
theorem dkX2_69 : decode cX2_init 69 = .ok (.bipush 24, 2) := by decide +kernel
theorem dkX2_71 : decode cX2_init 71 = .ok (.newarray .long, 2) := by decide +kernel
theorem dkX2_73 : decode cX2_init 73 = .ok (.putfield 37, 3) := by decide +kernel
theorem dkX2_76 : decode cX2_init 76 = .ok (.aload_n 0, 1) := by decide +kernel
theorem dkX2_77 : decode cX2_init 77 = .ok (.bipush 24, 2) := by decide +kernel
theorem dkX2_79 : decode cX2_init 79 = .ok (.newarray .long, 2) := by decide +kernel
theorem dkX2_81 : decode cX2_init 81 = .ok (.putfield 40, 3) := by decide +kernel
theorem dkX2_84 : decode cX2_init 84 = .ok (.return_, 1) := by decide +kernel
def fin_X2 (cA : Nat → ClassId) (f : Nat → Nat) (h0 : Nat) : va_W := [(h0, .inr (2, [.int 0, .ref (f 0), .ref (f 1), .ref (f 2), .ref (f 3), .long 0, .long 0, .int 0, .ref (f 4), .ref (f 5), .ref (f 6), .ref (f 7), .ref (f 8), .ref (f 9)])), ((f 0), .inl (cA 1, 12, .inr (.inl (fun _ => 0)))), ((f 1), .inl (cA 1, 12, .inr (.inl (fun _ => 0)))), ((f 2), .inl (cA 1, 12, .inr (.inl (fun _ => 0)))), ((f 3), .inl (cA 1, 12, .inr (.inl (fun _ => 0)))), ((f 4), .inl (cA 0, 24, .inl (fun _ => 0))), ((f 5), .inl (cA 0, 24, .inl (fun _ => 0))), ((f 6), .inl (cA 0, 24, .inl (fun _ => 0))), ((f 7), .inl (cA 0, 24, .inl (fun _ => 0))), ((f 8), .inl (cA 1, 24, .inr (.inl (fun _ => 0)))), ((f 9), .inl (cA 1, 24, .inr (.inl (fun _ => 0))))]
set_option maxRecDepth 100000 in
set_option maxHeartbeats 4000000 in
theorem wkX2_init : Cond.code yX2_init cX2_init 1 none ∈ eTb := tb1 187 rfl rfl
theorem hdX2_init : yX2_init.cls ≠ "java/lang/invoke/MethodHandle" ∧ yX2_init.cls ≠ "java/lang/invoke/VarHandle" ∧ (parseMethodDescriptor yX2_init.desc).map (fun d => d.parameters.length) = some 0 := by decide +kernel
set_option maxRecDepth 100000 in
set_option maxHeartbeats 4000000 in
theorem ct_X2 (l : Launch) (D : va_G) (cA : Nat → ClassId) (aK aV : Nat) (h0 sz : Nat) : Met l yX2_init (eWd yX2_init cX2_init 1 none) { frames := 1, cells := 10, slots := 192, locals := 12 } (va_Pc [.ref h0] (fun U => U.heap.size = sz ∧ va_P D vwCl [(h0, .inr (2, [.int 0, .null, .null, .null, .null, .long 0, .long 0, .int 0, .null, .null, .null, .null, .null, .null]))] U.heap ∧ va_K D vwCl (eTys cA) U ∧ va_D (fun _ => True) [(h0, .inr (2, [.int 0, .null, .null, .null, .null, .long 0, .long 0, .int 0, .null, .null, .null, .null, .null, .null]))] ∧ eEx aK aV (va_A [(h0, .inr (2, [.int 0, .null, .null, .null, .null, .long 0, .long 0, .int 0, .null, .null, .null, .null, .null, .null]))] sz) U)) (va_Qv (fun _ : Nat → Nat => True) (fun f t => va_P D vwCl (fin_X2 cA f h0) t.heap ∧ va_D (va_A [(h0, .inr (2, [.int 0, .null, .null, .null, .null, .long 0, .long 0, .int 0, .null, .null, .null, .null, .null, .null]))] sz) (fin_X2 cA f h0)) (va_A [(h0, .inr (2, [.int 0, .null, .null, .null, .null, .long 0, .long 0, .int 0, .null, .null, .null, .null, .null, .null]))] sz)) 10 192 (va_A [(h0, .inr (2, [.int 0, .null, .null, .null, .null, .long 0, .long 0, .int 0, .null, .null, .null, .null, .null, .null]))] sz) := by
  refine Met.ofW (cc := cX2_init) (maxL := 1) (ret := none) (by decide +kernel) rfl ?_
  intro p e s m args below meth c s₁ B hml hv
  obtain ⟨rfl, hsz, hP, hK, hD0, hEx⟩ := hv
  have hx := B.exec
  have hb := B.bytes
  have hr := B.returns
  have hts := atoms_spec (ws := eWd yX2_init cX2_init 1 none) B.pre
  have hown : s.vm.findClass RX2 = some m.cls := findClass_of_methodNamed B.named
  have hlocks := B.notSynchronized
  have hin : meth.name = "<init>" := (name_of_methodNamed B.named B.method).1
  subst hsz
  have hD := hD0.self (sz := s.heap.size)
  generalize hAe : va_A [(h0, .inr (2, [.int 0, .null, .null, .null, .null, .long 0, .long 0, .int 0, .null, .null, .null, .null, .null, .null]))] s.heap.size = A at hD hEx ⊢
  have hA : ∀ q : Nat, s.heap.size ≤ q → A q := fun q h => by rw [← hAe]; exact Or.inr h
  have hS : va_S A s.heap s.heap [] := va_S.rf
  have hP : va_P D vwCl [(h0, .inr (2, [.int 0, .null, .null, .null, .null, .long 0, .long 0, .int 0, .null, .null, .null, .null, .null, .null]))] s.heap := hP
  have hl := lv_entry ([.ref h0]) (n := 1) (Nat.le_of_ble_eq_true rfl)
  rw [lg_entry_eq]
  generalize (lg_sl ([.ref h0]) ++ List.replicate (1 - (lg_sl ([.ref h0])).length) Slot.unset).toArray = ls at hl ⊢
  have hl : lv_has ls 1 [(0, .ref h0)] := hl
  refine lv_aload_n hx hb dkX2_0 rfl (lv_at hl 0 rfl) ?_
  refine W.objInit hx hb hown (hts (.methodLink RX2 3 objectInit) (eTb_wd _ (tb1 188 rfl rfl))) (hts (.instanceMethod objectInit) (eTb_wd _ (tb1 27 rfl rfl))) (hts (.code objectInit ⟨#[0xb1]⟩ 1 none) (eTb_wd _ (tb1 28 rfl rfl))) rfl (by rw [hml]; exact hl.1) rfl dkX2_1 (Nat.le_of_ble_eq_true rfl) (Nat.le_of_ble_eq_true rfl) ?_
  refine W.eq (g2 := F0 m 4 ls []) rfl ?_
  refine lv_aload_n hx hb dkX2_4 rfl (lv_at hl 0 rfl) ?_
  refine lv_bipush (v := (12 : Int32)) hx hb dkX2_5 (by decide) ?_
  refine va_newa (atype := .long) (ty := .long) (a0 := (12, .inr (.inl (fun _ => 0)))) hx hb (hts (.arrayClass .long) (eTb_wd _ (tb1 95 rfl rfl))) rfl hK hP hD hS hA (fun _ => rfl) (by decide) rfl (Nat.le_of_ble_eq_true rfl) (Nat.le_of_ble_eq_true rfl) (Nat.le_of_ble_eq_true rfl) dkX2_7 (fun q7 cZ H hKn hP hD hS => ?_)
  have eZ : cZ = cA 1 := Option.some.inj ((hKn.2 4 _ rfl).2.symm.trans (hK.2 1 _ rfl).2)
  subst eZ
  clear hKn
  have hP : va_P D vwCl [(h0, .inr (2, [.int 0, .null, .null, .null, .null, .long 0, .long 0, .int 0, .null, .null, .null, .null, .null, .null])), (q7, .inl (cA 1, 12, .inr (.inl (fun _ => 0))))] H := hP
  have hD : va_D A [(h0, .inr (2, [.int 0, .null, .null, .null, .null, .long 0, .long 0, .int 0, .null, .null, .null, .null, .null, .null])), (q7, .inl (cA 1, 12, .inr (.inl (fun _ => 0))))] := hD
  refine W.widen (k := 1) (n := 12) (by omega) (by omega) ?_
  refine va_putF (D := D) (ci := 2) (v := .ref q7) (ty := .array .long) (C := RX2) (T := TX2) (N := 14) hx hb hts (fun w h => eTb_wd w (wfX2 w h)) tyX2 tyX2_ok nmX2 hown hK hP hD hS 0 rfl rfl 1 (by decide) (hts (.fieldLink RX2 9 "ExitFalls$Curves" "startFixed" "[J") (eTb_wd _ (tb1 192 rfl rfl))) (fun _ h9 => h9) rfl hin rfl (by decide +kernel) rfl rfl (Nat.le_of_ble_eq_true rfl) dkX2_9 (fun H locs hP hD hS => ?_)
  have hP : va_P D vwCl [(h0, .inr (2, [.int 0, .ref q7, .null, .null, .null, .long 0, .long 0, .int 0, .null, .null, .null, .null, .null, .null])), (q7, .inl (cA 1, 12, .inr (.inl (fun _ => 0))))] H := hP
  have hD : va_D A [(h0, .inr (2, [.int 0, .ref q7, .null, .null, .null, .long 0, .long 0, .int 0, .null, .null, .null, .null, .null, .null])), (q7, .inl (cA 1, 12, .inr (.inl (fun _ => 0))))] := hD
  refine lv_aload_n hx hb dkX2_12 rfl (lv_at hl 0 rfl) ?_
  refine lv_bipush (v := (12 : Int32)) hx hb dkX2_13 (by decide) ?_
  refine va_newa (atype := .long) (ty := .long) (a0 := (12, .inr (.inl (fun _ => 0)))) hx hb (hts (.arrayClass .long) (eTb_wd _ (tb1 95 rfl rfl))) rfl hK hP hD hS hA (fun _ => rfl) (by decide) rfl (Nat.le_of_ble_eq_true rfl) (Nat.le_of_ble_eq_true rfl) (Nat.le_of_ble_eq_true rfl) dkX2_15 (fun q15 cZ H hKn hP hD hS => ?_)
  have eZ : cZ = cA 1 := Option.some.inj ((hKn.2 4 _ rfl).2.symm.trans (hK.2 1 _ rfl).2)
  subst eZ
  clear hKn
  have hP : va_P D vwCl [(h0, .inr (2, [.int 0, .ref q7, .null, .null, .null, .long 0, .long 0, .int 0, .null, .null, .null, .null, .null, .null])), (q7, .inl (cA 1, 12, .inr (.inl (fun _ => 0)))), (q15, .inl (cA 1, 12, .inr (.inl (fun _ => 0))))] H := hP
  have hD : va_D A [(h0, .inr (2, [.int 0, .ref q7, .null, .null, .null, .long 0, .long 0, .int 0, .null, .null, .null, .null, .null, .null])), (q7, .inl (cA 1, 12, .inr (.inl (fun _ => 0)))), (q15, .inl (cA 1, 12, .inr (.inl (fun _ => 0))))] := hD
  refine W.widen (k := 2) (n := 24) (by omega) (by omega) ?_
  refine va_putF (D := D) (ci := 2) (v := .ref q15) (ty := .array .long) (C := RX2) (T := TX2) (N := 14) hx hb hts (fun w h => eTb_wd w (wfX2 w h)) tyX2 tyX2_ok nmX2 hown hK hP hD hS 0 rfl rfl 2 (by decide) (hts (.fieldLink RX2 15 "ExitFalls$Curves" "startSlope" "[J") (eTb_wd _ (tb1 195 rfl rfl))) (fun _ h9 => h9) rfl hin rfl (by decide +kernel) rfl rfl (Nat.le_of_ble_eq_true rfl) dkX2_17 (fun H locs hP hD hS => ?_)
  have hP : va_P D vwCl [(h0, .inr (2, [.int 0, .ref q7, .ref q15, .null, .null, .long 0, .long 0, .int 0, .null, .null, .null, .null, .null, .null])), (q7, .inl (cA 1, 12, .inr (.inl (fun _ => 0)))), (q15, .inl (cA 1, 12, .inr (.inl (fun _ => 0))))] H := hP
  have hD : va_D A [(h0, .inr (2, [.int 0, .ref q7, .ref q15, .null, .null, .long 0, .long 0, .int 0, .null, .null, .null, .null, .null, .null])), (q7, .inl (cA 1, 12, .inr (.inl (fun _ => 0)))), (q15, .inl (cA 1, 12, .inr (.inl (fun _ => 0))))] := hD
  refine lv_aload_n hx hb dkX2_20 rfl (lv_at hl 0 rfl) ?_
  refine lv_bipush (v := (12 : Int32)) hx hb dkX2_21 (by decide) ?_
  refine va_newa (atype := .long) (ty := .long) (a0 := (12, .inr (.inl (fun _ => 0)))) hx hb (hts (.arrayClass .long) (eTb_wd _ (tb1 95 rfl rfl))) rfl hK hP hD hS hA (fun _ => rfl) (by decide) rfl (Nat.le_of_ble_eq_true rfl) (Nat.le_of_ble_eq_true rfl) (Nat.le_of_ble_eq_true rfl) dkX2_23 (fun q23 cZ H hKn hP hD hS => ?_)
  have eZ : cZ = cA 1 := Option.some.inj ((hKn.2 4 _ rfl).2.symm.trans (hK.2 1 _ rfl).2)
  subst eZ
  clear hKn
  have hP : va_P D vwCl [(h0, .inr (2, [.int 0, .ref q7, .ref q15, .null, .null, .long 0, .long 0, .int 0, .null, .null, .null, .null, .null, .null])), (q7, .inl (cA 1, 12, .inr (.inl (fun _ => 0)))), (q15, .inl (cA 1, 12, .inr (.inl (fun _ => 0)))), (q23, .inl (cA 1, 12, .inr (.inl (fun _ => 0))))] H := hP
  have hD : va_D A [(h0, .inr (2, [.int 0, .ref q7, .ref q15, .null, .null, .long 0, .long 0, .int 0, .null, .null, .null, .null, .null, .null])), (q7, .inl (cA 1, 12, .inr (.inl (fun _ => 0)))), (q15, .inl (cA 1, 12, .inr (.inl (fun _ => 0)))), (q23, .inl (cA 1, 12, .inr (.inl (fun _ => 0))))] := hD
  refine W.widen (k := 3) (n := 36) (by omega) (by omega) ?_
  refine va_putF (D := D) (ci := 2) (v := .ref q23) (ty := .array .long) (C := RX2) (T := TX2) (N := 14) hx hb hts (fun w h => eTb_wd w (wfX2 w h)) tyX2 tyX2_ok nmX2 hown hK hP hD hS 0 rfl rfl 3 (by decide) (hts (.fieldLink RX2 18 "ExitFalls$Curves" "fixed" "[J") (eTb_wd _ (tb1 196 rfl rfl))) (fun _ h9 => h9) rfl hin rfl (by decide +kernel) rfl rfl (Nat.le_of_ble_eq_true rfl) dkX2_25 (fun H locs hP hD hS => ?_)
  have hP : va_P D vwCl [(h0, .inr (2, [.int 0, .ref q7, .ref q15, .ref q23, .null, .long 0, .long 0, .int 0, .null, .null, .null, .null, .null, .null])), (q7, .inl (cA 1, 12, .inr (.inl (fun _ => 0)))), (q15, .inl (cA 1, 12, .inr (.inl (fun _ => 0)))), (q23, .inl (cA 1, 12, .inr (.inl (fun _ => 0))))] H := hP
  have hD : va_D A [(h0, .inr (2, [.int 0, .ref q7, .ref q15, .ref q23, .null, .long 0, .long 0, .int 0, .null, .null, .null, .null, .null, .null])), (q7, .inl (cA 1, 12, .inr (.inl (fun _ => 0)))), (q15, .inl (cA 1, 12, .inr (.inl (fun _ => 0)))), (q23, .inl (cA 1, 12, .inr (.inl (fun _ => 0))))] := hD
  refine lv_aload_n hx hb dkX2_28 rfl (lv_at hl 0 rfl) ?_
  refine lv_bipush (v := (12 : Int32)) hx hb dkX2_29 (by decide) ?_
  refine va_newa (atype := .long) (ty := .long) (a0 := (12, .inr (.inl (fun _ => 0)))) hx hb (hts (.arrayClass .long) (eTb_wd _ (tb1 95 rfl rfl))) rfl hK hP hD hS hA (fun _ => rfl) (by decide) rfl (Nat.le_of_ble_eq_true rfl) (Nat.le_of_ble_eq_true rfl) (Nat.le_of_ble_eq_true rfl) dkX2_31 (fun q31 cZ H hKn hP hD hS => ?_)
  have eZ : cZ = cA 1 := Option.some.inj ((hKn.2 4 _ rfl).2.symm.trans (hK.2 1 _ rfl).2)
  subst eZ
  clear hKn
  have hP : va_P D vwCl [(h0, .inr (2, [.int 0, .ref q7, .ref q15, .ref q23, .null, .long 0, .long 0, .int 0, .null, .null, .null, .null, .null, .null])), (q7, .inl (cA 1, 12, .inr (.inl (fun _ => 0)))), (q15, .inl (cA 1, 12, .inr (.inl (fun _ => 0)))), (q23, .inl (cA 1, 12, .inr (.inl (fun _ => 0)))), (q31, .inl (cA 1, 12, .inr (.inl (fun _ => 0))))] H := hP
  have hD : va_D A [(h0, .inr (2, [.int 0, .ref q7, .ref q15, .ref q23, .null, .long 0, .long 0, .int 0, .null, .null, .null, .null, .null, .null])), (q7, .inl (cA 1, 12, .inr (.inl (fun _ => 0)))), (q15, .inl (cA 1, 12, .inr (.inl (fun _ => 0)))), (q23, .inl (cA 1, 12, .inr (.inl (fun _ => 0)))), (q31, .inl (cA 1, 12, .inr (.inl (fun _ => 0))))] := hD
  refine W.widen (k := 4) (n := 48) (by omega) (by omega) ?_
  refine va_putF (D := D) (ci := 2) (v := .ref q31) (ty := .array .long) (C := RX2) (T := TX2) (N := 14) hx hb hts (fun w h => eTb_wd w (wfX2 w h)) tyX2 tyX2_ok nmX2 hown hK hP hD hS 0 rfl rfl 4 (by decide) (hts (.fieldLink RX2 21 "ExitFalls$Curves" "slope" "[J") (eTb_wd _ (tb1 198 rfl rfl))) (fun _ h9 => h9) rfl hin rfl (by decide +kernel) rfl rfl (Nat.le_of_ble_eq_true rfl) dkX2_33 (fun H locs hP hD hS => ?_)
  have hP : va_P D vwCl [(h0, .inr (2, [.int 0, .ref q7, .ref q15, .ref q23, .ref q31, .long 0, .long 0, .int 0, .null, .null, .null, .null, .null, .null])), (q7, .inl (cA 1, 12, .inr (.inl (fun _ => 0)))), (q15, .inl (cA 1, 12, .inr (.inl (fun _ => 0)))), (q23, .inl (cA 1, 12, .inr (.inl (fun _ => 0)))), (q31, .inl (cA 1, 12, .inr (.inl (fun _ => 0))))] H := hP
  have hD : va_D A [(h0, .inr (2, [.int 0, .ref q7, .ref q15, .ref q23, .ref q31, .long 0, .long 0, .int 0, .null, .null, .null, .null, .null, .null])), (q7, .inl (cA 1, 12, .inr (.inl (fun _ => 0)))), (q15, .inl (cA 1, 12, .inr (.inl (fun _ => 0)))), (q23, .inl (cA 1, 12, .inr (.inl (fun _ => 0)))), (q31, .inl (cA 1, 12, .inr (.inl (fun _ => 0))))] := hD
  refine lv_aload_n hx hb dkX2_36 rfl (lv_at hl 0 rfl) ?_
  refine lv_bipush (v := (24 : Int32)) hx hb dkX2_37 (by decide) ?_
  refine va_newa (atype := .int) (ty := .int) (a0 := (24, .inl (fun _ => 0))) hx hb (hts (.arrayClass .int) (eTb_wd _ (tb1 96 rfl rfl))) rfl hK hP hD hS hA (fun _ => rfl) (by decide) rfl (Nat.le_of_ble_eq_true rfl) (Nat.le_of_ble_eq_true rfl) (Nat.le_of_ble_eq_true rfl) dkX2_39 (fun q39 cZ H hKn hP hD hS => ?_)
  have eZ : cZ = cA 0 := Option.some.inj ((hKn.2 4 _ rfl).2.symm.trans (hK.2 0 _ rfl).2)
  subst eZ
  clear hKn
  have hP : va_P D vwCl [(h0, .inr (2, [.int 0, .ref q7, .ref q15, .ref q23, .ref q31, .long 0, .long 0, .int 0, .null, .null, .null, .null, .null, .null])), (q7, .inl (cA 1, 12, .inr (.inl (fun _ => 0)))), (q15, .inl (cA 1, 12, .inr (.inl (fun _ => 0)))), (q23, .inl (cA 1, 12, .inr (.inl (fun _ => 0)))), (q31, .inl (cA 1, 12, .inr (.inl (fun _ => 0)))), (q39, .inl (cA 0, 24, .inl (fun _ => 0)))] H := hP
  have hD : va_D A [(h0, .inr (2, [.int 0, .ref q7, .ref q15, .ref q23, .ref q31, .long 0, .long 0, .int 0, .null, .null, .null, .null, .null, .null])), (q7, .inl (cA 1, 12, .inr (.inl (fun _ => 0)))), (q15, .inl (cA 1, 12, .inr (.inl (fun _ => 0)))), (q23, .inl (cA 1, 12, .inr (.inl (fun _ => 0)))), (q31, .inl (cA 1, 12, .inr (.inl (fun _ => 0)))), (q39, .inl (cA 0, 24, .inl (fun _ => 0)))] := hD
  refine W.widen (k := 5) (n := 72) (by omega) (by omega) ?_
  refine va_putF (D := D) (ci := 2) (v := .ref q39) (ty := .array .int) (C := RX2) (T := TX2) (N := 14) hx hb hts (fun w h => eTb_wd w (wfX2 w h)) tyX2 tyX2_ok nmX2 hown hK hP hD hS 0 rfl rfl 8 (by decide) (hts (.fieldLink RX2 24 "ExitFalls$Curves" "order" "[I") (eTb_wd _ (tb1 208 rfl rfl))) (fun _ h9 => h9) rfl hin rfl (by decide +kernel) rfl rfl (Nat.le_of_ble_eq_true rfl) dkX2_41 (fun H locs hP hD hS => ?_)
  have hP : va_P D vwCl [(h0, .inr (2, [.int 0, .ref q7, .ref q15, .ref q23, .ref q31, .long 0, .long 0, .int 0, .ref q39, .null, .null, .null, .null, .null])), (q7, .inl (cA 1, 12, .inr (.inl (fun _ => 0)))), (q15, .inl (cA 1, 12, .inr (.inl (fun _ => 0)))), (q23, .inl (cA 1, 12, .inr (.inl (fun _ => 0)))), (q31, .inl (cA 1, 12, .inr (.inl (fun _ => 0)))), (q39, .inl (cA 0, 24, .inl (fun _ => 0)))] H := hP
  have hD : va_D A [(h0, .inr (2, [.int 0, .ref q7, .ref q15, .ref q23, .ref q31, .long 0, .long 0, .int 0, .ref q39, .null, .null, .null, .null, .null])), (q7, .inl (cA 1, 12, .inr (.inl (fun _ => 0)))), (q15, .inl (cA 1, 12, .inr (.inl (fun _ => 0)))), (q23, .inl (cA 1, 12, .inr (.inl (fun _ => 0)))), (q31, .inl (cA 1, 12, .inr (.inl (fun _ => 0)))), (q39, .inl (cA 0, 24, .inl (fun _ => 0)))] := hD
  refine lv_aload_n hx hb dkX2_44 rfl (lv_at hl 0 rfl) ?_
  refine lv_bipush (v := (24 : Int32)) hx hb dkX2_45 (by decide) ?_
  refine va_newa (atype := .int) (ty := .int) (a0 := (24, .inl (fun _ => 0))) hx hb (hts (.arrayClass .int) (eTb_wd _ (tb1 96 rfl rfl))) rfl hK hP hD hS hA (fun _ => rfl) (by decide) rfl (Nat.le_of_ble_eq_true rfl) (Nat.le_of_ble_eq_true rfl) (Nat.le_of_ble_eq_true rfl) dkX2_47 (fun q47 cZ H hKn hP hD hS => ?_)
  have eZ : cZ = cA 0 := Option.some.inj ((hKn.2 4 _ rfl).2.symm.trans (hK.2 0 _ rfl).2)
  subst eZ
  clear hKn
  have hP : va_P D vwCl [(h0, .inr (2, [.int 0, .ref q7, .ref q15, .ref q23, .ref q31, .long 0, .long 0, .int 0, .ref q39, .null, .null, .null, .null, .null])), (q7, .inl (cA 1, 12, .inr (.inl (fun _ => 0)))), (q15, .inl (cA 1, 12, .inr (.inl (fun _ => 0)))), (q23, .inl (cA 1, 12, .inr (.inl (fun _ => 0)))), (q31, .inl (cA 1, 12, .inr (.inl (fun _ => 0)))), (q39, .inl (cA 0, 24, .inl (fun _ => 0))), (q47, .inl (cA 0, 24, .inl (fun _ => 0)))] H := hP
  have hD : va_D A [(h0, .inr (2, [.int 0, .ref q7, .ref q15, .ref q23, .ref q31, .long 0, .long 0, .int 0, .ref q39, .null, .null, .null, .null, .null])), (q7, .inl (cA 1, 12, .inr (.inl (fun _ => 0)))), (q15, .inl (cA 1, 12, .inr (.inl (fun _ => 0)))), (q23, .inl (cA 1, 12, .inr (.inl (fun _ => 0)))), (q31, .inl (cA 1, 12, .inr (.inl (fun _ => 0)))), (q39, .inl (cA 0, 24, .inl (fun _ => 0))), (q47, .inl (cA 0, 24, .inl (fun _ => 0)))] := hD
  refine W.widen (k := 6) (n := 96) (by omega) (by omega) ?_
  refine va_putF (D := D) (ci := 2) (v := .ref q47) (ty := .array .int) (C := RX2) (T := TX2) (N := 14) hx hb hts (fun w h => eTb_wd w (wfX2 w h)) tyX2 tyX2_ok nmX2 hown hK hP hD hS 0 rfl rfl 9 (by decide) (hts (.fieldLink RX2 28 "ExitFalls$Curves" "who" "[I") (eTb_wd _ (tb1 209 rfl rfl))) (fun _ h9 => h9) rfl hin rfl (by decide +kernel) rfl rfl (Nat.le_of_ble_eq_true rfl) dkX2_49 (fun H locs hP hD hS => ?_)
  have hP : va_P D vwCl [(h0, .inr (2, [.int 0, .ref q7, .ref q15, .ref q23, .ref q31, .long 0, .long 0, .int 0, .ref q39, .ref q47, .null, .null, .null, .null])), (q7, .inl (cA 1, 12, .inr (.inl (fun _ => 0)))), (q15, .inl (cA 1, 12, .inr (.inl (fun _ => 0)))), (q23, .inl (cA 1, 12, .inr (.inl (fun _ => 0)))), (q31, .inl (cA 1, 12, .inr (.inl (fun _ => 0)))), (q39, .inl (cA 0, 24, .inl (fun _ => 0))), (q47, .inl (cA 0, 24, .inl (fun _ => 0)))] H := hP
  have hD : va_D A [(h0, .inr (2, [.int 0, .ref q7, .ref q15, .ref q23, .ref q31, .long 0, .long 0, .int 0, .ref q39, .ref q47, .null, .null, .null, .null])), (q7, .inl (cA 1, 12, .inr (.inl (fun _ => 0)))), (q15, .inl (cA 1, 12, .inr (.inl (fun _ => 0)))), (q23, .inl (cA 1, 12, .inr (.inl (fun _ => 0)))), (q31, .inl (cA 1, 12, .inr (.inl (fun _ => 0)))), (q39, .inl (cA 0, 24, .inl (fun _ => 0))), (q47, .inl (cA 0, 24, .inl (fun _ => 0)))] := hD
  refine lv_aload_n hx hb dkX2_52 rfl (lv_at hl 0 rfl) ?_
  refine lv_bipush (v := (24 : Int32)) hx hb dkX2_53 (by decide) ?_
  refine va_newa (atype := .int) (ty := .int) (a0 := (24, .inl (fun _ => 0))) hx hb (hts (.arrayClass .int) (eTb_wd _ (tb1 96 rfl rfl))) rfl hK hP hD hS hA (fun _ => rfl) (by decide) rfl (Nat.le_of_ble_eq_true rfl) (Nat.le_of_ble_eq_true rfl) (Nat.le_of_ble_eq_true rfl) dkX2_55 (fun q55 cZ H hKn hP hD hS => ?_)
  have eZ : cZ = cA 0 := Option.some.inj ((hKn.2 4 _ rfl).2.symm.trans (hK.2 0 _ rfl).2)
  subst eZ
  clear hKn
  have hP : va_P D vwCl [(h0, .inr (2, [.int 0, .ref q7, .ref q15, .ref q23, .ref q31, .long 0, .long 0, .int 0, .ref q39, .ref q47, .null, .null, .null, .null])), (q7, .inl (cA 1, 12, .inr (.inl (fun _ => 0)))), (q15, .inl (cA 1, 12, .inr (.inl (fun _ => 0)))), (q23, .inl (cA 1, 12, .inr (.inl (fun _ => 0)))), (q31, .inl (cA 1, 12, .inr (.inl (fun _ => 0)))), (q39, .inl (cA 0, 24, .inl (fun _ => 0))), (q47, .inl (cA 0, 24, .inl (fun _ => 0))), (q55, .inl (cA 0, 24, .inl (fun _ => 0)))] H := hP
  have hD : va_D A [(h0, .inr (2, [.int 0, .ref q7, .ref q15, .ref q23, .ref q31, .long 0, .long 0, .int 0, .ref q39, .ref q47, .null, .null, .null, .null])), (q7, .inl (cA 1, 12, .inr (.inl (fun _ => 0)))), (q15, .inl (cA 1, 12, .inr (.inl (fun _ => 0)))), (q23, .inl (cA 1, 12, .inr (.inl (fun _ => 0)))), (q31, .inl (cA 1, 12, .inr (.inl (fun _ => 0)))), (q39, .inl (cA 0, 24, .inl (fun _ => 0))), (q47, .inl (cA 0, 24, .inl (fun _ => 0))), (q55, .inl (cA 0, 24, .inl (fun _ => 0)))] := hD
  refine W.widen (k := 7) (n := 120) (by omega) (by omega) ?_
  refine va_putF (D := D) (ci := 2) (v := .ref q55) (ty := .array .int) (C := RX2) (T := TX2) (N := 14) hx hb hts (fun w h => eTb_wd w (wfX2 w h)) tyX2 tyX2_ok nmX2 hown hK hP hD hS 0 rfl rfl 10 (by decide) (hts (.fieldLink RX2 31 "ExitFalls$Curves" "rise" "[I") (eTb_wd _ (tb1 210 rfl rfl))) (fun _ h9 => h9) rfl hin rfl (by decide +kernel) rfl rfl (Nat.le_of_ble_eq_true rfl) dkX2_57 (fun H locs hP hD hS => ?_)
  have hP : va_P D vwCl [(h0, .inr (2, [.int 0, .ref q7, .ref q15, .ref q23, .ref q31, .long 0, .long 0, .int 0, .ref q39, .ref q47, .ref q55, .null, .null, .null])), (q7, .inl (cA 1, 12, .inr (.inl (fun _ => 0)))), (q15, .inl (cA 1, 12, .inr (.inl (fun _ => 0)))), (q23, .inl (cA 1, 12, .inr (.inl (fun _ => 0)))), (q31, .inl (cA 1, 12, .inr (.inl (fun _ => 0)))), (q39, .inl (cA 0, 24, .inl (fun _ => 0))), (q47, .inl (cA 0, 24, .inl (fun _ => 0))), (q55, .inl (cA 0, 24, .inl (fun _ => 0)))] H := hP
  have hD : va_D A [(h0, .inr (2, [.int 0, .ref q7, .ref q15, .ref q23, .ref q31, .long 0, .long 0, .int 0, .ref q39, .ref q47, .ref q55, .null, .null, .null])), (q7, .inl (cA 1, 12, .inr (.inl (fun _ => 0)))), (q15, .inl (cA 1, 12, .inr (.inl (fun _ => 0)))), (q23, .inl (cA 1, 12, .inr (.inl (fun _ => 0)))), (q31, .inl (cA 1, 12, .inr (.inl (fun _ => 0)))), (q39, .inl (cA 0, 24, .inl (fun _ => 0))), (q47, .inl (cA 0, 24, .inl (fun _ => 0))), (q55, .inl (cA 0, 24, .inl (fun _ => 0)))] := hD
  refine lv_aload_n hx hb dkX2_60 rfl (lv_at hl 0 rfl) ?_
  refine lv_bipush (v := (24 : Int32)) hx hb dkX2_61 (by decide) ?_
  refine va_newa (atype := .int) (ty := .int) (a0 := (24, .inl (fun _ => 0))) hx hb (hts (.arrayClass .int) (eTb_wd _ (tb1 96 rfl rfl))) rfl hK hP hD hS hA (fun _ => rfl) (by decide) rfl (Nat.le_of_ble_eq_true rfl) (Nat.le_of_ble_eq_true rfl) (Nat.le_of_ble_eq_true rfl) dkX2_63 (fun q63 cZ H hKn hP hD hS => ?_)
  have eZ : cZ = cA 0 := Option.some.inj ((hKn.2 4 _ rfl).2.symm.trans (hK.2 0 _ rfl).2)
  subst eZ
  clear hKn
  have hP : va_P D vwCl [(h0, .inr (2, [.int 0, .ref q7, .ref q15, .ref q23, .ref q31, .long 0, .long 0, .int 0, .ref q39, .ref q47, .ref q55, .null, .null, .null])), (q7, .inl (cA 1, 12, .inr (.inl (fun _ => 0)))), (q15, .inl (cA 1, 12, .inr (.inl (fun _ => 0)))), (q23, .inl (cA 1, 12, .inr (.inl (fun _ => 0)))), (q31, .inl (cA 1, 12, .inr (.inl (fun _ => 0)))), (q39, .inl (cA 0, 24, .inl (fun _ => 0))), (q47, .inl (cA 0, 24, .inl (fun _ => 0))), (q55, .inl (cA 0, 24, .inl (fun _ => 0))), (q63, .inl (cA 0, 24, .inl (fun _ => 0)))] H := hP
  have hD : va_D A [(h0, .inr (2, [.int 0, .ref q7, .ref q15, .ref q23, .ref q31, .long 0, .long 0, .int 0, .ref q39, .ref q47, .ref q55, .null, .null, .null])), (q7, .inl (cA 1, 12, .inr (.inl (fun _ => 0)))), (q15, .inl (cA 1, 12, .inr (.inl (fun _ => 0)))), (q23, .inl (cA 1, 12, .inr (.inl (fun _ => 0)))), (q31, .inl (cA 1, 12, .inr (.inl (fun _ => 0)))), (q39, .inl (cA 0, 24, .inl (fun _ => 0))), (q47, .inl (cA 0, 24, .inl (fun _ => 0))), (q55, .inl (cA 0, 24, .inl (fun _ => 0))), (q63, .inl (cA 0, 24, .inl (fun _ => 0)))] := hD
  refine W.widen (k := 8) (n := 144) (by omega) (by omega) ?_
  refine va_putF (D := D) (ci := 2) (v := .ref q63) (ty := .array .int) (C := RX2) (T := TX2) (N := 14) hx hb hts (fun w h => eTb_wd w (wfX2 w h)) tyX2 tyX2_ok nmX2 hown hK hP hD hS 0 rfl rfl 11 (by decide) (hts (.fieldLink RX2 34 "ExitFalls$Curves" "ratio" "[I") (eTb_wd _ (tb1 211 rfl rfl))) (fun _ h9 => h9) rfl hin rfl (by decide +kernel) rfl rfl (Nat.le_of_ble_eq_true rfl) dkX2_65 (fun H locs hP hD hS => ?_)
  have hP : va_P D vwCl [(h0, .inr (2, [.int 0, .ref q7, .ref q15, .ref q23, .ref q31, .long 0, .long 0, .int 0, .ref q39, .ref q47, .ref q55, .ref q63, .null, .null])), (q7, .inl (cA 1, 12, .inr (.inl (fun _ => 0)))), (q15, .inl (cA 1, 12, .inr (.inl (fun _ => 0)))), (q23, .inl (cA 1, 12, .inr (.inl (fun _ => 0)))), (q31, .inl (cA 1, 12, .inr (.inl (fun _ => 0)))), (q39, .inl (cA 0, 24, .inl (fun _ => 0))), (q47, .inl (cA 0, 24, .inl (fun _ => 0))), (q55, .inl (cA 0, 24, .inl (fun _ => 0))), (q63, .inl (cA 0, 24, .inl (fun _ => 0)))] H := hP
  have hD : va_D A [(h0, .inr (2, [.int 0, .ref q7, .ref q15, .ref q23, .ref q31, .long 0, .long 0, .int 0, .ref q39, .ref q47, .ref q55, .ref q63, .null, .null])), (q7, .inl (cA 1, 12, .inr (.inl (fun _ => 0)))), (q15, .inl (cA 1, 12, .inr (.inl (fun _ => 0)))), (q23, .inl (cA 1, 12, .inr (.inl (fun _ => 0)))), (q31, .inl (cA 1, 12, .inr (.inl (fun _ => 0)))), (q39, .inl (cA 0, 24, .inl (fun _ => 0))), (q47, .inl (cA 0, 24, .inl (fun _ => 0))), (q55, .inl (cA 0, 24, .inl (fun _ => 0))), (q63, .inl (cA 0, 24, .inl (fun _ => 0)))] := hD
  refine lv_aload_n hx hb dkX2_68 rfl (lv_at hl 0 rfl) ?_
  refine lv_bipush (v := (24 : Int32)) hx hb dkX2_69 (by decide) ?_
  refine va_newa (atype := .long) (ty := .long) (a0 := (24, .inr (.inl (fun _ => 0)))) hx hb (hts (.arrayClass .long) (eTb_wd _ (tb1 95 rfl rfl))) rfl hK hP hD hS hA (fun _ => rfl) (by decide) rfl (Nat.le_of_ble_eq_true rfl) (Nat.le_of_ble_eq_true rfl) (Nat.le_of_ble_eq_true rfl) dkX2_71 (fun q71 cZ H hKn hP hD hS => ?_)
  have eZ : cZ = cA 1 := Option.some.inj ((hKn.2 4 _ rfl).2.symm.trans (hK.2 1 _ rfl).2)
  subst eZ
  clear hKn
  have hP : va_P D vwCl [(h0, .inr (2, [.int 0, .ref q7, .ref q15, .ref q23, .ref q31, .long 0, .long 0, .int 0, .ref q39, .ref q47, .ref q55, .ref q63, .null, .null])), (q7, .inl (cA 1, 12, .inr (.inl (fun _ => 0)))), (q15, .inl (cA 1, 12, .inr (.inl (fun _ => 0)))), (q23, .inl (cA 1, 12, .inr (.inl (fun _ => 0)))), (q31, .inl (cA 1, 12, .inr (.inl (fun _ => 0)))), (q39, .inl (cA 0, 24, .inl (fun _ => 0))), (q47, .inl (cA 0, 24, .inl (fun _ => 0))), (q55, .inl (cA 0, 24, .inl (fun _ => 0))), (q63, .inl (cA 0, 24, .inl (fun _ => 0))), (q71, .inl (cA 1, 24, .inr (.inl (fun _ => 0))))] H := hP
  have hD : va_D A [(h0, .inr (2, [.int 0, .ref q7, .ref q15, .ref q23, .ref q31, .long 0, .long 0, .int 0, .ref q39, .ref q47, .ref q55, .ref q63, .null, .null])), (q7, .inl (cA 1, 12, .inr (.inl (fun _ => 0)))), (q15, .inl (cA 1, 12, .inr (.inl (fun _ => 0)))), (q23, .inl (cA 1, 12, .inr (.inl (fun _ => 0)))), (q31, .inl (cA 1, 12, .inr (.inl (fun _ => 0)))), (q39, .inl (cA 0, 24, .inl (fun _ => 0))), (q47, .inl (cA 0, 24, .inl (fun _ => 0))), (q55, .inl (cA 0, 24, .inl (fun _ => 0))), (q63, .inl (cA 0, 24, .inl (fun _ => 0))), (q71, .inl (cA 1, 24, .inr (.inl (fun _ => 0))))] := hD
  refine W.widen (k := 9) (n := 168) (by omega) (by omega) ?_
  refine va_putF (D := D) (ci := 2) (v := .ref q71) (ty := .array .long) (C := RX2) (T := TX2) (N := 14) hx hb hts (fun w h => eTb_wd w (wfX2 w h)) tyX2 tyX2_ok nmX2 hown hK hP hD hS 0 rfl rfl 12 (by decide) (hts (.fieldLink RX2 37 "ExitFalls$Curves" "fixedBy" "[J") (eTb_wd _ (tb1 212 rfl rfl))) (fun _ h9 => h9) rfl hin rfl (by decide +kernel) rfl rfl (Nat.le_of_ble_eq_true rfl) dkX2_73 (fun H locs hP hD hS => ?_)
  have hP : va_P D vwCl [(h0, .inr (2, [.int 0, .ref q7, .ref q15, .ref q23, .ref q31, .long 0, .long 0, .int 0, .ref q39, .ref q47, .ref q55, .ref q63, .ref q71, .null])), (q7, .inl (cA 1, 12, .inr (.inl (fun _ => 0)))), (q15, .inl (cA 1, 12, .inr (.inl (fun _ => 0)))), (q23, .inl (cA 1, 12, .inr (.inl (fun _ => 0)))), (q31, .inl (cA 1, 12, .inr (.inl (fun _ => 0)))), (q39, .inl (cA 0, 24, .inl (fun _ => 0))), (q47, .inl (cA 0, 24, .inl (fun _ => 0))), (q55, .inl (cA 0, 24, .inl (fun _ => 0))), (q63, .inl (cA 0, 24, .inl (fun _ => 0))), (q71, .inl (cA 1, 24, .inr (.inl (fun _ => 0))))] H := hP
  have hD : va_D A [(h0, .inr (2, [.int 0, .ref q7, .ref q15, .ref q23, .ref q31, .long 0, .long 0, .int 0, .ref q39, .ref q47, .ref q55, .ref q63, .ref q71, .null])), (q7, .inl (cA 1, 12, .inr (.inl (fun _ => 0)))), (q15, .inl (cA 1, 12, .inr (.inl (fun _ => 0)))), (q23, .inl (cA 1, 12, .inr (.inl (fun _ => 0)))), (q31, .inl (cA 1, 12, .inr (.inl (fun _ => 0)))), (q39, .inl (cA 0, 24, .inl (fun _ => 0))), (q47, .inl (cA 0, 24, .inl (fun _ => 0))), (q55, .inl (cA 0, 24, .inl (fun _ => 0))), (q63, .inl (cA 0, 24, .inl (fun _ => 0))), (q71, .inl (cA 1, 24, .inr (.inl (fun _ => 0))))] := hD
  refine lv_aload_n hx hb dkX2_76 rfl (lv_at hl 0 rfl) ?_
  refine lv_bipush (v := (24 : Int32)) hx hb dkX2_77 (by decide) ?_
  refine va_newa (atype := .long) (ty := .long) (a0 := (24, .inr (.inl (fun _ => 0)))) hx hb (hts (.arrayClass .long) (eTb_wd _ (tb1 95 rfl rfl))) rfl hK hP hD hS hA (fun _ => rfl) (by decide) rfl (Nat.le_of_ble_eq_true rfl) (Nat.le_of_ble_eq_true rfl) (Nat.le_of_ble_eq_true rfl) dkX2_79 (fun q79 cZ H hKn hP hD hS => ?_)
  have eZ : cZ = cA 1 := Option.some.inj ((hKn.2 4 _ rfl).2.symm.trans (hK.2 1 _ rfl).2)
  subst eZ
  clear hKn
  have hP : va_P D vwCl [(h0, .inr (2, [.int 0, .ref q7, .ref q15, .ref q23, .ref q31, .long 0, .long 0, .int 0, .ref q39, .ref q47, .ref q55, .ref q63, .ref q71, .null])), (q7, .inl (cA 1, 12, .inr (.inl (fun _ => 0)))), (q15, .inl (cA 1, 12, .inr (.inl (fun _ => 0)))), (q23, .inl (cA 1, 12, .inr (.inl (fun _ => 0)))), (q31, .inl (cA 1, 12, .inr (.inl (fun _ => 0)))), (q39, .inl (cA 0, 24, .inl (fun _ => 0))), (q47, .inl (cA 0, 24, .inl (fun _ => 0))), (q55, .inl (cA 0, 24, .inl (fun _ => 0))), (q63, .inl (cA 0, 24, .inl (fun _ => 0))), (q71, .inl (cA 1, 24, .inr (.inl (fun _ => 0)))), (q79, .inl (cA 1, 24, .inr (.inl (fun _ => 0))))] H := hP
  have hD : va_D A [(h0, .inr (2, [.int 0, .ref q7, .ref q15, .ref q23, .ref q31, .long 0, .long 0, .int 0, .ref q39, .ref q47, .ref q55, .ref q63, .ref q71, .null])), (q7, .inl (cA 1, 12, .inr (.inl (fun _ => 0)))), (q15, .inl (cA 1, 12, .inr (.inl (fun _ => 0)))), (q23, .inl (cA 1, 12, .inr (.inl (fun _ => 0)))), (q31, .inl (cA 1, 12, .inr (.inl (fun _ => 0)))), (q39, .inl (cA 0, 24, .inl (fun _ => 0))), (q47, .inl (cA 0, 24, .inl (fun _ => 0))), (q55, .inl (cA 0, 24, .inl (fun _ => 0))), (q63, .inl (cA 0, 24, .inl (fun _ => 0))), (q71, .inl (cA 1, 24, .inr (.inl (fun _ => 0)))), (q79, .inl (cA 1, 24, .inr (.inl (fun _ => 0))))] := hD
  refine W.widen (k := 10) (n := 192) (by omega) (by omega) ?_
  refine va_putF (D := D) (ci := 2) (v := .ref q79) (ty := .array .long) (C := RX2) (T := TX2) (N := 14) hx hb hts (fun w h => eTb_wd w (wfX2 w h)) tyX2 tyX2_ok nmX2 hown hK hP hD hS 0 rfl rfl 13 (by decide) (hts (.fieldLink RX2 40 "ExitFalls$Curves" "slopeBy" "[J") (eTb_wd _ (tb1 213 rfl rfl))) (fun _ h9 => h9) rfl hin rfl (by decide +kernel) rfl rfl (Nat.le_of_ble_eq_true rfl) dkX2_81 (fun H locs hP hD hS => ?_)
  have hP : va_P D vwCl [(h0, .inr (2, [.int 0, .ref q7, .ref q15, .ref q23, .ref q31, .long 0, .long 0, .int 0, .ref q39, .ref q47, .ref q55, .ref q63, .ref q71, .ref q79])), (q7, .inl (cA 1, 12, .inr (.inl (fun _ => 0)))), (q15, .inl (cA 1, 12, .inr (.inl (fun _ => 0)))), (q23, .inl (cA 1, 12, .inr (.inl (fun _ => 0)))), (q31, .inl (cA 1, 12, .inr (.inl (fun _ => 0)))), (q39, .inl (cA 0, 24, .inl (fun _ => 0))), (q47, .inl (cA 0, 24, .inl (fun _ => 0))), (q55, .inl (cA 0, 24, .inl (fun _ => 0))), (q63, .inl (cA 0, 24, .inl (fun _ => 0))), (q71, .inl (cA 1, 24, .inr (.inl (fun _ => 0)))), (q79, .inl (cA 1, 24, .inr (.inl (fun _ => 0))))] H := hP
  have hD : va_D A [(h0, .inr (2, [.int 0, .ref q7, .ref q15, .ref q23, .ref q31, .long 0, .long 0, .int 0, .ref q39, .ref q47, .ref q55, .ref q63, .ref q71, .ref q79])), (q7, .inl (cA 1, 12, .inr (.inl (fun _ => 0)))), (q15, .inl (cA 1, 12, .inr (.inl (fun _ => 0)))), (q23, .inl (cA 1, 12, .inr (.inl (fun _ => 0)))), (q31, .inl (cA 1, 12, .inr (.inl (fun _ => 0)))), (q39, .inl (cA 0, 24, .inl (fun _ => 0))), (q47, .inl (cA 0, 24, .inl (fun _ => 0))), (q55, .inl (cA 0, 24, .inl (fun _ => 0))), (q63, .inl (cA 0, 24, .inl (fun _ => 0))), (q71, .inl (cA 1, 24, .inr (.inl (fun _ => 0)))), (q79, .inl (cA 1, 24, .inr (.inl (fun _ => 0))))] := hD
  have hP9 := hP.sub (ws' := [(h0, .inr (2, [.int 0, .ref q7, .ref q15, .ref q23, .ref q31, .long 0, .long 0, .int 0, .ref q39, .ref q47, .ref q55, .ref q63, .ref q71, .ref q79])), (q7, .inl (cA 1, 12, .inr (.inl (fun _ => 0)))), (q15, .inl (cA 1, 12, .inr (.inl (fun _ => 0)))), (q23, .inl (cA 1, 12, .inr (.inl (fun _ => 0)))), (q31, .inl (cA 1, 12, .inr (.inl (fun _ => 0)))), (q39, .inl (cA 0, 24, .inl (fun _ => 0))), (q47, .inl (cA 0, 24, .inl (fun _ => 0))), (q55, .inl (cA 0, 24, .inl (fun _ => 0))), (q63, .inl (cA 0, 24, .inl (fun _ => 0))), (q71, .inl (cA 1, 24, .inr (.inl (fun _ => 0)))), (q79, .inl (cA 1, 24, .inr (.inl (fun _ => 0))))]) [0, 1, 2, 3, 4, 5, 6, 7, 8, 9, 10] rfl
  have hD9 := hD.sub (ws' := [(h0, .inr (2, [.int 0, .ref q7, .ref q15, .ref q23, .ref q31, .long 0, .long 0, .int 0, .ref q39, .ref q47, .ref q55, .ref q63, .ref q71, .ref q79])), (q7, .inl (cA 1, 12, .inr (.inl (fun _ => 0)))), (q15, .inl (cA 1, 12, .inr (.inl (fun _ => 0)))), (q23, .inl (cA 1, 12, .inr (.inl (fun _ => 0)))), (q31, .inl (cA 1, 12, .inr (.inl (fun _ => 0)))), (q39, .inl (cA 0, 24, .inl (fun _ => 0))), (q47, .inl (cA 0, 24, .inl (fun _ => 0))), (q55, .inl (cA 0, 24, .inl (fun _ => 0))), (q63, .inl (cA 0, 24, .inl (fun _ => 0))), (q71, .inl (cA 1, 24, .inr (.inl (fun _ => 0)))), (q79, .inl (cA 1, 24, .inr (.inl (fun _ => 0))))]) [0, 1, 2, 3, 4, 5, 6, 7, 8, 9, 10] (by decide) rfl
  exact W.vret hx hb hr (fun t ht hW => ⟨⟨(fun i => match i with | 0 => q7 | 1 => q15 | 2 => q23 | 3 => q31 | 4 => q39 | 5 => q47 | 6 => q55 | 7 => q63 | 8 => q71 | 9 => q79 | _ => 0), rfl, trivial, by rw [ht]; exact hP9, hD9⟩, hS.F ht⟩) hS.2.2 dkX2_84
theorem dkX3_0 : decode cX3_init 0 = .ok (.aload_n 0, 1) := by decide +kernel
theorem dkX3_1 : decode cX3_init 1 = .ok (.invokespecial 3, 3) := by decide +kernel
theorem dkX3_4 : decode cX3_init 4 = .ok (.aload_n 0, 1) := by decide +kernel
theorem dkX3_5 : decode cX3_init 5 = .ok (.new 9, 3) := by decide +kernel
theorem dkX3_8 : decode cX3_init 8 = .ok (.dup, 1) := by decide +kernel
theorem dkX3_9 : decode cX3_init 9 = .ok (.invokespecial 11, 3) := by decide +kernel
theorem dkX3_12 : decode cX3_init 12 = .ok (.putfield 12, 3) := by decide +kernel
theorem dkX3_15 : decode cX3_init 15 = .ok (.aload_n 0, 1) := by decide +kernel
theorem dkX3_16 : decode cX3_init 16 = .ok (.bipush 12, 2) := by decide +kernel
theorem dkX3_18 : decode cX3_init 18 = .ok (.newarray .int, 2) := by decide +kernel
theorem dkX3_20 : decode cX3_init 20 = .ok (.putfield 18, 3) := by decide +kernel
theorem dkX3_23 : decode cX3_init 23 = .ok (.aload_n 0, 1) := by decide +kernel
theorem dkX3_24 : decode cX3_init 24 = .ok (.bipush 6, 2) := by decide +kernel
theorem dkX3_26 : decode cX3_init 26 = .ok (.newarray .long, 2) := by decide +kernel
theorem dkX3_28 : decode cX3_init 28 = .ok (.putfield 22, 3) := by decide +kernel
theorem dkX3_31 : decode cX3_init 31 = .ok (.aload_n 0, 1) := by decide +kernel
theorem dkX3_32 : decode cX3_init 32 = .ok (.bipush 12, 2) := by decide +kernel
theorem dkX3_34 : decode cX3_init 34 = .ok (.newarray .long, 2) := by decide +kernel
theorem dkX3_36 : decode cX3_init 36 = .ok (.putfield 26, 3) := by decide +kernel
theorem dkX3_39 : decode cX3_init 39 = .ok (.aload_n 0, 1) := by decide +kernel
theorem dkX3_40 : decode cX3_init 40 = .ok (.lconst 1, 1) := by decide +kernel
theorem dkX3_41 : decode cX3_init 41 = .ok (.putfield 29, 3) := by decide +kernel
theorem dkX3_44 : decode cX3_init 44 = .ok (.aload_n 0, 1) := by decide +kernel
theorem dkX3_45 : decode cX3_init 45 = .ok (.lconst 1, 1) := by decide +kernel
theorem dkX3_46 : decode cX3_init 46 = .ok (.putfield 33, 3) := by decide +kernel
theorem dkX3_49 : decode cX3_init 49 = .ok (.aload_n 0, 1) := by decide +kernel
theorem dkX3_50 : decode cX3_init 50 = .ok (.bipush 12, 2) := by decide +kernel
theorem dkX3_52 : decode cX3_init 52 = .ok (.newarray .long, 2) := by decide +kernel
theorem dkX3_54 : decode cX3_init 54 = .ok (.putfield 36, 3) := by decide +kernel
theorem dkX3_57 : decode cX3_init 57 = .ok (.aload_n 0, 1) := by decide +kernel
theorem dkX3_58 : decode cX3_init 58 = .ok (.lconst 1, 1) := by decide +kernel
theorem dkX3_59 : decode cX3_init 59 = .ok (.putfield 39, 3) := by decide +kernel
theorem dkX3_62 : decode cX3_init 62 = .ok (.return_, 1) := by decide +kernel
def fin_X3 (cA : Nat → ClassId) (f : Nat → Nat) (h0 : Nat) : va_W := [(h0, .inr (3, [.ref (f 0), .ref (f 11), .ref (f 12), .long 0, .ref (f 13), .long 1, .long 0, .long 1, .ref (f 14), .long 1])), ((f 0), .inr (2, [.int 0, .ref (f 1), .ref (f 2), .ref (f 3), .ref (f 4), .long 0, .long 0, .int 0, .ref (f 5), .ref (f 6), .ref (f 7), .ref (f 8), .ref (f 9), .ref (f 10)])), ((f 1), .inl (cA 1, 12, .inr (.inl (fun _ => 0)))), ((f 2), .inl (cA 1, 12, .inr (.inl (fun _ => 0)))), ((f 3), .inl (cA 1, 12, .inr (.inl (fun _ => 0)))), ((f 4), .inl (cA 1, 12, .inr (.inl (fun _ => 0)))), ((f 5), .inl (cA 0, 24, .inl (fun _ => 0))), ((f 6), .inl (cA 0, 24, .inl (fun _ => 0))), ((f 7), .inl (cA 0, 24, .inl (fun _ => 0))), ((f 8), .inl (cA 0, 24, .inl (fun _ => 0))), ((f 9), .inl (cA 1, 24, .inr (.inl (fun _ => 0)))), ((f 10), .inl (cA 1, 24, .inr (.inl (fun _ => 0)))), ((f 11), .inl (cA 0, 12, .inl (fun _ => 0))), ((f 12), .inl (cA 1, 6, .inr (.inl (fun _ => 0)))), ((f 13), .inl (cA 1, 12, .inr (.inl (fun _ => 0)))), ((f 14), .inl (cA 1, 12, .inr (.inl (fun _ => 0))))]
set_option maxRecDepth 100000 in
set_option maxHeartbeats 4000000 in
theorem wkX3_init : Cond.code yX3_init cX3_init 1 none ∈ eTb := tb1 181 rfl rfl
theorem hdX3_init : yX3_init.cls ≠ "java/lang/invoke/MethodHandle" ∧ yX3_init.cls ≠ "java/lang/invoke/VarHandle" ∧ (parseMethodDescriptor yX3_init.desc).map (fun d => d.parameters.length) = some 0 := by decide +kernel
set_option maxRecDepth 100000 in
set_option maxHeartbeats 4000000 in
theorem ct_X3 (l : Launch) (D : va_G) (cA : Nat → ClassId) (aK aV : Nat) (h0 sz : Nat) : Met l yX3_init (eWd yX3_init cX3_init 1 none) { frames := 2, cells := 15, slots := 248, locals := 32 } (va_Pc [.ref h0] (fun U => U.heap.size = sz ∧ va_P D vwCl [(h0, .inr (3, [.null, .null, .null, .long 0, .null, .long 0, .long 0, .long 0, .null, .long 0]))] U.heap ∧ va_K D vwCl (eTys cA) U ∧ va_D (fun _ => True) [(h0, .inr (3, [.null, .null, .null, .long 0, .null, .long 0, .long 0, .long 0, .null, .long 0]))] ∧ eEx aK aV (va_A [(h0, .inr (3, [.null, .null, .null, .long 0, .null, .long 0, .long 0, .long 0, .null, .long 0]))] sz) U)) (va_Qv (fun _ : Nat → Nat => True) (fun f t => va_P D vwCl (fin_X3 cA f h0) t.heap ∧ va_D (va_A [(h0, .inr (3, [.null, .null, .null, .long 0, .null, .long 0, .long 0, .long 0, .null, .long 0]))] sz) (fin_X3 cA f h0)) (va_A [(h0, .inr (3, [.null, .null, .null, .long 0, .null, .long 0, .long 0, .long 0, .null, .long 0]))] sz)) 15 248 (va_A [(h0, .inr (3, [.null, .null, .null, .long 0, .null, .long 0, .long 0, .long 0, .null, .long 0]))] sz) := by
  refine Met.ofW (cc := cX3_init) (maxL := 1) (ret := none) (by decide +kernel) rfl ?_
  intro p e s m args below meth c s₁ B hml hv
  obtain ⟨rfl, hsz, hP, hK, hD0, hEx⟩ := hv
  have hx := B.exec
  have hb := B.bytes
  have hr := B.returns
  have hts := atoms_spec (ws := eWd yX3_init cX3_init 1 none) B.pre
  have hown : s.vm.findClass RX3 = some m.cls := findClass_of_methodNamed B.named
  have hlocks := B.notSynchronized
  have hin : meth.name = "<init>" := (name_of_methodNamed B.named B.method).1
  subst hsz
  have hD := hD0.self (sz := s.heap.size)
  generalize hAe : va_A [(h0, .inr (3, [.null, .null, .null, .long 0, .null, .long 0, .long 0, .long 0, .null, .long 0]))] s.heap.size = A at hD hEx ⊢
  have hA : ∀ q : Nat, s.heap.size ≤ q → A q := fun q h => by rw [← hAe]; exact Or.inr h
  have hS : va_S A s.heap s.heap [] := va_S.rf
  have hP : va_P D vwCl [(h0, .inr (3, [.null, .null, .null, .long 0, .null, .long 0, .long 0, .long 0, .null, .long 0]))] s.heap := hP
  have hl := lv_entry ([.ref h0]) (n := 1) (Nat.le_of_ble_eq_true rfl)
  rw [lg_entry_eq]
  generalize (lg_sl ([.ref h0]) ++ List.replicate (1 - (lg_sl ([.ref h0])).length) Slot.unset).toArray = ls at hl ⊢
  have hl : lv_has ls 1 [(0, .ref h0)] := hl
  refine lv_aload_n hx hb dkX3_0 rfl (lv_at hl 0 rfl) ?_
  refine W.objInit hx hb hown (hts (.methodLink RX3 3 objectInit) (eTb_wd _ (tb1 182 rfl rfl))) (hts (.instanceMethod objectInit) (eTb_wd _ (tb1 27 rfl rfl))) (hts (.code objectInit ⟨#[0xb1]⟩ 1 none) (eTb_wd _ (tb1 28 rfl rfl))) rfl (by rw [hml]; exact hl.1) rfl dkX3_1 (Nat.le_of_ble_eq_true rfl) (Nat.le_of_ble_eq_true rfl) ?_
  refine W.eq (g2 := F0 m 4 ls []) rfl ?_
  refine lv_aload_n hx hb dkX3_4 rfl (lv_at hl 0 rfl) ?_
  refine va_new (ci := 2) (fs := [.int 0, .null, .null, .null, .null, .long 0, .long 0, .int 0, .null, .null, .null, .null, .null, .null]) (C := RX2) (T := TX2) (N := 14) hx hb hts (fun w h => eTb_wd w (wfX2 w h)) tyX2 tyX2_ok hown (hts (.classLink RX3 9 RX2) (eTb_wd _ (tb1 183 rfl rfl))) (hts (.instantiable RX2 14) (eTb_wd _ (tb1 184 rfl rfl))) (hts (.initialized RX2) (eTb_wd _ (tb1 10 rfl rfl))) hK hP hD hS hA rfl (fun j hj => by rcases (show j = 0 ∨ j = 1 ∨ j = 2 ∨ j = 3 ∨ j = 4 ∨ j = 5 ∨ j = 6 ∨ j = 7 ∨ j = 8 ∨ j = 9 ∨ j = 10 ∨ j = 11 ∨ j = 12 ∨ j = 13 by omega) with rfl | rfl | rfl | rfl | rfl | rfl | rfl | rfl | rfl | rfl | rfl | rfl | rfl | rfl <;> rfl) (Nat.le_of_ble_eq_true rfl) (Nat.le_of_ble_eq_true rfl) dkX3_5 (fun q5 H hP hD hS => ?_)
  have hP : va_P D vwCl [(h0, .inr (3, [.null, .null, .null, .long 0, .null, .long 0, .long 0, .long 0, .null, .long 0])), (q5, .inr (2, [.int 0, .null, .null, .null, .null, .long 0, .long 0, .int 0, .null, .null, .null, .null, .null, .null]))] H := hP
  have hD : va_D A [(h0, .inr (3, [.null, .null, .null, .long 0, .null, .long 0, .long 0, .long 0, .null, .long 0])), (q5, .inr (2, [.int 0, .null, .null, .null, .null, .long 0, .long 0, .int 0, .null, .null, .null, .null, .null, .null]))] := hD
  refine W.widen (k := 1) (n := 14) (by omega) (by omega) ?_
  refine lv_dup hx hb dkX3_8 rfl ?_
  have hPc := hP.sub (ws' := [(q5, .inr (2, [.int 0, .null, .null, .null, .null, .long 0, .long 0, .int 0, .null, .null, .null, .null, .null, .null]))]) [1] rfl
  have hDc := hD.sub (ws' := [(q5, .inr (2, [.int 0, .null, .null, .null, .null, .long 0, .long 0, .int 0, .null, .null, .null, .null, .null, .null]))]) [1] (by decide) rfl
  have hFc := va_free (wc := [(q5, .inr (2, [.int 0, .null, .null, .null, .null, .long 0, .long 0, .int 0, .null, .null, .null, .null, .null, .null]))]) hD hS hA [1] rfl
  refine va_callv (va_runIN (As := []) (rest := [.ref q5, .ref h0]) ⟨hx, hb, hml, hown, hts⟩ (ct_X2 l D cA aK aV q5  H.size) ⟨va_cnB 0 hts (fun w hw => ⟨List.mem_cons_of_mem _ ((List.mem_cons.mp hw).elim (fun e9 => by rw [e9]; exact wkX2_init) id), eTb_good ((List.mem_cons.mp hw).elim (fun e9 => by rw [e9]; exact wkX2_init) id)⟩) rfl rfl rfl (hEx.1 (RX3, 11, yX2_init) (List.mem_of_getElem? (i := 8) rfl)) (hts (.initialized RX2) (eTb_wd _ (tb1 10 rfl rfl))) hdX2_init ⟨Nat.le_of_ble_eq_true rfl, Nat.le_of_ble_eq_true rfl⟩, rfl, hts (.instanceMethod yX2_init) (eTb_wd _ (tb1 186 rfl rfl))⟩ ⟨fun a U g mk q => by obtain ⟨q0, q1, qP, qK, qD, qE⟩ := q; exact ⟨q0, q1, qP, va_K.moved (u := U) (U := U.calling g mk a) (Vm.Alike.refl U.vm) qK, qD, qE.call⟩, fun U hU hW => ⟨rfl, by rw [hU], by rw [hU]; exact hPc, va_K.moved hW.alike hK, hDc.weaken (fun _ _ _ _ => trivial), hEx.go hS hU hW hFc⟩⟩ rfl rfl hl.1 rfl (lv_room (Nat.le_of_ble_eq_true rfl)) dkX3_9 ⟨Nat.le_of_ble_eq_true rfl, Nat.le_of_ble_eq_true rfl⟩) hS (fun q _ h => hFc q h) hFc (fun u9 t H1 locs ht hvm hw hB hz1 hk1 hS => ?_)
  obtain ⟨hP1, hD1⟩ := hB
  rw [ht] at hP1
  obtain ⟨hP, hD⟩ := va_join (wr := [(h0, .inr (3, [.null, .null, .null, .long 0, .null, .long 0, .long 0, .long 0, .null, .long 0]))]) (w1 := fin_X2 cA u9 q5) hP hD [1] [0] rfl rfl (by decide) (by decide) hk1 hFc hP1 hD1
  generalize H1 = H at hP hS ⊢
  have hP : va_P D vwCl [(h0, .inr (3, [.null, .null, .null, .long 0, .null, .long 0, .long 0, .long 0, .null, .long 0])), (q5, .inr (2, [.int 0, .ref (u9 0), .ref (u9 1), .ref (u9 2), .ref (u9 3), .long 0, .long 0, .int 0, .ref (u9 4), .ref (u9 5), .ref (u9 6), .ref (u9 7), .ref (u9 8), .ref (u9 9)])), ((u9 0), .inl (cA 1, 12, .inr (.inl (fun _ => 0)))), ((u9 1), .inl (cA 1, 12, .inr (.inl (fun _ => 0)))), ((u9 2), .inl (cA 1, 12, .inr (.inl (fun _ => 0)))), ((u9 3), .inl (cA 1, 12, .inr (.inl (fun _ => 0)))), ((u9 4), .inl (cA 0, 24, .inl (fun _ => 0))), ((u9 5), .inl (cA 0, 24, .inl (fun _ => 0))), ((u9 6), .inl (cA 0, 24, .inl (fun _ => 0))), ((u9 7), .inl (cA 0, 24, .inl (fun _ => 0))), ((u9 8), .inl (cA 1, 24, .inr (.inl (fun _ => 0)))), ((u9 9), .inl (cA 1, 24, .inr (.inl (fun _ => 0))))] H := hP
  have hD : va_D A [(h0, .inr (3, [.null, .null, .null, .long 0, .null, .long 0, .long 0, .long 0, .null, .long 0])), (q5, .inr (2, [.int 0, .ref (u9 0), .ref (u9 1), .ref (u9 2), .ref (u9 3), .long 0, .long 0, .int 0, .ref (u9 4), .ref (u9 5), .ref (u9 6), .ref (u9 7), .ref (u9 8), .ref (u9 9)])), ((u9 0), .inl (cA 1, 12, .inr (.inl (fun _ => 0)))), ((u9 1), .inl (cA 1, 12, .inr (.inl (fun _ => 0)))), ((u9 2), .inl (cA 1, 12, .inr (.inl (fun _ => 0)))), ((u9 3), .inl (cA 1, 12, .inr (.inl (fun _ => 0)))), ((u9 4), .inl (cA 0, 24, .inl (fun _ => 0))), ((u9 5), .inl (cA 0, 24, .inl (fun _ => 0))), ((u9 6), .inl (cA 0, 24, .inl (fun _ => 0))), ((u9 7), .inl (cA 0, 24, .inl (fun _ => 0))), ((u9 8), .inl (cA 1, 24, .inr (.inl (fun _ => 0)))), ((u9 9), .inl (cA 1, 24, .inr (.inl (fun _ => 0))))] := hD
  refine W.widen (k := 11) (n := 206) (by omega) (by omega) ?_
  refine va_putF (D := D) (ci := 3) (v := .ref q5) (ty := .object "ExitFalls$Curves") (C := RX3) (T := TX3) (N := 10) hx hb hts (fun w h => eTb_wd w (wfX3 w h)) tyX3 tyX3_ok nmX3 hown hK hP hD hS 0 rfl rfl 0 (by decide) (hts (.fieldLink RX3 12 "ExitFalls$Fall" "curves" "LExitFalls$Curves;") (eTb_wd _ (tb2 3 rfl rfl))) (fun _ h9 => h9) rfl hin rfl (by decide +kernel) rfl rfl (Nat.le_of_ble_eq_true rfl) dkX3_12 (fun H locs hP hD hS => ?_)
  have hP : va_P D vwCl [(h0, .inr (3, [.ref q5, .null, .null, .long 0, .null, .long 0, .long 0, .long 0, .null, .long 0])), (q5, .inr (2, [.int 0, .ref (u9 0), .ref (u9 1), .ref (u9 2), .ref (u9 3), .long 0, .long 0, .int 0, .ref (u9 4), .ref (u9 5), .ref (u9 6), .ref (u9 7), .ref (u9 8), .ref (u9 9)])), ((u9 0), .inl (cA 1, 12, .inr (.inl (fun _ => 0)))), ((u9 1), .inl (cA 1, 12, .inr (.inl (fun _ => 0)))), ((u9 2), .inl (cA 1, 12, .inr (.inl (fun _ => 0)))), ((u9 3), .inl (cA 1, 12, .inr (.inl (fun _ => 0)))), ((u9 4), .inl (cA 0, 24, .inl (fun _ => 0))), ((u9 5), .inl (cA 0, 24, .inl (fun _ => 0))), ((u9 6), .inl (cA 0, 24, .inl (fun _ => 0))), ((u9 7), .inl (cA 0, 24, .inl (fun _ => 0))), ((u9 8), .inl (cA 1, 24, .inr (.inl (fun _ => 0)))), ((u9 9), .inl (cA 1, 24, .inr (.inl (fun _ => 0))))] H := hP
  have hD : va_D A [(h0, .inr (3, [.ref q5, .null, .null, .long 0, .null, .long 0, .long 0, .long 0, .null, .long 0])), (q5, .inr (2, [.int 0, .ref (u9 0), .ref (u9 1), .ref (u9 2), .ref (u9 3), .long 0, .long 0, .int 0, .ref (u9 4), .ref (u9 5), .ref (u9 6), .ref (u9 7), .ref (u9 8), .ref (u9 9)])), ((u9 0), .inl (cA 1, 12, .inr (.inl (fun _ => 0)))), ((u9 1), .inl (cA 1, 12, .inr (.inl (fun _ => 0)))), ((u9 2), .inl (cA 1, 12, .inr (.inl (fun _ => 0)))), ((u9 3), .inl (cA 1, 12, .inr (.inl (fun _ => 0)))), ((u9 4), .inl (cA 0, 24, .inl (fun _ => 0))), ((u9 5), .inl (cA 0, 24, .inl (fun _ => 0))), ((u9 6), .inl (cA 0, 24, .inl (fun _ => 0))), ((u9 7), .inl (cA 0, 24, .inl (fun _ => 0))), ((u9 8), .inl (cA 1, 24, .inr (.inl (fun _ => 0)))), ((u9 9), .inl (cA 1, 24, .inr (.inl (fun _ => 0))))] := hD
  refine lv_aload_n hx hb dkX3_15 rfl (lv_at hl 0 rfl) ?_
  refine lv_bipush (v := (12 : Int32)) hx hb dkX3_16 (by decide) ?_
  refine va_newa (atype := .int) (ty := .int) (a0 := (12, .inl (fun _ => 0))) hx hb (hts (.arrayClass .int) (eTb_wd _ (tb1 96 rfl rfl))) rfl hK hP hD hS hA (fun _ => rfl) (by decide) rfl (Nat.le_of_ble_eq_true rfl) (Nat.le_of_ble_eq_true rfl) (Nat.le_of_ble_eq_true rfl) dkX3_18 (fun q18 cZ H hKn hP hD hS => ?_)
  have eZ : cZ = cA 0 := Option.some.inj ((hKn.2 4 _ rfl).2.symm.trans (hK.2 0 _ rfl).2)
  subst eZ
  clear hKn
  have hP : va_P D vwCl [(h0, .inr (3, [.ref q5, .null, .null, .long 0, .null, .long 0, .long 0, .long 0, .null, .long 0])), (q5, .inr (2, [.int 0, .ref (u9 0), .ref (u9 1), .ref (u9 2), .ref (u9 3), .long 0, .long 0, .int 0, .ref (u9 4), .ref (u9 5), .ref (u9 6), .ref (u9 7), .ref (u9 8), .ref (u9 9)])), ((u9 0), .inl (cA 1, 12, .inr (.inl (fun _ => 0)))), ((u9 1), .inl (cA 1, 12, .inr (.inl (fun _ => 0)))), ((u9 2), .inl (cA 1, 12, .inr (.inl (fun _ => 0)))), ((u9 3), .inl (cA 1, 12, .inr (.inl (fun _ => 0)))), ((u9 4), .inl (cA 0, 24, .inl (fun _ => 0))), ((u9 5), .inl (cA 0, 24, .inl (fun _ => 0))), ((u9 6), .inl (cA 0, 24, .inl (fun _ => 0))), ((u9 7), .inl (cA 0, 24, .inl (fun _ => 0))), ((u9 8), .inl (cA 1, 24, .inr (.inl (fun _ => 0)))), ((u9 9), .inl (cA 1, 24, .inr (.inl (fun _ => 0)))), (q18, .inl (cA 0, 12, .inl (fun _ => 0)))] H := hP
  have hD : va_D A [(h0, .inr (3, [.ref q5, .null, .null, .long 0, .null, .long 0, .long 0, .long 0, .null, .long 0])), (q5, .inr (2, [.int 0, .ref (u9 0), .ref (u9 1), .ref (u9 2), .ref (u9 3), .long 0, .long 0, .int 0, .ref (u9 4), .ref (u9 5), .ref (u9 6), .ref (u9 7), .ref (u9 8), .ref (u9 9)])), ((u9 0), .inl (cA 1, 12, .inr (.inl (fun _ => 0)))), ((u9 1), .inl (cA 1, 12, .inr (.inl (fun _ => 0)))), ((u9 2), .inl (cA 1, 12, .inr (.inl (fun _ => 0)))), ((u9 3), .inl (cA 1, 12, .inr (.inl (fun _ => 0)))), ((u9 4), .inl (cA 0, 24, .inl (fun _ => 0))), ((u9 5), .inl (cA 0, 24, .inl (fun _ => 0))), ((u9 6), .inl (cA 0, 24, .inl (fun _ => 0))), ((u9 7), .inl (cA 0, 24, .inl (fun _ => 0))), ((u9 8), .inl (cA 1, 24, .inr (.inl (fun _ => 0)))), ((u9 9), .inl (cA 1, 24, .inr (.inl (fun _ => 0)))), (q18, .inl (cA 0, 12, .inl (fun _ => 0)))] := hD
  refine W.widen (k := 12) (n := 218) (by omega) (by omega) ?_
  refine va_putF (D := D) (ci := 3) (v := .ref q18) (ty := .array .int) (C := RX3) (T := TX3) (N := 10) hx hb hts (fun w h => eTb_wd w (wfX3 w h)) tyX3 tyX3_ok nmX3 hown hK hP hD hS 0 rfl rfl 1 (by decide) (hts (.fieldLink RX3 18 "ExitFalls$Fall" "ranks" "[I") (eTb_wd _ (tb2 5 rfl rfl))) (fun _ h9 => h9) rfl hin rfl (by decide +kernel) rfl rfl (Nat.le_of_ble_eq_true rfl) dkX3_20 (fun H locs hP hD hS => ?_)
  have hP : va_P D vwCl [(h0, .inr (3, [.ref q5, .ref q18, .null, .long 0, .null, .long 0, .long 0, .long 0, .null, .long 0])), (q5, .inr (2, [.int 0, .ref (u9 0), .ref (u9 1), .ref (u9 2), .ref (u9 3), .long 0, .long 0, .int 0, .ref (u9 4), .ref (u9 5), .ref (u9 6), .ref (u9 7), .ref (u9 8), .ref (u9 9)])), ((u9 0), .inl (cA 1, 12, .inr (.inl (fun _ => 0)))), ((u9 1), .inl (cA 1, 12, .inr (.inl (fun _ => 0)))), ((u9 2), .inl (cA 1, 12, .inr (.inl (fun _ => 0)))), ((u9 3), .inl (cA 1, 12, .inr (.inl (fun _ => 0)))), ((u9 4), .inl (cA 0, 24, .inl (fun _ => 0))), ((u9 5), .inl (cA 0, 24, .inl (fun _ => 0))), ((u9 6), .inl (cA 0, 24, .inl (fun _ => 0))), ((u9 7), .inl (cA 0, 24, .inl (fun _ => 0))), ((u9 8), .inl (cA 1, 24, .inr (.inl (fun _ => 0)))), ((u9 9), .inl (cA 1, 24, .inr (.inl (fun _ => 0)))), (q18, .inl (cA 0, 12, .inl (fun _ => 0)))] H := hP
  have hD : va_D A [(h0, .inr (3, [.ref q5, .ref q18, .null, .long 0, .null, .long 0, .long 0, .long 0, .null, .long 0])), (q5, .inr (2, [.int 0, .ref (u9 0), .ref (u9 1), .ref (u9 2), .ref (u9 3), .long 0, .long 0, .int 0, .ref (u9 4), .ref (u9 5), .ref (u9 6), .ref (u9 7), .ref (u9 8), .ref (u9 9)])), ((u9 0), .inl (cA 1, 12, .inr (.inl (fun _ => 0)))), ((u9 1), .inl (cA 1, 12, .inr (.inl (fun _ => 0)))), ((u9 2), .inl (cA 1, 12, .inr (.inl (fun _ => 0)))), ((u9 3), .inl (cA 1, 12, .inr (.inl (fun _ => 0)))), ((u9 4), .inl (cA 0, 24, .inl (fun _ => 0))), ((u9 5), .inl (cA 0, 24, .inl (fun _ => 0))), ((u9 6), .inl (cA 0, 24, .inl (fun _ => 0))), ((u9 7), .inl (cA 0, 24, .inl (fun _ => 0))), ((u9 8), .inl (cA 1, 24, .inr (.inl (fun _ => 0)))), ((u9 9), .inl (cA 1, 24, .inr (.inl (fun _ => 0)))), (q18, .inl (cA 0, 12, .inl (fun _ => 0)))] := hD
  refine lv_aload_n hx hb dkX3_23 rfl (lv_at hl 0 rfl) ?_
  refine lv_bipush (v := (6 : Int32)) hx hb dkX3_24 (by decide) ?_
  refine va_newa (atype := .long) (ty := .long) (a0 := (6, .inr (.inl (fun _ => 0)))) hx hb (hts (.arrayClass .long) (eTb_wd _ (tb1 95 rfl rfl))) rfl hK hP hD hS hA (fun _ => rfl) (by decide) rfl (Nat.le_of_ble_eq_true rfl) (Nat.le_of_ble_eq_true rfl) (Nat.le_of_ble_eq_true rfl) dkX3_26 (fun q26 cZ H hKn hP hD hS => ?_)
  have eZ : cZ = cA 1 := Option.some.inj ((hKn.2 4 _ rfl).2.symm.trans (hK.2 1 _ rfl).2)
  subst eZ
  clear hKn
  have hP : va_P D vwCl [(h0, .inr (3, [.ref q5, .ref q18, .null, .long 0, .null, .long 0, .long 0, .long 0, .null, .long 0])), (q5, .inr (2, [.int 0, .ref (u9 0), .ref (u9 1), .ref (u9 2), .ref (u9 3), .long 0, .long 0, .int 0, .ref (u9 4), .ref (u9 5), .ref (u9 6), .ref (u9 7), .ref (u9 8), .ref (u9 9)])), ((u9 0), .inl (cA 1, 12, .inr (.inl (fun _ => 0)))), ((u9 1), .inl (cA 1, 12, .inr (.inl (fun _ => 0)))), ((u9 2), .inl (cA 1, 12, .inr (.inl (fun _ => 0)))), ((u9 3), .inl (cA 1, 12, .inr (.inl (fun _ => 0)))), ((u9 4), .inl (cA 0, 24, .inl (fun _ => 0))), ((u9 5), .inl (cA 0, 24, .inl (fun _ => 0))), ((u9 6), .inl (cA 0, 24, .inl (fun _ => 0))), ((u9 7), .inl (cA 0, 24, .inl (fun _ => 0))), ((u9 8), .inl (cA 1, 24, .inr (.inl (fun _ => 0)))), ((u9 9), .inl (cA 1, 24, .inr (.inl (fun _ => 0)))), (q18, .inl (cA 0, 12, .inl (fun _ => 0))), (q26, .inl (cA 1, 6, .inr (.inl (fun _ => 0))))] H := hP
  have hD : va_D A [(h0, .inr (3, [.ref q5, .ref q18, .null, .long 0, .null, .long 0, .long 0, .long 0, .null, .long 0])), (q5, .inr (2, [.int 0, .ref (u9 0), .ref (u9 1), .ref (u9 2), .ref (u9 3), .long 0, .long 0, .int 0, .ref (u9 4), .ref (u9 5), .ref (u9 6), .ref (u9 7), .ref (u9 8), .ref (u9 9)])), ((u9 0), .inl (cA 1, 12, .inr (.inl (fun _ => 0)))), ((u9 1), .inl (cA 1, 12, .inr (.inl (fun _ => 0)))), ((u9 2), .inl (cA 1, 12, .inr (.inl (fun _ => 0)))), ((u9 3), .inl (cA 1, 12, .inr (.inl (fun _ => 0)))), ((u9 4), .inl (cA 0, 24, .inl (fun _ => 0))), ((u9 5), .inl (cA 0, 24, .inl (fun _ => 0))), ((u9 6), .inl (cA 0, 24, .inl (fun _ => 0))), ((u9 7), .inl (cA 0, 24, .inl (fun _ => 0))), ((u9 8), .inl (cA 1, 24, .inr (.inl (fun _ => 0)))), ((u9 9), .inl (cA 1, 24, .inr (.inl (fun _ => 0)))), (q18, .inl (cA 0, 12, .inl (fun _ => 0))), (q26, .inl (cA 1, 6, .inr (.inl (fun _ => 0))))] := hD
  refine W.widen (k := 13) (n := 224) (by omega) (by omega) ?_
  refine va_putF (D := D) (ci := 3) (v := .ref q26) (ty := .array .long) (C := RX3) (T := TX3) (N := 10) hx hb hts (fun w h => eTb_wd w (wfX3 w h)) tyX3 tyX3_ok nmX3 hown hK hP hD hS 0 rfl rfl 2 (by decide) (hts (.fieldLink RX3 22 "ExitFalls$Fall" "rankPrefs" "[J") (eTb_wd _ (tb2 6 rfl rfl))) (fun _ h9 => h9) rfl hin rfl (by decide +kernel) rfl rfl (Nat.le_of_ble_eq_true rfl) dkX3_28 (fun H locs hP hD hS => ?_)
  have hP : va_P D vwCl [(h0, .inr (3, [.ref q5, .ref q18, .ref q26, .long 0, .null, .long 0, .long 0, .long 0, .null, .long 0])), (q5, .inr (2, [.int 0, .ref (u9 0), .ref (u9 1), .ref (u9 2), .ref (u9 3), .long 0, .long 0, .int 0, .ref (u9 4), .ref (u9 5), .ref (u9 6), .ref (u9 7), .ref (u9 8), .ref (u9 9)])), ((u9 0), .inl (cA 1, 12, .inr (.inl (fun _ => 0)))), ((u9 1), .inl (cA 1, 12, .inr (.inl (fun _ => 0)))), ((u9 2), .inl (cA 1, 12, .inr (.inl (fun _ => 0)))), ((u9 3), .inl (cA 1, 12, .inr (.inl (fun _ => 0)))), ((u9 4), .inl (cA 0, 24, .inl (fun _ => 0))), ((u9 5), .inl (cA 0, 24, .inl (fun _ => 0))), ((u9 6), .inl (cA 0, 24, .inl (fun _ => 0))), ((u9 7), .inl (cA 0, 24, .inl (fun _ => 0))), ((u9 8), .inl (cA 1, 24, .inr (.inl (fun _ => 0)))), ((u9 9), .inl (cA 1, 24, .inr (.inl (fun _ => 0)))), (q18, .inl (cA 0, 12, .inl (fun _ => 0))), (q26, .inl (cA 1, 6, .inr (.inl (fun _ => 0))))] H := hP
  have hD : va_D A [(h0, .inr (3, [.ref q5, .ref q18, .ref q26, .long 0, .null, .long 0, .long 0, .long 0, .null, .long 0])), (q5, .inr (2, [.int 0, .ref (u9 0), .ref (u9 1), .ref (u9 2), .ref (u9 3), .long 0, .long 0, .int 0, .ref (u9 4), .ref (u9 5), .ref (u9 6), .ref (u9 7), .ref (u9 8), .ref (u9 9)])), ((u9 0), .inl (cA 1, 12, .inr (.inl (fun _ => 0)))), ((u9 1), .inl (cA 1, 12, .inr (.inl (fun _ => 0)))), ((u9 2), .inl (cA 1, 12, .inr (.inl (fun _ => 0)))), ((u9 3), .inl (cA 1, 12, .inr (.inl (fun _ => 0)))), ((u9 4), .inl (cA 0, 24, .inl (fun _ => 0))), ((u9 5), .inl (cA 0, 24, .inl (fun _ => 0))), ((u9 6), .inl (cA 0, 24, .inl (fun _ => 0))), ((u9 7), .inl (cA 0, 24, .inl (fun _ => 0))), ((u9 8), .inl (cA 1, 24, .inr (.inl (fun _ => 0)))), ((u9 9), .inl (cA 1, 24, .inr (.inl (fun _ => 0)))), (q18, .inl (cA 0, 12, .inl (fun _ => 0))), (q26, .inl (cA 1, 6, .inr (.inl (fun _ => 0))))] := hD
  refine lv_aload_n hx hb dkX3_31 rfl (lv_at hl 0 rfl) ?_
  refine lv_bipush (v := (12 : Int32)) hx hb dkX3_32 (by decide) ?_
  refine va_newa (atype := .long) (ty := .long) (a0 := (12, .inr (.inl (fun _ => 0)))) hx hb (hts (.arrayClass .long) (eTb_wd _ (tb1 95 rfl rfl))) rfl hK hP hD hS hA (fun _ => rfl) (by decide) rfl (Nat.le_of_ble_eq_true rfl) (Nat.le_of_ble_eq_true rfl) (Nat.le_of_ble_eq_true rfl) dkX3_34 (fun q34 cZ H hKn hP hD hS => ?_)
  have eZ : cZ = cA 1 := Option.some.inj ((hKn.2 4 _ rfl).2.symm.trans (hK.2 1 _ rfl).2)
  subst eZ
  clear hKn
  have hP : va_P D vwCl [(h0, .inr (3, [.ref q5, .ref q18, .ref q26, .long 0, .null, .long 0, .long 0, .long 0, .null, .long 0])), (q5, .inr (2, [.int 0, .ref (u9 0), .ref (u9 1), .ref (u9 2), .ref (u9 3), .long 0, .long 0, .int 0, .ref (u9 4), .ref (u9 5), .ref (u9 6), .ref (u9 7), .ref (u9 8), .ref (u9 9)])), ((u9 0), .inl (cA 1, 12, .inr (.inl (fun _ => 0)))), ((u9 1), .inl (cA 1, 12, .inr (.inl (fun _ => 0)))), ((u9 2), .inl (cA 1, 12, .inr (.inl (fun _ => 0)))), ((u9 3), .inl (cA 1, 12, .inr (.inl (fun _ => 0)))), ((u9 4), .inl (cA 0, 24, .inl (fun _ => 0))), ((u9 5), .inl (cA 0, 24, .inl (fun _ => 0))), ((u9 6), .inl (cA 0, 24, .inl (fun _ => 0))), ((u9 7), .inl (cA 0, 24, .inl (fun _ => 0))), ((u9 8), .inl (cA 1, 24, .inr (.inl (fun _ => 0)))), ((u9 9), .inl (cA 1, 24, .inr (.inl (fun _ => 0)))), (q18, .inl (cA 0, 12, .inl (fun _ => 0))), (q26, .inl (cA 1, 6, .inr (.inl (fun _ => 0)))), (q34, .inl (cA 1, 12, .inr (.inl (fun _ => 0))))] H := hP
  have hD : va_D A [(h0, .inr (3, [.ref q5, .ref q18, .ref q26, .long 0, .null, .long 0, .long 0, .long 0, .null, .long 0])), (q5, .inr (2, [.int 0, .ref (u9 0), .ref (u9 1), .ref (u9 2), .ref (u9 3), .long 0, .long 0, .int 0, .ref (u9 4), .ref (u9 5), .ref (u9 6), .ref (u9 7), .ref (u9 8), .ref (u9 9)])), ((u9 0), .inl (cA 1, 12, .inr (.inl (fun _ => 0)))), ((u9 1), .inl (cA 1, 12, .inr (.inl (fun _ => 0)))), ((u9 2), .inl (cA 1, 12, .inr (.inl (fun _ => 0)))), ((u9 3), .inl (cA 1, 12, .inr (.inl (fun _ => 0)))), ((u9 4), .inl (cA 0, 24, .inl (fun _ => 0))), ((u9 5), .inl (cA 0, 24, .inl (fun _ => 0))), ((u9 6), .inl (cA 0, 24, .inl (fun _ => 0))), ((u9 7), .inl (cA 0, 24, .inl (fun _ => 0))), ((u9 8), .inl (cA 1, 24, .inr (.inl (fun _ => 0)))), ((u9 9), .inl (cA 1, 24, .inr (.inl (fun _ => 0)))), (q18, .inl (cA 0, 12, .inl (fun _ => 0))), (q26, .inl (cA 1, 6, .inr (.inl (fun _ => 0)))), (q34, .inl (cA 1, 12, .inr (.inl (fun _ => 0))))] := hD
  refine W.widen (k := 14) (n := 236) (by omega) (by omega) ?_
  refine va_putF (D := D) (ci := 3) (v := .ref q34) (ty := .array .long) (C := RX3) (T := TX3) (N := 10) hx hb hts (fun w h => eTb_wd w (wfX3 w h)) tyX3 tyX3_ok nmX3 hown hK hP hD hS 0 rfl rfl 4 (by decide) (hts (.fieldLink RX3 26 "ExitFalls$Fall" "above" "[J") (eTb_wd _ (tb2 9 rfl rfl))) (fun _ h9 => h9) rfl hin rfl (by decide +kernel) rfl rfl (Nat.le_of_ble_eq_true rfl) dkX3_36 (fun H locs hP hD hS => ?_)
  have hP : va_P D vwCl [(h0, .inr (3, [.ref q5, .ref q18, .ref q26, .long 0, .ref q34, .long 0, .long 0, .long 0, .null, .long 0])), (q5, .inr (2, [.int 0, .ref (u9 0), .ref (u9 1), .ref (u9 2), .ref (u9 3), .long 0, .long 0, .int 0, .ref (u9 4), .ref (u9 5), .ref (u9 6), .ref (u9 7), .ref (u9 8), .ref (u9 9)])), ((u9 0), .inl (cA 1, 12, .inr (.inl (fun _ => 0)))), ((u9 1), .inl (cA 1, 12, .inr (.inl (fun _ => 0)))), ((u9 2), .inl (cA 1, 12, .inr (.inl (fun _ => 0)))), ((u9 3), .inl (cA 1, 12, .inr (.inl (fun _ => 0)))), ((u9 4), .inl (cA 0, 24, .inl (fun _ => 0))), ((u9 5), .inl (cA 0, 24, .inl (fun _ => 0))), ((u9 6), .inl (cA 0, 24, .inl (fun _ => 0))), ((u9 7), .inl (cA 0, 24, .inl (fun _ => 0))), ((u9 8), .inl (cA 1, 24, .inr (.inl (fun _ => 0)))), ((u9 9), .inl (cA 1, 24, .inr (.inl (fun _ => 0)))), (q18, .inl (cA 0, 12, .inl (fun _ => 0))), (q26, .inl (cA 1, 6, .inr (.inl (fun _ => 0)))), (q34, .inl (cA 1, 12, .inr (.inl (fun _ => 0))))] H := hP
  have hD : va_D A [(h0, .inr (3, [.ref q5, .ref q18, .ref q26, .long 0, .ref q34, .long 0, .long 0, .long 0, .null, .long 0])), (q5, .inr (2, [.int 0, .ref (u9 0), .ref (u9 1), .ref (u9 2), .ref (u9 3), .long 0, .long 0, .int 0, .ref (u9 4), .ref (u9 5), .ref (u9 6), .ref (u9 7), .ref (u9 8), .ref (u9 9)])), ((u9 0), .inl (cA 1, 12, .inr (.inl (fun _ => 0)))), ((u9 1), .inl (cA 1, 12, .inr (.inl (fun _ => 0)))), ((u9 2), .inl (cA 1, 12, .inr (.inl (fun _ => 0)))), ((u9 3), .inl (cA 1, 12, .inr (.inl (fun _ => 0)))), ((u9 4), .inl (cA 0, 24, .inl (fun _ => 0))), ((u9 5), .inl (cA 0, 24, .inl (fun _ => 0))), ((u9 6), .inl (cA 0, 24, .inl (fun _ => 0))), ((u9 7), .inl (cA 0, 24, .inl (fun _ => 0))), ((u9 8), .inl (cA 1, 24, .inr (.inl (fun _ => 0)))), ((u9 9), .inl (cA 1, 24, .inr (.inl (fun _ => 0)))), (q18, .inl (cA 0, 12, .inl (fun _ => 0))), (q26, .inl (cA 1, 6, .inr (.inl (fun _ => 0)))), (q34, .inl (cA 1, 12, .inr (.inl (fun _ => 0))))] := hD
  refine lv_aload_n hx hb dkX3_39 rfl (lv_at hl 0 rfl) ?_
  refine lv_lconst (v := 1) hx hb dkX3_40 (by decide) ?_
  refine va_put (D := D) (ci := 3) (v := .long 1) (ty := .long) (C := RX3) (T := TX3) (N := 10) hx hb hts (fun w h => eTb_wd w (wfX3 w h)) tyX3 tyX3_ok nmX3 hown hK hP hD hS 0 rfl rfl 5 (by decide) (hts (.fieldLink RX3 29 "ExitFalls$Fall" "below" "J") (eTb_wd _ (tb2 10 rfl rfl))) (fun _ h9 => h9) rfl (by decide +kernel) rfl rfl (Nat.le_of_ble_eq_true rfl) dkX3_41 (fun H locs hP hD hS => ?_)
  have hP : va_P D vwCl [(h0, .inr (3, [.ref q5, .ref q18, .ref q26, .long 0, .ref q34, .long 1, .long 0, .long 0, .null, .long 0])), (q5, .inr (2, [.int 0, .ref (u9 0), .ref (u9 1), .ref (u9 2), .ref (u9 3), .long 0, .long 0, .int 0, .ref (u9 4), .ref (u9 5), .ref (u9 6), .ref (u9 7), .ref (u9 8), .ref (u9 9)])), ((u9 0), .inl (cA 1, 12, .inr (.inl (fun _ => 0)))), ((u9 1), .inl (cA 1, 12, .inr (.inl (fun _ => 0)))), ((u9 2), .inl (cA 1, 12, .inr (.inl (fun _ => 0)))), ((u9 3), .inl (cA 1, 12, .inr (.inl (fun _ => 0)))), ((u9 4), .inl (cA 0, 24, .inl (fun _ => 0))), ((u9 5), .inl (cA 0, 24, .inl (fun _ => 0))), ((u9 6), .inl (cA 0, 24, .inl (fun _ => 0))), ((u9 7), .inl (cA 0, 24, .inl (fun _ => 0))), ((u9 8), .inl (cA 1, 24, .inr (.inl (fun _ => 0)))), ((u9 9), .inl (cA 1, 24, .inr (.inl (fun _ => 0)))), (q18, .inl (cA 0, 12, .inl (fun _ => 0))), (q26, .inl (cA 1, 6, .inr (.inl (fun _ => 0)))), (q34, .inl (cA 1, 12, .inr (.inl (fun _ => 0))))] H := hP
  have hD : va_D A [(h0, .inr (3, [.ref q5, .ref q18, .ref q26, .long 0, .ref q34, .long 1, .long 0, .long 0, .null, .long 0])), (q5, .inr (2, [.int 0, .ref (u9 0), .ref (u9 1), .ref (u9 2), .ref (u9 3), .long 0, .long 0, .int 0, .ref (u9 4), .ref (u9 5), .ref (u9 6), .ref (u9 7), .ref (u9 8), .ref (u9 9)])), ((u9 0), .inl (cA 1, 12, .inr (.inl (fun _ => 0)))), ((u9 1), .inl (cA 1, 12, .inr (.inl (fun _ => 0)))), ((u9 2), .inl (cA 1, 12, .inr (.inl (fun _ => 0)))), ((u9 3), .inl (cA 1, 12, .inr (.inl (fun _ => 0)))), ((u9 4), .inl (cA 0, 24, .inl (fun _ => 0))), ((u9 5), .inl (cA 0, 24, .inl (fun _ => 0))), ((u9 6), .inl (cA 0, 24, .inl (fun _ => 0))), ((u9 7), .inl (cA 0, 24, .inl (fun _ => 0))), ((u9 8), .inl (cA 1, 24, .inr (.inl (fun _ => 0)))), ((u9 9), .inl (cA 1, 24, .inr (.inl (fun _ => 0)))), (q18, .inl (cA 0, 12, .inl (fun _ => 0))), (q26, .inl (cA 1, 6, .inr (.inl (fun _ => 0)))), (q34, .inl (cA 1, 12, .inr (.inl (fun _ => 0))))] := hD
  refine lv_aload_n hx hb dkX3_44 rfl (lv_at hl 0 rfl) ?_
  refine lv_lconst (v := 1) hx hb dkX3_45 (by decide) ?_
  refine va_put (D := D) (ci := 3) (v := .long 1) (ty := .long) (C := RX3) (T := TX3) (N := 10) hx hb hts (fun w h => eTb_wd w (wfX3 w h)) tyX3 tyX3_ok nmX3 hown hK hP hD hS 0 rfl rfl 7 (by decide) (hts (.fieldLink RX3 33 "ExitFalls$Fall" "levelBelow" "J") (eTb_wd _ (tb2 15 rfl rfl))) (fun _ h9 => h9) rfl (by decide +kernel) rfl rfl (Nat.le_of_ble_eq_true rfl) dkX3_46 (fun H locs hP hD hS => ?_)
  have hP : va_P D vwCl [(h0, .inr (3, [.ref q5, .ref q18, .ref q26, .long 0, .ref q34, .long 1, .long 0, .long 1, .null, .long 0])), (q5, .inr (2, [.int 0, .ref (u9 0), .ref (u9 1), .ref (u9 2), .ref (u9 3), .long 0, .long 0, .int 0, .ref (u9 4), .ref (u9 5), .ref (u9 6), .ref (u9 7), .ref (u9 8), .ref (u9 9)])), ((u9 0), .inl (cA 1, 12, .inr (.inl (fun _ => 0)))), ((u9 1), .inl (cA 1, 12, .inr (.inl (fun _ => 0)))), ((u9 2), .inl (cA 1, 12, .inr (.inl (fun _ => 0)))), ((u9 3), .inl (cA 1, 12, .inr (.inl (fun _ => 0)))), ((u9 4), .inl (cA 0, 24, .inl (fun _ => 0))), ((u9 5), .inl (cA 0, 24, .inl (fun _ => 0))), ((u9 6), .inl (cA 0, 24, .inl (fun _ => 0))), ((u9 7), .inl (cA 0, 24, .inl (fun _ => 0))), ((u9 8), .inl (cA 1, 24, .inr (.inl (fun _ => 0)))), ((u9 9), .inl (cA 1, 24, .inr (.inl (fun _ => 0)))), (q18, .inl (cA 0, 12, .inl (fun _ => 0))), (q26, .inl (cA 1, 6, .inr (.inl (fun _ => 0)))), (q34, .inl (cA 1, 12, .inr (.inl (fun _ => 0))))] H := hP
  have hD : va_D A [(h0, .inr (3, [.ref q5, .ref q18, .ref q26, .long 0, .ref q34, .long 1, .long 0, .long 1, .null, .long 0])), (q5, .inr (2, [.int 0, .ref (u9 0), .ref (u9 1), .ref (u9 2), .ref (u9 3), .long 0, .long 0, .int 0, .ref (u9 4), .ref (u9 5), .ref (u9 6), .ref (u9 7), .ref (u9 8), .ref (u9 9)])), ((u9 0), .inl (cA 1, 12, .inr (.inl (fun _ => 0)))), ((u9 1), .inl (cA 1, 12, .inr (.inl (fun _ => 0)))), ((u9 2), .inl (cA 1, 12, .inr (.inl (fun _ => 0)))), ((u9 3), .inl (cA 1, 12, .inr (.inl (fun _ => 0)))), ((u9 4), .inl (cA 0, 24, .inl (fun _ => 0))), ((u9 5), .inl (cA 0, 24, .inl (fun _ => 0))), ((u9 6), .inl (cA 0, 24, .inl (fun _ => 0))), ((u9 7), .inl (cA 0, 24, .inl (fun _ => 0))), ((u9 8), .inl (cA 1, 24, .inr (.inl (fun _ => 0)))), ((u9 9), .inl (cA 1, 24, .inr (.inl (fun _ => 0)))), (q18, .inl (cA 0, 12, .inl (fun _ => 0))), (q26, .inl (cA 1, 6, .inr (.inl (fun _ => 0)))), (q34, .inl (cA 1, 12, .inr (.inl (fun _ => 0))))] := hD
  refine lv_aload_n hx hb dkX3_49 rfl (lv_at hl 0 rfl) ?_
  refine lv_bipush (v := (12 : Int32)) hx hb dkX3_50 (by decide) ?_
  refine va_newa (atype := .long) (ty := .long) (a0 := (12, .inr (.inl (fun _ => 0)))) hx hb (hts (.arrayClass .long) (eTb_wd _ (tb1 95 rfl rfl))) rfl hK hP hD hS hA (fun _ => rfl) (by decide) rfl (Nat.le_of_ble_eq_true rfl) (Nat.le_of_ble_eq_true rfl) (Nat.le_of_ble_eq_true rfl) dkX3_52 (fun q52 cZ H hKn hP hD hS => ?_)
  have eZ : cZ = cA 1 := Option.some.inj ((hKn.2 4 _ rfl).2.symm.trans (hK.2 1 _ rfl).2)
  subst eZ
  clear hKn
  have hP : va_P D vwCl [(h0, .inr (3, [.ref q5, .ref q18, .ref q26, .long 0, .ref q34, .long 1, .long 0, .long 1, .null, .long 0])), (q5, .inr (2, [.int 0, .ref (u9 0), .ref (u9 1), .ref (u9 2), .ref (u9 3), .long 0, .long 0, .int 0, .ref (u9 4), .ref (u9 5), .ref (u9 6), .ref (u9 7), .ref (u9 8), .ref (u9 9)])), ((u9 0), .inl (cA 1, 12, .inr (.inl (fun _ => 0)))), ((u9 1), .inl (cA 1, 12, .inr (.inl (fun _ => 0)))), ((u9 2), .inl (cA 1, 12, .inr (.inl (fun _ => 0)))), ((u9 3), .inl (cA 1, 12, .inr (.inl (fun _ => 0)))), ((u9 4), .inl (cA 0, 24, .inl (fun _ => 0))), ((u9 5), .inl (cA 0, 24, .inl (fun _ => 0))), ((u9 6), .inl (cA 0, 24, .inl (fun _ => 0))), ((u9 7), .inl (cA 0, 24, .inl (fun _ => 0))), ((u9 8), .inl (cA 1, 24, .inr (.inl (fun _ => 0)))), ((u9 9), .inl (cA 1, 24, .inr (.inl (fun _ => 0)))), (q18, .inl (cA 0, 12, .inl (fun _ => 0))), (q26, .inl (cA 1, 6, .inr (.inl (fun _ => 0)))), (q34, .inl (cA 1, 12, .inr (.inl (fun _ => 0)))), (q52, .inl (cA 1, 12, .inr (.inl (fun _ => 0))))] H := hP
  have hD : va_D A [(h0, .inr (3, [.ref q5, .ref q18, .ref q26, .long 0, .ref q34, .long 1, .long 0, .long 1, .null, .long 0])), (q5, .inr (2, [.int 0, .ref (u9 0), .ref (u9 1), .ref (u9 2), .ref (u9 3), .long 0, .long 0, .int 0, .ref (u9 4), .ref (u9 5), .ref (u9 6), .ref (u9 7), .ref (u9 8), .ref (u9 9)])), ((u9 0), .inl (cA 1, 12, .inr (.inl (fun _ => 0)))), ((u9 1), .inl (cA 1, 12, .inr (.inl (fun _ => 0)))), ((u9 2), .inl (cA 1, 12, .inr (.inl (fun _ => 0)))), ((u9 3), .inl (cA 1, 12, .inr (.inl (fun _ => 0)))), ((u9 4), .inl (cA 0, 24, .inl (fun _ => 0))), ((u9 5), .inl (cA 0, 24, .inl (fun _ => 0))), ((u9 6), .inl (cA 0, 24, .inl (fun _ => 0))), ((u9 7), .inl (cA 0, 24, .inl (fun _ => 0))), ((u9 8), .inl (cA 1, 24, .inr (.inl (fun _ => 0)))), ((u9 9), .inl (cA 1, 24, .inr (.inl (fun _ => 0)))), (q18, .inl (cA 0, 12, .inl (fun _ => 0))), (q26, .inl (cA 1, 6, .inr (.inl (fun _ => 0)))), (q34, .inl (cA 1, 12, .inr (.inl (fun _ => 0)))), (q52, .inl (cA 1, 12, .inr (.inl (fun _ => 0))))] := hD
  refine W.widen (k := 15) (n := 248) (by omega) (by omega) ?_
  refine va_putF (D := D) (ci := 3) (v := .ref q52) (ty := .array .long) (C := RX3) (T := TX3) (N := 10) hx hb hts (fun w h => eTb_wd w (wfX3 w h)) tyX3 tyX3_ok nmX3 hown hK hP hD hS 0 rfl rfl 8 (by decide) (hts (.fieldLink RX3 36 "ExitFalls$Fall" "oldAbove" "[J") (eTb_wd _ (tb2 17 rfl rfl))) (fun _ h9 => h9) rfl hin rfl (by decide +kernel) rfl rfl (Nat.le_of_ble_eq_true rfl) dkX3_54 (fun H locs hP hD hS => ?_)
  have hP : va_P D vwCl [(h0, .inr (3, [.ref q5, .ref q18, .ref q26, .long 0, .ref q34, .long 1, .long 0, .long 1, .ref q52, .long 0])), (q5, .inr (2, [.int 0, .ref (u9 0), .ref (u9 1), .ref (u9 2), .ref (u9 3), .long 0, .long 0, .int 0, .ref (u9 4), .ref (u9 5), .ref (u9 6), .ref (u9 7), .ref (u9 8), .ref (u9 9)])), ((u9 0), .inl (cA 1, 12, .inr (.inl (fun _ => 0)))), ((u9 1), .inl (cA 1, 12, .inr (.inl (fun _ => 0)))), ((u9 2), .inl (cA 1, 12, .inr (.inl (fun _ => 0)))), ((u9 3), .inl (cA 1, 12, .inr (.inl (fun _ => 0)))), ((u9 4), .inl (cA 0, 24, .inl (fun _ => 0))), ((u9 5), .inl (cA 0, 24, .inl (fun _ => 0))), ((u9 6), .inl (cA 0, 24, .inl (fun _ => 0))), ((u9 7), .inl (cA 0, 24, .inl (fun _ => 0))), ((u9 8), .inl (cA 1, 24, .inr (.inl (fun _ => 0)))), ((u9 9), .inl (cA 1, 24, .inr (.inl (fun _ => 0)))), (q18, .inl (cA 0, 12, .inl (fun _ => 0))), (q26, .inl (cA 1, 6, .inr (.inl (fun _ => 0)))), (q34, .inl (cA 1, 12, .inr (.inl (fun _ => 0)))), (q52, .inl (cA 1, 12, .inr (.inl (fun _ => 0))))] H := hP
  have hD : va_D A [(h0, .inr (3, [.ref q5, .ref q18, .ref q26, .long 0, .ref q34, .long 1, .long 0, .long 1, .ref q52, .long 0])), (q5, .inr (2, [.int 0, .ref (u9 0), .ref (u9 1), .ref (u9 2), .ref (u9 3), .long 0, .long 0, .int 0, .ref (u9 4), .ref (u9 5), .ref (u9 6), .ref (u9 7), .ref (u9 8), .ref (u9 9)])), ((u9 0), .inl (cA 1, 12, .inr (.inl (fun _ => 0)))), ((u9 1), .inl (cA 1, 12, .inr (.inl (fun _ => 0)))), ((u9 2), .inl (cA 1, 12, .inr (.inl (fun _ => 0)))), ((u9 3), .inl (cA 1, 12, .inr (.inl (fun _ => 0)))), ((u9 4), .inl (cA 0, 24, .inl (fun _ => 0))), ((u9 5), .inl (cA 0, 24, .inl (fun _ => 0))), ((u9 6), .inl (cA 0, 24, .inl (fun _ => 0))), ((u9 7), .inl (cA 0, 24, .inl (fun _ => 0))), ((u9 8), .inl (cA 1, 24, .inr (.inl (fun _ => 0)))), ((u9 9), .inl (cA 1, 24, .inr (.inl (fun _ => 0)))), (q18, .inl (cA 0, 12, .inl (fun _ => 0))), (q26, .inl (cA 1, 6, .inr (.inl (fun _ => 0)))), (q34, .inl (cA 1, 12, .inr (.inl (fun _ => 0)))), (q52, .inl (cA 1, 12, .inr (.inl (fun _ => 0))))] := hD
  refine lv_aload_n hx hb dkX3_57 rfl (lv_at hl 0 rfl) ?_
  refine lv_lconst (v := 1) hx hb dkX3_58 (by decide) ?_
  refine va_put (D := D) (ci := 3) (v := .long 1) (ty := .long) (C := RX3) (T := TX3) (N := 10) hx hb hts (fun w h => eTb_wd w (wfX3 w h)) tyX3 tyX3_ok nmX3 hown hK hP hD hS 0 rfl rfl 9 (by decide) (hts (.fieldLink RX3 39 "ExitFalls$Fall" "oldBelow" "J") (eTb_wd _ (tb2 18 rfl rfl))) (fun _ h9 => h9) rfl (by decide +kernel) rfl rfl (Nat.le_of_ble_eq_true rfl) dkX3_59 (fun H locs hP hD hS => ?_)
  have hP : va_P D vwCl [(h0, .inr (3, [.ref q5, .ref q18, .ref q26, .long 0, .ref q34, .long 1, .long 0, .long 1, .ref q52, .long 1])), (q5, .inr (2, [.int 0, .ref (u9 0), .ref (u9 1), .ref (u9 2), .ref (u9 3), .long 0, .long 0, .int 0, .ref (u9 4), .ref (u9 5), .ref (u9 6), .ref (u9 7), .ref (u9 8), .ref (u9 9)])), ((u9 0), .inl (cA 1, 12, .inr (.inl (fun _ => 0)))), ((u9 1), .inl (cA 1, 12, .inr (.inl (fun _ => 0)))), ((u9 2), .inl (cA 1, 12, .inr (.inl (fun _ => 0)))), ((u9 3), .inl (cA 1, 12, .inr (.inl (fun _ => 0)))), ((u9 4), .inl (cA 0, 24, .inl (fun _ => 0))), ((u9 5), .inl (cA 0, 24, .inl (fun _ => 0))), ((u9 6), .inl (cA 0, 24, .inl (fun _ => 0))), ((u9 7), .inl (cA 0, 24, .inl (fun _ => 0))), ((u9 8), .inl (cA 1, 24, .inr (.inl (fun _ => 0)))), ((u9 9), .inl (cA 1, 24, .inr (.inl (fun _ => 0)))), (q18, .inl (cA 0, 12, .inl (fun _ => 0))), (q26, .inl (cA 1, 6, .inr (.inl (fun _ => 0)))), (q34, .inl (cA 1, 12, .inr (.inl (fun _ => 0)))), (q52, .inl (cA 1, 12, .inr (.inl (fun _ => 0))))] H := hP
  have hD : va_D A [(h0, .inr (3, [.ref q5, .ref q18, .ref q26, .long 0, .ref q34, .long 1, .long 0, .long 1, .ref q52, .long 1])), (q5, .inr (2, [.int 0, .ref (u9 0), .ref (u9 1), .ref (u9 2), .ref (u9 3), .long 0, .long 0, .int 0, .ref (u9 4), .ref (u9 5), .ref (u9 6), .ref (u9 7), .ref (u9 8), .ref (u9 9)])), ((u9 0), .inl (cA 1, 12, .inr (.inl (fun _ => 0)))), ((u9 1), .inl (cA 1, 12, .inr (.inl (fun _ => 0)))), ((u9 2), .inl (cA 1, 12, .inr (.inl (fun _ => 0)))), ((u9 3), .inl (cA 1, 12, .inr (.inl (fun _ => 0)))), ((u9 4), .inl (cA 0, 24, .inl (fun _ => 0))), ((u9 5), .inl (cA 0, 24, .inl (fun _ => 0))), ((u9 6), .inl (cA 0, 24, .inl (fun _ => 0))), ((u9 7), .inl (cA 0, 24, .inl (fun _ => 0))), ((u9 8), .inl (cA 1, 24, .inr (.inl (fun _ => 0)))), ((u9 9), .inl (cA 1, 24, .inr (.inl (fun _ => 0)))), (q18, .inl (cA 0, 12, .inl (fun _ => 0))), (q26, .inl (cA 1, 6, .inr (.inl (fun _ => 0)))), (q34, .inl (cA 1, 12, .inr (.inl (fun _ => 0)))), (q52, .inl (cA 1, 12, .inr (.inl (fun _ => 0))))] := hD
  have hP9 := hP.sub (ws' := [(h0, .inr (3, [.ref q5, .ref q18, .ref q26, .long 0, .ref q34, .long 1, .long 0, .long 1, .ref q52, .long 1])), (q5, .inr (2, [.int 0, .ref (u9 0), .ref (u9 1), .ref (u9 2), .ref (u9 3), .long 0, .long 0, .int 0, .ref (u9 4), .ref (u9 5), .ref (u9 6), .ref (u9 7), .ref (u9 8), .ref (u9 9)])), ((u9 0), .inl (cA 1, 12, .inr (.inl (fun _ => 0)))), ((u9 1), .inl (cA 1, 12, .inr (.inl (fun _ => 0)))), ((u9 2), .inl (cA 1, 12, .inr (.inl (fun _ => 0)))), ((u9 3), .inl (cA 1, 12, .inr (.inl (fun _ => 0)))), ((u9 4), .inl (cA 0, 24, .inl (fun _ => 0))), ((u9 5), .inl (cA 0, 24, .inl (fun _ => 0))), ((u9 6), .inl (cA 0, 24, .inl (fun _ => 0))), ((u9 7), .inl (cA 0, 24, .inl (fun _ => 0))), ((u9 8), .inl (cA 1, 24, .inr (.inl (fun _ => 0)))), ((u9 9), .inl (cA 1, 24, .inr (.inl (fun _ => 0)))), (q18, .inl (cA 0, 12, .inl (fun _ => 0))), (q26, .inl (cA 1, 6, .inr (.inl (fun _ => 0)))), (q34, .inl (cA 1, 12, .inr (.inl (fun _ => 0)))), (q52, .inl (cA 1, 12, .inr (.inl (fun _ => 0))))]) [0, 1, 2, 3, 4, 5, 6, 7, 8, 9, 10, 11, 12, 13, 14, 15] rfl
  have hD9 := hD.sub (ws' := [(h0, .inr (3, [.ref q5, .ref q18, .ref q26, .long 0, .ref q34, .long 1, .long 0, .long 1, .ref q52, .long 1])), (q5, .inr (2, [.int 0, .ref (u9 0), .ref (u9 1), .ref (u9 2), .ref (u9 3), .long 0, .long 0, .int 0, .ref (u9 4), .ref (u9 5), .ref (u9 6), .ref (u9 7), .ref (u9 8), .ref (u9 9)])), ((u9 0), .inl (cA 1, 12, .inr (.inl (fun _ => 0)))), ((u9 1), .inl (cA 1, 12, .inr (.inl (fun _ => 0)))), ((u9 2), .inl (cA 1, 12, .inr (.inl (fun _ => 0)))), ((u9 3), .inl (cA 1, 12, .inr (.inl (fun _ => 0)))), ((u9 4), .inl (cA 0, 24, .inl (fun _ => 0))), ((u9 5), .inl (cA 0, 24, .inl (fun _ => 0))), ((u9 6), .inl (cA 0, 24, .inl (fun _ => 0))), ((u9 7), .inl (cA 0, 24, .inl (fun _ => 0))), ((u9 8), .inl (cA 1, 24, .inr (.inl (fun _ => 0)))), ((u9 9), .inl (cA 1, 24, .inr (.inl (fun _ => 0)))), (q18, .inl (cA 0, 12, .inl (fun _ => 0))), (q26, .inl (cA 1, 6, .inr (.inl (fun _ => 0)))), (q34, .inl (cA 1, 12, .inr (.inl (fun _ => 0)))), (q52, .inl (cA 1, 12, .inr (.inl (fun _ => 0))))]) [0, 1, 2, 3, 4, 5, 6, 7, 8, 9, 10, 11, 12, 13, 14, 15] (by decide) rfl
  exact W.vret hx hb hr (fun t ht hW => ⟨⟨(fun i => match i with | 0 => q5 | 1 => (u9 0) | 2 => (u9 1) | 3 => (u9 2) | 4 => (u9 3) | 5 => (u9 4) | 6 => (u9 5) | 7 => (u9 6) | 8 => (u9 7) | 9 => (u9 8) | 10 => (u9 9) | 11 => q18 | 12 => q26 | 13 => q34 | 14 => q52 | _ => 0), rfl, trivial, by rw [ht]; exact hP9, hD9⟩, hS.F ht⟩) hS.2.2 dkX3_62
