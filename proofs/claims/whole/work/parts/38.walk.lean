theorem dls_0 : decode code 0 = .ok (.new 7, 3) := by decide +kernel
theorem dls_3 : decode code 3 = .ok (.dup, 1) := by decide +kernel
theorem dls_4 : decode code 4 = .ok (.invokespecial 9, 3) := by decide +kernel
theorem dls_7 : decode code 7 = .ok (.astore_n 1, 1) := by decide +kernel
theorem dls_8 : decode code 8 = .ok (.new 10, 3) := by decide +kernel
theorem dls_11 : decode code 11 = .ok (.dup, 1) := by decide +kernel
theorem dls_12 : decode code 12 = .ok (.invokespecial 12, 3) := by decide +kernel
theorem dls_15 : decode code 15 = .ok (.astore_n 2, 1) := by decide +kernel
theorem dls_16 : decode code 16 = .ok (.iconst 0, 1) := by decide +kernel
theorem dls_17 : decode code 17 = .ok (.istore_n 3, 1) := by decide +kernel
def adW (u4 u12 : Nat → Nat) (q0 q8 t0 t1 t2 t3 b : Nat) : Nat → Nat := fun i => match i with | 0 => (u4 1) | 1 => (u4 0) | 2 => (u4 6) | 3 => (u4 5) | 4 => (u4 3) | 5 => (u4 4) | 6 => (u4 2) | 7 => (u4 8) | 8 => (u4 7) | 9 => (u4 11) | 10 => (u4 12) | 11 => (u4 13) | 12 => (u4 14) | 13 => (u4 15) | 14 => (u4 16) | 15 => (u4 17) | 16 => (u4 18) | 17 => (u4 19) | 18 => (u4 20) | 19 => (u4 10) | 20 => (u4 21) | 21 => (u4 22) | 22 => (u4 23) | 23 => (u4 24) | 24 => (u4 9) | 25 => (u4 26) | 26 => (u4 27) | 27 => (u4 25) | 28 => (u4 29) | 29 => (u4 30) | 30 => (u4 31) | 31 => (u4 28) | 32 => (u4 32) | 33 => (u4 34) | 34 => (u4 35) | 35 => (u4 33) | 36 => (u4 37) | 37 => (u4 36) | 38 => q0 | 39 => (u12 0) | 40 => (u12 1) | 41 => (u12 2) | 42 => (u12 3) | 43 => (u12 4) | 44 => (u12 5) | 45 => (u12 6) | 46 => (u12 7) | 47 => (u12 8) | 48 => (u12 9) | 49 => (u12 10) | 50 => (u12 11) | 51 => (u12 12) | 52 => (u12 13) | 53 => (u12 14) | 54 => (u12 15) | 55 => (u12 16) | 56 => (u12 17) | 57 => (u12 18) | 58 => (u12 19) | 59 => (u12 20) | 60 => (u12 21) | 61 => (u12 22) | 62 => (u12 23) | 63 => q8 | 64 => t0 | 65 => t1 | 66 => t2 | 67 => t3 | _ => b
set_option maxRecDepth 100000 in
set_option maxHeartbeats 4000000 in
theorem dfX11 : ∀ j, j < 9 → defaultValue (tyX11 j) = vp_V [.null, .null, .null, .null, .null, .null, .null, .null, .null] j := by
  intro j hj
  match j, hj with
  | 0, _ => rfl
  | 1, _ => rfl
  | 2, _ => rfl
  | 3, _ => rfl
  | 4, _ => rfl
  | 5, _ => rfl
  | 6, _ => rfl
  | 7, _ => rfl
  | 8, _ => rfl
  | j + 9, hj => exact absurd hj (by omega)
set_option maxRecDepth 100000 in
set_option maxHeartbeats 4000000 in
theorem dfX12 : ∀ j, j < 60 → defaultValue (tyX12 j) = vp_V [.int 0, .int 0, .int 0, .int 0, .int 0, .null, .null, .null, .null, .null, .null, .null, .null, .null, .null, .null, .int 0, .null, .int 0, .int 0, .int 0, .int 0, .int 0, .int 0, .int 0, .int 0, .int 0, .int 0, .int 0, .int 0, .null, .null, .null, .null, .int 0, .int 0, .int 0, .null, .long 0, .long 0, .long 0, .null, .null, .long 0, .long 0, .null, .null, .int 0, .long 0, .long 0, .null, .null, .null, .int 0, .int 0, .int 0, .int 0, .int 0, .int 0, .int 0] j := by
  intro j hj
  match j, hj with
  | 0, _ => rfl
  | 1, _ => rfl
  | 2, _ => rfl
  | 3, _ => rfl
  | 4, _ => rfl
  | 5, _ => rfl
  | 6, _ => rfl
  | 7, _ => rfl
  | 8, _ => rfl
  | 9, _ => rfl
  | 10, _ => rfl
  | 11, _ => rfl
  | 12, _ => rfl
  | 13, _ => rfl
  | 14, _ => rfl
  | 15, _ => rfl
  | 16, _ => rfl
  | 17, _ => rfl
  | 18, _ => rfl
  | 19, _ => rfl
  | 20, _ => rfl
  | 21, _ => rfl
  | 22, _ => rfl
  | 23, _ => rfl
  | 24, _ => rfl
  | 25, _ => rfl
  | 26, _ => rfl
  | 27, _ => rfl
  | 28, _ => rfl
  | 29, _ => rfl
  | 30, _ => rfl
  | 31, _ => rfl
  | 32, _ => rfl
  | 33, _ => rfl
  | 34, _ => rfl
  | 35, _ => rfl
  | 36, _ => rfl
  | 37, _ => rfl
  | 38, _ => rfl
  | 39, _ => rfl
  | 40, _ => rfl
  | 41, _ => rfl
  | 42, _ => rfl
  | 43, _ => rfl
  | 44, _ => rfl
  | 45, _ => rfl
  | 46, _ => rfl
  | 47, _ => rfl
  | 48, _ => rfl
  | 49, _ => rfl
  | 50, _ => rfl
  | 51, _ => rfl
  | 52, _ => rfl
  | 53, _ => rfl
  | 54, _ => rfl
  | 55, _ => rfl
  | 56, _ => rfl
  | 57, _ => rfl
  | 58, _ => rfl
  | 59, _ => rfl
  | j + 60, hj => exact absurd hj (by omega)
set_option maxRecDepth 100000 in
set_option maxHeartbeats 4000000 in
/-- the law from its entry, if its loop goes through over the two first worlds -/
theorem law_start {p : Program} {e : Env} {s : State} {m : MethodId} {below : List Frame} {meth : Method} {c : Code} (l : Launch) {b L : Nat} {xs : Nat → Int32} (hL : L ≤ 3072) (C0 : lw_At p s m meth c b L xs) {zs : List Int32} (hz : zs.length = L) (hzs : ∀ j, j < L → zs.getD j 0 = xs j) (hpure : ∃ (n : Nat) (x : eW), f_law zs n 0 w0 = some x) : W p l e room_1 s m #[Value.ref b] below meth c s.heap [] 0 0 (lw_Z below #[Value.ref b] s) (entryFrame m ([Value.ref b] : List Value).toArray 4) := by
  obtain ⟨hx, hb, hr, hml, hown, hts, hX, hbl, hlocks, hgv⟩ := id C0
  have hte : ∀ w ∈ eTb, w.before #[Value.ref b] s = true := fun w h => hts w (eTb_in h)
  obtain ⟨A, hAd⟩ : ∃ A : Nat → Prop, A = fun q : Nat => s.heap.size ≤ q := ⟨_, rfl⟩
  have hA : ∀ q : Nat, s.heap.size ≤ q → A q := fun q h => by rw [hAd]; exact h
  have hAn : ∀ a : Nat, a < s.heap.size → ¬ A a := fun a h z => by rw [hAd] at z; exact absurd z (Nat.not_le.mpr h)
  have hAo : ∀ q : Nat, A q → s.heap.size ≤ q := fun q h => by rw [hAd] at h; exact h
  obtain ⟨D, cA, hK⟩ := sk_K hts
  obtain ⟨aK, aV, hKS⟩ := sk_KS hgv hts hAn
  have hEx : eEx aK aV A s := ⟨sk_Ns hts, hKS⟩
  obtain ⟨t0, hZ0, hT0⟩ := sa_COMMON_LINE hgv hts hAn
  obtain ⟨t1, hZ1, hT1⟩ := sa_OPTION_LINE hgv hts hAn
  obtain ⟨t2, hZ2, hT2⟩ := sa_CLASS_LINE hgv hts hAn
  obtain ⟨t3, hZ3, hT3⟩ := sa_CARVE_LINE hgv hts hAn
  have hS : va_S A s.heap s.heap [] := va_S.rf
  have hP : va_P D vwCl [] s.heap := fun k q h => by simp at h
  have hD : va_D A [] := ⟨fun i j p q h => by simp at h, fun k q h => by simp at h⟩
  have hl := lv_entry ([.ref b]) (n := 4) (Nat.le_of_ble_eq_true rfl)
  rw [lg_entry_eq]
  generalize (lg_sl ([.ref b]) ++ List.replicate (4 - (lg_sl ([.ref b])).length) Slot.unset).toArray = ls at hl ⊢
  have hl : lv_has ls 4 [(0, .ref b)] := hl
  refine va_new (ci := 10) (fs := [.null, .null, .null, .null, .null, .null, .null, .null, .null]) (C := RX11) (T := TX11) (N := 9) hx hb hte wfX11 tyX11 tyX11_ok hown (hte (.classLink R_law 7 RX11) (tb1 21 rfl rfl)) (hte (.instantiable RX11 9) (tb1 22 rfl rfl)) (hte (.initialized RX11) (tb1 1 rfl rfl)) hK hP hD hS hA rfl (fun j hj => dfX11 j hj) (Nat.le_of_ble_eq_true rfl) (Nat.le_of_ble_eq_true rfl) dls_0 (fun q0 H hP hD hS => ?_)
  have hP : va_P D vwCl [(q0, .inr (10, [.null, .null, .null, .null, .null, .null, .null, .null, .null]))] H := hP
  have hD : va_D A [(q0, .inr (10, [.null, .null, .null, .null, .null, .null, .null, .null, .null]))] := hD
  refine W.widen (k := 1) (n := 9) (by omega) (by omega) ?_
  refine lv_dup hx hb dls_3 rfl ?_
  have hPc := hP.sub (ws' := [(q0, .inr (10, [.null, .null, .null, .null, .null, .null, .null, .null, .null]))]) [0] rfl
  have hDc := hD.sub (ws' := [(q0, .inr (10, [.null, .null, .null, .null, .null, .null, .null, .null, .null]))]) [0] (by decide) rfl
  have hFc := va_free (wc := [(q0, .inr (10, [.null, .null, .null, .null, .null, .null, .null, .null, .null]))]) hD hS hA [0] rfl
  refine va_callv (va_runI (As := []) (rest := [.ref q0]) ⟨hx, hb, hml, hown, hte⟩ (ct_X11 l D cA aK aV q0 H.size) (cwI 0 hte (fun w hw => ⟨(List.mem_cons.mp hw).elim (fun e9 => by rw [e9]; exact wkX11_init) id, eTb_good ((List.mem_cons.mp hw).elim (fun e9 => by rw [e9]; exact wkX11_init) id)⟩) rfl rfl rfl (hte (.initialized RX11) (tb1 1 rfl rfl)) (hte (.methodLink R_law 9 yX11_init) (tb1 23 rfl rfl)) (hte (.instanceMethod yX11_init) (tb1 24 rfl rfl)) rfl hdX11_init ⟨Nat.le_of_ble_eq_true rfl, Nat.le_of_ble_eq_true rfl⟩) ⟨fun a U g mk q => by obtain ⟨q0, q1, qP, qK, qD, qE⟩ := q; exact ⟨q0, q1, qP, va_K.moved (u := U) (U := U.calling g mk a) (Vm.Alike.refl U.vm) qK, qD, qE.call⟩, fun U hU hW => ⟨rfl, by rw [hU], by rw [hU]; exact hPc, va_K.moved hW.alike hK, hDc.weaken (fun _ _ _ _ => trivial), hEx.go hS hU hW hFc⟩⟩ rfl rfl hl.1 rfl (lv_room (Nat.le_of_ble_eq_true rfl)) dls_4 ⟨Nat.le_of_ble_eq_true rfl, Nat.le_of_ble_eq_true rfl⟩) hS (fun q _ h => hFc q h) hFc (fun u4 t H1 locs ht hvm hw hB hz1 hk1 hS => ?_)
  obtain ⟨hP1, hD1⟩ := hB
  rw [ht] at hP1
  obtain ⟨hP, hD⟩ := va_join (wr := []) (w1 := fin_X11 cA u4 q0) hP hD [0] [] rfl rfl (by decide) (by decide) hk1 hFc hP1 hD1
  generalize H1 = H at hP hS ⊢
  have hP : va_P D vwCl (fin_X11 cA u4 q0) H := hP
  have hD : va_D A (fin_X11 cA u4 q0) := hD
  refine W.widen (k := 39) (n := 1899) (by omega) (by omega) ?_
  refine lv_astore_n (lv' := [(1, .ref q0), (0, .ref b)]) hx hb dls_7 rfl hl (by decide) rfl (fun ls hl => ?_)
  refine va_new (ci := 11) (fs := [.int 0, .int 0, .int 0, .int 0, .int 0, .null, .null, .null, .null, .null, .null, .null, .null, .null, .null, .null, .int 0, .null, .int 0, .int 0, .int 0, .int 0, .int 0, .int 0, .int 0, .int 0, .int 0, .int 0, .int 0, .int 0, .null, .null, .null, .null, .int 0, .int 0, .int 0, .null, .long 0, .long 0, .long 0, .null, .null, .long 0, .long 0, .null, .null, .int 0, .long 0, .long 0, .null, .null, .null, .int 0, .int 0, .int 0, .int 0, .int 0, .int 0, .int 0]) (C := RX12) (T := TX12) (N := 60) hx hb hte wfX12 tyX12 tyX12_ok hown (hte (.classLink R_law 10 RX12) (tb5 68 rfl rfl)) (hte (.instantiable RX12 60) (tb5 69 rfl rfl)) (hte (.initialized RX12) (tb1 16 rfl rfl)) hK hP hD hS hA rfl (fun j hj => dfX12 j hj) (Nat.le_of_ble_eq_true rfl) (Nat.le_of_ble_eq_true rfl) dls_8 (fun q8 H hP hD hS => ?_)
  refine W.widen (k := 40) (n := 1959) (by omega) (by omega) ?_
  refine lv_dup hx hb dls_11 rfl ?_
  have hPc := hP.sub (ws' := [(q8, .inr (11, [.int 0, .int 0, .int 0, .int 0, .int 0, .null, .null, .null, .null, .null, .null, .null, .null, .null, .null, .null, .int 0, .null, .int 0, .int 0, .int 0, .int 0, .int 0, .int 0, .int 0, .int 0, .int 0, .int 0, .int 0, .int 0, .null, .null, .null, .null, .int 0, .int 0, .int 0, .null, .long 0, .long 0, .long 0, .null, .null, .long 0, .long 0, .null, .null, .int 0, .long 0, .long 0, .null, .null, .null, .int 0, .int 0, .int 0, .int 0, .int 0, .int 0, .int 0]))]) [39] rfl
  have hDc := hD.sub (ws' := [(q8, .inr (11, [.int 0, .int 0, .int 0, .int 0, .int 0, .null, .null, .null, .null, .null, .null, .null, .null, .null, .null, .null, .int 0, .null, .int 0, .int 0, .int 0, .int 0, .int 0, .int 0, .int 0, .int 0, .int 0, .int 0, .int 0, .int 0, .null, .null, .null, .null, .int 0, .int 0, .int 0, .null, .long 0, .long 0, .long 0, .null, .null, .long 0, .long 0, .null, .null, .int 0, .long 0, .long 0, .null, .null, .null, .int 0, .int 0, .int 0, .int 0, .int 0, .int 0, .int 0]))]) [39] (by decide) rfl
  have hFc := va_free (wc := [(q8, .inr (11, [.int 0, .int 0, .int 0, .int 0, .int 0, .null, .null, .null, .null, .null, .null, .null, .null, .null, .null, .null, .int 0, .null, .int 0, .int 0, .int 0, .int 0, .int 0, .int 0, .int 0, .int 0, .int 0, .int 0, .int 0, .int 0, .null, .null, .null, .null, .int 0, .int 0, .int 0, .null, .long 0, .long 0, .long 0, .null, .null, .long 0, .long 0, .null, .null, .int 0, .long 0, .long 0, .null, .null, .null, .int 0, .int 0, .int 0, .int 0, .int 0, .int 0, .int 0]))]) hD hS hA [39] rfl
  refine va_callv (va_runI (As := []) (rest := [.ref q8]) ⟨hx, hb, hml, hown, hte⟩ (ct_X12 l D cA aK aV q8 H.size) (cwI 0 hte (fun w hw => ⟨(List.mem_cons.mp hw).elim (fun e9 => by rw [e9]; exact wkX12_init) id, eTb_good ((List.mem_cons.mp hw).elim (fun e9 => by rw [e9]; exact wkX12_init) id)⟩) rfl rfl rfl (hte (.initialized RX12) (tb1 16 rfl rfl)) (hte (.methodLink R_law 12 yX12_init) (tb5 70 rfl rfl)) (hte (.instanceMethod yX12_init) (tb5 71 rfl rfl)) rfl hdX12_init ⟨Nat.le_of_ble_eq_true rfl, Nat.le_of_ble_eq_true rfl⟩) ⟨fun a U g mk q => by obtain ⟨q0, q1, qP, qK, qD, qE⟩ := q; exact ⟨q0, q1, qP, va_K.moved (u := U) (U := U.calling g mk a) (Vm.Alike.refl U.vm) qK, qD, qE.call⟩, fun U hU hW => ⟨rfl, by rw [hU], by rw [hU]; exact hPc, va_K.moved hW.alike hK, hDc.weaken (fun _ _ _ _ => trivial), hEx.go hS hU hW hFc⟩⟩ rfl rfl hl.1 rfl (lv_room (Nat.le_of_ble_eq_true rfl)) dls_12 ⟨Nat.le_of_ble_eq_true rfl, Nat.le_of_ble_eq_true rfl⟩) hS (fun q _ h => hFc q h) hFc (fun u12 t H1 locs ht hvm hw hB hz1 hk1 hS => ?_)
  obtain ⟨hP1, hD1⟩ := hB
  rw [ht] at hP1
  obtain ⟨hP, hD⟩ := va_join (wr := fin_X11 cA u4 q0) (w1 := fin_X12 cA u12 q8) hP hD [39] [0, 1, 2, 3, 4, 5, 6, 7, 8, 9, 10, 11, 12, 13, 14, 15, 16, 17, 18, 19, 20, 21, 22, 23, 24, 25, 26, 27, 28, 29, 30, 31, 32, 33, 34, 35, 36, 37, 38] rfl rfl (by decide) (by decide) hk1 hFc hP1 hD1
  generalize H1 = H at hP hS ⊢
  refine W.widen (k := 64) (n := 3731) (by omega) (by omega) ?_
  refine lv_astore_n (lv' := [(2, .ref q8), (1, .ref q0), (0, .ref b)]) hx hb dls_15 rfl hl (by decide) rfl (fun ls hl => ?_)
  refine lv_iconst (v := 0) hx hb dls_16 (by decide) ?_
  refine lv_istore_n (lv' := [(3, .int 0), (2, .ref q8), (1, .ref q0), (0, .ref b)]) hx hb dls_17 rfl hl (by decide) rfl (fun ls hl => ?_)
  obtain ⟨ad, had⟩ : ∃ ad : Nat → Nat, ad = adW u4 u12 q0 q8 t0 t1 t2 t3 b := ⟨_, rfl⟩
  have hPw : va_P D vwCl (eWs (adW u4 u12 q0 q8 t0 t1 t2 t3 b) cA w0 0 SHl) H := hP.sub [2, 1, 7, 6, 4, 5, 3, 9, 8, 12, 13, 14, 15, 16, 17, 18, 19, 20, 21, 11, 22, 23, 24, 25, 10, 27, 28, 26, 30, 31, 32, 29, 33, 35, 36, 34, 38, 37, 0, 40, 41, 42, 43, 44, 45, 46, 47, 48, 49, 50, 51, 52, 53, 54, 55, 56, 57, 58, 59, 60, 61, 62, 63, 39] rfl
  have hDw : va_D A (eWs (adW u4 u12 q0 q8 t0 t1 t2 t3 b) cA w0 0 SHl) := hD.sub [2, 1, 7, 6, 4, 5, 3, 9, 8, 12, 13, 14, 15, 16, 17, 18, 19, 20, 21, 11, 22, 23, 24, 25, 10, 27, 28, 26, 30, 31, 32, 29, 33, 35, 36, 34, 38, 37, 0, 40, 41, 42, 43, 44, 45, 46, 47, 48, 49, 50, 51, 52, 53, 54, 55, 56, 57, 58, 59, 60, 61, 62, 63, 39] (by decide +kernel) rfl
  have a0 : adW u4 u12 q0 q8 t0 t1 t2 t3 b 64 = t0 := rfl
  have a1 : adW u4 u12 q0 q8 t0 t1 t2 t3 b 65 = t1 := rfl
  have a2 : adW u4 u12 q0 q8 t0 t1 t2 t3 b 66 = t2 := rfl
  have a3 : adW u4 u12 q0 q8 t0 t1 t2 t3 b 67 = t3 := rfl
  have a4 : adW u4 u12 q0 q8 t0 t1 t2 t3 b 68 = b := rfl
  have ax : adW u4 u12 q0 q8 t0 t1 t2 t3 b 38 = q0 := rfl
  have am : adW u4 u12 q0 q8 t0 t1 t2 t3 b 63 = q8 := rfl
  rw [← had] at hPw hDw a0 a1 a2 a3 a4 ax am
  have hinj : eInj ad SHl.length := eInj_of hDw
  have hin := eIn_A hDw
  have hEA : ∀ q, eA ad SHl.length q → A q := fun q ⟨i, h1, h2⟩ => by rw [h2]; exact hin i h1
  have hTs : va_T .int b zs.length (fun j => .int (zs.getD j 0)) A s s.heap := by
    obtain ⟨scr, x1, x2, x3, x4, x5⟩ := hX
    refine ⟨scr, x1, x2, x3, by omega, by rw [x4, hz], fun j hj => by rw [x5 j (by omega), ← hzs j (by omega)], hAn b hbl⟩
  have hstat : eStat ad SHl.length (SSl zs) s := by
    intro k q hk
    match k, hk with
    | 0, hk => cases hk; exact ⟨Or.inr (by rw [SHl_len, a0]; exact hZ0.narrow hEA), by rw [SHl_len, a0]; exact hT0.narrow hEA⟩
    | 1, hk => cases hk; exact ⟨Or.inr (by rw [SHl_len, a1]; exact hZ1.narrow hEA), by rw [SHl_len, a1]; exact hT1.narrow hEA⟩
    | 2, hk => cases hk; exact ⟨Or.inr (by rw [SHl_len, a2]; exact hZ2.narrow hEA), by rw [SHl_len, a2]; exact hT2.narrow hEA⟩
    | 3, hk => cases hk; exact ⟨Or.inr (by rw [SHl_len, a3]; exact hZ3.narrow hEA), by rw [SHl_len, a3]; exact hT3.narrow hEA⟩
    | 4, hk => cases hk; exact ⟨Or.inl rfl, by rw [SHl_len, a4]; exact hTs.narrow hEA⟩
    | k + 5, hk => simp [SSl] at hk
  obtain ⟨n, x, hf⟩ := hpure
  refine va_forget (fun q hq => hAo _ (hS.2.2 q hq)) ?_
  have hSw : va_S (eA ad SHl.length) s.heap H [] := ⟨hS.1, fun q h1 _ => hS.2.1 q h1 (hAn q h1), fun _ h => absurd h List.not_mem_nil⟩
  have hret : ∀ (v : Option Value) (w : eW) (i : Instr) (pc : Nat) (H : Heap) (locs : List Loc) (ls : Array Slot), rL v w = some x → eIsRet i v → decode code pc = .ok (i, 1) → va_P D vwCl (eWs ad cA w 0 SHl) H → va_S (eA ad SHl.length) s.heap H locs → W p l e room_1 s m #[Value.ref b] below meth c H locs 64 3731 (lw_Z below #[Value.ref b] s) (F0 m pc ls (v.toList.map (eC ad))) := by
    intro v w i pc H locs ls h1 h2 h3 _ h5
    have hv := rL_ret h1
    subst hv
    have hi : i = .ireturn := by
      unfold eIsRet at h2
      split at h2 <;> first | rfl | exact h2.elim | (rename_i h9; cases h9) | simp_all
    subst hi
    refine va_forget (fun q hq => hAo _ (hEA _ (h5.2.2 q hq))) ?_
    exact lw_ret (d0 := s.drawn) (Drawn.sameBut.refl s.drawn lw_cs) hx hb hr hlocks h3
  have key := go_law (xs := zs) (x := x) (ad := ad) (D := D) (cA := cA) (l := l) (e := e) (below := below) ⟨hx, hb, hr, hlocks, hown, hml, hte, hK, hinj, hstat⟩ hret n 0 w0 hf H [] ls hPw hSw
  refine key ⟨hl.1, hl.2.1, fun i v hi => ?_⟩
  match i, hi with
  | 0, hi => cases hi; exact (lv_at hl 3 rfl).trans (by rw [eC, a4])
  | 1, hi => cases hi; exact (lv_at hl 2 rfl).trans (by rw [eC, ax])
  | 2, hi => cases hi; exact (lv_at hl 1 rfl).trans (by rw [eC, am])
  | 3, hi => cases hi; exact lv_at hl 0 rfl
  | i + 4, hi => simp at hi
