theorem dkX8_0 : decode cX8_init 0 = .ok (.aload_n 0, 1) := by decide +kernel
theorem dkX8_1 : decode cX8_init 1 = .ok (.invokespecial 3, 3) := by decide +kernel
theorem dkX8_4 : decode cX8_init 4 = .ok (.aload_n 0, 1) := by decide +kernel
theorem dkX8_5 : decode cX8_init 5 = .ok (.bipush 11, 2) := by decide +kernel
theorem dkX8_7 : decode cX8_init 7 = .ok (.newarray .long, 2) := by decide +kernel
theorem dkX8_9 : decode cX8_init 9 = .ok (.putfield 11, 3) := by decide +kernel
theorem dkX8_12 : decode cX8_init 12 = .ok (.aload_n 0, 1) := by decide +kernel
theorem dkX8_13 : decode cX8_init 13 = .ok (.bipush 12, 2) := by decide +kernel
theorem dkX8_15 : decode cX8_init 15 = .ok (.newarray .long, 2) := by decide +kernel
theorem dkX8_17 : decode cX8_init 17 = .ok (.putfield 15, 3) := by decide +kernel
theorem dkX8_20 : decode cX8_init 20 = .ok (.aload_n 0, 1) := by decide +kernel
theorem dkX8_21 : decode cX8_init 21 = .ok (.new 18, 3) := by decide +kernel
theorem dkX8_24 : decode cX8_init 24 = .ok (.dup, 1) := by decide +kernel
theorem dkX8_25 : decode cX8_init 25 = .ok (.invokespecial 20, 3) := by decide +kernel
theorem dkX8_28 : decode cX8_init 28 = .ok (.putfield 21, 3) := by decide +kernel
theorem dkX8_31 : decode cX8_init 31 = .ok (.aload_n 0, 1) := by decide +kernel
theorem dkX8_32 : decode cX8_init 32 = .ok (.iconst (-1), 1) := by decide +kernel
theorem dkX8_33 : decode cX8_init 33 = .ok (.putfield 25, 3) := by decide +kernel
theorem dkX8_36 : decode cX8_init 36 = .ok (.aload_n 0, 1) := by decide +kernel
theorem dkX8_37 : decode cX8_init 37 = .ok (.aload_n 1, 1) := by decide +kernel
theorem dkX8_38 : decode cX8_init 38 = .ok (.putfield 29, 3) := by decide +kernel
theorem dkX8_41 : decode cX8_init 41 = .ok (.iconst 0, 1) := by decide +kernel
theorem dkX8_42 : decode cX8_init 42 = .ok (.istore_n 2, 1) := by decide +kernel
theorem dkX8_43 : decode cX8_init 43 = .ok (.iconst 0, 1) := by decide +kernel
theorem dkX8_44 : decode cX8_init 44 = .ok (.istore_n 3, 1) := by decide +kernel
theorem dkX8_45 : decode cX8_init 45 = .ok (.iload_n 3, 1) := by decide +kernel
theorem dkX8_46 : decode cX8_init 46 = .ok (.ldc 33, 2) := by decide +kernel
theorem dkX8_48 : decode cX8_init 48 = .ok (.invokevirtual 35, 3) := by decide +kernel
theorem dkX8_51 : decode cX8_init 51 = .ok (.if_icmp .ge 53, 3) := by decide +kernel
theorem dkX8_54 : decode cX8_init 54 = .ok (.iload_n 2, 1) := by decide +kernel
theorem dkX8_55 : decode cX8_init 55 = .ok (.bipush 11, 2) := by decide +kernel
theorem dkX8_57 : decode cX8_init 57 = .ok (.if_icmp .ge 47, 3) := by decide +kernel
theorem dkX8_60 : decode cX8_init 60 = .ok (.ldc 33, 2) := by decide +kernel
theorem dkX8_62 : decode cX8_init 62 = .ok (.iload_n 3, 1) := by decide +kernel
theorem dkX8_63 : decode cX8_init 63 = .ok (.invokevirtual 41, 3) := by decide +kernel
theorem dkX8_66 : decode cX8_init 66 = .ok (.bipush 32, 2) := by decide +kernel
theorem dkX8_68 : decode cX8_init 68 = .ok (.if_icmp .ne 9, 3) := by decide +kernel
theorem dkX8_71 : decode cX8_init 71 = .ok (.iinc 2 1, 3) := by decide +kernel
theorem dkX8_74 : decode cX8_init 74 = .ok (.goto 24, 3) := by decide +kernel
theorem dkX8_77 : decode cX8_init 77 = .ok (.aload_n 0, 1) := by decide +kernel
theorem dkX8_78 : decode cX8_init 78 = .ok (.getfield 11, 3) := by decide +kernel
theorem dkX8_81 : decode cX8_init 81 = .ok (.iload_n 2, 1) := by decide +kernel
theorem dkX8_82 : decode cX8_init 82 = .ok (.aload_n 0, 1) := by decide +kernel
theorem dkX8_83 : decode cX8_init 83 = .ok (.getfield 11, 3) := by decide +kernel
theorem dkX8_86 : decode cX8_init 86 = .ok (.iload_n 2, 1) := by decide +kernel
theorem dkX8_87 : decode cX8_init 87 = .ok (.laload, 1) := by decide +kernel
theorem dkX8_88 : decode cX8_init 88 = .ok (.ldc 33, 2) := by decide +kernel
theorem dkX8_90 : decode cX8_init 90 = .ok (.iload_n 3, 1) := by decide +kernel
theorem dkX8_91 : decode cX8_init 91 = .ok (.invokevirtual 41, 3) := by decide +kernel
theorem dkX8_94 : decode cX8_init 94 = .ok (.invokestatic 45, 3) := by decide +kernel
theorem dkX8_97 : decode cX8_init 97 = .ok (.lastore, 1) := by decide +kernel
theorem dkX8_98 : decode cX8_init 98 = .ok (.iinc 3 1, 3) := by decide +kernel
theorem dkX8_101 : decode cX8_init 101 = .ok (.goto (-56), 3) := by decide +kernel
theorem dkX8_104 : decode cX8_init 104 = .ok (.return_, 1) := by decide +kernel
theorem dwl_0 : decode cX10_withLetter 0 = .ok (.lload_n 0, 1) := by decide +kernel
theorem dwl_1 : decode cX10_withLetter 1 = .ok (.ldc2_w 58, 3) := by decide +kernel
theorem dwl_4 : decode cX10_withLetter 4 = .ok (.lmul, 1) := by decide +kernel
theorem dwl_5 : decode cX10_withLetter 5 = .ok (.iload_n 2, 1) := by decide +kernel
theorem dwl_6 : decode cX10_withLetter 6 = .ok (.bipush 97, 2) := by decide +kernel
theorem dwl_8 : decode cX10_withLetter 8 = .ok (.isub, 1) := by decide +kernel
theorem dwl_9 : decode cX10_withLetter 9 = .ok (.iconst 1, 1) := by decide +kernel
theorem dwl_10 : decode cX10_withLetter 10 = .ok (.iadd, 1) := by decide +kernel
theorem dwl_11 : decode cX10_withLetter 11 = .ok (.i2l, 1) := by decide +kernel
theorem dwl_12 : decode cX10_withLetter 12 = .ok (.ladd, 1) := by decide +kernel
theorem dwl_13 : decode cX10_withLetter 13 = .ok (.lreturn, 1) := by decide +kernel
set_option maxRecDepth 100000 in
set_option maxHeartbeats 4000000 in
theorem cs_withLetter (l : Launch) (a : Int64) (b : Int32) : Met l yX10_withLetter (eWd yX10_withLetter cX10_withLetter 3 (some .long)) { frames := 0, cells := 0, slots := 0, locals := 0 } (va_Pc [.long a, .int b] (fun _ => True)) (vp_Sl (fun r => r = a * 32 + (b - 97 + 1).toInt64)) 0 0 (fun _ => False) := by
  refine Met.ofW (cc := cX10_withLetter) (maxL := 3) (ret := (some .long)) (by decide +kernel) rfl ?_
  intro p e s m args below meth c s₁ B hml hv
  obtain ⟨rfl, -⟩ := hv
  have hx := B.exec
  have hb := B.bytes
  have hr := B.returns
  have hts := atoms_spec (ws := (eWd yX10_withLetter cX10_withLetter 3 (some .long))) B.pre
  have hown : s.vm.findClass RX10 = some m.cls := findClass_of_methodNamed B.named
  have hlocks := B.notSynchronized
  have hl := lv_entry [.long a, .int b] (n := 3) (Nat.le_of_ble_eq_true rfl)
  rw [lg_entry_eq]
  generalize (lg_sl ([.long a, .int b]) ++ List.replicate (3 - (lg_sl ([.long a, .int b])).length) Slot.unset).toArray = ls at hl ⊢
  have hl : lv_has ls 3 [(0, .long a), (2, .int b)] := hl
  refine lv_lload_n hx hb dwl_0 rfl (lv_at hl 0 rfl) ?_
  refine lv_ldc2 (v := 32) hx hb hown (hts (.constantLong RX10 58 32) (eTb_wd _ (tb1 149 rfl rfl))) dwl_1 ?_
  refine lv_lmul hx hb dwl_4 ?_
  refine lv_iload_n hx hb dwl_5 rfl (lv_at hl 1 rfl) ?_
  refine lv_bipush (v := 97) hx hb dwl_6 (by decide) ?_
  refine lv_isub hx hb dwl_8 ?_
  refine lv_iconst (v := 1) hx hb dwl_9 (by decide) ?_
  refine lv_iadd hx hb dwl_10 ?_
  refine lv_i2l hx hb dwl_11 rfl ?_
  refine lv_ladd hx hb dwl_12 ?_
  exact W.lret hx hb hr (fun t ht hW => ⟨_, rfl, rfl, ht⟩) (fun q hq => absurd hq List.not_mem_nil) dwl_13
/-- the words that are kept, letter by letter -/
def kst : Nat → Nat × (Nat → Int64)
  | 0 => (0, fun _ => 0)
  | i + 1 => if kCh i = 32 then ((kst i).1 + 1, (kst i).2) else ((kst i).1, vp_updL (kst i).2 (kst i).1 ((kst i).2 (kst i).1 * 32 + (kCh i - 97 + 1).toInt64))
def kwn : Nat → Nat
  | 0 => 0
  | i + 1 => if kCh i = 32 then kwn i + 1 else kwn i
theorem kst_1 : ∀ i, (kst i).1 = kwn i
  | 0 => rfl
  | i + 1 => by
    simp only [kst, kwn]
    by_cases h : kCh i = 32
    · rw [if_pos h, if_pos h, kst_1 i]
    · rw [if_neg h, if_neg h, kst_1 i]
theorem kwn_lt : ∀ i, i < 65 → kwn i < 11 := by decide +kernel
section
variable {p : Program} {l : Launch} {e : Env} {R : Room} {s : State} {m : MethodId} {args : Array Value} {below : List Frame} {meth : Method} {c : Code} {H : Heap} {locs : List Loc} {cells slots : Nat} {Q : State → Prop} {D : va_G} {cA : Nat → ClassId} {A : Nat → Prop}
theorem kS_long {pc : Nat} {ls : Array Slot} {st0 rest : List Value} {a : Array Value} {post : Int64 → Prop} (hr : va_Run p l e R s m args below meth c H locs cells slots 0 0 (F0 m pc ls st0) rest (vp_Sl post a) (fun _ => False)) (hS : va_S A s.heap H locs) (kk : ∀ r : Int64, post r → ∀ locs1 : List Loc, (∀ q ∈ locs1, q ∈ locs) → va_S A s.heap H locs1 → W p l e R s m args below meth c H locs1 cells slots Q (F0 m (pc + 3) ls (.long r :: rest))) : W p l e R s m args below meth c H locs cells slots Q (F0 m pc ls st0) := by
  intro T hT X
  obtain ⟨v1, st₀, t, T', L, h0, X', hL, e1, e2, ⟨r, hv, hp, hh⟩, st⟩ := hr T hT X
  cases hv
  have hT' : T'.heap = H := by rw [e1, hh, h0]
  obtain ⟨t2, a1, b1⟩ := kk r hp (locs ++ L) (fun q hq => (List.mem_append.mp hq).elim id (fun z => (hL q z).elim)) ⟨hS.1, hS.2.1, fun q hq => (List.mem_append.mp hq).elim (hS.2.2 q) (fun z => (hL q z).elim)⟩ T' hT' X'
  exact ⟨t2, st t2 a1, b1⟩
set_option maxRecDepth 100000 in
set_option maxHeartbeats 4000000 in
theorem rd_loop {aK aV h0 ht qk : Nat} {fs : List Value} {rest : va_W} {y0 : MethodName} {n0 : Nat} (hx : p.tables.exec = Jvm.exec) (hb : c.code = cX8_init) (hml : c.maxLocals = 4) (hown : s.vm.findClass RX8 = some m.cls) (hts : ∀ w ∈ eWd y0 cX8_init n0 none, w.before args s = true) (hK : va_K D vwCl (eTys cA) s) (hE : eKS aK aV A s) (hR : 4 ≤ R.frames ∧ 85 ≤ R.locals) (hfs : fs[1]? = some (.ref qk)) (hcs : cells + 0 ≤ R.cells ∧ slots + 0 ≤ R.slots)
    (kk : ∀ (H : Heap) (locs : List Loc) (ls : Array Slot), va_P D vwCl ((h0, .inr (7, fs)) :: (qk, .inl (cA 1, 11, .inr (.inl (kst 65).2))) :: rest) H → va_D A ((h0, .inr (7, fs)) :: (qk, .inl (cA 1, 11, .inr (.inl (kst 65).2))) :: rest) → va_S A s.heap H locs → W p l e R s m args below meth c H locs cells slots Q (F0 m 104 ls [])) :
    ∀ (n i : Nat), i + n = 65 → ∀ (H : Heap) (locs : List Loc) (ls : Array Slot), va_P D vwCl ((h0, .inr (7, fs)) :: (qk, .inl (cA 1, 11, .inr (.inl (kst i).2))) :: rest) H → va_D A ((h0, .inr (7, fs)) :: (qk, .inl (cA 1, 11, .inr (.inl (kst i).2))) :: rest) → va_S A s.heap H locs → lv_has ls 4 [(0, .ref h0), (1, .ref ht), (2, .int (nI (kst i).1)), (3, .int (nI i))] → W p l e R s m args below meth c H locs cells slots Q (F0 m 45 ls []) := by
  intro n
  induction n with
  | zero =>
    intro i hi H locs ls hP hD hS hl
    obtain rfl : i = 65 := by omega
    refine lv_iload_n hx hb dkX8_45 rfl (lv_at hl 3 rfl) ?_
    refine va_ldcS hx hb hown hE.1 dkX8_46 ?_
    refine kS_int (va_runV (As := []) (rest := [.int (nI 65)]) ⟨hx, hb, hml, hown, hts⟩ (cs_length l aK aV A) (cwV 0 hts (eGoodV eTb_wd (tb1 98 rfl rfl) wiJ0_length_8abf5 wlJ0_length_8abf5 wnJ0_length_8abf5 wcJ0_length_8abf5) rfl rfl rfl ⟨rfl, hdJ0_length_8abf5⟩ ⟨by have := hR.1; show 1 + 1 ≤ _; omega, by have := hR.2; show 8 + (1 + 11) + 20 ≤ _; omega⟩) ⟨fun a U g mk q => ⟨q.1, q.2.call⟩, (by obtain ⟨cell, g1, g2, g3, -⟩ := hE.2.1.kept hS.2.1; exact ⟨cell, g1, g2, g3⟩), fun U hU hW => ⟨rfl, hE.go hS hU hW⟩⟩ rfl rfl hl.1 rfl (lv_room (Nat.le_of_ble_eq_true rfl)) dkX8_48 hcs) hS (fun r hr9 locs hloc hS => ?_)
    subst hr9
    refine lv_icmp_ge (tgt := 104) hx hb dkX8_51 (by decide) (fun _ => kk H locs ls hP hD hS) (fun z => absurd (by decide) z)
  | succ n ih =>
    intro i hi H locs ls hP hD hS hl
    have hi65 : i < 65 := by omega
    have hw : (kst i).1 < 11 := by rw [kst_1]; exact kwn_lt i hi65
    have hin : vp_in (nI (kst i).1) 11 := vp_in_nI hw (by omega)
    refine lv_iload_n hx hb dkX8_45 rfl (lv_at hl 3 rfl) ?_
    refine va_ldcS hx hb hown hE.1 dkX8_46 ?_
    refine kS_int (va_runV (As := []) (rest := [.int (nI i)]) ⟨hx, hb, hml, hown, hts⟩ (cs_length l aK aV A) (cwV 0 hts (eGoodV eTb_wd (tb1 98 rfl rfl) wiJ0_length_8abf5 wlJ0_length_8abf5 wnJ0_length_8abf5 wcJ0_length_8abf5) rfl rfl rfl ⟨rfl, hdJ0_length_8abf5⟩ ⟨by have := hR.1; show 1 + 1 ≤ _; omega, by have := hR.2; show 8 + (1 + 11) + 20 ≤ _; omega⟩) ⟨fun a U g mk q => ⟨q.1, q.2.call⟩, (by obtain ⟨cell, g1, g2, g3, -⟩ := hE.2.1.kept hS.2.1; exact ⟨cell, g1, g2, g3⟩), fun U hU hW => ⟨rfl, hE.go hS hU hW⟩⟩ rfl rfl hl.1 rfl (lv_room (Nat.le_of_ble_eq_true rfl)) dkX8_48 hcs) hS (fun r hr9 locs hloc hS => ?_)
    subst hr9
    refine lv_icmp_ge (tgt := 104) hx hb dkX8_51 (by decide) (fun z => absurd z (nI_ge (a := i) (b := 65) hi65 (by omega))) (fun _ => ?_)
    refine lv_iload_n hx hb dkX8_54 rfl (lv_at hl 2 rfl) ?_
    refine lv_bipush (v := 11) hx hb dkX8_55 (by decide) ?_
    refine lv_icmp_ge (tgt := 104) hx hb dkX8_57 (by decide) (fun z => absurd z (nI_ge (a := (kst i).1) (b := 11) hw (by omega))) (fun _ => ?_)
    refine va_ldcS hx hb hown hE.1 dkX8_60 ?_
    refine lv_iload_n hx hb dkX8_62 rfl (lv_at hl 3 rfl) ?_
    refine kS_int (va_runV (As := [.int (nI i)]) (rest := []) ⟨hx, hb, hml, hown, hts⟩ (cs_charAt l aK aV A i hi65) (cwV 1 hts (eGoodV eTb_wd (tb1 108 rfl rfl) wiJ0_charAt_5068e wlJ0_charAt_5068e wnJ0_charAt_5068e wcJ0_charAt_5068e) rfl rfl rfl ⟨rfl, hdJ0_charAt_5068e⟩ ⟨by have := hR.1; show 3 + 1 ≤ _; omega, by have := hR.2; show 8 + (2 + 11) + 64 ≤ _; omega⟩) ⟨fun a U g mk q => ⟨q.1, q.2.call⟩, (by obtain ⟨cell, g1, g2, g3, -⟩ := hE.2.1.kept hS.2.1; exact ⟨cell, g1, g2, g3⟩), fun U hU hW => ⟨rfl, hE.go hS hU hW⟩⟩ rfl rfl hl.1 rfl (lv_room (Nat.le_of_ble_eq_true rfl)) dkX8_63 hcs) hS (fun r hr9 locs hloc hS => ?_)
    subst hr9
    refine lv_bipush (v := 32) hx hb dkX8_66 (by decide) ?_
    refine lv_icmp_ne (tgt := 77) hx hb dkX8_68 (by decide) (fun hne => ?_) (fun heq => ?_)
    · have e1 : (kst (i + 1)).1 = (kst i).1 := by simp only [kst]; rw [if_neg hne]
      have e2 : (kst (i + 1)).2 = vp_updL (kst i).2 (kst i).1 ((kst i).2 (kst i).1 * 32 + (kCh i - 97 + 1).toInt64) := by simp only [kst]; rw [if_neg hne]
      refine lv_aload_n hx hb dkX8_77 rfl (lv_at hl 0 rfl) ?_
      refine va_get (D := D) (ci := 7) (v := .ref qk) (C := RX8) (T := TX8) (N := 7) hx hb hts (fun w h => eTb_wd w (wfX8 w h)) hown hK hP 0 rfl rfl 1 (by decide) (hts (.fieldLink RX8 11 "ExitFalls$Reader" "kept" "[J") (eTb_wd _ (tb1 151 rfl rfl))) (fun _ h9 => h9) hfs dkX8_78 ?_
      refine lv_iload_n hx hb dkX8_81 rfl (lv_at hl 2 rfl) ?_
      refine lv_aload_n hx hb dkX8_82 rfl (lv_at hl 0 rfl) ?_
      refine va_get (D := D) (ci := 7) (v := .ref qk) (C := RX8) (T := TX8) (N := 7) hx hb hts (fun w h => eTb_wd w (wfX8 w h)) hown hK hP 0 rfl rfl 1 (by decide) (hts (.fieldLink RX8 11 "ExitFalls$Reader" "kept" "[J") (eTb_wd _ (tb1 151 rfl rfl))) (fun _ h9 => h9) hfs dkX8_83 ?_
      refine lv_iload_n hx hb dkX8_86 rfl (lv_at hl 2 rfl) ?_
      refine va_lald hx hb hK hP 1 1 rfl rfl hin dkX8_87 ?_
      refine va_ldcS hx hb hown hE.1 dkX8_88 ?_
      refine lv_iload_n hx hb dkX8_90 rfl (lv_at hl 3 rfl) ?_
      refine kS_int (va_runV (As := [.int (nI i)]) (rest := [.long ((kst i).2 (nI (kst i).1).toNatClampNeg), .int (nI (kst i).1), .ref qk]) ⟨hx, hb, hml, hown, hts⟩ (cs_charAt l aK aV A i hi65) (cwV 1 hts (eGoodV eTb_wd (tb1 108 rfl rfl) wiJ0_charAt_5068e wlJ0_charAt_5068e wnJ0_charAt_5068e wcJ0_charAt_5068e) rfl rfl rfl ⟨rfl, hdJ0_charAt_5068e⟩ ⟨by have := hR.1; show 3 + 1 ≤ _; omega, by have := hR.2; show 8 + (2 + 11) + 64 ≤ _; omega⟩) ⟨fun a U g mk q => ⟨q.1, q.2.call⟩, (by obtain ⟨cell, g1, g2, g3, -⟩ := hE.2.1.kept hS.2.1; exact ⟨cell, g1, g2, g3⟩), fun U hU hW => ⟨rfl, hE.go hS hU hW⟩⟩ rfl rfl hl.1 rfl (lv_room (Nat.le_of_ble_eq_true rfl)) dkX8_91 hcs) hS (fun r hr9 locs hloc hS => ?_)
      subst hr9
      refine kS_long (va_runS (As := [.long ((kst i).2 (nI (kst i).1).toNatClampNeg), .int (kCh i)]) (rest := [.int (nI (kst i).1), .ref qk]) ⟨hx, hb, hml, hown, hts⟩ (cs_withLetter l _ (kCh i)) (va_cwS 2 hts (eGoodS eTb_wd (tb1 146 rfl rfl) wsX10_withLetter wnX10_withLetter wcX10_withLetter) rfl rfl rfl hdX10_withLetter ⟨by have := hR.1; show 0 + 1 ≤ _; omega, by have := hR.2; show 8 + (3 + 11) + 0 ≤ _; omega⟩) ⟨fun a U g mk q => ⟨q.1, trivial⟩, fun U hU hW => ⟨rfl, trivial⟩⟩ rfl rfl hl.1 rfl (lv_room (Nat.le_of_ble_eq_true rfl)) dkX8_94 hcs) hS (fun r hr9 locs hloc hS => ?_)
      subst hr9
      refine va_last hx hb hK hP hD hS 1 1 rfl rfl hin dkX8_97 (fun H locs hP hD hS => ?_)
      rw [nI_clamp (by omega)] at hP hD
      have hP : va_P D vwCl ((h0, .inr (7, fs)) :: (qk, .inl (cA 1, 11, .inr (.inl (kst (i + 1)).2))) :: rest) H := by rw [e2]; exact hP
      have hD : va_D A ((h0, .inr (7, fs)) :: (qk, .inl (cA 1, 11, .inr (.inl (kst (i + 1)).2))) :: rest) := by rw [e2]; exact hD
      refine lv_iinc (v := nI (i + 1)) (lv' := [(3, .int (nI (i + 1))), (0, .ref h0), (1, .ref ht), (2, .int (nI (kst i).1))]) hx hb dkX8_98 hl (k := 3) rfl (nI_1 i) (by decide) rfl (fun ls hl => ?_)
      refine lv_goto (tgt := 45) hx hb dkX8_101 (by decide) ?_
      exact ih (i + 1) (by omega) H locs ls hP hD hS (by rw [e1]; exact lv_sub hl [1, 2, 3, 0] rfl)
    · have e1 : (kst (i + 1)).1 = (kst i).1 + 1 := by simp only [kst]; rw [if_pos heq]
      have e2 : (kst (i + 1)).2 = (kst i).2 := by simp only [kst]; rw [if_pos heq]
      refine lv_iinc (v := nI ((kst i).1 + 1)) (lv' := [(2, .int (nI ((kst i).1 + 1))), (0, .ref h0), (1, .ref ht), (3, .int (nI i))]) hx hb dkX8_71 hl (k := 2) rfl (nI_1 _) (by decide) rfl (fun ls hl => ?_)
      refine lv_goto (tgt := 98) hx hb dkX8_74 (by decide) ?_
      refine lv_iinc (v := nI (i + 1)) (lv' := [(3, .int (nI (i + 1))), (2, .int (nI ((kst i).1 + 1))), (0, .ref h0), (1, .ref ht)]) hx hb dkX8_98 hl (k := 3) rfl (nI_1 i) (by decide) rfl (fun ls hl => ?_)
      refine lv_goto (tgt := 45) hx hb dkX8_101 (by decide) ?_
      exact ih (i + 1) (by omega) H locs ls (by rw [e2]; exact hP) (by rw [e2]; exact hD) hS (by rw [e1]; exact lv_sub hl [2, 3, 1, 0] rfl)
end
def fin_X8 (cA : Nat → ClassId) (f : Nat → Nat) (h0 : Nat) (tp : Nat) : va_W := [(h0, .inr (7, [.ref tp, .ref (f 0), .ref (f 1), .int 0, .ref (f 2), .int 0, .int (-1)])), ((f 0), .inl (cA 1, 11, .inr (.inl (kst 65).2))), ((f 1), .inl (cA 1, 12, .inr (.inl (fun _ => 0)))), ((f 2), .inr (4, [.int 0, .int 0, .int 0, .ref (f 3)])), ((f 3), .inl (cA 0, 120, .inl (fun _ => 0)))]
set_option maxRecDepth 100000 in
set_option maxHeartbeats 4000000 in
theorem wkX8_init : Cond.code yX8_init cX8_init 4 none ∈ eTb := tb1 67 rfl rfl
theorem hdX8_init : yX8_init.cls ≠ "java/lang/invoke/MethodHandle" ∧ yX8_init.cls ≠ "java/lang/invoke/VarHandle" ∧ (parseMethodDescriptor yX8_init.desc).map (fun d => d.parameters.length) = some 1 := by decide +kernel
set_option maxRecDepth 100000 in
set_option maxHeartbeats 4000000 in
theorem ct_X8 (l : Launch) (D : va_G) (cA : Nat → ClassId) (aK aV : Nat) (h0 tp sz : Nat) : Met l yX8_init (eWd yX8_init cX8_init 4 none) { frames := 4, cells := 4, slots := 147, locals := 85 } (va_Pc [.ref h0, .ref tp] (fun U => U.heap.size = sz ∧ va_P D vwCl [(h0, .inr (7, [.null, .null, .null, .int 0, .null, .int 0, .int 0]))] U.heap ∧ va_K D vwCl (eTys cA) U ∧ va_D (fun _ => True) [(h0, .inr (7, [.null, .null, .null, .int 0, .null, .int 0, .int 0]))] ∧ eEx aK aV (va_A [(h0, .inr (7, [.null, .null, .null, .int 0, .null, .int 0, .int 0]))] sz) U)) (va_Qv (fun _ : Nat → Nat => True) (fun f t => va_P D vwCl (fin_X8 cA f h0 tp) t.heap ∧ va_D (va_A [(h0, .inr (7, [.null, .null, .null, .int 0, .null, .int 0, .int 0]))] sz) (fin_X8 cA f h0 tp)) (va_A [(h0, .inr (7, [.null, .null, .null, .int 0, .null, .int 0, .int 0]))] sz)) 4 147 (va_A [(h0, .inr (7, [.null, .null, .null, .int 0, .null, .int 0, .int 0]))] sz) := by
  refine Met.ofW (cc := cX8_init) (maxL := 4) (ret := none) (by decide +kernel) rfl ?_
  intro p e s m args below meth c s₁ B hml hv
  obtain ⟨rfl, hsz, hP, hK, hD0, hEx⟩ := hv
  have hx := B.exec
  have hb := B.bytes
  have hr := B.returns
  have hts := atoms_spec (ws := eWd yX8_init cX8_init 4 none) B.pre
  have hown : s.vm.findClass RX8 = some m.cls := findClass_of_methodNamed B.named
  have hlocks := B.notSynchronized
  have hin : meth.name = "<init>" := (name_of_methodNamed B.named B.method).1
  subst hsz
  have hD := hD0.self (sz := s.heap.size)
  generalize hAe : va_A [(h0, .inr (7, [.null, .null, .null, .int 0, .null, .int 0, .int 0]))] s.heap.size = A at hD hEx ⊢
  have hA : ∀ q : Nat, s.heap.size ≤ q → A q := fun q h => by rw [← hAe]; exact Or.inr h
  have hS : va_S A s.heap s.heap [] := va_S.rf
  have hP : va_P D vwCl [(h0, .inr (7, [.null, .null, .null, .int 0, .null, .int 0, .int 0]))] s.heap := hP
  have hl := lv_entry ([.ref h0, .ref tp]) (n := 4) (Nat.le_of_ble_eq_true rfl)
  rw [lg_entry_eq]
  generalize (lg_sl ([.ref h0, .ref tp]) ++ List.replicate (4 - (lg_sl ([.ref h0, .ref tp])).length) Slot.unset).toArray = ls at hl ⊢
  have hl : lv_has ls 4 [(0, .ref h0), (1, .ref tp)] := hl
  refine lv_aload_n hx hb dkX8_0 rfl (lv_at hl 0 rfl) ?_
  refine W.objInit hx hb hown (hts (.methodLink RX8 3 objectInit) (eTb_wd _ (tb1 68 rfl rfl))) (hts (.instanceMethod objectInit) (eTb_wd _ (tb1 27 rfl rfl))) (hts (.code objectInit ⟨#[0xb1]⟩ 1 none) (eTb_wd _ (tb1 28 rfl rfl))) rfl (by rw [hml]; exact hl.1) rfl dkX8_1 (Nat.le_of_ble_eq_true rfl) (Nat.le_of_ble_eq_true rfl) ?_
  refine W.eq (g2 := F0 m 4 ls []) rfl ?_
  refine lv_aload_n hx hb dkX8_4 rfl (lv_at hl 0 rfl) ?_
  refine lv_bipush (v := (11 : Int32)) hx hb dkX8_5 (by decide) ?_
  refine va_newa (atype := .long) (ty := .long) (a0 := (11, .inr (.inl (fun _ => 0)))) hx hb (hts (.arrayClass .long) (eTb_wd _ (tb1 95 rfl rfl))) rfl hK hP hD hS hA (fun _ => rfl) (by decide) rfl (Nat.le_of_ble_eq_true rfl) (Nat.le_of_ble_eq_true rfl) (Nat.le_of_ble_eq_true rfl) dkX8_7 (fun q7 cZ H hKn hP hD hS => ?_)
  have eZ : cZ = cA 1 := Option.some.inj ((hKn.2 4 _ rfl).2.symm.trans (hK.2 1 _ rfl).2)
  subst eZ
  clear hKn
  have hP : va_P D vwCl [(h0, .inr (7, [.null, .null, .null, .int 0, .null, .int 0, .int 0])), (q7, .inl (cA 1, 11, .inr (.inl (fun _ => 0))))] H := hP
  have hD : va_D A [(h0, .inr (7, [.null, .null, .null, .int 0, .null, .int 0, .int 0])), (q7, .inl (cA 1, 11, .inr (.inl (fun _ => 0))))] := hD
  refine W.widen (k := 1) (n := 11) (by omega) (by omega) ?_
  refine va_putF (D := D) (ci := 7) (v := .ref q7) (ty := .array .long) (C := RX8) (T := TX8) (N := 7) hx hb hts (fun w h => eTb_wd w (wfX8 w h)) tyX8 tyX8_ok nmX8 hown hK hP hD hS 0 rfl rfl 1 (by decide) (hts (.fieldLink RX8 11 "ExitFalls$Reader" "kept" "[J") (eTb_wd _ (tb1 151 rfl rfl))) (fun _ h9 => h9) rfl hin rfl (by decide +kernel) rfl rfl (Nat.le_of_ble_eq_true rfl) dkX8_9 (fun H locs hP hD hS => ?_)
  have hP : va_P D vwCl [(h0, .inr (7, [.null, .ref q7, .null, .int 0, .null, .int 0, .int 0])), (q7, .inl (cA 1, 11, .inr (.inl (fun _ => 0))))] H := hP
  have hD : va_D A [(h0, .inr (7, [.null, .ref q7, .null, .int 0, .null, .int 0, .int 0])), (q7, .inl (cA 1, 11, .inr (.inl (fun _ => 0))))] := hD
  refine lv_aload_n hx hb dkX8_12 rfl (lv_at hl 0 rfl) ?_
  refine lv_bipush (v := (12 : Int32)) hx hb dkX8_13 (by decide) ?_
  refine va_newa (atype := .long) (ty := .long) (a0 := (12, .inr (.inl (fun _ => 0)))) hx hb (hts (.arrayClass .long) (eTb_wd _ (tb1 95 rfl rfl))) rfl hK hP hD hS hA (fun _ => rfl) (by decide) rfl (Nat.le_of_ble_eq_true rfl) (Nat.le_of_ble_eq_true rfl) (Nat.le_of_ble_eq_true rfl) dkX8_15 (fun q15 cZ H hKn hP hD hS => ?_)
  have eZ : cZ = cA 1 := Option.some.inj ((hKn.2 4 _ rfl).2.symm.trans (hK.2 1 _ rfl).2)
  subst eZ
  clear hKn
  have hP : va_P D vwCl [(h0, .inr (7, [.null, .ref q7, .null, .int 0, .null, .int 0, .int 0])), (q7, .inl (cA 1, 11, .inr (.inl (fun _ => 0)))), (q15, .inl (cA 1, 12, .inr (.inl (fun _ => 0))))] H := hP
  have hD : va_D A [(h0, .inr (7, [.null, .ref q7, .null, .int 0, .null, .int 0, .int 0])), (q7, .inl (cA 1, 11, .inr (.inl (fun _ => 0)))), (q15, .inl (cA 1, 12, .inr (.inl (fun _ => 0))))] := hD
  refine W.widen (k := 2) (n := 23) (by omega) (by omega) ?_
  refine va_putF (D := D) (ci := 7) (v := .ref q15) (ty := .array .long) (C := RX8) (T := TX8) (N := 7) hx hb hts (fun w h => eTb_wd w (wfX8 w h)) tyX8 tyX8_ok nmX8 hown hK hP hD hS 0 rfl rfl 2 (by decide) (hts (.fieldLink RX8 15 "ExitFalls$Reader" "names" "[J") (eTb_wd _ (tb1 152 rfl rfl))) (fun _ h9 => h9) rfl hin rfl (by decide +kernel) rfl rfl (Nat.le_of_ble_eq_true rfl) dkX8_17 (fun H locs hP hD hS => ?_)
  have hP : va_P D vwCl [(h0, .inr (7, [.null, .ref q7, .ref q15, .int 0, .null, .int 0, .int 0])), (q7, .inl (cA 1, 11, .inr (.inl (fun _ => 0)))), (q15, .inl (cA 1, 12, .inr (.inl (fun _ => 0))))] H := hP
  have hD : va_D A [(h0, .inr (7, [.null, .ref q7, .ref q15, .int 0, .null, .int 0, .int 0])), (q7, .inl (cA 1, 11, .inr (.inl (fun _ => 0)))), (q15, .inl (cA 1, 12, .inr (.inl (fun _ => 0))))] := hD
  refine lv_aload_n hx hb dkX8_20 rfl (lv_at hl 0 rfl) ?_
  refine va_new (ci := 4) (fs := [.int 0, .int 0, .int 0, .null]) (C := RX4) (T := TX4) (N := 4) hx hb hts (fun w h => eTb_wd w (wfX4 w h)) tyX4 tyX4_ok hown (hts (.classLink RX8 18 RX4) (eTb_wd _ (tb1 69 rfl rfl))) (hts (.instantiable RX4 4) (eTb_wd _ (tb1 70 rfl rfl))) (hts (.initialized RX4) (eTb_wd _ (tb1 4 rfl rfl))) hK hP hD hS hA rfl (fun j hj => by rcases (show j = 0 ∨ j = 1 ∨ j = 2 ∨ j = 3 by omega) with rfl | rfl | rfl | rfl <;> rfl) (Nat.le_of_ble_eq_true rfl) (Nat.le_of_ble_eq_true rfl) dkX8_21 (fun q21 H hP hD hS => ?_)
  have hP : va_P D vwCl [(h0, .inr (7, [.null, .ref q7, .ref q15, .int 0, .null, .int 0, .int 0])), (q7, .inl (cA 1, 11, .inr (.inl (fun _ => 0)))), (q15, .inl (cA 1, 12, .inr (.inl (fun _ => 0)))), (q21, .inr (4, [.int 0, .int 0, .int 0, .null]))] H := hP
  have hD : va_D A [(h0, .inr (7, [.null, .ref q7, .ref q15, .int 0, .null, .int 0, .int 0])), (q7, .inl (cA 1, 11, .inr (.inl (fun _ => 0)))), (q15, .inl (cA 1, 12, .inr (.inl (fun _ => 0)))), (q21, .inr (4, [.int 0, .int 0, .int 0, .null]))] := hD
  refine W.widen (k := 3) (n := 27) (by omega) (by omega) ?_
  refine lv_dup hx hb dkX8_24 rfl ?_
  have hPc := hP.sub (ws' := [(q21, .inr (4, [.int 0, .int 0, .int 0, .null]))]) [3] rfl
  have hDc := hD.sub (ws' := [(q21, .inr (4, [.int 0, .int 0, .int 0, .null]))]) [3] (by decide) rfl
  have hFc := va_free (wc := [(q21, .inr (4, [.int 0, .int 0, .int 0, .null]))]) hD hS hA [3] rfl
  refine va_callv (va_runIN (As := []) (rest := [.ref q21, .ref h0]) ⟨hx, hb, hml, hown, hts⟩ (ct_X4 l D cA aK aV q21  H.size) ⟨va_cnB 0 hts (fun w hw => ⟨List.mem_cons_of_mem _ ((List.mem_cons.mp hw).elim (fun e9 => by rw [e9]; exact wkX4_init) id), eTb_good ((List.mem_cons.mp hw).elim (fun e9 => by rw [e9]; exact wkX4_init) id)⟩) rfl rfl rfl (hEx.1 (RX8, 20, yX4_init) (List.mem_of_getElem? (i := 9) rfl)) (hts (.initialized RX4) (eTb_wd _ (tb1 4 rfl rfl))) hdX4_init ⟨Nat.le_of_ble_eq_true rfl, Nat.le_of_ble_eq_true rfl⟩, rfl, hts (.instanceMethod yX4_init) (eTb_wd _ (tb1 72 rfl rfl))⟩ ⟨fun a U g mk q => by obtain ⟨q0, q1, qP, qK, qD, qE⟩ := q; exact ⟨q0, q1, qP, va_K.moved (u := U) (U := U.calling g mk a) (Vm.Alike.refl U.vm) qK, qD, qE.call⟩, fun U hU hW => ⟨rfl, by rw [hU], by rw [hU]; exact hPc, va_K.moved hW.alike hK, hDc.weaken (fun _ _ _ _ => trivial), hEx.go hS hU hW hFc⟩⟩ rfl rfl hl.1 rfl (lv_room (Nat.le_of_ble_eq_true rfl)) dkX8_25 ⟨Nat.le_of_ble_eq_true rfl, Nat.le_of_ble_eq_true rfl⟩) hS (fun q _ h => hFc q h) hFc (fun u25 t H1 locs ht hvm hw hB hz1 hk1 hS => ?_)
  obtain ⟨hP1, hD1⟩ := hB
  rw [ht] at hP1
  obtain ⟨hP, hD⟩ := va_join (wr := [(h0, .inr (7, [.null, .ref q7, .ref q15, .int 0, .null, .int 0, .int 0])), (q7, .inl (cA 1, 11, .inr (.inl (fun _ => 0)))), (q15, .inl (cA 1, 12, .inr (.inl (fun _ => 0))))]) (w1 := fin_X4 cA u25 q21) hP hD [3] [0, 1, 2] rfl rfl (by decide) (by decide) hk1 hFc hP1 hD1
  generalize H1 = H at hP hS ⊢
  have hP : va_P D vwCl [(h0, .inr (7, [.null, .ref q7, .ref q15, .int 0, .null, .int 0, .int 0])), (q7, .inl (cA 1, 11, .inr (.inl (fun _ => 0)))), (q15, .inl (cA 1, 12, .inr (.inl (fun _ => 0)))), (q21, .inr (4, [.int 0, .int 0, .int 0, .ref (u25 0)])), ((u25 0), .inl (cA 0, 120, .inl (fun _ => 0)))] H := hP
  have hD : va_D A [(h0, .inr (7, [.null, .ref q7, .ref q15, .int 0, .null, .int 0, .int 0])), (q7, .inl (cA 1, 11, .inr (.inl (fun _ => 0)))), (q15, .inl (cA 1, 12, .inr (.inl (fun _ => 0)))), (q21, .inr (4, [.int 0, .int 0, .int 0, .ref (u25 0)])), ((u25 0), .inl (cA 0, 120, .inl (fun _ => 0)))] := hD
  refine W.widen (k := 4) (n := 147) (by omega) (by omega) ?_
  refine va_putF (D := D) (ci := 7) (v := .ref q21) (ty := .object "ExitFalls$Firm") (C := RX8) (T := TX8) (N := 7) hx hb hts (fun w h => eTb_wd w (wfX8 w h)) tyX8 tyX8_ok nmX8 hown hK hP hD hS 0 rfl rfl 4 (by decide) (hts (.fieldLink RX8 21 "ExitFalls$Reader" "draft" "LExitFalls$Firm;") (eTb_wd _ (tb1 154 rfl rfl))) (fun _ h9 => h9) rfl hin rfl (by decide +kernel) rfl rfl (Nat.le_of_ble_eq_true rfl) dkX8_28 (fun H locs hP hD hS => ?_)
  have hP : va_P D vwCl [(h0, .inr (7, [.null, .ref q7, .ref q15, .int 0, .ref q21, .int 0, .int 0])), (q7, .inl (cA 1, 11, .inr (.inl (fun _ => 0)))), (q15, .inl (cA 1, 12, .inr (.inl (fun _ => 0)))), (q21, .inr (4, [.int 0, .int 0, .int 0, .ref (u25 0)])), ((u25 0), .inl (cA 0, 120, .inl (fun _ => 0)))] H := hP
  have hD : va_D A [(h0, .inr (7, [.null, .ref q7, .ref q15, .int 0, .ref q21, .int 0, .int 0])), (q7, .inl (cA 1, 11, .inr (.inl (fun _ => 0)))), (q15, .inl (cA 1, 12, .inr (.inl (fun _ => 0)))), (q21, .inr (4, [.int 0, .int 0, .int 0, .ref (u25 0)])), ((u25 0), .inl (cA 0, 120, .inl (fun _ => 0)))] := hD
  refine lv_aload_n hx hb dkX8_31 rfl (lv_at hl 0 rfl) ?_
  refine lv_iconst (v := (-1 : Int32)) hx hb dkX8_32 (by decide) ?_
  refine va_put (D := D) (ci := 7) (v := .int (-1)) (ty := .int) (C := RX8) (T := TX8) (N := 7) hx hb hts (fun w h => eTb_wd w (wfX8 w h)) tyX8 tyX8_ok nmX8 hown hK hP hD hS 0 rfl rfl 6 (by decide) (hts (.fieldLink RX8 25 "ExitFalls$Reader" "place" "I") (eTb_wd _ (tb1 158 rfl rfl))) (fun _ h9 => h9) rfl (by decide +kernel) rfl rfl (Nat.le_of_ble_eq_true rfl) dkX8_33 (fun H locs hP hD hS => ?_)
  have hP : va_P D vwCl [(h0, .inr (7, [.null, .ref q7, .ref q15, .int 0, .ref q21, .int 0, .int (-1)])), (q7, .inl (cA 1, 11, .inr (.inl (fun _ => 0)))), (q15, .inl (cA 1, 12, .inr (.inl (fun _ => 0)))), (q21, .inr (4, [.int 0, .int 0, .int 0, .ref (u25 0)])), ((u25 0), .inl (cA 0, 120, .inl (fun _ => 0)))] H := hP
  have hD : va_D A [(h0, .inr (7, [.null, .ref q7, .ref q15, .int 0, .ref q21, .int 0, .int (-1)])), (q7, .inl (cA 1, 11, .inr (.inl (fun _ => 0)))), (q15, .inl (cA 1, 12, .inr (.inl (fun _ => 0)))), (q21, .inr (4, [.int 0, .int 0, .int 0, .ref (u25 0)])), ((u25 0), .inl (cA 0, 120, .inl (fun _ => 0)))] := hD
  refine lv_aload_n hx hb dkX8_36 rfl (lv_at hl 0 rfl) ?_
  refine lv_aload_n hx hb dkX8_37 rfl (lv_at hl 1 rfl) ?_
  refine va_putF (D := D) (ci := 7) (v := .ref tp) (ty := .object "ExitFalls$Tape") (C := RX8) (T := TX8) (N := 7) hx hb hts (fun w h => eTb_wd w (wfX8 w h)) tyX8 tyX8_ok nmX8 hown hK hP hD hS 0 rfl rfl 0 (by decide) (hts (.fieldLink RX8 29 "ExitFalls$Reader" "tape" "LExitFalls$Tape;") (eTb_wd _ (tb1 150 rfl rfl))) (fun _ h9 => h9) rfl hin rfl (by decide +kernel) rfl rfl (Nat.le_of_ble_eq_true rfl) dkX8_38 (fun H locs hP hD hS => ?_)
  have hP : va_P D vwCl [(h0, .inr (7, [.ref tp, .ref q7, .ref q15, .int 0, .ref q21, .int 0, .int (-1)])), (q7, .inl (cA 1, 11, .inr (.inl (fun _ => 0)))), (q15, .inl (cA 1, 12, .inr (.inl (fun _ => 0)))), (q21, .inr (4, [.int 0, .int 0, .int 0, .ref (u25 0)])), ((u25 0), .inl (cA 0, 120, .inl (fun _ => 0)))] H := hP
  have hD : va_D A [(h0, .inr (7, [.ref tp, .ref q7, .ref q15, .int 0, .ref q21, .int 0, .int (-1)])), (q7, .inl (cA 1, 11, .inr (.inl (fun _ => 0)))), (q15, .inl (cA 1, 12, .inr (.inl (fun _ => 0)))), (q21, .inr (4, [.int 0, .int 0, .int 0, .ref (u25 0)])), ((u25 0), .inl (cA 0, 120, .inl (fun _ => 0)))] := hD
  refine lv_iconst (v := 0) hx hb dkX8_41 (by decide) ?_
  refine lv_istore_n (lv' := [(2, .int 0), (0, .ref h0), (1, .ref tp)]) hx hb dkX8_42 rfl hl (by decide) rfl (fun ls hl => ?_)
  refine lv_iconst (v := 0) hx hb dkX8_43 (by decide) ?_
  refine lv_istore_n (lv' := [(3, .int 0), (2, .int 0), (0, .ref h0), (1, .ref tp)]) hx hb dkX8_44 rfl hl (by decide) rfl (fun ls hl => ?_)
  refine rd_loop (aK := aK) (aV := aV) (h0 := h0) (ht := tp) (qk := q7) (fs := [.ref tp, .ref q7, .ref q15, .int 0, .ref q21, .int 0, .int (-1)]) (rest := [(q15, .inl (cA 1, 12, .inr (.inl (fun _ => 0)))), (q21, .inr (4, [.int 0, .int 0, .int 0, .ref (u25 0)])), ((u25 0), .inl (cA 0, 120, .inl (fun _ => 0)))]) hx hb hml hown hts hK hEx.2 ⟨Nat.le_of_ble_eq_true rfl, Nat.le_of_ble_eq_true rfl⟩ rfl ⟨Nat.le_of_ble_eq_true rfl, Nat.le_of_ble_eq_true rfl⟩ (fun H locs ls hP hD hS => ?_) 65 0 rfl H _ ls hP hD hS (lv_sub hl [2, 3, 1, 0] rfl)
  have hP9 := hP.sub (ws' := [(h0, .inr (7, [.ref tp, .ref q7, .ref q15, .int 0, .ref q21, .int 0, .int (-1)])), (q7, .inl (cA 1, 11, .inr (.inl (kst 65).2))), (q15, .inl (cA 1, 12, .inr (.inl (fun _ => 0)))), (q21, .inr (4, [.int 0, .int 0, .int 0, .ref (u25 0)])), ((u25 0), .inl (cA 0, 120, .inl (fun _ => 0)))]) [0, 1, 2, 3, 4] rfl
  have hD9 := hD.sub (ws' := [(h0, .inr (7, [.ref tp, .ref q7, .ref q15, .int 0, .ref q21, .int 0, .int (-1)])), (q7, .inl (cA 1, 11, .inr (.inl (kst 65).2))), (q15, .inl (cA 1, 12, .inr (.inl (fun _ => 0)))), (q21, .inr (4, [.int 0, .int 0, .int 0, .ref (u25 0)])), ((u25 0), .inl (cA 0, 120, .inl (fun _ => 0)))]) [0, 1, 2, 3, 4] (by decide) rfl
  exact W.vret hx hb hr (fun t ht hW => ⟨⟨(fun i => match i with | 0 => q7 | 1 => q15 | 2 => q21 | 3 => (u25 0) | _ => 0), rfl, trivial, by rw [ht]; exact hP9, hD9⟩, hS.F ht⟩) hS.2.2 dkX8_104
