def CX7_bitsOfDouble : eCo := [[some (.dload_n 0), some (.dconst 0), some (.dcmp .l), some (.ifCond .gt 5), none, none, some (.lconst 0), some (.lreturn), some (.dload_n 0), some (.dstore_n 2), some (.ldc2_w 34), none, none, some (.lstore 4), none, some (.iconst 0)],
  [some (.istore 6), none, some (.iload 6), none, some (.sipush 1000), none, none, some (.if_icmp .ge 29), none, none, some (.dload_n 2), some (.ldc2_w 36), none, none, some (.dcmp .l), some (.ifCond .lt 21)],
  [none, none, some (.dload_n 2), some (.ldc2_w 36), none, none, some (.ddiv), some (.dstore_n 2), some (.lload 4), none, some (.lconst 1), some (.ladd), some (.lstore 4), none, some (.iinc 6 1), none],
  [none, some (.goto (-31)), none, none, some (.iconst 0), some (.istore 6), none, some (.iload 6), none, some (.sipush 1000), none, none, some (.if_icmp .ge 27), none, none, some (.dload_n 2)],
  [some (.dconst 1), some (.dcmp .g), some (.ifCond .ge 21), none, none, some (.dload_n 2), some (.ldc2_w 36), none, none, some (.dmul), some (.dstore_n 2), some (.lload 4), none, some (.lconst 1), some (.lsub), some (.lstore 4)],
  [none, some (.iinc 6 1), none, none, some (.goto (-29)), none, none, some (.lload 4), none, some (.bipush 52), none, some (.lshl), some (.dload_n 2), some (.dconst 1), some (.dsub), some (.ldc2_w 38)],
  [none, none, some (.dmul), some (.d2l), some (.ladd), some (.lreturn)]]
theorem dcX7_bitsOfDouble : eDec cX7_bitsOfDouble CX7_bitsOfDouble := eDec_of (by decide +kernel)
def rs_nu_bitsOfDouble : List (Nat × eR) := [(34, (3, 0, 0, 1023)), (36, (4, 4611686018427387904, 0, 0)), (38, (4, 4841369599423283200, 0, 0))]
noncomputable def cs_nu_bitsOfDouble : List (eF (Int64 × eW)) := []
noncomputable def f_nu_bitsOfDouble_L55 : Nat → UInt64 → Int64 → Int32 → eW → Option (Int64 × eW)
  | 0, _, _, _, _ => none
  | n + 1, a2, a4, a6, w => (if (1000 : Int32) ≤ a6 then (if (FP.dsub a2 FP.dconst1) &&& 0x7fffffffffffffff ≤ 0x7ff0000000000000 then (if (FP.dmul (FP.dsub a2 FP.dconst1) (4841369599423283200 : UInt64)) &&& 0x7fffffffffffffff ≤ 0x7ff0000000000000 then (some (((a4 <<< (((52 : Int32)).toInt64 &&& 63)) + (FP.d2l (FP.dmul (FP.dsub a2 FP.dconst1) (4841369599423283200 : UInt64)))), w)) else none) else none) else (if 0 ≤ (Op.cmpValue (FP.dcmp a2 FP.dconst1) CmpOp.g) then (if (FP.dsub a2 FP.dconst1) &&& 0x7fffffffffffffff ≤ 0x7ff0000000000000 then (if (FP.dmul (FP.dsub a2 FP.dconst1) (4841369599423283200 : UInt64)) &&& 0x7fffffffffffffff ≤ 0x7ff0000000000000 then (some (((a4 <<< (((52 : Int32)).toInt64 &&& 63)) + (FP.d2l (FP.dmul (FP.dsub a2 FP.dconst1) (4841369599423283200 : UInt64)))), w)) else none) else none) else (if (FP.dmul a2 (4611686018427387904 : UInt64)) &&& 0x7fffffffffffffff ≤ 0x7ff0000000000000 then (f_nu_bitsOfDouble_L55 n (FP.dmul a2 (4611686018427387904 : UInt64)) (a4 - (1 : Int64)) (a6 + (1 : Int32)) w) else none)))
noncomputable def f_nu_bitsOfDouble_L18 : Nat → UInt64 → Int64 → Int32 → eW → Option (Int64 × eW)
  | 0, _, _, _, _ => none
  | n + 1, a2, a4, a6, w => (if (1000 : Int32) ≤ a6 then (f_nu_bitsOfDouble_L55 eFu a2 a4 (0 : Int32) w) else (if (Op.cmpValue (FP.dcmp a2 (4611686018427387904 : UInt64)) CmpOp.l) < 0 then (f_nu_bitsOfDouble_L55 eFu a2 a4 (0 : Int32) w) else (if (FP.ddiv a2 (4611686018427387904 : UInt64)) &&& 0x7fffffffffffffff ≤ 0x7ff0000000000000 then (f_nu_bitsOfDouble_L18 n (FP.ddiv a2 (4611686018427387904 : UInt64)) (a4 + (1 : Int64)) (a6 + (1 : Int32)) w) else none)))
noncomputable def f_nu_bitsOfDouble (a0 : UInt64) (w : eW) : Option (Int64 × eW) := (if 0 < (Op.cmpValue (FP.dcmp a0 FP.dconst0) CmpOp.l) then (f_nu_bitsOfDouble_L18 eFu a0 (1023 : Int64) (0 : Int32) w) else (some ((0 : Int64), w)))
noncomputable def K_nu_bitsOfDouble {ρ : Type} : eF ρ := fun as w k => match as with
  | [.double a0] => (f_nu_bitsOfDouble a0 w).bind (fun p => k (some (.long p.1)) p.2)
  | _ => none
section
variable {p : Program} {l : Launch} {e : Env} {s : State} {m : MethodId} {args : Array Value} {below : List Frame} {meth : Method} {c : Code} {ad : Nat → Nat} {D : va_G} {cA : Nat → ClassId}
theorem lk_nu_bitsOfDouble : ∀ q ∈ rs_nu_bitsOfDouble, eLnk { frames := 0, cells := 0, slots := 0, locals := 0 } vwCl (eWd yX7_bitsOfDouble cX7_bitsOfDouble 7 (some .long)) SSc SHc.length RX7 q.1 q.2 := List.forall_mem_cons.mpr ⟨lkX7_34 eTb_wd, List.forall_mem_cons.mpr ⟨lkX7_36 eTb_wd, List.forall_mem_cons.mpr ⟨lkX7_38 eTb_wd, fun _ h => absurd h List.not_mem_nil⟩⟩⟩
theorem hc_nu_bitsOfDouble {x : Int64 × eW} : ∀ q ∈ rs_nu_bitsOfDouble, eHc l { frames := 0, cells := 0, slots := 0, locals := 0 } ad D cA vwCl SHc SSc (eWd yX7_bitsOfDouble cX7_bitsOfDouble 7 (some .long)) RX7 cs_nu_bitsOfDouble x q := List.forall_mem_cons.mpr ⟨trivial, List.forall_mem_cons.mpr ⟨trivial, List.forall_mem_cons.mpr ⟨trivial, fun _ h => absurd h List.not_mem_nil⟩⟩⟩
noncomputable def kk_nu_bitsOfDouble_55 (n : Nat) : eK (Int64 × eW) := fun pc L st w => bif Nat.beq pc 55 then ((lD L 2).bind fun a2 => (lJ L 4).bind fun a4 => (lI L 6).bind fun a6 => sE st (f_nu_bitsOfDouble_L55 n a2 a4 a6 w)) else none
set_option maxRecDepth 100000 in
set_option maxHeartbeats 4000000 in
theorem go_nu_bitsOfDouble_L55 (hcx : eCx p { frames := 0, cells := 0, slots := 0, locals := 0 } s m args meth c cX7_bitsOfDouble RX7 7 ad D cA vwCl SHc SSc (eWd yX7_bitsOfDouble cX7_bitsOfDouble 7 (some .long)) (some .long)) {x : Int64 × eW} : ∀ (n : Nat) (a2 : UInt64) (a4 : Int64) (a6 : Int32) (w : eW), f_nu_bitsOfDouble_L55  n a2 a4 a6 w = some x → eGq p l e { frames := 0, cells := 0, slots := 0, locals := 0 } s m args below meth c 7 ad D cA vwCl SHc rJ x 55 [none, none, some (.double a2), none, some (.long a4), none, some (.int a6)] [] w := by
  intro n
  induction n with
  | zero => intro a2 a4 a6 w h; exact nomatch (show (none : Option (Int64 × eW)) = some x from h)
  | succ n ih =>
    intro a2 a4 a6 w h
    have h : eRun SHc SSc 7 rs_nu_bitsOfDouble (eCs cs_nu_bitsOfDouble) rJ CX7_bitsOfDouble [18, 55] (kk_nu_bitsOfDouble_55  n) 20 true 55 [none, none, some (.double a2), none, some (.long a4), none, some (.int a6)] [] w = some x := h
    refine eRun_go hcx (eLnk_all lk_nu_bitsOfDouble) (eHc_all hc_nu_bitsOfDouble) rJ_ok dcX7_bitsOfDouble [18, 55] _ (fun pc L st w hK => ?_) 20 true 55 _ _ w h
    unfold kk_nu_bitsOfDouble_55 at hK
    rcases eCut hK with ⟨hpc, hK⟩ | hK
    · subst hpc
      obtain ⟨a2, e2, hK_1⟩ := lD_some hK
      obtain ⟨a4, e4, hK_2⟩ := lJ_some hK_1
      obtain ⟨a6, e6, hK_3⟩ := lI_some hK_2
      obtain ⟨hst9, hK_4⟩ := sE_some hK_3
      subst hst9
      exact eGo.wk (ih a2 a4 a6 w hK_4) (eLe_wk ⟨e2, e4, e6, trivial⟩)
    cases hK
noncomputable def kk_nu_bitsOfDouble_18 (n : Nat) : eK (Int64 × eW) := fun pc L st w => bif Nat.beq pc 55 then ((lD L 2).bind fun a2 => (lJ L 4).bind fun a4 => (lI L 6).bind fun a6 => sE st (f_nu_bitsOfDouble_L55 eFu a2 a4 a6 w)) else (bif Nat.beq pc 18 then ((lD L 2).bind fun a2 => (lJ L 4).bind fun a4 => (lI L 6).bind fun a6 => sE st (f_nu_bitsOfDouble_L18 n a2 a4 a6 w)) else none)
set_option maxRecDepth 100000 in
set_option maxHeartbeats 4000000 in
theorem go_nu_bitsOfDouble_L18 (hcx : eCx p { frames := 0, cells := 0, slots := 0, locals := 0 } s m args meth c cX7_bitsOfDouble RX7 7 ad D cA vwCl SHc SSc (eWd yX7_bitsOfDouble cX7_bitsOfDouble 7 (some .long)) (some .long)) {x : Int64 × eW} : ∀ (n : Nat) (a2 : UInt64) (a4 : Int64) (a6 : Int32) (w : eW), f_nu_bitsOfDouble_L18  n a2 a4 a6 w = some x → eGq p l e { frames := 0, cells := 0, slots := 0, locals := 0 } s m args below meth c 7 ad D cA vwCl SHc rJ x 18 [none, none, some (.double a2), none, some (.long a4), none, some (.int a6)] [] w := by
  intro n
  induction n with
  | zero => intro a2 a4 a6 w h; exact nomatch (show (none : Option (Int64 × eW)) = some x from h)
  | succ n ih =>
    intro a2 a4 a6 w h
    have h : eRun SHc SSc 7 rs_nu_bitsOfDouble (eCs cs_nu_bitsOfDouble) rJ CX7_bitsOfDouble [18, 55] (kk_nu_bitsOfDouble_18  n) 20 true 18 [none, none, some (.double a2), none, some (.long a4), none, some (.int a6)] [] w = some x := h
    refine eRun_go hcx (eLnk_all lk_nu_bitsOfDouble) (eHc_all hc_nu_bitsOfDouble) rJ_ok dcX7_bitsOfDouble [18, 55] _ (fun pc L st w hK => ?_) 20 true 18 _ _ w h
    unfold kk_nu_bitsOfDouble_18 at hK
    rcases eCut hK with ⟨hpc, hK⟩ | hK
    · subst hpc
      obtain ⟨a2, e2, hK_1⟩ := lD_some hK
      obtain ⟨a4, e4, hK_2⟩ := lJ_some hK_1
      obtain ⟨a6, e6, hK_3⟩ := lI_some hK_2
      obtain ⟨hst9, hK_4⟩ := sE_some hK_3
      subst hst9
      exact eGo.wk (go_nu_bitsOfDouble_L55 hcx  eFu a2 a4 a6 w hK_4) (eLe_wk ⟨e2, e4, e6, trivial⟩)
    rcases eCut hK with ⟨hpc, hK⟩ | hK
    · subst hpc
      obtain ⟨a2, e2, hK_1⟩ := lD_some hK
      obtain ⟨a4, e4, hK_2⟩ := lJ_some hK_1
      obtain ⟨a6, e6, hK_3⟩ := lI_some hK_2
      obtain ⟨hst9, hK_4⟩ := sE_some hK_3
      subst hst9
      exact eGo.wk (ih a2 a4 a6 w hK_4) (eLe_wk ⟨e2, e4, e6, trivial⟩)
    cases hK
set_option maxRecDepth 100000 in
set_option maxHeartbeats 4000000 in
theorem go_nu_bitsOfDouble (hcx : eCx p { frames := 0, cells := 0, slots := 0, locals := 0 } s m args meth c cX7_bitsOfDouble RX7 7 ad D cA vwCl SHc SSc (eWd yX7_bitsOfDouble cX7_bitsOfDouble 7 (some .long)) (some .long)) (a0 : UInt64) (w : eW) (x : Int64 × eW) (h : f_nu_bitsOfDouble a0 w = some x) : eGq p l e { frames := 0, cells := 0, slots := 0, locals := 0 } s m args below meth c 7 ad D cA vwCl SHc rJ x 0 (eEnt [.double a0]) [] w := by
  have h : eRun SHc SSc 7 rs_nu_bitsOfDouble (eCs cs_nu_bitsOfDouble) rJ CX7_bitsOfDouble [18, 55] (fun pc L st w => bif Nat.beq pc 18 then ((lD L 2).bind fun a2 => (lJ L 4).bind fun a4 => (lI L 6).bind fun a6 => sE st (f_nu_bitsOfDouble_L18 eFu a2 a4 a6 w)) else none) 13 true 0 [some (.double a0), none, none, none, none, none, none] [] w = some x := h
  refine eGo.wk (eRun_go hcx (eLnk_all lk_nu_bitsOfDouble) (eHc_all hc_nu_bitsOfDouble) rJ_ok dcX7_bitsOfDouble [18, 55] _ (fun pc L st w hK => ?_) 13 true 0 _ _ w h) (eLe_wk ⟨rfl, trivial⟩)
  rcases eCut hK with ⟨hpc, hK⟩ | hK
  · subst hpc
    obtain ⟨a2, e2, hK_1⟩ := lD_some hK
    obtain ⟨a4, e4, hK_2⟩ := lJ_some hK_1
    obtain ⟨a6, e6, hK_3⟩ := lI_some hK_2
    obtain ⟨hst9, hK_4⟩ := sE_some hK_3
    subst hst9
    exact eGo.wk (go_nu_bitsOfDouble_L18 hcx  eFu a2 a4 a6 w hK_4) (eLe_wk ⟨e2, e4, e6, trivial⟩)
  cases hK
end
set_option maxRecDepth 100000 in
set_option maxHeartbeats 4000000 in
theorem ok_nu_bitsOfDouble {l : Launch} {ad : Nat → Nat} {D : va_G} {cA : Nat → ClassId} {ρ : Type} (as : List Value) (w : eW) (k : Option Value → eW → Option ρ) (x : ρ) (h : K_nu_bitsOfDouble as w k = some x) : ∃ (v : Option Value) (w2 : eW), k v w2 = some x ∧ eMet l ad D cA vwCl SHc SSc yX7_bitsOfDouble (eWd yX7_bitsOfDouble cX7_bitsOfDouble 7 (some .long)) { frames := 0, cells := 0, slots := 0, locals := 0 } as w v w2 := by
  unfold K_nu_bitsOfDouble at h
  split at h
  · rename_i a0
    obtain ⟨q, h2, h3⟩ := Option.bind_eq_some_iff.mp h
    exact ⟨_, _, h3, eMet_of (by decide +kernel) rfl (by simp [eCat, Value.category]) rJ_ret (fun p e s m args below meth c hcx => go_nu_bitsOfDouble hcx a0 w q h2)⟩
  · cases h
def CX7_asDouble : eCo := [[some (.lload_n 0), some (.lload_n 2), some (.iconst 1), some (.invokestatic 28), none, none, some (.lstore 4), none, some (.lload 4), none, some (.lconst 0), some (.lcmp), some (.ifCond .le 17), none, none, some (.lload_n 0)],
  [some (.lload_n 2), some (.iconst 0), some (.invokestatic 28), none, none, some (.l2d), some (.lload 4), none, some (.l2d), some (.ddiv), some (.goto 4), none, none, some (.dconst 0), some (.dreturn)]]
theorem dcX7_asDouble : eDec cX7_asDouble CX7_asDouble := eDec_of (by decide +kernel)
def rs_nu_asDouble : List (Nat × eR) := [(28, (1, 0, 3, -1))]
noncomputable def cs_nu_asDouble : List (eF (UInt64 × eW)) := [K_nu_lowest]
noncomputable def f_nu_asDouble (a0 : Int64) (a2 : Int64) (w : eW) : Option (UInt64 × eW) := ((f_nu_lowest a0 a2 (1 : Int32) w).bind fun p1 => (if (lg_cmp p1.1 (0 : Int64)) ≤ 0 then (some (FP.dconst0, p1.2)) else ((f_nu_lowest a0 a2 (0 : Int32) p1.2).bind fun p2 => (if (FP.ddiv (FP.l2d p2.1) (FP.l2d p1.1)) &&& 0x7fffffffffffffff ≤ 0x7ff0000000000000 then (some ((FP.ddiv (FP.l2d p2.1) (FP.l2d p1.1)), p2.2)) else none))))
noncomputable def K_nu_asDouble {ρ : Type} : eF ρ := fun as w k => match as with
  | [.long a0, .long a2] => (f_nu_asDouble a0 a2 w).bind (fun p => k (some (.double p.1)) p.2)
  | _ => none
section
variable {p : Program} {l : Launch} {e : Env} {s : State} {m : MethodId} {args : Array Value} {below : List Frame} {meth : Method} {c : Code} {ad : Nat → Nat} {D : va_G} {cA : Nat → ClassId}
theorem lk_nu_asDouble : ∀ q ∈ rs_nu_asDouble, eLnk { frames := 3, cells := 0, slots := 0, locals := 116 } vwCl (eWd yX7_asDouble cX7_asDouble 6 (some .double)) SSc SHc.length RX7 q.1 q.2 := List.forall_mem_cons.mpr ⟨trivial, fun _ h => absurd h List.not_mem_nil⟩
theorem hc_nu_asDouble {x : UInt64 × eW} : ∀ q ∈ rs_nu_asDouble, eHc l { frames := 3, cells := 0, slots := 0, locals := 116 } ad D cA vwCl SHc SSc (eWd yX7_asDouble cX7_asDouble 6 (some .double)) RX7 cs_nu_asDouble x q := List.forall_mem_cons.mpr ⟨(fun as w k h => let ⟨v, w2, h1, h2⟩ := ok_nu_lowest as w k x h; ⟨v, w2, h1, eCal_of h2 ⟨rfl, rfl⟩ hdX7_lowest (gvX7_28 eTb_wd)⟩), fun _ h => absurd h List.not_mem_nil⟩
set_option maxRecDepth 100000 in
set_option maxHeartbeats 4000000 in
theorem go_nu_asDouble (hcx : eCx p { frames := 3, cells := 0, slots := 0, locals := 116 } s m args meth c cX7_asDouble RX7 6 ad D cA vwCl SHc SSc (eWd yX7_asDouble cX7_asDouble 6 (some .double)) (some .double)) (a0 : Int64) (a2 : Int64) (w : eW) (x : UInt64 × eW) (h : f_nu_asDouble a0 a2 w = some x) : eGq p l e { frames := 3, cells := 0, slots := 0, locals := 116 } s m args below meth c 6 ad D cA vwCl SHc rD x 0 (eEnt [.long a0, .long a2]) [] w := by
  have h : eRun SHc SSc 6 rs_nu_asDouble (eCs cs_nu_asDouble) rD CX7_asDouble [] (fun pc L st w => none) 21 true 0 [some (.long a0), none, some (.long a2), none, none, none] [] w = some x := h
  refine eGo.wk (eRun_go hcx (eLnk_all lk_nu_asDouble) (eHc_all hc_nu_asDouble) rD_ok dcX7_asDouble [] _ (fun pc L st w hK => ?_) 21 true 0 _ _ w h) (eLe_wk ⟨rfl, rfl, trivial⟩)
  cases hK
end
set_option maxRecDepth 100000 in
set_option maxHeartbeats 4000000 in
theorem ok_nu_asDouble {l : Launch} {ad : Nat → Nat} {D : va_G} {cA : Nat → ClassId} {ρ : Type} (as : List Value) (w : eW) (k : Option Value → eW → Option ρ) (x : ρ) (h : K_nu_asDouble as w k = some x) : ∃ (v : Option Value) (w2 : eW), k v w2 = some x ∧ eMet l ad D cA vwCl SHc SSc yX7_asDouble (eWd yX7_asDouble cX7_asDouble 6 (some .double)) { frames := 3, cells := 0, slots := 0, locals := 116 } as w v w2 := by
  unfold K_nu_asDouble at h
  split at h
  · rename_i a0 a2
    obtain ⟨q, h2, h3⟩ := Option.bind_eq_some_iff.mp h
    exact ⟨_, _, h3, eMet_of (by decide +kernel) rfl (by simp [eCat, Value.category]) rD_ret (fun p e s m args below meth c hcx => go_nu_asDouble hcx a0 a2 w q h2)⟩
  · cases h
def CX11_mean : eCo := [[some (.aload_n 0), some (.getfield 28), none, none, some (.iload_n 1), some (.invokevirtual 118), none, none, some (.ifCond .ne 7), none, none, some (.ldc2_w 136), none, none, some (.lreturn), some (.dconst 0)],
  [some (.dstore_n 2), some (.iconst 0), some (.istore 4), none, some (.iconst 0), some (.istore 5), none, some (.iload 5), none, some (.aload_n 0), some (.getfield 63), none, none, some (.getfield 101), none, none],
  [some (.if_icmp .ge 71), none, none, some (.aload_n 0), some (.aload_n 0), some (.getfield 63), none, none, some (.getfield 293), none, none, some (.iload 5), none, some (.iaload), some (.invokevirtual 138), none],
  [none, some (.dload_n 2), some (.aload_n 0), some (.getfield 63), none, none, some (.getfield 297), none, none, some (.iload 5), none, some (.iaload), some (.i2d), some (.aload_n 0), some (.getfield 35), none],
  [none, some (.iload_n 1), some (.invokevirtual 141), none, none, some (.aload_n 0), some (.getfield 35), none, none, some (.getfield 145), none, none, some (.invokestatic 300), none, none, some (.dmul)],
  [some (.dadd), some (.dstore_n 2), some (.iload 4), none, some (.aload_n 0), some (.getfield 63), none, none, some (.getfield 297), none, none, some (.iload 5), none, some (.iaload), some (.iadd), some (.istore 4)],
  [none, some (.iinc 5 1), none, none, some (.goto (-77)), none, none, some (.iload 4), none, some (.ifCond .le 14), none, none, some (.dload_n 2), some (.iload 4), none, some (.i2d)],
  [some (.ddiv), some (.invokestatic 304), none, none, some (.goto 4), none, none, some (.lconst 0), some (.lreturn)]]
theorem dcX11_mean : eDec cX11_mean CX11_mean := eDec_of (by decide +kernel)
def rs_xx_mean : List (Nat × eR) := [(28, (0, 10, 2, 2)), (35, (0, 10, 3, 2)), (63, (0, 10, 7, 2)), (101, (0, 6, 2, 0)), (118, (1, 0, 1, 4)), (136, (3, 0, 0, -2)), (138, (1, 2, 1, 10)), (141, (1, 3, 1, 3)), (145, (0, 3, 5, 1)), (293, (0, 6, 0, 2)), (297, (0, 6, 1, 2)), (300, (1, 4, 2, -1)), (304, (1, 1, 1, -1))]
noncomputable def cs_xx_mean : List (eF (Int64 × eW)) := [K_fi_isHolder, K_nu_bitsOfDouble, K_xx_pour, K_fa_aboveOf, K_nu_asDouble]
noncomputable def f_xx_mean_L23 : Nat → Int32 → UInt64 → Int32 → Int32 → eW → Option (Int64 × eW)
  | 0, _, _, _, _, _ => none
  | n + 1, a1, a2, a4, a5, w => (if (w.1 35 2) ≤ a5 then (if a4 ≤ 0 then (some ((0 : Int64), w)) else (if (FP.ddiv a2 (FP.i2d a4)) &&& 0x7fffffffffffffff ≤ 0x7ff0000000000000 then ((f_nu_bitsOfDouble (FP.ddiv a2 (FP.i2d a4)) w).bind fun p2 => (some (p2.1, p2.2))) else none)) else (eChk a5 8 ((f_xx_pour (w.1 33 (Int32.toNatClampNeg a5)) w).bind fun w3 => (eChk a5 8 ((f_fa_aboveOf a1 w3).bind fun p4 => ((f_nu_asDouble p4.1 (p4.2.2 24 5) p4.2).bind fun p5 => (if (FP.dmul (FP.i2d (w3.1 34 (Int32.toNatClampNeg a5))) p5.1) &&& 0x7fffffffffffffff ≤ 0x7ff0000000000000 then (if (FP.dadd a2 (FP.dmul (FP.i2d (w3.1 34 (Int32.toNatClampNeg a5))) p5.1)) &&& 0x7fffffffffffffff ≤ 0x7ff0000000000000 then (eChk a5 8 (f_xx_mean_L23 n a1 (FP.dadd a2 (FP.dmul (FP.i2d (w3.1 34 (Int32.toNatClampNeg a5))) p5.1)) (a4 + (p5.2.1 34 (Int32.toNatClampNeg a5))) (a5 + (1 : Int32)) p5.2)) else none) else none)))))))
noncomputable def f_xx_mean (a1 : Int32) (w : eW) : Option (Int64 × eW) := ((f_fi_isHolder a1 w).bind fun p1 => (if ¬ p1.1 = 0 then (f_xx_mean_L23 eFu a1 FP.dconst0 (0 : Int32) (0 : Int32) p1.2) else (some ((-2 : Int64), p1.2))))
noncomputable def K_xx_mean {ρ : Type} : eF ρ := fun as w k => match as with
  | [.ref r0, .int a1] => bif Nat.beq r0 38 then (f_xx_mean a1 w).bind (fun p => k (some (.long p.1)) p.2) else none
  | _ => none
section
variable {p : Program} {l : Launch} {e : Env} {s : State} {m : MethodId} {args : Array Value} {below : List Frame} {meth : Method} {c : Code} {ad : Nat → Nat} {D : va_G} {cA : Nat → ClassId}
theorem lk_xx_mean : ∀ q ∈ rs_xx_mean, eLnk { frames := 5, cells := 0, slots := 0, locals := 159 } vwCl (eWd yX11_mean cX11_mean 6 (some .long)) SSc SHc.length RX11 q.1 q.2 := List.forall_mem_cons.mpr ⟨lkX11_28 eTb_wd, List.forall_mem_cons.mpr ⟨lkX11_35 eTb_wd, List.forall_mem_cons.mpr ⟨lkX11_63 eTb_wd, List.forall_mem_cons.mpr ⟨lkX11_101 eTb_wd, List.forall_mem_cons.mpr ⟨trivial, List.forall_mem_cons.mpr ⟨lkX11_136 eTb_wd, List.forall_mem_cons.mpr ⟨trivial, List.forall_mem_cons.mpr ⟨trivial, List.forall_mem_cons.mpr ⟨lkX11_145 eTb_wd, List.forall_mem_cons.mpr ⟨lkX11_293 eTb_wd, List.forall_mem_cons.mpr ⟨lkX11_297 eTb_wd, List.forall_mem_cons.mpr ⟨trivial, List.forall_mem_cons.mpr ⟨trivial, fun _ h => absurd h List.not_mem_nil⟩⟩⟩⟩⟩⟩⟩⟩⟩⟩⟩⟩⟩
theorem hc_xx_mean {x : Int64 × eW} : ∀ q ∈ rs_xx_mean, eHc l { frames := 5, cells := 0, slots := 0, locals := 159 } ad D cA vwCl SHc SSc (eWd yX11_mean cX11_mean 6 (some .long)) RX11 cs_xx_mean x q := List.forall_mem_cons.mpr ⟨trivial, List.forall_mem_cons.mpr ⟨trivial, List.forall_mem_cons.mpr ⟨trivial, List.forall_mem_cons.mpr ⟨trivial, List.forall_mem_cons.mpr ⟨(fun as w k h => let ⟨v, w2, h1, h2⟩ := ok_fi_isHolder as w k x h; ⟨v, w2, h1, eCal_of h2 ⟨rfl, rfl⟩ hdX4_isHolder (gvX11_118 eTb_wd)⟩), List.forall_mem_cons.mpr ⟨trivial, List.forall_mem_cons.mpr ⟨(fun as w k h => let ⟨v, w2, h1, h2⟩ := ok_xx_pour as w k x h; ⟨v, w2, h1, eCal_of h2 ⟨rfl, rfl⟩ hdX11_pour (gvX11_138 eTb_wd)⟩), List.forall_mem_cons.mpr ⟨(fun as w k h => let ⟨v, w2, h1, h2⟩ := ok_fa_aboveOf as w k x h; ⟨v, w2, h1, eCal_of h2 ⟨rfl, rfl⟩ hdX3_aboveOf (gvX11_141 eTb_wd)⟩), List.forall_mem_cons.mpr ⟨trivial, List.forall_mem_cons.mpr ⟨trivial, List.forall_mem_cons.mpr ⟨trivial, List.forall_mem_cons.mpr ⟨(fun as w k h => let ⟨v, w2, h1, h2⟩ := ok_nu_asDouble as w k x h; ⟨v, w2, h1, eCal_of h2 ⟨rfl, rfl⟩ hdX7_asDouble (gvX11_300 eTb_wd)⟩), List.forall_mem_cons.mpr ⟨(fun as w k h => let ⟨v, w2, h1, h2⟩ := ok_nu_bitsOfDouble as w k x h; ⟨v, w2, h1, eCal_of h2 ⟨rfl, rfl⟩ hdX7_bitsOfDouble (gvX11_304 eTb_wd)⟩), fun _ h => absurd h List.not_mem_nil⟩⟩⟩⟩⟩⟩⟩⟩⟩⟩⟩⟩⟩
noncomputable def kk_xx_mean_23 (n : Nat) : eK (Int64 × eW) := fun pc L st w => bif Nat.beq pc 23 then (lR L 0 38 ((lI L 1).bind fun a1 => (lD L 2).bind fun a2 => (lI L 4).bind fun a4 => (lI L 5).bind fun a5 => sE st (f_xx_mean_L23 n a1 a2 a4 a5 w))) else none
set_option maxRecDepth 100000 in
set_option maxHeartbeats 4000000 in
theorem go_xx_mean_L23 (hcx : eCx p { frames := 5, cells := 0, slots := 0, locals := 159 } s m args meth c cX11_mean RX11 6 ad D cA vwCl SHc SSc (eWd yX11_mean cX11_mean 6 (some .long)) (some .long)) {x : Int64 × eW} : ∀ (n : Nat) (a1 : Int32) (a2 : UInt64) (a4 : Int32) (a5 : Int32) (w : eW), f_xx_mean_L23  n a1 a2 a4 a5 w = some x → eGq p l e { frames := 5, cells := 0, slots := 0, locals := 159 } s m args below meth c 6 ad D cA vwCl SHc rJ x 23 [some (.ref 38), some (.int a1), some (.double a2), none, some (.int a4), some (.int a5)] [] w := by
  intro n
  induction n with
  | zero => intro a1 a2 a4 a5 w h; exact nomatch (show (none : Option (Int64 × eW)) = some x from h)
  | succ n ih =>
    intro a1 a2 a4 a5 w h
    have h : eRun SHc SSc 6 rs_xx_mean (eCs cs_xx_mean) rJ CX11_mean [23] (kk_xx_mean_23  n) 43 true 23 [some (.ref 38), some (.int a1), some (.double a2), none, some (.int a4), some (.int a5)] [] w = some x := h
    refine eRun_go hcx (eLnk_all lk_xx_mean) (eHc_all hc_xx_mean) rJ_ok dcX11_mean [23] _ (fun pc L st w hK => ?_) 43 true 23 _ _ w h
    unfold kk_xx_mean_23 at hK
    rcases eCut hK with ⟨hpc, hK⟩ | hK
    · subst hpc
      obtain ⟨e0, hK_1⟩ := lR_some hK
      obtain ⟨a1, e1, hK_2⟩ := lI_some hK_1
      obtain ⟨a2, e2, hK_3⟩ := lD_some hK_2
      obtain ⟨a4, e4, hK_4⟩ := lI_some hK_3
      obtain ⟨a5, e5, hK_5⟩ := lI_some hK_4
      obtain ⟨hst9, hK_6⟩ := sE_some hK_5
      subst hst9
      exact eGo.wk (ih a1 a2 a4 a5 w hK_6) (eLe_wk ⟨e0, e1, e2, e4, e5, trivial⟩)
    cases hK
set_option maxRecDepth 100000 in
set_option maxHeartbeats 4000000 in
theorem go_xx_mean (hcx : eCx p { frames := 5, cells := 0, slots := 0, locals := 159 } s m args meth c cX11_mean RX11 6 ad D cA vwCl SHc SSc (eWd yX11_mean cX11_mean 6 (some .long)) (some .long)) (a1 : Int32) (w : eW) (x : Int64 × eW) (h : f_xx_mean a1 w = some x) : eGq p l e { frames := 5, cells := 0, slots := 0, locals := 159 } s m args below meth c 6 ad D cA vwCl SHc rJ x 0 (eEnt [.ref 38, .int a1]) [] w := by
  have h : eRun SHc SSc 6 rs_xx_mean (eCs cs_xx_mean) rJ CX11_mean [23] (fun pc L st w => bif Nat.beq pc 23 then (lR L 0 38 ((lI L 1).bind fun a1 => (lD L 2).bind fun a2 => (lI L 4).bind fun a4 => (lI L 5).bind fun a5 => sE st (f_xx_mean_L23 eFu a1 a2 a4 a5 w))) else none) 14 true 0 [some (.ref 38), some (.int a1), none, none, none, none] [] w = some x := h
  refine eGo.wk (eRun_go hcx (eLnk_all lk_xx_mean) (eHc_all hc_xx_mean) rJ_ok dcX11_mean [23] _ (fun pc L st w hK => ?_) 14 true 0 _ _ w h) (eLe_wk ⟨rfl, rfl, trivial⟩)
  rcases eCut hK with ⟨hpc, hK⟩ | hK
  · subst hpc
    obtain ⟨e0, hK_1⟩ := lR_some hK
    obtain ⟨a1, e1, hK_2⟩ := lI_some hK_1
    obtain ⟨a2, e2, hK_3⟩ := lD_some hK_2
    obtain ⟨a4, e4, hK_4⟩ := lI_some hK_3
    obtain ⟨a5, e5, hK_5⟩ := lI_some hK_4
    obtain ⟨hst9, hK_6⟩ := sE_some hK_5
    subst hst9
    exact eGo.wk (go_xx_mean_L23 hcx  eFu a1 a2 a4 a5 w hK_6) (eLe_wk ⟨e0, e1, e2, e4, e5, trivial⟩)
  cases hK
end
set_option maxRecDepth 100000 in
set_option maxHeartbeats 4000000 in
theorem ok_xx_mean {l : Launch} {ad : Nat → Nat} {D : va_G} {cA : Nat → ClassId} {ρ : Type} (as : List Value) (w : eW) (k : Option Value → eW → Option ρ) (x : ρ) (h : K_xx_mean as w k = some x) : ∃ (v : Option Value) (w2 : eW), k v w2 = some x ∧ eMet l ad D cA vwCl SHc SSc yX11_mean (eWd yX11_mean cX11_mean 6 (some .long)) { frames := 5, cells := 0, slots := 0, locals := 159 } as w v w2 := by
  unfold K_xx_mean at h
  split at h
  · rename_i r0 a1
    obtain ⟨h1, h5⟩ := eBif h
    clear h
    have h := h5
    clear h5
    have h1 := Nat.eq_of_beq_eq_true h1
    subst h1
    obtain ⟨q, h2, h3⟩ := Option.bind_eq_some_iff.mp h
    exact ⟨_, _, h3, eMet_of (by decide +kernel) rfl (by simp [eCat, Value.category]) rJ_ret (fun p e s m args below meth c hcx => go_xx_mean hcx a1 w q h2)⟩
  · cases h
