def CX12_hasDouble : eCo := [[some (.aload_n 0), some (.iload_n 2), some (.invokevirtual 323), none, none, some (.aload_n 0), some (.iload_n 1), some (.iconst 0), some (.invokevirtual 326), none, none, some (.l2d), some (.aload_n 0), some (.iload_n 1), some (.iconst 1), some (.invokevirtual 326)],
  [none, none, some (.l2d), some (.ddiv), some (.dreturn)]]
theorem dcX12_hasDouble : eDec cX12_hasDouble CX12_hasDouble := eDec_of (by decide +kernel)
def rs_mm_hasDouble : List (Nat × eR) := [(323, (1, 0, 1, 11)), (326, (1, 1, 2, 11))]
noncomputable def cs_mm_hasDouble : List (eF (UInt64 × eW)) := [K_mm_layBy, K_mm_lowest]
noncomputable def f_mm_hasDouble (a1 : Int32) (a2 : Int32) (w : eW) : Option (UInt64 × eW) := ((f_mm_layBy a2 w).bind fun w1 => ((f_mm_lowest a1 (0 : Int32) w1).bind fun p2 => ((f_mm_lowest a1 (1 : Int32) p2.2).bind fun p3 => (if (FP.ddiv (FP.l2d p2.1) (FP.l2d p3.1)) &&& 0x7fffffffffffffff ≤ 0x7ff0000000000000 then (some ((FP.ddiv (FP.l2d p2.1) (FP.l2d p3.1)), p3.2)) else none))))
noncomputable def K_mm_hasDouble {ρ : Type} : eF ρ := fun as w k => match as with
  | [.ref r0, .int a1, .int a2] => bif Nat.beq r0 24 then (f_mm_hasDouble a1 a2 w).bind (fun p => k (some (.double p.1)) p.2) else none
  | _ => none
section
variable {p : Program} {l : Launch} {e : Env} {s : State} {m : MethodId} {args : Array Value} {below : List Frame} {meth : Method} {c : Code} {ad : Nat → Nat} {D : va_G} {cA : Nat → ClassId}
theorem lk_mm_hasDouble : ∀ q ∈ rs_mm_hasDouble, eLnk { frames := 10, cells := 0, slots := 0, locals := 230 } vwCl (eWd yX12_hasDouble cX12_hasDouble 3 (some .double)) SSm SHm.length RX12 q.1 q.2 := List.forall_mem_cons.mpr ⟨trivial, List.forall_mem_cons.mpr ⟨trivial, fun _ h => absurd h List.not_mem_nil⟩⟩
theorem hc_mm_hasDouble {x : UInt64 × eW} : ∀ q ∈ rs_mm_hasDouble, eHc l { frames := 10, cells := 0, slots := 0, locals := 230 } ad D cA vwCl SHm SSm (eWd yX12_hasDouble cX12_hasDouble 3 (some .double)) RX12 cs_mm_hasDouble x q := List.forall_mem_cons.mpr ⟨(fun as w k h => let ⟨v, w2, h1, h2⟩ := ok_mm_layBy as w k x h; ⟨v, w2, h1, eCal_of h2 ⟨rfl, rfl⟩ hdX12_layBy (gvX12_323 eTb_wd)⟩), List.forall_mem_cons.mpr ⟨(fun as w k h => let ⟨v, w2, h1, h2⟩ := ok_mm_lowest as w k x h; ⟨v, w2, h1, eCal_of h2 ⟨rfl, rfl⟩ hdX12_lowest (gvX12_326 eTb_wd)⟩), fun _ h => absurd h List.not_mem_nil⟩⟩
set_option maxRecDepth 100000 in
set_option maxHeartbeats 4000000 in
theorem go_mm_hasDouble (hcx : eCx p { frames := 10, cells := 0, slots := 0, locals := 230 } s m args meth c cX12_hasDouble RX12 3 ad D cA vwCl SHm SSm (eWd yX12_hasDouble cX12_hasDouble 3 (some .double)) (some .double)) (a1 : Int32) (a2 : Int32) (w : eW) (x : UInt64 × eW) (h : f_mm_hasDouble a1 a2 w = some x) : eGq p l e { frames := 10, cells := 0, slots := 0, locals := 230 } s m args below meth c 3 ad D cA vwCl SHm rD x 0 (eEnt [.ref 24, .int a1, .int a2]) [] w := by
  have h : eRun SHm SSm 3 rs_mm_hasDouble (eCs cs_mm_hasDouble) rD CX12_hasDouble [] (fun pc L st w => none) 17 true 0 [some (.ref 24), some (.int a1), some (.int a2)] [] w = some x := h
  refine eGo.wk (eRun_go hcx (eLnk_all lk_mm_hasDouble) (eHc_all hc_mm_hasDouble) rD_ok dcX12_hasDouble [] _ (fun pc L st w hK => ?_) 17 true 0 _ _ w h) (eLe_wk ⟨rfl, rfl, rfl, trivial⟩)
  cases hK
end
set_option maxRecDepth 100000 in
set_option maxHeartbeats 4000000 in
theorem ok_mm_hasDouble {l : Launch} {ad : Nat → Nat} {D : va_G} {cA : Nat → ClassId} {ρ : Type} (as : List Value) (w : eW) (k : Option Value → eW → Option ρ) (x : ρ) (h : K_mm_hasDouble as w k = some x) : ∃ (v : Option Value) (w2 : eW), k v w2 = some x ∧ eMet l ad D cA vwCl SHm SSm yX12_hasDouble (eWd yX12_hasDouble cX12_hasDouble 3 (some .double)) { frames := 10, cells := 0, slots := 0, locals := 230 } as w v w2 := by
  unfold K_mm_hasDouble at h
  split at h
  · rename_i r0 a1 a2
    obtain ⟨h1, h5⟩ := eBif h
    clear h
    have h := h5
    clear h5
    have h1 := Nat.eq_of_beq_eq_true h1
    subst h1
    obtain ⟨q, h2, h3⟩ := Option.bind_eq_some_iff.mp h
    exact ⟨_, _, h3, eMet_of (by decide +kernel) rfl (by simp [eCat, Value.category]) rD_ret (fun p e s m args below meth c hcx => go_mm_hasDouble hcx a1 a2 w q h2)⟩
  · cases h
def CX12_mean : eCo := [[some (.aload_n 0), some (.iconst 0), some (.putfield 95), none, none, some (.aload_n 0), some (.iload_n 1), some (.invokevirtual 105), none, none, some (.ifCond .ne 7), none, none, some (.ldc2_w 321), none, none],
  [some (.lreturn), some (.dconst 0), some (.dstore_n 2), some (.iconst 0), some (.istore 4), none, some (.iconst 0), some (.istore 5), none, some (.iload 5), none, some (.aload_n 0), some (.getfield 235), none, none, some (.if_icmp .ge 45)],
  [none, none, some (.dload_n 2), some (.aload_n 0), some (.getfield 92), none, none, some (.iload 5), none, some (.iaload), some (.i2d), some (.aload_n 0), some (.iload_n 1), some (.aload_n 0), some (.getfield 89), none],
  [none, some (.iload 5), none, some (.iaload), some (.invokevirtual 415), none, none, some (.dmul), some (.dadd), some (.dstore_n 2), some (.iload 4), none, some (.aload_n 0), some (.getfield 92), none, none],
  [some (.iload 5), none, some (.iaload), some (.iadd), some (.istore 4), none, some (.iinc 5 1), none, none, some (.goto (-48)), none, none, some (.aload_n 0), some (.getfield 235), none, none],
  [some (.ifCond .ne 7), none, none, some (.lconst 0), some (.goto 11), none, none, some (.dload_n 2), some (.iload 4), none, some (.i2d), some (.ddiv), some (.invokestatic 419), none, none, some (.lreturn)]]
theorem dcX12_mean : eDec cX12_mean CX12_mean := eDec_of (by decide +kernel)
def rs_mm_mean : List (Nat × eR) := [(89, (0, 11, 51, 2)), (92, (0, 11, 52, 2)), (95, (0, 11, 0, 0)), (105, (1, 0, 1, 11)), (235, (0, 11, 54, 0)), (321, (3, 0, 0, -2)), (415, (1, 2, 2, 11)), (419, (1, 1, 1, -1))]
noncomputable def cs_mm_mean : List (eF (Int64 × eW)) := [K_mm_isHolder, K_mm_bitsOf, K_mm_hasDouble]
noncomputable def f_mm_mean_L25 : Nat → Int32 → UInt64 → Int32 → Int32 → eW → Option (Int64 × eW)
  | 0, _, _, _, _, _ => none
  | n + 1, a1, a2, a4, a5, w => (if (w.1 24 54) ≤ a5 then (if ¬ (w.1 24 54) = 0 then (if (FP.ddiv a2 (FP.i2d a4)) &&& 0x7fffffffffffffff ≤ 0x7ff0000000000000 then ((f_mm_bitsOf (FP.ddiv a2 (FP.i2d a4)) w).bind fun p2 => (some (p2.1, p2.2))) else none) else (some ((0 : Int64), w))) else (eChk a5 8 (eChk a5 8 ((f_mm_hasDouble a1 (w.1 22 (Int32.toNatClampNeg a5)) w).bind fun p3 => (if (FP.dmul (FP.i2d (w.1 23 (Int32.toNatClampNeg a5))) p3.1) &&& 0x7fffffffffffffff ≤ 0x7ff0000000000000 then (if (FP.dadd a2 (FP.dmul (FP.i2d (w.1 23 (Int32.toNatClampNeg a5))) p3.1)) &&& 0x7fffffffffffffff ≤ 0x7ff0000000000000 then (eChk a5 8 (f_mm_mean_L25 n a1 (FP.dadd a2 (FP.dmul (FP.i2d (w.1 23 (Int32.toNatClampNeg a5))) p3.1)) (a4 + (p3.2.1 23 (Int32.toNatClampNeg a5))) (a5 + (1 : Int32)) p3.2)) else none) else none)))))
noncomputable def f_mm_mean (a1 : Int32) (w : eW) : Option (Int64 × eW) := ((f_mm_isHolder a1 (eU1 w 24 0 (0 : Int32))).bind fun p1 => (if ¬ p1.1 = 0 then (f_mm_mean_L25 eFu a1 FP.dconst0 (0 : Int32) (0 : Int32) p1.2) else (some ((-2 : Int64), p1.2))))
noncomputable def K_mm_mean {ρ : Type} : eF ρ := fun as w k => match as with
  | [.ref r0, .int a1] => bif Nat.beq r0 24 then (f_mm_mean a1 w).bind (fun p => k (some (.long p.1)) p.2) else none
  | _ => none
section
variable {p : Program} {l : Launch} {e : Env} {s : State} {m : MethodId} {args : Array Value} {below : List Frame} {meth : Method} {c : Code} {ad : Nat → Nat} {D : va_G} {cA : Nat → ClassId}
theorem lk_mm_mean : ∀ q ∈ rs_mm_mean, eLnk { frames := 11, cells := 0, slots := 0, locals := 252 } vwCl (eWd yX12_mean cX12_mean 6 (some .long)) SSm SHm.length RX12 q.1 q.2 := List.forall_mem_cons.mpr ⟨lkX12_89 eTb_wd, List.forall_mem_cons.mpr ⟨lkX12_92 eTb_wd, List.forall_mem_cons.mpr ⟨lkX12_95 eTb_wd, List.forall_mem_cons.mpr ⟨trivial, List.forall_mem_cons.mpr ⟨lkX12_235 eTb_wd, List.forall_mem_cons.mpr ⟨lkX12_321 eTb_wd, List.forall_mem_cons.mpr ⟨trivial, List.forall_mem_cons.mpr ⟨trivial, fun _ h => absurd h List.not_mem_nil⟩⟩⟩⟩⟩⟩⟩⟩
theorem hc_mm_mean {x : Int64 × eW} : ∀ q ∈ rs_mm_mean, eHc l { frames := 11, cells := 0, slots := 0, locals := 252 } ad D cA vwCl SHm SSm (eWd yX12_mean cX12_mean 6 (some .long)) RX12 cs_mm_mean x q := List.forall_mem_cons.mpr ⟨trivial, List.forall_mem_cons.mpr ⟨trivial, List.forall_mem_cons.mpr ⟨trivial, List.forall_mem_cons.mpr ⟨(fun as w k h => let ⟨v, w2, h1, h2⟩ := ok_mm_isHolder as w k x h; ⟨v, w2, h1, eCal_of h2 ⟨rfl, rfl⟩ hdX12_isHolder (gvX12_105 eTb_wd)⟩), List.forall_mem_cons.mpr ⟨trivial, List.forall_mem_cons.mpr ⟨trivial, List.forall_mem_cons.mpr ⟨(fun as w k h => let ⟨v, w2, h1, h2⟩ := ok_mm_hasDouble as w k x h; ⟨v, w2, h1, eCal_of h2 ⟨rfl, rfl⟩ hdX12_hasDouble (gvX12_415 eTb_wd)⟩), List.forall_mem_cons.mpr ⟨(fun as w k h => let ⟨v, w2, h1, h2⟩ := ok_mm_bitsOf as w k x h; ⟨v, w2, h1, eCal_of h2 ⟨rfl, rfl⟩ hdX12_bitsOf (gvX12_419 eTb_wd)⟩), fun _ h => absurd h List.not_mem_nil⟩⟩⟩⟩⟩⟩⟩⟩
noncomputable def kk_mm_mean_25 (n : Nat) : eK (Int64 × eW) := fun pc L st w => bif Nat.beq pc 25 then (lR L 0 24 ((lI L 1).bind fun a1 => (lD L 2).bind fun a2 => (lI L 4).bind fun a4 => (lI L 5).bind fun a5 => sE st (f_mm_mean_L25 n a1 a2 a4 a5 w))) else none
set_option maxRecDepth 100000 in
set_option maxHeartbeats 4000000 in
theorem go_mm_mean_L25 (hcx : eCx p { frames := 11, cells := 0, slots := 0, locals := 252 } s m args meth c cX12_mean RX12 6 ad D cA vwCl SHm SSm (eWd yX12_mean cX12_mean 6 (some .long)) (some .long)) {x : Int64 × eW} : ∀ (n : Nat) (a1 : Int32) (a2 : UInt64) (a4 : Int32) (a5 : Int32) (w : eW), f_mm_mean_L25  n a1 a2 a4 a5 w = some x → eGq p l e { frames := 11, cells := 0, slots := 0, locals := 252 } s m args below meth c 6 ad D cA vwCl SHm rJ x 25 [some (.ref 24), some (.int a1), some (.double a2), none, some (.int a4), some (.int a5)] [] w := by
  intro n
  induction n with
  | zero => intro a1 a2 a4 a5 w h; exact nomatch (show (none : Option (Int64 × eW)) = some x from h)
  | succ n ih =>
    intro a1 a2 a4 a5 w h
    have h : eRun SHm SSm 6 rs_mm_mean (eCs cs_mm_mean) rJ CX12_mean [25] (kk_mm_mean_25  n) 32 true 25 [some (.ref 24), some (.int a1), some (.double a2), none, some (.int a4), some (.int a5)] [] w = some x := h
    refine eRun_go hcx (eLnk_all lk_mm_mean) (eHc_all hc_mm_mean) rJ_ok dcX12_mean [25] _ (fun pc L st w hK => ?_) 32 true 25 _ _ w h
    unfold kk_mm_mean_25 at hK
    rcases eCut hK with ⟨hpc, hK⟩ | hK
    · subst hpc
      obtain ⟨e0, hK_1⟩ := lR_some hK
      obtain ⟨a1, e1, hK_2⟩ := lI_some hK_1
      obtain ⟨a2, e2, hK_3⟩ := lD_some hK_2
      obtain ⟨a4, e4, hK_4⟩ := lI_some hK_3
      obtain ⟨a5, e5, hK_5⟩ := lI_some hK_4
      obtain ⟨hst9, hK_6⟩ := sE_some hK_5
      subst hst9
      exact eGo.wk (ih a1 a2 a4 a5 w hK_6) (eLe_wk ⟨e0, e1, e2, e4, e5, trivial⟩)
    cases hK
set_option maxRecDepth 100000 in
set_option maxHeartbeats 4000000 in
theorem go_mm_mean (hcx : eCx p { frames := 11, cells := 0, slots := 0, locals := 252 } s m args meth c cX12_mean RX12 6 ad D cA vwCl SHm SSm (eWd yX12_mean cX12_mean 6 (some .long)) (some .long)) (a1 : Int32) (w : eW) (x : Int64 × eW) (h : f_mm_mean a1 w = some x) : eGq p l e { frames := 11, cells := 0, slots := 0, locals := 252 } s m args below meth c 6 ad D cA vwCl SHm rJ x 0 (eEnt [.ref 24, .int a1]) [] w := by
  have h : eRun SHm SSm 6 rs_mm_mean (eCs cs_mm_mean) rJ CX12_mean [25] (fun pc L st w => bif Nat.beq pc 25 then (lR L 0 24 ((lI L 1).bind fun a1 => (lD L 2).bind fun a2 => (lI L 4).bind fun a4 => (lI L 5).bind fun a5 => sE st (f_mm_mean_L25 eFu a1 a2 a4 a5 w))) else none) 16 true 0 [some (.ref 24), some (.int a1), none, none, none, none] [] w = some x := h
  refine eGo.wk (eRun_go hcx (eLnk_all lk_mm_mean) (eHc_all hc_mm_mean) rJ_ok dcX12_mean [25] _ (fun pc L st w hK => ?_) 16 true 0 _ _ w h) (eLe_wk ⟨rfl, rfl, trivial⟩)
  rcases eCut hK with ⟨hpc, hK⟩ | hK
  · subst hpc
    obtain ⟨e0, hK_1⟩ := lR_some hK
    obtain ⟨a1, e1, hK_2⟩ := lI_some hK_1
    obtain ⟨a2, e2, hK_3⟩ := lD_some hK_2
    obtain ⟨a4, e4, hK_4⟩ := lI_some hK_3
    obtain ⟨a5, e5, hK_5⟩ := lI_some hK_4
    obtain ⟨hst9, hK_6⟩ := sE_some hK_5
    subst hst9
    exact eGo.wk (go_mm_mean_L25 hcx  eFu a1 a2 a4 a5 w hK_6) (eLe_wk ⟨e0, e1, e2, e4, e5, trivial⟩)
  cases hK
end
set_option maxRecDepth 100000 in
set_option maxHeartbeats 4000000 in
theorem ok_mm_mean {l : Launch} {ad : Nat → Nat} {D : va_G} {cA : Nat → ClassId} {ρ : Type} (as : List Value) (w : eW) (k : Option Value → eW → Option ρ) (x : ρ) (h : K_mm_mean as w k = some x) : ∃ (v : Option Value) (w2 : eW), k v w2 = some x ∧ eMet l ad D cA vwCl SHm SSm yX12_mean (eWd yX12_mean cX12_mean 6 (some .long)) { frames := 11, cells := 0, slots := 0, locals := 252 } as w v w2 := by
  unfold K_mm_mean at h
  split at h
  · rename_i r0 a1
    obtain ⟨h1, h5⟩ := eBif h
    clear h
    have h := h5
    clear h5
    have h1 := Nat.eq_of_beq_eq_true h1
    subst h1
    obtain ⟨q, h2, h3⟩ := Option.bind_eq_some_iff.mp h
    exact ⟨_, _, h3, eMet_of (by decide +kernel) rfl (by simp [eCat, Value.category]) rJ_ret (fun p e s m args below meth c hcx => go_mm_mean hcx a1 w q h2)⟩
  · cases h
def CX12_bitsOfFloat : eCo := [[some (.fload_n 0), some (.fconst 0), some (.fcmp .l), some (.ifCond .ne 5), none, none, some (.iconst 0), some (.ireturn), some (.fload_n 0), some (.fstore_n 1), some (.bipush 127), none, some (.istore_n 2), some (.fload_n 1), some (.fconst 2), some (.fcmp .l)],
  [some (.ifCond .lt 13), none, none, some (.fload_n 1), some (.fconst 2), some (.fdiv), some (.fstore_n 1), some (.iinc 2 1), none, none, some (.goto (-13)), none, none, some (.fload_n 1), some (.fconst 1), some (.fcmp .g)],
  [some (.ifCond .ge 13), none, none, some (.fload_n 1), some (.fconst 2), some (.fmul), some (.fstore_n 1), some (.iinc 2 (-1)), none, none, some (.goto (-13)), none, none, some (.iload_n 2), some (.bipush 23), none],
  [some (.ishl), some (.fload_n 1), some (.fconst 1), some (.fsub), some (.ldc_w 414), none, none, some (.fmul), some (.f2i), some (.ior), some (.ireturn)]]
theorem dcX12_bitsOfFloat : eDec cX12_bitsOfFloat CX12_bitsOfFloat := eDec_of (by decide +kernel)
def rs_mm_bitsOfFloat : List (Nat × eR) := [(414, (5, 1258291200, 0, 0))]
noncomputable def cs_mm_bitsOfFloat : List (eF (Int32 × eW)) := []
noncomputable def f_mm_bitsOfFloat_L29 : Nat → UInt32 → Int32 → eW → Option (Int32 × eW)
  | 0, _, _, _ => none
  | n + 1, a1, a2, w => (if 0 ≤ (Op.cmpValue (FP.fcmp a1 FP.fconst1) CmpOp.g) then (if (FP.fsub a1 FP.fconst1) &&& 0x7fffffff ≤ 0x7f800000 then (if (FP.fmul (FP.fsub a1 FP.fconst1) (1258291200 : UInt32)) &&& 0x7fffffff ≤ 0x7f800000 then (some (((a2 <<< ((23 : Int32) &&& 31)) ||| (FP.f2i (FP.fmul (FP.fsub a1 FP.fconst1) (1258291200 : UInt32)))), w)) else none) else none) else (if (FP.fmul a1 FP.fconst2) &&& 0x7fffffff ≤ 0x7f800000 then (f_mm_bitsOfFloat_L29 n (FP.fmul a1 FP.fconst2) (a2 + (-1 : Int32)) w) else none))
noncomputable def f_mm_bitsOfFloat_L13 : Nat → UInt32 → Int32 → eW → Option (Int32 × eW)
  | 0, _, _, _ => none
  | n + 1, a1, a2, w => (if (Op.cmpValue (FP.fcmp a1 FP.fconst2) CmpOp.l) < 0 then (f_mm_bitsOfFloat_L29 eFu a1 a2 w) else (if (FP.fdiv a1 FP.fconst2) &&& 0x7fffffff ≤ 0x7f800000 then (f_mm_bitsOfFloat_L13 n (FP.fdiv a1 FP.fconst2) (a2 + (1 : Int32)) w) else none))
noncomputable def f_mm_bitsOfFloat (a0 : UInt32) (w : eW) : Option (Int32 × eW) := (if ¬ (Op.cmpValue (FP.fcmp a0 FP.fconst0) CmpOp.l) = 0 then (f_mm_bitsOfFloat_L13 eFu a0 (127 : Int32) w) else (some ((0 : Int32), w)))
noncomputable def K_mm_bitsOfFloat {ρ : Type} : eF ρ := fun as w k => match as with
  | [.float a0] => (f_mm_bitsOfFloat a0 w).bind (fun p => k (some (.int p.1)) p.2)
  | _ => none
section
variable {p : Program} {l : Launch} {e : Env} {s : State} {m : MethodId} {args : Array Value} {below : List Frame} {meth : Method} {c : Code} {ad : Nat → Nat} {D : va_G} {cA : Nat → ClassId}
theorem lk_mm_bitsOfFloat : ∀ q ∈ rs_mm_bitsOfFloat, eLnk { frames := 0, cells := 0, slots := 0, locals := 0 } vwCl (eWd yX12_bitsOfFloat cX12_bitsOfFloat 3 (some .int)) SSm SHm.length RX12 q.1 q.2 := List.forall_mem_cons.mpr ⟨lkX12_414 eTb_wd, fun _ h => absurd h List.not_mem_nil⟩
theorem hc_mm_bitsOfFloat {x : Int32 × eW} : ∀ q ∈ rs_mm_bitsOfFloat, eHc l { frames := 0, cells := 0, slots := 0, locals := 0 } ad D cA vwCl SHm SSm (eWd yX12_bitsOfFloat cX12_bitsOfFloat 3 (some .int)) RX12 cs_mm_bitsOfFloat x q := List.forall_mem_cons.mpr ⟨trivial, fun _ h => absurd h List.not_mem_nil⟩
noncomputable def kk_mm_bitsOfFloat_29 (n : Nat) : eK (Int32 × eW) := fun pc L st w => bif Nat.beq pc 29 then ((lF L 1).bind fun a1 => (lI L 2).bind fun a2 => sE st (f_mm_bitsOfFloat_L29 n a1 a2 w)) else none
set_option maxRecDepth 100000 in
set_option maxHeartbeats 4000000 in
theorem go_mm_bitsOfFloat_L29 (hcx : eCx p { frames := 0, cells := 0, slots := 0, locals := 0 } s m args meth c cX12_bitsOfFloat RX12 3 ad D cA vwCl SHm SSm (eWd yX12_bitsOfFloat cX12_bitsOfFloat 3 (some .int)) (some .int)) {x : Int32 × eW} : ∀ (n : Nat) (a1 : UInt32) (a2 : Int32) (w : eW), f_mm_bitsOfFloat_L29  n a1 a2 w = some x → eGq p l e { frames := 0, cells := 0, slots := 0, locals := 0 } s m args below meth c 3 ad D cA vwCl SHm rI x 29 [none, some (.float a1), some (.int a2)] [] w := by
  intro n
  induction n with
  | zero => intro a1 a2 w h; exact nomatch (show (none : Option (Int32 × eW)) = some x from h)
  | succ n ih =>
    intro a1 a2 w h
    have h : eRun SHm SSm 3 rs_mm_bitsOfFloat (eCs cs_mm_bitsOfFloat) rI CX12_bitsOfFloat [13, 29] (kk_mm_bitsOfFloat_29  n) 17 true 29 [none, some (.float a1), some (.int a2)] [] w = some x := h
    refine eRun_go hcx (eLnk_all lk_mm_bitsOfFloat) (eHc_all hc_mm_bitsOfFloat) rI_ok dcX12_bitsOfFloat [13, 29] _ (fun pc L st w hK => ?_) 17 true 29 _ _ w h
    unfold kk_mm_bitsOfFloat_29 at hK
    rcases eCut hK with ⟨hpc, hK⟩ | hK
    · subst hpc
      obtain ⟨a1, e1, hK_1⟩ := lF_some hK
      obtain ⟨a2, e2, hK_2⟩ := lI_some hK_1
      obtain ⟨hst9, hK_3⟩ := sE_some hK_2
      subst hst9
      exact eGo.wk (ih a1 a2 w hK_3) (eLe_wk ⟨e1, e2, trivial⟩)
    cases hK
noncomputable def kk_mm_bitsOfFloat_13 (n : Nat) : eK (Int32 × eW) := fun pc L st w => bif Nat.beq pc 29 then ((lF L 1).bind fun a1 => (lI L 2).bind fun a2 => sE st (f_mm_bitsOfFloat_L29 eFu a1 a2 w)) else (bif Nat.beq pc 13 then ((lF L 1).bind fun a1 => (lI L 2).bind fun a2 => sE st (f_mm_bitsOfFloat_L13 n a1 a2 w)) else none)
set_option maxRecDepth 100000 in
set_option maxHeartbeats 4000000 in
theorem go_mm_bitsOfFloat_L13 (hcx : eCx p { frames := 0, cells := 0, slots := 0, locals := 0 } s m args meth c cX12_bitsOfFloat RX12 3 ad D cA vwCl SHm SSm (eWd yX12_bitsOfFloat cX12_bitsOfFloat 3 (some .int)) (some .int)) {x : Int32 × eW} : ∀ (n : Nat) (a1 : UInt32) (a2 : Int32) (w : eW), f_mm_bitsOfFloat_L13  n a1 a2 w = some x → eGq p l e { frames := 0, cells := 0, slots := 0, locals := 0 } s m args below meth c 3 ad D cA vwCl SHm rI x 13 [none, some (.float a1), some (.int a2)] [] w := by
  intro n
  induction n with
  | zero => intro a1 a2 w h; exact nomatch (show (none : Option (Int32 × eW)) = some x from h)
  | succ n ih =>
    intro a1 a2 w h
    have h : eRun SHm SSm 3 rs_mm_bitsOfFloat (eCs cs_mm_bitsOfFloat) rI CX12_bitsOfFloat [13, 29] (kk_mm_bitsOfFloat_13  n) 13 true 13 [none, some (.float a1), some (.int a2)] [] w = some x := h
    refine eRun_go hcx (eLnk_all lk_mm_bitsOfFloat) (eHc_all hc_mm_bitsOfFloat) rI_ok dcX12_bitsOfFloat [13, 29] _ (fun pc L st w hK => ?_) 13 true 13 _ _ w h
    unfold kk_mm_bitsOfFloat_13 at hK
    rcases eCut hK with ⟨hpc, hK⟩ | hK
    · subst hpc
      obtain ⟨a1, e1, hK_1⟩ := lF_some hK
      obtain ⟨a2, e2, hK_2⟩ := lI_some hK_1
      obtain ⟨hst9, hK_3⟩ := sE_some hK_2
      subst hst9
      exact eGo.wk (go_mm_bitsOfFloat_L29 hcx  eFu a1 a2 w hK_3) (eLe_wk ⟨e1, e2, trivial⟩)
    rcases eCut hK with ⟨hpc, hK⟩ | hK
    · subst hpc
      obtain ⟨a1, e1, hK_1⟩ := lF_some hK
      obtain ⟨a2, e2, hK_2⟩ := lI_some hK_1
      obtain ⟨hst9, hK_3⟩ := sE_some hK_2
      subst hst9
      exact eGo.wk (ih a1 a2 w hK_3) (eLe_wk ⟨e1, e2, trivial⟩)
    cases hK
set_option maxRecDepth 100000 in
set_option maxHeartbeats 4000000 in
theorem go_mm_bitsOfFloat (hcx : eCx p { frames := 0, cells := 0, slots := 0, locals := 0 } s m args meth c cX12_bitsOfFloat RX12 3 ad D cA vwCl SHm SSm (eWd yX12_bitsOfFloat cX12_bitsOfFloat 3 (some .int)) (some .int)) (a0 : UInt32) (w : eW) (x : Int32 × eW) (h : f_mm_bitsOfFloat a0 w = some x) : eGq p l e { frames := 0, cells := 0, slots := 0, locals := 0 } s m args below meth c 3 ad D cA vwCl SHm rI x 0 (eEnt [.float a0]) [] w := by
  have h : eRun SHm SSm 3 rs_mm_bitsOfFloat (eCs cs_mm_bitsOfFloat) rI CX12_bitsOfFloat [13, 29] (fun pc L st w => bif Nat.beq pc 13 then ((lF L 1).bind fun a1 => (lI L 2).bind fun a2 => sE st (f_mm_bitsOfFloat_L13 eFu a1 a2 w)) else none) 11 true 0 [some (.float a0), none, none] [] w = some x := h
  refine eGo.wk (eRun_go hcx (eLnk_all lk_mm_bitsOfFloat) (eHc_all hc_mm_bitsOfFloat) rI_ok dcX12_bitsOfFloat [13, 29] _ (fun pc L st w hK => ?_) 11 true 0 _ _ w h) (eLe_wk ⟨rfl, trivial⟩)
  rcases eCut hK with ⟨hpc, hK⟩ | hK
  · subst hpc
    obtain ⟨a1, e1, hK_1⟩ := lF_some hK
    obtain ⟨a2, e2, hK_2⟩ := lI_some hK_1
    obtain ⟨hst9, hK_3⟩ := sE_some hK_2
    subst hst9
    exact eGo.wk (go_mm_bitsOfFloat_L13 hcx  eFu a1 a2 w hK_3) (eLe_wk ⟨e1, e2, trivial⟩)
  cases hK
end
set_option maxRecDepth 100000 in
set_option maxHeartbeats 4000000 in
theorem ok_mm_bitsOfFloat {l : Launch} {ad : Nat → Nat} {D : va_G} {cA : Nat → ClassId} {ρ : Type} (as : List Value) (w : eW) (k : Option Value → eW → Option ρ) (x : ρ) (h : K_mm_bitsOfFloat as w k = some x) : ∃ (v : Option Value) (w2 : eW), k v w2 = some x ∧ eMet l ad D cA vwCl SHm SSm yX12_bitsOfFloat (eWd yX12_bitsOfFloat cX12_bitsOfFloat 3 (some .int)) { frames := 0, cells := 0, slots := 0, locals := 0 } as w v w2 := by
  unfold K_mm_bitsOfFloat at h
  split at h
  · rename_i a0
    obtain ⟨q, h2, h3⟩ := Option.bind_eq_some_iff.mp h
    exact ⟨_, _, h3, eMet_of (by decide +kernel) rfl (by simp [eCat, Value.category]) rI_ret (fun p e s m args below meth c hcx => go_mm_bitsOfFloat hcx a0 w q h2)⟩
  · cases h
