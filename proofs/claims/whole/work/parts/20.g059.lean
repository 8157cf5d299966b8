def CX12_multiple : eCo := [[some (.aload_n 0), some (.iconst 0), some (.putfield 95), none, none, some (.aload_n 0), some (.iload_n 1), some (.invokevirtual 110), none, none, some (.ifCond .eq 10), none, none, some (.iload_n 2), some (.invokestatic 318), none],
  [none, some (.ifCond .ne 6), none, none, some (.bipush (-2)), none, some (.ireturn), some (.aload_n 0), some (.iload_n 2), some (.invokevirtual 323), none, none, some (.aload_n 0), some (.iload_n 1), some (.iconst 0), some (.invokevirtual 326)],
  [none, none, some (.l2f), some (.aload_n 0), some (.iload_n 1), some (.iconst 1), some (.invokevirtual 326), none, none, some (.l2f), some (.fdiv), some (.fstore_n 3), some (.fload_n 3), some (.aload_n 0), some (.getfield 16), none],
  [none, some (.iload_n 1), some (.iaload), some (.aload_n 0), some (.getfield 13), none, none, some (.iload_n 1), some (.iaload), some (.imul), some (.bipush 100), none, some (.imul), some (.i2f), some (.fdiv), some (.invokestatic 423)],
  [none, none, some (.ireturn)]]
theorem dcX12_multiple : eDec cX12_multiple CX12_multiple := eDec_of (by decide +kernel)
def rs_mm_multiple : List (Nat × eR) := [(13, (0, 11, 6, 2)), (16, (0, 11, 7, 2)), (95, (0, 11, 0, 0)), (110, (1, 0, 1, 11)), (318, (1, 1, 1, -1)), (323, (1, 2, 1, 11)), (326, (1, 3, 2, 11)), (423, (1, 4, 1, -1))]
noncomputable def cs_mm_multiple : List (eF (Int32 × eW)) := [K_mm_isClass, K_mm_isAmount, K_mm_layBy, K_mm_lowest, K_mm_bitsOfFloat]
noncomputable def f_mm_multiple (a1 : Int32) (a2 : Int32) (w : eW) : Option (Int32 × eW) := ((f_mm_isClass a1 (eU1 w 24 0 (0 : Int32))).bind fun p1 => (if p1.1 = 0 then (some ((-2 : Int32), p1.2)) else ((f_mm_isAmount a2 p1.2).bind fun p2 => (if ¬ p2.1 = 0 then ((f_mm_layBy a2 p2.2).bind fun w3 => ((f_mm_lowest a1 (0 : Int32) w3).bind fun p4 => ((f_mm_lowest a1 (1 : Int32) p4.2).bind fun p5 => (if (FP.fdiv (FP.l2f p4.1) (FP.l2f p5.1)) &&& 0x7fffffff ≤ 0x7f800000 then (eChk a1 24 (eChk a1 24 (if (FP.fdiv (FP.fdiv (FP.l2f p4.1) (FP.l2f p5.1)) (FP.i2f (((p5.2.1 2 (Int32.toNatClampNeg a1)) * (p5.2.1 1 (Int32.toNatClampNeg a1))) * (100 : Int32)))) &&& 0x7fffffff ≤ 0x7f800000 then ((f_mm_bitsOfFloat (FP.fdiv (FP.fdiv (FP.l2f p4.1) (FP.l2f p5.1)) (FP.i2f (((p5.2.1 2 (Int32.toNatClampNeg a1)) * (p5.2.1 1 (Int32.toNatClampNeg a1))) * (100 : Int32)))) p5.2).bind fun p6 => (some (p6.1, p6.2))) else none))) else none)))) else (some ((-2 : Int32), p2.2))))))
noncomputable def K_mm_multiple {ρ : Type} : eF ρ := fun as w k => match as with
  | [.ref r0, .int a1, .int a2] => bif Nat.beq r0 24 then (f_mm_multiple a1 a2 w).bind (fun p => k (some (.int p.1)) p.2) else none
  | _ => none
section
variable {p : Program} {l : Launch} {e : Env} {s : State} {m : MethodId} {args : Array Value} {below : List Frame} {meth : Method} {c : Code} {ad : Nat → Nat} {D : va_G} {cA : Nat → ClassId}
theorem lk_mm_multiple : ∀ q ∈ rs_mm_multiple, eLnk { frames := 10, cells := 0, slots := 0, locals := 230 } vwCl (eWd yX12_multiple cX12_multiple 4 (some .int)) SSm SHm.length RX12 q.1 q.2 := List.forall_mem_cons.mpr ⟨lkX12_13 eTb_wd, List.forall_mem_cons.mpr ⟨lkX12_16 eTb_wd, List.forall_mem_cons.mpr ⟨lkX12_95 eTb_wd, List.forall_mem_cons.mpr ⟨trivial, List.forall_mem_cons.mpr ⟨trivial, List.forall_mem_cons.mpr ⟨trivial, List.forall_mem_cons.mpr ⟨trivial, List.forall_mem_cons.mpr ⟨trivial, fun _ h => absurd h List.not_mem_nil⟩⟩⟩⟩⟩⟩⟩⟩
theorem hc_mm_multiple {x : Int32 × eW} : ∀ q ∈ rs_mm_multiple, eHc l { frames := 10, cells := 0, slots := 0, locals := 230 } ad D cA vwCl SHm SSm (eWd yX12_multiple cX12_multiple 4 (some .int)) RX12 cs_mm_multiple x q := List.forall_mem_cons.mpr ⟨trivial, List.forall_mem_cons.mpr ⟨trivial, List.forall_mem_cons.mpr ⟨trivial, List.forall_mem_cons.mpr ⟨(fun as w k h => let ⟨v, w2, h1, h2⟩ := ok_mm_isClass as w k x h; ⟨v, w2, h1, eCal_of h2 ⟨rfl, rfl⟩ hdX12_isClass (gvX12_110 eTb_wd)⟩), List.forall_mem_cons.mpr ⟨(fun as w k h => let ⟨v, w2, h1, h2⟩ := ok_mm_isAmount as w k x h; ⟨v, w2, h1, eCal_of h2 ⟨rfl, rfl⟩ hdX12_isAmount (gvX12_318 eTb_wd)⟩), List.forall_mem_cons.mpr ⟨(fun as w k h => let ⟨v, w2, h1, h2⟩ := ok_mm_layBy as w k x h; ⟨v, w2, h1, eCal_of h2 ⟨rfl, rfl⟩ hdX12_layBy (gvX12_323 eTb_wd)⟩), List.forall_mem_cons.mpr ⟨(fun as w k h => let ⟨v, w2, h1, h2⟩ := ok_mm_lowest as w k x h; ⟨v, w2, h1, eCal_of h2 ⟨rfl, rfl⟩ hdX12_lowest (gvX12_326 eTb_wd)⟩), List.forall_mem_cons.mpr ⟨(fun as w k h => let ⟨v, w2, h1, h2⟩ := ok_mm_bitsOfFloat as w k x h; ⟨v, w2, h1, eCal_of h2 ⟨rfl, rfl⟩ hdX12_bitsOfFloat (gvX12_423 eTb_wd)⟩), fun _ h => absurd h List.not_mem_nil⟩⟩⟩⟩⟩⟩⟩⟩
set_option maxRecDepth 100000 in
set_option maxHeartbeats 4000000 in
theorem go_mm_multiple (hcx : eCx p { frames := 10, cells := 0, slots := 0, locals := 230 } s m args meth c cX12_multiple RX12 4 ad D cA vwCl SHm SSm (eWd yX12_multiple cX12_multiple 4 (some .int)) (some .int)) (a1 : Int32) (a2 : Int32) (w : eW) (x : Int32 × eW) (h : f_mm_multiple a1 a2 w = some x) : eGq p l e { frames := 10, cells := 0, slots := 0, locals := 230 } s m args below meth c 4 ad D cA vwCl SHm rI x 0 (eEnt [.ref 24, .int a1, .int a2]) [] w := by
  have h : eRun SHm SSm 4 rs_mm_multiple (eCs cs_mm_multiple) rI CX12_multiple [] (fun pc L st w => none) 43 true 0 [some (.ref 24), some (.int a1), some (.int a2), none] [] w = some x := h
  refine eGo.wk (eRun_go hcx (eLnk_all lk_mm_multiple) (eHc_all hc_mm_multiple) rI_ok dcX12_multiple [] _ (fun pc L st w hK => ?_) 43 true 0 _ _ w h) (eLe_wk ⟨rfl, rfl, rfl, trivial⟩)
  cases hK
end
set_option maxRecDepth 100000 in
set_option maxHeartbeats 4000000 in
theorem ok_mm_multiple {l : Launch} {ad : Nat → Nat} {D : va_G} {cA : Nat → ClassId} {ρ : Type} (as : List Value) (w : eW) (k : Option Value → eW → Option ρ) (x : ρ) (h : K_mm_multiple as w k = some x) : ∃ (v : Option Value) (w2 : eW), k v w2 = some x ∧ eMet l ad D cA vwCl SHm SSm yX12_multiple (eWd yX12_multiple cX12_multiple 4 (some .int)) { frames := 10, cells := 0, slots := 0, locals := 230 } as w v w2 := by
  unfold K_mm_multiple at h
  split at h
  · rename_i r0 a1 a2
    obtain ⟨h1, h5⟩ := eBif h
    clear h
    have h := h5
    clear h5
    have h1 := Nat.eq_of_beq_eq_true h1
    subst h1
    obtain ⟨q, h2, h3⟩ := Option.bind_eq_some_iff.mp h
    exact ⟨_, _, h3, eMet_of (by decide +kernel) rfl (by simp [eCat, Value.category]) rI_ret (fun p e s m args below meth c hcx => go_mm_multiple hcx a1 a2 w q h2)⟩
  · cases h
def CX12_yields : eCo := [[some (.aload_n 0), some (.iconst 0), some (.putfield 95), none, none, some (.aload_n 0), some (.iload_n 1), some (.invokevirtual 110), none, none, some (.ifCond .eq 20), none, none, some (.iload_n 2), some (.invokestatic 318), none],
  [none, some (.ifCond .eq 13), none, none, some (.iload_n 3), some (.iconst 1), some (.bipush 20), none, some (.invokestatic 101), none, none, some (.ifCond .ne 6), none, none, some (.bipush (-2)), none],
  [some (.ireturn), some (.aload_n 0), some (.iload_n 1), some (.iload_n 2), some (.invokevirtual 415), none, none, some (.dstore 4), none, some (.iconst (-1)), some (.istore 6), none, some (.iconst 0), some (.istore 7), none, some (.iload 7)],
  [none, some (.sipush 999), none, none, some (.if_icmp .gt 74), none, none, some (.aload_n 0), some (.getfield 16), none, none, some (.iload_n 1), some (.iaload), some (.aload_n 0), some (.getfield 13), none],
  [none, some (.iload_n 1), some (.iaload), some (.imul), some (.bipush 100), none, some (.imul), some (.i2d), some (.dstore 8), none, some (.iconst 0), some (.istore 10), none, some (.iload 10), none, some (.iload_n 3)],
  [some (.if_icmp .ge 23), none, none, some (.dload 8), none, some (.dconst 1), some (.iload 7), none, some (.i2d), some (.ldc2_w 427), none, none, some (.ddiv), some (.dadd), some (.dmul), some (.dstore 8)],
  [none, some (.iinc 10 1), none, none, some (.goto (-23)), none, none, some (.dload 8), none, some (.dload 4), none, some (.dcmp .g), some (.ifCond .gt 8), none, none, some (.iload 7)],
  [none, some (.goto 5), none, none, some (.iload 6), none, some (.istore 6), none, some (.iinc 7 1), none, none, some (.goto (-76)), none, none, some (.iload 6), none],
  [some (.ireturn)]]
theorem dcX12_yields : eDec cX12_yields CX12_yields := eDec_of (by decide +kernel)
def rs_mm_yields : List (Nat × eR) := [(13, (0, 11, 6, 2)), (16, (0, 11, 7, 2)), (95, (0, 11, 0, 0)), (101, (1, 2, 3, -1)), (110, (1, 0, 1, 11)), (318, (1, 1, 1, -1)), (415, (1, 3, 2, 11)), (427, (4, 4636737291354636288, 0, 0))]
noncomputable def cs_mm_yields : List (eF (Int32 × eW)) := [K_mm_isClass, K_mm_isAmount, K_mm_in, K_mm_hasDouble]
noncomputable def f_mm_yields_L77 (k47 : Int32 → Int32 → UInt64 → Int32 → Int32 → eW → Option (Int32 × eW)) : Nat → Int32 → Int32 → UInt64 → Int32 → Int32 → UInt64 → Int32 → eW → Option (Int32 × eW)
  | 0, _, _, _, _, _, _, _, _ => none
  | n + 1, a1, a3, a4, a6, a7, a8, a10, w => (if a3 ≤ a10 then (if 0 < (Op.cmpValue (FP.dcmp a8 a4) CmpOp.g) then (k47 a1 a3 a4 a6 (a7 + (1 : Int32)) w) else (k47 a1 a3 a4 a7 (a7 + (1 : Int32)) w)) else (if (FP.ddiv (FP.i2d a7) (4636737291354636288 : UInt64)) &&& 0x7fffffffffffffff ≤ 0x7ff0000000000000 then (if (FP.dadd FP.dconst1 (FP.ddiv (FP.i2d a7) (4636737291354636288 : UInt64))) &&& 0x7fffffffffffffff ≤ 0x7ff0000000000000 then (if (FP.dmul a8 (FP.dadd FP.dconst1 (FP.ddiv (FP.i2d a7) (4636737291354636288 : UInt64)))) &&& 0x7fffffffffffffff ≤ 0x7ff0000000000000 then (f_mm_yields_L77 k47 n a1 a3 a4 a6 a7 (FP.dmul a8 (FP.dadd FP.dconst1 (FP.ddiv (FP.i2d a7) (4636737291354636288 : UInt64)))) (a10 + (1 : Int32)) w) else none) else none) else none))
noncomputable def f_mm_yields_L47 : Nat → Int32 → Int32 → UInt64 → Int32 → Int32 → eW → Option (Int32 × eW)
  | 0, _, _, _, _, _, _ => none
  | n + 1, a1, a3, a4, a6, a7, w => (if (999 : Int32) < a7 then (some (a6, w)) else (eChk a1 24 (eChk a1 24 (f_mm_yields_L77 (f_mm_yields_L47 n) eFu a1 a3 a4 a6 a7 (FP.i2d (((w.1 2 (Int32.toNatClampNeg a1)) * (w.1 1 (Int32.toNatClampNeg a1))) * (100 : Int32))) (0 : Int32) w))))
noncomputable def f_mm_yields (a1 : Int32) (a2 : Int32) (a3 : Int32) (w : eW) : Option (Int32 × eW) := ((f_mm_isClass a1 (eU1 w 24 0 (0 : Int32))).bind fun p1 => (if p1.1 = 0 then (some ((-2 : Int32), p1.2)) else ((f_mm_isAmount a2 p1.2).bind fun p2 => (if p2.1 = 0 then (some ((-2 : Int32), p2.2)) else ((f_mm_in a3 (1 : Int32) (20 : Int32) p2.2).bind fun p3 => (if ¬ p3.1 = 0 then ((f_mm_hasDouble a1 a2 p3.2).bind fun p4 => (f_mm_yields_L47 eFu a1 a3 p4.1 (-1 : Int32) (0 : Int32) p4.2)) else (some ((-2 : Int32), p3.2))))))))
noncomputable def K_mm_yields {ρ : Type} : eF ρ := fun as w k => match as with
  | [.ref r0, .int a1, .int a2, .int a3] => bif Nat.beq r0 24 then (f_mm_yields a1 a2 a3 w).bind (fun p => k (some (.int p.1)) p.2) else none
  | _ => none
section
variable {p : Program} {l : Launch} {e : Env} {s : State} {m : MethodId} {args : Array Value} {below : List Frame} {meth : Method} {c : Code} {ad : Nat → Nat} {D : va_G} {cA : Nat → ClassId}
theorem lk_mm_yields : ∀ q ∈ rs_mm_yields, eLnk { frames := 11, cells := 0, slots := 0, locals := 252 } vwCl (eWd yX12_yields cX12_yields 11 (some .int)) SSm SHm.length RX12 q.1 q.2 := List.forall_mem_cons.mpr ⟨lkX12_13 eTb_wd, List.forall_mem_cons.mpr ⟨lkX12_16 eTb_wd, List.forall_mem_cons.mpr ⟨lkX12_95 eTb_wd, List.forall_mem_cons.mpr ⟨trivial, List.forall_mem_cons.mpr ⟨trivial, List.forall_mem_cons.mpr ⟨trivial, List.forall_mem_cons.mpr ⟨trivial, List.forall_mem_cons.mpr ⟨lkX12_427 eTb_wd, fun _ h => absurd h List.not_mem_nil⟩⟩⟩⟩⟩⟩⟩⟩
theorem hc_mm_yields {x : Int32 × eW} : ∀ q ∈ rs_mm_yields, eHc l { frames := 11, cells := 0, slots := 0, locals := 252 } ad D cA vwCl SHm SSm (eWd yX12_yields cX12_yields 11 (some .int)) RX12 cs_mm_yields x q := List.forall_mem_cons.mpr ⟨trivial, List.forall_mem_cons.mpr ⟨trivial, List.forall_mem_cons.mpr ⟨trivial, List.forall_mem_cons.mpr ⟨(fun as w k h => let ⟨v, w2, h1, h2⟩ := ok_mm_in as w k x h; ⟨v, w2, h1, eCal_of h2 ⟨rfl, rfl⟩ hdX12_in (gvX12_101 eTb_wd)⟩), List.forall_mem_cons.mpr ⟨(fun as w k h => let ⟨v, w2, h1, h2⟩ := ok_mm_isClass as w k x h; ⟨v, w2, h1, eCal_of h2 ⟨rfl, rfl⟩ hdX12_isClass (gvX12_110 eTb_wd)⟩), List.forall_mem_cons.mpr ⟨(fun as w k h => let ⟨v, w2, h1, h2⟩ := ok_mm_isAmount as w k x h; ⟨v, w2, h1, eCal_of h2 ⟨rfl, rfl⟩ hdX12_isAmount (gvX12_318 eTb_wd)⟩), List.forall_mem_cons.mpr ⟨(fun as w k h => let ⟨v, w2, h1, h2⟩ := ok_mm_hasDouble as w k x h; ⟨v, w2, h1, eCal_of h2 ⟨rfl, rfl⟩ hdX12_hasDouble (gvX12_415 eTb_wd)⟩), List.forall_mem_cons.mpr ⟨trivial, fun _ h => absurd h List.not_mem_nil⟩⟩⟩⟩⟩⟩⟩⟩
noncomputable def kk_mm_yields_77 (k47 : Int32 → Int32 → UInt64 → Int32 → Int32 → eW → Option (Int32 × eW)) (n : Nat) : eK (Int32 × eW) := fun pc L st w => bif Nat.beq pc 47 then (lR L 0 24 ((lI L 1).bind fun a1 => (lI L 3).bind fun a3 => (lD L 4).bind fun a4 => (lI L 6).bind fun a6 => (lI L 7).bind fun a7 => sE st (k47 a1 a3 a4 a6 a7 w))) else (bif Nat.beq pc 77 then (lR L 0 24 ((lI L 1).bind fun a1 => (lI L 3).bind fun a3 => (lD L 4).bind fun a4 => (lI L 6).bind fun a6 => (lI L 7).bind fun a7 => (lD L 8).bind fun a8 => (lI L 10).bind fun a10 => sE st (f_mm_yields_L77 k47 n a1 a3 a4 a6 a7 a8 a10 w))) else none)
set_option maxRecDepth 100000 in
set_option maxHeartbeats 4000000 in
theorem go_mm_yields_L77 (hcx : eCx p { frames := 11, cells := 0, slots := 0, locals := 252 } s m args meth c cX12_yields RX12 11 ad D cA vwCl SHm SSm (eWd yX12_yields cX12_yields 11 (some .int)) (some .int)) {x : Int32 × eW} (k47 : Int32 → Int32 → UInt64 → Int32 → Int32 → eW → Option (Int32 × eW)) (hk47 : ∀ (a1 : Int32) (a3 : Int32) (a4 : UInt64) (a6 : Int32) (a7 : Int32) (w : eW), k47 a1 a3 a4 a6 a7 w = some x → eGq p l e { frames := 11, cells := 0, slots := 0, locals := 252 } s m args below meth c 11 ad D cA vwCl SHm rI x 47 [some (.ref 24), some (.int a1), none, some (.int a3), some (.double a4), none, some (.int a6), some (.int a7), none, none, none] [] w) : ∀ (n : Nat) (a1 : Int32) (a3 : Int32) (a4 : UInt64) (a6 : Int32) (a7 : Int32) (a8 : UInt64) (a10 : Int32) (w : eW), f_mm_yields_L77 k47 n a1 a3 a4 a6 a7 a8 a10 w = some x → eGq p l e { frames := 11, cells := 0, slots := 0, locals := 252 } s m args below meth c 11 ad D cA vwCl SHm rI x 77 [some (.ref 24), some (.int a1), none, some (.int a3), some (.double a4), none, some (.int a6), some (.int a7), some (.double a8), none, some (.int a10)] [] w := by
  intro n
  induction n with
  | zero => intro a1 a3 a4 a6 a7 a8 a10 w h; exact nomatch (show (none : Option (Int32 × eW)) = some x from h)
  | succ n ih =>
    intro a1 a3 a4 a6 a7 a8 a10 w h
    have h : eRun SHm SSm 11 rs_mm_yields (eCs cs_mm_yields) rI CX12_yields [47, 77] (kk_mm_yields_77 k47 n) 17 true 77 [some (.ref 24), some (.int a1), none, some (.int a3), some (.double a4), none, some (.int a6), some (.int a7), some (.double a8), none, some (.int a10)] [] w = some x := h
    refine eRun_go hcx (eLnk_all lk_mm_yields) (eHc_all hc_mm_yields) rI_ok dcX12_yields [47, 77] _ (fun pc L st w hK => ?_) 17 true 77 _ _ w h
    unfold kk_mm_yields_77 at hK
    rcases eCut hK with ⟨hpc, hK⟩ | hK
    · subst hpc
      obtain ⟨e0, hK_1⟩ := lR_some hK
      obtain ⟨a1, e1, hK_2⟩ := lI_some hK_1
      obtain ⟨a3, e3, hK_3⟩ := lI_some hK_2
      obtain ⟨a4, e4, hK_4⟩ := lD_some hK_3
      obtain ⟨a6, e6, hK_5⟩ := lI_some hK_4
      obtain ⟨a7, e7, hK_6⟩ := lI_some hK_5
      obtain ⟨hst9, hK_7⟩ := sE_some hK_6
      subst hst9
      exact eGo.wk (hk47 a1 a3 a4 a6 a7 w hK_7) (eLe_wk ⟨e0, e1, e3, e4, e6, e7, trivial⟩)
    rcases eCut hK with ⟨hpc, hK⟩ | hK
    · subst hpc
      obtain ⟨e0, hK_1⟩ := lR_some hK
      obtain ⟨a1, e1, hK_2⟩ := lI_some hK_1
      obtain ⟨a3, e3, hK_3⟩ := lI_some hK_2
      obtain ⟨a4, e4, hK_4⟩ := lD_some hK_3
      obtain ⟨a6, e6, hK_5⟩ := lI_some hK_4
      obtain ⟨a7, e7, hK_6⟩ := lI_some hK_5
      obtain ⟨a8, e8, hK_7⟩ := lD_some hK_6
      obtain ⟨a10, e10, hK_8⟩ := lI_some hK_7
      obtain ⟨hst9, hK_9⟩ := sE_some hK_8
      subst hst9
      exact eGo.wk (ih a1 a3 a4 a6 a7 a8 a10 w hK_9) (eLe_wk ⟨e0, e1, e3, e4, e6, e7, e8, e10, trivial⟩)
    cases hK
noncomputable def kk_mm_yields_47 (n : Nat) : eK (Int32 × eW) := fun pc L st w => bif Nat.beq pc 77 then (lR L 0 24 ((lI L 1).bind fun a1 => (lI L 3).bind fun a3 => (lD L 4).bind fun a4 => (lI L 6).bind fun a6 => (lI L 7).bind fun a7 => (lD L 8).bind fun a8 => (lI L 10).bind fun a10 => sE st (f_mm_yields_L77 (f_mm_yields_L47 n) eFu a1 a3 a4 a6 a7 a8 a10 w))) else none
set_option maxRecDepth 100000 in
set_option maxHeartbeats 4000000 in
theorem go_mm_yields_L47 (hcx : eCx p { frames := 11, cells := 0, slots := 0, locals := 252 } s m args meth c cX12_yields RX12 11 ad D cA vwCl SHm SSm (eWd yX12_yields cX12_yields 11 (some .int)) (some .int)) {x : Int32 × eW} : ∀ (n : Nat) (a1 : Int32) (a3 : Int32) (a4 : UInt64) (a6 : Int32) (a7 : Int32) (w : eW), f_mm_yields_L47  n a1 a3 a4 a6 a7 w = some x → eGq p l e { frames := 11, cells := 0, slots := 0, locals := 252 } s m args below meth c 11 ad D cA vwCl SHm rI x 47 [some (.ref 24), some (.int a1), none, some (.int a3), some (.double a4), none, some (.int a6), some (.int a7), none, none, none] [] w := by
  intro n
  induction n with
  | zero => intro a1 a3 a4 a6 a7 w h; exact nomatch (show (none : Option (Int32 × eW)) = some x from h)
  | succ n ih =>
    intro a1 a3 a4 a6 a7 w h
    have h : eRun SHm SSm 11 rs_mm_yields (eCs cs_mm_yields) rI CX12_yields [47, 77] (kk_mm_yields_47  n) 21 true 47 [some (.ref 24), some (.int a1), none, some (.int a3), some (.double a4), none, some (.int a6), some (.int a7), none, none, none] [] w = some x := h
    refine eRun_go hcx (eLnk_all lk_mm_yields) (eHc_all hc_mm_yields) rI_ok dcX12_yields [47, 77] _ (fun pc L st w hK => ?_) 21 true 47 _ _ w h
    unfold kk_mm_yields_47 at hK
    rcases eCut hK with ⟨hpc, hK⟩ | hK
    · subst hpc
      obtain ⟨e0, hK_1⟩ := lR_some hK
      obtain ⟨a1, e1, hK_2⟩ := lI_some hK_1
      obtain ⟨a3, e3, hK_3⟩ := lI_some hK_2
      obtain ⟨a4, e4, hK_4⟩ := lD_some hK_3
      obtain ⟨a6, e6, hK_5⟩ := lI_some hK_4
      obtain ⟨a7, e7, hK_6⟩ := lI_some hK_5
      obtain ⟨a8, e8, hK_7⟩ := lD_some hK_6
      obtain ⟨a10, e10, hK_8⟩ := lI_some hK_7
      obtain ⟨hst9, hK_9⟩ := sE_some hK_8
      subst hst9
      exact eGo.wk (go_mm_yields_L77 hcx (f_mm_yields_L47 n) ih eFu a1 a3 a4 a6 a7 a8 a10 w hK_9) (eLe_wk ⟨e0, e1, e3, e4, e6, e7, e8, e10, trivial⟩)
    cases hK
set_option maxRecDepth 100000 in
set_option maxHeartbeats 4000000 in
theorem go_mm_yields (hcx : eCx p { frames := 11, cells := 0, slots := 0, locals := 252 } s m args meth c cX12_yields RX12 11 ad D cA vwCl SHm SSm (eWd yX12_yields cX12_yields 11 (some .int)) (some .int)) (a1 : Int32) (a2 : Int32) (a3 : Int32) (w : eW) (x : Int32 × eW) (h : f_mm_yields a1 a2 a3 w = some x) : eGq p l e { frames := 11, cells := 0, slots := 0, locals := 252 } s m args below meth c 11 ad D cA vwCl SHm rI x 0 (eEnt [.ref 24, .int a1, .int a2, .int a3]) [] w := by
  have h : eRun SHm SSm 11 rs_mm_yields (eCs cs_mm_yields) rI CX12_yields [47, 77] (fun pc L st w => bif Nat.beq pc 47 then (lR L 0 24 ((lI L 1).bind fun a1 => (lI L 3).bind fun a3 => (lD L 4).bind fun a4 => (lI L 6).bind fun a6 => (lI L 7).bind fun a7 => sE st (f_mm_yields_L47 eFu a1 a3 a4 a6 a7 w))) else none) 27 true 0 [some (.ref 24), some (.int a1), some (.int a2), some (.int a3), none, none, none, none, none, none, none] [] w = some x := h
  refine eGo.wk (eRun_go hcx (eLnk_all lk_mm_yields) (eHc_all hc_mm_yields) rI_ok dcX12_yields [47, 77] _ (fun pc L st w hK => ?_) 27 true 0 _ _ w h) (eLe_wk ⟨rfl, rfl, rfl, rfl, trivial⟩)
  rcases eCut hK with ⟨hpc, hK⟩ | hK
  · subst hpc
    obtain ⟨e0, hK_1⟩ := lR_some hK
    obtain ⟨a1, e1, hK_2⟩ := lI_some hK_1
    obtain ⟨a3, e3, hK_3⟩ := lI_some hK_2
    obtain ⟨a4, e4, hK_4⟩ := lD_some hK_3
    obtain ⟨a6, e6, hK_5⟩ := lI_some hK_4
    obtain ⟨a7, e7, hK_6⟩ := lI_some hK_5
    obtain ⟨hst9, hK_7⟩ := sE_some hK_6
    subst hst9
    exact eGo.wk (go_mm_yields_L47 hcx  eFu a1 a3 a4 a6 a7 w hK_7) (eLe_wk ⟨e0, e1, e3, e4, e6, e7, trivial⟩)
  cases hK
end
set_option maxRecDepth 100000 in
set_option maxHeartbeats 4000000 in
theorem ok_mm_yields {l : Launch} {ad : Nat → Nat} {D : va_G} {cA : Nat → ClassId} {ρ : Type} (as : List Value) (w : eW) (k : Option Value → eW → Option ρ) (x : ρ) (h : K_mm_yields as w k = some x) : ∃ (v : Option Value) (w2 : eW), k v w2 = some x ∧ eMet l ad D cA vwCl SHm SSm yX12_yields (eWd yX12_yields cX12_yields 11 (some .int)) { frames := 11, cells := 0, slots := 0, locals := 252 } as w v w2 := by
  unfold K_mm_yields at h
  split at h
  · rename_i r0 a1 a2 a3
    obtain ⟨h1, h5⟩ := eBif h
    clear h
    have h := h5
    clear h5
    have h1 := Nat.eq_of_beq_eq_true h1
    subst h1
    obtain ⟨q, h2, h3⟩ := Option.bind_eq_some_iff.mp h
    exact ⟨_, _, h3, eMet_of (by decide +kernel) rfl (by simp [eCat, Value.category]) rI_ret (fun p e s m args below meth c hcx => go_mm_yields hcx a1 a2 a3 w q h2)⟩
  · cases h
def CX12_grant : eCo := [[some (.aload_n 0), some (.iconst 0), some (.putfield 95), none, none, some (.aload_n 0), some (.iload_n 1), some (.invokevirtual 105), none, none, some (.ifCond .eq 28), none, none, some (.iload_n 2), some (.iconst 1), some (.sipush 9999)],
  [none, none, some (.invokestatic 101), none, none, some (.ifCond .eq 17), none, none, some (.aload_n 0), some (.getfield 13), none, none, some (.iload_n 1), some (.iaload), some (.iload_n 2), some (.iadd)],
  [some (.sipush 9999), none, none, some (.if_icmp .le 5), none, none, some (.iconst (-1)), some (.ireturn), some (.aload_n 0), some (.invokevirtual 405), none, none, some (.aload_n 0), some (.getfield 13), none, none],
  [some (.iload_n 1), some (.dup2), some (.iaload), some (.iload_n 2), some (.iadd), some (.iastore), some (.aload_n 0), some (.getfield 13), none, none, some (.iload_n 1), some (.iaload), some (.ireturn)]]
theorem dcX12_grant : eDec cX12_grant CX12_grant := eDec_of (by decide +kernel)
def rs_mm_grant : List (Nat × eR) := [(13, (0, 11, 6, 2)), (95, (0, 11, 0, 0)), (101, (1, 1, 3, -1)), (105, (1, 0, 1, 11)), (405, (1, 2, 0, 11))]
noncomputable def cs_mm_grant : List (eF (Int32 × eW)) := [K_mm_isHolder, K_mm_in, K_mm_keep]
noncomputable def f_mm_grant (a1 : Int32) (a2 : Int32) (w : eW) : Option (Int32 × eW) := ((f_mm_isHolder a1 (eU1 w 24 0 (0 : Int32))).bind fun p1 => (if p1.1 = 0 then (some ((-1 : Int32), p1.2)) else ((f_mm_in a2 (1 : Int32) (9999 : Int32) p1.2).bind fun p2 => (if p2.1 = 0 then (some ((-1 : Int32), p2.2)) else (eChk a1 24 (if ((p2.2.1 1 (Int32.toNatClampNeg a1)) + a2) ≤ (9999 : Int32) then ((f_mm_keep p2.2).bind fun w3 => (eChk a1 24 (eChk a1 24 (eChk a1 24 (some (((eU1 w3 1 (Int32.toNatClampNeg a1) ((w3.1 1 (Int32.toNatClampNeg a1)) + a2)).1 1 (Int32.toNatClampNeg a1)), (eU1 w3 1 (Int32.toNatClampNeg a1) ((w3.1 1 (Int32.toNatClampNeg a1)) + a2)))))))) else (some ((-1 : Int32), p2.2))))))))
noncomputable def K_mm_grant {ρ : Type} : eF ρ := fun as w k => match as with
  | [.ref r0, .int a1, .int a2] => bif Nat.beq r0 24 then (f_mm_grant a1 a2 w).bind (fun p => k (some (.int p.1)) p.2) else none
  | _ => none
section
variable {p : Program} {l : Launch} {e : Env} {s : State} {m : MethodId} {args : Array Value} {below : List Frame} {meth : Method} {c : Code} {ad : Nat → Nat} {D : va_G} {cA : Nat → ClassId}
theorem lk_mm_grant : ∀ q ∈ rs_mm_grant, eLnk { frames := 2, cells := 0, slots := 0, locals := 43 } vwCl (eWd yX12_grant cX12_grant 3 (some .int)) SSm SHm.length RX12 q.1 q.2 := List.forall_mem_cons.mpr ⟨lkX12_13 eTb_wd, List.forall_mem_cons.mpr ⟨lkX12_95 eTb_wd, List.forall_mem_cons.mpr ⟨trivial, List.forall_mem_cons.mpr ⟨trivial, List.forall_mem_cons.mpr ⟨trivial, fun _ h => absurd h List.not_mem_nil⟩⟩⟩⟩⟩
theorem hc_mm_grant {x : Int32 × eW} : ∀ q ∈ rs_mm_grant, eHc l { frames := 2, cells := 0, slots := 0, locals := 43 } ad D cA vwCl SHm SSm (eWd yX12_grant cX12_grant 3 (some .int)) RX12 cs_mm_grant x q := List.forall_mem_cons.mpr ⟨trivial, List.forall_mem_cons.mpr ⟨trivial, List.forall_mem_cons.mpr ⟨(fun as w k h => let ⟨v, w2, h1, h2⟩ := ok_mm_in as w k x h; ⟨v, w2, h1, eCal_of h2 ⟨rfl, rfl⟩ hdX12_in (gvX12_101 eTb_wd)⟩), List.forall_mem_cons.mpr ⟨(fun as w k h => let ⟨v, w2, h1, h2⟩ := ok_mm_isHolder as w k x h; ⟨v, w2, h1, eCal_of h2 ⟨rfl, rfl⟩ hdX12_isHolder (gvX12_105 eTb_wd)⟩), List.forall_mem_cons.mpr ⟨(fun as w k h => let ⟨v, w2, h1, h2⟩ := ok_mm_keep as w k x h; ⟨v, w2, h1, eCal_of h2 ⟨rfl, rfl⟩ hdX12_keep (gvX12_405 eTb_wd)⟩), fun _ h => absurd h List.not_mem_nil⟩⟩⟩⟩⟩
set_option maxRecDepth 100000 in
set_option maxHeartbeats 4000000 in
theorem go_mm_grant (hcx : eCx p { frames := 2, cells := 0, slots := 0, locals := 43 } s m args meth c cX12_grant RX12 3 ad D cA vwCl SHm SSm (eWd yX12_grant cX12_grant 3 (some .int)) (some .int)) (a1 : Int32) (a2 : Int32) (w : eW) (x : Int32 × eW) (h : f_mm_grant a1 a2 w = some x) : eGq p l e { frames := 2, cells := 0, slots := 0, locals := 43 } s m args below meth c 3 ad D cA vwCl SHm rI x 0 (eEnt [.ref 24, .int a1, .int a2]) [] w := by
  have h : eRun SHm SSm 3 rs_mm_grant (eCs cs_mm_grant) rI CX12_grant [] (fun pc L st w => none) 37 true 0 [some (.ref 24), some (.int a1), some (.int a2)] [] w = some x := h
  refine eGo.wk (eRun_go hcx (eLnk_all lk_mm_grant) (eHc_all hc_mm_grant) rI_ok dcX12_grant [] _ (fun pc L st w hK => ?_) 37 true 0 _ _ w h) (eLe_wk ⟨rfl, rfl, rfl, trivial⟩)
  cases hK
end
set_option maxRecDepth 100000 in
set_option maxHeartbeats 4000000 in
theorem ok_mm_grant {l : Launch} {ad : Nat → Nat} {D : va_G} {cA : Nat → ClassId} {ρ : Type} (as : List Value) (w : eW) (k : Option Value → eW → Option ρ) (x : ρ) (h : K_mm_grant as w k = some x) : ∃ (v : Option Value) (w2 : eW), k v w2 = some x ∧ eMet l ad D cA vwCl SHm SSm yX12_grant (eWd yX12_grant cX12_grant 3 (some .int)) { frames := 2, cells := 0, slots := 0, locals := 43 } as w v w2 := by
  unfold K_mm_grant at h
  split at h
  · rename_i r0 a1 a2
    obtain ⟨h1, h5⟩ := eBif h
    clear h
    have h := h5
    clear h5
    have h1 := Nat.eq_of_beq_eq_true h1
    subst h1
    obtain ⟨q, h2, h3⟩ := Option.bind_eq_some_iff.mp h
    exact ⟨_, _, h3, eMet_of (by decide +kernel) rfl (by simp [eCat, Value.category]) rI_ret (fun p e s m args below meth c hcx => go_mm_grant hcx a1 a2 w q h2)⟩
  · cases h
