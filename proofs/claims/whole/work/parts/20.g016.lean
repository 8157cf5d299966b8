def CX11_has : eCo := [[some (.aload_n 0), some (.iload_n 1), some (.iload_n 2), some (.invokevirtual 129), none, none, some (.ifCond .eq 10), none, none, some (.iload_n 3), some (.invokestatic 133), none, none, some (.ifCond .ne 7), none, none],
  [some (.ldc2_w 136), none, none, some (.lreturn), some (.aload_n 0), some (.iload_n 2), some (.invokevirtual 138), none, none, some (.aload_n 0), some (.getfield 35), none, none, some (.iload_n 1), some (.invokevirtual 141), none],
  [none, some (.aload_n 0), some (.getfield 35), none, none, some (.getfield 145), none, none, some (.iload_n 3), some (.invokestatic 149), none, none, some (.lreturn)]]
theorem dcX11_has : eDec cX11_has CX11_has := eDec_of (by decide +kernel)
def rs_xx_has : List (Nat × eR) := [(35, (0, 10, 3, 2)), (129, (1, 0, 2, 10)), (133, (1, 1, 1, -1)), (136, (3, 0, 0, -2)), (138, (1, 2, 1, 10)), (141, (1, 3, 1, 3)), (145, (0, 3, 5, 1)), (149, (1, 4, 3, -1))]
noncomputable def cs_xx_has : List (eF (Int64 × eW)) := [K_xx_isAsked, K_xx_isAboveOrBelow, K_xx_pour, K_fa_aboveOf, K_nu_lowest]
noncomputable def f_xx_has (a1 : Int32) (a2 : Int32) (a3 : Int32) (w : eW) : Option (Int64 × eW) := ((f_xx_isAsked a1 a2 w).bind fun p1 => (if p1.1 = 0 then (some ((-2 : Int64), p1.2)) else ((f_xx_isAboveOrBelow a3 p1.2).bind fun p2 => (if ¬ p2.1 = 0 then ((f_xx_pour a2 p2.2).bind fun w3 => ((f_fa_aboveOf a1 w3).bind fun p4 => ((f_nu_lowest p4.1 (p4.2.2 24 5) a3 p4.2).bind fun p5 => (some (p5.1, p5.2))))) else (some ((-2 : Int64), p2.2))))))
noncomputable def K_xx_has {ρ : Type} : eF ρ := fun as w k => match as with
  | [.ref r0, .int a1, .int a2, .int a3] => bif Nat.beq r0 38 then (f_xx_has a1 a2 a3 w).bind (fun p => k (some (.long p.1)) p.2) else none
  | _ => none
section
variable {p : Program} {l : Launch} {e : Env} {s : State} {m : MethodId} {args : Array Value} {below : List Frame} {meth : Method} {c : Code} {ad : Nat → Nat} {D : va_G} {cA : Nat → ClassId}
theorem lk_xx_has : ∀ q ∈ rs_xx_has, eLnk { frames := 5, cells := 0, slots := 0, locals := 159 } vwCl (eWd yX11_has cX11_has 4 (some .long)) SSc SHc.length RX11 q.1 q.2 := List.forall_mem_cons.mpr ⟨lkX11_35 eTb_wd, List.forall_mem_cons.mpr ⟨trivial, List.forall_mem_cons.mpr ⟨trivial, List.forall_mem_cons.mpr ⟨lkX11_136 eTb_wd, List.forall_mem_cons.mpr ⟨trivial, List.forall_mem_cons.mpr ⟨trivial, List.forall_mem_cons.mpr ⟨lkX11_145 eTb_wd, List.forall_mem_cons.mpr ⟨trivial, fun _ h => absurd h List.not_mem_nil⟩⟩⟩⟩⟩⟩⟩⟩
theorem hc_xx_has {x : Int64 × eW} : ∀ q ∈ rs_xx_has, eHc l { frames := 5, cells := 0, slots := 0, locals := 159 } ad D cA vwCl SHc SSc (eWd yX11_has cX11_has 4 (some .long)) RX11 cs_xx_has x q := List.forall_mem_cons.mpr ⟨trivial, List.forall_mem_cons.mpr ⟨(fun as w k h => let ⟨v, w2, h1, h2⟩ := ok_xx_isAsked as w k x h; ⟨v, w2, h1, eCal_of h2 ⟨rfl, rfl⟩ hdX11_isAsked (gvX11_129 eTb_wd)⟩), List.forall_mem_cons.mpr ⟨(fun as w k h => let ⟨v, w2, h1, h2⟩ := ok_xx_isAboveOrBelow as w k x h; ⟨v, w2, h1, eCal_of h2 ⟨rfl, rfl⟩ hdX11_isAboveOrBelow (gvX11_133 eTb_wd)⟩), List.forall_mem_cons.mpr ⟨trivial, List.forall_mem_cons.mpr ⟨(fun as w k h => let ⟨v, w2, h1, h2⟩ := ok_xx_pour as w k x h; ⟨v, w2, h1, eCal_of h2 ⟨rfl, rfl⟩ hdX11_pour (gvX11_138 eTb_wd)⟩), List.forall_mem_cons.mpr ⟨(fun as w k h => let ⟨v, w2, h1, h2⟩ := ok_fa_aboveOf as w k x h; ⟨v, w2, h1, eCal_of h2 ⟨rfl, rfl⟩ hdX3_aboveOf (gvX11_141 eTb_wd)⟩), List.forall_mem_cons.mpr ⟨trivial, List.forall_mem_cons.mpr ⟨(fun as w k h => let ⟨v, w2, h1, h2⟩ := ok_nu_lowest as w k x h; ⟨v, w2, h1, eCal_of h2 ⟨rfl, rfl⟩ hdX7_lowest (gvX11_149 eTb_wd)⟩), fun _ h => absurd h List.not_mem_nil⟩⟩⟩⟩⟩⟩⟩⟩
set_option maxRecDepth 100000 in
set_option maxHeartbeats 4000000 in
theorem go_xx_has (hcx : eCx p { frames := 5, cells := 0, slots := 0, locals := 159 } s m args meth c cX11_has RX11 4 ad D cA vwCl SHc SSc (eWd yX11_has cX11_has 4 (some .long)) (some .long)) (a1 : Int32) (a2 : Int32) (a3 : Int32) (w : eW) (x : Int64 × eW) (h : f_xx_has a1 a2 a3 w = some x) : eGq p l e { frames := 5, cells := 0, slots := 0, locals := 159 } s m args below meth c 4 ad D cA vwCl SHc rJ x 0 (eEnt [.ref 38, .int a1, .int a2, .int a3]) [] w := by
  have h : eRun SHc SSc 4 rs_xx_has (eCs cs_xx_has) rJ CX11_has [] (fun pc L st w => none) 23 true 0 [some (.ref 38), some (.int a1), some (.int a2), some (.int a3)] [] w = some x := h
  refine eGo.wk (eRun_go hcx (eLnk_all lk_xx_has) (eHc_all hc_xx_has) rJ_ok dcX11_has [] _ (fun pc L st w hK => ?_) 23 true 0 _ _ w h) (eLe_wk ⟨rfl, rfl, rfl, rfl, trivial⟩)
  cases hK
end
set_option maxRecDepth 100000 in
set_option maxHeartbeats 4000000 in
theorem ok_xx_has {l : Launch} {ad : Nat → Nat} {D : va_G} {cA : Nat → ClassId} {ρ : Type} (as : List Value) (w : eW) (k : Option Value → eW → Option ρ) (x : ρ) (h : K_xx_has as w k = some x) : ∃ (v : Option Value) (w2 : eW), k v w2 = some x ∧ eMet l ad D cA vwCl SHc SSc yX11_has (eWd yX11_has cX11_has 4 (some .long)) { frames := 5, cells := 0, slots := 0, locals := 159 } as w v w2 := by
  unfold K_xx_has at h
  split at h
  · rename_i r0 a1 a2 a3
    obtain ⟨h1, h5⟩ := eBif h
    clear h
    have h := h5
    clear h5
    have h1 := Nat.eq_of_beq_eq_true h1
    subst h1
    obtain ⟨q, h2, h3⟩ := Option.bind_eq_some_iff.mp h
    exact ⟨_, _, h3, eMet_of (by decide +kernel) rfl (by simp [eCat, Value.category]) rJ_ret (fun p e s m args below meth c hcx => go_xx_has hcx a1 a2 a3 w q h2)⟩
  · cases h
def CX3_stateOf : eCo := [[some (.aload_n 0), some (.iload_n 2), some (.invokevirtual 128), none, none, some (.lconst 0), some (.lcmp), some (.ifCond .ne 5), none, none, some (.iconst 0), some (.ireturn), some (.aload_n 1), some (.iload_n 2), some (.invokevirtual 58), none],
  [none, some (.ifCond .ne 5), none, none, some (.iconst 4), some (.ireturn), some (.aload_n 0), some (.getfield 94), none, none, some (.lconst 0), some (.lcmp), some (.ifCond .ne 5), none, none, some (.iconst 1)],
  [some (.ireturn), some (.aload_n 1), some (.iload_n 2), some (.invokevirtual 80), none, none, some (.ifCond .ne 5), none, none, some (.iconst 2), some (.ireturn), some (.aload_n 0), some (.getfield 33), none, none, some (.ldc2_w 70)],
  [none, none, some (.lmul), some (.lstore_n 3), some (.aload_n 0), some (.getfield 94), none, none, some (.aload_n 1), some (.iload_n 2), some (.iconst 5), some (.invokevirtual 54), none, none, some (.i2l), some (.lmul)],
  [some (.lstore 5), none, some (.aload_n 1), some (.iload_n 2), some (.invokevirtual 83), none, none, some (.istore 7), none, some (.iload 7), none, some (.i2l), some (.lload_n 3), some (.lmul), some (.lstore 8), none],
  [some (.aload_n 1), some (.iload_n 2), some (.iload 7), none, some (.invokevirtual 91), none, none, some (.i2l), some (.lload_n 3), some (.lmul), some (.lstore 10), none, some (.lload 5), none, some (.lload 10), none],
  [some (.lcmp), some (.ifCond .le 5), none, none, some (.iconst 4), some (.ireturn), some (.lload 10), none, some (.lload 8), none, some (.lcmp), some (.ifCond .ne 5), none, none, some (.iconst 1), some (.ireturn)],
  [some (.lload 8), none, some (.lload 5), none, some (.ladd), some (.lload 10), none, some (.lcmp), some (.ifCond .lt 7), none, none, some (.iconst 3), some (.goto 4), none, none, some (.iconst 2)],
  [some (.ireturn)]]
theorem dcX3_stateOf : eDec cX3_stateOf CX3_stateOf := eDec_of (by decide +kernel)
def rs_fa_stateOf : List (Nat × eR) := [(33, (0, 3, 7, 1)), (54, (1, 3, 2, 4)), (58, (1, 1, 1, 4)), (70, (3, 0, 0, 100)), (80, (1, 2, 1, 4)), (83, (1, 4, 1, 4)), (91, (1, 5, 2, 4)), (94, (0, 3, 6, 1)), (128, (1, 0, 1, 3))]
noncomputable def cs_fa_stateOf : List (eF (Int32 × eW)) := [K_fa_aboveOf, K_fi_isClass, K_fi_canTurn, K_fi_fact, K_fi_prefOf, K_fi_lidOf]
noncomputable def f_fa_stateOf (a2 : Int32) (w : eW) : Option (Int32 × eW) := ((f_fa_aboveOf a2 w).bind fun p1 => (if ¬ (lg_cmp p1.1 (0 : Int64)) = 0 then ((f_fi_isClass a2 p1.2).bind fun p2 => (if ¬ p2.1 = 0 then (if ¬ (lg_cmp (p2.2.2 24 6) (0 : Int64)) = 0 then ((f_fi_canTurn a2 p2.2).bind fun p3 => (if ¬ p3.1 = 0 then ((f_fi_fact a2 (5 : Int32) p3.2).bind fun p4 => ((f_fi_prefOf a2 p4.2).bind fun p5 => ((f_fi_lidOf a2 p5.1 p5.2).bind fun p6 => (if (lg_cmp ((p3.2.2 24 6) * ((p4.1).toInt64)) (((p6.1).toInt64) * ((p3.2.2 24 7) * (100 : Int64)))) ≤ 0 then (if ¬ (lg_cmp (((p6.1).toInt64) * ((p3.2.2 24 7) * (100 : Int64))) (((p5.1).toInt64) * ((p3.2.2 24 7) * (100 : Int64)))) = 0 then (if (lg_cmp ((((p5.1).toInt64) * ((p3.2.2 24 7) * (100 : Int64))) + ((p3.2.2 24 6) * ((p4.1).toInt64))) (((p6.1).toInt64) * ((p3.2.2 24 7) * (100 : Int64)))) < 0 then (some ((2 : Int32), p6.2)) else (some ((3 : Int32), p6.2))) else (some ((1 : Int32), p6.2))) else (some ((4 : Int32), p6.2)))))) else (some ((2 : Int32), p3.2)))) else (some ((1 : Int32), p2.2))) else (some ((4 : Int32), p2.2)))) else (some ((0 : Int32), p1.2))))
noncomputable def K_fa_stateOf {ρ : Type} : eF ρ := fun as w k => match as with
  | [.ref r0, .ref r1, .int a2] => bif Nat.beq r0 24 then (bif Nat.beq r1 8 then (f_fa_stateOf a2 w).bind (fun p => k (some (.int p.1)) p.2) else none) else none
  | _ => none
section
variable {p : Program} {l : Launch} {e : Env} {s : State} {m : MethodId} {args : Array Value} {below : List Frame} {meth : Method} {c : Code} {ad : Nat → Nat} {D : va_G} {cA : Nat → ClassId}
theorem lk_fa_stateOf : ∀ q ∈ rs_fa_stateOf, eLnk { frames := 2, cells := 0, slots := 0, locals := 82 } vwCl (eWd yX3_stateOf cX3_stateOf 12 (some .int)) SSc SHc.length RX3 q.1 q.2 := List.forall_mem_cons.mpr ⟨lkX3_33 eTb_wd, List.forall_mem_cons.mpr ⟨trivial, List.forall_mem_cons.mpr ⟨trivial, List.forall_mem_cons.mpr ⟨lkX3_70 eTb_wd, List.forall_mem_cons.mpr ⟨trivial, List.forall_mem_cons.mpr ⟨trivial, List.forall_mem_cons.mpr ⟨trivial, List.forall_mem_cons.mpr ⟨lkX3_94 eTb_wd, List.forall_mem_cons.mpr ⟨trivial, fun _ h => absurd h List.not_mem_nil⟩⟩⟩⟩⟩⟩⟩⟩⟩
theorem hc_fa_stateOf {x : Int32 × eW} : ∀ q ∈ rs_fa_stateOf, eHc l { frames := 2, cells := 0, slots := 0, locals := 82 } ad D cA vwCl SHc SSc (eWd yX3_stateOf cX3_stateOf 12 (some .int)) RX3 cs_fa_stateOf x q := List.forall_mem_cons.mpr ⟨trivial, List.forall_mem_cons.mpr ⟨(fun as w k h => let ⟨v, w2, h1, h2⟩ := ok_fi_fact as w k x h; ⟨v, w2, h1, eCal_of h2 ⟨rfl, rfl⟩ hdX4_fact (gvX3_54 eTb_wd)⟩), List.forall_mem_cons.mpr ⟨(fun as w k h => let ⟨v, w2, h1, h2⟩ := ok_fi_isClass as w k x h; ⟨v, w2, h1, eCal_of h2 ⟨rfl, rfl⟩ hdX4_isClass (gvX3_58 eTb_wd)⟩), List.forall_mem_cons.mpr ⟨trivial, List.forall_mem_cons.mpr ⟨(fun as w k h => let ⟨v, w2, h1, h2⟩ := ok_fi_canTurn as w k x h; ⟨v, w2, h1, eCal_of h2 ⟨rfl, rfl⟩ hdX4_canTurn (gvX3_80 eTb_wd)⟩), List.forall_mem_cons.mpr ⟨(fun as w k h => let ⟨v, w2, h1, h2⟩ := ok_fi_prefOf as w k x h; ⟨v, w2, h1, eCal_of h2 ⟨rfl, rfl⟩ hdX4_prefOf (gvX3_83 eTb_wd)⟩), List.forall_mem_cons.mpr ⟨(fun as w k h => let ⟨v, w2, h1, h2⟩ := ok_fi_lidOf as w k x h; ⟨v, w2, h1, eCal_of h2 ⟨rfl, rfl⟩ hdX4_lidOf (gvX3_91 eTb_wd)⟩), List.forall_mem_cons.mpr ⟨trivial, List.forall_mem_cons.mpr ⟨(fun as w k h => let ⟨v, w2, h1, h2⟩ := ok_fa_aboveOf as w k x h; ⟨v, w2, h1, eCal_of h2 ⟨rfl, rfl⟩ hdX3_aboveOf (gvX3_128 eTb_wd)⟩), fun _ h => absurd h List.not_mem_nil⟩⟩⟩⟩⟩⟩⟩⟩⟩
set_option maxRecDepth 100000 in
set_option maxHeartbeats 4000000 in
theorem go_fa_stateOf (hcx : eCx p { frames := 2, cells := 0, slots := 0, locals := 82 } s m args meth c cX3_stateOf RX3 12 ad D cA vwCl SHc SSc (eWd yX3_stateOf cX3_stateOf 12 (some .int)) (some .int)) (a2 : Int32) (w : eW) (x : Int32 × eW) (h : f_fa_stateOf a2 w = some x) : eGq p l e { frames := 2, cells := 0, slots := 0, locals := 82 } s m args below meth c 12 ad D cA vwCl SHc rI x 0 (eEnt [.ref 24, .ref 8, .int a2]) [] w := by
  have h : eRun SHc SSc 12 rs_fa_stateOf (eCs cs_fa_stateOf) rI CX3_stateOf [] (fun pc L st w => none) 69 true 0 [some (.ref 24), some (.ref 8), some (.int a2), none, none, none, none, none, none, none, none, none] [] w = some x := h
  refine eGo.wk (eRun_go hcx (eLnk_all lk_fa_stateOf) (eHc_all hc_fa_stateOf) rI_ok dcX3_stateOf [] _ (fun pc L st w hK => ?_) 69 true 0 _ _ w h) (eLe_wk ⟨rfl, rfl, rfl, trivial⟩)
  cases hK
end
set_option maxRecDepth 100000 in
set_option maxHeartbeats 4000000 in
theorem ok_fa_stateOf {l : Launch} {ad : Nat → Nat} {D : va_G} {cA : Nat → ClassId} {ρ : Type} (as : List Value) (w : eW) (k : Option Value → eW → Option ρ) (x : ρ) (h : K_fa_stateOf as w k = some x) : ∃ (v : Option Value) (w2 : eW), k v w2 = some x ∧ eMet l ad D cA vwCl SHc SSc yX3_stateOf (eWd yX3_stateOf cX3_stateOf 12 (some .int)) { frames := 2, cells := 0, slots := 0, locals := 82 } as w v w2 := by
  unfold K_fa_stateOf at h
  split at h
  · rename_i r0 r1 a2
    obtain ⟨h1, h5⟩ := eBif h
    clear h
    have h := h5
    clear h5
    have h1 := Nat.eq_of_beq_eq_true h1
    subst h1
    obtain ⟨h1, h5⟩ := eBif h
    clear h
    have h := h5
    clear h5
    have h1 := Nat.eq_of_beq_eq_true h1
    subst h1
    obtain ⟨q, h2, h3⟩ := Option.bind_eq_some_iff.mp h
    exact ⟨_, _, h3, eMet_of (by decide +kernel) rfl (by simp [eCat, Value.category]) rI_ret (fun p e s m args below meth c hcx => go_fa_stateOf hcx a2 w q h2)⟩
  · cases h
def CX11_state : eCo := [[some (.aload_n 0), some (.iload_n 1), some (.iload_n 2), some (.invokevirtual 129), none, none, some (.ifCond .ne 6), none, none, some (.bipush (-2)), none, some (.ireturn), some (.aload_n 0), some (.iload_n 2), some (.invokevirtual 138), none],
  [none, some (.aload_n 0), some (.getfield 35), none, none, some (.aload_n 0), some (.getfield 28), none, none, some (.iload_n 1), some (.invokevirtual 155), none, none, some (.ireturn)]]
theorem dcX11_state : eDec cX11_state CX11_state := eDec_of (by decide +kernel)
def rs_xx_state : List (Nat × eR) := [(28, (0, 10, 2, 2)), (35, (0, 10, 3, 2)), (129, (1, 0, 2, 10)), (138, (1, 1, 1, 10)), (155, (1, 2, 2, 3))]
noncomputable def cs_xx_state : List (eF (Int32 × eW)) := [K_xx_isAsked, K_xx_pour, K_fa_stateOf]
noncomputable def f_xx_state (a1 : Int32) (a2 : Int32) (w : eW) : Option (Int32 × eW) := ((f_xx_isAsked a1 a2 w).bind fun p1 => (if ¬ p1.1 = 0 then ((f_xx_pour a2 p1.2).bind fun w2 => ((f_fa_stateOf a1 w2).bind fun p3 => (some (p3.1, p3.2)))) else (some ((-2 : Int32), p1.2))))
noncomputable def K_xx_state {ρ : Type} : eF ρ := fun as w k => match as with
  | [.ref r0, .int a1, .int a2] => bif Nat.beq r0 38 then (f_xx_state a1 a2 w).bind (fun p => k (some (.int p.1)) p.2) else none
  | _ => none
section
variable {p : Program} {l : Launch} {e : Env} {s : State} {m : MethodId} {args : Array Value} {below : List Frame} {meth : Method} {c : Code} {ad : Nat → Nat} {D : va_G} {cA : Nat → ClassId}
theorem lk_xx_state : ∀ q ∈ rs_xx_state, eLnk { frames := 5, cells := 0, slots := 0, locals := 159 } vwCl (eWd yX11_state cX11_state 3 (some .int)) SSc SHc.length RX11 q.1 q.2 := List.forall_mem_cons.mpr ⟨lkX11_28 eTb_wd, List.forall_mem_cons.mpr ⟨lkX11_35 eTb_wd, List.forall_mem_cons.mpr ⟨trivial, List.forall_mem_cons.mpr ⟨trivial, List.forall_mem_cons.mpr ⟨trivial, fun _ h => absurd h List.not_mem_nil⟩⟩⟩⟩⟩
theorem hc_xx_state {x : Int32 × eW} : ∀ q ∈ rs_xx_state, eHc l { frames := 5, cells := 0, slots := 0, locals := 159 } ad D cA vwCl SHc SSc (eWd yX11_state cX11_state 3 (some .int)) RX11 cs_xx_state x q := List.forall_mem_cons.mpr ⟨trivial, List.forall_mem_cons.mpr ⟨trivial, List.forall_mem_cons.mpr ⟨(fun as w k h => let ⟨v, w2, h1, h2⟩ := ok_xx_isAsked as w k x h; ⟨v, w2, h1, eCal_of h2 ⟨rfl, rfl⟩ hdX11_isAsked (gvX11_129 eTb_wd)⟩), List.forall_mem_cons.mpr ⟨(fun as w k h => let ⟨v, w2, h1, h2⟩ := ok_xx_pour as w k x h; ⟨v, w2, h1, eCal_of h2 ⟨rfl, rfl⟩ hdX11_pour (gvX11_138 eTb_wd)⟩), List.forall_mem_cons.mpr ⟨(fun as w k h => let ⟨v, w2, h1, h2⟩ := ok_fa_stateOf as w k x h; ⟨v, w2, h1, eCal_of h2 ⟨rfl, rfl⟩ hdX3_stateOf (gvX11_155 eTb_wd)⟩), fun _ h => absurd h List.not_mem_nil⟩⟩⟩⟩⟩
set_option maxRecDepth 100000 in
set_option maxHeartbeats 4000000 in
theorem go_xx_state (hcx : eCx p { frames := 5, cells := 0, slots := 0, locals := 159 } s m args meth c cX11_state RX11 3 ad D cA vwCl SHc SSc (eWd yX11_state cX11_state 3 (some .int)) (some .int)) (a1 : Int32) (a2 : Int32) (w : eW) (x : Int32 × eW) (h : f_xx_state a1 a2 w = some x) : eGq p l e { frames := 5, cells := 0, slots := 0, locals := 159 } s m args below meth c 3 ad D cA vwCl SHc rI x 0 (eEnt [.ref 38, .int a1, .int a2]) [] w := by
  have h : eRun SHc SSc 3 rs_xx_state (eCs cs_xx_state) rI CX11_state [] (fun pc L st w => none) 17 true 0 [some (.ref 38), some (.int a1), some (.int a2)] [] w = some x := h
  refine eGo.wk (eRun_go hcx (eLnk_all lk_xx_state) (eHc_all hc_xx_state) rI_ok dcX11_state [] _ (fun pc L st w hK => ?_) 17 true 0 _ _ w h) (eLe_wk ⟨rfl, rfl, rfl, trivial⟩)
  cases hK
end
set_option maxRecDepth 100000 in
set_option maxHeartbeats 4000000 in
theorem ok_xx_state {l : Launch} {ad : Nat → Nat} {D : va_G} {cA : Nat → ClassId} {ρ : Type} (as : List Value) (w : eW) (k : Option Value → eW → Option ρ) (x : ρ) (h : K_xx_state as w k = some x) : ∃ (v : Option Value) (w2 : eW), k v w2 = some x ∧ eMet l ad D cA vwCl SHc SSc yX11_state (eWd yX11_state cX11_state 3 (some .int)) { frames := 5, cells := 0, slots := 0, locals := 159 } as w v w2 := by
  unfold K_xx_state at h
  split at h
  · rename_i r0 a1 a2
    obtain ⟨h1, h5⟩ := eBif h
    clear h
    have h := h5
    clear h5
    have h1 := Nat.eq_of_beq_eq_true h1
    subst h1
    obtain ⟨q, h2, h3⟩ := Option.bind_eq_some_iff.mp h
    exact ⟨_, _, h3, eMet_of (by decide +kernel) rfl (by simp [eCat, Value.category]) rI_ret (fun p e s m args below meth c hcx => go_xx_state hcx a1 a2 w q h2)⟩
  · cases h
def CX3_unitsOf : eCo := [[some (.aload_n 0), some (.getfield 29), none, none, some (.ldc2_w 70), none, none, some (.lmul), some (.lstore_n 3), some (.lload_n 3), some (.lconst 0), some (.lcmp), some (.ifCond .gt 5), none, none, some (.iconst 0)],
  [some (.ireturn), some (.aload_n 0), some (.iload_n 1), some (.invokevirtual 128), none, none, some (.lload_n 3), some (.lrem), some (.lstore 5), none, some (.iload_n 2), some (.i2l), some (.lstore 7), none, some (.iconst 0), some (.istore 9)],
  [none, some (.iconst 0), some (.istore 10), none, some (.iload 10), none, some (.aload_n 0), some (.getfield 12), none, none, some (.getfield 108), none, none, some (.if_icmp .ge 66), none, none],
  [some (.aload_n 0), some (.getfield 26), none, none, some (.iload 10), none, some (.laload), some (.lload_n 3), some (.lrem), some (.lstore 11), none, some (.lload 7), none, some (.aload_n 0), some (.getfield 26), none],
  [none, some (.iload 10), none, some (.laload), some (.lload_n 3), some (.ldiv), some (.lsub), some (.lstore 7), none, some (.iload 9), none, some (.lload 11), none, some (.lload 5), none, some (.lcmp)],
  [some (.ifCond .gt 17), none, none, some (.lload 11), none, some (.lload 5), none, some (.lcmp), some (.ifCond .ne 13), none, none, some (.iload 10), none, some (.iload_n 1), some (.if_icmp .ge 7), none],
  [none, some (.iconst 1), some (.goto 4), none, none, some (.iconst 0), some (.iadd), some (.istore 9), none, some (.iinc 10 1), none, none, some (.goto (-72)), none, none, some (.aload_n 0)],
  [some (.iload_n 1), some (.invokevirtual 128), none, none, some (.lload_n 3), some (.ldiv), some (.l2i), some (.iload 9), none, some (.i2l), some (.lload 7), none, some (.lcmp), some (.ifCond .ge 7), none, none],
  [some (.iconst 1), some (.goto 4), none, none, some (.iconst 0), some (.iadd), some (.ireturn)]]
theorem dcX3_unitsOf : eDec cX3_unitsOf CX3_unitsOf := eDec_of (by decide +kernel)
def rs_fa_unitsOf : List (Nat × eR) := [(12, (0, 3, 0, 2)), (26, (0, 3, 4, 2)), (29, (0, 3, 5, 1)), (70, (3, 0, 0, 100)), (108, (0, 2, 0, 0)), (128, (1, 0, 1, 3))]
noncomputable def cs_fa_unitsOf : List (eF (Int32 × eW)) := [K_fa_aboveOf]
noncomputable def f_fa_unitsOf_L36 : Nat → Int32 → Int64 → Int64 → Int64 → Int32 → Int32 → eW → Option (Int32 × eW)
  | 0, _, _, _, _, _, _, _ => none
  | n + 1, a1, a3, a5, a7, a9, a10, w => (if (w.1 19 0) ≤ a10 then ((f_fa_aboveOf a1 w).bind fun p2 => (if a3 = 0 then none else (if 0 ≤ (lg_cmp ((a9).toInt64) a7) then (some (((((p2.1 / a3)).toInt32) + (0 : Int32)), p2.2)) else (some (((((p2.1 / a3)).toInt32) + (1 : Int32)), p2.2))))) else (eChk a10 12 (if a3 = 0 then none else (eChk a10 12 (if a3 = 0 then none else (if 0 < (lg_cmp ((w.2 22 (Int32.toNatClampNeg a10)) - (w.2 22 (Int32.toNatClampNeg a10)) / a3 * a3) a5) then (f_fa_unitsOf_L36 n a1 a3 a5 (a7 - ((w.2 22 (Int32.toNatClampNeg a10)) / a3)) (a9 + (1 : Int32)) (a10 + (1 : Int32)) w) else (if ¬ (lg_cmp ((w.2 22 (Int32.toNatClampNeg a10)) - (w.2 22 (Int32.toNatClampNeg a10)) / a3 * a3) a5) = 0 then (f_fa_unitsOf_L36 n a1 a3 a5 (a7 - ((w.2 22 (Int32.toNatClampNeg a10)) / a3)) (a9 + (0 : Int32)) (a10 + (1 : Int32)) w) else (if a1 ≤ a10 then (f_fa_unitsOf_L36 n a1 a3 a5 (a7 - ((w.2 22 (Int32.toNatClampNeg a10)) / a3)) (a9 + (0 : Int32)) (a10 + (1 : Int32)) w) else (f_fa_unitsOf_L36 n a1 a3 a5 (a7 - ((w.2 22 (Int32.toNatClampNeg a10)) / a3)) (a9 + (1 : Int32)) (a10 + (1 : Int32)) w)))))))))
noncomputable def f_fa_unitsOf (a1 : Int32) (a2 : Int32) (w : eW) : Option (Int32 × eW) := (if 0 < (lg_cmp ((w.2 24 5) * (100 : Int64)) (0 : Int64)) then ((f_fa_aboveOf a1 w).bind fun p1 => (if ((w.2 24 5) * (100 : Int64)) = 0 then none else (f_fa_unitsOf_L36 eFu a1 ((w.2 24 5) * (100 : Int64)) (p1.1 - p1.1 / ((w.2 24 5) * (100 : Int64)) * ((w.2 24 5) * (100 : Int64))) ((a2).toInt64) (0 : Int32) (0 : Int32) p1.2))) else (some ((0 : Int32), w)))
noncomputable def K_fa_unitsOf {ρ : Type} : eF ρ := fun as w k => match as with
  | [.ref r0, .int a1, .int a2] => bif Nat.beq r0 24 then (f_fa_unitsOf a1 a2 w).bind (fun p => k (some (.int p.1)) p.2) else none
  | _ => none
section
variable {p : Program} {l : Launch} {e : Env} {s : State} {m : MethodId} {args : Array Value} {below : List Frame} {meth : Method} {c : Code} {ad : Nat → Nat} {D : va_G} {cA : Nat → ClassId}
theorem lk_fa_unitsOf : ∀ q ∈ rs_fa_unitsOf, eLnk { frames := 1, cells := 0, slots := 0, locals := 21 } vwCl (eWd yX3_unitsOf cX3_unitsOf 13 (some .int)) SSc SHc.length RX3 q.1 q.2 := List.forall_mem_cons.mpr ⟨lkX3_12 eTb_wd, List.forall_mem_cons.mpr ⟨lkX3_26 eTb_wd, List.forall_mem_cons.mpr ⟨lkX3_29 eTb_wd, List.forall_mem_cons.mpr ⟨lkX3_70 eTb_wd, List.forall_mem_cons.mpr ⟨lkX3_108 eTb_wd, List.forall_mem_cons.mpr ⟨trivial, fun _ h => absurd h List.not_mem_nil⟩⟩⟩⟩⟩⟩
theorem hc_fa_unitsOf {x : Int32 × eW} : ∀ q ∈ rs_fa_unitsOf, eHc l { frames := 1, cells := 0, slots := 0, locals := 21 } ad D cA vwCl SHc SSc (eWd yX3_unitsOf cX3_unitsOf 13 (some .int)) RX3 cs_fa_unitsOf x q := List.forall_mem_cons.mpr ⟨trivial, List.forall_mem_cons.mpr ⟨trivial, List.forall_mem_cons.mpr ⟨trivial, List.forall_mem_cons.mpr ⟨trivial, List.forall_mem_cons.mpr ⟨trivial, List.forall_mem_cons.mpr ⟨(fun as w k h => let ⟨v, w2, h1, h2⟩ := ok_fa_aboveOf as w k x h; ⟨v, w2, h1, eCal_of h2 ⟨rfl, rfl⟩ hdX3_aboveOf (gvX3_128 eTb_wd)⟩), fun _ h => absurd h List.not_mem_nil⟩⟩⟩⟩⟩⟩
noncomputable def kk_fa_unitsOf_36 (n : Nat) : eK (Int32 × eW) := fun pc L st w => bif Nat.beq pc 36 then (lR L 0 24 ((lI L 1).bind fun a1 => (lJ L 3).bind fun a3 => (lJ L 5).bind fun a5 => (lJ L 7).bind fun a7 => (lI L 9).bind fun a9 => (lI L 10).bind fun a10 => sE st (f_fa_unitsOf_L36 n a1 a3 a5 a7 a9 a10 w))) else none
set_option maxRecDepth 100000 in
set_option maxHeartbeats 4000000 in
theorem go_fa_unitsOf_L36 (hcx : eCx p { frames := 1, cells := 0, slots := 0, locals := 21 } s m args meth c cX3_unitsOf RX3 13 ad D cA vwCl SHc SSc (eWd yX3_unitsOf cX3_unitsOf 13 (some .int)) (some .int)) {x : Int32 × eW} : ∀ (n : Nat) (a1 : Int32) (a3 : Int64) (a5 : Int64) (a7 : Int64) (a9 : Int32) (a10 : Int32) (w : eW), f_fa_unitsOf_L36  n a1 a3 a5 a7 a9 a10 w = some x → eGq p l e { frames := 1, cells := 0, slots := 0, locals := 21 } s m args below meth c 13 ad D cA vwCl SHc rI x 36 [some (.ref 24), some (.int a1), none, some (.long a3), none, some (.long a5), none, some (.long a7), none, some (.int a9), some (.int a10), none, none] [] w := by
  intro n
  induction n with
  | zero => intro a1 a3 a5 a7 a9 a10 w h; exact nomatch (show (none : Option (Int32 × eW)) = some x from h)
  | succ n ih =>
    intro a1 a3 a5 a7 a9 a10 w h
    have h : eRun SHc SSc 13 rs_fa_unitsOf (eCs cs_fa_unitsOf) rI CX3_unitsOf [36] (kk_fa_unitsOf_36  n) 42 true 36 [some (.ref 24), some (.int a1), none, some (.long a3), none, some (.long a5), none, some (.long a7), none, some (.int a9), some (.int a10), none, none] [] w = some x := h
    refine eRun_go hcx (eLnk_all lk_fa_unitsOf) (eHc_all hc_fa_unitsOf) rI_ok dcX3_unitsOf [36] _ (fun pc L st w hK => ?_) 42 true 36 _ _ w h
    unfold kk_fa_unitsOf_36 at hK
    rcases eCut hK with ⟨hpc, hK⟩ | hK
    · subst hpc
      obtain ⟨e0, hK_1⟩ := lR_some hK
      obtain ⟨a1, e1, hK_2⟩ := lI_some hK_1
      obtain ⟨a3, e3, hK_3⟩ := lJ_some hK_2
      obtain ⟨a5, e5, hK_4⟩ := lJ_some hK_3
      obtain ⟨a7, e7, hK_5⟩ := lJ_some hK_4
      obtain ⟨a9, e9, hK_6⟩ := lI_some hK_5
      obtain ⟨a10, e10, hK_7⟩ := lI_some hK_6
      obtain ⟨hst9, hK_8⟩ := sE_some hK_7
      subst hst9
      exact eGo.wk (ih a1 a3 a5 a7 a9 a10 w hK_8) (eLe_wk ⟨e0, e1, e3, e5, e7, e9, e10, trivial⟩)
    cases hK
set_option maxRecDepth 100000 in
set_option maxHeartbeats 4000000 in
theorem go_fa_unitsOf (hcx : eCx p { frames := 1, cells := 0, slots := 0, locals := 21 } s m args meth c cX3_unitsOf RX3 13 ad D cA vwCl SHc SSc (eWd yX3_unitsOf cX3_unitsOf 13 (some .int)) (some .int)) (a1 : Int32) (a2 : Int32) (w : eW) (x : Int32 × eW) (h : f_fa_unitsOf a1 a2 w = some x) : eGq p l e { frames := 1, cells := 0, slots := 0, locals := 21 } s m args below meth c 13 ad D cA vwCl SHc rI x 0 (eEnt [.ref 24, .int a1, .int a2]) [] w := by
  have h : eRun SHc SSc 13 rs_fa_unitsOf (eCs cs_fa_unitsOf) rI CX3_unitsOf [36] (fun pc L st w => bif Nat.beq pc 36 then (lR L 0 24 ((lI L 1).bind fun a1 => (lJ L 3).bind fun a3 => (lJ L 5).bind fun a5 => (lJ L 7).bind fun a7 => (lI L 9).bind fun a9 => (lI L 10).bind fun a10 => sE st (f_fa_unitsOf_L36 eFu a1 a3 a5 a7 a9 a10 w))) else none) 25 true 0 [some (.ref 24), some (.int a1), some (.int a2), none, none, none, none, none, none, none, none, none, none] [] w = some x := h
  refine eGo.wk (eRun_go hcx (eLnk_all lk_fa_unitsOf) (eHc_all hc_fa_unitsOf) rI_ok dcX3_unitsOf [36] _ (fun pc L st w hK => ?_) 25 true 0 _ _ w h) (eLe_wk ⟨rfl, rfl, rfl, trivial⟩)
  rcases eCut hK with ⟨hpc, hK⟩ | hK
  · subst hpc
    obtain ⟨e0, hK_1⟩ := lR_some hK
    obtain ⟨a1, e1, hK_2⟩ := lI_some hK_1
    obtain ⟨a3, e3, hK_3⟩ := lJ_some hK_2
    obtain ⟨a5, e5, hK_4⟩ := lJ_some hK_3
    obtain ⟨a7, e7, hK_5⟩ := lJ_some hK_4
    obtain ⟨a9, e9, hK_6⟩ := lI_some hK_5
    obtain ⟨a10, e10, hK_7⟩ := lI_some hK_6
    obtain ⟨hst9, hK_8⟩ := sE_some hK_7
    subst hst9
    exact eGo.wk (go_fa_unitsOf_L36 hcx  eFu a1 a3 a5 a7 a9 a10 w hK_8) (eLe_wk ⟨e0, e1, e3, e5, e7, e9, e10, trivial⟩)
  cases hK
end
set_option maxRecDepth 100000 in
set_option maxHeartbeats 4000000 in
theorem ok_fa_unitsOf {l : Launch} {ad : Nat → Nat} {D : va_G} {cA : Nat → ClassId} {ρ : Type} (as : List Value) (w : eW) (k : Option Value → eW → Option ρ) (x : ρ) (h : K_fa_unitsOf as w k = some x) : ∃ (v : Option Value) (w2 : eW), k v w2 = some x ∧ eMet l ad D cA vwCl SHc SSc yX3_unitsOf (eWd yX3_unitsOf cX3_unitsOf 13 (some .int)) { frames := 1, cells := 0, slots := 0, locals := 21 } as w v w2 := by
  unfold K_fa_unitsOf at h
  split at h
  · rename_i r0 a1 a2
    obtain ⟨h1, h5⟩ := eBif h
    clear h
    have h := h5
    clear h5
    have h1 := Nat.eq_of_beq_eq_true h1
    subst h1
    obtain ⟨q, h2, h3⟩ := Option.bind_eq_some_iff.mp h
    exact ⟨_, _, h3, eMet_of (by decide +kernel) rfl (by simp [eCat, Value.category]) rI_ret (fun p e s m args below meth c hcx => go_fa_unitsOf hcx a1 a2 w q h2)⟩
  · cases h
