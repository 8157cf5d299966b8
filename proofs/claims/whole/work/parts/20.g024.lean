def CX1_findPart : eCo := [[some (.iload_n 3), some (.aload_n 0), some (.getfield 35), none, none, some (.if_icmp .ge 13), none, none, some (.aload_n 0), some (.aload_n 1), some (.iload_n 2), some (.iload_n 3), some (.invokevirtual 68), none, none, some (.goto 13)],
  [none, none, some (.aload_n 0), some (.aload_n 1), some (.getfield 38), none, none, some (.iload_n 2), some (.iload_n 3), some (.invokevirtual 72), none, none, some (.return_)]]
theorem dcX1_findPart : eDec cX1_findPart CX1_findPart := eDec_of (by decide +kernel)
def rs_br_findPart : List (Nat × eR) := [(35, (0, 1, 3, 0)), (38, (0, 3, 0, 2)), (68, (1, 1, 3, 1)), (72, (1, 0, 3, 1))]
noncomputable def cs_br_findPart : List (eF (eW)) := [K_br_findPartByLevel, K_br_findPartOfRank]
noncomputable def f_br_findPart (a2 : Int32) (a3 : Int32) (w : eW) : Option (eW) := (if (w.1 27 3) ≤ a3 then ((f_br_findPartByLevel a2 a3 w).bind fun w1 => (some w1)) else ((f_br_findPartOfRank a2 a3 w).bind fun w2 => (some w2)))
noncomputable def K_br_findPart {ρ : Type} : eF ρ := fun as w k => match as with
  | [.ref r0, .ref r1, .int a2, .int a3] => bif Nat.beq r0 27 then (bif Nat.beq r1 24 then (f_br_findPart a2 a3 w).bind (fun w => k none w) else none) else none
  | _ => none
section
variable {p : Program} {l : Launch} {e : Env} {s : State} {m : MethodId} {args : Array Value} {below : List Frame} {meth : Method} {c : Code} {ad : Nat → Nat} {D : va_G} {cA : Nat → ClassId}
theorem lk_br_findPart : ∀ q ∈ rs_br_findPart, eLnk { frames := 3, cells := 0, slots := 0, locals := 77 } vwCl (eWd yX1_findPart cX1_findPart 4 none) SSc SHc.length RX1 q.1 q.2 := List.forall_mem_cons.mpr ⟨lkX1_35 eTb_wd, List.forall_mem_cons.mpr ⟨lkX1_38 eTb_wd, List.forall_mem_cons.mpr ⟨trivial, List.forall_mem_cons.mpr ⟨trivial, fun _ h => absurd h List.not_mem_nil⟩⟩⟩⟩
theorem hc_br_findPart {x : eW} : ∀ q ∈ rs_br_findPart, eHc l { frames := 3, cells := 0, slots := 0, locals := 77 } ad D cA vwCl SHc SSc (eWd yX1_findPart cX1_findPart 4 none) RX1 cs_br_findPart x q := List.forall_mem_cons.mpr ⟨trivial, List.forall_mem_cons.mpr ⟨trivial, List.forall_mem_cons.mpr ⟨(fun as w k h => let ⟨v, w2, h1, h2⟩ := ok_br_findPartOfRank as w k x h; ⟨v, w2, h1, eCal_of h2 ⟨rfl, rfl⟩ hdX1_findPartOfRank (gvX1_68 eTb_wd)⟩), List.forall_mem_cons.mpr ⟨(fun as w k h => let ⟨v, w2, h1, h2⟩ := ok_br_findPartByLevel as w k x h; ⟨v, w2, h1, eCal_of h2 ⟨rfl, rfl⟩ hdX1_findPartByLevel (gvX1_72 eTb_wd)⟩), fun _ h => absurd h List.not_mem_nil⟩⟩⟩⟩
set_option maxRecDepth 100000 in
set_option maxHeartbeats 4000000 in
theorem go_br_findPart (hcx : eCx p { frames := 3, cells := 0, slots := 0, locals := 77 } s m args meth c cX1_findPart RX1 4 ad D cA vwCl SHc SSc (eWd yX1_findPart cX1_findPart 4 none) (none)) (a2 : Int32) (a3 : Int32) (w : eW) (x : eW) (h : f_br_findPart a2 a3 w = some x) : eGq p l e { frames := 3, cells := 0, slots := 0, locals := 77 } s m args below meth c 4 ad D cA vwCl SHc rV x 0 (eEnt [.ref 27, .ref 24, .int a2, .int a3]) [] w := by
  have h : eRun SHc SSc 4 rs_br_findPart (eCs cs_br_findPart) rV CX1_findPart [] (fun pc L st w => none) 13 true 0 [some (.ref 27), some (.ref 24), some (.int a2), some (.int a3)] [] w = some x := h
  refine eGo.wk (eRun_go hcx (eLnk_all lk_br_findPart) (eHc_all hc_br_findPart) rV_ok dcX1_findPart [] _ (fun pc L st w hK => ?_) 13 true 0 _ _ w h) (eLe_wk ⟨rfl, rfl, rfl, rfl, trivial⟩)
  cases hK
end
set_option maxRecDepth 100000 in
set_option maxHeartbeats 4000000 in
theorem ok_br_findPart {l : Launch} {ad : Nat → Nat} {D : va_G} {cA : Nat → ClassId} {ρ : Type} (as : List Value) (w : eW) (k : Option Value → eW → Option ρ) (x : ρ) (h : K_br_findPart as w k = some x) : ∃ (v : Option Value) (w2 : eW), k v w2 = some x ∧ eMet l ad D cA vwCl SHc SSc yX1_findPart (eWd yX1_findPart cX1_findPart 4 none) { frames := 3, cells := 0, slots := 0, locals := 77 } as w v w2 := by
  unfold K_br_findPart at h
  split at h
  · rename_i r0 r1 a2 a3
    obtain ⟨h1, h5⟩ := eBif h
    clear h
    have h := h5
    clear h5
    have h1 := Nat.eq_of_beq_eq_true h1
    subst h1
    obtain ⟨h1, h5⟩ := eBif h
    clear h
    have h := h5
    clear h5
    have h1 := Nat.eq_of_beq_eq_true h1
    subst h1
    obtain ⟨q, h2, h3⟩ := Option.bind_eq_some_iff.mp h
    exact ⟨_, _, h3, eMet_of (by decide +kernel) rfl (by simp [eCat, Value.category]) rV_ret (fun p e s m args below meth c hcx => go_br_findPart hcx a2 a3 w q h2)⟩
  · cases h
def CX11_part : eCo := [[some (.aload_n 0), some (.getfield 28), none, none, some (.iload_n 1), some (.invokevirtual 118), none, none, some (.ifCond .eq 14), none, none, some (.iload_n 2), some (.ifCond .lt 10), none, none, some (.iload_n 3)],
  [some (.invokestatic 133), none, none, some (.ifCond .ne 7), none, none, some (.ldc2_w 136), none, none, some (.lreturn), some (.aload_n 0), some (.getfield 35), none, none, some (.aload_n 0), some (.getfield 28)],
  [none, none, some (.iconst 0), some (.iconst 0), some (.invokevirtual 181), none, none, some (.aload_n 0), some (.getfield 42), none, none, some (.aload_n 0), some (.getfield 35), none, none, some (.invokevirtual 212)],
  [none, none, some (.iload_n 2), some (.aload_n 0), some (.getfield 42), none, none, some (.getfield 216), none, none, some (.if_icmp .le 7), none, none, some (.ldc2_w 136), none, none],
  [some (.lreturn), some (.aload_n 0), some (.getfield 42), none, none, some (.aload_n 0), some (.getfield 35), none, none, some (.iload_n 1), some (.iload_n 2), some (.invokevirtual 223), none, none, some (.aload_n 0), some (.getfield 42)],
  [none, none, some (.getfield 227), none, none, some (.aload_n 0), some (.getfield 42), none, none, some (.getfield 230), none, none, some (.iload_n 3), some (.invokestatic 149), none, none],
  [some (.lreturn)]]
theorem dcX11_part : eDec cX11_part CX11_part := eDec_of (by decide +kernel)
def rs_xx_part : List (Nat × eR) := [(28, (0, 10, 2, 2)), (35, (0, 10, 3, 2)), (42, (0, 10, 4, 2)), (118, (1, 0, 1, 4)), (133, (1, 1, 1, -1)), (136, (3, 0, 0, -2)), (149, (1, 5, 3, -1)), (181, (1, 2, 3, 3)), (212, (1, 3, 1, 1)), (216, (0, 1, 2, 0)), (223, (1, 4, 3, 1)), (227, (0, 1, 4, 1)), (230, (0, 1, 5, 1))]
noncomputable def cs_xx_part : List (eF (Int64 × eW)) := [K_fi_isHolder, K_xx_isAboveOrBelow, K_fa_arrange, K_br_list, K_br_findPart, K_nu_lowest]
noncomputable def f_xx_part (a1 : Int32) (a2 : Int32) (a3 : Int32) (w : eW) : Option (Int64 × eW) := ((f_fi_isHolder a1 w).bind fun p1 => (if p1.1 = 0 then (some ((-2 : Int64), p1.2)) else (if a2 < 0 then (some ((-2 : Int64), p1.2)) else ((f_xx_isAboveOrBelow a3 p1.2).bind fun p2 => (if ¬ p2.1 = 0 then ((f_fa_arrange (0 : Int32) (0 : Int32) p2.2).bind fun w3 => ((f_br_list w3).bind fun w4 => (if a2 ≤ (w4.1 27 2) then ((f_br_findPart a1 a2 w4).bind fun w5 => ((f_nu_lowest (w5.2 27 4) (w5.2 27 5) a3 w5).bind fun p6 => (some (p6.1, p6.2)))) else (some ((-2 : Int64), w4))))) else (some ((-2 : Int64), p2.2)))))))
noncomputable def K_xx_part {ρ : Type} : eF ρ := fun as w k => match as with
  | [.ref r0, .int a1, .int a2, .int a3] => bif Nat.beq r0 38 then (f_xx_part a1 a2 a3 w).bind (fun p => k (some (.long p.1)) p.2) else none
  | _ => none
section
variable {p : Program} {l : Launch} {e : Env} {s : State} {m : MethodId} {args : Array Value} {below : List Frame} {meth : Method} {c : Code} {ad : Nat → Nat} {D : va_G} {cA : Nat → ClassId}
theorem lk_xx_part : ∀ q ∈ rs_xx_part, eLnk { frames := 5, cells := 0, slots := 0, locals := 170 } vwCl (eWd yX11_part cX11_part 4 (some .long)) SSc SHc.length RX11 q.1 q.2 := List.forall_mem_cons.mpr ⟨lkX11_28 eTb_wd, List.forall_mem_cons.mpr ⟨lkX11_35 eTb_wd, List.forall_mem_cons.mpr ⟨lkX11_42 eTb_wd, List.forall_mem_cons.mpr ⟨trivial, List.forall_mem_cons.mpr ⟨trivial, List.forall_mem_cons.mpr ⟨lkX11_136 eTb_wd, List.forall_mem_cons.mpr ⟨trivial, List.forall_mem_cons.mpr ⟨trivial, List.forall_mem_cons.mpr ⟨trivial, List.forall_mem_cons.mpr ⟨lkX11_216 eTb_wd, List.forall_mem_cons.mpr ⟨trivial, List.forall_mem_cons.mpr ⟨lkX11_227 eTb_wd, List.forall_mem_cons.mpr ⟨lkX11_230 eTb_wd, fun _ h => absurd h List.not_mem_nil⟩⟩⟩⟩⟩⟩⟩⟩⟩⟩⟩⟩⟩
theorem hc_xx_part {x : Int64 × eW} : ∀ q ∈ rs_xx_part, eHc l { frames := 5, cells := 0, slots := 0, locals := 170 } ad D cA vwCl SHc SSc (eWd yX11_part cX11_part 4 (some .long)) RX11 cs_xx_part x q := List.forall_mem_cons.mpr ⟨trivial, List.forall_mem_cons.mpr ⟨trivial, List.forall_mem_cons.mpr ⟨trivial, List.forall_mem_cons.mpr ⟨(fun as w k h => let ⟨v, w2, h1, h2⟩ := ok_fi_isHolder as w k x h; ⟨v, w2, h1, eCal_of h2 ⟨rfl, rfl⟩ hdX4_isHolder (gvX11_118 eTb_wd)⟩), List.forall_mem_cons.mpr ⟨(fun as w k h => let ⟨v, w2, h1, h2⟩ := ok_xx_isAboveOrBelow as w k x h; ⟨v, w2, h1, eCal_of h2 ⟨rfl, rfl⟩ hdX11_isAboveOrBelow (gvX11_133 eTb_wd)⟩), List.forall_mem_cons.mpr ⟨trivial, List.forall_mem_cons.mpr ⟨(fun as w k h => let ⟨v, w2, h1, h2⟩ := ok_nu_lowest as w k x h; ⟨v, w2, h1, eCal_of h2 ⟨rfl, rfl⟩ hdX7_lowest (gvX11_149 eTb_wd)⟩), List.forall_mem_cons.mpr ⟨(fun as w k h => let ⟨v, w2, h1, h2⟩ := ok_fa_arrange as w k x h; ⟨v, w2, h1, eCal_of h2 ⟨rfl, rfl⟩ hdX3_arrange (gvX11_181 eTb_wd)⟩), List.forall_mem_cons.mpr ⟨(fun as w k h => let ⟨v, w2, h1, h2⟩ := ok_br_list as w k x h; ⟨v, w2, h1, eCal_of h2 ⟨rfl, rfl⟩ hdX1_list (gvX11_212 eTb_wd)⟩), List.forall_mem_cons.mpr ⟨trivial, List.forall_mem_cons.mpr ⟨(fun as w k h => let ⟨v, w2, h1, h2⟩ := ok_br_findPart as w k x h; ⟨v, w2, h1, eCal_of h2 ⟨rfl, rfl⟩ hdX1_findPart (gvX11_223 eTb_wd)⟩), List.forall_mem_cons.mpr ⟨trivial, List.forall_mem_cons.mpr ⟨trivial, fun _ h => absurd h List.not_mem_nil⟩⟩⟩⟩⟩⟩⟩⟩⟩⟩⟩⟩⟩
set_option maxRecDepth 100000 in
set_option maxHeartbeats 4000000 in
theorem go_xx_part (hcx : eCx p { frames := 5, cells := 0, slots := 0, locals := 170 } s m args meth c cX11_part RX11 4 ad D cA vwCl SHc SSc (eWd yX11_part cX11_part 4 (some .long)) (some .long)) (a1 : Int32) (a2 : Int32) (a3 : Int32) (w : eW) (x : Int64 × eW) (h : f_xx_part a1 a2 a3 w = some x) : eGq p l e { frames := 5, cells := 0, slots := 0, locals := 170 } s m args below meth c 4 ad D cA vwCl SHc rJ x 0 (eEnt [.ref 38, .int a1, .int a2, .int a3]) [] w := by
  have h : eRun SHc SSc 4 rs_xx_part (eCs cs_xx_part) rJ CX11_part [] (fun pc L st w => none) 45 true 0 [some (.ref 38), some (.int a1), some (.int a2), some (.int a3)] [] w = some x := h
  refine eGo.wk (eRun_go hcx (eLnk_all lk_xx_part) (eHc_all hc_xx_part) rJ_ok dcX11_part [] _ (fun pc L st w hK => ?_) 45 true 0 _ _ w h) (eLe_wk ⟨rfl, rfl, rfl, rfl, trivial⟩)
  cases hK
end
set_option maxRecDepth 100000 in
set_option maxHeartbeats 4000000 in
theorem ok_xx_part {l : Launch} {ad : Nat → Nat} {D : va_G} {cA : Nat → ClassId} {ρ : Type} (as : List Value) (w : eW) (k : Option Value → eW → Option ρ) (x : ρ) (h : K_xx_part as w k = some x) : ∃ (v : Option Value) (w2 : eW), k v w2 = some x ∧ eMet l ad D cA vwCl SHc SSc yX11_part (eWd yX11_part cX11_part 4 (some .long)) { frames := 5, cells := 0, slots := 0, locals := 170 } as w v w2 := by
  unfold K_xx_part at h
  split at h
  · rename_i r0 a1 a2 a3
    obtain ⟨h1, h5⟩ := eBif h
    clear h
    have h := h5
    clear h5
    have h1 := Nat.eq_of_beq_eq_true h1
    subst h1
    obtain ⟨q, h2, h3⟩ := Option.bind_eq_some_iff.mp h
    exact ⟨_, _, h3, eMet_of (by decide +kernel) rfl (by simp [eCat, Value.category]) rJ_ret (fun p e s m args below meth c hcx => go_xx_part hcx a1 a2 a3 w q h2)⟩
  · cases h
def CX11_chosen : eCo := [[some (.aload_n 0), some (.iload_n 2), some (.iload_n 3), some (.invokevirtual 129), none, none, some (.ifCond .eq 11), none, none, some (.iload 4), none, some (.invokestatic 133), none, none, some (.ifCond .ne 7), none],
  [none, some (.ldc2_w 136), none, none, some (.lreturn), some (.aload_n 0), some (.getfield 35), none, none, some (.aload_n 0), some (.getfield 28), none, none, some (.iconst 1), some (.iload_n 1), some (.invokevirtual 181)],
  [none, none, some (.aload_n 0), some (.getfield 35), none, none, some (.aload_n 0), some (.getfield 28), none, none, some (.iload_n 3), some (.invokevirtual 185), none, none, some (.i2l), some (.ldc2_w 174)],
  [none, none, some (.lmul), some (.invokevirtual 233), none, none, some (.aload_n 0), some (.getfield 35), none, none, some (.iload_n 2), some (.invokevirtual 141), none, none, some (.aload_n 0), some (.getfield 35)],
  [none, none, some (.getfield 145), none, none, some (.iload 4), none, some (.invokestatic 149), none, none, some (.lreturn)]]
theorem dcX11_chosen : eDec cX11_chosen CX11_chosen := eDec_of (by decide +kernel)
def rs_xx_chosen : List (Nat × eR) := [(28, (0, 10, 2, 2)), (35, (0, 10, 3, 2)), (129, (1, 0, 2, 10)), (133, (1, 1, 1, -1)), (136, (3, 0, 0, -2)), (141, (1, 5, 1, 3)), (145, (0, 3, 5, 1)), (149, (1, 6, 3, -1)), (174, (3, 0, 0, 100)), (181, (1, 2, 3, 3)), (185, (1, 3, 1, 4)), (233, (1, 4, 1, 3))]
noncomputable def cs_xx_chosen : List (eF (Int64 × eW)) := [K_xx_isAsked, K_xx_isAboveOrBelow, K_fa_arrange, K_fi_fallsOf, K_fa_pour, K_fa_aboveOf, K_nu_lowest]
noncomputable def f_xx_chosen (a1 : Int32) (a2 : Int32) (a3 : Int32) (a4 : Int32) (w : eW) : Option (Int64 × eW) := ((f_xx_isAsked a2 a3 w).bind fun p1 => (if p1.1 = 0 then (some ((-2 : Int64), p1.2)) else ((f_xx_isAboveOrBelow a4 p1.2).bind fun p2 => (if ¬ p2.1 = 0 then ((f_fa_arrange (1 : Int32) a1 p2.2).bind fun w3 => ((f_fi_fallsOf a3 w3).bind fun p4 => ((f_fa_pour (((p4.1).toInt64) * (100 : Int64)) p4.2).bind fun w5 => ((f_fa_aboveOf a2 w5).bind fun p6 => ((f_nu_lowest p6.1 (p6.2.2 24 5) a4 p6.2).bind fun p7 => (some (p7.1, p7.2))))))) else (some ((-2 : Int64), p2.2))))))
noncomputable def K_xx_chosen {ρ : Type} : eF ρ := fun as w k => match as with
  | [.ref r0, .int a1, .int a2, .int a3, .int a4] => bif Nat.beq r0 38 then (f_xx_chosen a1 a2 a3 a4 w).bind (fun p => k (some (.long p.1)) p.2) else none
  | _ => none
section
variable {p : Program} {l : Launch} {e : Env} {s : State} {m : MethodId} {args : Array Value} {below : List Frame} {meth : Method} {c : Code} {ad : Nat → Nat} {D : va_G} {cA : Nat → ClassId}
theorem lk_xx_chosen : ∀ q ∈ rs_xx_chosen, eLnk { frames := 4, cells := 0, slots := 0, locals := 138 } vwCl (eWd yX11_chosen cX11_chosen 5 (some .long)) SSc SHc.length RX11 q.1 q.2 := List.forall_mem_cons.mpr ⟨lkX11_28 eTb_wd, List.forall_mem_cons.mpr ⟨lkX11_35 eTb_wd, List.forall_mem_cons.mpr ⟨trivial, List.forall_mem_cons.mpr ⟨trivial, List.forall_mem_cons.mpr ⟨lkX11_136 eTb_wd, List.forall_mem_cons.mpr ⟨trivial, List.forall_mem_cons.mpr ⟨lkX11_145 eTb_wd, List.forall_mem_cons.mpr ⟨trivial, List.forall_mem_cons.mpr ⟨lkX11_174 eTb_wd, List.forall_mem_cons.mpr ⟨trivial, List.forall_mem_cons.mpr ⟨trivial, List.forall_mem_cons.mpr ⟨trivial, fun _ h => absurd h List.not_mem_nil⟩⟩⟩⟩⟩⟩⟩⟩⟩⟩⟩⟩
theorem hc_xx_chosen {x : Int64 × eW} : ∀ q ∈ rs_xx_chosen, eHc l { frames := 4, cells := 0, slots := 0, locals := 138 } ad D cA vwCl SHc SSc (eWd yX11_chosen cX11_chosen 5 (some .long)) RX11 cs_xx_chosen x q := List.forall_mem_cons.mpr ⟨trivial, List.forall_mem_cons.mpr ⟨trivial, List.forall_mem_cons.mpr ⟨(fun as w k h => let ⟨v, w2, h1, h2⟩ := ok_xx_isAsked as w k x h; ⟨v, w2, h1, eCal_of h2 ⟨rfl, rfl⟩ hdX11_isAsked (gvX11_129 eTb_wd)⟩), List.forall_mem_cons.mpr ⟨(fun as w k h => let ⟨v, w2, h1, h2⟩ := ok_xx_isAboveOrBelow as w k x h; ⟨v, w2, h1, eCal_of h2 ⟨rfl, rfl⟩ hdX11_isAboveOrBelow (gvX11_133 eTb_wd)⟩), List.forall_mem_cons.mpr ⟨trivial, List.forall_mem_cons.mpr ⟨(fun as w k h => let ⟨v, w2, h1, h2⟩ := ok_fa_aboveOf as w k x h; ⟨v, w2, h1, eCal_of h2 ⟨rfl, rfl⟩ hdX3_aboveOf (gvX11_141 eTb_wd)⟩), List.forall_mem_cons.mpr ⟨trivial, List.forall_mem_cons.mpr ⟨(fun as w k h => let ⟨v, w2, h1, h2⟩ := ok_nu_lowest as w k x h; ⟨v, w2, h1, eCal_of h2 ⟨rfl, rfl⟩ hdX7_lowest (gvX11_149 eTb_wd)⟩), List.forall_mem_cons.mpr ⟨trivial, List.forall_mem_cons.mpr ⟨(fun as w k h => let ⟨v, w2, h1, h2⟩ := ok_fa_arrange as w k x h; ⟨v, w2, h1, eCal_of h2 ⟨rfl, rfl⟩ hdX3_arrange (gvX11_181 eTb_wd)⟩), List.forall_mem_cons.mpr ⟨(fun as w k h => let ⟨v, w2, h1, h2⟩ := ok_fi_fallsOf as w k x h; ⟨v, w2, h1, eCal_of h2 ⟨rfl, rfl⟩ hdX4_fallsOf (gvX11_185 eTb_wd)⟩), List.forall_mem_cons.mpr ⟨(fun as w k h => let ⟨v, w2, h1, h2⟩ := ok_fa_pour as w k x h; ⟨v, w2, h1, eCal_of h2 ⟨rfl, rfl⟩ hdX3_pour (gvX11_233 eTb_wd)⟩), fun _ h => absurd h List.not_mem_nil⟩⟩⟩⟩⟩⟩⟩⟩⟩⟩⟩⟩
set_option maxRecDepth 100000 in
set_option maxHeartbeats 4000000 in
theorem go_xx_chosen (hcx : eCx p { frames := 4, cells := 0, slots := 0, locals := 138 } s m args meth c cX11_chosen RX11 5 ad D cA vwCl SHc SSc (eWd yX11_chosen cX11_chosen 5 (some .long)) (some .long)) (a1 : Int32) (a2 : Int32) (a3 : Int32) (a4 : Int32) (w : eW) (x : Int64 × eW) (h : f_xx_chosen a1 a2 a3 a4 w = some x) : eGq p l e { frames := 4, cells := 0, slots := 0, locals := 138 } s m args below meth c 5 ad D cA vwCl SHc rJ x 0 (eEnt [.ref 38, .int a1, .int a2, .int a3, .int a4]) [] w := by
  have h : eRun SHc SSc 5 rs_xx_chosen (eCs cs_xx_chosen) rJ CX11_chosen [] (fun pc L st w => none) 37 true 0 [some (.ref 38), some (.int a1), some (.int a2), some (.int a3), some (.int a4)] [] w = some x := h
  refine eGo.wk (eRun_go hcx (eLnk_all lk_xx_chosen) (eHc_all hc_xx_chosen) rJ_ok dcX11_chosen [] _ (fun pc L st w hK => ?_) 37 true 0 _ _ w h) (eLe_wk ⟨rfl, rfl, rfl, rfl, rfl, trivial⟩)
  cases hK
end
set_option maxRecDepth 100000 in
set_option maxHeartbeats 4000000 in
theorem ok_xx_chosen {l : Launch} {ad : Nat → Nat} {D : va_G} {cA : Nat → ClassId} {ρ : Type} (as : List Value) (w : eW) (k : Option Value → eW → Option ρ) (x : ρ) (h : K_xx_chosen as w k = some x) : ∃ (v : Option Value) (w2 : eW), k v w2 = some x ∧ eMet l ad D cA vwCl SHc SSc yX11_chosen (eWd yX11_chosen cX11_chosen 5 (some .long)) { frames := 4, cells := 0, slots := 0, locals := 138 } as w v w2 := by
  unfold K_xx_chosen at h
  split at h
  · rename_i r0 a1 a2 a3 a4
    obtain ⟨h1, h5⟩ := eBif h
    clear h
    have h := h5
    clear h5
    have h1 := Nat.eq_of_beq_eq_true h1
    subst h1
    obtain ⟨q, h2, h3⟩ := Option.bind_eq_some_iff.mp h
    exact ⟨_, _, h3, eMet_of (by decide +kernel) rfl (by simp [eCat, Value.category]) rJ_ret (fun p e s m args below meth c hcx => go_xx_chosen hcx a1 a2 a3 a4 w q h2)⟩
  · cases h
def CX5_gather : eCo := [[some (.aload_n 0), some (.iconst 0), some (.putfield 22), none, none, some (.iconst 0), some (.istore_n 2), some (.iload_n 2), some (.aload_n 1), some (.getfield 26), none, none, some (.if_icmp .ge 46), none, none, some (.aload_n 1)],
  [some (.iload_n 2), some (.invokevirtual 29), none, none, some (.ifCond .eq 32), none, none, some (.aload_n 0), some (.getfield 22), none, none, some (.bipush 6), none, some (.if_icmp .ge 23), none, none],
  [some (.aload_n 0), some (.getfield 9), none, none, some (.aload_n 0), some (.getfield 22), none, none, some (.iload_n 2), some (.iastore), some (.aload_n 0), some (.dup), some (.getfield 22), none, none, some (.iconst 1)],
  [some (.iadd), some (.putfield 22), none, none, some (.iinc 2 1), none, none, some (.goto (-48)), none, none, some (.return_)]]
theorem dcX5_gather : eDec cX5_gather CX5_gather := eDec_of (by decide +kernel)
def rs_ga_gather : List (Nat × eR) := [(9, (0, 5, 0, 2)), (22, (0, 5, 1, 0)), (26, (0, 4, 0, 0)), (29, (1, 0, 1, 4))]
noncomputable def cs_ga_gather : List (eF (eW)) := [K_fi_canTurn]
noncomputable def f_ga_gather_L7 : Nat → Int32 → eW → Option (eW)
  | 0, _, _ => none
  | n + 1, a2, w => (if (w.1 8 0) ≤ a2 then (some w) else ((f_fi_canTurn a2 w).bind fun p1 => (if p1.1 = 0 then (f_ga_gather_L7 n (a2 + (1 : Int32)) p1.2) else (if (6 : Int32) ≤ (p1.2.1 31 1) then (f_ga_gather_L7 n (a2 + (1 : Int32)) p1.2) else (eChk (p1.2.1 31 1) 6 (f_ga_gather_L7 n (a2 + (1 : Int32)) (eU1 (eU1 p1.2 28 (Int32.toNatClampNeg (p1.2.1 31 1)) a2) 31 1 ((p1.2.1 31 1) + (1 : Int32)))))))))
noncomputable def f_ga_gather (w : eW) : Option (eW) := (f_ga_gather_L7 eFu (0 : Int32) (eU1 w 31 1 (0 : Int32)))
noncomputable def K_ga_gather {ρ : Type} : eF ρ := fun as w k => match as with
  | [.ref r0, .ref r1] => bif Nat.beq r0 31 then (bif Nat.beq r1 8 then (f_ga_gather w).bind (fun w => k none w) else none) else none
  | _ => none
section
variable {p : Program} {l : Launch} {e : Env} {s : State} {m : MethodId} {args : Array Value} {below : List Frame} {meth : Method} {c : Code} {ad : Nat → Nat} {D : va_G} {cA : Nat → ClassId}
theorem lk_ga_gather : ∀ q ∈ rs_ga_gather, eLnk { frames := 2, cells := 0, slots := 0, locals := 43 } vwCl (eWd yX5_gather cX5_gather 3 none) SSc SHc.length RX5 q.1 q.2 := List.forall_mem_cons.mpr ⟨lkX5_9 eTb_wd, List.forall_mem_cons.mpr ⟨lkX5_22 eTb_wd, List.forall_mem_cons.mpr ⟨lkX5_26 eTb_wd, List.forall_mem_cons.mpr ⟨trivial, fun _ h => absurd h List.not_mem_nil⟩⟩⟩⟩
theorem hc_ga_gather {x : eW} : ∀ q ∈ rs_ga_gather, eHc l { frames := 2, cells := 0, slots := 0, locals := 43 } ad D cA vwCl SHc SSc (eWd yX5_gather cX5_gather 3 none) RX5 cs_ga_gather x q := List.forall_mem_cons.mpr ⟨trivial, List.forall_mem_cons.mpr ⟨trivial, List.forall_mem_cons.mpr ⟨trivial, List.forall_mem_cons.mpr ⟨(fun as w k h => let ⟨v, w2, h1, h2⟩ := ok_fi_canTurn as w k x h; ⟨v, w2, h1, eCal_of h2 ⟨rfl, rfl⟩ hdX4_canTurn (gvX5_29 eTb_wd)⟩), fun _ h => absurd h List.not_mem_nil⟩⟩⟩⟩
noncomputable def kk_ga_gather_7 (n : Nat) : eK (eW) := fun pc L st w => bif Nat.beq pc 7 then (lR L 0 31 (lR L 1 8 ((lI L 2).bind fun a2 => sE st (f_ga_gather_L7 n a2 w)))) else none
set_option maxRecDepth 100000 in
set_option maxHeartbeats 4000000 in
theorem go_ga_gather_L7 (hcx : eCx p { frames := 2, cells := 0, slots := 0, locals := 43 } s m args meth c cX5_gather RX5 3 ad D cA vwCl SHc SSc (eWd yX5_gather cX5_gather 3 none) (none)) {x : eW} : ∀ (n : Nat) (a2 : Int32) (w : eW), f_ga_gather_L7  n a2 w = some x → eGq p l e { frames := 2, cells := 0, slots := 0, locals := 43 } s m args below meth c 3 ad D cA vwCl SHc rV x 7 [some (.ref 31), some (.ref 8), some (.int a2)] [] w := by
  intro n
  induction n with
  | zero => intro a2 w h; exact nomatch (show (none : Option (eW)) = some x from h)
  | succ n ih =>
    intro a2 w h
    have h : eRun SHc SSc 3 rs_ga_gather (eCs cs_ga_gather) rV CX5_gather [7] (kk_ga_gather_7  n) 29 true 7 [some (.ref 31), some (.ref 8), some (.int a2)] [] w = some x := h
    refine eRun_go hcx (eLnk_all lk_ga_gather) (eHc_all hc_ga_gather) rV_ok dcX5_gather [7] _ (fun pc L st w hK => ?_) 29 true 7 _ _ w h
    unfold kk_ga_gather_7 at hK
    rcases eCut hK with ⟨hpc, hK⟩ | hK
    · subst hpc
      obtain ⟨e0, hK_1⟩ := lR_some hK
      obtain ⟨e1, hK_2⟩ := lR_some hK_1
      obtain ⟨a2, e2, hK_3⟩ := lI_some hK_2
      obtain ⟨hst9, hK_4⟩ := sE_some hK_3
      subst hst9
      exact eGo.wk (ih a2 w hK_4) (eLe_wk ⟨e0, e1, e2, trivial⟩)
    cases hK
set_option maxRecDepth 100000 in
set_option maxHeartbeats 4000000 in
theorem go_ga_gather (hcx : eCx p { frames := 2, cells := 0, slots := 0, locals := 43 } s m args meth c cX5_gather RX5 3 ad D cA vwCl SHc SSc (eWd yX5_gather cX5_gather 3 none) (none)) (w : eW) (x : eW) (h : f_ga_gather w = some x) : eGq p l e { frames := 2, cells := 0, slots := 0, locals := 43 } s m args below meth c 3 ad D cA vwCl SHc rV x 0 (eEnt [.ref 31, .ref 8]) [] w := by
  have h : eRun SHc SSc 3 rs_ga_gather (eCs cs_ga_gather) rV CX5_gather [7] (fun pc L st w => bif Nat.beq pc 7 then (lR L 0 31 (lR L 1 8 ((lI L 2).bind fun a2 => sE st (f_ga_gather_L7 eFu a2 w)))) else none) 8 true 0 [some (.ref 31), some (.ref 8), none] [] w = some x := h
  refine eGo.wk (eRun_go hcx (eLnk_all lk_ga_gather) (eHc_all hc_ga_gather) rV_ok dcX5_gather [7] _ (fun pc L st w hK => ?_) 8 true 0 _ _ w h) (eLe_wk ⟨rfl, rfl, trivial⟩)
  rcases eCut hK with ⟨hpc, hK⟩ | hK
  · subst hpc
    obtain ⟨e0, hK_1⟩ := lR_some hK
    obtain ⟨e1, hK_2⟩ := lR_some hK_1
    obtain ⟨a2, e2, hK_3⟩ := lI_some hK_2
    obtain ⟨hst9, hK_4⟩ := sE_some hK_3
    subst hst9
    exact eGo.wk (go_ga_gather_L7 hcx  eFu a2 w hK_4) (eLe_wk ⟨e0, e1, e2, trivial⟩)
  cases hK
end
set_option maxRecDepth 100000 in
set_option maxHeartbeats 4000000 in
theorem ok_ga_gather {l : Launch} {ad : Nat → Nat} {D : va_G} {cA : Nat → ClassId} {ρ : Type} (as : List Value) (w : eW) (k : Option Value → eW → Option ρ) (x : ρ) (h : K_ga_gather as w k = some x) : ∃ (v : Option Value) (w2 : eW), k v w2 = some x ∧ eMet l ad D cA vwCl SHc SSc yX5_gather (eWd yX5_gather cX5_gather 3 none) { frames := 2, cells := 0, slots := 0, locals := 43 } as w v w2 := by
  unfold K_ga_gather at h
  split at h
  · rename_i r0 r1
    obtain ⟨h1, h5⟩ := eBif h
    clear h
    have h := h5
    clear h5
    have h1 := Nat.eq_of_beq_eq_true h1
    subst h1
    obtain ⟨h1, h5⟩ := eBif h
    clear h
    have h := h5
    clear h5
    have h1 := Nat.eq_of_beq_eq_true h1
    subst h1
    obtain ⟨q, h2, h3⟩ := Option.bind_eq_some_iff.mp h
    exact ⟨_, _, h3, eMet_of (by decide +kernel) rfl (by simp [eCat, Value.category]) rV_ret (fun p e s m args below meth c hcx => go_ga_gather hcx w q h2)⟩
  · cases h
