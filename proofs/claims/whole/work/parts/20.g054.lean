def CX12_part : eCo := [[some (.aload_n 0), some (.iconst 0), some (.putfield 95), none, none, some (.aload_n 0), some (.invokevirtual 375), none, none, some (.aload_n 0), some (.iload_n 1), some (.invokevirtual 105), none, none, some (.ifCond .eq 24), none],
  [none, some (.iload_n 2), some (.iconst 0), some (.aload_n 0), some (.getfield 362), none, none, some (.invokestatic 101), none, none, some (.ifCond .eq 12), none, none, some (.iload_n 3), some (.iconst 0), some (.iconst 1)],
  [some (.invokestatic 101), none, none, some (.ifCond .ne 7), none, none, some (.ldc2_w 321), none, none, some (.lreturn), some (.aload_n 0), some (.iload_n 1), some (.iload_n 2), some (.ifCond .ne 7), none, none],
  [some (.lconst 0), some (.goto 11), none, none, some (.aload_n 0), some (.getfield 80), none, none, some (.iload_n 2), some (.iconst 1), some (.isub), some (.laload), some (.iload_n 2), some (.ifCond .ne 7), none, none],
  [some (.lconst 1), some (.goto 11), none, none, some (.aload_n 0), some (.getfield 83), none, none, some (.iload_n 2), some (.iconst 1), some (.isub), some (.laload), some (.invokevirtual 384), none, none, some (.aload_n 0)],
  [some (.getfield 378), none, none, some (.aload_n 0), some (.getfield 381), none, none, some (.invokestatic 307), none, none, some (.lstore 4), none, some (.iload_n 3), some (.ifCond .ne 10), none, none],
  [some (.aload_n 0), some (.getfield 378), none, none, some (.goto 7), none, none, some (.aload_n 0), some (.getfield 381), none, none, some (.lload 4), none, some (.ldiv), some (.lreturn)]]
theorem dcX12_part : eDec cX12_part CX12_part := eDec_of (by decide +kernel)
def rs_mm_part : List (Nat × eR) := [(80, (0, 11, 45, 2)), (83, (0, 11, 46, 2)), (95, (0, 11, 0, 0)), (101, (1, 2, 3, -1)), (105, (1, 1, 1, 11)), (307, (1, 4, 2, -1)), (321, (3, 0, 0, -2)), (362, (0, 11, 47, 0)), (375, (1, 0, 0, 11)), (378, (0, 11, 48, 1)), (381, (0, 11, 49, 1)), (384, (1, 3, 3, 11))]
noncomputable def cs_mm_part : List (eF (Int64 × eW)) := [K_mm_layBreaks, K_mm_isHolder, K_mm_in, K_mm_layPart, K_mm_common]
noncomputable def f_mm_part_J60 (a2 : Int32) (a3 : Int32) (s0 : Int64) (s1 : Int32) (w : eW) : Option (Int64 × eW) := (if ¬ a2 = 0 then (eChk (a2 - (1 : Int32)) 48 ((f_mm_layPart s1 s0 (w.2 20 (Int32.toNatClampNeg (a2 - (1 : Int32)))) w).bind fun w5 => ((f_mm_common (w5.2 24 48) (w5.2 24 49) w5).bind fun p6 => (if ¬ a3 = 0 then (if p6.1 = 0 then none else (some (((p6.2.2 24 49) / p6.1), p6.2))) else (if p6.1 = 0 then none else (some (((p6.2.2 24 48) / p6.1), p6.2))))))) else ((f_mm_layPart s1 s0 (1 : Int64) w).bind fun w7 => ((f_mm_common (w7.2 24 48) (w7.2 24 49) w7).bind fun p8 => (if ¬ a3 = 0 then (if p8.1 = 0 then none else (some (((p8.2.2 24 49) / p8.1), p8.2))) else (if p8.1 = 0 then none else (some (((p8.2.2 24 48) / p8.1), p8.2)))))))
noncomputable def f_mm_part (a1 : Int32) (a2 : Int32) (a3 : Int32) (w : eW) : Option (Int64 × eW) := ((f_mm_layBreaks (eU1 w 24 0 (0 : Int32))).bind fun w1 => ((f_mm_isHolder a1 w1).bind fun p2 => (if p2.1 = 0 then (some ((-2 : Int64), p2.2)) else ((f_mm_in a2 (0 : Int32) (p2.2.1 24 47) p2.2).bind fun p3 => (if p3.1 = 0 then (some ((-2 : Int64), p3.2)) else ((f_mm_in a3 (0 : Int32) (1 : Int32) p3.2).bind fun p4 => (if ¬ p4.1 = 0 then (if ¬ a2 = 0 then (eChk (a2 - (1 : Int32)) 48 (f_mm_part_J60 a2 a3 (p4.2.2 19 (Int32.toNatClampNeg (a2 - (1 : Int32)))) a1 p4.2)) else (f_mm_part_J60 a2 a3 (0 : Int64) a1 p4.2)) else (some ((-2 : Int64), p4.2)))))))))
noncomputable def K_mm_part {ρ : Type} : eF ρ := fun as w k => match as with
  | [.ref r0, .int a1, .int a2, .int a3] => bif Nat.beq r0 24 then (f_mm_part a1 a2 a3 w).bind (fun p => k (some (.long p.1)) p.2) else none
  | _ => none
section
variable {p : Program} {l : Launch} {e : Env} {s : State} {m : MethodId} {args : Array Value} {below : List Frame} {meth : Method} {c : Code} {ad : Nat → Nat} {D : va_G} {cA : Nat → ClassId}
theorem lk_mm_part : ∀ q ∈ rs_mm_part, eLnk { frames := 9, cells := 0, slots := 0, locals := 211 } vwCl (eWd yX12_part cX12_part 6 (some .long)) SSm SHm.length RX12 q.1 q.2 := List.forall_mem_cons.mpr ⟨lkX12_80 eTb_wd, List.forall_mem_cons.mpr ⟨lkX12_83 eTb_wd, List.forall_mem_cons.mpr ⟨lkX12_95 eTb_wd, List.forall_mem_cons.mpr ⟨trivial, List.forall_mem_cons.mpr ⟨trivial, List.forall_mem_cons.mpr ⟨trivial, List.forall_mem_cons.mpr ⟨lkX12_321 eTb_wd, List.forall_mem_cons.mpr ⟨lkX12_362 eTb_wd, List.forall_mem_cons.mpr ⟨trivial, List.forall_mem_cons.mpr ⟨lkX12_378 eTb_wd, List.forall_mem_cons.mpr ⟨lkX12_381 eTb_wd, List.forall_mem_cons.mpr ⟨trivial, fun _ h => absurd h List.not_mem_nil⟩⟩⟩⟩⟩⟩⟩⟩⟩⟩⟩⟩
theorem hc_mm_part {x : Int64 × eW} : ∀ q ∈ rs_mm_part, eHc l { frames := 9, cells := 0, slots := 0, locals := 211 } ad D cA vwCl SHm SSm (eWd yX12_part cX12_part 6 (some .long)) RX12 cs_mm_part x q := List.forall_mem_cons.mpr ⟨trivial, List.forall_mem_cons.mpr ⟨trivial, List.forall_mem_cons.mpr ⟨trivial, List.forall_mem_cons.mpr ⟨(fun as w k h => let ⟨v, w2, h1, h2⟩ := ok_mm_in as w k x h; ⟨v, w2, h1, eCal_of h2 ⟨rfl, rfl⟩ hdX12_in (gvX12_101 eTb_wd)⟩), List.forall_mem_cons.mpr ⟨(fun as w k h => let ⟨v, w2, h1, h2⟩ := ok_mm_isHolder as w k x h; ⟨v, w2, h1, eCal_of h2 ⟨rfl, rfl⟩ hdX12_isHolder (gvX12_105 eTb_wd)⟩), List.forall_mem_cons.mpr ⟨(fun as w k h => let ⟨v, w2, h1, h2⟩ := ok_mm_common as w k x h; ⟨v, w2, h1, eCal_of h2 ⟨rfl, rfl⟩ hdX12_common (gvX12_307 eTb_wd)⟩), List.forall_mem_cons.mpr ⟨trivial, List.forall_mem_cons.mpr ⟨trivial, List.forall_mem_cons.mpr ⟨(fun as w k h => let ⟨v, w2, h1, h2⟩ := ok_mm_layBreaks as w k x h; ⟨v, w2, h1, eCal_of h2 ⟨rfl, rfl⟩ hdX12_layBreaks (gvX12_375 eTb_wd)⟩), List.forall_mem_cons.mpr ⟨trivial, List.forall_mem_cons.mpr ⟨trivial, List.forall_mem_cons.mpr ⟨(fun as w k h => let ⟨v, w2, h1, h2⟩ := ok_mm_layPart as w k x h; ⟨v, w2, h1, eCal_of h2 ⟨rfl, rfl⟩ hdX12_layPart (gvX12_384 eTb_wd)⟩), fun _ h => absurd h List.not_mem_nil⟩⟩⟩⟩⟩⟩⟩⟩⟩⟩⟩⟩
noncomputable def kk_mm_part_60 : eK (Int64 × eW) := fun pc L st w => none
set_option maxRecDepth 100000 in
set_option maxHeartbeats 4000000 in
theorem go_mm_part_J60 (hcx : eCx p { frames := 9, cells := 0, slots := 0, locals := 211 } s m args meth c cX12_part RX12 6 ad D cA vwCl SHm SSm (eWd yX12_part cX12_part 6 (some .long)) (some .long)) {x : Int64 × eW} : ∀ (a2 : Int32) (a3 : Int32) (s0 : Int64) (s1 : Int32) (w : eW), f_mm_part_J60  a2 a3 s0 s1 w = some x → eGq p l e { frames := 9, cells := 0, slots := 0, locals := 211 } s m args below meth c 6 ad D cA vwCl SHm rJ x 60 [some (.ref 24), none, some (.int a2), some (.int a3), none, none] [.long s0, .int s1, .ref 24] w := by
  intro a2 a3 s0 s1 w h
  have h : eRun SHm SSm 6 rs_mm_part (eCs cs_mm_part) rJ CX12_part [60] (kk_mm_part_60 ) 25 true 60 [some (.ref 24), none, some (.int a2), some (.int a3), none, none] [.long s0, .int s1, .ref 24] w = some x := h
  refine eRun_go hcx (eLnk_all lk_mm_part) (eHc_all hc_mm_part) rJ_ok dcX12_part [60] _ (fun pc L st w hK => ?_) 25 true 60 _ _ w h
  unfold kk_mm_part_60 at hK
  cases hK
set_option maxRecDepth 100000 in
set_option maxHeartbeats 4000000 in
theorem go_mm_part (hcx : eCx p { frames := 9, cells := 0, slots := 0, locals := 211 } s m args meth c cX12_part RX12 6 ad D cA vwCl SHm SSm (eWd yX12_part cX12_part 6 (some .long)) (some .long)) (a1 : Int32) (a2 : Int32) (a3 : Int32) (w : eW) (x : Int64 × eW) (h : f_mm_part a1 a2 a3 w = some x) : eGq p l e { frames := 9, cells := 0, slots := 0, locals := 211 } s m args below meth c 6 ad D cA vwCl SHm rJ x 0 (eEnt [.ref 24, .int a1, .int a2, .int a3]) [] w := by
  have h : eRun SHm SSm 6 rs_mm_part (eCs cs_mm_part) rJ CX12_part [60] (fun pc L st w => bif Nat.beq pc 60 then (lR L 0 24 ((lI L 2).bind fun a2 => (lI L 3).bind fun a3 => sJ st (fun s0 st1 => sI st1 (fun s1 st2 => sR st2 24 (fun st3 => sE st3 (f_mm_part_J60 a2 a3 s0 s1 w)))))) else none) 33 true 0 [some (.ref 24), some (.int a1), some (.int a2), some (.int a3), none, none] [] w = some x := h
  refine eGo.wk (eRun_go hcx (eLnk_all lk_mm_part) (eHc_all hc_mm_part) rJ_ok dcX12_part [60] _ (fun pc L st w hK => ?_) 33 true 0 _ _ w h) (eLe_wk ⟨rfl, rfl, rfl, rfl, trivial⟩)
  rcases eCut hK with ⟨hpc, hK⟩ | hK
  · subst hpc
    obtain ⟨e0, hK_1⟩ := lR_some hK
    obtain ⟨a2, e2, hK_2⟩ := lI_some hK_1
    obtain ⟨a3, e3, hK_3⟩ := lI_some hK_2
    obtain ⟨s0, st1, hst0, hK_4⟩ := sJ_some hK_3
    subst hst0
    obtain ⟨s1, st2, hst1, hK_5⟩ := sI_some hK_4
    subst hst1
    obtain ⟨st3, hst2, hK_6⟩ := sR_some hK_5
    subst hst2
    obtain ⟨hst9, hK_7⟩ := sE_some hK_6
    subst hst9
    exact eGo.wk (go_mm_part_J60 hcx  a2 a3 s0 s1 w hK_7) (eLe_wk ⟨e0, e2, e3, trivial⟩)
  cases hK
end
set_option maxRecDepth 100000 in
set_option maxHeartbeats 4000000 in
theorem ok_mm_part {l : Launch} {ad : Nat → Nat} {D : va_G} {cA : Nat → ClassId} {ρ : Type} (as : List Value) (w : eW) (k : Option Value → eW → Option ρ) (x : ρ) (h : K_mm_part as w k = some x) : ∃ (v : Option Value) (w2 : eW), k v w2 = some x ∧ eMet l ad D cA vwCl SHm SSm yX12_part (eWd yX12_part cX12_part 6 (some .long)) { frames := 9, cells := 0, slots := 0, locals := 211 } as w v w2 := by
  unfold K_mm_part at h
  split at h
  · rename_i r0 a1 a2 a3
    obtain ⟨h1, h5⟩ := eBif h
    clear h
    have h := h5
    clear h5
    have h1 := Nat.eq_of_beq_eq_true h1
    subst h1
    obtain ⟨q, h2, h3⟩ := Option.bind_eq_some_iff.mp h
    exact ⟨_, _, h3, eMet_of (by decide +kernel) rfl (by simp [eCat, Value.category]) rJ_ret (fun p e s m args below meth c hcx => go_mm_part hcx a1 a2 a3 w q h2)⟩
  · cases h
def CX12_layChoice : eCo := [[some (.aload_n 0), some (.iconst 1), some (.putfield 244), none, none, some (.aload_n 0), some (.iload_n 1), some (.putfield 247), none, none, some (.aload_n 0), some (.iload_n 2), some (.aload_n 0), some (.getfield 232), none, none],
  [some (.invokestatic 311), none, none, some (.invokevirtual 315), none, none, some (.return_)]]
theorem dcX12_layChoice : eDec cX12_layChoice CX12_layChoice := eDec_of (by decide +kernel)
def rs_mm_layChoice : List (Nat × eR) := [(232, (0, 11, 2, 0)), (244, (0, 11, 36, 3)), (247, (0, 11, 35, 0)), (311, (1, 0, 2, -1)), (315, (1, 1, 1, 11))]
noncomputable def cs_mm_layChoice : List (eF (eW)) := [K_mm_fallsBy, K_mm_lay]
noncomputable def f_mm_layChoice (a1 : Int32) (a2 : Int32) (w : eW) : Option (eW) := ((f_mm_fallsBy a2 (w.1 24 2) (eU1 (eU1 w 24 36 (1 : Int32)) 24 35 a1)).bind fun p1 => ((f_mm_lay p1.1 p1.2).bind fun w2 => (some w2)))
noncomputable def K_mm_layChoice {ρ : Type} : eF ρ := fun as w k => match as with
  | [.ref r0, .int a1, .int a2] => bif Nat.beq r0 24 then (f_mm_layChoice a1 a2 w).bind (fun w => k none w) else none
  | _ => none
section
variable {p : Program} {l : Launch} {e : Env} {s : State} {m : MethodId} {args : Array Value} {below : List Frame} {meth : Method} {c : Code} {ad : Nat → Nat} {D : va_G} {cA : Nat → ClassId}
theorem lk_mm_layChoice : ∀ q ∈ rs_mm_layChoice, eLnk { frames := 9, cells := 0, slots := 0, locals := 209 } vwCl (eWd yX12_layChoice cX12_layChoice 3 none) SSm SHm.length RX12 q.1 q.2 := List.forall_mem_cons.mpr ⟨lkX12_232 eTb_wd, List.forall_mem_cons.mpr ⟨lkX12_244 eTb_wd, List.forall_mem_cons.mpr ⟨lkX12_247 eTb_wd, List.forall_mem_cons.mpr ⟨trivial, List.forall_mem_cons.mpr ⟨trivial, fun _ h => absurd h List.not_mem_nil⟩⟩⟩⟩⟩
theorem hc_mm_layChoice {x : eW} : ∀ q ∈ rs_mm_layChoice, eHc l { frames := 9, cells := 0, slots := 0, locals := 209 } ad D cA vwCl SHm SSm (eWd yX12_layChoice cX12_layChoice 3 none) RX12 cs_mm_layChoice x q := List.forall_mem_cons.mpr ⟨trivial, List.forall_mem_cons.mpr ⟨trivial, List.forall_mem_cons.mpr ⟨trivial, List.forall_mem_cons.mpr ⟨(fun as w k h => let ⟨v, w2, h1, h2⟩ := ok_mm_fallsBy as w k x h; ⟨v, w2, h1, eCal_of h2 ⟨rfl, rfl⟩ hdX12_fallsBy (gvX12_311 eTb_wd)⟩), List.forall_mem_cons.mpr ⟨(fun as w k h => let ⟨v, w2, h1, h2⟩ := ok_mm_lay as w k x h; ⟨v, w2, h1, eCal_of h2 ⟨rfl, rfl⟩ hdX12_lay (gvX12_315 eTb_wd)⟩), fun _ h => absurd h List.not_mem_nil⟩⟩⟩⟩⟩
set_option maxRecDepth 100000 in
set_option maxHeartbeats 4000000 in
theorem go_mm_layChoice (hcx : eCx p { frames := 9, cells := 0, slots := 0, locals := 209 } s m args meth c cX12_layChoice RX12 3 ad D cA vwCl SHm SSm (eWd yX12_layChoice cX12_layChoice 3 none) (none)) (a1 : Int32) (a2 : Int32) (w : eW) (x : eW) (h : f_mm_layChoice a1 a2 w = some x) : eGq p l e { frames := 9, cells := 0, slots := 0, locals := 209 } s m args below meth c 3 ad D cA vwCl SHm rV x 0 (eEnt [.ref 24, .int a1, .int a2]) [] w := by
  have h : eRun SHm SSm 3 rs_mm_layChoice (eCs cs_mm_layChoice) rV CX12_layChoice [] (fun pc L st w => none) 15 true 0 [some (.ref 24), some (.int a1), some (.int a2)] [] w = some x := h
  refine eGo.wk (eRun_go hcx (eLnk_all lk_mm_layChoice) (eHc_all hc_mm_layChoice) rV_ok dcX12_layChoice [] _ (fun pc L st w hK => ?_) 15 true 0 _ _ w h) (eLe_wk ⟨rfl, rfl, rfl, trivial⟩)
  cases hK
end
set_option maxRecDepth 100000 in
set_option maxHeartbeats 4000000 in
theorem ok_mm_layChoice {l : Launch} {ad : Nat → Nat} {D : va_G} {cA : Nat → ClassId} {ρ : Type} (as : List Value) (w : eW) (k : Option Value → eW → Option ρ) (x : ρ) (h : K_mm_layChoice as w k = some x) : ∃ (v : Option Value) (w2 : eW), k v w2 = some x ∧ eMet l ad D cA vwCl SHm SSm yX12_layChoice (eWd yX12_layChoice cX12_layChoice 3 none) { frames := 9, cells := 0, slots := 0, locals := 209 } as w v w2 := by
  unfold K_mm_layChoice at h
  split at h
  · rename_i r0 a1 a2
    obtain ⟨h1, h5⟩ := eBif h
    clear h
    have h := h5
    clear h5
    have h1 := Nat.eq_of_beq_eq_true h1
    subst h1
    obtain ⟨q, h2, h3⟩ := Option.bind_eq_some_iff.mp h
    exact ⟨_, _, h3, eMet_of (by decide +kernel) rfl (by simp [eCat, Value.category]) rV_ret (fun p e s m args below meth c hcx => go_mm_layChoice hcx a1 a2 w q h2)⟩
  · cases h
def CX12_chosen : eCo := [[some (.aload_n 0), some (.iconst 0), some (.putfield 95), none, none, some (.aload_n 0), some (.iload_n 2), some (.invokevirtual 105), none, none, some (.ifCond .eq 20), none, none, some (.iload_n 3), some (.invokestatic 318), none],
  [none, some (.ifCond .eq 13), none, none, some (.iload 4), none, some (.iconst 0), some (.iconst 1), some (.invokestatic 101), none, none, some (.ifCond .ne 7), none, none, some (.ldc2_w 321), none],
  [none, some (.lreturn), some (.aload_n 0), some (.iload_n 1), some (.iload_n 3), some (.invokevirtual 387), none, none, some (.aload_n 0), some (.iload_n 2), some (.iload 4), none, some (.iconst 1), some (.if_icmp .ne 7), none, none],
  [some (.iconst 1), some (.goto 4), none, none, some (.iconst 0), some (.invokevirtual 326), none, none, some (.lreturn)]]
theorem dcX12_chosen : eDec cX12_chosen CX12_chosen := eDec_of (by decide +kernel)
def rs_mm_chosen : List (Nat × eR) := [(95, (0, 11, 0, 0)), (101, (1, 2, 3, -1)), (105, (1, 0, 1, 11)), (318, (1, 1, 1, -1)), (321, (3, 0, 0, -2)), (326, (1, 4, 2, 11)), (387, (1, 3, 2, 11))]
noncomputable def cs_mm_chosen : List (eF (Int64 × eW)) := [K_mm_isHolder, K_mm_isAmount, K_mm_in, K_mm_layChoice, K_mm_lowest]
noncomputable def f_mm_chosen (a1 : Int32) (a2 : Int32) (a3 : Int32) (a4 : Int32) (w : eW) : Option (Int64 × eW) := ((f_mm_isHolder a2 (eU1 w 24 0 (0 : Int32))).bind fun p1 => (if p1.1 = 0 then (some ((-2 : Int64), p1.2)) else ((f_mm_isAmount a3 p1.2).bind fun p2 => (if p2.1 = 0 then (some ((-2 : Int64), p2.2)) else ((f_mm_in a4 (0 : Int32) (1 : Int32) p2.2).bind fun p3 => (if ¬ p3.1 = 0 then ((f_mm_layChoice a1 a3 p3.2).bind fun w4 => (if ¬ a4 = (1 : Int32) then ((f_mm_lowest a2 (0 : Int32) w4).bind fun p5 => (some (p5.1, p5.2))) else ((f_mm_lowest a2 (1 : Int32) w4).bind fun p6 => (some (p6.1, p6.2))))) else (some ((-2 : Int64), p3.2))))))))
noncomputable def K_mm_chosen {ρ : Type} : eF ρ := fun as w k => match as with
  | [.ref r0, .int a1, .int a2, .int a3, .int a4] => bif Nat.beq r0 24 then (f_mm_chosen a1 a2 a3 a4 w).bind (fun p => k (some (.long p.1)) p.2) else none
  | _ => none
section
variable {p : Program} {l : Launch} {e : Env} {s : State} {m : MethodId} {args : Array Value} {below : List Frame} {meth : Method} {c : Code} {ad : Nat → Nat} {D : va_G} {cA : Nat → ClassId}
theorem lk_mm_chosen : ∀ q ∈ rs_mm_chosen, eLnk { frames := 10, cells := 0, slots := 0, locals := 231 } vwCl (eWd yX12_chosen cX12_chosen 5 (some .long)) SSm SHm.length RX12 q.1 q.2 := List.forall_mem_cons.mpr ⟨lkX12_95 eTb_wd, List.forall_mem_cons.mpr ⟨trivial, List.forall_mem_cons.mpr ⟨trivial, List.forall_mem_cons.mpr ⟨trivial, List.forall_mem_cons.mpr ⟨lkX12_321 eTb_wd, List.forall_mem_cons.mpr ⟨trivial, List.forall_mem_cons.mpr ⟨trivial, fun _ h => absurd h List.not_mem_nil⟩⟩⟩⟩⟩⟩⟩
theorem hc_mm_chosen {x : Int64 × eW} : ∀ q ∈ rs_mm_chosen, eHc l { frames := 10, cells := 0, slots := 0, locals := 231 } ad D cA vwCl SHm SSm (eWd yX12_chosen cX12_chosen 5 (some .long)) RX12 cs_mm_chosen x q := List.forall_mem_cons.mpr ⟨trivial, List.forall_mem_cons.mpr ⟨(fun as w k h => let ⟨v, w2, h1, h2⟩ := ok_mm_in as w k x h; ⟨v, w2, h1, eCal_of h2 ⟨rfl, rfl⟩ hdX12_in (gvX12_101 eTb_wd)⟩), List.forall_mem_cons.mpr ⟨(fun as w k h => let ⟨v, w2, h1, h2⟩ := ok_mm_isHolder as w k x h; ⟨v, w2, h1, eCal_of h2 ⟨rfl, rfl⟩ hdX12_isHolder (gvX12_105 eTb_wd)⟩), List.forall_mem_cons.mpr ⟨(fun as w k h => let ⟨v, w2, h1, h2⟩ := ok_mm_isAmount as w k x h; ⟨v, w2, h1, eCal_of h2 ⟨rfl, rfl⟩ hdX12_isAmount (gvX12_318 eTb_wd)⟩), List.forall_mem_cons.mpr ⟨trivial, List.forall_mem_cons.mpr ⟨(fun as w k h => let ⟨v, w2, h1, h2⟩ := ok_mm_lowest as w k x h; ⟨v, w2, h1, eCal_of h2 ⟨rfl, rfl⟩ hdX12_lowest (gvX12_326 eTb_wd)⟩), List.forall_mem_cons.mpr ⟨(fun as w k h => let ⟨v, w2, h1, h2⟩ := ok_mm_layChoice as w k x h; ⟨v, w2, h1, eCal_of h2 ⟨rfl, rfl⟩ hdX12_layChoice (gvX12_387 eTb_wd)⟩), fun _ h => absurd h List.not_mem_nil⟩⟩⟩⟩⟩⟩⟩
set_option maxRecDepth 100000 in
set_option maxHeartbeats 4000000 in
theorem go_mm_chosen (hcx : eCx p { frames := 10, cells := 0, slots := 0, locals := 231 } s m args meth c cX12_chosen RX12 5 ad D cA vwCl SHm SSm (eWd yX12_chosen cX12_chosen 5 (some .long)) (some .long)) (a1 : Int32) (a2 : Int32) (a3 : Int32) (a4 : Int32) (w : eW) (x : Int64 × eW) (h : f_mm_chosen a1 a2 a3 a4 w = some x) : eGq p l e { frames := 10, cells := 0, slots := 0, locals := 231 } s m args below meth c 5 ad D cA vwCl SHm rJ x 0 (eEnt [.ref 24, .int a1, .int a2, .int a3, .int a4]) [] w := by
  have h : eRun SHm SSm 5 rs_mm_chosen (eCs cs_mm_chosen) rJ CX12_chosen [] (fun pc L st w => none) 30 true 0 [some (.ref 24), some (.int a1), some (.int a2), some (.int a3), some (.int a4)] [] w = some x := h
  refine eGo.wk (eRun_go hcx (eLnk_all lk_mm_chosen) (eHc_all hc_mm_chosen) rJ_ok dcX12_chosen [] _ (fun pc L st w hK => ?_) 30 true 0 _ _ w h) (eLe_wk ⟨rfl, rfl, rfl, rfl, rfl, trivial⟩)
  cases hK
end
set_option maxRecDepth 100000 in
set_option maxHeartbeats 4000000 in
theorem ok_mm_chosen {l : Launch} {ad : Nat → Nat} {D : va_G} {cA : Nat → ClassId} {ρ : Type} (as : List Value) (w : eW) (k : Option Value → eW → Option ρ) (x : ρ) (h : K_mm_chosen as w k = some x) : ∃ (v : Option Value) (w2 : eW), k v w2 = some x ∧ eMet l ad D cA vwCl SHm SSm yX12_chosen (eWd yX12_chosen cX12_chosen 5 (some .long)) { frames := 10, cells := 0, slots := 0, locals := 231 } as w v w2 := by
  unfold K_mm_chosen at h
  split at h
  · rename_i r0 a1 a2 a3 a4
    obtain ⟨h1, h5⟩ := eBif h
    clear h
    have h := h5
    clear h5
    have h1 := Nat.eq_of_beq_eq_true h1
    subst h1
    obtain ⟨q, h2, h3⟩ := Option.bind_eq_some_iff.mp h
    exact ⟨_, _, h3, eMet_of (by decide +kernel) rfl (by simp [eCat, Value.category]) rJ_ret (fun p e s m args below meth c hcx => go_mm_chosen hcx a1 a2 a3 a4 w q h2)⟩
  · cases h
def CX12_isSteady : eCo := [[some (.iconst 0), some (.istore_n 3), some (.iload_n 3), some (.aload_n 0), some (.getfield 98), none, none, some (.if_icmp .ge 76), none, none, some (.aload_n 0), some (.iload_n 3), some (.invokevirtual 250), none, none, some (.ifCond .ne 6)],
  [none, none, some (.goto 59), none, none, some (.aload_n 0), some (.iload_n 1), some (.iload_n 2), some (.invokevirtual 387), none, none, some (.aload_n 0), some (.iload_n 3), some (.iconst 0), some (.invokevirtual 326), none],
  [none, some (.lstore 4), none, some (.aload_n 0), some (.iload_n 3), some (.iconst 1), some (.invokevirtual 326), none, none, some (.lstore 6), none, some (.aload_n 0), some (.iload_n 1), some (.iconst 1), some (.iload_n 3), some (.ishl)],
  [some (.ixor), some (.iload_n 2), some (.invokevirtual 387), none, none, some (.aload_n 0), some (.iload_n 3), some (.iconst 0), some (.invokevirtual 326), none, none, some (.aload_n 0), some (.iload_n 3), some (.iconst 1), some (.invokevirtual 326), none],
  [none, some (.lload 4), none, some (.lload 6), none, some (.invokestatic 365), none, none, some (.ifCond .le 5), none, none, some (.iconst 0), some (.ireturn), some (.iinc 3 1), none, none],
  [some (.goto (-78)), none, none, some (.iconst 1), some (.ireturn)]]
theorem dcX12_isSteady : eDec cX12_isSteady CX12_isSteady := eDec_of (by decide +kernel)
def rs_mm_isSteady : List (Nat × eR) := [(98, (0, 11, 1, 0)), (250, (1, 0, 1, 11)), (326, (1, 2, 2, 11)), (365, (1, 3, 4, -1)), (387, (1, 1, 2, 11))]
noncomputable def cs_mm_isSteady : List (eF (Int32 × eW)) := [K_mm_canTurn, K_mm_layChoice, K_mm_lowest, K_mm_against]
noncomputable def f_mm_isSteady_L2 : Nat → Int32 → Int32 → Int32 → eW → Option (Int32 × eW)
  | 0, _, _, _, _ => none
  | n + 1, a1, a2, a3, w => (if (w.1 24 1) ≤ a3 then (some ((1 : Int32), w)) else ((f_mm_canTurn a3 w).bind fun p1 => (if ¬ p1.1 = 0 then ((f_mm_layChoice a1 a2 p1.2).bind fun w2 => ((f_mm_lowest a3 (0 : Int32) w2).bind fun p3 => ((f_mm_lowest a3 (1 : Int32) p3.2).bind fun p4 => ((f_mm_layChoice (a1 ^^^ ((1 : Int32) <<< (a3 &&& 31))) a2 p4.2).bind fun w5 => ((f_mm_lowest a3 (0 : Int32) w5).bind fun p6 => ((f_mm_lowest a3 (1 : Int32) p6.2).bind fun p7 => ((f_mm_against p6.1 p7.1 p3.1 p4.1 p7.2).bind fun p8 => (if p8.1 ≤ 0 then (f_mm_isSteady_L2 n a1 a2 (a3 + (1 : Int32)) p8.2) else (some ((0 : Int32), p8.2)))))))))) else (f_mm_isSteady_L2 n a1 a2 (a3 + (1 : Int32)) p1.2))))
noncomputable def f_mm_isSteady (a1 : Int32) (a2 : Int32) (w : eW) : Option (Int32 × eW) := (f_mm_isSteady_L2 eFu a1 a2 (0 : Int32) w)
noncomputable def K_mm_isSteady {ρ : Type} : eF ρ := fun as w k => match as with
  | [.ref r0, .int a1, .int a2] => bif Nat.beq r0 24 then (f_mm_isSteady a1 a2 w).bind (fun p => k (some (.int p.1)) p.2) else none
  | _ => none
section
variable {p : Program} {l : Launch} {e : Env} {s : State} {m : MethodId} {args : Array Value} {below : List Frame} {meth : Method} {c : Code} {ad : Nat → Nat} {D : va_G} {cA : Nat → ClassId}
theorem lk_mm_isSteady : ∀ q ∈ rs_mm_isSteady, eLnk { frames := 10, cells := 0, slots := 0, locals := 231 } vwCl (eWd yX12_isSteady cX12_isSteady 8 (some .boolean)) SSm SHm.length RX12 q.1 q.2 := List.forall_mem_cons.mpr ⟨lkX12_98 eTb_wd, List.forall_mem_cons.mpr ⟨trivial, List.forall_mem_cons.mpr ⟨trivial, List.forall_mem_cons.mpr ⟨trivial, List.forall_mem_cons.mpr ⟨trivial, fun _ h => absurd h List.not_mem_nil⟩⟩⟩⟩⟩
theorem hc_mm_isSteady {x : Int32 × eW} : ∀ q ∈ rs_mm_isSteady, eHc l { frames := 10, cells := 0, slots := 0, locals := 231 } ad D cA vwCl SHm SSm (eWd yX12_isSteady cX12_isSteady 8 (some .boolean)) RX12 cs_mm_isSteady x q := List.forall_mem_cons.mpr ⟨trivial, List.forall_mem_cons.mpr ⟨(fun as w k h => let ⟨v, w2, h1, h2⟩ := ok_mm_canTurn as w k x h; ⟨v, w2, h1, eCal_of h2 ⟨rfl, rfl⟩ hdX12_canTurn (gvX12_250 eTb_wd)⟩), List.forall_mem_cons.mpr ⟨(fun as w k h => let ⟨v, w2, h1, h2⟩ := ok_mm_lowest as w k x h; ⟨v, w2, h1, eCal_of h2 ⟨rfl, rfl⟩ hdX12_lowest (gvX12_326 eTb_wd)⟩), List.forall_mem_cons.mpr ⟨(fun as w k h => let ⟨v, w2, h1, h2⟩ := ok_mm_against as w k x h; ⟨v, w2, h1, eCal_of h2 ⟨rfl, rfl⟩ hdX12_against (gvX12_365 eTb_wd)⟩), List.forall_mem_cons.mpr ⟨(fun as w k h => let ⟨v, w2, h1, h2⟩ := ok_mm_layChoice as w k x h; ⟨v, w2, h1, eCal_of h2 ⟨rfl, rfl⟩ hdX12_layChoice (gvX12_387 eTb_wd)⟩), fun _ h => absurd h List.not_mem_nil⟩⟩⟩⟩⟩
noncomputable def kk_mm_isSteady_2 (n : Nat) : eK (Int32 × eW) := fun pc L st w => bif Nat.beq pc 2 then (lR L 0 24 ((lI L 1).bind fun a1 => (lI L 2).bind fun a2 => (lI L 3).bind fun a3 => sE st (f_mm_isSteady_L2 n a1 a2 a3 w))) else none
set_option maxRecDepth 100000 in
set_option maxHeartbeats 4000000 in
theorem go_mm_isSteady_L2 (hcx : eCx p { frames := 10, cells := 0, slots := 0, locals := 231 } s m args meth c cX12_isSteady RX12 8 ad D cA vwCl SHm SSm (eWd yX12_isSteady cX12_isSteady 8 (some .boolean)) (some .boolean)) {x : Int32 × eW} : ∀ (n : Nat) (a1 : Int32) (a2 : Int32) (a3 : Int32) (w : eW), f_mm_isSteady_L2  n a1 a2 a3 w = some x → eGq p l e { frames := 10, cells := 0, slots := 0, locals := 231 } s m args below meth c 8 ad D cA vwCl SHm rZ x 2 [some (.ref 24), some (.int a1), some (.int a2), some (.int a3), none, none, none, none] [] w := by
  intro n
  induction n with
  | zero => intro a1 a2 a3 w h; exact nomatch (show (none : Option (Int32 × eW)) = some x from h)
  | succ n ih =>
    intro a1 a2 a3 w h
    have h : eRun SHm SSm 8 rs_mm_isSteady (eCs cs_mm_isSteady) rZ CX12_isSteady [2] (kk_mm_isSteady_2  n) 47 true 2 [some (.ref 24), some (.int a1), some (.int a2), some (.int a3), none, none, none, none] [] w = some x := h
    refine eRun_go hcx (eLnk_all lk_mm_isSteady) (eHc_all hc_mm_isSteady) rZ_ok dcX12_isSteady [2] _ (fun pc L st w hK => ?_) 47 true 2 _ _ w h
    unfold kk_mm_isSteady_2 at hK
    rcases eCut hK with ⟨hpc, hK⟩ | hK
    · subst hpc
      obtain ⟨e0, hK_1⟩ := lR_some hK
      obtain ⟨a1, e1, hK_2⟩ := lI_some hK_1
      obtain ⟨a2, e2, hK_3⟩ := lI_some hK_2
      obtain ⟨a3, e3, hK_4⟩ := lI_some hK_3
      obtain ⟨hst9, hK_5⟩ := sE_some hK_4
      subst hst9
      exact eGo.wk (ih a1 a2 a3 w hK_5) (eLe_wk ⟨e0, e1, e2, e3, trivial⟩)
    cases hK
set_option maxRecDepth 100000 in
set_option maxHeartbeats 4000000 in
theorem go_mm_isSteady (hcx : eCx p { frames := 10, cells := 0, slots := 0, locals := 231 } s m args meth c cX12_isSteady RX12 8 ad D cA vwCl SHm SSm (eWd yX12_isSteady cX12_isSteady 8 (some .boolean)) (some .boolean)) (a1 : Int32) (a2 : Int32) (w : eW) (x : Int32 × eW) (h : f_mm_isSteady a1 a2 w = some x) : eGq p l e { frames := 10, cells := 0, slots := 0, locals := 231 } s m args below meth c 8 ad D cA vwCl SHm rZ x 0 (eEnt [.ref 24, .int a1, .int a2]) [] w := by
  have h : eRun SHm SSm 8 rs_mm_isSteady (eCs cs_mm_isSteady) rZ CX12_isSteady [2] (fun pc L st w => bif Nat.beq pc 2 then (lR L 0 24 ((lI L 1).bind fun a1 => (lI L 2).bind fun a2 => (lI L 3).bind fun a3 => sE st (f_mm_isSteady_L2 eFu a1 a2 a3 w))) else none) 5 true 0 [some (.ref 24), some (.int a1), some (.int a2), none, none, none, none, none] [] w = some x := h
  refine eGo.wk (eRun_go hcx (eLnk_all lk_mm_isSteady) (eHc_all hc_mm_isSteady) rZ_ok dcX12_isSteady [2] _ (fun pc L st w hK => ?_) 5 true 0 _ _ w h) (eLe_wk ⟨rfl, rfl, rfl, trivial⟩)
  rcases eCut hK with ⟨hpc, hK⟩ | hK
  · subst hpc
    obtain ⟨e0, hK_1⟩ := lR_some hK
    obtain ⟨a1, e1, hK_2⟩ := lI_some hK_1
    obtain ⟨a2, e2, hK_3⟩ := lI_some hK_2
    obtain ⟨a3, e3, hK_4⟩ := lI_some hK_3
    obtain ⟨hst9, hK_5⟩ := sE_some hK_4
    subst hst9
    exact eGo.wk (go_mm_isSteady_L2 hcx  eFu a1 a2 a3 w hK_5) (eLe_wk ⟨e0, e1, e2, e3, trivial⟩)
  cases hK
end
set_option maxRecDepth 100000 in
set_option maxHeartbeats 4000000 in
theorem ok_mm_isSteady {l : Launch} {ad : Nat → Nat} {D : va_G} {cA : Nat → ClassId} {ρ : Type} (as : List Value) (w : eW) (k : Option Value → eW → Option ρ) (x : ρ) (h : K_mm_isSteady as w k = some x) : ∃ (v : Option Value) (w2 : eW), k v w2 = some x ∧ eMet l ad D cA vwCl SHm SSm yX12_isSteady (eWd yX12_isSteady cX12_isSteady 8 (some .boolean)) { frames := 10, cells := 0, slots := 0, locals := 231 } as w v w2 := by
  unfold K_mm_isSteady at h
  split at h
  · rename_i r0 a1 a2
    obtain ⟨h1, h5⟩ := eBif h
    clear h
    have h := h5
    clear h5
    have h1 := Nat.eq_of_beq_eq_true h1
    subst h1
    obtain ⟨q, h2, h3⟩ := Option.bind_eq_some_iff.mp h
    exact ⟨_, _, h3, eMet_of (by decide +kernel) rfl (by simp [eCat, Value.category]) rZ_ret (fun p e s m args below meth c hcx => go_mm_isSteady hcx a1 a2 w q h2)⟩
  · cases h
