def CX1_setPart : eCo := [[some (.aload_n 0), some (.lload_n 3), some (.lconst 0), some (.lcmp), some (.ifCond .le 7), none, none, some (.lload_n 1), some (.goto 4), none, none, some (.lconst 0), some (.putfield 96), none, none, some (.aload_n 0)],
  [some (.lload_n 3), some (.lconst 0), some (.lcmp), some (.ifCond .le 7), none, none, some (.lload_n 3), some (.goto 4), none, none, some (.lconst 1), some (.putfield 18), none, none, some (.return_)]]
theorem dcX1_setPart : eDec cX1_setPart CX1_setPart := eDec_of (by decide +kernel)
def rs_br_setPart : List (Nat × eR) := [(18, (0, 1, 5, 1)), (96, (0, 1, 4, 1))]
noncomputable def cs_br_setPart : List (eF (eW)) := []
noncomputable def f_br_setPart (a1 : Int64) (a3 : Int64) (w : eW) : Option (eW) := (if (lg_cmp a3 (0 : Int64)) ≤ 0 then (if (lg_cmp a3 (0 : Int64)) ≤ 0 then (some (eU2 (eU2 w 27 4 (0 : Int64)) 27 5 (1 : Int64))) else (some (eU2 (eU2 w 27 4 (0 : Int64)) 27 5 a3))) else (if (lg_cmp a3 (0 : Int64)) ≤ 0 then (some (eU2 (eU2 w 27 4 a1) 27 5 (1 : Int64))) else (some (eU2 (eU2 w 27 4 a1) 27 5 a3))))
noncomputable def K_br_setPart {ρ : Type} : eF ρ := fun as w k => match as with
  | [.ref r0, .long a1, .long a3] => bif Nat.beq r0 27 then (f_br_setPart a1 a3 w).bind (fun w => k none w) else none
  | _ => none
section
variable {p : Program} {l : Launch} {e : Env} {s : State} {m : MethodId} {args : Array Value} {below : List Frame} {meth : Method} {c : Code} {ad : Nat → Nat} {D : va_G} {cA : Nat → ClassId}
theorem lk_br_setPart : ∀ q ∈ rs_br_setPart, eLnk { frames := 0, cells := 0, slots := 0, locals := 0 } vwCl (eWd yX1_setPart cX1_setPart 5 none) SSc SHc.length RX1 q.1 q.2 := List.forall_mem_cons.mpr ⟨lkX1_18 eTb_wd, List.forall_mem_cons.mpr ⟨lkX1_96 eTb_wd, fun _ h => absurd h List.not_mem_nil⟩⟩
theorem hc_br_setPart {x : eW} : ∀ q ∈ rs_br_setPart, eHc l { frames := 0, cells := 0, slots := 0, locals := 0 } ad D cA vwCl SHc SSc (eWd yX1_setPart cX1_setPart 5 none) RX1 cs_br_setPart x q := List.forall_mem_cons.mpr ⟨trivial, List.forall_mem_cons.mpr ⟨trivial, fun _ h => absurd h List.not_mem_nil⟩⟩
set_option maxRecDepth 100000 in
set_option maxHeartbeats 4000000 in
theorem go_br_setPart (hcx : eCx p { frames := 0, cells := 0, slots := 0, locals := 0 } s m args meth c cX1_setPart RX1 5 ad D cA vwCl SHc SSc (eWd yX1_setPart cX1_setPart 5 none) (none)) (a1 : Int64) (a3 : Int64) (w : eW) (x : eW) (h : f_br_setPart a1 a3 w = some x) : eGq p l e { frames := 0, cells := 0, slots := 0, locals := 0 } s m args below meth c 5 ad D cA vwCl SHc rV x 0 (eEnt [.ref 27, .long a1, .long a3]) [] w := by
  have h : eRun SHc SSc 5 rs_br_setPart (eCs cs_br_setPart) rV CX1_setPart [] (fun pc L st w => none) 19 true 0 [some (.ref 27), some (.long a1), none, some (.long a3), none] [] w = some x := h
  refine eGo.wk (eRun_go hcx (eLnk_all lk_br_setPart) (eHc_all hc_br_setPart) rV_ok dcX1_setPart [] _ (fun pc L st w hK => ?_) 19 true 0 _ _ w h) (eLe_wk ⟨rfl, rfl, rfl, trivial⟩)
  cases hK
end
set_option maxRecDepth 100000 in
set_option maxHeartbeats 4000000 in
theorem ok_br_setPart {l : Launch} {ad : Nat → Nat} {D : va_G} {cA : Nat → ClassId} {ρ : Type} (as : List Value) (w : eW) (k : Option Value → eW → Option ρ) (x : ρ) (h : K_br_setPart as w k = some x) : ∃ (v : Option Value) (w2 : eW), k v w2 = some x ∧ eMet l ad D cA vwCl SHc SSc yX1_setPart (eWd yX1_setPart cX1_setPart 5 none) { frames := 0, cells := 0, slots := 0, locals := 0 } as w v w2 := by
  unfold K_br_setPart at h
  split at h
  · rename_i r0 a1 a3
    obtain ⟨h1, h5⟩ := eBif h
    clear h
    have h := h5
    clear h5
    have h1 := Nat.eq_of_beq_eq_true h1
    subst h1
    obtain ⟨q, h2, h3⟩ := Option.bind_eq_some_iff.mp h
    exact ⟨_, _, h3, eMet_of (by decide +kernel) rfl (by simp [eCat, Value.category]) rV_ret (fun p e s m args below meth c hcx => go_br_setPart hcx a1 a3 w q h2)⟩
  · cases h
def CX1_findPartByLevel : eCo := [[some (.iload_n 3), some (.ifCond .le 15), none, none, some (.iload_n 3), some (.aload_n 0), some (.getfield 22), none, none, some (.if_icmp .gt 7), none, none, some (.iconst 1), some (.goto 4), none, none],
  [some (.iconst 0), some (.istore 4), none, some (.aload_n 1), some (.iload 4), none, some (.ifCond .eq 14), none, none, some (.aload_n 0), some (.getfield 11), none, none, some (.iload_n 3), some (.iconst 1), some (.isub)],
  [some (.laload), some (.goto 4), none, none, some (.lconst 0), some (.iload 4), none, some (.ifCond .eq 14), none, none, some (.aload_n 0), some (.getfield 15), none, none, some (.iload_n 3), some (.iconst 1)],
  [some (.isub), some (.laload), some (.goto 4), none, none, some (.lconst 1), some (.iconst 1), some (.invokevirtual 86), none, none, some (.aload_n 0), some (.iload_n 2), some (.ifCond .lt 20), none, none, some (.iload_n 2)],
  [some (.aload_n 1), some (.getfield 76), none, none, some (.if_icmp .ge 12), none, none, some (.aload_n 1), some (.getfield 90), none, none, some (.iload_n 2), some (.laload), some (.goto 4), none, none],
  [some (.lconst 0), some (.aload_n 1), some (.getfield 93), none, none, some (.invokevirtual 83), none, none, some (.return_)]]
theorem dcX1_findPartByLevel : eDec cX1_findPartByLevel CX1_findPartByLevel := eDec_of (by decide +kernel)
def rs_br_findPartByLevel : List (Nat × eR) := [(11, (0, 1, 0, 2)), (15, (0, 1, 1, 2)), (22, (0, 1, 2, 0)), (76, (0, 2, 0, 0)), (83, (1, 1, 2, 1)), (86, (1, 0, 3, 2)), (90, (0, 2, 4, 2)), (93, (0, 2, 6, 1))]
noncomputable def cs_br_findPartByLevel : List (eF (eW)) := [K_cu_sweep, K_br_setPart]
noncomputable def f_br_findPartByLevel_J37 (a2 : Int32) (a3 : Int32) (a4 : Int32) (s0 : Int64) (w : eW) : Option (eW) := (if a4 = 0 then ((f_cu_sweep s0 (1 : Int64) (1 : Int32) w).bind fun w1 => (if a2 < 0 then ((f_br_setPart (0 : Int64) (w1.2 19 6) w1).bind fun w2 => (some w2)) else (if (w1.1 19 0) ≤ a2 then ((f_br_setPart (0 : Int64) (w1.2 19 6) w1).bind fun w3 => (some w3)) else (eChk a2 12 ((f_br_setPart (w1.2 12 (Int32.toNatClampNeg a2)) (w1.2 19 6) w1).bind fun w4 => (some w4)))))) else (eChk (a3 - (1 : Int32)) 30 ((f_cu_sweep s0 (w.2 26 (Int32.toNatClampNeg (a3 - (1 : Int32)))) (1 : Int32) w).bind fun w5 => (if a2 < 0 then ((f_br_setPart (0 : Int64) (w5.2 19 6) w5).bind fun w6 => (some w6)) else (if (w5.1 19 0) ≤ a2 then ((f_br_setPart (0 : Int64) (w5.2 19 6) w5).bind fun w7 => (some w7)) else (eChk a2 12 ((f_br_setPart (w5.2 12 (Int32.toNatClampNeg a2)) (w5.2 19 6) w5).bind fun w8 => (some w8))))))))
noncomputable def f_br_findPartByLevel (a2 : Int32) (a3 : Int32) (w : eW) : Option (eW) := (if a3 ≤ 0 then (f_br_findPartByLevel_J37 a2 a3 (0 : Int32) (0 : Int64) w) else (if (w.1 27 2) < a3 then (f_br_findPartByLevel_J37 a2 a3 (0 : Int32) (0 : Int64) w) else (eChk (a3 - (1 : Int32)) 30 (f_br_findPartByLevel_J37 a2 a3 (1 : Int32) (w.2 25 (Int32.toNatClampNeg (a3 - (1 : Int32)))) w))))
noncomputable def K_br_findPartByLevel {ρ : Type} : eF ρ := fun as w k => match as with
  | [.ref r0, .ref r1, .int a2, .int a3] => bif Nat.beq r0 27 then (bif Nat.beq r1 19 then (f_br_findPartByLevel a2 a3 w).bind (fun w => k none w) else none) else none
  | _ => none
section
variable {p : Program} {l : Launch} {e : Env} {s : State} {m : MethodId} {args : Array Value} {below : List Frame} {meth : Method} {c : Code} {ad : Nat → Nat} {D : va_G} {cA : Nat → ClassId}
theorem lk_br_findPartByLevel : ∀ q ∈ rs_br_findPartByLevel, eLnk { frames := 2, cells := 0, slots := 0, locals := 53 } vwCl (eWd yX1_findPartByLevel cX1_findPartByLevel 5 none) SSc SHc.length RX1 q.1 q.2 := List.forall_mem_cons.mpr ⟨lkX1_11 eTb_wd, List.forall_mem_cons.mpr ⟨lkX1_15 eTb_wd, List.forall_mem_cons.mpr ⟨lkX1_22 eTb_wd, List.forall_mem_cons.mpr ⟨lkX1_76 eTb_wd, List.forall_mem_cons.mpr ⟨trivial, List.forall_mem_cons.mpr ⟨trivial, List.forall_mem_cons.mpr ⟨lkX1_90 eTb_wd, List.forall_mem_cons.mpr ⟨lkX1_93 eTb_wd, fun _ h => absurd h List.not_mem_nil⟩⟩⟩⟩⟩⟩⟩⟩
theorem hc_br_findPartByLevel {x : eW} : ∀ q ∈ rs_br_findPartByLevel, eHc l { frames := 2, cells := 0, slots := 0, locals := 53 } ad D cA vwCl SHc SSc (eWd yX1_findPartByLevel cX1_findPartByLevel 5 none) RX1 cs_br_findPartByLevel x q := List.forall_mem_cons.mpr ⟨trivial, List.forall_mem_cons.mpr ⟨trivial, List.forall_mem_cons.mpr ⟨trivial, List.forall_mem_cons.mpr ⟨trivial, List.forall_mem_cons.mpr ⟨(fun as w k h => let ⟨v, w2, h1, h2⟩ := ok_br_setPart as w k x h; ⟨v, w2, h1, eCal_of h2 ⟨rfl, rfl⟩ hdX1_setPart (gvX1_83 eTb_wd)⟩), List.forall_mem_cons.mpr ⟨(fun as w k h => let ⟨v, w2, h1, h2⟩ := ok_cu_sweep as w k x h; ⟨v, w2, h1, eCal_of h2 ⟨rfl, rfl⟩ hdX2_sweep (gvX1_86 eTb_wd)⟩), List.forall_mem_cons.mpr ⟨trivial, List.forall_mem_cons.mpr ⟨trivial, fun _ h => absurd h List.not_mem_nil⟩⟩⟩⟩⟩⟩⟩⟩
noncomputable def kk_br_findPartByLevel_37 : eK (eW) := fun pc L st w => none
set_option maxRecDepth 100000 in
set_option maxHeartbeats 4000000 in
theorem go_br_findPartByLevel_J37 (hcx : eCx p { frames := 2, cells := 0, slots := 0, locals := 53 } s m args meth c cX1_findPartByLevel RX1 5 ad D cA vwCl SHc SSc (eWd yX1_findPartByLevel cX1_findPartByLevel 5 none) (none)) {x : eW} : ∀ (a2 : Int32) (a3 : Int32) (a4 : Int32) (s0 : Int64) (w : eW), f_br_findPartByLevel_J37  a2 a3 a4 s0 w = some x → eGq p l e { frames := 2, cells := 0, slots := 0, locals := 53 } s m args below meth c 5 ad D cA vwCl SHc rV x 37 [some (.ref 27), some (.ref 19), some (.int a2), some (.int a3), some (.int a4)] [.long s0, .ref 19] w := by
  intro a2 a3 a4 s0 w h
  have h : eRun SHc SSc 5 rs_br_findPartByLevel (eCs cs_br_findPartByLevel) rV CX1_findPartByLevel [37] (kk_br_findPartByLevel_37 ) 29 true 37 [some (.ref 27), some (.ref 19), some (.int a2), some (.int a3), some (.int a4)] [.long s0, .ref 19] w = some x := h
  refine eRun_go hcx (eLnk_all lk_br_findPartByLevel) (eHc_all hc_br_findPartByLevel) rV_ok dcX1_findPartByLevel [37] _ (fun pc L st w hK => ?_) 29 true 37 _ _ w h
  unfold kk_br_findPartByLevel_37 at hK
  cases hK
set_option maxRecDepth 100000 in
set_option maxHeartbeats 4000000 in
theorem go_br_findPartByLevel (hcx : eCx p { frames := 2, cells := 0, slots := 0, locals := 53 } s m args meth c cX1_findPartByLevel RX1 5 ad D cA vwCl SHc SSc (eWd yX1_findPartByLevel cX1_findPartByLevel 5 none) (none)) (a2 : Int32) (a3 : Int32) (w : eW) (x : eW) (h : f_br_findPartByLevel a2 a3 w = some x) : eGq p l e { frames := 2, cells := 0, slots := 0, locals := 53 } s m args below meth c 5 ad D cA vwCl SHc rV x 0 (eEnt [.ref 27, .ref 19, .int a2, .int a3]) [] w := by
  have h : eRun SHc SSc 5 rs_br_findPartByLevel (eCs cs_br_findPartByLevel) rV CX1_findPartByLevel [37] (fun pc L st w => bif Nat.beq pc 37 then (lR L 0 27 (lR L 1 19 ((lI L 2).bind fun a2 => (lI L 3).bind fun a3 => (lI L 4).bind fun a4 => sJ st (fun s0 st1 => sR st1 19 (fun st2 => sE st2 (f_br_findPartByLevel_J37 a2 a3 a4 s0 w)))))) else none) 22 true 0 [some (.ref 27), some (.ref 19), some (.int a2), some (.int a3), none] [] w = some x := h
  refine eGo.wk (eRun_go hcx (eLnk_all lk_br_findPartByLevel) (eHc_all hc_br_findPartByLevel) rV_ok dcX1_findPartByLevel [37] _ (fun pc L st w hK => ?_) 22 true 0 _ _ w h) (eLe_wk ⟨rfl, rfl, rfl, rfl, trivial⟩)
  rcases eCut hK with ⟨hpc, hK⟩ | hK
  · subst hpc
    obtain ⟨e0, hK_1⟩ := lR_some hK
    obtain ⟨e1, hK_2⟩ := lR_some hK_1
    obtain ⟨a2, e2, hK_3⟩ := lI_some hK_2
    obtain ⟨a3, e3, hK_4⟩ := lI_some hK_3
    obtain ⟨a4, e4, hK_5⟩ := lI_some hK_4
    obtain ⟨s0, st1, hst0, hK_6⟩ := sJ_some hK_5
    subst hst0
    obtain ⟨st2, hst1, hK_7⟩ := sR_some hK_6
    subst hst1
    obtain ⟨hst9, hK_8⟩ := sE_some hK_7
    subst hst9
    exact eGo.wk (go_br_findPartByLevel_J37 hcx  a2 a3 a4 s0 w hK_8) (eLe_wk ⟨e0, e1, e2, e3, e4, trivial⟩)
  cases hK
end
set_option maxRecDepth 100000 in
set_option maxHeartbeats 4000000 in
theorem ok_br_findPartByLevel {l : Launch} {ad : Nat → Nat} {D : va_G} {cA : Nat → ClassId} {ρ : Type} (as : List Value) (w : eW) (k : Option Value → eW → Option ρ) (x : ρ) (h : K_br_findPartByLevel as w k = some x) : ∃ (v : Option Value) (w2 : eW), k v w2 = some x ∧ eMet l ad D cA vwCl SHc SSc yX1_findPartByLevel (eWd yX1_findPartByLevel cX1_findPartByLevel 5 none) { frames := 2, cells := 0, slots := 0, locals := 53 } as w v w2 := by
  unfold K_br_findPartByLevel at h
  split at h
  · rename_i r0 r1 a2 a3
    obtain ⟨h1, h5⟩ := eBif h
    clear h
    have h := h5
    clear h5
    have h1 := Nat.eq_of_beq_eq_true h1
    subst h1
    obtain ⟨h1, h5⟩ := eBif h
    clear h
    have h := h5
    clear h5
    have h1 := Nat.eq_of_beq_eq_true h1
    subst h1
    obtain ⟨q, h2, h3⟩ := Option.bind_eq_some_iff.mp h
    exact ⟨_, _, h3, eMet_of (by decide +kernel) rfl (by simp [eCat, Value.category]) rV_ret (fun p e s m args below meth c hcx => go_br_findPartByLevel hcx a2 a3 w q h2)⟩
  · cases h
def CX3_rankOf : eCo := [[some (.iload_n 1), some (.ifCond .lt 18), none, none, some (.iload_n 1), some (.bipush 12), none, some (.if_icmp .ge 12), none, none, some (.aload_n 0), some (.getfield 18), none, none, some (.iload_n 1), some (.iaload)],
  [some (.goto 4), none, none, some (.iconst (-1)), some (.ireturn)]]
theorem dcX3_rankOf : eDec cX3_rankOf CX3_rankOf := eDec_of (by decide +kernel)
def rs_fa_rankOf : List (Nat × eR) := [(18, (0, 3, 1, 2))]
noncomputable def cs_fa_rankOf : List (eF (Int32 × eW)) := []
noncomputable def f_fa_rankOf (a1 : Int32) (w : eW) : Option (Int32 × eW) := (if a1 < 0 then (some ((-1 : Int32), w)) else (if (12 : Int32) ≤ a1 then (some ((-1 : Int32), w)) else (eChk a1 12 (some ((w.1 20 (Int32.toNatClampNeg a1)), w)))))
noncomputable def K_fa_rankOf {ρ : Type} : eF ρ := fun as w k => match as with
  | [.ref r0, .int a1] => bif Nat.beq r0 24 then (f_fa_rankOf a1 w).bind (fun p => k (some (.int p.1)) p.2) else none
  | _ => none
section
variable {p : Program} {l : Launch} {e : Env} {s : State} {m : MethodId} {args : Array Value} {below : List Frame} {meth : Method} {c : Code} {ad : Nat → Nat} {D : va_G} {cA : Nat → ClassId}
theorem lk_fa_rankOf : ∀ q ∈ rs_fa_rankOf, eLnk { frames := 0, cells := 0, slots := 0, locals := 0 } vwCl (eWd yX3_rankOf cX3_rankOf 2 (some .int)) SSc SHc.length RX3 q.1 q.2 := List.forall_mem_cons.mpr ⟨lkX3_18 eTb_wd, fun _ h => absurd h List.not_mem_nil⟩
theorem hc_fa_rankOf {x : Int32 × eW} : ∀ q ∈ rs_fa_rankOf, eHc l { frames := 0, cells := 0, slots := 0, locals := 0 } ad D cA vwCl SHc SSc (eWd yX3_rankOf cX3_rankOf 2 (some .int)) RX3 cs_fa_rankOf x q := List.forall_mem_cons.mpr ⟨trivial, fun _ h => absurd h List.not_mem_nil⟩
set_option maxRecDepth 100000 in
set_option maxHeartbeats 4000000 in
theorem go_fa_rankOf (hcx : eCx p { frames := 0, cells := 0, slots := 0, locals := 0 } s m args meth c cX3_rankOf RX3 2 ad D cA vwCl SHc SSc (eWd yX3_rankOf cX3_rankOf 2 (some .int)) (some .int)) (a1 : Int32) (w : eW) (x : Int32 × eW) (h : f_fa_rankOf a1 w = some x) : eGq p l e { frames := 0, cells := 0, slots := 0, locals := 0 } s m args below meth c 2 ad D cA vwCl SHc rI x 0 (eEnt [.ref 24, .int a1]) [] w := by
  have h : eRun SHc SSc 2 rs_fa_rankOf (eCs cs_fa_rankOf) rI CX3_rankOf [] (fun pc L st w => none) 13 true 0 [some (.ref 24), some (.int a1)] [] w = some x := h
  refine eGo.wk (eRun_go hcx (eLnk_all lk_fa_rankOf) (eHc_all hc_fa_rankOf) rI_ok dcX3_rankOf [] _ (fun pc L st w hK => ?_) 13 true 0 _ _ w h) (eLe_wk ⟨rfl, rfl, trivial⟩)
  cases hK
end
set_option maxRecDepth 100000 in
set_option maxHeartbeats 4000000 in
theorem ok_fa_rankOf {l : Launch} {ad : Nat → Nat} {D : va_G} {cA : Nat → ClassId} {ρ : Type} (as : List Value) (w : eW) (k : Option Value → eW → Option ρ) (x : ρ) (h : K_fa_rankOf as w k = some x) : ∃ (v : Option Value) (w2 : eW), k v w2 = some x ∧ eMet l ad D cA vwCl SHc SSc yX3_rankOf (eWd yX3_rankOf cX3_rankOf 2 (some .int)) { frames := 0, cells := 0, slots := 0, locals := 0 } as w v w2 := by
  unfold K_fa_rankOf at h
  split at h
  · rename_i r0 a1
    obtain ⟨h1, h5⟩ := eBif h
    clear h
    have h := h5
    clear h5
    have h1 := Nat.eq_of_beq_eq_true h1
    subst h1
    obtain ⟨q, h2, h3⟩ := Option.bind_eq_some_iff.mp h
    exact ⟨_, _, h3, eMet_of (by decide +kernel) rfl (by simp [eCat, Value.category]) rI_ret (fun p e s m args below meth c hcx => go_fa_rankOf hcx a1 w q h2)⟩
  · cases h
def CX1_findPartOfRank : eCo := [[some (.iconst (-1)), some (.istore 4), none, some (.iconst 0), some (.istore 5), none, some (.iconst 0), some (.istore 6), none, some (.iload 5), none, some (.iconst 5), some (.if_icmp .gt 44), none, none, some (.iload 4)],
  [none, some (.iconst (-1)), some (.if_icmp .ne 38), none, none, some (.aload_n 1), some (.getfield 26), none, none, some (.iload 5), none, some (.laload), some (.lconst 0), some (.lcmp), some (.ifCond .le 20), none],
  [none, some (.iload 6), none, some (.iload_n 3), some (.if_icmp .ne 8), none, none, some (.iload 5), none, some (.goto 4), none, none, some (.iconst (-1)), some (.istore 4), none, some (.iinc 6 1)],
  [none, none, some (.iinc 5 1), none, none, some (.goto (-44)), none, none, some (.iload 4), none, some (.ifCond .lt 9), none, none, some (.iload 4), none, some (.iconst 5)],
  [some (.if_icmp .le 4), none, none, some (.return_), some (.iload_n 2), some (.ifCond .lt 28), none, none, some (.iload_n 2), some (.aload_n 1), some (.getfield 38), none, none, some (.getfield 76), none, none],
  [some (.if_icmp .ge 17), none, none, some (.aload_n 1), some (.iload_n 2), some (.invokevirtual 77), none, none, some (.iload 4), none, some (.if_icmp .ne 7), none, none, some (.iconst 1), some (.goto 4), none],
  [none, some (.iconst 0), some (.istore 5), none, some (.aload_n 0), some (.iload 5), none, some (.ifCond .eq 15), none, none, some (.aload_n 1), some (.getfield 38), none, none, some (.getfield 80), none],
  [none, some (.iload_n 2), some (.laload), some (.goto 4), none, none, some (.lconst 0), some (.aload_n 1), some (.getfield 26), none, none, some (.iload 4), none, some (.laload), some (.invokevirtual 83), none],
  [none, some (.return_)]]
theorem dcX1_findPartOfRank : eDec cX1_findPartOfRank CX1_findPartOfRank := eDec_of (by decide +kernel)
def rs_br_findPartOfRank : List (Nat × eR) := [(26, (0, 3, 2, 2)), (38, (0, 3, 0, 2)), (76, (0, 2, 0, 0)), (77, (1, 1, 1, 3)), (80, (0, 2, 1, 2)), (83, (1, 0, 2, 1))]
noncomputable def cs_br_findPartOfRank : List (eF (eW)) := [K_br_setPart, K_fa_rankOf]
noncomputable def f_br_findPartOfRank_J56 (a2 : Int32) (a4 : Int32) (w : eW) : Option (eW) := (if a4 < 0 then (some w) else (if a4 ≤ (5 : Int32) then (if a2 < 0 then (eChk a4 6 ((f_br_setPart (0 : Int64) (w.2 21 (Int32.toNatClampNeg a4)) w).bind fun w1 => (some w1))) else (if (w.1 19 0) ≤ a2 then (eChk a4 6 ((f_br_setPart (0 : Int64) (w.2 21 (Int32.toNatClampNeg a4)) w).bind fun w2 => (some w2))) else ((f_fa_rankOf a2 w).bind fun p3 => (if ¬ p3.1 = a4 then (eChk a4 6 ((f_br_setPart (0 : Int64) (p3.2.2 21 (Int32.toNatClampNeg a4)) p3.2).bind fun w4 => (some w4))) else (eChk a2 12 (eChk a4 6 ((f_br_setPart (p3.2.2 9 (Int32.toNatClampNeg a2)) (p3.2.2 21 (Int32.toNatClampNeg a4)) p3.2).bind fun w5 => (some w5)))))))) else (some w)))
noncomputable def f_br_findPartOfRank_L9 : Nat → Int32 → Int32 → Int32 → Int32 → Int32 → eW → Option (eW)
  | 0, _, _, _, _, _, _ => none
  | n + 1, a2, a3, a4, a5, a6, w => (if (5 : Int32) < a5 then (f_br_findPartOfRank_J56 a2 a4 w) else (if ¬ a4 = (-1 : Int32) then (f_br_findPartOfRank_J56 a2 a4 w) else (eChk a5 6 (if (lg_cmp (w.2 21 (Int32.toNatClampNeg a5)) (0 : Int64)) ≤ 0 then (f_br_findPartOfRank_L9 n a2 a3 a4 (a5 + (1 : Int32)) a6 w) else (if ¬ a6 = a3 then (f_br_findPartOfRank_L9 n a2 a3 (-1 : Int32) (a5 + (1 : Int32)) (a6 + (1 : Int32)) w) else (f_br_findPartOfRank_L9 n a2 a3 a5 (a5 + (1 : Int32)) (a6 + (1 : Int32)) w))))))
noncomputable def f_br_findPartOfRank (a2 : Int32) (a3 : Int32) (w : eW) : Option (eW) := (f_br_findPartOfRank_L9 eFu a2 a3 (-1 : Int32) (0 : Int32) (0 : Int32) w)
noncomputable def K_br_findPartOfRank {ρ : Type} : eF ρ := fun as w k => match as with
  | [.ref r0, .ref r1, .int a2, .int a3] => bif Nat.beq r0 27 then (bif Nat.beq r1 24 then (f_br_findPartOfRank a2 a3 w).bind (fun w => k none w) else none) else none
  | _ => none
section
variable {p : Program} {l : Launch} {e : Env} {s : State} {m : MethodId} {args : Array Value} {below : List Frame} {meth : Method} {c : Code} {ad : Nat → Nat} {D : va_G} {cA : Nat → ClassId}
theorem lk_br_findPartOfRank : ∀ q ∈ rs_br_findPartOfRank, eLnk { frames := 1, cells := 0, slots := 0, locals := 24 } vwCl (eWd yX1_findPartOfRank cX1_findPartOfRank 7 none) SSc SHc.length RX1 q.1 q.2 := List.forall_mem_cons.mpr ⟨lkX1_26 eTb_wd, List.forall_mem_cons.mpr ⟨lkX1_38 eTb_wd, List.forall_mem_cons.mpr ⟨lkX1_76 eTb_wd, List.forall_mem_cons.mpr ⟨trivial, List.forall_mem_cons.mpr ⟨lkX1_80 eTb_wd, List.forall_mem_cons.mpr ⟨trivial, fun _ h => absurd h List.not_mem_nil⟩⟩⟩⟩⟩⟩
theorem hc_br_findPartOfRank {x : eW} : ∀ q ∈ rs_br_findPartOfRank, eHc l { frames := 1, cells := 0, slots := 0, locals := 24 } ad D cA vwCl SHc SSc (eWd yX1_findPartOfRank cX1_findPartOfRank 7 none) RX1 cs_br_findPartOfRank x q := List.forall_mem_cons.mpr ⟨trivial, List.forall_mem_cons.mpr ⟨trivial, List.forall_mem_cons.mpr ⟨trivial, List.forall_mem_cons.mpr ⟨(fun as w k h => let ⟨v, w2, h1, h2⟩ := ok_fa_rankOf as w k x h; ⟨v, w2, h1, eCal_of h2 ⟨rfl, rfl⟩ hdX3_rankOf (gvX1_77 eTb_wd)⟩), List.forall_mem_cons.mpr ⟨trivial, List.forall_mem_cons.mpr ⟨(fun as w k h => let ⟨v, w2, h1, h2⟩ := ok_br_setPart as w k x h; ⟨v, w2, h1, eCal_of h2 ⟨rfl, rfl⟩ hdX1_setPart (gvX1_83 eTb_wd)⟩), fun _ h => absurd h List.not_mem_nil⟩⟩⟩⟩⟩⟩
noncomputable def kk_br_findPartOfRank_56 : eK (eW) := fun pc L st w => none
set_option maxRecDepth 100000 in
set_option maxHeartbeats 4000000 in
theorem go_br_findPartOfRank_J56 (hcx : eCx p { frames := 1, cells := 0, slots := 0, locals := 24 } s m args meth c cX1_findPartOfRank RX1 7 ad D cA vwCl SHc SSc (eWd yX1_findPartOfRank cX1_findPartOfRank 7 none) (none)) {x : eW} : ∀ (a2 : Int32) (a4 : Int32) (w : eW), f_br_findPartOfRank_J56  a2 a4 w = some x → eGq p l e { frames := 1, cells := 0, slots := 0, locals := 24 } s m args below meth c 7 ad D cA vwCl SHc rV x 56 [some (.ref 27), some (.ref 24), some (.int a2), none, some (.int a4), none, none] [] w := by
  intro a2 a4 w h
  have h : eRun SHc SSc 7 rs_br_findPartOfRank (eCs cs_br_findPartOfRank) rV CX1_findPartOfRank [9, 56] (kk_br_findPartOfRank_56 ) 37 true 56 [some (.ref 27), some (.ref 24), some (.int a2), none, some (.int a4), none, none] [] w = some x := h
  refine eRun_go hcx (eLnk_all lk_br_findPartOfRank) (eHc_all hc_br_findPartOfRank) rV_ok dcX1_findPartOfRank [9, 56] _ (fun pc L st w hK => ?_) 37 true 56 _ _ w h
  unfold kk_br_findPartOfRank_56 at hK
  cases hK
noncomputable def kk_br_findPartOfRank_9 (n : Nat) : eK (eW) := fun pc L st w => bif Nat.beq pc 56 then (lR L 0 27 (lR L 1 24 ((lI L 2).bind fun a2 => (lI L 4).bind fun a4 => sE st (f_br_findPartOfRank_J56 a2 a4 w)))) else (bif Nat.beq pc 9 then (lR L 0 27 (lR L 1 24 ((lI L 2).bind fun a2 => (lI L 3).bind fun a3 => (lI L 4).bind fun a4 => (lI L 5).bind fun a5 => (lI L 6).bind fun a6 => sE st (f_br_findPartOfRank_L9 n a2 a3 a4 a5 a6 w)))) else none)
set_option maxRecDepth 100000 in
set_option maxHeartbeats 4000000 in
theorem go_br_findPartOfRank_L9 (hcx : eCx p { frames := 1, cells := 0, slots := 0, locals := 24 } s m args meth c cX1_findPartOfRank RX1 7 ad D cA vwCl SHc SSc (eWd yX1_findPartOfRank cX1_findPartOfRank 7 none) (none)) {x : eW} : ∀ (n : Nat) (a2 : Int32) (a3 : Int32) (a4 : Int32) (a5 : Int32) (a6 : Int32) (w : eW), f_br_findPartOfRank_L9  n a2 a3 a4 a5 a6 w = some x → eGq p l e { frames := 1, cells := 0, slots := 0, locals := 24 } s m args below meth c 7 ad D cA vwCl SHc rV x 9 [some (.ref 27), some (.ref 24), some (.int a2), some (.int a3), some (.int a4), some (.int a5), some (.int a6)] [] w := by
  intro n
  induction n with
  | zero => intro a2 a3 a4 a5 a6 w h; exact nomatch (show (none : Option (eW)) = some x from h)
  | succ n ih =>
    intro a2 a3 a4 a5 a6 w h
    have h : eRun SHc SSc 7 rs_br_findPartOfRank (eCs cs_br_findPartOfRank) rV CX1_findPartOfRank [9, 56] (kk_br_findPartOfRank_9  n) 25 true 9 [some (.ref 27), some (.ref 24), some (.int a2), some (.int a3), some (.int a4), some (.int a5), some (.int a6)] [] w = some x := h
    refine eRun_go hcx (eLnk_all lk_br_findPartOfRank) (eHc_all hc_br_findPartOfRank) rV_ok dcX1_findPartOfRank [9, 56] _ (fun pc L st w hK => ?_) 25 true 9 _ _ w h
    unfold kk_br_findPartOfRank_9 at hK
    rcases eCut hK with ⟨hpc, hK⟩ | hK
    · subst hpc
      obtain ⟨e0, hK_1⟩ := lR_some hK
      obtain ⟨e1, hK_2⟩ := lR_some hK_1
      obtain ⟨a2, e2, hK_3⟩ := lI_some hK_2
      obtain ⟨a4, e4, hK_4⟩ := lI_some hK_3
      obtain ⟨hst9, hK_5⟩ := sE_some hK_4
      subst hst9
      exact eGo.wk (go_br_findPartOfRank_J56 hcx  a2 a4 w hK_5) (eLe_wk ⟨e0, e1, e2, e4, trivial⟩)
    rcases eCut hK with ⟨hpc, hK⟩ | hK
    · subst hpc
      obtain ⟨e0, hK_1⟩ := lR_some hK
      obtain ⟨e1, hK_2⟩ := lR_some hK_1
      obtain ⟨a2, e2, hK_3⟩ := lI_some hK_2
      obtain ⟨a3, e3, hK_4⟩ := lI_some hK_3
      obtain ⟨a4, e4, hK_5⟩ := lI_some hK_4
      obtain ⟨a5, e5, hK_6⟩ := lI_some hK_5
      obtain ⟨a6, e6, hK_7⟩ := lI_some hK_6
      obtain ⟨hst9, hK_8⟩ := sE_some hK_7
      subst hst9
      exact eGo.wk (ih a2 a3 a4 a5 a6 w hK_8) (eLe_wk ⟨e0, e1, e2, e3, e4, e5, e6, trivial⟩)
    cases hK
set_option maxRecDepth 100000 in
set_option maxHeartbeats 4000000 in
theorem go_br_findPartOfRank (hcx : eCx p { frames := 1, cells := 0, slots := 0, locals := 24 } s m args meth c cX1_findPartOfRank RX1 7 ad D cA vwCl SHc SSc (eWd yX1_findPartOfRank cX1_findPartOfRank 7 none) (none)) (a2 : Int32) (a3 : Int32) (w : eW) (x : eW) (h : f_br_findPartOfRank a2 a3 w = some x) : eGq p l e { frames := 1, cells := 0, slots := 0, locals := 24 } s m args below meth c 7 ad D cA vwCl SHc rV x 0 (eEnt [.ref 27, .ref 24, .int a2, .int a3]) [] w := by
  have h : eRun SHc SSc 7 rs_br_findPartOfRank (eCs cs_br_findPartOfRank) rV CX1_findPartOfRank [9, 56] (fun pc L st w => bif Nat.beq pc 9 then (lR L 0 27 (lR L 1 24 ((lI L 2).bind fun a2 => (lI L 3).bind fun a3 => (lI L 4).bind fun a4 => (lI L 5).bind fun a5 => (lI L 6).bind fun a6 => sE st (f_br_findPartOfRank_L9 eFu a2 a3 a4 a5 a6 w)))) else none) 9 true 0 [some (.ref 27), some (.ref 24), some (.int a2), some (.int a3), none, none, none] [] w = some x := h
  refine eGo.wk (eRun_go hcx (eLnk_all lk_br_findPartOfRank) (eHc_all hc_br_findPartOfRank) rV_ok dcX1_findPartOfRank [9, 56] _ (fun pc L st w hK => ?_) 9 true 0 _ _ w h) (eLe_wk ⟨rfl, rfl, rfl, rfl, trivial⟩)
  rcases eCut hK with ⟨hpc, hK⟩ | hK
  · subst hpc
    obtain ⟨e0, hK_1⟩ := lR_some hK
    obtain ⟨e1, hK_2⟩ := lR_some hK_1
    obtain ⟨a2, e2, hK_3⟩ := lI_some hK_2
    obtain ⟨a3, e3, hK_4⟩ := lI_some hK_3
    obtain ⟨a4, e4, hK_5⟩ := lI_some hK_4
    obtain ⟨a5, e5, hK_6⟩ := lI_some hK_5
    obtain ⟨a6, e6, hK_7⟩ := lI_some hK_6
    obtain ⟨hst9, hK_8⟩ := sE_some hK_7
    subst hst9
    exact eGo.wk (go_br_findPartOfRank_L9 hcx  eFu a2 a3 a4 a5 a6 w hK_8) (eLe_wk ⟨e0, e1, e2, e3, e4, e5, e6, trivial⟩)
  cases hK
end
set_option maxRecDepth 100000 in
set_option maxHeartbeats 4000000 in
theorem ok_br_findPartOfRank {l : Launch} {ad : Nat → Nat} {D : va_G} {cA : Nat → ClassId} {ρ : Type} (as : List Value) (w : eW) (k : Option Value → eW → Option ρ) (x : ρ) (h : K_br_findPartOfRank as w k = some x) : ∃ (v : Option Value) (w2 : eW), k v w2 = some x ∧ eMet l ad D cA vwCl SHc SSc yX1_findPartOfRank (eWd yX1_findPartOfRank cX1_findPartOfRank 7 none) { frames := 1, cells := 0, slots := 0, locals := 24 } as w v w2 := by
  unfold K_br_findPartOfRank at h
  split at h
  · rename_i r0 r1 a2 a3
    obtain ⟨h1, h5⟩ := eBif h
    clear h
    have h := h5
    clear h5
    have h1 := Nat.eq_of_beq_eq_true h1
    subst h1
    obtain ⟨h1, h5⟩ := eBif h
    clear h
    have h := h5
    clear h5
    have h1 := Nat.eq_of_beq_eq_true h1
    subst h1
    obtain ⟨q, h2, h3⟩ := Option.bind_eq_some_iff.mp h
    exact ⟨_, _, h3, eMet_of (by decide +kernel) rfl (by simp [eCat, Value.category]) rV_ret (fun p e s m args below meth c hcx => go_br_findPartOfRank hcx a2 a3 w q h2)⟩
  · cases h
