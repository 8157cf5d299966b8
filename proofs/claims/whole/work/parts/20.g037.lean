def CX12_isTold : eCo := [[some (.iconst 0), some (.istore_n 1), some (.iload_n 1), some (.aload_n 0), some (.getfield 181), none, none, some (.if_icmp .ge 43), none, none, some (.aload_n 0), some (.getfield 40), none, none, some (.iconst 2), some (.iload_n 1)],
  [some (.imul), some (.iaload), some (.aload_n 0), some (.getfield 156), none, none, some (.if_icmp .ne 22), none, none, some (.aload_n 0), some (.getfield 40), none, none, some (.iconst 2), some (.iload_n 1), some (.imul)],
  [some (.iconst 1), some (.iadd), some (.iaload), some (.aload_n 0), some (.getfield 159), none, none, some (.if_icmp .ne 5), none, none, some (.iconst 1), some (.ireturn), some (.iinc 1 1), none, none, some (.goto (-45))],
  [none, none, some (.iconst 0), some (.ireturn)]]
theorem dcX12_isTold : eDec cX12_isTold CX12_isTold := eDec_of (by decide +kernel)
def rs_mm_isTold : List (Nat × eR) := [(40, (0, 11, 15, 2)), (156, (0, 11, 23, 0)), (159, (0, 11, 24, 0)), (181, (0, 11, 3, 0))]
noncomputable def cs_mm_isTold : List (eF (Int32 × eW)) := []
noncomputable def f_mm_isTold_L2 : Nat → Int32 → eW → Option (Int32 × eW)
  | 0, _, _ => none
  | n + 1, a1, w => (if (w.1 24 3) ≤ a1 then (some ((0 : Int32), w)) else (eChk ((2 : Int32) * a1) 24 (if ¬ (w.1 10 (Int32.toNatClampNeg ((2 : Int32) * a1))) = (w.1 24 23) then (f_mm_isTold_L2 n (a1 + (1 : Int32)) w) else (eChk (((2 : Int32) * a1) + (1 : Int32)) 24 (if ¬ (w.1 10 (Int32.toNatClampNeg (((2 : Int32) * a1) + (1 : Int32)))) = (w.1 24 24) then (f_mm_isTold_L2 n (a1 + (1 : Int32)) w) else (some ((1 : Int32), w)))))))
noncomputable def f_mm_isTold (w : eW) : Option (Int32 × eW) := (f_mm_isTold_L2 eFu (0 : Int32) w)
noncomputable def K_mm_isTold {ρ : Type} : eF ρ := fun as w k => match as with
  | [.ref r0] => bif Nat.beq r0 24 then (f_mm_isTold w).bind (fun p => k (some (.int p.1)) p.2) else none
  | _ => none
section
variable {p : Program} {l : Launch} {e : Env} {s : State} {m : MethodId} {args : Array Value} {below : List Frame} {meth : Method} {c : Code} {ad : Nat → Nat} {D : va_G} {cA : Nat → ClassId}
theorem lk_mm_isTold : ∀ q ∈ rs_mm_isTold, eLnk { frames := 0, cells := 0, slots := 0, locals := 0 } vwCl (eWd yX12_isTold cX12_isTold 2 (some .boolean)) SSm SHm.length RX12 q.1 q.2 := List.forall_mem_cons.mpr ⟨lkX12_40 eTb_wd, List.forall_mem_cons.mpr ⟨lkX12_156 eTb_wd, List.forall_mem_cons.mpr ⟨lkX12_159 eTb_wd, List.forall_mem_cons.mpr ⟨lkX12_181 eTb_wd, fun _ h => absurd h List.not_mem_nil⟩⟩⟩⟩
theorem hc_mm_isTold {x : Int32 × eW} : ∀ q ∈ rs_mm_isTold, eHc l { frames := 0, cells := 0, slots := 0, locals := 0 } ad D cA vwCl SHm SSm (eWd yX12_isTold cX12_isTold 2 (some .boolean)) RX12 cs_mm_isTold x q := List.forall_mem_cons.mpr ⟨trivial, List.forall_mem_cons.mpr ⟨trivial, List.forall_mem_cons.mpr ⟨trivial, List.forall_mem_cons.mpr ⟨trivial, fun _ h => absurd h List.not_mem_nil⟩⟩⟩⟩
noncomputable def kk_mm_isTold_2 (n : Nat) : eK (Int32 × eW) := fun pc L st w => bif Nat.beq pc 2 then (lR L 0 24 ((lI L 1).bind fun a1 => sE st (f_mm_isTold_L2 n a1 w))) else none
set_option maxRecDepth 100000 in
set_option maxHeartbeats 4000000 in
theorem go_mm_isTold_L2 (hcx : eCx p { frames := 0, cells := 0, slots := 0, locals := 0 } s m args meth c cX12_isTold RX12 2 ad D cA vwCl SHm SSm (eWd yX12_isTold cX12_isTold 2 (some .boolean)) (some .boolean)) {x : Int32 × eW} : ∀ (n : Nat) (a1 : Int32) (w : eW), f_mm_isTold_L2  n a1 w = some x → eGq p l e { frames := 0, cells := 0, slots := 0, locals := 0 } s m args below meth c 2 ad D cA vwCl SHm rZ x 2 [some (.ref 24), some (.int a1)] [] w := by
  intro n
  induction n with
  | zero => intro a1 w h; exact nomatch (show (none : Option (Int32 × eW)) = some x from h)
  | succ n ih =>
    intro a1 w h
    have h : eRun SHm SSm 2 rs_mm_isTold (eCs cs_mm_isTold) rZ CX12_isTold [2] (kk_mm_isTold_2  n) 29 true 2 [some (.ref 24), some (.int a1)] [] w = some x := h
    refine eRun_go hcx (eLnk_all lk_mm_isTold) (eHc_all hc_mm_isTold) rZ_ok dcX12_isTold [2] _ (fun pc L st w hK => ?_) 29 true 2 _ _ w h
    unfold kk_mm_isTold_2 at hK
    rcases eCut hK with ⟨hpc, hK⟩ | hK
    · subst hpc
      obtain ⟨e0, hK_1⟩ := lR_some hK
      obtain ⟨a1, e1, hK_2⟩ := lI_some hK_1
      obtain ⟨hst9, hK_3⟩ := sE_some hK_2
      subst hst9
      exact eGo.wk (ih a1 w hK_3) (eLe_wk ⟨e0, e1, trivial⟩)
    cases hK
set_option maxRecDepth 100000 in
set_option maxHeartbeats 4000000 in
theorem go_mm_isTold (hcx : eCx p { frames := 0, cells := 0, slots := 0, locals := 0 } s m args meth c cX12_isTold RX12 2 ad D cA vwCl SHm SSm (eWd yX12_isTold cX12_isTold 2 (some .boolean)) (some .boolean)) (w : eW) (x : Int32 × eW) (h : f_mm_isTold w = some x) : eGq p l e { frames := 0, cells := 0, slots := 0, locals := 0 } s m args below meth c 2 ad D cA vwCl SHm rZ x 0 (eEnt [.ref 24]) [] w := by
  have h : eRun SHm SSm 2 rs_mm_isTold (eCs cs_mm_isTold) rZ CX12_isTold [2] (fun pc L st w => bif Nat.beq pc 2 then (lR L 0 24 ((lI L 1).bind fun a1 => sE st (f_mm_isTold_L2 eFu a1 w))) else none) 5 true 0 [some (.ref 24), none] [] w = some x := h
  refine eGo.wk (eRun_go hcx (eLnk_all lk_mm_isTold) (eHc_all hc_mm_isTold) rZ_ok dcX12_isTold [2] _ (fun pc L st w hK => ?_) 5 true 0 _ _ w h) (eLe_wk ⟨rfl, trivial⟩)
  rcases eCut hK with ⟨hpc, hK⟩ | hK
  · subst hpc
    obtain ⟨e0, hK_1⟩ := lR_some hK
    obtain ⟨a1, e1, hK_2⟩ := lI_some hK_1
    obtain ⟨hst9, hK_3⟩ := sE_some hK_2
    subst hst9
    exact eGo.wk (go_mm_isTold_L2 hcx  eFu a1 w hK_3) (eLe_wk ⟨e0, e1, trivial⟩)
  cases hK
end
set_option maxRecDepth 100000 in
set_option maxHeartbeats 4000000 in
theorem ok_mm_isTold {l : Launch} {ad : Nat → Nat} {D : va_G} {cA : Nat → ClassId} {ρ : Type} (as : List Value) (w : eW) (k : Option Value → eW → Option ρ) (x : ρ) (h : K_mm_isTold as w k = some x) : ∃ (v : Option Value) (w2 : eW), k v w2 = some x ∧ eMet l ad D cA vwCl SHm SSm yX12_isTold (eWd yX12_isTold cX12_isTold 2 (some .boolean)) { frames := 0, cells := 0, slots := 0, locals := 0 } as w v w2 := by
  unfold K_mm_isTold at h
  split at h
  · rename_i r0
    obtain ⟨h1, h5⟩ := eBif h
    clear h
    have h := h5
    clear h5
    have h1 := Nat.eq_of_beq_eq_true h1
    subst h1
    obtain ⟨q, h2, h3⟩ := Option.bind_eq_some_iff.mp h
    exact ⟨_, _, h3, eMet_of (by decide +kernel) rfl (by simp [eCat, Value.category]) rZ_ret (fun p e s m args below meth c hcx => go_mm_isTold hcx w q h2)⟩
  · cases h
def CX12_readName : eCo := [[some (.aload_n 0), some (.invokevirtual 184), none, none, some (.aload_n 0), some (.invokevirtual 146), none, none, some (.ifCond .eq 18), none, none, some (.aload_n 0), some (.invokevirtual 187), none, none, some (.ifCond .ne 11)],
  [none, none, some (.aload_n 0), some (.iconst 2), some (.invokevirtual 190), none, none, some (.goto 22), none, none, some (.aload_n 0), some (.invokevirtual 146), none, none, some (.ifCond .eq 15), none],
  [none, some (.aload_n 0), some (.invokevirtual 193), none, none, some (.ifCond .eq 8), none, none, some (.aload_n 0), some (.iconst 3), some (.invokevirtual 190), none, none, some (.aload_n 0), some (.invokevirtual 146), none],
  [none, some (.ifCond .eq 35), none, none, some (.aload_n 0), some (.getfield 40), none, none, some (.iconst 2), some (.aload_n 0), some (.getfield 181), none, none, some (.imul), some (.aload_n 0), some (.getfield 156)],
  [none, none, some (.iastore), some (.aload_n 0), some (.getfield 40), none, none, some (.iconst 2), some (.aload_n 0), some (.getfield 181), none, none, some (.imul), some (.iconst 1), some (.iadd), some (.aload_n 0)],
  [some (.getfield 159), none, none, some (.iastore), some (.aload_n 0), some (.invokevirtual 184), none, none, some (.return_)]]
theorem dcX12_readName : eDec cX12_readName CX12_readName := eDec_of (by decide +kernel)
def rs_mm_readName : List (Nat × eR) := [(40, (0, 11, 15, 2)), (146, (1, 1, 0, 11)), (156, (0, 11, 23, 0)), (159, (0, 11, 24, 0)), (181, (0, 11, 3, 0)), (184, (1, 0, 0, 11)), (187, (1, 2, 0, 11)), (190, (1, 3, 1, 11)), (193, (1, 4, 0, 11))]
noncomputable def cs_mm_readName : List (eF (eW)) := [K_mm_goOn, K_mm_isGood, K_mm_isName, K_mm_fails, K_mm_isTold]
noncomputable def f_mm_readName_J26 (w : eW) : Option (eW) := ((f_mm_isGood w).bind fun p8 => (if p8.1 = 0 then ((f_mm_isGood p8.2).bind fun p9 => (if p9.1 = 0 then ((f_mm_goOn p9.2).bind fun w10 => (some w10)) else (eChk ((2 : Int32) * (p9.2.1 24 3)) 24 (eChk (((2 : Int32) * (p9.2.1 24 3)) + (1 : Int32)) 24 ((f_mm_goOn (eU1 (eU1 p9.2 10 (Int32.toNatClampNeg ((2 : Int32) * (p9.2.1 24 3))) (p9.2.1 24 23)) 10 (Int32.toNatClampNeg (((2 : Int32) * (p9.2.1 24 3)) + (1 : Int32))) (p9.2.1 24 24))).bind fun w11 => (some w11)))))) else ((f_mm_isTold p8.2).bind fun p12 => (if p12.1 = 0 then ((f_mm_isGood p12.2).bind fun p13 => (if p13.1 = 0 then ((f_mm_goOn p13.2).bind fun w14 => (some w14)) else (eChk ((2 : Int32) * (p13.2.1 24 3)) 24 (eChk (((2 : Int32) * (p13.2.1 24 3)) + (1 : Int32)) 24 ((f_mm_goOn (eU1 (eU1 p13.2 10 (Int32.toNatClampNeg ((2 : Int32) * (p13.2.1 24 3))) (p13.2.1 24 23)) 10 (Int32.toNatClampNeg (((2 : Int32) * (p13.2.1 24 3)) + (1 : Int32))) (p13.2.1 24 24))).bind fun w15 => (some w15)))))) else ((f_mm_fails (3 : Int32) p12.2).bind fun w16 => ((f_mm_isGood w16).bind fun p17 => (if p17.1 = 0 then ((f_mm_goOn p17.2).bind fun w18 => (some w18)) else (eChk ((2 : Int32) * (p17.2.1 24 3)) 24 (eChk (((2 : Int32) * (p17.2.1 24 3)) + (1 : Int32)) 24 ((f_mm_goOn (eU1 (eU1 p17.2 10 (Int32.toNatClampNeg ((2 : Int32) * (p17.2.1 24 3))) (p17.2.1 24 23)) 10 (Int32.toNatClampNeg (((2 : Int32) * (p17.2.1 24 3)) + (1 : Int32))) (p17.2.1 24 24))).bind fun w19 => (some w19)))))))))))
noncomputable def f_mm_readName (w : eW) : Option (eW) := ((f_mm_goOn w).bind fun w1 => ((f_mm_isGood w1).bind fun p2 => (if p2.1 = 0 then (f_mm_readName_J26 p2.2) else ((f_mm_isName p2.2).bind fun p3 => (if ¬ p3.1 = 0 then (f_mm_readName_J26 p3.2) else ((f_mm_fails (2 : Int32) p3.2).bind fun w4 => ((f_mm_isGood w4).bind fun p5 => (if p5.1 = 0 then ((f_mm_goOn p5.2).bind fun w6 => (some w6)) else (eChk ((2 : Int32) * (p5.2.1 24 3)) 24 (eChk (((2 : Int32) * (p5.2.1 24 3)) + (1 : Int32)) 24 ((f_mm_goOn (eU1 (eU1 p5.2 10 (Int32.toNatClampNeg ((2 : Int32) * (p5.2.1 24 3))) (p5.2.1 24 23)) 10 (Int32.toNatClampNeg (((2 : Int32) * (p5.2.1 24 3)) + (1 : Int32))) (p5.2.1 24 24))).bind fun w7 => (some w7))))))))))))
noncomputable def K_mm_readName {ρ : Type} : eF ρ := fun as w k => match as with
  | [.ref r0] => bif Nat.beq r0 24 then (f_mm_readName w).bind (fun w => k none w) else none
  | _ => none
section
variable {p : Program} {l : Launch} {e : Env} {s : State} {m : MethodId} {args : Array Value} {below : List Frame} {meth : Method} {c : Code} {ad : Nat → Nat} {D : va_G} {cA : Nat → ClassId}
theorem lk_mm_readName : ∀ q ∈ rs_mm_readName, eLnk { frames := 2, cells := 0, slots := 0, locals := 44 } vwCl (eWd yX12_readName cX12_readName 1 none) SSm SHm.length RX12 q.1 q.2 := List.forall_mem_cons.mpr ⟨lkX12_40 eTb_wd, List.forall_mem_cons.mpr ⟨trivial, List.forall_mem_cons.mpr ⟨lkX12_156 eTb_wd, List.forall_mem_cons.mpr ⟨lkX12_159 eTb_wd, List.forall_mem_cons.mpr ⟨lkX12_181 eTb_wd, List.forall_mem_cons.mpr ⟨trivial, List.forall_mem_cons.mpr ⟨trivial, List.forall_mem_cons.mpr ⟨trivial, List.forall_mem_cons.mpr ⟨trivial, fun _ h => absurd h List.not_mem_nil⟩⟩⟩⟩⟩⟩⟩⟩⟩
theorem hc_mm_readName {x : eW} : ∀ q ∈ rs_mm_readName, eHc l { frames := 2, cells := 0, slots := 0, locals := 44 } ad D cA vwCl SHm SSm (eWd yX12_readName cX12_readName 1 none) RX12 cs_mm_readName x q := List.forall_mem_cons.mpr ⟨trivial, List.forall_mem_cons.mpr ⟨(fun as w k h => let ⟨v, w2, h1, h2⟩ := ok_mm_isGood as w k x h; ⟨v, w2, h1, eCal_of h2 ⟨rfl, rfl⟩ hdX12_isGood (gvX12_146 eTb_wd)⟩), List.forall_mem_cons.mpr ⟨trivial, List.forall_mem_cons.mpr ⟨trivial, List.forall_mem_cons.mpr ⟨trivial, List.forall_mem_cons.mpr ⟨(fun as w k h => let ⟨v, w2, h1, h2⟩ := ok_mm_goOn as w k x h; ⟨v, w2, h1, eCal_of h2 ⟨rfl, rfl⟩ hdX12_goOn (gvX12_184 eTb_wd)⟩), List.forall_mem_cons.mpr ⟨(fun as w k h => let ⟨v, w2, h1, h2⟩ := ok_mm_isName as w k x h; ⟨v, w2, h1, eCal_of h2 ⟨rfl, rfl⟩ hdX12_isName (gvX12_187 eTb_wd)⟩), List.forall_mem_cons.mpr ⟨(fun as w k h => let ⟨v, w2, h1, h2⟩ := ok_mm_fails as w k x h; ⟨v, w2, h1, eCal_of h2 ⟨rfl, rfl⟩ hdX12_fails (gvX12_190 eTb_wd)⟩), List.forall_mem_cons.mpr ⟨(fun as w k h => let ⟨v, w2, h1, h2⟩ := ok_mm_isTold as w k x h; ⟨v, w2, h1, eCal_of h2 ⟨rfl, rfl⟩ hdX12_isTold (gvX12_193 eTb_wd)⟩), fun _ h => absurd h List.not_mem_nil⟩⟩⟩⟩⟩⟩⟩⟩⟩
noncomputable def kk_mm_readName_26 : eK (eW) := fun pc L st w => none
set_option maxRecDepth 100000 in
set_option maxHeartbeats 4000000 in
theorem go_mm_readName_J26 (hcx : eCx p { frames := 2, cells := 0, slots := 0, locals := 44 } s m args meth c cX12_readName RX12 1 ad D cA vwCl SHm SSm (eWd yX12_readName cX12_readName 1 none) (none)) {x : eW} : ∀ (w : eW), f_mm_readName_J26  w = some x → eGq p l e { frames := 2, cells := 0, slots := 0, locals := 44 } s m args below meth c 1 ad D cA vwCl SHm rV x 26 [some (.ref 24)] [] w := by
  intro w h
  have h : eRun SHm SSm 1 rs_mm_readName (eCs cs_mm_readName) rV CX12_readName [26] (kk_mm_readName_26 ) 37 true 26 [some (.ref 24)] [] w = some x := h
  refine eRun_go hcx (eLnk_all lk_mm_readName) (eHc_all hc_mm_readName) rV_ok dcX12_readName [26] _ (fun pc L st w hK => ?_) 37 true 26 _ _ w h
  unfold kk_mm_readName_26 at hK
  cases hK
set_option maxRecDepth 100000 in
set_option maxHeartbeats 4000000 in
theorem go_mm_readName (hcx : eCx p { frames := 2, cells := 0, slots := 0, locals := 44 } s m args meth c cX12_readName RX12 1 ad D cA vwCl SHm SSm (eWd yX12_readName cX12_readName 1 none) (none)) (w : eW) (x : eW) (h : f_mm_readName w = some x) : eGq p l e { frames := 2, cells := 0, slots := 0, locals := 44 } s m args below meth c 1 ad D cA vwCl SHm rV x 0 (eEnt [.ref 24]) [] w := by
  have h : eRun SHm SSm 1 rs_mm_readName (eCs cs_mm_readName) rV CX12_readName [26] (fun pc L st w => bif Nat.beq pc 26 then (lR L 0 24 (sE st (f_mm_readName_J26 w))) else none) 40 true 0 [some (.ref 24)] [] w = some x := h
  refine eGo.wk (eRun_go hcx (eLnk_all lk_mm_readName) (eHc_all hc_mm_readName) rV_ok dcX12_readName [26] _ (fun pc L st w hK => ?_) 40 true 0 _ _ w h) (eLe_wk ⟨rfl, trivial⟩)
  rcases eCut hK with ⟨hpc, hK⟩ | hK
  · subst hpc
    obtain ⟨e0, hK_1⟩ := lR_some hK
    obtain ⟨hst9, hK_2⟩ := sE_some hK_1
    subst hst9
    exact eGo.wk (go_mm_readName_J26 hcx  w hK_2) (eLe_wk ⟨e0, trivial⟩)
  cases hK
end
set_option maxRecDepth 100000 in
set_option maxHeartbeats 4000000 in
theorem ok_mm_readName {l : Launch} {ad : Nat → Nat} {D : va_G} {cA : Nat → ClassId} {ρ : Type} (as : List Value) (w : eW) (k : Option Value → eW → Option ρ) (x : ρ) (h : K_mm_readName as w k = some x) : ∃ (v : Option Value) (w2 : eW), k v w2 = some x ∧ eMet l ad D cA vwCl SHm SSm yX12_readName (eWd yX12_readName cX12_readName 1 none) { frames := 2, cells := 0, slots := 0, locals := 44 } as w v w2 := by
  unfold K_mm_readName at h
  split at h
  · rename_i r0
    obtain ⟨h1, h5⟩ := eBif h
    clear h
    have h := h5
    clear h5
    have h1 := Nat.eq_of_beq_eq_true h1
    subst h1
    obtain ⟨q, h2, h3⟩ := Option.bind_eq_some_iff.mp h
    exact ⟨_, _, h3, eMet_of (by decide +kernel) rfl (by simp [eCat, Value.category]) rV_ret (fun p e s m args below meth c hcx => go_mm_readName hcx w q h2)⟩
  · cases h
def CX12_keyword : eCo := [[some (.aload_n 0), some (.invokevirtual 146), none, none, some (.ifCond .eq 17), none, none, some (.aload_n 0), some (.iload_n 1), some (.iload_n 2), some (.invokevirtual 170), none, none, some (.ifCond .ne 8), none, none],
  [some (.aload_n 0), some (.iconst 2), some (.invokevirtual 190), none, none, some (.aload_n 0), some (.invokevirtual 184), none, none, some (.return_)]]
theorem dcX12_keyword : eDec cX12_keyword CX12_keyword := eDec_of (by decide +kernel)
def rs_mm_keyword : List (Nat × eR) := [(146, (1, 0, 0, 11)), (170, (1, 2, 2, 11)), (184, (1, 1, 0, 11)), (190, (1, 3, 1, 11))]
noncomputable def cs_mm_keyword : List (eF (eW)) := [K_mm_isGood, K_mm_goOn, K_mm_isWord, K_mm_fails]
noncomputable def f_mm_keyword (a1 : Int32) (a2 : Int32) (w : eW) : Option (eW) := ((f_mm_isGood w).bind fun p1 => (if p1.1 = 0 then ((f_mm_goOn p1.2).bind fun w2 => (some w2)) else ((f_mm_isWord a1 a2 p1.2).bind fun p3 => (if ¬ p3.1 = 0 then ((f_mm_goOn p3.2).bind fun w4 => (some w4)) else ((f_mm_fails (2 : Int32) p3.2).bind fun w5 => ((f_mm_goOn w5).bind fun w6 => (some w6)))))))
noncomputable def K_mm_keyword {ρ : Type} : eF ρ := fun as w k => match as with
  | [.ref r0, .int a1, .int a2] => bif Nat.beq r0 24 then (f_mm_keyword a1 a2 w).bind (fun w => k none w) else none
  | _ => none
section
variable {p : Program} {l : Launch} {e : Env} {s : State} {m : MethodId} {args : Array Value} {below : List Frame} {meth : Method} {c : Code} {ad : Nat → Nat} {D : va_G} {cA : Nat → ClassId}
theorem lk_mm_keyword : ∀ q ∈ rs_mm_keyword, eLnk { frames := 2, cells := 0, slots := 0, locals := 44 } vwCl (eWd yX12_keyword cX12_keyword 3 none) SSm SHm.length RX12 q.1 q.2 := List.forall_mem_cons.mpr ⟨trivial, List.forall_mem_cons.mpr ⟨trivial, List.forall_mem_cons.mpr ⟨trivial, List.forall_mem_cons.mpr ⟨trivial, fun _ h => absurd h List.not_mem_nil⟩⟩⟩⟩
theorem hc_mm_keyword {x : eW} : ∀ q ∈ rs_mm_keyword, eHc l { frames := 2, cells := 0, slots := 0, locals := 44 } ad D cA vwCl SHm SSm (eWd yX12_keyword cX12_keyword 3 none) RX12 cs_mm_keyword x q := List.forall_mem_cons.mpr ⟨(fun as w k h => let ⟨v, w2, h1, h2⟩ := ok_mm_isGood as w k x h; ⟨v, w2, h1, eCal_of h2 ⟨rfl, rfl⟩ hdX12_isGood (gvX12_146 eTb_wd)⟩), List.forall_mem_cons.mpr ⟨(fun as w k h => let ⟨v, w2, h1, h2⟩ := ok_mm_isWord as w k x h; ⟨v, w2, h1, eCal_of h2 ⟨rfl, rfl⟩ hdX12_isWord (gvX12_170 eTb_wd)⟩), List.forall_mem_cons.mpr ⟨(fun as w k h => let ⟨v, w2, h1, h2⟩ := ok_mm_goOn as w k x h; ⟨v, w2, h1, eCal_of h2 ⟨rfl, rfl⟩ hdX12_goOn (gvX12_184 eTb_wd)⟩), List.forall_mem_cons.mpr ⟨(fun as w k h => let ⟨v, w2, h1, h2⟩ := ok_mm_fails as w k x h; ⟨v, w2, h1, eCal_of h2 ⟨rfl, rfl⟩ hdX12_fails (gvX12_190 eTb_wd)⟩), fun _ h => absurd h List.not_mem_nil⟩⟩⟩⟩
set_option maxRecDepth 100000 in
set_option maxHeartbeats 4000000 in
theorem go_mm_keyword (hcx : eCx p { frames := 2, cells := 0, slots := 0, locals := 44 } s m args meth c cX12_keyword RX12 3 ad D cA vwCl SHm SSm (eWd yX12_keyword cX12_keyword 3 none) (none)) (a1 : Int32) (a2 : Int32) (w : eW) (x : eW) (h : f_mm_keyword a1 a2 w = some x) : eGq p l e { frames := 2, cells := 0, slots := 0, locals := 44 } s m args below meth c 3 ad D cA vwCl SHm rV x 0 (eEnt [.ref 24, .int a1, .int a2]) [] w := by
  have h : eRun SHm SSm 3 rs_mm_keyword (eCs cs_mm_keyword) rV CX12_keyword [] (fun pc L st w => none) 16 true 0 [some (.ref 24), some (.int a1), some (.int a2)] [] w = some x := h
  refine eGo.wk (eRun_go hcx (eLnk_all lk_mm_keyword) (eHc_all hc_mm_keyword) rV_ok dcX12_keyword [] _ (fun pc L st w hK => ?_) 16 true 0 _ _ w h) (eLe_wk ⟨rfl, rfl, rfl, trivial⟩)
  cases hK
end
set_option maxRecDepth 100000 in
set_option maxHeartbeats 4000000 in
theorem ok_mm_keyword {l : Launch} {ad : Nat → Nat} {D : va_G} {cA : Nat → ClassId} {ρ : Type} (as : List Value) (w : eW) (k : Option Value → eW → Option ρ) (x : ρ) (h : K_mm_keyword as w k = some x) : ∃ (v : Option Value) (w2 : eW), k v w2 = some x ∧ eMet l ad D cA vwCl SHm SSm yX12_keyword (eWd yX12_keyword cX12_keyword 3 none) { frames := 2, cells := 0, slots := 0, locals := 44 } as w v w2 := by
  unfold K_mm_keyword at h
  split at h
  · rename_i r0 a1 a2
    obtain ⟨h1, h5⟩ := eBif h
    clear h
    have h := h5
    clear h5
    have h1 := Nat.eq_of_beq_eq_true h1
    subst h1
    obtain ⟨q, h2, h3⟩ := Option.bind_eq_some_iff.mp h
    exact ⟨_, _, h3, eMet_of (by decide +kernel) rfl (by simp [eCat, Value.category]) rV_ret (fun p e s m args below meth c hcx => go_mm_keyword hcx a1 a2 w q h2)⟩
  · cases h
def CX12_goesOver : eCo := [[some (.aload_n 0), some (.invokevirtual 146), none, none, some (.ifCond .eq 16), none, none, some (.aload_n 0), some (.iload_n 1), some (.iload_n 2), some (.invokevirtual 170), none, none, some (.ifCond .eq 7), none, none],
  [some (.iconst 1), some (.goto 4), none, none, some (.iconst 0), some (.istore_n 3), some (.iload_n 3), some (.ifCond .eq 7), none, none, some (.aload_n 0), some (.invokevirtual 184), none, none, some (.iload_n 3), some (.ireturn)]]
theorem dcX12_goesOver : eDec cX12_goesOver CX12_goesOver := eDec_of (by decide +kernel)
def rs_mm_goesOver : List (Nat × eR) := [(146, (1, 0, 0, 11)), (170, (1, 1, 2, 11)), (184, (1, 2, 0, 11))]
noncomputable def cs_mm_goesOver : List (eF (Int32 × eW)) := [K_mm_isGood, K_mm_isWord, K_mm_goOn]
noncomputable def f_mm_goesOver (a1 : Int32) (a2 : Int32) (w : eW) : Option (Int32 × eW) := ((f_mm_isGood w).bind fun p1 => (if p1.1 = 0 then (some ((0 : Int32), p1.2)) else ((f_mm_isWord a1 a2 p1.2).bind fun p2 => (if p2.1 = 0 then (some ((0 : Int32), p2.2)) else ((f_mm_goOn p2.2).bind fun w3 => (some ((1 : Int32), w3)))))))
noncomputable def K_mm_goesOver {ρ : Type} : eF ρ := fun as w k => match as with
  | [.ref r0, .int a1, .int a2] => bif Nat.beq r0 24 then (f_mm_goesOver a1 a2 w).bind (fun p => k (some (.int p.1)) p.2) else none
  | _ => none
section
variable {p : Program} {l : Launch} {e : Env} {s : State} {m : MethodId} {args : Array Value} {below : List Frame} {meth : Method} {c : Code} {ad : Nat → Nat} {D : va_G} {cA : Nat → ClassId}
theorem lk_mm_goesOver : ∀ q ∈ rs_mm_goesOver, eLnk { frames := 2, cells := 0, slots := 0, locals := 44 } vwCl (eWd yX12_goesOver cX12_goesOver 4 (some .boolean)) SSm SHm.length RX12 q.1 q.2 := List.forall_mem_cons.mpr ⟨trivial, List.forall_mem_cons.mpr ⟨trivial, List.forall_mem_cons.mpr ⟨trivial, fun _ h => absurd h List.not_mem_nil⟩⟩⟩
theorem hc_mm_goesOver {x : Int32 × eW} : ∀ q ∈ rs_mm_goesOver, eHc l { frames := 2, cells := 0, slots := 0, locals := 44 } ad D cA vwCl SHm SSm (eWd yX12_goesOver cX12_goesOver 4 (some .boolean)) RX12 cs_mm_goesOver x q := List.forall_mem_cons.mpr ⟨(fun as w k h => let ⟨v, w2, h1, h2⟩ := ok_mm_isGood as w k x h; ⟨v, w2, h1, eCal_of h2 ⟨rfl, rfl⟩ hdX12_isGood (gvX12_146 eTb_wd)⟩), List.forall_mem_cons.mpr ⟨(fun as w k h => let ⟨v, w2, h1, h2⟩ := ok_mm_isWord as w k x h; ⟨v, w2, h1, eCal_of h2 ⟨rfl, rfl⟩ hdX12_isWord (gvX12_170 eTb_wd)⟩), List.forall_mem_cons.mpr ⟨(fun as w k h => let ⟨v, w2, h1, h2⟩ := ok_mm_goOn as w k x h; ⟨v, w2, h1, eCal_of h2 ⟨rfl, rfl⟩ hdX12_goOn (gvX12_184 eTb_wd)⟩), fun _ h => absurd h List.not_mem_nil⟩⟩⟩
set_option maxRecDepth 100000 in
set_option maxHeartbeats 4000000 in
theorem go_mm_goesOver (hcx : eCx p { frames := 2, cells := 0, slots := 0, locals := 44 } s m args meth c cX12_goesOver RX12 4 ad D cA vwCl SHm SSm (eWd yX12_goesOver cX12_goesOver 4 (some .boolean)) (some .boolean)) (a1 : Int32) (a2 : Int32) (w : eW) (x : Int32 × eW) (h : f_mm_goesOver a1 a2 w = some x) : eGq p l e { frames := 2, cells := 0, slots := 0, locals := 44 } s m args below meth c 4 ad D cA vwCl SHm rZ x 0 (eEnt [.ref 24, .int a1, .int a2]) [] w := by
  have h : eRun SHm SSm 4 rs_mm_goesOver (eCs cs_mm_goesOver) rZ CX12_goesOver [] (fun pc L st w => none) 19 true 0 [some (.ref 24), some (.int a1), some (.int a2), none] [] w = some x := h
  refine eGo.wk (eRun_go hcx (eLnk_all lk_mm_goesOver) (eHc_all hc_mm_goesOver) rZ_ok dcX12_goesOver [] _ (fun pc L st w hK => ?_) 19 true 0 _ _ w h) (eLe_wk ⟨rfl, rfl, rfl, trivial⟩)
  cases hK
end
set_option maxRecDepth 100000 in
set_option maxHeartbeats 4000000 in
theorem ok_mm_goesOver {l : Launch} {ad : Nat → Nat} {D : va_G} {cA : Nat → ClassId} {ρ : Type} (as : List Value) (w : eW) (k : Option Value → eW → Option ρ) (x : ρ) (h : K_mm_goesOver as w k = some x) : ∃ (v : Option Value) (w2 : eW), k v w2 = some x ∧ eMet l ad D cA vwCl SHm SSm yX12_goesOver (eWd yX12_goesOver cX12_goesOver 4 (some .boolean)) { frames := 2, cells := 0, slots := 0, locals := 44 } as w v w2 := by
  unfold K_mm_goesOver at h
  split at h
  · rename_i r0 a1 a2
    obtain ⟨h1, h5⟩ := eBif h
    clear h
    have h := h5
    clear h5
    have h1 := Nat.eq_of_beq_eq_true h1
    subst h1
    obtain ⟨q, h2, h3⟩ := Option.bind_eq_some_iff.mp h
    exact ⟨_, _, h3, eMet_of (by decide +kernel) rfl (by simp [eCat, Value.category]) rZ_ret (fun p e s m args below meth c hcx => go_mm_goesOver hcx a1 a2 w q h2)⟩
  · cases h
