def CX12_lay : eCo := [[some (.lload_n 1), some (.aload_n 0), some (.invokevirtual 284), none, none, some (.lcmp), some (.ifCond .le 10), none, none, some (.aload_n 0), some (.getfield 98), none, none, some (.ifCond .ne 9), none, none],
  [some (.aload_n 0), some (.lload_n 1), some (.invokevirtual 288), none, none, some (.return_), some (.aload_n 0), some (.invokevirtual 292), none, none, some (.iconst 0), some (.istore_n 3), some (.iload_n 3), some (.aload_n 0), some (.getfield 256), none],
  [none, some (.if_icmp .ge 107), none, none, some (.aload_n 0), some (.aload_n 0), some (.getfield 50), none, none, some (.iload_n 3), some (.laload), some (.aload_n 0), some (.getfield 54), none, none, some (.iload_n 3)],
  [some (.laload), some (.invokevirtual 295), none, none, some (.aload_n 0), some (.invokevirtual 298), none, none, some (.lstore 4), none, some (.ldc2_w 263), none, none, some (.lload_n 1), some (.aload_n 0), some (.invokevirtual 301)],
  [none, none, some (.lsub), some (.lmul), some (.lstore 6), none, some (.iload_n 3), some (.aload_n 0), some (.getfield 256), none, none, some (.iconst 1), some (.isub), some (.if_icmp .ne 7), none, none],
  [some (.iconst 1), some (.goto 4), none, none, some (.iconst 0), some (.istore 8), none, some (.lload 4), none, some (.lconst 0), some (.lcmp), some (.ifCond .le 43), none, none, some (.iload 8), none],
  [some (.ifCond .ne 29), none, none, some (.lload 6), none, some (.aload_n 0), some (.getfield 54), none, none, some (.iload_n 3), some (.iconst 1), some (.iadd), some (.laload), some (.lmul), some (.lload 4), none],
  [some (.aload_n 0), some (.getfield 50), none, none, some (.iload_n 3), some (.iconst 1), some (.iadd), some (.laload), some (.lmul), some (.lcmp), some (.ifCond .gt 12), none, none, some (.aload_n 0), some (.lload 6), none],
  [some (.lload 4), none, some (.invokevirtual 304), none, none, some (.return_), some (.iinc 3 1), none, none, some (.goto (-109)), none, none, some (.aload_n 0), some (.lconst 1), some (.putfield 66), none],
  [none, some (.iconst 0), some (.istore_n 3), some (.iload_n 3), some (.aload_n 0), some (.getfield 98), none, none, some (.if_icmp .ge 29), none, none, some (.aload_n 0), some (.getfield 63), none, none, some (.iload_n 3)],
  [some (.aload_n 0), some (.getfield 13), none, none, some (.iload_n 3), some (.iaload), some (.i2l), some (.aload_n 0), some (.getfield 57), none, none, some (.iload_n 3), some (.laload), some (.lmul), some (.lastore), some (.iinc 3 1)],
  [none, none, some (.goto (-31)), none, none, some (.return_)]]
theorem dcX12_lay : eDec cX12_lay CX12_lay := eDec_of (by decide +kernel)
def rs_mm_lay : List (Nat × eR) := [(13, (0, 11, 6, 2)), (50, (0, 11, 30, 2)), (54, (0, 11, 31, 2)), (57, (0, 11, 32, 2)), (63, (0, 11, 37, 2)), (66, (0, 11, 38, 1)), (98, (0, 11, 1, 0)), (256, (0, 11, 34, 0)), (263, (3, 0, 0, 100)), (284, (1, 0, 0, 11)), (288, (1, 1, 1, 11)), (292, (1, 2, 0, 11)), (295, (1, 3, 2, 11)), (298, (1, 4, 0, 11)), (301, (1, 5, 0, 11)), (304, (1, 6, 2, 11))]
noncomputable def cs_mm_lay : List (eF (eW)) := [K_mm_firsts, K_mm_layRanks, K_mm_layEdges, K_mm_layFrom, K_mm_allGoes, K_mm_allFixed, K_mm_layLevel]
noncomputable def f_mm_lay_L147 : Nat → Int32 → eW → Option (eW)
  | 0, _, _ => none
  | n + 1, a3, w => (if (w.1 24 1) ≤ a3 then (some w) else (eChk a3 24 (eChk a3 12 (eChk a3 12 (f_mm_lay_L147 n (a3 + (1 : Int32)) (eU2 w 16 (Int32.toNatClampNeg a3) ((((w.1 1 (Int32.toNatClampNeg a3))).toInt64) * (w.2 14 (Int32.toNatClampNeg a3)))))))))
noncomputable def f_mm_lay_J85 (k28 : Int64 → Int32 → eW → Option (eW)) (a1 : Int64) (a3 : Int32) (a4 : Int64) (a6 : Int64) (s0 : Int32) (w : eW) : Option (eW) := (if (lg_cmp a4 (0 : Int64)) ≤ 0 then (k28 a1 (a3 + (1 : Int32)) w) else (if ¬ s0 = 0 then ((f_mm_layLevel a6 a4 w).bind fun w8 => (some w8)) else (eChk (a3 + (1 : Int32)) 30 (eChk (a3 + (1 : Int32)) 30 (if 0 < (lg_cmp (a6 * (w.2 13 (Int32.toNatClampNeg (a3 + (1 : Int32))))) (a4 * (w.2 12 (Int32.toNatClampNeg (a3 + (1 : Int32)))))) then (k28 a1 (a3 + (1 : Int32)) w) else ((f_mm_layLevel a6 a4 w).bind fun w9 => (some w9)))))))
noncomputable def f_mm_lay_L28 : Nat → Int64 → Int32 → eW → Option (eW)
  | 0, _, _, _ => none
  | n + 1, a1, a3, w => (if (w.1 24 34) ≤ a3 then (f_mm_lay_L147 eFu (0 : Int32) (eU2 w 24 38 (1 : Int64))) else (eChk a3 30 (eChk a3 30 ((f_mm_layFrom (w.2 12 (Int32.toNatClampNeg a3)) (w.2 13 (Int32.toNatClampNeg a3)) w).bind fun w5 => ((f_mm_allGoes w5).bind fun p6 => ((f_mm_allFixed p6.2).bind fun p7 => (if ¬ a3 = ((p7.2.1 24 34) - (1 : Int32)) then (f_mm_lay_J85 (f_mm_lay_L28 n) a1 a3 p6.1 ((100 : Int64) * (a1 - p7.1)) (0 : Int32) p7.2) else (f_mm_lay_J85 (f_mm_lay_L28 n) a1 a3 p6.1 ((100 : Int64) * (a1 - p7.1)) (1 : Int32) p7.2))))))))
noncomputable def f_mm_lay (a1 : Int64) (w : eW) : Option (eW) := ((f_mm_firsts w).bind fun p1 => (if (lg_cmp a1 p1.1) ≤ 0 then ((f_mm_layRanks a1 p1.2).bind fun w2 => (some w2)) else (if ¬ (p1.2.1 24 1) = 0 then ((f_mm_layEdges p1.2).bind fun w3 => (f_mm_lay_L28 eFu a1 (0 : Int32) w3)) else ((f_mm_layRanks a1 p1.2).bind fun w4 => (some w4)))))
noncomputable def K_mm_lay {ρ : Type} : eF ρ := fun as w k => match as with
  | [.ref r0, .long a1] => bif Nat.beq r0 24 then (f_mm_lay a1 w).bind (fun w => k none w) else none
  | _ => none
section
variable {p : Program} {l : Launch} {e : Env} {s : State} {m : MethodId} {args : Array Value} {below : List Frame} {meth : Method} {c : Code} {ad : Nat → Nat} {D : va_G} {cA : Nat → ClassId}
theorem lk_mm_lay : ∀ q ∈ rs_mm_lay, eLnk { frames := 8, cells := 0, slots := 0, locals := 181 } vwCl (eWd yX12_lay cX12_lay 9 none) SSm SHm.length RX12 q.1 q.2 := List.forall_mem_cons.mpr ⟨lkX12_13 eTb_wd, List.forall_mem_cons.mpr ⟨lkX12_50 eTb_wd, List.forall_mem_cons.mpr ⟨lkX12_54 eTb_wd, List.forall_mem_cons.mpr ⟨lkX12_57 eTb_wd, List.forall_mem_cons.mpr ⟨lkX12_63 eTb_wd, List.forall_mem_cons.mpr ⟨lkX12_66 eTb_wd, List.forall_mem_cons.mpr ⟨lkX12_98 eTb_wd, List.forall_mem_cons.mpr ⟨lkX12_256 eTb_wd, List.forall_mem_cons.mpr ⟨lkX12_263 eTb_wd, List.forall_mem_cons.mpr ⟨trivial, List.forall_mem_cons.mpr ⟨trivial, List.forall_mem_cons.mpr ⟨trivial, List.forall_mem_cons.mpr ⟨trivial, List.forall_mem_cons.mpr ⟨trivial, List.forall_mem_cons.mpr ⟨trivial, List.forall_mem_cons.mpr ⟨trivial, fun _ h => absurd h List.not_mem_nil⟩⟩⟩⟩⟩⟩⟩⟩⟩⟩⟩⟩⟩⟩⟩⟩
theorem hc_mm_lay {x : eW} : ∀ q ∈ rs_mm_lay, eHc l { frames := 8, cells := 0, slots := 0, locals := 181 } ad D cA vwCl SHm SSm (eWd yX12_lay cX12_lay 9 none) RX12 cs_mm_lay x q := List.forall_mem_cons.mpr ⟨trivial, List.forall_mem_cons.mpr ⟨trivial, List.forall_mem_cons.mpr ⟨trivial, List.forall_mem_cons.mpr ⟨trivial, List.forall_mem_cons.mpr ⟨trivial, List.forall_mem_cons.mpr ⟨trivial, List.forall_mem_cons.mpr ⟨trivial, List.forall_mem_cons.mpr ⟨trivial, List.forall_mem_cons.mpr ⟨trivial, List.forall_mem_cons.mpr ⟨(fun as w k h => let ⟨v, w2, h1, h2⟩ := ok_mm_firsts as w k x h; ⟨v, w2, h1, eCal_of h2 ⟨rfl, rfl⟩ hdX12_firsts (gvX12_284 eTb_wd)⟩), List.forall_mem_cons.mpr ⟨(fun as w k h => let ⟨v, w2, h1, h2⟩ := ok_mm_layRanks as w k x h; ⟨v, w2, h1, eCal_of h2 ⟨rfl, rfl⟩ hdX12_layRanks (gvX12_288 eTb_wd)⟩), List.forall_mem_cons.mpr ⟨(fun as w k h => let ⟨v, w2, h1, h2⟩ := ok_mm_layEdges as w k x h; ⟨v, w2, h1, eCal_of h2 ⟨rfl, rfl⟩ hdX12_layEdges (gvX12_292 eTb_wd)⟩), List.forall_mem_cons.mpr ⟨(fun as w k h => let ⟨v, w2, h1, h2⟩ := ok_mm_layFrom as w k x h; ⟨v, w2, h1, eCal_of h2 ⟨rfl, rfl⟩ hdX12_layFrom (gvX12_295 eTb_wd)⟩), List.forall_mem_cons.mpr ⟨(fun as w k h => let ⟨v, w2, h1, h2⟩ := ok_mm_allGoes as w k x h; ⟨v, w2, h1, eCal_of h2 ⟨rfl, rfl⟩ hdX12_allGoes (gvX12_298 eTb_wd)⟩), List.forall_mem_cons.mpr ⟨(fun as w k h => let ⟨v, w2, h1, h2⟩ := ok_mm_allFixed as w k x h; ⟨v, w2, h1, eCal_of h2 ⟨rfl, rfl⟩ hdX12_allFixed (gvX12_301 eTb_wd)⟩), List.forall_mem_cons.mpr ⟨(fun as w k h => let ⟨v, w2, h1, h2⟩ := ok_mm_layLevel as w k x h; ⟨v, w2, h1, eCal_of h2 ⟨rfl, rfl⟩ hdX12_layLevel (gvX12_304 eTb_wd)⟩), fun _ h => absurd h List.not_mem_nil⟩⟩⟩⟩⟩⟩⟩⟩⟩⟩⟩⟩⟩⟩⟩⟩
noncomputable def kk_mm_lay_147 (n : Nat) : eK (eW) := fun pc L st w => bif Nat.beq pc 147 then (lR L 0 24 ((lI L 3).bind fun a3 => sE st (f_mm_lay_L147 n a3 w))) else none
set_option maxRecDepth 100000 in
set_option maxHeartbeats 4000000 in
theorem go_mm_lay_L147 (hcx : eCx p { frames := 8, cells := 0, slots := 0, locals := 181 } s m args meth c cX12_lay RX12 9 ad D cA vwCl SHm SSm (eWd yX12_lay cX12_lay 9 none) (none)) {x : eW} : ∀ (n : Nat) (a3 : Int32) (w : eW), f_mm_lay_L147  n a3 w = some x → eGq p l e { frames := 8, cells := 0, slots := 0, locals := 181 } s m args below meth c 9 ad D cA vwCl SHm rV x 147 [some (.ref 24), none, none, some (.int a3), none, none, none, none, none] [] w := by
  intro n
  induction n with
  | zero => intro a3 w h; exact nomatch (show (none : Option (eW)) = some x from h)
  | succ n ih =>
    intro a3 w h
    have h : eRun SHm SSm 9 rs_mm_lay (eCs cs_mm_lay) rV CX12_lay [28, 85, 147] (kk_mm_lay_147  n) 23 true 147 [some (.ref 24), none, none, some (.int a3), none, none, none, none, none] [] w = some x := h
    refine eRun_go hcx (eLnk_all lk_mm_lay) (eHc_all hc_mm_lay) rV_ok dcX12_lay [28, 85, 147] _ (fun pc L st w hK => ?_) 23 true 147 _ _ w h
    unfold kk_mm_lay_147 at hK
    rcases eCut hK with ⟨hpc, hK⟩ | hK
    · subst hpc
      obtain ⟨e0, hK_1⟩ := lR_some hK
      obtain ⟨a3, e3, hK_2⟩ := lI_some hK_1
      obtain ⟨hst9, hK_3⟩ := sE_some hK_2
      subst hst9
      exact eGo.wk (ih a3 w hK_3) (eLe_wk ⟨e0, e3, trivial⟩)
    cases hK
noncomputable def kk_mm_lay_85 (k28 : Int64 → Int32 → eW → Option (eW)) : eK (eW) := fun pc L st w => bif Nat.beq pc 28 then (lR L 0 24 ((lJ L 1).bind fun a1 => (lI L 3).bind fun a3 => sE st (k28 a1 a3 w))) else none
set_option maxRecDepth 100000 in
set_option maxHeartbeats 4000000 in
theorem go_mm_lay_J85 (hcx : eCx p { frames := 8, cells := 0, slots := 0, locals := 181 } s m args meth c cX12_lay RX12 9 ad D cA vwCl SHm SSm (eWd yX12_lay cX12_lay 9 none) (none)) {x : eW} (k28 : Int64 → Int32 → eW → Option (eW)) (hk28 : ∀ (a1 : Int64) (a3 : Int32) (w : eW), k28 a1 a3 w = some x → eGq p l e { frames := 8, cells := 0, slots := 0, locals := 181 } s m args below meth c 9 ad D cA vwCl SHm rV x 28 [some (.ref 24), some (.long a1), none, some (.int a3), none, none, none, none, none] [] w) : ∀ (a1 : Int64) (a3 : Int32) (a4 : Int64) (a6 : Int64) (s0 : Int32) (w : eW), f_mm_lay_J85 k28 a1 a3 a4 a6 s0 w = some x → eGq p l e { frames := 8, cells := 0, slots := 0, locals := 181 } s m args below meth c 9 ad D cA vwCl SHm rV x 85 [some (.ref 24), some (.long a1), none, some (.int a3), some (.long a4), none, some (.long a6), none, none] [.int s0] w := by
  intro a1 a3 a4 a6 s0 w h
  have h : eRun SHm SSm 9 rs_mm_lay (eCs cs_mm_lay) rV CX12_lay [28, 85, 147] (kk_mm_lay_85 k28) 32 true 85 [some (.ref 24), some (.long a1), none, some (.int a3), some (.long a4), none, some (.long a6), none, none] [.int s0] w = some x := h
  refine eRun_go hcx (eLnk_all lk_mm_lay) (eHc_all hc_mm_lay) rV_ok dcX12_lay [28, 85, 147] _ (fun pc L st w hK => ?_) 32 true 85 _ _ w h
  unfold kk_mm_lay_85 at hK
  rcases eCut hK with ⟨hpc, hK⟩ | hK
  · subst hpc
    obtain ⟨e0, hK_1⟩ := lR_some hK
    obtain ⟨a1, e1, hK_2⟩ := lJ_some hK_1
    obtain ⟨a3, e3, hK_3⟩ := lI_some hK_2
    obtain ⟨hst9, hK_4⟩ := sE_some hK_3
    subst hst9
    exact eGo.wk (hk28 a1 a3 w hK_4) (eLe_wk ⟨e0, e1, e3, trivial⟩)
  cases hK
noncomputable def kk_mm_lay_28 (n : Nat) : eK (eW) := fun pc L st w => bif Nat.beq pc 147 then (lR L 0 24 ((lI L 3).bind fun a3 => sE st (f_mm_lay_L147 eFu a3 w))) else (bif Nat.beq pc 85 then (lR L 0 24 ((lJ L 1).bind fun a1 => (lI L 3).bind fun a3 => (lJ L 4).bind fun a4 => (lJ L 6).bind fun a6 => sI st (fun s0 st1 => sE st1 (f_mm_lay_J85 (f_mm_lay_L28 n) a1 a3 a4 a6 s0 w)))) else none)
set_option maxRecDepth 100000 in
set_option maxHeartbeats 4000000 in
theorem go_mm_lay_L28 (hcx : eCx p { frames := 8, cells := 0, slots := 0, locals := 181 } s m args meth c cX12_lay RX12 9 ad D cA vwCl SHm SSm (eWd yX12_lay cX12_lay 9 none) (none)) {x : eW} : ∀ (n : Nat) (a1 : Int64) (a3 : Int32) (w : eW), f_mm_lay_L28  n a1 a3 w = some x → eGq p l e { frames := 8, cells := 0, slots := 0, locals := 181 } s m args below meth c 9 ad D cA vwCl SHm rV x 28 [some (.ref 24), some (.long a1), none, some (.int a3), none, none, none, none, none] [] w := by
  intro n
  induction n with
  | zero => intro a1 a3 w h; exact nomatch (show (none : Option (eW)) = some x from h)
  | succ n ih =>
    intro a1 a3 w h
    have h : eRun SHm SSm 9 rs_mm_lay (eCs cs_mm_lay) rV CX12_lay [28, 85, 147] (kk_mm_lay_28  n) 35 true 28 [some (.ref 24), some (.long a1), none, some (.int a3), none, none, none, none, none] [] w = some x := h
    refine eRun_go hcx (eLnk_all lk_mm_lay) (eHc_all hc_mm_lay) rV_ok dcX12_lay [28, 85, 147] _ (fun pc L st w hK => ?_) 35 true 28 _ _ w h
    unfold kk_mm_lay_28 at hK
    rcases eCut hK with ⟨hpc, hK⟩ | hK
    · subst hpc
      obtain ⟨e0, hK_1⟩ := lR_some hK
      obtain ⟨a3, e3, hK_2⟩ := lI_some hK_1
      obtain ⟨hst9, hK_3⟩ := sE_some hK_2
      subst hst9
      exact eGo.wk (go_mm_lay_L147 hcx  eFu a3 w hK_3) (eLe_wk ⟨e0, e3, trivial⟩)
    rcases eCut hK with ⟨hpc, hK⟩ | hK
    · subst hpc
      obtain ⟨e0, hK_1⟩ := lR_some hK
      obtain ⟨a1, e1, hK_2⟩ := lJ_some hK_1
      obtain ⟨a3, e3, hK_3⟩ := lI_some hK_2
      obtain ⟨a4, e4, hK_4⟩ := lJ_some hK_3
      obtain ⟨a6, e6, hK_5⟩ := lJ_some hK_4
      obtain ⟨s0, st1, hst0, hK_6⟩ := sI_some hK_5
      subst hst0
      obtain ⟨hst9, hK_7⟩ := sE_some hK_6
      subst hst9
      exact eGo.wk (go_mm_lay_J85 hcx (f_mm_lay_L28 n) ih a1 a3 a4 a6 s0 w hK_7) (eLe_wk ⟨e0, e1, e3, e4, e6, trivial⟩)
    cases hK
set_option maxRecDepth 100000 in
set_option maxHeartbeats 4000000 in
theorem go_mm_lay (hcx : eCx p { frames := 8, cells := 0, slots := 0, locals := 181 } s m args meth c cX12_lay RX12 9 ad D cA vwCl SHm SSm (eWd yX12_lay cX12_lay 9 none) (none)) (a1 : Int64) (w : eW) (x : eW) (h : f_mm_lay a1 w = some x) : eGq p l e { frames := 8, cells := 0, slots := 0, locals := 181 } s m args below meth c 9 ad D cA vwCl SHm rV x 0 (eEnt [.ref 24, .long a1]) [] w := by
  have h : eRun SHm SSm 9 rs_mm_lay (eCs cs_mm_lay) rV CX12_lay [28, 85, 147] (fun pc L st w => bif Nat.beq pc 28 then (lR L 0 24 ((lJ L 1).bind fun a1 => (lI L 3).bind fun a3 => sE st (f_mm_lay_L28 eFu a1 a3 w))) else none) 15 true 0 [some (.ref 24), some (.long a1), none, none, none, none, none, none, none] [] w = some x := h
  refine eGo.wk (eRun_go hcx (eLnk_all lk_mm_lay) (eHc_all hc_mm_lay) rV_ok dcX12_lay [28, 85, 147] _ (fun pc L st w hK => ?_) 15 true 0 _ _ w h) (eLe_wk ⟨rfl, rfl, trivial⟩)
  rcases eCut hK with ⟨hpc, hK⟩ | hK
  · subst hpc
    obtain ⟨e0, hK_1⟩ := lR_some hK
    obtain ⟨a1, e1, hK_2⟩ := lJ_some hK_1
    obtain ⟨a3, e3, hK_3⟩ := lI_some hK_2
    obtain ⟨hst9, hK_4⟩ := sE_some hK_3
    subst hst9
    exact eGo.wk (go_mm_lay_L28 hcx  eFu a1 a3 w hK_4) (eLe_wk ⟨e0, e1, e3, trivial⟩)
  cases hK
end
set_option maxRecDepth 100000 in
set_option maxHeartbeats 4000000 in
theorem ok_mm_lay {l : Launch} {ad : Nat → Nat} {D : va_G} {cA : Nat → ClassId} {ρ : Type} (as : List Value) (w : eW) (k : Option Value → eW → Option ρ) (x : ρ) (h : K_mm_lay as w k = some x) : ∃ (v : Option Value) (w2 : eW), k v w2 = some x ∧ eMet l ad D cA vwCl SHm SSm yX12_lay (eWd yX12_lay cX12_lay 9 none) { frames := 8, cells := 0, slots := 0, locals := 181 } as w v w2 := by
  unfold K_mm_lay at h
  split at h
  · rename_i r0 a1
    obtain ⟨h1, h5⟩ := eBif h
    clear h
    have h := h5
    clear h5
    have h1 := Nat.eq_of_beq_eq_true h1
    subst h1
    obtain ⟨q, h2, h3⟩ := Option.bind_eq_some_iff.mp h
    exact ⟨_, _, h3, eMet_of (by decide +kernel) rfl (by simp [eCat, Value.category]) rV_ret (fun p e s m args below meth c hcx => go_mm_lay hcx a1 w q h2)⟩
  · cases h
def CX12_layBy : eCo := [[some (.aload_n 0), some (.iconst 0), some (.putfield 244), none, none, some (.aload_n 0), some (.iload_n 1), some (.aload_n 0), some (.getfield 232), none, none, some (.invokestatic 311), none, none, some (.invokevirtual 315), none],
  [none, some (.return_)]]
theorem dcX12_layBy : eDec cX12_layBy CX12_layBy := eDec_of (by decide +kernel)
def rs_mm_layBy : List (Nat × eR) := [(232, (0, 11, 2, 0)), (244, (0, 11, 36, 3)), (311, (1, 0, 2, -1)), (315, (1, 1, 1, 11))]
noncomputable def cs_mm_layBy : List (eF (eW)) := [K_mm_fallsBy, K_mm_lay]
noncomputable def f_mm_layBy (a1 : Int32) (w : eW) : Option (eW) := ((f_mm_fallsBy a1 (w.1 24 2) (eU1 w 24 36 (0 : Int32))).bind fun p1 => ((f_mm_lay p1.1 p1.2).bind fun w2 => (some w2)))
noncomputable def K_mm_layBy {ρ : Type} : eF ρ := fun as w k => match as with
  | [.ref r0, .int a1] => bif Nat.beq r0 24 then (f_mm_layBy a1 w).bind (fun w => k none w) else none
  | _ => none
section
variable {p : Program} {l : Launch} {e : Env} {s : State} {m : MethodId} {args : Array Value} {below : List Frame} {meth : Method} {c : Code} {ad : Nat → Nat} {D : va_G} {cA : Nat → ClassId}
theorem lk_mm_layBy : ∀ q ∈ rs_mm_layBy, eLnk { frames := 9, cells := 0, slots := 0, locals := 209 } vwCl (eWd yX12_layBy cX12_layBy 2 none) SSm SHm.length RX12 q.1 q.2 := List.forall_mem_cons.mpr ⟨lkX12_232 eTb_wd, List.forall_mem_cons.mpr ⟨lkX12_244 eTb_wd, List.forall_mem_cons.mpr ⟨trivial, List.forall_mem_cons.mpr ⟨trivial, fun _ h => absurd h List.not_mem_nil⟩⟩⟩⟩
theorem hc_mm_layBy {x : eW} : ∀ q ∈ rs_mm_layBy, eHc l { frames := 9, cells := 0, slots := 0, locals := 209 } ad D cA vwCl SHm SSm (eWd yX12_layBy cX12_layBy 2 none) RX12 cs_mm_layBy x q := List.forall_mem_cons.mpr ⟨trivial, List.forall_mem_cons.mpr ⟨trivial, List.forall_mem_cons.mpr ⟨(fun as w k h => let ⟨v, w2, h1, h2⟩ := ok_mm_fallsBy as w k x h; ⟨v, w2, h1, eCal_of h2 ⟨rfl, rfl⟩ hdX12_fallsBy (gvX12_311 eTb_wd)⟩), List.forall_mem_cons.mpr ⟨(fun as w k h => let ⟨v, w2, h1, h2⟩ := ok_mm_lay as w k x h; ⟨v, w2, h1, eCal_of h2 ⟨rfl, rfl⟩ hdX12_lay (gvX12_315 eTb_wd)⟩), fun _ h => absurd h List.not_mem_nil⟩⟩⟩⟩
set_option maxRecDepth 100000 in
set_option maxHeartbeats 4000000 in
theorem go_mm_layBy (hcx : eCx p { frames := 9, cells := 0, slots := 0, locals := 209 } s m args meth c cX12_layBy RX12 2 ad D cA vwCl SHm SSm (eWd yX12_layBy cX12_layBy 2 none) (none)) (a1 : Int32) (w : eW) (x : eW) (h : f_mm_layBy a1 w = some x) : eGq p l e { frames := 9, cells := 0, slots := 0, locals := 209 } s m args below meth c 2 ad D cA vwCl SHm rV x 0 (eEnt [.ref 24, .int a1]) [] w := by
  have h : eRun SHm SSm 2 rs_mm_layBy (eCs cs_mm_layBy) rV CX12_layBy [] (fun pc L st w => none) 12 true 0 [some (.ref 24), some (.int a1)] [] w = some x := h
  refine eGo.wk (eRun_go hcx (eLnk_all lk_mm_layBy) (eHc_all hc_mm_layBy) rV_ok dcX12_layBy [] _ (fun pc L st w hK => ?_) 12 true 0 _ _ w h) (eLe_wk ⟨rfl, rfl, trivial⟩)
  cases hK
end
set_option maxRecDepth 100000 in
set_option maxHeartbeats 4000000 in
theorem ok_mm_layBy {l : Launch} {ad : Nat → Nat} {D : va_G} {cA : Nat → ClassId} {ρ : Type} (as : List Value) (w : eW) (k : Option Value → eW → Option ρ) (x : ρ) (h : K_mm_layBy as w k = some x) : ∃ (v : Option Value) (w2 : eW), k v w2 = some x ∧ eMet l ad D cA vwCl SHm SSm yX12_layBy (eWd yX12_layBy cX12_layBy 2 none) { frames := 9, cells := 0, slots := 0, locals := 209 } as w v w2 := by
  unfold K_mm_layBy at h
  split at h
  · rename_i r0 a1
    obtain ⟨h1, h5⟩ := eBif h
    clear h
    have h := h5
    clear h5
    have h1 := Nat.eq_of_beq_eq_true h1
    subst h1
    obtain ⟨q, h2, h3⟩ := Option.bind_eq_some_iff.mp h
    exact ⟨_, _, h3, eMet_of (by decide +kernel) rfl (by simp [eCat, Value.category]) rV_ret (fun p e s m args below meth c hcx => go_mm_layBy hcx a1 w q h2)⟩
  · cases h
def CX12_lowest : eCo := [[some (.aload_n 0), some (.getfield 63), none, none, some (.iload_n 1), some (.laload), some (.aload_n 0), some (.getfield 66), none, none, some (.invokestatic 307), none, none, some (.lstore_n 3), some (.iload_n 2), some (.ifCond .eq 10)],
  [none, none, some (.aload_n 0), some (.getfield 66), none, none, some (.goto 9), none, none, some (.aload_n 0), some (.getfield 63), none, none, some (.iload_n 1), some (.laload), some (.lload_n 3)],
  [some (.ldiv), some (.lreturn)]]
theorem dcX12_lowest : eDec cX12_lowest CX12_lowest := eDec_of (by decide +kernel)
def rs_mm_lowest : List (Nat × eR) := [(63, (0, 11, 37, 2)), (66, (0, 11, 38, 1)), (307, (1, 0, 2, -1))]
noncomputable def cs_mm_lowest : List (eF (Int64 × eW)) := [K_mm_common]
noncomputable def f_mm_lowest (a1 : Int32) (a2 : Int32) (w : eW) : Option (Int64 × eW) := (eChk a1 12 ((f_mm_common (w.2 16 (Int32.toNatClampNeg a1)) (w.2 24 38) w).bind fun p1 => (if a2 = 0 then (eChk a1 12 (if p1.1 = 0 then none else (some (((p1.2.2 16 (Int32.toNatClampNeg a1)) / p1.1), p1.2)))) else (if p1.1 = 0 then none else (some (((p1.2.2 24 38) / p1.1), p1.2))))))
noncomputable def K_mm_lowest {ρ : Type} : eF ρ := fun as w k => match as with
  | [.ref r0, .int a1, .int a2] => bif Nat.beq r0 24 then (f_mm_lowest a1 a2 w).bind (fun p => k (some (.long p.1)) p.2) else none
  | _ => none
section
variable {p : Program} {l : Launch} {e : Env} {s : State} {m : MethodId} {args : Array Value} {below : List Frame} {meth : Method} {c : Code} {ad : Nat → Nat} {D : va_G} {cA : Nat → ClassId}
theorem lk_mm_lowest : ∀ q ∈ rs_mm_lowest, eLnk { frames := 1, cells := 0, slots := 0, locals := 29 } vwCl (eWd yX12_lowest cX12_lowest 5 (some .long)) SSm SHm.length RX12 q.1 q.2 := List.forall_mem_cons.mpr ⟨lkX12_63 eTb_wd, List.forall_mem_cons.mpr ⟨lkX12_66 eTb_wd, List.forall_mem_cons.mpr ⟨trivial, fun _ h => absurd h List.not_mem_nil⟩⟩⟩
theorem hc_mm_lowest {x : Int64 × eW} : ∀ q ∈ rs_mm_lowest, eHc l { frames := 1, cells := 0, slots := 0, locals := 29 } ad D cA vwCl SHm SSm (eWd yX12_lowest cX12_lowest 5 (some .long)) RX12 cs_mm_lowest x q := List.forall_mem_cons.mpr ⟨trivial, List.forall_mem_cons.mpr ⟨trivial, List.forall_mem_cons.mpr ⟨(fun as w k h => let ⟨v, w2, h1, h2⟩ := ok_mm_common as w k x h; ⟨v, w2, h1, eCal_of h2 ⟨rfl, rfl⟩ hdX12_common (gvX12_307 eTb_wd)⟩), fun _ h => absurd h List.not_mem_nil⟩⟩⟩
set_option maxRecDepth 100000 in
set_option maxHeartbeats 4000000 in
theorem go_mm_lowest (hcx : eCx p { frames := 1, cells := 0, slots := 0, locals := 29 } s m args meth c cX12_lowest RX12 5 ad D cA vwCl SHm SSm (eWd yX12_lowest cX12_lowest 5 (some .long)) (some .long)) (a1 : Int32) (a2 : Int32) (w : eW) (x : Int64 × eW) (h : f_mm_lowest a1 a2 w = some x) : eGq p l e { frames := 1, cells := 0, slots := 0, locals := 29 } s m args below meth c 5 ad D cA vwCl SHm rJ x 0 (eEnt [.ref 24, .int a1, .int a2]) [] w := by
  have h : eRun SHm SSm 5 rs_mm_lowest (eCs cs_mm_lowest) rJ CX12_lowest [] (fun pc L st w => none) 19 true 0 [some (.ref 24), some (.int a1), some (.int a2), none, none] [] w = some x := h
  refine eGo.wk (eRun_go hcx (eLnk_all lk_mm_lowest) (eHc_all hc_mm_lowest) rJ_ok dcX12_lowest [] _ (fun pc L st w hK => ?_) 19 true 0 _ _ w h) (eLe_wk ⟨rfl, rfl, rfl, trivial⟩)
  cases hK
end
set_option maxRecDepth 100000 in
set_option maxHeartbeats 4000000 in
theorem ok_mm_lowest {l : Launch} {ad : Nat → Nat} {D : va_G} {cA : Nat → ClassId} {ρ : Type} (as : List Value) (w : eW) (k : Option Value → eW → Option ρ) (x : ρ) (h : K_mm_lowest as w k = some x) : ∃ (v : Option Value) (w2 : eW), k v w2 = some x ∧ eMet l ad D cA vwCl SHm SSm yX12_lowest (eWd yX12_lowest cX12_lowest 5 (some .long)) { frames := 1, cells := 0, slots := 0, locals := 29 } as w v w2 := by
  unfold K_mm_lowest at h
  split at h
  · rename_i r0 a1 a2
    obtain ⟨h1, h5⟩ := eBif h
    clear h
    have h := h5
    clear h5
    have h1 := Nat.eq_of_beq_eq_true h1
    subst h1
    obtain ⟨q, h2, h3⟩ := Option.bind_eq_some_iff.mp h
    exact ⟨_, _, h3, eMet_of (by decide +kernel) rfl (by simp [eCat, Value.category]) rJ_ret (fun p e s m args below meth c hcx => go_mm_lowest hcx a1 a2 w q h2)⟩
  · cases h
