def CX12_keep : eCo := [[some (.aload_n 0), some (.getfield 241), none, none, some (.bipush 12), none, some (.if_icmp .ne 44), none, none, some (.bipush 48), none, some (.istore_n 1), some (.iload_n 1), some (.sipush 576), none, none],
  [some (.if_icmp .ge 24), none, none, some (.aload_n 0), some (.getfield 86), none, none, some (.iload_n 1), some (.bipush 48), none, some (.isub), some (.aload_n 0), some (.getfield 86), none, none, some (.iload_n 1)],
  [some (.iaload), some (.iastore), some (.iinc 1 1), none, none, some (.goto (-25)), none, none, some (.aload_n 0), some (.dup), some (.getfield 241), none, none, some (.iconst 1), some (.isub), some (.putfield 241)],
  [none, none, some (.bipush 48), none, some (.aload_n 0), some (.getfield 241), none, none, some (.imul), some (.istore_n 1), some (.iconst 0), some (.istore_n 2), some (.iload_n 2), some (.bipush 12), none, some (.if_icmp .ge 40)],
  [none, none, some (.aload_n 0), some (.getfield 86), none, none, some (.iload_n 1), some (.iload_n 2), some (.iadd), some (.aload_n 0), some (.getfield 13), none, none, some (.iload_n 2), some (.iaload), some (.iastore)],
  [some (.aload_n 0), some (.getfield 86), none, none, some (.iload_n 1), some (.bipush 12), none, some (.iadd), some (.iload_n 2), some (.iadd), some (.aload_n 0), some (.getfield 19), none, none, some (.iload_n 2), some (.iaload)],
  [some (.iastore), some (.iinc 2 1), none, none, some (.goto (-40)), none, none, some (.iconst 0), some (.istore_n 2), some (.iload_n 2), some (.bipush 8), none, some (.if_icmp .ge 43), none, none, some (.aload_n 0)],
  [some (.getfield 86), none, none, some (.iload_n 1), some (.bipush 24), none, some (.iadd), some (.iload_n 2), some (.iadd), some (.aload_n 0), some (.getfield 89), none, none, some (.iload_n 2), some (.iaload), some (.iastore)],
  [some (.aload_n 0), some (.getfield 86), none, none, some (.iload_n 1), some (.bipush 32), none, some (.iadd), some (.iload_n 2), some (.iadd), some (.aload_n 0), some (.getfield 92), none, none, some (.iload_n 2), some (.iaload)],
  [some (.iastore), some (.iinc 2 1), none, none, some (.goto (-43)), none, none, some (.aload_n 0), some (.getfield 86), none, none, some (.iload_n 1), some (.bipush 40), none, some (.iadd), some (.aload_n 0)],
  [some (.getfield 235), none, none, some (.iastore), some (.aload_n 0), some (.getfield 86), none, none, some (.iload_n 1), some (.bipush 41), none, some (.iadd), some (.aload_n 0), some (.getfield 113), none, none],
  [some (.iastore), some (.aload_n 0), some (.getfield 86), none, none, some (.iload_n 1), some (.bipush 42), none, some (.iadd), some (.aload_n 0), some (.getfield 238), none, none, some (.ifCond .eq 7), none, none],
  [some (.iconst 1), some (.goto 4), none, none, some (.iconst 0), some (.iastore), some (.aload_n 0), some (.getfield 86), none, none, some (.iload_n 1), some (.bipush 43), none, some (.iadd), some (.aload_n 0), some (.getfield 393)],
  [none, none, some (.iastore), some (.aload_n 0), some (.getfield 86), none, none, some (.iload_n 1), some (.bipush 44), none, some (.iadd), some (.aload_n 0), some (.getfield 396), none, none, some (.iastore)],
  [some (.aload_n 0), some (.getfield 86), none, none, some (.iload_n 1), some (.bipush 45), none, some (.iadd), some (.aload_n 0), some (.getfield 399), none, none, some (.iastore), some (.aload_n 0), some (.getfield 86), none],
  [none, some (.iload_n 1), some (.bipush 46), none, some (.iadd), some (.aload_n 0), some (.getfield 402), none, none, some (.iastore), some (.aload_n 0), some (.dup), some (.getfield 241), none, none, some (.iconst 1)],
  [some (.iadd), some (.putfield 241), none, none, some (.return_)]]
theorem dcX12_keep : eDec cX12_keep CX12_keep := eDec_of (by decide +kernel)
def rs_mm_keep : List (Nat × eR) := [(13, (0, 11, 6, 2)), (19, (0, 11, 8, 2)), (86, (0, 11, 50, 2)), (89, (0, 11, 51, 2)), (92, (0, 11, 52, 2)), (113, (0, 11, 16, 0)), (235, (0, 11, 54, 0)), (238, (0, 11, 59, 3)), (241, (0, 11, 53, 0)), (393, (0, 11, 55, 0)), (396, (0, 11, 56, 0)), (399, (0, 11, 57, 0)), (402, (0, 11, 58, 0))]
noncomputable def cs_mm_keep : List (eF (eW)) := []
noncomputable def f_mm_keep_J197 (a1 : Int32) (s0 : Int32) (s1 : Int32) (w : eW) : Option (eW) := (eChk s1 576 (eChk (a1 + (43 : Int32)) 576 (eChk (a1 + (44 : Int32)) 576 (eChk (a1 + (45 : Int32)) 576 (eChk (a1 + (46 : Int32)) 576 (some (eU1 (eU1 (eU1 (eU1 (eU1 (eU1 w 21 (Int32.toNatClampNeg s1) s0) 21 (Int32.toNatClampNeg (a1 + (43 : Int32))) (w.1 24 55)) 21 (Int32.toNatClampNeg (a1 + (44 : Int32))) (w.1 24 56)) 21 (Int32.toNatClampNeg (a1 + (45 : Int32))) (w.1 24 57)) 21 (Int32.toNatClampNeg (a1 + (46 : Int32))) (w.1 24 58)) 24 53 ((w.1 24 53) + (1 : Int32)))))))))
noncomputable def f_mm_keep_L105 : Nat → Int32 → Int32 → eW → Option (eW)
  | 0, _, _, _ => none
  | n + 1, a1, a2, w => (if (8 : Int32) ≤ a2 then (eChk (a1 + (40 : Int32)) 576 (eChk (a1 + (41 : Int32)) 576 (if (w.1 24 59) = 0 then (f_mm_keep_J197 a1 (0 : Int32) (a1 + (42 : Int32)) (eU1 (eU1 w 21 (Int32.toNatClampNeg (a1 + (40 : Int32))) (w.1 24 54)) 21 (Int32.toNatClampNeg (a1 + (41 : Int32))) (w.1 24 16))) else (f_mm_keep_J197 a1 (1 : Int32) (a1 + (42 : Int32)) (eU1 (eU1 w 21 (Int32.toNatClampNeg (a1 + (40 : Int32))) (w.1 24 54)) 21 (Int32.toNatClampNeg (a1 + (41 : Int32))) (w.1 24 16)))))) else (eChk a2 8 (eChk ((a1 + (24 : Int32)) + a2) 576 (eChk a2 8 (eChk ((a1 + (32 : Int32)) + a2) 576 (f_mm_keep_L105 n a1 (a2 + (1 : Int32)) (eU1 (eU1 w 21 (Int32.toNatClampNeg ((a1 + (24 : Int32)) + a2)) (w.1 22 (Int32.toNatClampNeg a2))) 21 (Int32.toNatClampNeg ((a1 + (32 : Int32)) + a2)) (w.1 23 (Int32.toNatClampNeg a2)))))))))
noncomputable def f_mm_keep_L60 : Nat → Int32 → Int32 → eW → Option (eW)
  | 0, _, _, _ => none
  | n + 1, a1, a2, w => (if (12 : Int32) ≤ a2 then (f_mm_keep_L105 eFu a1 (0 : Int32) w) else (eChk a2 24 (eChk (a1 + a2) 576 (eChk a2 24 (eChk ((a1 + (12 : Int32)) + a2) 576 (f_mm_keep_L60 n a1 (a2 + (1 : Int32)) (eU1 (eU1 w 21 (Int32.toNatClampNeg (a1 + a2)) (w.1 1 (Int32.toNatClampNeg a2))) 21 (Int32.toNatClampNeg ((a1 + (12 : Int32)) + a2)) (w.1 3 (Int32.toNatClampNeg a2)))))))))
noncomputable def f_mm_keep_L12 : Nat → Int32 → eW → Option (eW)
  | 0, _, _ => none
  | n + 1, a1, w => (if (576 : Int32) ≤ a1 then (f_mm_keep_L60 eFu ((48 : Int32) * ((w.1 24 53) - (1 : Int32))) (0 : Int32) (eU1 w 24 53 ((w.1 24 53) - (1 : Int32)))) else (eChk a1 576 (eChk (a1 - (48 : Int32)) 576 (f_mm_keep_L12 n (a1 + (1 : Int32)) (eU1 w 21 (Int32.toNatClampNeg (a1 - (48 : Int32))) (w.1 21 (Int32.toNatClampNeg a1)))))))
noncomputable def f_mm_keep (w : eW) : Option (eW) := (if ¬ (w.1 24 53) = (12 : Int32) then (f_mm_keep_L60 eFu ((48 : Int32) * (w.1 24 53)) (0 : Int32) w) else (f_mm_keep_L12 eFu (48 : Int32) w))
noncomputable def K_mm_keep {ρ : Type} : eF ρ := fun as w k => match as with
  | [.ref r0] => bif Nat.beq r0 24 then (f_mm_keep w).bind (fun w => k none w) else none
  | _ => none
section
variable {p : Program} {l : Launch} {e : Env} {s : State} {m : MethodId} {args : Array Value} {below : List Frame} {meth : Method} {c : Code} {ad : Nat → Nat} {D : va_G} {cA : Nat → ClassId}
theorem lk_mm_keep : ∀ q ∈ rs_mm_keep, eLnk { frames := 0, cells := 0, slots := 0, locals := 0 } vwCl (eWd yX12_keep cX12_keep 3 none) SSm SHm.length RX12 q.1 q.2 := List.forall_mem_cons.mpr ⟨lkX12_13 eTb_wd, List.forall_mem_cons.mpr ⟨lkX12_19 eTb_wd, List.forall_mem_cons.mpr ⟨lkX12_86 eTb_wd, List.forall_mem_cons.mpr ⟨lkX12_89 eTb_wd, List.forall_mem_cons.mpr ⟨lkX12_92 eTb_wd, List.forall_mem_cons.mpr ⟨lkX12_113 eTb_wd, List.forall_mem_cons.mpr ⟨lkX12_235 eTb_wd, List.forall_mem_cons.mpr ⟨lkX12_238 eTb_wd, List.forall_mem_cons.mpr ⟨lkX12_241 eTb_wd, List.forall_mem_cons.mpr ⟨lkX12_393 eTb_wd, List.forall_mem_cons.mpr ⟨lkX12_396 eTb_wd, List.forall_mem_cons.mpr ⟨lkX12_399 eTb_wd, List.forall_mem_cons.mpr ⟨lkX12_402 eTb_wd, fun _ h => absurd h List.not_mem_nil⟩⟩⟩⟩⟩⟩⟩⟩⟩⟩⟩⟩⟩
theorem hc_mm_keep {x : eW} : ∀ q ∈ rs_mm_keep, eHc l { frames := 0, cells := 0, slots := 0, locals := 0 } ad D cA vwCl SHm SSm (eWd yX12_keep cX12_keep 3 none) RX12 cs_mm_keep x q := List.forall_mem_cons.mpr ⟨trivial, List.forall_mem_cons.mpr ⟨trivial, List.forall_mem_cons.mpr ⟨trivial, List.forall_mem_cons.mpr ⟨trivial, List.forall_mem_cons.mpr ⟨trivial, List.forall_mem_cons.mpr ⟨trivial, List.forall_mem_cons.mpr ⟨trivial, List.forall_mem_cons.mpr ⟨trivial, List.forall_mem_cons.mpr ⟨trivial, List.forall_mem_cons.mpr ⟨trivial, List.forall_mem_cons.mpr ⟨trivial, List.forall_mem_cons.mpr ⟨trivial, List.forall_mem_cons.mpr ⟨trivial, fun _ h => absurd h List.not_mem_nil⟩⟩⟩⟩⟩⟩⟩⟩⟩⟩⟩⟩⟩
noncomputable def kk_mm_keep_197 : eK (eW) := fun pc L st w => none
set_option maxRecDepth 100000 in
set_option maxHeartbeats 4000000 in
theorem go_mm_keep_J197 (hcx : eCx p { frames := 0, cells := 0, slots := 0, locals := 0 } s m args meth c cX12_keep RX12 3 ad D cA vwCl SHm SSm (eWd yX12_keep cX12_keep 3 none) (none)) {x : eW} : ∀ (a1 : Int32) (s0 : Int32) (s1 : Int32) (w : eW), f_mm_keep_J197  a1 s0 s1 w = some x → eGq p l e { frames := 0, cells := 0, slots := 0, locals := 0 } s m args below meth c 3 ad D cA vwCl SHm rV x 197 [some (.ref 24), some (.int a1), none] [.int s0, .int s1, .ref 21] w := by
  intro a1 s0 s1 w h
  have h : eRun SHm SSm 3 rs_mm_keep (eCs cs_mm_keep) rV CX12_keep [12, 60, 105, 197] (kk_mm_keep_197 ) 42 true 197 [some (.ref 24), some (.int a1), none] [.int s0, .int s1, .ref 21] w = some x := h
  refine eRun_go hcx (eLnk_all lk_mm_keep) (eHc_all hc_mm_keep) rV_ok dcX12_keep [12, 60, 105, 197] _ (fun pc L st w hK => ?_) 42 true 197 _ _ w h
  unfold kk_mm_keep_197 at hK
  cases hK
noncomputable def kk_mm_keep_105 (n : Nat) : eK (eW) := fun pc L st w => bif Nat.beq pc 197 then (lR L 0 24 ((lI L 1).bind fun a1 => sI st (fun s0 st1 => sI st1 (fun s1 st2 => sR st2 21 (fun st3 => sE st3 (f_mm_keep_J197 a1 s0 s1 w)))))) else (bif Nat.beq pc 105 then (lR L 0 24 ((lI L 1).bind fun a1 => (lI L 2).bind fun a2 => sE st (f_mm_keep_L105 n a1 a2 w))) else none)
set_option maxRecDepth 100000 in
set_option maxHeartbeats 4000000 in
theorem go_mm_keep_L105 (hcx : eCx p { frames := 0, cells := 0, slots := 0, locals := 0 } s m args meth c cX12_keep RX12 3 ad D cA vwCl SHm SSm (eWd yX12_keep cX12_keep 3 none) (none)) {x : eW} : ∀ (n : Nat) (a1 : Int32) (a2 : Int32) (w : eW), f_mm_keep_L105  n a1 a2 w = some x → eGq p l e { frames := 0, cells := 0, slots := 0, locals := 0 } s m args below meth c 3 ad D cA vwCl SHm rV x 105 [some (.ref 24), some (.int a1), some (.int a2)] [] w := by
  intro n
  induction n with
  | zero => intro a1 a2 w h; exact nomatch (show (none : Option (eW)) = some x from h)
  | succ n ih =>
    intro a1 a2 w h
    have h : eRun SHm SSm 3 rs_mm_keep (eCs cs_mm_keep) rV CX12_keep [12, 60, 105, 197] (kk_mm_keep_105  n) 32 true 105 [some (.ref 24), some (.int a1), some (.int a2)] [] w = some x := h
    refine eRun_go hcx (eLnk_all lk_mm_keep) (eHc_all hc_mm_keep) rV_ok dcX12_keep [12, 60, 105, 197] _ (fun pc L st w hK => ?_) 32 true 105 _ _ w h
    unfold kk_mm_keep_105 at hK
    rcases eCut hK with ⟨hpc, hK⟩ | hK
    · subst hpc
      obtain ⟨e0, hK_1⟩ := lR_some hK
      obtain ⟨a1, e1, hK_2⟩ := lI_some hK_1
      obtain ⟨s0, st1, hst0, hK_3⟩ := sI_some hK_2
      subst hst0
      obtain ⟨s1, st2, hst1, hK_4⟩ := sI_some hK_3
      subst hst1
      obtain ⟨st3, hst2, hK_5⟩ := sR_some hK_4
      subst hst2
      obtain ⟨hst9, hK_6⟩ := sE_some hK_5
      subst hst9
      exact eGo.wk (go_mm_keep_J197 hcx  a1 s0 s1 w hK_6) (eLe_wk ⟨e0, e1, trivial⟩)
    rcases eCut hK with ⟨hpc, hK⟩ | hK
    · subst hpc
      obtain ⟨e0, hK_1⟩ := lR_some hK
      obtain ⟨a1, e1, hK_2⟩ := lI_some hK_1
      obtain ⟨a2, e2, hK_3⟩ := lI_some hK_2
      obtain ⟨hst9, hK_4⟩ := sE_some hK_3
      subst hst9
      exact eGo.wk (ih a1 a2 w hK_4) (eLe_wk ⟨e0, e1, e2, trivial⟩)
    cases hK
noncomputable def kk_mm_keep_60 (n : Nat) : eK (eW) := fun pc L st w => bif Nat.beq pc 105 then (lR L 0 24 ((lI L 1).bind fun a1 => (lI L 2).bind fun a2 => sE st (f_mm_keep_L105 eFu a1 a2 w))) else (bif Nat.beq pc 60 then (lR L 0 24 ((lI L 1).bind fun a1 => (lI L 2).bind fun a2 => sE st (f_mm_keep_L60 n a1 a2 w))) else none)
set_option maxRecDepth 100000 in
set_option maxHeartbeats 4000000 in
theorem go_mm_keep_L60 (hcx : eCx p { frames := 0, cells := 0, slots := 0, locals := 0 } s m args meth c cX12_keep RX12 3 ad D cA vwCl SHm SSm (eWd yX12_keep cX12_keep 3 none) (none)) {x : eW} : ∀ (n : Nat) (a1 : Int32) (a2 : Int32) (w : eW), f_mm_keep_L60  n a1 a2 w = some x → eGq p l e { frames := 0, cells := 0, slots := 0, locals := 0 } s m args below meth c 3 ad D cA vwCl SHm rV x 60 [some (.ref 24), some (.int a1), some (.int a2)] [] w := by
  intro n
  induction n with
  | zero => intro a1 a2 w h; exact nomatch (show (none : Option (eW)) = some x from h)
  | succ n ih =>
    intro a1 a2 w h
    have h : eRun SHm SSm 3 rs_mm_keep (eCs cs_mm_keep) rV CX12_keep [12, 60, 105, 197] (kk_mm_keep_60  n) 30 true 60 [some (.ref 24), some (.int a1), some (.int a2)] [] w = some x := h
    refine eRun_go hcx (eLnk_all lk_mm_keep) (eHc_all hc_mm_keep) rV_ok dcX12_keep [12, 60, 105, 197] _ (fun pc L st w hK => ?_) 30 true 60 _ _ w h
    unfold kk_mm_keep_60 at hK
    rcases eCut hK with ⟨hpc, hK⟩ | hK
    · subst hpc
      obtain ⟨e0, hK_1⟩ := lR_some hK
      obtain ⟨a1, e1, hK_2⟩ := lI_some hK_1
      obtain ⟨a2, e2, hK_3⟩ := lI_some hK_2
      obtain ⟨hst9, hK_4⟩ := sE_some hK_3
      subst hst9
      exact eGo.wk (go_mm_keep_L105 hcx  eFu a1 a2 w hK_4) (eLe_wk ⟨e0, e1, e2, trivial⟩)
    rcases eCut hK with ⟨hpc, hK⟩ | hK
    · subst hpc
      obtain ⟨e0, hK_1⟩ := lR_some hK
      obtain ⟨a1, e1, hK_2⟩ := lI_some hK_1
      obtain ⟨a2, e2, hK_3⟩ := lI_some hK_2
      obtain ⟨hst9, hK_4⟩ := sE_some hK_3
      subst hst9
      exact eGo.wk (ih a1 a2 w hK_4) (eLe_wk ⟨e0, e1, e2, trivial⟩)
    cases hK
noncomputable def kk_mm_keep_12 (n : Nat) : eK (eW) := fun pc L st w => bif Nat.beq pc 60 then (lR L 0 24 ((lI L 1).bind fun a1 => (lI L 2).bind fun a2 => sE st (f_mm_keep_L60 eFu a1 a2 w))) else (bif Nat.beq pc 12 then (lR L 0 24 ((lI L 1).bind fun a1 => sE st (f_mm_keep_L12 n a1 w))) else none)
set_option maxRecDepth 100000 in
set_option maxHeartbeats 4000000 in
theorem go_mm_keep_L12 (hcx : eCx p { frames := 0, cells := 0, slots := 0, locals := 0 } s m args meth c cX12_keep RX12 3 ad D cA vwCl SHm SSm (eWd yX12_keep cX12_keep 3 none) (none)) {x : eW} : ∀ (n : Nat) (a1 : Int32) (w : eW), f_mm_keep_L12  n a1 w = some x → eGq p l e { frames := 0, cells := 0, slots := 0, locals := 0 } s m args below meth c 3 ad D cA vwCl SHm rV x 12 [some (.ref 24), some (.int a1), none] [] w := by
  intro n
  induction n with
  | zero => intro a1 w h; exact nomatch (show (none : Option (eW)) = some x from h)
  | succ n ih =>
    intro a1 w h
    have h : eRun SHm SSm 3 rs_mm_keep (eCs cs_mm_keep) rV CX12_keep [12, 60, 105, 197] (kk_mm_keep_12  n) 19 true 12 [some (.ref 24), some (.int a1), none] [] w = some x := h
    refine eRun_go hcx (eLnk_all lk_mm_keep) (eHc_all hc_mm_keep) rV_ok dcX12_keep [12, 60, 105, 197] _ (fun pc L st w hK => ?_) 19 true 12 _ _ w h
    unfold kk_mm_keep_12 at hK
    rcases eCut hK with ⟨hpc, hK⟩ | hK
    · subst hpc
      obtain ⟨e0, hK_1⟩ := lR_some hK
      obtain ⟨a1, e1, hK_2⟩ := lI_some hK_1
      obtain ⟨a2, e2, hK_3⟩ := lI_some hK_2
      obtain ⟨hst9, hK_4⟩ := sE_some hK_3
      subst hst9
      exact eGo.wk (go_mm_keep_L60 hcx  eFu a1 a2 w hK_4) (eLe_wk ⟨e0, e1, e2, trivial⟩)
    rcases eCut hK with ⟨hpc, hK⟩ | hK
    · subst hpc
      obtain ⟨e0, hK_1⟩ := lR_some hK
      obtain ⟨a1, e1, hK_2⟩ := lI_some hK_1
      obtain ⟨hst9, hK_3⟩ := sE_some hK_2
      subst hst9
      exact eGo.wk (ih a1 w hK_3) (eLe_wk ⟨e0, e1, trivial⟩)
    cases hK
set_option maxRecDepth 100000 in
set_option maxHeartbeats 4000000 in
theorem go_mm_keep (hcx : eCx p { frames := 0, cells := 0, slots := 0, locals := 0 } s m args meth c cX12_keep RX12 3 ad D cA vwCl SHm SSm (eWd yX12_keep cX12_keep 3 none) (none)) (w : eW) (x : eW) (h : f_mm_keep w = some x) : eGq p l e { frames := 0, cells := 0, slots := 0, locals := 0 } s m args below meth c 3 ad D cA vwCl SHm rV x 0 (eEnt [.ref 24]) [] w := by
  have h : eRun SHm SSm 3 rs_mm_keep (eCs cs_mm_keep) rV CX12_keep [12, 60, 105, 197] (fun pc L st w => bif Nat.beq pc 60 then (lR L 0 24 ((lI L 1).bind fun a1 => (lI L 2).bind fun a2 => sE st (f_mm_keep_L60 eFu a1 a2 w))) else (bif Nat.beq pc 12 then (lR L 0 24 ((lI L 1).bind fun a1 => sE st (f_mm_keep_L12 eFu a1 w))) else none)) 14 true 0 [some (.ref 24), none, none] [] w = some x := h
  refine eGo.wk (eRun_go hcx (eLnk_all lk_mm_keep) (eHc_all hc_mm_keep) rV_ok dcX12_keep [12, 60, 105, 197] _ (fun pc L st w hK => ?_) 14 true 0 _ _ w h) (eLe_wk ⟨rfl, trivial⟩)
  rcases eCut hK with ⟨hpc, hK⟩ | hK
  · subst hpc
    obtain ⟨e0, hK_1⟩ := lR_some hK
    obtain ⟨a1, e1, hK_2⟩ := lI_some hK_1
    obtain ⟨a2, e2, hK_3⟩ := lI_some hK_2
    obtain ⟨hst9, hK_4⟩ := sE_some hK_3
    subst hst9
    exact eGo.wk (go_mm_keep_L60 hcx  eFu a1 a2 w hK_4) (eLe_wk ⟨e0, e1, e2, trivial⟩)
  rcases eCut hK with ⟨hpc, hK⟩ | hK
  · subst hpc
    obtain ⟨e0, hK_1⟩ := lR_some hK
    obtain ⟨a1, e1, hK_2⟩ := lI_some hK_1
    obtain ⟨hst9, hK_3⟩ := sE_some hK_2
    subst hst9
    exact eGo.wk (go_mm_keep_L12 hcx  eFu a1 w hK_3) (eLe_wk ⟨e0, e1, trivial⟩)
  cases hK
end
set_option maxRecDepth 100000 in
set_option maxHeartbeats 4000000 in
theorem ok_mm_keep {l : Launch} {ad : Nat → Nat} {D : va_G} {cA : Nat → ClassId} {ρ : Type} (as : List Value) (w : eW) (k : Option Value → eW → Option ρ) (x : ρ) (h : K_mm_keep as w k = some x) : ∃ (v : Option Value) (w2 : eW), k v w2 = some x ∧ eMet l ad D cA vwCl SHm SSm yX12_keep (eWd yX12_keep cX12_keep 3 none) { frames := 0, cells := 0, slots := 0, locals := 0 } as w v w2 := by
  unfold K_mm_keep at h
  split at h
  · rename_i r0
    obtain ⟨h1, h5⟩ := eBif h
    clear h
    have h := h5
    clear h5
    have h1 := Nat.eq_of_beq_eq_true h1
    subst h1
    obtain ⟨q, h2, h3⟩ := Option.bind_eq_some_iff.mp h
    exact ⟨_, _, h3, eMet_of (by decide +kernel) rfl (by simp [eCat, Value.category]) rV_ret (fun p e s m args below meth c hcx => go_mm_keep hcx w q h2)⟩
  · cases h
def CX12_close : eCo := [[some (.aload_n 0), some (.iconst 0), some (.putfield 95), none, none, some (.iload_n 1), some (.invokestatic 318), none, none, some (.ifCond .eq 13), none, none, some (.iload_n 2), some (.iconst 0), some (.bipush 100), none],
  [some (.invokestatic 101), none, none, some (.ifCond .ne 5), none, none, some (.iconst (-1)), some (.ireturn), some (.aload_n 0), some (.invokevirtual 405), none, none, some (.aload_n 0), some (.iconst 1), some (.putfield 238), none],
  [none, some (.aload_n 0), some (.iload_n 1), some (.putfield 393), none, none, some (.aload_n 0), some (.iload_n 1), some (.i2l), some (.iload_n 2), some (.i2l), some (.lmul), some (.ldc2_w 263), none, none, some (.ldiv)],
  [some (.l2i), some (.putfield 396), none, none, some (.aload_n 0), some (.iload_n 1), some (.aload_n 0), some (.getfield 396), none, none, some (.isub), some (.putfield 399), none, none, some (.aload_n 0), some (.iconst 0)],
  [some (.putfield 402), none, none, some (.aload_n 0), some (.getfield 399), none, none, some (.ireturn)]]
theorem dcX12_close : eDec cX12_close CX12_close := eDec_of (by decide +kernel)
def rs_mm_close : List (Nat × eR) := [(95, (0, 11, 0, 0)), (101, (1, 1, 3, -1)), (238, (0, 11, 59, 3)), (263, (3, 0, 0, 100)), (318, (1, 0, 1, -1)), (393, (0, 11, 55, 0)), (396, (0, 11, 56, 0)), (399, (0, 11, 57, 0)), (402, (0, 11, 58, 0)), (405, (1, 2, 0, 11))]
noncomputable def cs_mm_close : List (eF (Int32 × eW)) := [K_mm_isAmount, K_mm_in, K_mm_keep]
noncomputable def f_mm_close (a1 : Int32) (a2 : Int32) (w : eW) : Option (Int32 × eW) := ((f_mm_isAmount a1 (eU1 w 24 0 (0 : Int32))).bind fun p1 => (if p1.1 = 0 then (some ((-1 : Int32), p1.2)) else ((f_mm_in a2 (0 : Int32) (100 : Int32) p1.2).bind fun p2 => (if ¬ p2.1 = 0 then ((f_mm_keep p2.2).bind fun w3 => (some ((a1 - ((((((a1).toInt64) * ((a2).toInt64)) / (100 : Int64))).toInt32)), (eU1 (eU1 (eU1 (eU1 (eU1 w3 24 59 (1 : Int32)) 24 55 a1) 24 56 ((((((a1).toInt64) * ((a2).toInt64)) / (100 : Int64))).toInt32)) 24 57 (a1 - ((((((a1).toInt64) * ((a2).toInt64)) / (100 : Int64))).toInt32))) 24 58 (0 : Int32))))) else (some ((-1 : Int32), p2.2))))))
noncomputable def K_mm_close {ρ : Type} : eF ρ := fun as w k => match as with
  | [.ref r0, .int a1, .int a2] => bif Nat.beq r0 24 then (f_mm_close a1 a2 w).bind (fun p => k (some (.int p.1)) p.2) else none
  | _ => none
section
variable {p : Program} {l : Launch} {e : Env} {s : State} {m : MethodId} {args : Array Value} {below : List Frame} {meth : Method} {c : Code} {ad : Nat → Nat} {D : va_G} {cA : Nat → ClassId}
theorem lk_mm_close : ∀ q ∈ rs_mm_close, eLnk { frames := 2, cells := 0, slots := 0, locals := 42 } vwCl (eWd yX12_close cX12_close 3 (some .int)) SSm SHm.length RX12 q.1 q.2 := List.forall_mem_cons.mpr ⟨lkX12_95 eTb_wd, List.forall_mem_cons.mpr ⟨trivial, List.forall_mem_cons.mpr ⟨lkX12_238 eTb_wd, List.forall_mem_cons.mpr ⟨lkX12_263 eTb_wd, List.forall_mem_cons.mpr ⟨trivial, List.forall_mem_cons.mpr ⟨lkX12_393 eTb_wd, List.forall_mem_cons.mpr ⟨lkX12_396 eTb_wd, List.forall_mem_cons.mpr ⟨lkX12_399 eTb_wd, List.forall_mem_cons.mpr ⟨lkX12_402 eTb_wd, List.forall_mem_cons.mpr ⟨trivial, fun _ h => absurd h List.not_mem_nil⟩⟩⟩⟩⟩⟩⟩⟩⟩⟩
theorem hc_mm_close {x : Int32 × eW} : ∀ q ∈ rs_mm_close, eHc l { frames := 2, cells := 0, slots := 0, locals := 42 } ad D cA vwCl SHm SSm (eWd yX12_close cX12_close 3 (some .int)) RX12 cs_mm_close x q := List.forall_mem_cons.mpr ⟨trivial, List.forall_mem_cons.mpr ⟨(fun as w k h => let ⟨v, w2, h1, h2⟩ := ok_mm_in as w k x h; ⟨v, w2, h1, eCal_of h2 ⟨rfl, rfl⟩ hdX12_in (gvX12_101 eTb_wd)⟩), List.forall_mem_cons.mpr ⟨trivial, List.forall_mem_cons.mpr ⟨trivial, List.forall_mem_cons.mpr ⟨(fun as w k h => let ⟨v, w2, h1, h2⟩ := ok_mm_isAmount as w k x h; ⟨v, w2, h1, eCal_of h2 ⟨rfl, rfl⟩ hdX12_isAmount (gvX12_318 eTb_wd)⟩), List.forall_mem_cons.mpr ⟨trivial, List.forall_mem_cons.mpr ⟨trivial, List.forall_mem_cons.mpr ⟨trivial, List.forall_mem_cons.mpr ⟨trivial, List.forall_mem_cons.mpr ⟨(fun as w k h => let ⟨v, w2, h1, h2⟩ := ok_mm_keep as w k x h; ⟨v, w2, h1, eCal_of h2 ⟨rfl, rfl⟩ hdX12_keep (gvX12_405 eTb_wd)⟩), fun _ h => absurd h List.not_mem_nil⟩⟩⟩⟩⟩⟩⟩⟩⟩⟩
set_option maxRecDepth 100000 in
set_option maxHeartbeats 4000000 in
theorem go_mm_close (hcx : eCx p { frames := 2, cells := 0, slots := 0, locals := 42 } s m args meth c cX12_close RX12 3 ad D cA vwCl SHm SSm (eWd yX12_close cX12_close 3 (some .int)) (some .int)) (a1 : Int32) (a2 : Int32) (w : eW) (x : Int32 × eW) (h : f_mm_close a1 a2 w = some x) : eGq p l e { frames := 2, cells := 0, slots := 0, locals := 42 } s m args below meth c 3 ad D cA vwCl SHm rI x 0 (eEnt [.ref 24, .int a1, .int a2]) [] w := by
  have h : eRun SHm SSm 3 rs_mm_close (eCs cs_mm_close) rI CX12_close [] (fun pc L st w => none) 43 true 0 [some (.ref 24), some (.int a1), some (.int a2)] [] w = some x := h
  refine eGo.wk (eRun_go hcx (eLnk_all lk_mm_close) (eHc_all hc_mm_close) rI_ok dcX12_close [] _ (fun pc L st w hK => ?_) 43 true 0 _ _ w h) (eLe_wk ⟨rfl, rfl, rfl, trivial⟩)
  cases hK
end
set_option maxRecDepth 100000 in
set_option maxHeartbeats 4000000 in
theorem ok_mm_close {l : Launch} {ad : Nat → Nat} {D : va_G} {cA : Nat → ClassId} {ρ : Type} (as : List Value) (w : eW) (k : Option Value → eW → Option ρ) (x : ρ) (h : K_mm_close as w k = some x) : ∃ (v : Option Value) (w2 : eW), k v w2 = some x ∧ eMet l ad D cA vwCl SHm SSm yX12_close (eWd yX12_close cX12_close 3 (some .int)) { frames := 2, cells := 0, slots := 0, locals := 42 } as w v w2 := by
  unfold K_mm_close at h
  split at h
  · rename_i r0 a1 a2
    obtain ⟨h1, h5⟩ := eBif h
    clear h
    have h := h5
    clear h5
    have h1 := Nat.eq_of_beq_eq_true h1
    subst h1
    obtain ⟨q, h2, h3⟩ := Option.bind_eq_some_iff.mp h
    exact ⟨_, _, h3, eMet_of (by decide +kernel) rfl (by simp [eCat, Value.category]) rI_ret (fun p e s m args below meth c hcx => go_mm_close hcx a1 a2 w q h2)⟩
  · cases h
