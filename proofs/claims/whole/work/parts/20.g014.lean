def CX3_pourByLevel : eCo := [[some (.aload_n 0), some (.getfield 12), none, none, some (.lload_n 1), some (.lconst 1), some (.iconst 0), some (.invokevirtual 112), none, none, some (.aload_n 0), some (.getfield 12), none, none, some (.getfield 116), none],
  [none, some (.lconst 0), some (.lcmp), some (.ifCond .le 7), none, none, some (.iconst 1), some (.goto 4), none, none, some (.iconst 0), some (.istore_n 3), some (.iload_n 3), some (.ifCond .eq 15), none, none],
  [some (.lload_n 1), some (.aload_n 0), some (.getfield 12), none, none, some (.getfield 119), none, none, some (.lsub), some (.goto 4), none, none, some (.lconst 0), some (.lstore 4), none, some (.aload_n 0)],
  [some (.iload_n 3), some (.ifCond .eq 13), none, none, some (.aload_n 0), some (.getfield 12), none, none, some (.getfield 116), none, none, some (.goto 4), none, none, some (.lconst 1), some (.putfield 29)],
  [none, none, some (.aload_n 0), some (.lload 4), none, some (.ldc2_w 70), none, none, some (.lmul), some (.putfield 94), none, none, some (.aload_n 0), some (.aload_n 0), some (.getfield 29), none],
  [none, some (.putfield 33), none, none, some (.iconst 0), some (.istore 6), none, some (.iload 6), none, some (.aload_n 0), some (.getfield 12), none, none, some (.getfield 108), none, none],
  [some (.if_icmp .ge 45), none, none, some (.aload_n 0), some (.getfield 26), none, none, some (.iload 6), none, some (.aload_n 0), some (.getfield 12), none, none, some (.getfield 122), none, none],
  [some (.iload 6), none, some (.laload), some (.aload_n 0), some (.getfield 29), none, none, some (.lmul), some (.aload_n 0), some (.getfield 12), none, none, some (.getfield 125), none, none, some (.iload 6)],
  [none, some (.laload), some (.lload 4), none, some (.lmul), some (.ladd), some (.lastore), some (.iinc 6 1), none, none, some (.goto (-51)), none, none, some (.return_)]]
theorem dcX3_pourByLevel : eDec cX3_pourByLevel CX3_pourByLevel := eDec_of (by decide +kernel)
def rs_fa_pourByLevel : List (Nat × eR) := [(12, (0, 3, 0, 2)), (26, (0, 3, 4, 2)), (29, (0, 3, 5, 1)), (33, (0, 3, 7, 1)), (70, (3, 0, 0, 100)), (94, (0, 3, 6, 1)), (108, (0, 2, 0, 0)), (112, (1, 0, 3, 2)), (116, (0, 2, 6, 1)), (119, (0, 2, 5, 1)), (122, (0, 2, 3, 2)), (125, (0, 2, 4, 2))]
noncomputable def cs_fa_pourByLevel : List (eF (eW)) := [K_cu_sweep]
noncomputable def f_fa_pourByLevel_L87 : Nat → Int64 → Int32 → eW → Option (eW)
  | 0, _, _, _ => none
  | n + 1, a4, a6, w => (if (w.1 19 0) ≤ a6 then (some w) else (eChk a6 12 (eChk a6 12 (eChk a6 12 (f_fa_pourByLevel_L87 n a4 (a6 + (1 : Int32)) (eU2 w 22 (Int32.toNatClampNeg a6) (((w.2 11 (Int32.toNatClampNeg a6)) * (w.2 24 5)) + ((w.2 12 (Int32.toNatClampNeg a6)) * a4))))))))
noncomputable def f_fa_pourByLevel_J45 (a3 : Int32) (s0 : Int64) (w : eW) : Option (eW) := (if a3 = 0 then (f_fa_pourByLevel_L87 eFu s0 (0 : Int32) (eU2 (eU2 (eU2 w 24 5 (1 : Int64)) 24 6 (s0 * (100 : Int64))) 24 7 (1 : Int64))) else (f_fa_pourByLevel_L87 eFu s0 (0 : Int32) (eU2 (eU2 (eU2 w 24 5 (w.2 19 6)) 24 6 (s0 * (100 : Int64))) 24 7 (w.2 19 6))))
noncomputable def f_fa_pourByLevel (a1 : Int64) (w : eW) : Option (eW) := ((f_cu_sweep a1 (1 : Int64) (0 : Int32) w).bind fun w1 => (if (lg_cmp (w1.2 19 6) (0 : Int64)) ≤ 0 then (f_fa_pourByLevel_J45 (0 : Int32) (0 : Int64) w1) else (f_fa_pourByLevel_J45 (1 : Int32) (a1 - (w1.2 19 5)) w1)))
noncomputable def K_fa_pourByLevel {ρ : Type} : eF ρ := fun as w k => match as with
  | [.ref r0, .long a1] => bif Nat.beq r0 24 then (f_fa_pourByLevel a1 w).bind (fun w => k none w) else none
  | _ => none
section
variable {p : Program} {l : Launch} {e : Env} {s : State} {m : MethodId} {args : Array Value} {below : List Frame} {meth : Method} {c : Code} {ad : Nat → Nat} {D : va_G} {cA : Nat → ClassId}
theorem lk_fa_pourByLevel : ∀ q ∈ rs_fa_pourByLevel, eLnk { frames := 2, cells := 0, slots := 0, locals := 53 } vwCl (eWd yX3_pourByLevel cX3_pourByLevel 7 none) SSc SHc.length RX3 q.1 q.2 := List.forall_mem_cons.mpr ⟨lkX3_12 eTb_wd, List.forall_mem_cons.mpr ⟨lkX3_26 eTb_wd, List.forall_mem_cons.mpr ⟨lkX3_29 eTb_wd, List.forall_mem_cons.mpr ⟨lkX3_33 eTb_wd, List.forall_mem_cons.mpr ⟨lkX3_70 eTb_wd, List.forall_mem_cons.mpr ⟨lkX3_94 eTb_wd, List.forall_mem_cons.mpr ⟨lkX3_108 eTb_wd, List.forall_mem_cons.mpr ⟨trivial, List.forall_mem_cons.mpr ⟨lkX3_116 eTb_wd, List.forall_mem_cons.mpr ⟨lkX3_119 eTb_wd, List.forall_mem_cons.mpr ⟨lkX3_122 eTb_wd, List.forall_mem_cons.mpr ⟨lkX3_125 eTb_wd, fun _ h => absurd h List.not_mem_nil⟩⟩⟩⟩⟩⟩⟩⟩⟩⟩⟩⟩
theorem hc_fa_pourByLevel {x : eW} : ∀ q ∈ rs_fa_pourByLevel, eHc l { frames := 2, cells := 0, slots := 0, locals := 53 } ad D cA vwCl SHc SSc (eWd yX3_pourByLevel cX3_pourByLevel 7 none) RX3 cs_fa_pourByLevel x q := List.forall_mem_cons.mpr ⟨trivial, List.forall_mem_cons.mpr ⟨trivial, List.forall_mem_cons.mpr ⟨trivial, List.forall_mem_cons.mpr ⟨trivial, List.forall_mem_cons.mpr ⟨trivial, List.forall_mem_cons.mpr ⟨trivial, List.forall_mem_cons.mpr ⟨trivial, List.forall_mem_cons.mpr ⟨(fun as w k h => let ⟨v, w2, h1, h2⟩ := ok_cu_sweep as w k x h; ⟨v, w2, h1, eCal_of h2 ⟨rfl, rfl⟩ hdX2_sweep (gvX3_112 eTb_wd)⟩), List.forall_mem_cons.mpr ⟨trivial, List.forall_mem_cons.mpr ⟨trivial, List.forall_mem_cons.mpr ⟨trivial, List.forall_mem_cons.mpr ⟨trivial, fun _ h => absurd h List.not_mem_nil⟩⟩⟩⟩⟩⟩⟩⟩⟩⟩⟩⟩
noncomputable def kk_fa_pourByLevel_87 (n : Nat) : eK (eW) := fun pc L st w => bif Nat.beq pc 87 then (lR L 0 24 ((lJ L 4).bind fun a4 => (lI L 6).bind fun a6 => sE st (f_fa_pourByLevel_L87 n a4 a6 w))) else none
set_option maxRecDepth 100000 in
set_option maxHeartbeats 4000000 in
theorem go_fa_pourByLevel_L87 (hcx : eCx p { frames := 2, cells := 0, slots := 0, locals := 53 } s m args meth c cX3_pourByLevel RX3 7 ad D cA vwCl SHc SSc (eWd yX3_pourByLevel cX3_pourByLevel 7 none) (none)) {x : eW} : ∀ (n : Nat) (a4 : Int64) (a6 : Int32) (w : eW), f_fa_pourByLevel_L87  n a4 a6 w = some x → eGq p l e { frames := 2, cells := 0, slots := 0, locals := 53 } s m args below meth c 7 ad D cA vwCl SHc rV x 87 [some (.ref 24), none, none, none, some (.long a4), none, some (.int a6)] [] w := by
  intro n
  induction n with
  | zero => intro a4 a6 w h; exact nomatch (show (none : Option (eW)) = some x from h)
  | succ n ih =>
    intro a4 a6 w h
    have h : eRun SHc SSc 7 rs_fa_pourByLevel (eCs cs_fa_pourByLevel) rV CX3_pourByLevel [45, 87] (kk_fa_pourByLevel_87  n) 30 true 87 [some (.ref 24), none, none, none, some (.long a4), none, some (.int a6)] [] w = some x := h
    refine eRun_go hcx (eLnk_all lk_fa_pourByLevel) (eHc_all hc_fa_pourByLevel) rV_ok dcX3_pourByLevel [45, 87] _ (fun pc L st w hK => ?_) 30 true 87 _ _ w h
    unfold kk_fa_pourByLevel_87 at hK
    rcases eCut hK with ⟨hpc, hK⟩ | hK
    · subst hpc
      obtain ⟨e0, hK_1⟩ := lR_some hK
      obtain ⟨a4, e4, hK_2⟩ := lJ_some hK_1
      obtain ⟨a6, e6, hK_3⟩ := lI_some hK_2
      obtain ⟨hst9, hK_4⟩ := sE_some hK_3
      subst hst9
      exact eGo.wk (ih a4 a6 w hK_4) (eLe_wk ⟨e0, e4, e6, trivial⟩)
    cases hK
noncomputable def kk_fa_pourByLevel_45 : eK (eW) := fun pc L st w => bif Nat.beq pc 87 then (lR L 0 24 ((lJ L 4).bind fun a4 => (lI L 6).bind fun a6 => sE st (f_fa_pourByLevel_L87 eFu a4 a6 w))) else none
set_option maxRecDepth 100000 in
set_option maxHeartbeats 4000000 in
theorem go_fa_pourByLevel_J45 (hcx : eCx p { frames := 2, cells := 0, slots := 0, locals := 53 } s m args meth c cX3_pourByLevel RX3 7 ad D cA vwCl SHc SSc (eWd yX3_pourByLevel cX3_pourByLevel 7 none) (none)) {x : eW} : ∀ (a3 : Int32) (s0 : Int64) (w : eW), f_fa_pourByLevel_J45  a3 s0 w = some x → eGq p l e { frames := 2, cells := 0, slots := 0, locals := 53 } s m args below meth c 7 ad D cA vwCl SHc rV x 45 [some (.ref 24), none, none, some (.int a3), none, none, none] [.long s0] w := by
  intro a3 s0 w h
  have h : eRun SHc SSc 7 rs_fa_pourByLevel (eCs cs_fa_pourByLevel) rV CX3_pourByLevel [45, 87] (kk_fa_pourByLevel_45 ) 23 true 45 [some (.ref 24), none, none, some (.int a3), none, none, none] [.long s0] w = some x := h
  refine eRun_go hcx (eLnk_all lk_fa_pourByLevel) (eHc_all hc_fa_pourByLevel) rV_ok dcX3_pourByLevel [45, 87] _ (fun pc L st w hK => ?_) 23 true 45 _ _ w h
  unfold kk_fa_pourByLevel_45 at hK
  rcases eCut hK with ⟨hpc, hK⟩ | hK
  · subst hpc
    obtain ⟨e0, hK_1⟩ := lR_some hK
    obtain ⟨a4, e4, hK_2⟩ := lJ_some hK_1
    obtain ⟨a6, e6, hK_3⟩ := lI_some hK_2
    obtain ⟨hst9, hK_4⟩ := sE_some hK_3
    subst hst9
    exact eGo.wk (go_fa_pourByLevel_L87 hcx  eFu a4 a6 w hK_4) (eLe_wk ⟨e0, e4, e6, trivial⟩)
  cases hK
set_option maxRecDepth 100000 in
set_option maxHeartbeats 4000000 in
theorem go_fa_pourByLevel (hcx : eCx p { frames := 2, cells := 0, slots := 0, locals := 53 } s m args meth c cX3_pourByLevel RX3 7 ad D cA vwCl SHc SSc (eWd yX3_pourByLevel cX3_pourByLevel 7 none) (none)) (a1 : Int64) (w : eW) (x : eW) (h : f_fa_pourByLevel a1 w = some x) : eGq p l e { frames := 2, cells := 0, slots := 0, locals := 53 } s m args below meth c 7 ad D cA vwCl SHc rV x 0 (eEnt [.ref 24, .long a1]) [] w := by
  have h : eRun SHc SSc 7 rs_fa_pourByLevel (eCs cs_fa_pourByLevel) rV CX3_pourByLevel [45, 87] (fun pc L st w => bif Nat.beq pc 45 then (lR L 0 24 ((lI L 3).bind fun a3 => sJ st (fun s0 st1 => sE st1 (f_fa_pourByLevel_J45 a3 s0 w)))) else none) 26 true 0 [some (.ref 24), some (.long a1), none, none, none, none, none] [] w = some x := h
  refine eGo.wk (eRun_go hcx (eLnk_all lk_fa_pourByLevel) (eHc_all hc_fa_pourByLevel) rV_ok dcX3_pourByLevel [45, 87] _ (fun pc L st w hK => ?_) 26 true 0 _ _ w h) (eLe_wk ⟨rfl, rfl, trivial⟩)
  rcases eCut hK with ⟨hpc, hK⟩ | hK
  · subst hpc
    obtain ⟨e0, hK_1⟩ := lR_some hK
    obtain ⟨a3, e3, hK_2⟩ := lI_some hK_1
    obtain ⟨s0, st1, hst0, hK_3⟩ := sJ_some hK_2
    subst hst0
    obtain ⟨hst9, hK_4⟩ := sE_some hK_3
    subst hst9
    exact eGo.wk (go_fa_pourByLevel_J45 hcx  a3 s0 w hK_4) (eLe_wk ⟨e0, e3, trivial⟩)
  cases hK
end
set_option maxRecDepth 100000 in
set_option maxHeartbeats 4000000 in
theorem ok_fa_pourByLevel {l : Launch} {ad : Nat → Nat} {D : va_G} {cA : Nat → ClassId} {ρ : Type} (as : List Value) (w : eW) (k : Option Value → eW → Option ρ) (x : ρ) (h : K_fa_pourByLevel as w k = some x) : ∃ (v : Option Value) (w2 : eW), k v w2 = some x ∧ eMet l ad D cA vwCl SHc SSc yX3_pourByLevel (eWd yX3_pourByLevel cX3_pourByLevel 7 none) { frames := 2, cells := 0, slots := 0, locals := 53 } as w v w2 := by
  unfold K_fa_pourByLevel at h
  split at h
  · rename_i r0 a1
    obtain ⟨h1, h5⟩ := eBif h
    clear h
    have h := h5
    clear h5
    have h1 := Nat.eq_of_beq_eq_true h1
    subst h1
    obtain ⟨q, h2, h3⟩ := Option.bind_eq_some_iff.mp h
    exact ⟨_, _, h3, eMet_of (by decide +kernel) rfl (by simp [eCat, Value.category]) rV_ret (fun p e s m args below meth c hcx => go_fa_pourByLevel hcx a1 w q h2)⟩
  · cases h
def CX3_firstUnpaid : eCo := [[some (.lload_n 1), some (.lstore_n 3), some (.iconst 0), some (.istore 5), none, some (.iload 5), none, some (.iconst 5), some (.if_icmp .gt 34), none, none, some (.aload_n 0), some (.getfield 22), none, none, some (.iload 5)],
  [none, some (.laload), some (.lload_n 3), some (.lcmp), some (.ifCond .le 6), none, none, some (.iload 5), none, some (.ireturn), some (.lload_n 3), some (.aload_n 0), some (.getfield 22), none, none, some (.iload 5)],
  [none, some (.laload), some (.lsub), some (.lstore_n 3), some (.iinc 5 1), none, none, some (.goto (-34)), none, none, some (.bipush 6), none, some (.ireturn)]]
theorem dcX3_firstUnpaid : eDec cX3_firstUnpaid CX3_firstUnpaid := eDec_of (by decide +kernel)
def rs_fa_firstUnpaid : List (Nat × eR) := [(22, (0, 3, 2, 2))]
noncomputable def cs_fa_firstUnpaid : List (eF (Int32 × eW)) := []
noncomputable def f_fa_firstUnpaid_L5 : Nat → Int64 → Int32 → eW → Option (Int32 × eW)
  | 0, _, _, _ => none
  | n + 1, a3, a5, w => (if (5 : Int32) < a5 then (some ((6 : Int32), w)) else (eChk a5 6 (if (lg_cmp (w.2 21 (Int32.toNatClampNeg a5)) a3) ≤ 0 then (eChk a5 6 (f_fa_firstUnpaid_L5 n (a3 - (w.2 21 (Int32.toNatClampNeg a5))) (a5 + (1 : Int32)) w)) else (some (a5, w)))))
noncomputable def f_fa_firstUnpaid (a1 : Int64) (w : eW) : Option (Int32 × eW) := (f_fa_firstUnpaid_L5 eFu a1 (0 : Int32) w)
noncomputable def K_fa_firstUnpaid {ρ : Type} : eF ρ := fun as w k => match as with
  | [.ref r0, .long a1] => bif Nat.beq r0 24 then (f_fa_firstUnpaid a1 w).bind (fun p => k (some (.int p.1)) p.2) else none
  | _ => none
section
variable {p : Program} {l : Launch} {e : Env} {s : State} {m : MethodId} {args : Array Value} {below : List Frame} {meth : Method} {c : Code} {ad : Nat → Nat} {D : va_G} {cA : Nat → ClassId}
theorem lk_fa_firstUnpaid : ∀ q ∈ rs_fa_firstUnpaid, eLnk { frames := 0, cells := 0, slots := 0, locals := 0 } vwCl (eWd yX3_firstUnpaid cX3_firstUnpaid 6 (some .int)) SSc SHc.length RX3 q.1 q.2 := List.forall_mem_cons.mpr ⟨lkX3_22 eTb_wd, fun _ h => absurd h List.not_mem_nil⟩
theorem hc_fa_firstUnpaid {x : Int32 × eW} : ∀ q ∈ rs_fa_firstUnpaid, eHc l { frames := 0, cells := 0, slots := 0, locals := 0 } ad D cA vwCl SHc SSc (eWd yX3_firstUnpaid cX3_firstUnpaid 6 (some .int)) RX3 cs_fa_firstUnpaid x q := List.forall_mem_cons.mpr ⟨trivial, fun _ h => absurd h List.not_mem_nil⟩
noncomputable def kk_fa_firstUnpaid_5 (n : Nat) : eK (Int32 × eW) := fun pc L st w => bif Nat.beq pc 5 then (lR L 0 24 ((lJ L 3).bind fun a3 => (lI L 5).bind fun a5 => sE st (f_fa_firstUnpaid_L5 n a3 a5 w))) else none
set_option maxRecDepth 100000 in
set_option maxHeartbeats 4000000 in
theorem go_fa_firstUnpaid_L5 (hcx : eCx p { frames := 0, cells := 0, slots := 0, locals := 0 } s m args meth c cX3_firstUnpaid RX3 6 ad D cA vwCl SHc SSc (eWd yX3_firstUnpaid cX3_firstUnpaid 6 (some .int)) (some .int)) {x : Int32 × eW} : ∀ (n : Nat) (a3 : Int64) (a5 : Int32) (w : eW), f_fa_firstUnpaid_L5  n a3 a5 w = some x → eGq p l e { frames := 0, cells := 0, slots := 0, locals := 0 } s m args below meth c 6 ad D cA vwCl SHc rI x 5 [some (.ref 24), none, none, some (.long a3), none, some (.int a5)] [] w := by
  intro n
  induction n with
  | zero => intro a3 a5 w h; exact nomatch (show (none : Option (Int32 × eW)) = some x from h)
  | succ n ih =>
    intro a3 a5 w h
    have h : eRun SHc SSc 6 rs_fa_firstUnpaid (eCs cs_fa_firstUnpaid) rI CX3_firstUnpaid [5] (kk_fa_firstUnpaid_5  n) 22 true 5 [some (.ref 24), none, none, some (.long a3), none, some (.int a5)] [] w = some x := h
    refine eRun_go hcx (eLnk_all lk_fa_firstUnpaid) (eHc_all hc_fa_firstUnpaid) rI_ok dcX3_firstUnpaid [5] _ (fun pc L st w hK => ?_) 22 true 5 _ _ w h
    unfold kk_fa_firstUnpaid_5 at hK
    rcases eCut hK with ⟨hpc, hK⟩ | hK
    · subst hpc
      obtain ⟨e0, hK_1⟩ := lR_some hK
      obtain ⟨a3, e3, hK_2⟩ := lJ_some hK_1
      obtain ⟨a5, e5, hK_3⟩ := lI_some hK_2
      obtain ⟨hst9, hK_4⟩ := sE_some hK_3
      subst hst9
      exact eGo.wk (ih a3 a5 w hK_4) (eLe_wk ⟨e0, e3, e5, trivial⟩)
    cases hK
set_option maxRecDepth 100000 in
set_option maxHeartbeats 4000000 in
theorem go_fa_firstUnpaid (hcx : eCx p { frames := 0, cells := 0, slots := 0, locals := 0 } s m args meth c cX3_firstUnpaid RX3 6 ad D cA vwCl SHc SSc (eWd yX3_firstUnpaid cX3_firstUnpaid 6 (some .int)) (some .int)) (a1 : Int64) (w : eW) (x : Int32 × eW) (h : f_fa_firstUnpaid a1 w = some x) : eGq p l e { frames := 0, cells := 0, slots := 0, locals := 0 } s m args below meth c 6 ad D cA vwCl SHc rI x 0 (eEnt [.ref 24, .long a1]) [] w := by
  have h : eRun SHc SSc 6 rs_fa_firstUnpaid (eCs cs_fa_firstUnpaid) rI CX3_firstUnpaid [5] (fun pc L st w => bif Nat.beq pc 5 then (lR L 0 24 ((lJ L 3).bind fun a3 => (lI L 5).bind fun a5 => sE st (f_fa_firstUnpaid_L5 eFu a3 a5 w))) else none) 7 true 0 [some (.ref 24), some (.long a1), none, none, none, none] [] w = some x := h
  refine eGo.wk (eRun_go hcx (eLnk_all lk_fa_firstUnpaid) (eHc_all hc_fa_firstUnpaid) rI_ok dcX3_firstUnpaid [5] _ (fun pc L st w hK => ?_) 7 true 0 _ _ w h) (eLe_wk ⟨rfl, rfl, trivial⟩)
  rcases eCut hK with ⟨hpc, hK⟩ | hK
  · subst hpc
    obtain ⟨e0, hK_1⟩ := lR_some hK
    obtain ⟨a3, e3, hK_2⟩ := lJ_some hK_1
    obtain ⟨a5, e5, hK_3⟩ := lI_some hK_2
    obtain ⟨hst9, hK_4⟩ := sE_some hK_3
    subst hst9
    exact eGo.wk (go_fa_firstUnpaid_L5 hcx  eFu a3 a5 w hK_4) (eLe_wk ⟨e0, e3, e5, trivial⟩)
  cases hK
end
set_option maxRecDepth 100000 in
set_option maxHeartbeats 4000000 in
theorem ok_fa_firstUnpaid {l : Launch} {ad : Nat → Nat} {D : va_G} {cA : Nat → ClassId} {ρ : Type} (as : List Value) (w : eW) (k : Option Value → eW → Option ρ) (x : ρ) (h : K_fa_firstUnpaid as w k = some x) : ∃ (v : Option Value) (w2 : eW), k v w2 = some x ∧ eMet l ad D cA vwCl SHc SSc yX3_firstUnpaid (eWd yX3_firstUnpaid cX3_firstUnpaid 6 (some .int)) { frames := 0, cells := 0, slots := 0, locals := 0 } as w v w2 := by
  unfold K_fa_firstUnpaid at h
  split at h
  · rename_i r0 a1
    obtain ⟨h1, h5⟩ := eBif h
    clear h
    have h := h5
    clear h5
    have h1 := Nat.eq_of_beq_eq_true h1
    subst h1
    obtain ⟨q, h2, h3⟩ := Option.bind_eq_some_iff.mp h
    exact ⟨_, _, h3, eMet_of (by decide +kernel) rfl (by simp [eCat, Value.category]) rI_ret (fun p e s m args below meth c hcx => go_fa_firstUnpaid hcx a1 w q h2)⟩
  · cases h
def CX3_pourByRanks : eCo := [[some (.aload_n 0), some (.lload_n 1), some (.invokevirtual 104), none, none, some (.istore_n 3), some (.lload_n 1), some (.lstore 4), none, some (.iconst 0), some (.istore 6), none, some (.iload 6), none, some (.iload_n 3), some (.if_icmp .ge 21)],
  [none, none, some (.lload 4), none, some (.aload_n 0), some (.getfield 22), none, none, some (.iload 6), none, some (.laload), some (.lsub), some (.lstore 4), none, some (.iinc 6 1), none],
  [none, some (.goto (-21)), none, none, some (.aload_n 0), some (.iload_n 3), some (.iconst 5), some (.if_icmp .gt 19), none, none, some (.lload 4), none, some (.lconst 0), some (.lcmp), some (.ifCond .le 12), none],
  [none, some (.aload_n 0), some (.getfield 22), none, none, some (.iload_n 3), some (.laload), some (.goto 4), none, none, some (.lconst 1), some (.putfield 29), none, none, some (.iconst 0), some (.istore 6)],
  [none, some (.iload 6), none, some (.aload_n 0), some (.getfield 12), none, none, some (.getfield 108), none, none, some (.if_icmp .ge 69), none, none, some (.aload_n 0), some (.getfield 12), none],
  [none, some (.getfield 109), none, none, some (.iload 6), none, some (.laload), some (.lstore 7), none, some (.aload_n 0), some (.getfield 26), none, none, some (.iload 6), none, some (.aload_n 0)],
  [some (.getfield 18), none, none, some (.iload 6), none, some (.iaload), some (.iload_n 3), some (.if_icmp .ge 13), none, none, some (.lload 7), none, some (.aload_n 0), some (.getfield 29), none, none],
  [some (.lmul), some (.goto 23), none, none, some (.aload_n 0), some (.getfield 18), none, none, some (.iload 6), none, some (.iaload), some (.iload_n 3), some (.if_icmp .ne 11), none, none, some (.lload 7)],
  [none, some (.lload 4), none, some (.lmul), some (.goto 4), none, none, some (.lconst 0), some (.lastore), some (.iinc 6 1), none, none, some (.goto (-75)), none, none, some (.return_)]]
theorem dcX3_pourByRanks : eDec cX3_pourByRanks CX3_pourByRanks := eDec_of (by decide +kernel)
def rs_fa_pourByRanks : List (Nat × eR) := [(12, (0, 3, 0, 2)), (18, (0, 3, 1, 2)), (22, (0, 3, 2, 2)), (26, (0, 3, 4, 2)), (29, (0, 3, 5, 1)), (104, (1, 0, 1, 3)), (108, (0, 2, 0, 0)), (109, (0, 2, 1, 2))]
noncomputable def cs_fa_pourByRanks : List (eF (eW)) := [K_fa_firstUnpaid]
noncomputable def f_fa_pourByRanks_L65 : Nat → Int32 → Int64 → Int32 → eW → Option (eW)
  | 0, _, _, _, _ => none
  | n + 1, a3, a4, a6, w => (if (w.1 19 0) ≤ a6 then (some w) else (eChk a6 12 (eChk a6 12 (if a3 ≤ (w.1 20 (Int32.toNatClampNeg a6)) then (eChk a6 12 (if ¬ (w.1 20 (Int32.toNatClampNeg a6)) = a3 then (eChk a6 12 (f_fa_pourByRanks_L65 n a3 a4 (a6 + (1 : Int32)) (eU2 w 22 (Int32.toNatClampNeg a6) (0 : Int64)))) else (eChk a6 12 (f_fa_pourByRanks_L65 n a3 a4 (a6 + (1 : Int32)) (eU2 w 22 (Int32.toNatClampNeg a6) ((w.2 9 (Int32.toNatClampNeg a6)) * a4)))))) else (eChk a6 12 (f_fa_pourByRanks_L65 n a3 a4 (a6 + (1 : Int32)) (eU2 w 22 (Int32.toNatClampNeg a6) ((w.2 9 (Int32.toNatClampNeg a6)) * (w.2 24 5)))))))))
noncomputable def f_fa_pourByRanks_L12 : Nat → Int32 → Int64 → Int32 → eW → Option (eW)
  | 0, _, _, _, _ => none
  | n + 1, a3, a4, a6, w => (if a3 ≤ a6 then (if (5 : Int32) < a3 then (f_fa_pourByRanks_L65 eFu a3 a4 (0 : Int32) (eU2 w 24 5 (1 : Int64))) else (if (lg_cmp a4 (0 : Int64)) ≤ 0 then (f_fa_pourByRanks_L65 eFu a3 a4 (0 : Int32) (eU2 w 24 5 (1 : Int64))) else (eChk a3 6 (f_fa_pourByRanks_L65 eFu a3 a4 (0 : Int32) (eU2 w 24 5 (w.2 21 (Int32.toNatClampNeg a3))))))) else (eChk a6 6 (f_fa_pourByRanks_L12 n a3 (a4 - (w.2 21 (Int32.toNatClampNeg a6))) (a6 + (1 : Int32)) w)))
noncomputable def f_fa_pourByRanks (a1 : Int64) (w : eW) : Option (eW) := ((f_fa_firstUnpaid a1 w).bind fun p1 => (f_fa_pourByRanks_L12 eFu p1.1 a1 (0 : Int32) p1.2))
noncomputable def K_fa_pourByRanks {ρ : Type} : eF ρ := fun as w k => match as with
  | [.ref r0, .long a1] => bif Nat.beq r0 24 then (f_fa_pourByRanks a1 w).bind (fun w => k none w) else none
  | _ => none
section
variable {p : Program} {l : Launch} {e : Env} {s : State} {m : MethodId} {args : Array Value} {below : List Frame} {meth : Method} {c : Code} {ad : Nat → Nat} {D : va_G} {cA : Nat → ClassId}
theorem lk_fa_pourByRanks : ∀ q ∈ rs_fa_pourByRanks, eLnk { frames := 1, cells := 0, slots := 0, locals := 25 } vwCl (eWd yX3_pourByRanks cX3_pourByRanks 9 none) SSc SHc.length RX3 q.1 q.2 := List.forall_mem_cons.mpr ⟨lkX3_12 eTb_wd, List.forall_mem_cons.mpr ⟨lkX3_18 eTb_wd, List.forall_mem_cons.mpr ⟨lkX3_22 eTb_wd, List.forall_mem_cons.mpr ⟨lkX3_26 eTb_wd, List.forall_mem_cons.mpr ⟨lkX3_29 eTb_wd, List.forall_mem_cons.mpr ⟨trivial, List.forall_mem_cons.mpr ⟨lkX3_108 eTb_wd, List.forall_mem_cons.mpr ⟨lkX3_109 eTb_wd, fun _ h => absurd h List.not_mem_nil⟩⟩⟩⟩⟩⟩⟩⟩
theorem hc_fa_pourByRanks {x : eW} : ∀ q ∈ rs_fa_pourByRanks, eHc l { frames := 1, cells := 0, slots := 0, locals := 25 } ad D cA vwCl SHc SSc (eWd yX3_pourByRanks cX3_pourByRanks 9 none) RX3 cs_fa_pourByRanks x q := List.forall_mem_cons.mpr ⟨trivial, List.forall_mem_cons.mpr ⟨trivial, List.forall_mem_cons.mpr ⟨trivial, List.forall_mem_cons.mpr ⟨trivial, List.forall_mem_cons.mpr ⟨trivial, List.forall_mem_cons.mpr ⟨(fun as w k h => let ⟨v, w2, h1, h2⟩ := ok_fa_firstUnpaid as w k x h; ⟨v, w2, h1, eCal_of h2 ⟨rfl, rfl⟩ hdX3_firstUnpaid (gvX3_104 eTb_wd)⟩), List.forall_mem_cons.mpr ⟨trivial, List.forall_mem_cons.mpr ⟨trivial, fun _ h => absurd h List.not_mem_nil⟩⟩⟩⟩⟩⟩⟩⟩
noncomputable def kk_fa_pourByRanks_65 (n : Nat) : eK (eW) := fun pc L st w => bif Nat.beq pc 65 then (lR L 0 24 ((lI L 3).bind fun a3 => (lJ L 4).bind fun a4 => (lI L 6).bind fun a6 => sE st (f_fa_pourByRanks_L65 n a3 a4 a6 w))) else none
set_option maxRecDepth 100000 in
set_option maxHeartbeats 4000000 in
theorem go_fa_pourByRanks_L65 (hcx : eCx p { frames := 1, cells := 0, slots := 0, locals := 25 } s m args meth c cX3_pourByRanks RX3 9 ad D cA vwCl SHc SSc (eWd yX3_pourByRanks cX3_pourByRanks 9 none) (none)) {x : eW} : ∀ (n : Nat) (a3 : Int32) (a4 : Int64) (a6 : Int32) (w : eW), f_fa_pourByRanks_L65  n a3 a4 a6 w = some x → eGq p l e { frames := 1, cells := 0, slots := 0, locals := 25 } s m args below meth c 9 ad D cA vwCl SHc rV x 65 [some (.ref 24), none, none, some (.int a3), some (.long a4), none, some (.int a6), none, none] [] w := by
  intro n
  induction n with
  | zero => intro a3 a4 a6 w h; exact nomatch (show (none : Option (eW)) = some x from h)
  | succ n ih =>
    intro a3 a4 a6 w h
    have h : eRun SHc SSc 9 rs_fa_pourByRanks (eCs cs_fa_pourByRanks) rV CX3_pourByRanks [12, 65] (kk_fa_pourByRanks_65  n) 36 true 65 [some (.ref 24), none, none, some (.int a3), some (.long a4), none, some (.int a6), none, none] [] w = some x := h
    refine eRun_go hcx (eLnk_all lk_fa_pourByRanks) (eHc_all hc_fa_pourByRanks) rV_ok dcX3_pourByRanks [12, 65] _ (fun pc L st w hK => ?_) 36 true 65 _ _ w h
    unfold kk_fa_pourByRanks_65 at hK
    rcases eCut hK with ⟨hpc, hK⟩ | hK
    · subst hpc
      obtain ⟨e0, hK_1⟩ := lR_some hK
      obtain ⟨a3, e3, hK_2⟩ := lI_some hK_1
      obtain ⟨a4, e4, hK_3⟩ := lJ_some hK_2
      obtain ⟨a6, e6, hK_4⟩ := lI_some hK_3
      obtain ⟨hst9, hK_5⟩ := sE_some hK_4
      subst hst9
      exact eGo.wk (ih a3 a4 a6 w hK_5) (eLe_wk ⟨e0, e3, e4, e6, trivial⟩)
    cases hK
noncomputable def kk_fa_pourByRanks_12 (n : Nat) : eK (eW) := fun pc L st w => bif Nat.beq pc 65 then (lR L 0 24 ((lI L 3).bind fun a3 => (lJ L 4).bind fun a4 => (lI L 6).bind fun a6 => sE st (f_fa_pourByRanks_L65 eFu a3 a4 a6 w))) else (bif Nat.beq pc 12 then (lR L 0 24 ((lI L 3).bind fun a3 => (lJ L 4).bind fun a4 => (lI L 6).bind fun a6 => sE st (f_fa_pourByRanks_L12 n a3 a4 a6 w))) else none)
set_option maxRecDepth 100000 in
set_option maxHeartbeats 4000000 in
theorem go_fa_pourByRanks_L12 (hcx : eCx p { frames := 1, cells := 0, slots := 0, locals := 25 } s m args meth c cX3_pourByRanks RX3 9 ad D cA vwCl SHc SSc (eWd yX3_pourByRanks cX3_pourByRanks 9 none) (none)) {x : eW} : ∀ (n : Nat) (a3 : Int32) (a4 : Int64) (a6 : Int32) (w : eW), f_fa_pourByRanks_L12  n a3 a4 a6 w = some x → eGq p l e { frames := 1, cells := 0, slots := 0, locals := 25 } s m args below meth c 9 ad D cA vwCl SHc rV x 12 [some (.ref 24), none, none, some (.int a3), some (.long a4), none, some (.int a6), none, none] [] w := by
  intro n
  induction n with
  | zero => intro a3 a4 a6 w h; exact nomatch (show (none : Option (eW)) = some x from h)
  | succ n ih =>
    intro a3 a4 a6 w h
    have h : eRun SHc SSc 9 rs_fa_pourByRanks (eCs cs_fa_pourByRanks) rV CX3_pourByRanks [12, 65] (kk_fa_pourByRanks_12  n) 22 true 12 [some (.ref 24), none, none, some (.int a3), some (.long a4), none, some (.int a6), none, none] [] w = some x := h
    refine eRun_go hcx (eLnk_all lk_fa_pourByRanks) (eHc_all hc_fa_pourByRanks) rV_ok dcX3_pourByRanks [12, 65] _ (fun pc L st w hK => ?_) 22 true 12 _ _ w h
    unfold kk_fa_pourByRanks_12 at hK
    rcases eCut hK with ⟨hpc, hK⟩ | hK
    · subst hpc
      obtain ⟨e0, hK_1⟩ := lR_some hK
      obtain ⟨a3, e3, hK_2⟩ := lI_some hK_1
      obtain ⟨a4, e4, hK_3⟩ := lJ_some hK_2
      obtain ⟨a6, e6, hK_4⟩ := lI_some hK_3
      obtain ⟨hst9, hK_5⟩ := sE_some hK_4
      subst hst9
      exact eGo.wk (go_fa_pourByRanks_L65 hcx  eFu a3 a4 a6 w hK_5) (eLe_wk ⟨e0, e3, e4, e6, trivial⟩)
    rcases eCut hK with ⟨hpc, hK⟩ | hK
    · subst hpc
      obtain ⟨e0, hK_1⟩ := lR_some hK
      obtain ⟨a3, e3, hK_2⟩ := lI_some hK_1
      obtain ⟨a4, e4, hK_3⟩ := lJ_some hK_2
      obtain ⟨a6, e6, hK_4⟩ := lI_some hK_3
      obtain ⟨hst9, hK_5⟩ := sE_some hK_4
      subst hst9
      exact eGo.wk (ih a3 a4 a6 w hK_5) (eLe_wk ⟨e0, e3, e4, e6, trivial⟩)
    cases hK
set_option maxRecDepth 100000 in
set_option maxHeartbeats 4000000 in
theorem go_fa_pourByRanks (hcx : eCx p { frames := 1, cells := 0, slots := 0, locals := 25 } s m args meth c cX3_pourByRanks RX3 9 ad D cA vwCl SHc SSc (eWd yX3_pourByRanks cX3_pourByRanks 9 none) (none)) (a1 : Int64) (w : eW) (x : eW) (h : f_fa_pourByRanks a1 w = some x) : eGq p l e { frames := 1, cells := 0, slots := 0, locals := 25 } s m args below meth c 9 ad D cA vwCl SHc rV x 0 (eEnt [.ref 24, .long a1]) [] w := by
  have h : eRun SHc SSc 9 rs_fa_pourByRanks (eCs cs_fa_pourByRanks) rV CX3_pourByRanks [12, 65] (fun pc L st w => bif Nat.beq pc 12 then (lR L 0 24 ((lI L 3).bind fun a3 => (lJ L 4).bind fun a4 => (lI L 6).bind fun a6 => sE st (f_fa_pourByRanks_L12 eFu a3 a4 a6 w))) else none) 11 true 0 [some (.ref 24), some (.long a1), none, none, none, none, none, none, none] [] w = some x := h
  refine eGo.wk (eRun_go hcx (eLnk_all lk_fa_pourByRanks) (eHc_all hc_fa_pourByRanks) rV_ok dcX3_pourByRanks [12, 65] _ (fun pc L st w hK => ?_) 11 true 0 _ _ w h) (eLe_wk ⟨rfl, rfl, trivial⟩)
  rcases eCut hK with ⟨hpc, hK⟩ | hK
  · subst hpc
    obtain ⟨e0, hK_1⟩ := lR_some hK
    obtain ⟨a3, e3, hK_2⟩ := lI_some hK_1
    obtain ⟨a4, e4, hK_3⟩ := lJ_some hK_2
    obtain ⟨a6, e6, hK_4⟩ := lI_some hK_3
    obtain ⟨hst9, hK_5⟩ := sE_some hK_4
    subst hst9
    exact eGo.wk (go_fa_pourByRanks_L12 hcx  eFu a3 a4 a6 w hK_5) (eLe_wk ⟨e0, e3, e4, e6, trivial⟩)
  cases hK
end
set_option maxRecDepth 100000 in
set_option maxHeartbeats 4000000 in
theorem ok_fa_pourByRanks {l : Launch} {ad : Nat → Nat} {D : va_G} {cA : Nat → ClassId} {ρ : Type} (as : List Value) (w : eW) (k : Option Value → eW → Option ρ) (x : ρ) (h : K_fa_pourByRanks as w k = some x) : ∃ (v : Option Value) (w2 : eW), k v w2 = some x ∧ eMet l ad D cA vwCl SHc SSc yX3_pourByRanks (eWd yX3_pourByRanks cX3_pourByRanks 9 none) { frames := 1, cells := 0, slots := 0, locals := 25 } as w v w2 := by
  unfold K_fa_pourByRanks at h
  split at h
  · rename_i r0 a1
    obtain ⟨h1, h5⟩ := eBif h
    clear h
    have h := h5
    clear h5
    have h1 := Nat.eq_of_beq_eq_true h1
    subst h1
    obtain ⟨q, h2, h3⟩ := Option.bind_eq_some_iff.mp h
    exact ⟨_, _, h3, eMet_of (by decide +kernel) rfl (by simp [eCat, Value.category]) rV_ret (fun p e s m args below meth c hcx => go_fa_pourByRanks hcx a1 w q h2)⟩
  · cases h
