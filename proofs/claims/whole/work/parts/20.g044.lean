def CX12_layClass : eCo := [[some (.lload_n 2), some (.aload_n 0), some (.getfield 25), none, none, some (.iload_n 1), some (.iaload), some (.i2l), some (.lmul), some (.lstore 6), none, some (.aload_n 0), some (.iload_n 1), some (.invokevirtual 253), none, none],
  [some (.ifCond .ne 22), none, none, some (.aload_n 0), some (.getfield 28), none, none, some (.iload_n 1), some (.iaload), some (.iconst 1), some (.if_icmp .ne 28), none, none, some (.aload_n 0), some (.getfield 31), none],
  [none, some (.iload_n 1), some (.iaload), some (.ifCond .ge 19), none, none, some (.aload_n 0), some (.getfield 60), none, none, some (.iload_n 1), some (.aload_n 0), some (.getfield 25), none, none, some (.iload_n 1)],
  [some (.iaload), some (.i2l), some (.lastore), some (.goto 193), none, none, some (.aload_n 0), some (.getfield 28), none, none, some (.iload_n 1), some (.iaload), some (.ifCond .ne 82), none, none, some (.aload_n 0)],
  [some (.getfield 244), none, none, some (.ifCond .ne 26), none, none, some (.lload 6), none, some (.ldc2_w 263), none, none, some (.aload_n 0), some (.iload_n 1), some (.invokevirtual 120), none, none],
  [some (.i2l), some (.lmul), some (.lload 4), none, some (.lmul), some (.lcmp), some (.ifCond .lt 7), none, none, some (.iconst 1), some (.goto 4), none, none, some (.iconst 0), some (.istore 8), none],
  [some (.aload_n 0), some (.getfield 57), none, none, some (.iload_n 1), some (.iload 8), none, some (.ifCond .eq 7), none, none, some (.lconst 0), some (.goto 9), none, none, some (.aload_n 0), some (.iload_n 1)],
  [some (.invokevirtual 120), none, none, some (.i2l), some (.lastore), some (.aload_n 0), some (.getfield 60), none, none, some (.iload_n 1), some (.iload 8), none, some (.ifCond .eq 13), none, none, some (.aload_n 0)],
  [some (.getfield 25), none, none, some (.iload_n 1), some (.iaload), some (.i2l), some (.goto 4), none, none, some (.lconst 0), some (.lastore), some (.goto 105), none, none, some (.aload_n 0), some (.getfield 244)],
  [none, none, some (.ifCond .ne 45), none, none, some (.lload 6), none, some (.ldc2_w 263), none, none, some (.aload_n 0), some (.iload_n 1), some (.invokevirtual 265), none, none, some (.i2l)],
  [some (.lmul), some (.lload 4), none, some (.lmul), some (.lcmp), some (.ifCond .lt 26), none, none, some (.aload_n 0), some (.getfield 57), none, none, some (.iload_n 1), some (.lconst 0), some (.lastore), some (.aload_n 0)],
  [some (.getfield 60), none, none, some (.iload_n 1), some (.aload_n 0), some (.getfield 25), none, none, some (.iload_n 1), some (.iaload), some (.i2l), some (.lastore), some (.goto 56), none, none, some (.lload 6)],
  [none, some (.ldc2_w 263), none, none, some (.aload_n 0), some (.iload_n 1), some (.invokevirtual 265), none, none, some (.aload_n 0), some (.iload_n 1), some (.invokevirtual 120), none, none, some (.isub), some (.i2l)],
  [some (.lmul), some (.lload 4), none, some (.lmul), some (.lcmp), some (.ifCond .lt 18), none, none, some (.aload_n 0), some (.getfield 57), none, none, some (.iload_n 1), some (.aload_n 0), some (.iload_n 1), some (.invokevirtual 265)],
  [none, none, some (.i2l), some (.lastore), some (.goto 16), none, none, some (.aload_n 0), some (.getfield 60), none, none, some (.iload_n 1), some (.aload_n 0), some (.getfield 25), none, none],
  [some (.iload_n 1), some (.iaload), some (.i2l), some (.lastore), some (.return_)]]
theorem dcX12_layClass : eDec cX12_layClass CX12_layClass := eDec_of (by decide +kernel)
def rs_mm_layClass : List (Nat × eR) := [(25, (0, 11, 10, 2)), (28, (0, 11, 11, 2)), (31, (0, 11, 12, 2)), (57, (0, 11, 32, 2)), (60, (0, 11, 33, 2)), (120, (1, 2, 1, 11)), (244, (0, 11, 36, 3)), (253, (1, 0, 1, 11)), (263, (3, 0, 0, 100)), (265, (1, 1, 1, 11))]
noncomputable def cs_mm_layClass : List (eF (eW)) := [K_mm_isTurned, K_mm_topOf, K_mm_prefOf]
noncomputable def f_mm_layClass_J191 (a1 : Int32) (a4 : Int64) (a6 : Int64) (w : eW) : Option (eW) := ((f_mm_topOf a1 w).bind fun p4 => ((f_mm_prefOf a1 p4.2).bind fun p5 => (if (lg_cmp a6 (((100 : Int64) * (((p4.1 - p5.1)).toInt64)) * a4)) < 0 then (eChk a1 24 (eChk a1 12 (some (eU2 p5.2 15 (Int32.toNatClampNeg a1) (((p5.2.1 5 (Int32.toNatClampNeg a1))).toInt64))))) else ((f_mm_topOf a1 p5.2).bind fun p6 => (eChk a1 12 (some (eU2 p6.2 14 (Int32.toNatClampNeg a1) ((p6.1).toInt64))))))))
noncomputable def f_mm_layClass_J94 (a1 : Int32) (s0 : Int32) (w : eW) : Option (eW) := (if s0 = 0 then ((f_mm_prefOf a1 w).bind fun p7 => (eChk a1 12 (if s0 = 0 then (eChk a1 12 (some (eU2 (eU2 p7.2 14 (Int32.toNatClampNeg a1) ((p7.1).toInt64)) 15 (Int32.toNatClampNeg a1) (0 : Int64)))) else (eChk a1 24 (eChk a1 12 (some (eU2 (eU2 p7.2 14 (Int32.toNatClampNeg a1) ((p7.1).toInt64)) 15 (Int32.toNatClampNeg a1) (((p7.2.1 5 (Int32.toNatClampNeg a1))).toInt64)))))))) else (eChk a1 12 (if s0 = 0 then (eChk a1 12 (some (eU2 (eU2 w 14 (Int32.toNatClampNeg a1) (0 : Int64)) 15 (Int32.toNatClampNeg a1) (0 : Int64)))) else (eChk a1 24 (eChk a1 12 (some (eU2 (eU2 w 14 (Int32.toNatClampNeg a1) (0 : Int64)) 15 (Int32.toNatClampNeg a1) (((w.1 5 (Int32.toNatClampNeg a1))).toInt64))))))))
noncomputable def f_mm_layClass_J54 (a1 : Int32) (a4 : Int64) (a6 : Int64) (w : eW) : Option (eW) := (eChk a1 24 (if ¬ (w.1 6 (Int32.toNatClampNeg a1)) = 0 then (if ¬ (w.1 24 36) = 0 then (f_mm_layClass_J191 a1 a4 a6 w) else ((f_mm_topOf a1 w).bind fun p2 => (if (lg_cmp a6 (((100 : Int64) * ((p2.1).toInt64)) * a4)) < 0 then (f_mm_layClass_J191 a1 a4 a6 p2.2) else (eChk a1 12 (eChk a1 24 (eChk a1 12 (some (eU2 (eU2 p2.2 14 (Int32.toNatClampNeg a1) (0 : Int64)) 15 (Int32.toNatClampNeg a1) (((p2.2.1 5 (Int32.toNatClampNeg a1))).toInt64))))))))) else (if ¬ (w.1 24 36) = 0 then (f_mm_layClass_J94 a1 (0 : Int32) w) else ((f_mm_prefOf a1 w).bind fun p3 => (if (lg_cmp a6 (((100 : Int64) * ((p3.1).toInt64)) * a4)) < 0 then (f_mm_layClass_J94 a1 (0 : Int32) p3.2) else (f_mm_layClass_J94 a1 (1 : Int32) p3.2))))))
noncomputable def f_mm_layClass (a1 : Int32) (a2 : Int64) (a4 : Int64) (w : eW) : Option (eW) := (eChk a1 24 ((f_mm_isTurned a1 w).bind fun p1 => (if ¬ p1.1 = 0 then (eChk a1 24 (eChk a1 12 (some (eU2 p1.2 15 (Int32.toNatClampNeg a1) (((p1.2.1 5 (Int32.toNatClampNeg a1))).toInt64))))) else (eChk a1 24 (if ¬ (p1.2.1 6 (Int32.toNatClampNeg a1)) = (1 : Int32) then (f_mm_layClass_J54 a1 a4 (a2 * (((w.1 5 (Int32.toNatClampNeg a1))).toInt64)) p1.2) else (eChk a1 24 (if 0 ≤ (p1.2.1 7 (Int32.toNatClampNeg a1)) then (f_mm_layClass_J54 a1 a4 (a2 * (((w.1 5 (Int32.toNatClampNeg a1))).toInt64)) p1.2) else (eChk a1 24 (eChk a1 12 (some (eU2 p1.2 15 (Int32.toNatClampNeg a1) (((p1.2.1 5 (Int32.toNatClampNeg a1))).toInt64))))))))))))
noncomputable def K_mm_layClass {ρ : Type} : eF ρ := fun as w k => match as with
  | [.ref r0, .int a1, .long a2, .long a4] => bif Nat.beq r0 24 then (f_mm_layClass a1 a2 a4 w).bind (fun w => k none w) else none
  | _ => none
section
variable {p : Program} {l : Launch} {e : Env} {s : State} {m : MethodId} {args : Array Value} {below : List Frame} {meth : Method} {c : Code} {ad : Nat → Nat} {D : va_G} {cA : Nat → ClassId}
theorem lk_mm_layClass : ∀ q ∈ rs_mm_layClass, eLnk { frames := 5, cells := 0, slots := 0, locals := 106 } vwCl (eWd yX12_layClass cX12_layClass 9 none) SSm SHm.length RX12 q.1 q.2 := List.forall_mem_cons.mpr ⟨lkX12_25 eTb_wd, List.forall_mem_cons.mpr ⟨lkX12_28 eTb_wd, List.forall_mem_cons.mpr ⟨lkX12_31 eTb_wd, List.forall_mem_cons.mpr ⟨lkX12_57 eTb_wd, List.forall_mem_cons.mpr ⟨lkX12_60 eTb_wd, List.forall_mem_cons.mpr ⟨trivial, List.forall_mem_cons.mpr ⟨lkX12_244 eTb_wd, List.forall_mem_cons.mpr ⟨trivial, List.forall_mem_cons.mpr ⟨lkX12_263 eTb_wd, List.forall_mem_cons.mpr ⟨trivial, fun _ h => absurd h List.not_mem_nil⟩⟩⟩⟩⟩⟩⟩⟩⟩⟩
theorem hc_mm_layClass {x : eW} : ∀ q ∈ rs_mm_layClass, eHc l { frames := 5, cells := 0, slots := 0, locals := 106 } ad D cA vwCl SHm SSm (eWd yX12_layClass cX12_layClass 9 none) RX12 cs_mm_layClass x q := List.forall_mem_cons.mpr ⟨trivial, List.forall_mem_cons.mpr ⟨trivial, List.forall_mem_cons.mpr ⟨trivial, List.forall_mem_cons.mpr ⟨trivial, List.forall_mem_cons.mpr ⟨trivial, List.forall_mem_cons.mpr ⟨(fun as w k h => let ⟨v, w2, h1, h2⟩ := ok_mm_prefOf as w k x h; ⟨v, w2, h1, eCal_of h2 ⟨rfl, rfl⟩ hdX12_prefOf (gvX12_120 eTb_wd)⟩), List.forall_mem_cons.mpr ⟨trivial, List.forall_mem_cons.mpr ⟨(fun as w k h => let ⟨v, w2, h1, h2⟩ := ok_mm_isTurned as w k x h; ⟨v, w2, h1, eCal_of h2 ⟨rfl, rfl⟩ hdX12_isTurned (gvX12_253 eTb_wd)⟩), List.forall_mem_cons.mpr ⟨trivial, List.forall_mem_cons.mpr ⟨(fun as w k h => let ⟨v, w2, h1, h2⟩ := ok_mm_topOf as w k x h; ⟨v, w2, h1, eCal_of h2 ⟨rfl, rfl⟩ hdX12_topOf (gvX12_265 eTb_wd)⟩), fun _ h => absurd h List.not_mem_nil⟩⟩⟩⟩⟩⟩⟩⟩⟩⟩
noncomputable def kk_mm_layClass_191 : eK (eW) := fun pc L st w => none
set_option maxRecDepth 100000 in
set_option maxHeartbeats 4000000 in
theorem go_mm_layClass_J191 (hcx : eCx p { frames := 5, cells := 0, slots := 0, locals := 106 } s m args meth c cX12_layClass RX12 9 ad D cA vwCl SHm SSm (eWd yX12_layClass cX12_layClass 9 none) (none)) {x : eW} : ∀ (a1 : Int32) (a4 : Int64) (a6 : Int64) (w : eW), f_mm_layClass_J191  a1 a4 a6 w = some x → eGq p l e { frames := 5, cells := 0, slots := 0, locals := 106 } s m args below meth c 9 ad D cA vwCl SHm rV x 191 [some (.ref 24), some (.int a1), none, none, some (.long a4), none, some (.long a6), none, none] [] w := by
  intro a1 a4 a6 w h
  have h : eRun SHm SSm 9 rs_mm_layClass (eCs cs_mm_layClass) rV CX12_layClass [54, 94, 191] (kk_mm_layClass_191 ) 27 true 191 [some (.ref 24), some (.int a1), none, none, some (.long a4), none, some (.long a6), none, none] [] w = some x := h
  refine eRun_go hcx (eLnk_all lk_mm_layClass) (eHc_all hc_mm_layClass) rV_ok dcX12_layClass [54, 94, 191] _ (fun pc L st w hK => ?_) 27 true 191 _ _ w h
  unfold kk_mm_layClass_191 at hK
  cases hK
noncomputable def kk_mm_layClass_94 : eK (eW) := fun pc L st w => none
set_option maxRecDepth 100000 in
set_option maxHeartbeats 4000000 in
theorem go_mm_layClass_J94 (hcx : eCx p { frames := 5, cells := 0, slots := 0, locals := 106 } s m args meth c cX12_layClass RX12 9 ad D cA vwCl SHm SSm (eWd yX12_layClass cX12_layClass 9 none) (none)) {x : eW} : ∀ (a1 : Int32) (s0 : Int32) (w : eW), f_mm_layClass_J94  a1 s0 w = some x → eGq p l e { frames := 5, cells := 0, slots := 0, locals := 106 } s m args below meth c 9 ad D cA vwCl SHm rV x 94 [some (.ref 24), some (.int a1), none, none, none, none, none, none, none] [.int s0] w := by
  intro a1 s0 w h
  have h : eRun SHm SSm 9 rs_mm_layClass (eCs cs_mm_layClass) rV CX12_layClass [54, 94, 191] (kk_mm_layClass_94 ) 27 true 94 [some (.ref 24), some (.int a1), none, none, none, none, none, none, none] [.int s0] w = some x := h
  refine eRun_go hcx (eLnk_all lk_mm_layClass) (eHc_all hc_mm_layClass) rV_ok dcX12_layClass [54, 94, 191] _ (fun pc L st w hK => ?_) 27 true 94 _ _ w h
  unfold kk_mm_layClass_94 at hK
  cases hK
noncomputable def kk_mm_layClass_54 : eK (eW) := fun pc L st w => bif Nat.beq pc 191 then (lR L 0 24 ((lI L 1).bind fun a1 => (lJ L 4).bind fun a4 => (lJ L 6).bind fun a6 => sE st (f_mm_layClass_J191 a1 a4 a6 w))) else (bif Nat.beq pc 94 then (lR L 0 24 ((lI L 1).bind fun a1 => sI st (fun s0 st1 => sE st1 (f_mm_layClass_J94 a1 s0 w)))) else none)
set_option maxRecDepth 100000 in
set_option maxHeartbeats 4000000 in
theorem go_mm_layClass_J54 (hcx : eCx p { frames := 5, cells := 0, slots := 0, locals := 106 } s m args meth c cX12_layClass RX12 9 ad D cA vwCl SHm SSm (eWd yX12_layClass cX12_layClass 9 none) (none)) {x : eW} : ∀ (a1 : Int32) (a4 : Int64) (a6 : Int64) (w : eW), f_mm_layClass_J54  a1 a4 a6 w = some x → eGq p l e { frames := 5, cells := 0, slots := 0, locals := 106 } s m args below meth c 9 ad D cA vwCl SHm rV x 54 [some (.ref 24), some (.int a1), none, none, some (.long a4), none, some (.long a6), none, none] [] w := by
  intro a1 a4 a6 w h
  have h : eRun SHm SSm 9 rs_mm_layClass (eCs cs_mm_layClass) rV CX12_layClass [54, 94, 191] (kk_mm_layClass_54 ) 37 true 54 [some (.ref 24), some (.int a1), none, none, some (.long a4), none, some (.long a6), none, none] [] w = some x := h
  refine eRun_go hcx (eLnk_all lk_mm_layClass) (eHc_all hc_mm_layClass) rV_ok dcX12_layClass [54, 94, 191] _ (fun pc L st w hK => ?_) 37 true 54 _ _ w h
  unfold kk_mm_layClass_54 at hK
  rcases eCut hK with ⟨hpc, hK⟩ | hK
  · subst hpc
    obtain ⟨e0, hK_1⟩ := lR_some hK
    obtain ⟨a1, e1, hK_2⟩ := lI_some hK_1
    obtain ⟨a4, e4, hK_3⟩ := lJ_some hK_2
    obtain ⟨a6, e6, hK_4⟩ := lJ_some hK_3
    obtain ⟨hst9, hK_5⟩ := sE_some hK_4
    subst hst9
    exact eGo.wk (go_mm_layClass_J191 hcx  a1 a4 a6 w hK_5) (eLe_wk ⟨e0, e1, e4, e6, trivial⟩)
  rcases eCut hK with ⟨hpc, hK⟩ | hK
  · subst hpc
    obtain ⟨e0, hK_1⟩ := lR_some hK
    obtain ⟨a1, e1, hK_2⟩ := lI_some hK_1
    obtain ⟨s0, st1, hst0, hK_3⟩ := sI_some hK_2
    subst hst0
    obtain ⟨hst9, hK_4⟩ := sE_some hK_3
    subst hst9
    exact eGo.wk (go_mm_layClass_J94 hcx  a1 s0 w hK_4) (eLe_wk ⟨e0, e1, trivial⟩)
  cases hK
set_option maxRecDepth 100000 in
set_option maxHeartbeats 4000000 in
theorem go_mm_layClass (hcx : eCx p { frames := 5, cells := 0, slots := 0, locals := 106 } s m args meth c cX12_layClass RX12 9 ad D cA vwCl SHm SSm (eWd yX12_layClass cX12_layClass 9 none) (none)) (a1 : Int32) (a2 : Int64) (a4 : Int64) (w : eW) (x : eW) (h : f_mm_layClass a1 a2 a4 w = some x) : eGq p l e { frames := 5, cells := 0, slots := 0, locals := 106 } s m args below meth c 9 ad D cA vwCl SHm rV x 0 (eEnt [.ref 24, .int a1, .long a2, .long a4]) [] w := by
  have h : eRun SHm SSm 9 rs_mm_layClass (eCs cs_mm_layClass) rV CX12_layClass [54, 94, 191] (fun pc L st w => bif Nat.beq pc 54 then (lR L 0 24 ((lI L 1).bind fun a1 => (lJ L 4).bind fun a4 => (lJ L 6).bind fun a6 => sE st (f_mm_layClass_J54 a1 a4 a6 w))) else none) 36 true 0 [some (.ref 24), some (.int a1), some (.long a2), none, some (.long a4), none, none, none, none] [] w = some x := h
  refine eGo.wk (eRun_go hcx (eLnk_all lk_mm_layClass) (eHc_all hc_mm_layClass) rV_ok dcX12_layClass [54, 94, 191] _ (fun pc L st w hK => ?_) 36 true 0 _ _ w h) (eLe_wk ⟨rfl, rfl, rfl, rfl, trivial⟩)
  rcases eCut hK with ⟨hpc, hK⟩ | hK
  · subst hpc
    obtain ⟨e0, hK_1⟩ := lR_some hK
    obtain ⟨a1, e1, hK_2⟩ := lI_some hK_1
    obtain ⟨a4, e4, hK_3⟩ := lJ_some hK_2
    obtain ⟨a6, e6, hK_4⟩ := lJ_some hK_3
    obtain ⟨hst9, hK_5⟩ := sE_some hK_4
    subst hst9
    exact eGo.wk (go_mm_layClass_J54 hcx  a1 a4 a6 w hK_5) (eLe_wk ⟨e0, e1, e4, e6, trivial⟩)
  cases hK
end
set_option maxRecDepth 100000 in
set_option maxHeartbeats 4000000 in
theorem ok_mm_layClass {l : Launch} {ad : Nat → Nat} {D : va_G} {cA : Nat → ClassId} {ρ : Type} (as : List Value) (w : eW) (k : Option Value → eW → Option ρ) (x : ρ) (h : K_mm_layClass as w k = some x) : ∃ (v : Option Value) (w2 : eW), k v w2 = some x ∧ eMet l ad D cA vwCl SHm SSm yX12_layClass (eWd yX12_layClass cX12_layClass 9 none) { frames := 5, cells := 0, slots := 0, locals := 106 } as w v w2 := by
  unfold K_mm_layClass at h
  split at h
  · rename_i r0 a1 a2 a4
    obtain ⟨h1, h5⟩ := eBif h
    clear h
    have h := h5
    clear h5
    have h1 := Nat.eq_of_beq_eq_true h1
    subst h1
    obtain ⟨q, h2, h3⟩ := Option.bind_eq_some_iff.mp h
    exact ⟨_, _, h3, eMet_of (by decide +kernel) rfl (by simp [eCat, Value.category]) rV_ret (fun p e s m args below meth c hcx => go_mm_layClass hcx a1 a2 a4 w q h2)⟩
  · cases h
def CX12_layFrom : eCo := [[some (.iconst 0), some (.istore 5), none, some (.iload 5), none, some (.aload_n 0), some (.getfield 98), none, none, some (.if_icmp .ge 148), none, none, some (.aload_n 0), some (.getfield 57), none, none],
  [some (.iload 5), none, some (.aload_n 0), some (.iload 5), none, some (.invokevirtual 268), none, none, some (.lastore), some (.aload_n 0), some (.getfield 60), none, none, some (.iload 5), none, some (.lconst 0)],
  [some (.lastore), some (.aload_n 0), some (.getfield 7), none, none, some (.iload 5), none, some (.iaload), some (.ifCond .ne 16), none, none, some (.aload_n 0), some (.getfield 60), none, none, some (.iload 5)],
  [none, some (.ldc2_w 263), none, none, some (.lastore), some (.goto 98), none, none, some (.aload_n 0), some (.getfield 7), none, none, some (.iload 5), none, some (.iaload), some (.iconst 1)],
  [some (.if_icmp .ne 79), none, none, some (.lload_n 1), some (.ldc2_w 263), none, none, some (.aload_n 0), some (.getfield 16), none, none, some (.iload 5), none, some (.iaload), some (.i2l), some (.lmul)],
  [some (.lload_n 3), some (.lmul), some (.lcmp), some (.ifCond .lt 7), none, none, some (.iconst 1), some (.goto 4), none, none, some (.iconst 0), some (.istore 6), none, some (.aload_n 0), some (.getfield 57), none],
  [none, some (.iload 5), none, some (.iload 6), none, some (.ifCond .eq 18), none, none, some (.ldc2_w 272), none, none, some (.aload_n 0), some (.getfield 16), none, none, some (.iload 5)],
  [none, some (.iaload), some (.i2l), some (.lmul), some (.goto 4), none, none, some (.lconst 0), some (.lastore), some (.aload_n 0), some (.getfield 60), none, none, some (.iload 5), none, some (.iload 6)],
  [none, some (.ifCond .eq 9), none, none, some (.ldc2_w 263), none, none, some (.goto 4), none, none, some (.lconst 0), some (.lastore), some (.goto 11), none, none, some (.aload_n 0)],
  [some (.iload 5), none, some (.lload_n 1), some (.lload_n 3), some (.invokevirtual 274), none, none, some (.iinc 5 1), none, none, some (.goto (-151)), none, none, some (.return_)]]
theorem dcX12_layFrom : eDec cX12_layFrom CX12_layFrom := eDec_of (by decide +kernel)
def rs_mm_layFrom : List (Nat × eR) := [(7, (0, 11, 5, 2)), (16, (0, 11, 7, 2)), (57, (0, 11, 32, 2)), (60, (0, 11, 33, 2)), (98, (0, 11, 1, 0)), (263, (3, 0, 0, 100)), (268, (1, 0, 1, 11)), (272, (3, 0, 0, -100)), (274, (1, 1, 3, 11))]
noncomputable def cs_mm_layFrom : List (eF (eW)) := [K_mm_firstOf, K_mm_layClass]
noncomputable def f_mm_layFrom_J91 (k3 : Int64 → Int64 → Int32 → eW → Option (eW)) (a1 : Int64) (a3 : Int64) (a5 : Int32) (s0 : Int32) (w : eW) : Option (eW) := (if s0 = 0 then (eChk a5 12 (if s0 = 0 then (eChk a5 12 (k3 a1 a3 (a5 + (1 : Int32)) (eU2 (eU2 w 14 (Int32.toNatClampNeg a5) (0 : Int64)) 15 (Int32.toNatClampNeg a5) (0 : Int64)))) else (eChk a5 12 (k3 a1 a3 (a5 + (1 : Int32)) (eU2 (eU2 w 14 (Int32.toNatClampNeg a5) (0 : Int64)) 15 (Int32.toNatClampNeg a5) (100 : Int64)))))) else (eChk a5 24 (eChk a5 12 (if s0 = 0 then (eChk a5 12 (k3 a1 a3 (a5 + (1 : Int32)) (eU2 (eU2 w 14 (Int32.toNatClampNeg a5) ((-100 : Int64) * (((w.1 2 (Int32.toNatClampNeg a5))).toInt64))) 15 (Int32.toNatClampNeg a5) (0 : Int64)))) else (eChk a5 12 (k3 a1 a3 (a5 + (1 : Int32)) (eU2 (eU2 w 14 (Int32.toNatClampNeg a5) ((-100 : Int64) * (((w.1 2 (Int32.toNatClampNeg a5))).toInt64))) 15 (Int32.toNatClampNeg a5) (100 : Int64))))))))
noncomputable def f_mm_layFrom_L3 : Nat → Int64 → Int64 → Int32 → eW → Option (eW)
  | 0, _, _, _, _ => none
  | n + 1, a1, a3, a5, w => (if (w.1 24 1) ≤ a5 then (some w) else ((f_mm_firstOf a5 w).bind fun p1 => (eChk a5 12 (eChk a5 12 (eChk a5 24 (if ¬ (p1.2.1 0 (Int32.toNatClampNeg a5)) = 0 then (eChk a5 24 (if ¬ (p1.2.1 0 (Int32.toNatClampNeg a5)) = (1 : Int32) then ((f_mm_layClass a5 a1 a3 (eU2 (eU2 p1.2 14 (Int32.toNatClampNeg a5) p1.1) 15 (Int32.toNatClampNeg a5) (0 : Int64))).bind fun w2 => (f_mm_layFrom_L3 n a1 a3 (a5 + (1 : Int32)) w2)) else (eChk a5 24 (if (lg_cmp a1 (((100 : Int64) * (((p1.2.1 2 (Int32.toNatClampNeg a5))).toInt64)) * a3)) < 0 then (f_mm_layFrom_J91 (f_mm_layFrom_L3 n) a1 a3 a5 (0 : Int32) (eU2 (eU2 p1.2 14 (Int32.toNatClampNeg a5) p1.1) 15 (Int32.toNatClampNeg a5) (0 : Int64))) else (f_mm_layFrom_J91 (f_mm_layFrom_L3 n) a1 a3 a5 (1 : Int32) (eU2 (eU2 p1.2 14 (Int32.toNatClampNeg a5) p1.1) 15 (Int32.toNatClampNeg a5) (0 : Int64))))))) else (eChk a5 12 (f_mm_layFrom_L3 n a1 a3 (a5 + (1 : Int32)) (eU2 (eU2 (eU2 p1.2 14 (Int32.toNatClampNeg a5) p1.1) 15 (Int32.toNatClampNeg a5) (0 : Int64)) 15 (Int32.toNatClampNeg a5) (100 : Int64))))))))))
noncomputable def f_mm_layFrom (a1 : Int64) (a3 : Int64) (w : eW) : Option (eW) := (f_mm_layFrom_L3 eFu a1 a3 (0 : Int32) w)
noncomputable def K_mm_layFrom {ρ : Type} : eF ρ := fun as w k => match as with
  | [.ref r0, .long a1, .long a3] => bif Nat.beq r0 24 then (f_mm_layFrom a1 a3 w).bind (fun w => k none w) else none
  | _ => none
section
variable {p : Program} {l : Launch} {e : Env} {s : State} {m : MethodId} {args : Array Value} {below : List Frame} {meth : Method} {c : Code} {ad : Nat → Nat} {D : va_G} {cA : Nat → ClassId}
theorem lk_mm_layFrom : ∀ q ∈ rs_mm_layFrom, eLnk { frames := 6, cells := 0, slots := 0, locals := 134 } vwCl (eWd yX12_layFrom cX12_layFrom 7 none) SSm SHm.length RX12 q.1 q.2 := List.forall_mem_cons.mpr ⟨lkX12_7 eTb_wd, List.forall_mem_cons.mpr ⟨lkX12_16 eTb_wd, List.forall_mem_cons.mpr ⟨lkX12_57 eTb_wd, List.forall_mem_cons.mpr ⟨lkX12_60 eTb_wd, List.forall_mem_cons.mpr ⟨lkX12_98 eTb_wd, List.forall_mem_cons.mpr ⟨lkX12_263 eTb_wd, List.forall_mem_cons.mpr ⟨trivial, List.forall_mem_cons.mpr ⟨lkX12_272 eTb_wd, List.forall_mem_cons.mpr ⟨trivial, fun _ h => absurd h List.not_mem_nil⟩⟩⟩⟩⟩⟩⟩⟩⟩
theorem hc_mm_layFrom {x : eW} : ∀ q ∈ rs_mm_layFrom, eHc l { frames := 6, cells := 0, slots := 0, locals := 134 } ad D cA vwCl SHm SSm (eWd yX12_layFrom cX12_layFrom 7 none) RX12 cs_mm_layFrom x q := List.forall_mem_cons.mpr ⟨trivial, List.forall_mem_cons.mpr ⟨trivial, List.forall_mem_cons.mpr ⟨trivial, List.forall_mem_cons.mpr ⟨trivial, List.forall_mem_cons.mpr ⟨trivial, List.forall_mem_cons.mpr ⟨trivial, List.forall_mem_cons.mpr ⟨(fun as w k h => let ⟨v, w2, h1, h2⟩ := ok_mm_firstOf as w k x h; ⟨v, w2, h1, eCal_of h2 ⟨rfl, rfl⟩ hdX12_firstOf (gvX12_268 eTb_wd)⟩), List.forall_mem_cons.mpr ⟨trivial, List.forall_mem_cons.mpr ⟨(fun as w k h => let ⟨v, w2, h1, h2⟩ := ok_mm_layClass as w k x h; ⟨v, w2, h1, eCal_of h2 ⟨rfl, rfl⟩ hdX12_layClass (gvX12_274 eTb_wd)⟩), fun _ h => absurd h List.not_mem_nil⟩⟩⟩⟩⟩⟩⟩⟩⟩
noncomputable def kk_mm_layFrom_91 (k3 : Int64 → Int64 → Int32 → eW → Option (eW)) : eK (eW) := fun pc L st w => bif Nat.beq pc 3 then (lR L 0 24 ((lJ L 1).bind fun a1 => (lJ L 3).bind fun a3 => (lI L 5).bind fun a5 => sE st (k3 a1 a3 a5 w))) else none
set_option maxRecDepth 100000 in
set_option maxHeartbeats 4000000 in
theorem go_mm_layFrom_J91 (hcx : eCx p { frames := 6, cells := 0, slots := 0, locals := 134 } s m args meth c cX12_layFrom RX12 7 ad D cA vwCl SHm SSm (eWd yX12_layFrom cX12_layFrom 7 none) (none)) {x : eW} (k3 : Int64 → Int64 → Int32 → eW → Option (eW)) (hk3 : ∀ (a1 : Int64) (a3 : Int64) (a5 : Int32) (w : eW), k3 a1 a3 a5 w = some x → eGq p l e { frames := 6, cells := 0, slots := 0, locals := 134 } s m args below meth c 7 ad D cA vwCl SHm rV x 3 [some (.ref 24), some (.long a1), none, some (.long a3), none, some (.int a5), none] [] w) : ∀ (a1 : Int64) (a3 : Int64) (a5 : Int32) (s0 : Int32) (w : eW), f_mm_layFrom_J91 k3 a1 a3 a5 s0 w = some x → eGq p l e { frames := 6, cells := 0, slots := 0, locals := 134 } s m args below meth c 7 ad D cA vwCl SHm rV x 91 [some (.ref 24), some (.long a1), none, some (.long a3), none, some (.int a5), none] [.int s0] w := by
  intro a1 a3 a5 s0 w h
  have h : eRun SHm SSm 7 rs_mm_layFrom (eCs cs_mm_layFrom) rV CX12_layFrom [3, 91] (kk_mm_layFrom_91 k3) 29 true 91 [some (.ref 24), some (.long a1), none, some (.long a3), none, some (.int a5), none] [.int s0] w = some x := h
  refine eRun_go hcx (eLnk_all lk_mm_layFrom) (eHc_all hc_mm_layFrom) rV_ok dcX12_layFrom [3, 91] _ (fun pc L st w hK => ?_) 29 true 91 _ _ w h
  unfold kk_mm_layFrom_91 at hK
  rcases eCut hK with ⟨hpc, hK⟩ | hK
  · subst hpc
    obtain ⟨e0, hK_1⟩ := lR_some hK
    obtain ⟨a1, e1, hK_2⟩ := lJ_some hK_1
    obtain ⟨a3, e3, hK_3⟩ := lJ_some hK_2
    obtain ⟨a5, e5, hK_4⟩ := lI_some hK_3
    obtain ⟨hst9, hK_5⟩ := sE_some hK_4
    subst hst9
    exact eGo.wk (hk3 a1 a3 a5 w hK_5) (eLe_wk ⟨e0, e1, e3, e5, trivial⟩)
  cases hK
noncomputable def kk_mm_layFrom_3 (n : Nat) : eK (eW) := fun pc L st w => bif Nat.beq pc 3 then (lR L 0 24 ((lJ L 1).bind fun a1 => (lJ L 3).bind fun a3 => (lI L 5).bind fun a5 => sE st (f_mm_layFrom_L3 n a1 a3 a5 w))) else (bif Nat.beq pc 91 then (lR L 0 24 ((lJ L 1).bind fun a1 => (lJ L 3).bind fun a3 => (lI L 5).bind fun a5 => sI st (fun s0 st1 => sE st1 (f_mm_layFrom_J91 (f_mm_layFrom_L3 n) a1 a3 a5 s0 w)))) else none)
set_option maxRecDepth 100000 in
set_option maxHeartbeats 4000000 in
theorem go_mm_layFrom_L3 (hcx : eCx p { frames := 6, cells := 0, slots := 0, locals := 134 } s m args meth c cX12_layFrom RX12 7 ad D cA vwCl SHm SSm (eWd yX12_layFrom cX12_layFrom 7 none) (none)) {x : eW} : ∀ (n : Nat) (a1 : Int64) (a3 : Int64) (a5 : Int32) (w : eW), f_mm_layFrom_L3  n a1 a3 a5 w = some x → eGq p l e { frames := 6, cells := 0, slots := 0, locals := 134 } s m args below meth c 7 ad D cA vwCl SHm rV x 3 [some (.ref 24), some (.long a1), none, some (.long a3), none, some (.int a5), none] [] w := by
  intro n
  induction n with
  | zero => intro a1 a3 a5 w h; exact nomatch (show (none : Option (eW)) = some x from h)
  | succ n ih =>
    intro a1 a3 a5 w h
    have h : eRun SHm SSm 7 rs_mm_layFrom (eCs cs_mm_layFrom) rV CX12_layFrom [3, 91] (kk_mm_layFrom_3  n) 44 true 3 [some (.ref 24), some (.long a1), none, some (.long a3), none, some (.int a5), none] [] w = some x := h
    refine eRun_go hcx (eLnk_all lk_mm_layFrom) (eHc_all hc_mm_layFrom) rV_ok dcX12_layFrom [3, 91] _ (fun pc L st w hK => ?_) 44 true 3 _ _ w h
    unfold kk_mm_layFrom_3 at hK
    rcases eCut hK with ⟨hpc, hK⟩ | hK
    · subst hpc
      obtain ⟨e0, hK_1⟩ := lR_some hK
      obtain ⟨a1, e1, hK_2⟩ := lJ_some hK_1
      obtain ⟨a3, e3, hK_3⟩ := lJ_some hK_2
      obtain ⟨a5, e5, hK_4⟩ := lI_some hK_3
      obtain ⟨hst9, hK_5⟩ := sE_some hK_4
      subst hst9
      exact eGo.wk (ih a1 a3 a5 w hK_5) (eLe_wk ⟨e0, e1, e3, e5, trivial⟩)
    rcases eCut hK with ⟨hpc, hK⟩ | hK
    · subst hpc
      obtain ⟨e0, hK_1⟩ := lR_some hK
      obtain ⟨a1, e1, hK_2⟩ := lJ_some hK_1
      obtain ⟨a3, e3, hK_3⟩ := lJ_some hK_2
      obtain ⟨a5, e5, hK_4⟩ := lI_some hK_3
      obtain ⟨s0, st1, hst0, hK_5⟩ := sI_some hK_4
      subst hst0
      obtain ⟨hst9, hK_6⟩ := sE_some hK_5
      subst hst9
      exact eGo.wk (go_mm_layFrom_J91 hcx (f_mm_layFrom_L3 n) ih a1 a3 a5 s0 w hK_6) (eLe_wk ⟨e0, e1, e3, e5, trivial⟩)
    cases hK
set_option maxRecDepth 100000 in
set_option maxHeartbeats 4000000 in
theorem go_mm_layFrom (hcx : eCx p { frames := 6, cells := 0, slots := 0, locals := 134 } s m args meth c cX12_layFrom RX12 7 ad D cA vwCl SHm SSm (eWd yX12_layFrom cX12_layFrom 7 none) (none)) (a1 : Int64) (a3 : Int64) (w : eW) (x : eW) (h : f_mm_layFrom a1 a3 w = some x) : eGq p l e { frames := 6, cells := 0, slots := 0, locals := 134 } s m args below meth c 7 ad D cA vwCl SHm rV x 0 (eEnt [.ref 24, .long a1, .long a3]) [] w := by
  have h : eRun SHm SSm 7 rs_mm_layFrom (eCs cs_mm_layFrom) rV CX12_layFrom [3, 91] (fun pc L st w => bif Nat.beq pc 3 then (lR L 0 24 ((lJ L 1).bind fun a1 => (lJ L 3).bind fun a3 => (lI L 5).bind fun a5 => sE st (f_mm_layFrom_L3 eFu a1 a3 a5 w))) else none) 5 true 0 [some (.ref 24), some (.long a1), none, some (.long a3), none, none, none] [] w = some x := h
  refine eGo.wk (eRun_go hcx (eLnk_all lk_mm_layFrom) (eHc_all hc_mm_layFrom) rV_ok dcX12_layFrom [3, 91] _ (fun pc L st w hK => ?_) 5 true 0 _ _ w h) (eLe_wk ⟨rfl, rfl, rfl, trivial⟩)
  rcases eCut hK with ⟨hpc, hK⟩ | hK
  · subst hpc
    obtain ⟨e0, hK_1⟩ := lR_some hK
    obtain ⟨a1, e1, hK_2⟩ := lJ_some hK_1
    obtain ⟨a3, e3, hK_3⟩ := lJ_some hK_2
    obtain ⟨a5, e5, hK_4⟩ := lI_some hK_3
    obtain ⟨hst9, hK_5⟩ := sE_some hK_4
    subst hst9
    exact eGo.wk (go_mm_layFrom_L3 hcx  eFu a1 a3 a5 w hK_5) (eLe_wk ⟨e0, e1, e3, e5, trivial⟩)
  cases hK
end
set_option maxRecDepth 100000 in
set_option maxHeartbeats 4000000 in
theorem ok_mm_layFrom {l : Launch} {ad : Nat → Nat} {D : va_G} {cA : Nat → ClassId} {ρ : Type} (as : List Value) (w : eW) (k : Option Value → eW → Option ρ) (x : ρ) (h : K_mm_layFrom as w k = some x) : ∃ (v : Option Value) (w2 : eW), k v w2 = some x ∧ eMet l ad D cA vwCl SHm SSm yX12_layFrom (eWd yX12_layFrom cX12_layFrom 7 none) { frames := 6, cells := 0, slots := 0, locals := 134 } as w v w2 := by
  unfold K_mm_layFrom at h
  split at h
  · rename_i r0 a1 a3
    obtain ⟨h1, h5⟩ := eBif h
    clear h
    have h := h5
    clear h5
    have h1 := Nat.eq_of_beq_eq_true h1
    subst h1
    obtain ⟨q, h2, h3⟩ := Option.bind_eq_some_iff.mp h
    exact ⟨_, _, h3, eMet_of (by decide +kernel) rfl (by simp [eCat, Value.category]) rV_ret (fun p e s m args below meth c hcx => go_mm_layFrom hcx a1 a3 w q h2)⟩
  · cases h
