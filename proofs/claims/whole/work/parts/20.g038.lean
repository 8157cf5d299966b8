def CX12_readTerms : eCo := [[some (.aload_n 0), some (.ldc 175), none, some (.iconst 0), some (.invokevirtual 206), none, none, some (.aload_n 0), some (.getfield 19), none, none, some (.iload_n 1), some (.aload_n 0), some (.iconst 0), some (.iconst 5), some (.invokevirtual 202)],
  [none, none, some (.iastore), some (.aload_n 0), some (.getfield 22), none, none, some (.iload_n 1), some (.aload_n 0), some (.ldc 176), none, some (.iconst 0), some (.invokevirtual 213), none, none, some (.ifCond .eq 14)],
  [none, none, some (.aload_n 0), some (.iconst 0), some (.sipush 400), none, none, some (.invokevirtual 202), none, none, some (.goto 5), none, none, some (.bipush 100), none, some (.iastore)],
  [some (.aload_n 0), some (.getfield 25), none, none, some (.iload_n 1), some (.aload_n 0), some (.ldc 177), none, some (.iconst 0), some (.invokevirtual 213), none, none, some (.ifCond .eq 14), none, none, some (.aload_n 0)],
  [some (.iconst 1), some (.sipush 400), none, none, some (.invokevirtual 202), none, none, some (.goto 5), none, none, some (.bipush 100), none, some (.iastore), some (.aload_n 0), some (.getfield 28), none],
  [none, some (.iload_n 1), some (.aload_n 0), some (.ldc 178), none, some (.sipush 455), none, none, some (.invokevirtual 213), none, none, some (.ifCond .eq 7), none, none, some (.iconst 1), some (.goto 4)],
  [none, none, some (.iconst 0), some (.iastore), some (.aload_n 0), some (.getfield 31), none, none, some (.iload_n 1), some (.aload_n 0), some (.getfield 28), none, none, some (.iload_n 1), some (.iaload), some (.iconst 1)],
  [some (.if_icmp .ne 25), none, none, some (.aload_n 0), some (.sipush 3120), none, none, some (.iconst 0), some (.invokevirtual 213), none, none, some (.ifCond .eq 14), none, none, some (.aload_n 0), some (.iconst 0)],
  [some (.sipush 2000), none, none, some (.invokevirtual 202), none, none, some (.goto 4), none, none, some (.iconst (-1)), some (.iastore), some (.aload_n 0), some (.ldc 179), none, some (.bipush 25), none],
  [some (.invokevirtual 213), none, none, some (.istore_n 2), some (.aload_n 0), some (.getfield 34), none, none, some (.iload_n 1), some (.iload_n 2), some (.ifCond .eq 13), none, none, some (.aload_n 0), some (.iconst 0), some (.bipush 30)],
  [none, some (.invokevirtual 202), none, none, some (.goto 4), none, none, some (.iconst 0), some (.iastore), some (.aload_n 0), some (.getfield 37), none, none, some (.iload_n 1), some (.iload_n 2), some (.ifCond .eq 13)],
  [none, none, some (.aload_n 0), some (.iconst 0), some (.bipush 20), none, some (.invokevirtual 202), none, none, some (.goto 4), none, none, some (.iconst 0), some (.iastore), some (.return_)]]
theorem dcX12_readTerms : eDec cX12_readTerms CX12_readTerms := eDec_of (by decide +kernel)
def rs_mm_readTerms : List (Nat × eR) := [(19, (0, 11, 8, 2)), (22, (0, 11, 9, 2)), (25, (0, 11, 10, 2)), (28, (0, 11, 11, 2)), (31, (0, 11, 12, 2)), (34, (0, 11, 13, 2)), (37, (0, 11, 14, 2)), (175, (2, 0, 0, 591307)), (176, (2, 0, 0, 21279923)), (177, (2, 0, 0, 18927919)), (178, (2, 0, 0, 20186697)), (179, (2, 0, 0, 26379852)), (202, (1, 1, 2, 11)), (206, (1, 0, 2, 11)), (213, (1, 2, 2, 11))]
noncomputable def cs_mm_readTerms : List (eF (eW)) := [K_mm_keyword, K_mm_number, K_mm_goesOver]
noncomputable def f_mm_readTerms_J138 (a1 : Int32) (s0 : Int32) (s1 : Int32) (w : eW) : Option (eW) := (eChk s1 24 ((f_mm_goesOver (26379852 : Int32) (25 : Int32) (eU1 w 7 (Int32.toNatClampNeg s1) s0)).bind fun p14 => (if p14.1 = 0 then (eChk a1 24 (if p14.1 = 0 then (eChk a1 24 (some (eU1 (eU1 p14.2 8 (Int32.toNatClampNeg a1) (0 : Int32)) 9 (Int32.toNatClampNeg a1) (0 : Int32)))) else ((f_mm_number (0 : Int32) (20 : Int32) (eU1 p14.2 8 (Int32.toNatClampNeg a1) (0 : Int32))).bind fun p15 => (eChk a1 24 (some (eU1 p15.2 9 (Int32.toNatClampNeg a1) p15.1)))))) else ((f_mm_number (0 : Int32) (30 : Int32) p14.2).bind fun p16 => (eChk a1 24 (if p14.1 = 0 then (eChk a1 24 (some (eU1 (eU1 p16.2 8 (Int32.toNatClampNeg a1) p16.1) 9 (Int32.toNatClampNeg a1) (0 : Int32)))) else ((f_mm_number (0 : Int32) (20 : Int32) (eU1 p16.2 8 (Int32.toNatClampNeg a1) p16.1)).bind fun p17 => (eChk a1 24 (some (eU1 p17.2 9 (Int32.toNatClampNeg a1) p17.1))))))))))
noncomputable def f_mm_readTerms_J76 (a1 : Int32) (s0 : Int32) (s1 : Int32) (w : eW) : Option (eW) := (eChk s1 24 ((f_mm_goesOver (20186697 : Int32) (455 : Int32) (eU1 w 5 (Int32.toNatClampNeg s1) s0)).bind fun p9 => (if p9.1 = 0 then (eChk a1 24 (eChk a1 24 (if ¬ ((eU1 p9.2 6 (Int32.toNatClampNeg a1) (0 : Int32)).1 6 (Int32.toNatClampNeg a1)) = (1 : Int32) then (f_mm_readTerms_J138 a1 (-1 : Int32) a1 (eU1 p9.2 6 (Int32.toNatClampNeg a1) (0 : Int32))) else ((f_mm_goesOver (3120 : Int32) (0 : Int32) (eU1 p9.2 6 (Int32.toNatClampNeg a1) (0 : Int32))).bind fun p10 => (if p10.1 = 0 then (f_mm_readTerms_J138 a1 (-1 : Int32) a1 p10.2) else ((f_mm_number (0 : Int32) (2000 : Int32) p10.2).bind fun p11 => (f_mm_readTerms_J138 a1 p11.1 a1 p11.2))))))) else (eChk a1 24 (eChk a1 24 (if ¬ ((eU1 p9.2 6 (Int32.toNatClampNeg a1) (1 : Int32)).1 6 (Int32.toNatClampNeg a1)) = (1 : Int32) then (f_mm_readTerms_J138 a1 (-1 : Int32) a1 (eU1 p9.2 6 (Int32.toNatClampNeg a1) (1 : Int32))) else ((f_mm_goesOver (3120 : Int32) (0 : Int32) (eU1 p9.2 6 (Int32.toNatClampNeg a1) (1 : Int32))).bind fun p12 => (if p12.1 = 0 then (f_mm_readTerms_J138 a1 (-1 : Int32) a1 p12.2) else ((f_mm_number (0 : Int32) (2000 : Int32) p12.2).bind fun p13 => (f_mm_readTerms_J138 a1 p13.1 a1 p13.2))))))))))
noncomputable def f_mm_readTerms (a1 : Int32) (w : eW) : Option (eW) := ((f_mm_keyword (591307 : Int32) (0 : Int32) w).bind fun w1 => ((f_mm_number (0 : Int32) (5 : Int32) w1).bind fun p2 => (eChk a1 24 ((f_mm_goesOver (21279923 : Int32) (0 : Int32) (eU1 p2.2 3 (Int32.toNatClampNeg a1) p2.1)).bind fun p3 => (if p3.1 = 0 then (eChk a1 24 ((f_mm_goesOver (18927919 : Int32) (0 : Int32) (eU1 p3.2 4 (Int32.toNatClampNeg a1) (100 : Int32))).bind fun p4 => (if p4.1 = 0 then (f_mm_readTerms_J76 a1 (100 : Int32) a1 p4.2) else ((f_mm_number (1 : Int32) (400 : Int32) p4.2).bind fun p5 => (f_mm_readTerms_J76 a1 p5.1 a1 p5.2))))) else ((f_mm_number (0 : Int32) (400 : Int32) p3.2).bind fun p6 => (eChk a1 24 ((f_mm_goesOver (18927919 : Int32) (0 : Int32) (eU1 p6.2 4 (Int32.toNatClampNeg a1) p6.1)).bind fun p7 => (if p7.1 = 0 then (f_mm_readTerms_J76 a1 (100 : Int32) a1 p7.2) else ((f_mm_number (1 : Int32) (400 : Int32) p7.2).bind fun p8 => (f_mm_readTerms_J76 a1 p8.1 a1 p8.2)))))))))))
noncomputable def K_mm_readTerms {ρ : Type} : eF ρ := fun as w k => match as with
  | [.ref r0, .int a1] => bif Nat.beq r0 24 then (f_mm_readTerms a1 w).bind (fun w => k none w) else none
  | _ => none
section
variable {p : Program} {l : Launch} {e : Env} {s : State} {m : MethodId} {args : Array Value} {below : List Frame} {meth : Method} {c : Code} {ad : Nat → Nat} {D : va_G} {cA : Nat → ClassId}
theorem lk_mm_readTerms : ∀ q ∈ rs_mm_readTerms, eLnk { frames := 3, cells := 0, slots := 0, locals := 67 } vwCl (eWd yX12_readTerms cX12_readTerms 3 none) SSm SHm.length RX12 q.1 q.2 := List.forall_mem_cons.mpr ⟨lkX12_19 eTb_wd, List.forall_mem_cons.mpr ⟨lkX12_22 eTb_wd, List.forall_mem_cons.mpr ⟨lkX12_25 eTb_wd, List.forall_mem_cons.mpr ⟨lkX12_28 eTb_wd, List.forall_mem_cons.mpr ⟨lkX12_31 eTb_wd, List.forall_mem_cons.mpr ⟨lkX12_34 eTb_wd, List.forall_mem_cons.mpr ⟨lkX12_37 eTb_wd, List.forall_mem_cons.mpr ⟨lkX12_175 eTb_wd, List.forall_mem_cons.mpr ⟨lkX12_176 eTb_wd, List.forall_mem_cons.mpr ⟨lkX12_177 eTb_wd, List.forall_mem_cons.mpr ⟨lkX12_178 eTb_wd, List.forall_mem_cons.mpr ⟨lkX12_179 eTb_wd, List.forall_mem_cons.mpr ⟨trivial, List.forall_mem_cons.mpr ⟨trivial, List.forall_mem_cons.mpr ⟨trivial, fun _ h => absurd h List.not_mem_nil⟩⟩⟩⟩⟩⟩⟩⟩⟩⟩⟩⟩⟩⟩⟩
theorem hc_mm_readTerms {x : eW} : ∀ q ∈ rs_mm_readTerms, eHc l { frames := 3, cells := 0, slots := 0, locals := 67 } ad D cA vwCl SHm SSm (eWd yX12_readTerms cX12_readTerms 3 none) RX12 cs_mm_readTerms x q := List.forall_mem_cons.mpr ⟨trivial, List.forall_mem_cons.mpr ⟨trivial, List.forall_mem_cons.mpr ⟨trivial, List.forall_mem_cons.mpr ⟨trivial, List.forall_mem_cons.mpr ⟨trivial, List.forall_mem_cons.mpr ⟨trivial, List.forall_mem_cons.mpr ⟨trivial, List.forall_mem_cons.mpr ⟨trivial, List.forall_mem_cons.mpr ⟨trivial, List.forall_mem_cons.mpr ⟨trivial, List.forall_mem_cons.mpr ⟨trivial, List.forall_mem_cons.mpr ⟨trivial, List.forall_mem_cons.mpr ⟨(fun as w k h => let ⟨v, w2, h1, h2⟩ := ok_mm_number as w k x h; ⟨v, w2, h1, eCal_of h2 ⟨rfl, rfl⟩ hdX12_number (gvX12_202 eTb_wd)⟩), List.forall_mem_cons.mpr ⟨(fun as w k h => let ⟨v, w2, h1, h2⟩ := ok_mm_keyword as w k x h; ⟨v, w2, h1, eCal_of h2 ⟨rfl, rfl⟩ hdX12_keyword (gvX12_206 eTb_wd)⟩), List.forall_mem_cons.mpr ⟨(fun as w k h => let ⟨v, w2, h1, h2⟩ := ok_mm_goesOver as w k x h; ⟨v, w2, h1, eCal_of h2 ⟨rfl, rfl⟩ hdX12_goesOver (gvX12_213 eTb_wd)⟩), fun _ h => absurd h List.not_mem_nil⟩⟩⟩⟩⟩⟩⟩⟩⟩⟩⟩⟩⟩⟩⟩
noncomputable def kk_mm_readTerms_138 : eK (eW) := fun pc L st w => none
set_option maxRecDepth 100000 in
set_option maxHeartbeats 4000000 in
theorem go_mm_readTerms_J138 (hcx : eCx p { frames := 3, cells := 0, slots := 0, locals := 67 } s m args meth c cX12_readTerms RX12 3 ad D cA vwCl SHm SSm (eWd yX12_readTerms cX12_readTerms 3 none) (none)) {x : eW} : ∀ (a1 : Int32) (s0 : Int32) (s1 : Int32) (w : eW), f_mm_readTerms_J138  a1 s0 s1 w = some x → eGq p l e { frames := 3, cells := 0, slots := 0, locals := 67 } s m args below meth c 3 ad D cA vwCl SHm rV x 138 [some (.ref 24), some (.int a1), none] [.int s0, .int s1, .ref 7] w := by
  intro a1 s0 s1 w h
  have h : eRun SHm SSm 3 rs_mm_readTerms (eCs cs_mm_readTerms) rV CX12_readTerms [76, 138] (kk_mm_readTerms_138 ) 31 true 138 [some (.ref 24), some (.int a1), none] [.int s0, .int s1, .ref 7] w = some x := h
  refine eRun_go hcx (eLnk_all lk_mm_readTerms) (eHc_all hc_mm_readTerms) rV_ok dcX12_readTerms [76, 138] _ (fun pc L st w hK => ?_) 31 true 138 _ _ w h
  unfold kk_mm_readTerms_138 at hK
  cases hK
noncomputable def kk_mm_readTerms_76 : eK (eW) := fun pc L st w => bif Nat.beq pc 138 then (lR L 0 24 ((lI L 1).bind fun a1 => sI st (fun s0 st1 => sI st1 (fun s1 st2 => sR st2 7 (fun st3 => sE st3 (f_mm_readTerms_J138 a1 s0 s1 w)))))) else none
set_option maxRecDepth 100000 in
set_option maxHeartbeats 4000000 in
theorem go_mm_readTerms_J76 (hcx : eCx p { frames := 3, cells := 0, slots := 0, locals := 67 } s m args meth c cX12_readTerms RX12 3 ad D cA vwCl SHm SSm (eWd yX12_readTerms cX12_readTerms 3 none) (none)) {x : eW} : ∀ (a1 : Int32) (s0 : Int32) (s1 : Int32) (w : eW), f_mm_readTerms_J76  a1 s0 s1 w = some x → eGq p l e { frames := 3, cells := 0, slots := 0, locals := 67 } s m args below meth c 3 ad D cA vwCl SHm rV x 76 [some (.ref 24), some (.int a1), none] [.int s0, .int s1, .ref 5] w := by
  intro a1 s0 s1 w h
  have h : eRun SHm SSm 3 rs_mm_readTerms (eCs cs_mm_readTerms) rV CX12_readTerms [76, 138] (kk_mm_readTerms_76 ) 34 true 76 [some (.ref 24), some (.int a1), none] [.int s0, .int s1, .ref 5] w = some x := h
  refine eRun_go hcx (eLnk_all lk_mm_readTerms) (eHc_all hc_mm_readTerms) rV_ok dcX12_readTerms [76, 138] _ (fun pc L st w hK => ?_) 34 true 76 _ _ w h
  unfold kk_mm_readTerms_76 at hK
  rcases eCut hK with ⟨hpc, hK⟩ | hK
  · subst hpc
    obtain ⟨e0, hK_1⟩ := lR_some hK
    obtain ⟨a1, e1, hK_2⟩ := lI_some hK_1
    obtain ⟨s0, st1, hst0, hK_3⟩ := sI_some hK_2
    subst hst0
    obtain ⟨s1, st2, hst1, hK_4⟩ := sI_some hK_3
    subst hst1
    obtain ⟨st3, hst2, hK_5⟩ := sR_some hK_4
    subst hst2
    obtain ⟨hst9, hK_6⟩ := sE_some hK_5
    subst hst9
    exact eGo.wk (go_mm_readTerms_J138 hcx  a1 s0 s1 w hK_6) (eLe_wk ⟨e0, e1, trivial⟩)
  cases hK
set_option maxRecDepth 100000 in
set_option maxHeartbeats 4000000 in
theorem go_mm_readTerms (hcx : eCx p { frames := 3, cells := 0, slots := 0, locals := 67 } s m args meth c cX12_readTerms RX12 3 ad D cA vwCl SHm SSm (eWd yX12_readTerms cX12_readTerms 3 none) (none)) (a1 : Int32) (w : eW) (x : eW) (h : f_mm_readTerms a1 w = some x) : eGq p l e { frames := 3, cells := 0, slots := 0, locals := 67 } s m args below meth c 3 ad D cA vwCl SHm rV x 0 (eEnt [.ref 24, .int a1]) [] w := by
  have h : eRun SHm SSm 3 rs_mm_readTerms (eCs cs_mm_readTerms) rV CX12_readTerms [76, 138] (fun pc L st w => bif Nat.beq pc 76 then (lR L 0 24 ((lI L 1).bind fun a1 => sI st (fun s0 st1 => sI st1 (fun s1 st2 => sR st2 5 (fun st3 => sE st3 (f_mm_readTerms_J76 a1 s0 s1 w)))))) else none) 42 true 0 [some (.ref 24), some (.int a1), none] [] w = some x := h
  refine eGo.wk (eRun_go hcx (eLnk_all lk_mm_readTerms) (eHc_all hc_mm_readTerms) rV_ok dcX12_readTerms [76, 138] _ (fun pc L st w hK => ?_) 42 true 0 _ _ w h) (eLe_wk ⟨rfl, rfl, trivial⟩)
  rcases eCut hK with ⟨hpc, hK⟩ | hK
  · subst hpc
    obtain ⟨e0, hK_1⟩ := lR_some hK
    obtain ⟨a1, e1, hK_2⟩ := lI_some hK_1
    obtain ⟨s0, st1, hst0, hK_3⟩ := sI_some hK_2
    subst hst0
    obtain ⟨s1, st2, hst1, hK_4⟩ := sI_some hK_3
    subst hst1
    obtain ⟨st3, hst2, hK_5⟩ := sR_some hK_4
    subst hst2
    obtain ⟨hst9, hK_6⟩ := sE_some hK_5
    subst hst9
    exact eGo.wk (go_mm_readTerms_J76 hcx  a1 s0 s1 w hK_6) (eLe_wk ⟨e0, e1, trivial⟩)
  cases hK
end
set_option maxRecDepth 100000 in
set_option maxHeartbeats 4000000 in
theorem ok_mm_readTerms {l : Launch} {ad : Nat → Nat} {D : va_G} {cA : Nat → ClassId} {ρ : Type} (as : List Value) (w : eW) (k : Option Value → eW → Option ρ) (x : ρ) (h : K_mm_readTerms as w k = some x) : ∃ (v : Option Value) (w2 : eW), k v w2 = some x ∧ eMet l ad D cA vwCl SHm SSm yX12_readTerms (eWd yX12_readTerms cX12_readTerms 3 none) { frames := 3, cells := 0, slots := 0, locals := 67 } as w v w2 := by
  unfold K_mm_readTerms at h
  split at h
  · rename_i r0 a1
    obtain ⟨h1, h5⟩ := eBif h
    clear h
    have h := h5
    clear h5
    have h1 := Nat.eq_of_beq_eq_true h1
    subst h1
    obtain ⟨q, h2, h3⟩ := Option.bind_eq_some_iff.mp h
    exact ⟨_, _, h3, eMet_of (by decide +kernel) rfl (by simp [eCat, Value.category]) rV_ret (fun p e s m args below meth c hcx => go_mm_readTerms hcx a1 w q h2)⟩
  · cases h
def CX12_readHolder : eCo := [[some (.aload_n 0), some (.iload_n 1), some (.invokevirtual 196), none, none, some (.iload_n 2), some (.if_icmp .ne 9), none, none, some (.aload_n 0), some (.iconst 5), some (.invokevirtual 190), none, none, some (.return_), some (.bipush 12)],
  [none, some (.aload_n 0), some (.getfield 181), none, none, some (.iadd), some (.istore_n 3), some (.aload_n 0), some (.getfield 7), none, none, some (.iload_n 3), some (.iload_n 1), some (.iastore), some (.aload_n 0), some (.invokevirtual 199)],
  [none, none, some (.aload_n 0), some (.getfield 13), none, none, some (.iload_n 3), some (.aload_n 0), some (.iconst 1), some (.sipush 9999), none, none, some (.invokevirtual 202), none, none, some (.iastore)],
  [some (.iload_n 1), some (.ifCond .eq 34), none, none, some (.aload_n 0), some (.bipush 52), none, some (.iconst 0), some (.invokevirtual 206), none, none, some (.aload_n 0), some (.getfield 16), none, none, some (.iload_n 3)],
  [some (.aload_n 0), some (.iconst 1), some (.iload_n 1), some (.iconst 1), some (.if_icmp .ne 9), none, none, some (.sipush 999), none, none, some (.goto 5), none, none, some (.bipush 99), none, some (.invokevirtual 202)],
  [none, none, some (.iastore), some (.iload_n 1), some (.iconst 2), some (.if_icmp .ne 8), none, none, some (.aload_n 0), some (.iload_n 3), some (.invokevirtual 210), none, none, some (.aload_n 0), some (.dup), some (.getfield 181)],
  [none, none, some (.iconst 1), some (.iadd), some (.putfield 181), none, none, some (.return_)]]
theorem dcX12_readHolder : eDec cX12_readHolder CX12_readHolder := eDec_of (by decide +kernel)
def rs_mm_readHolder : List (Nat × eR) := [(7, (0, 11, 5, 2)), (13, (0, 11, 6, 2)), (16, (0, 11, 7, 2)), (181, (0, 11, 3, 0)), (190, (1, 5, 1, 11)), (196, (1, 0, 1, 11)), (199, (1, 1, 0, 11)), (202, (1, 2, 2, 11)), (206, (1, 4, 2, 11)), (210, (1, 3, 1, 11))]
noncomputable def cs_mm_readHolder : List (eF (eW)) := [K_mm_manyOf, K_mm_readName, K_mm_number, K_mm_readTerms, K_mm_keyword, K_mm_fails]
noncomputable def f_mm_readHolder (a1 : Int32) (a2 : Int32) (w : eW) : Option (eW) := ((f_mm_manyOf a1 w).bind fun p1 => (if ¬ p1.1 = a2 then (eChk ((12 : Int32) + (p1.2.1 24 3)) 24 ((f_mm_readName (eU1 p1.2 0 (Int32.toNatClampNeg ((12 : Int32) + (p1.2.1 24 3))) a1)).bind fun w2 => ((f_mm_number (1 : Int32) (9999 : Int32) w2).bind fun p3 => (eChk ((12 : Int32) + (p1.2.1 24 3)) 24 (if a1 = 0 then (if ¬ a1 = (2 : Int32) then (some (eU1 (eU1 p3.2 1 (Int32.toNatClampNeg ((12 : Int32) + (p1.2.1 24 3))) p3.1) 24 3 ((p3.2.1 24 3) + (1 : Int32)))) else ((f_mm_readTerms ((12 : Int32) + (p1.2.1 24 3)) (eU1 p3.2 1 (Int32.toNatClampNeg ((12 : Int32) + (p1.2.1 24 3))) p3.1)).bind fun w4 => (some (eU1 w4 24 3 ((w4.1 24 3) + (1 : Int32)))))) else ((f_mm_keyword (52 : Int32) (0 : Int32) (eU1 p3.2 1 (Int32.toNatClampNeg ((12 : Int32) + (p1.2.1 24 3))) p3.1)).bind fun w5 => (if ¬ a1 = (1 : Int32) then ((f_mm_number (1 : Int32) (99 : Int32) w5).bind fun p6 => (eChk ((12 : Int32) + (p1.2.1 24 3)) 24 (if ¬ a1 = (2 : Int32) then (some (eU1 (eU1 p6.2 2 (Int32.toNatClampNeg ((12 : Int32) + (p1.2.1 24 3))) p6.1) 24 3 ((p6.2.1 24 3) + (1 : Int32)))) else ((f_mm_readTerms ((12 : Int32) + (p1.2.1 24 3)) (eU1 p6.2 2 (Int32.toNatClampNeg ((12 : Int32) + (p1.2.1 24 3))) p6.1)).bind fun w7 => (some (eU1 w7 24 3 ((w7.1 24 3) + (1 : Int32)))))))) else ((f_mm_number (1 : Int32) (999 : Int32) w5).bind fun p8 => (eChk ((12 : Int32) + (p1.2.1 24 3)) 24 (if ¬ a1 = (2 : Int32) then (some (eU1 (eU1 p8.2 2 (Int32.toNatClampNeg ((12 : Int32) + (p1.2.1 24 3))) p8.1) 24 3 ((p8.2.1 24 3) + (1 : Int32)))) else ((f_mm_readTerms ((12 : Int32) + (p1.2.1 24 3)) (eU1 p8.2 2 (Int32.toNatClampNeg ((12 : Int32) + (p1.2.1 24 3))) p8.1)).bind fun w9 => (some (eU1 w9 24 3 ((w9.1 24 3) + (1 : Int32))))))))))))))) else ((f_mm_fails (5 : Int32) p1.2).bind fun w10 => (some w10))))
noncomputable def K_mm_readHolder {ρ : Type} : eF ρ := fun as w k => match as with
  | [.ref r0, .int a1, .int a2] => bif Nat.beq r0 24 then (f_mm_readHolder a1 a2 w).bind (fun w => k none w) else none
  | _ => none
section
variable {p : Program} {l : Launch} {e : Env} {s : State} {m : MethodId} {args : Array Value} {below : List Frame} {meth : Method} {c : Code} {ad : Nat → Nat} {D : va_G} {cA : Nat → ClassId}
theorem lk_mm_readHolder : ∀ q ∈ rs_mm_readHolder, eLnk { frames := 4, cells := 0, slots := 0, locals := 89 } vwCl (eWd yX12_readHolder cX12_readHolder 4 none) SSm SHm.length RX12 q.1 q.2 := List.forall_mem_cons.mpr ⟨lkX12_7 eTb_wd, List.forall_mem_cons.mpr ⟨lkX12_13 eTb_wd, List.forall_mem_cons.mpr ⟨lkX12_16 eTb_wd, List.forall_mem_cons.mpr ⟨lkX12_181 eTb_wd, List.forall_mem_cons.mpr ⟨trivial, List.forall_mem_cons.mpr ⟨trivial, List.forall_mem_cons.mpr ⟨trivial, List.forall_mem_cons.mpr ⟨trivial, List.forall_mem_cons.mpr ⟨trivial, List.forall_mem_cons.mpr ⟨trivial, fun _ h => absurd h List.not_mem_nil⟩⟩⟩⟩⟩⟩⟩⟩⟩⟩
theorem hc_mm_readHolder {x : eW} : ∀ q ∈ rs_mm_readHolder, eHc l { frames := 4, cells := 0, slots := 0, locals := 89 } ad D cA vwCl SHm SSm (eWd yX12_readHolder cX12_readHolder 4 none) RX12 cs_mm_readHolder x q := List.forall_mem_cons.mpr ⟨trivial, List.forall_mem_cons.mpr ⟨trivial, List.forall_mem_cons.mpr ⟨trivial, List.forall_mem_cons.mpr ⟨trivial, List.forall_mem_cons.mpr ⟨(fun as w k h => let ⟨v, w2, h1, h2⟩ := ok_mm_fails as w k x h; ⟨v, w2, h1, eCal_of h2 ⟨rfl, rfl⟩ hdX12_fails (gvX12_190 eTb_wd)⟩), List.forall_mem_cons.mpr ⟨(fun as w k h => let ⟨v, w2, h1, h2⟩ := ok_mm_manyOf as w k x h; ⟨v, w2, h1, eCal_of h2 ⟨rfl, rfl⟩ hdX12_manyOf (gvX12_196 eTb_wd)⟩), List.forall_mem_cons.mpr ⟨(fun as w k h => let ⟨v, w2, h1, h2⟩ := ok_mm_readName as w k x h; ⟨v, w2, h1, eCal_of h2 ⟨rfl, rfl⟩ hdX12_readName (gvX12_199 eTb_wd)⟩), List.forall_mem_cons.mpr ⟨(fun as w k h => let ⟨v, w2, h1, h2⟩ := ok_mm_number as w k x h; ⟨v, w2, h1, eCal_of h2 ⟨rfl, rfl⟩ hdX12_number (gvX12_202 eTb_wd)⟩), List.forall_mem_cons.mpr ⟨(fun as w k h => let ⟨v, w2, h1, h2⟩ := ok_mm_keyword as w k x h; ⟨v, w2, h1, eCal_of h2 ⟨rfl, rfl⟩ hdX12_keyword (gvX12_206 eTb_wd)⟩), List.forall_mem_cons.mpr ⟨(fun as w k h => let ⟨v, w2, h1, h2⟩ := ok_mm_readTerms as w k x h; ⟨v, w2, h1, eCal_of h2 ⟨rfl, rfl⟩ hdX12_readTerms (gvX12_210 eTb_wd)⟩), fun _ h => absurd h List.not_mem_nil⟩⟩⟩⟩⟩⟩⟩⟩⟩⟩
set_option maxRecDepth 100000 in
set_option maxHeartbeats 4000000 in
theorem go_mm_readHolder (hcx : eCx p { frames := 4, cells := 0, slots := 0, locals := 89 } s m args meth c cX12_readHolder RX12 4 ad D cA vwCl SHm SSm (eWd yX12_readHolder cX12_readHolder 4 none) (none)) (a1 : Int32) (a2 : Int32) (w : eW) (x : eW) (h : f_mm_readHolder a1 a2 w = some x) : eGq p l e { frames := 4, cells := 0, slots := 0, locals := 89 } s m args below meth c 4 ad D cA vwCl SHm rV x 0 (eEnt [.ref 24, .int a1, .int a2]) [] w := by
  have h : eRun SHm SSm 4 rs_mm_readHolder (eCs cs_mm_readHolder) rV CX12_readHolder [] (fun pc L st w => none) 58 true 0 [some (.ref 24), some (.int a1), some (.int a2), none] [] w = some x := h
  refine eGo.wk (eRun_go hcx (eLnk_all lk_mm_readHolder) (eHc_all hc_mm_readHolder) rV_ok dcX12_readHolder [] _ (fun pc L st w hK => ?_) 58 true 0 _ _ w h) (eLe_wk ⟨rfl, rfl, rfl, trivial⟩)
  cases hK
end
set_option maxRecDepth 100000 in
set_option maxHeartbeats 4000000 in
theorem ok_mm_readHolder {l : Launch} {ad : Nat → Nat} {D : va_G} {cA : Nat → ClassId} {ρ : Type} (as : List Value) (w : eW) (k : Option Value → eW → Option ρ) (x : ρ) (h : K_mm_readHolder as w k = some x) : ∃ (v : Option Value) (w2 : eW), k v w2 = some x ∧ eMet l ad D cA vwCl SHm SSm yX12_readHolder (eWd yX12_readHolder cX12_readHolder 4 none) { frames := 4, cells := 0, slots := 0, locals := 89 } as w v w2 := by
  unfold K_mm_readHolder at h
  split at h
  · rename_i r0 a1 a2
    obtain ⟨h1, h5⟩ := eBif h
    clear h
    have h := h5
    clear h5
    have h1 := Nat.eq_of_beq_eq_true h1
    subst h1
    obtain ⟨q, h2, h3⟩ := Option.bind_eq_some_iff.mp h
    exact ⟨_, _, h3, eMet_of (by decide +kernel) rfl (by simp [eCat, Value.category]) rV_ret (fun p e s m args below meth c hcx => go_mm_readHolder hcx a1 a2 w q h2)⟩
  · cases h
