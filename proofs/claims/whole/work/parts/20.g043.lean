def CX12_edge : eCo := [[some (.aload_n 0), some (.getfield 256), none, none, some (.istore 5), none, some (.iload 5), none, some (.ifCond .le 67), none, none, some (.aload_n 0), some (.getfield 50), none, none, some (.iload 5)],
  [none, some (.iconst 1), some (.isub), some (.laload), some (.lload_n 3), some (.lmul), some (.lload_n 1), some (.aload_n 0), some (.getfield 54), none, none, some (.iload 5), none, some (.iconst 1), some (.isub), some (.laload)],
  [some (.lmul), some (.lcmp), some (.ifCond .le 41), none, none, some (.aload_n 0), some (.getfield 50), none, none, some (.iload 5), none, some (.aload_n 0), some (.getfield 50), none, none, some (.iload 5)],
  [none, some (.iconst 1), some (.isub), some (.laload), some (.lastore), some (.aload_n 0), some (.getfield 54), none, none, some (.iload 5), none, some (.aload_n 0), some (.getfield 54), none, none, some (.iload 5)],
  [none, some (.iconst 1), some (.isub), some (.laload), some (.lastore), some (.iinc 5 (-1)), none, none, some (.goto (-66)), none, none, some (.aload_n 0), some (.getfield 50), none, none, some (.iload 5)],
  [none, some (.lload_n 1), some (.lastore), some (.aload_n 0), some (.getfield 54), none, none, some (.iload 5), none, some (.lload_n 3), some (.lastore), some (.aload_n 0), some (.dup), some (.getfield 256), none, none],
  [some (.iconst 1), some (.iadd), some (.putfield 256), none, none, some (.return_)]]
theorem dcX12_edge : eDec cX12_edge CX12_edge := eDec_of (by decide +kernel)
def rs_mm_edge : List (Nat × eR) := [(50, (0, 11, 30, 2)), (54, (0, 11, 31, 2)), (256, (0, 11, 34, 0))]
noncomputable def cs_mm_edge : List (eF (eW)) := []
noncomputable def f_mm_edge_L6 : Nat → Int64 → Int64 → Int32 → eW → Option (eW)
  | 0, _, _, _, _ => none
  | n + 1, a1, a3, a5, w => (if a5 ≤ 0 then (eChk a5 30 (eChk a5 30 (some (eU1 (eU2 (eU2 w 12 (Int32.toNatClampNeg a5) a1) 13 (Int32.toNatClampNeg a5) a3) 24 34 ((w.1 24 34) + (1 : Int32)))))) else (eChk (a5 - (1 : Int32)) 30 (eChk (a5 - (1 : Int32)) 30 (if (lg_cmp ((w.2 12 (Int32.toNatClampNeg (a5 - (1 : Int32)))) * a3) (a1 * (w.2 13 (Int32.toNatClampNeg (a5 - (1 : Int32)))))) ≤ 0 then (eChk a5 30 (eChk a5 30 (some (eU1 (eU2 (eU2 w 12 (Int32.toNatClampNeg a5) a1) 13 (Int32.toNatClampNeg a5) a3) 24 34 ((w.1 24 34) + (1 : Int32)))))) else (eChk (a5 - (1 : Int32)) 30 (eChk a5 30 (eChk (a5 - (1 : Int32)) 30 (eChk a5 30 (f_mm_edge_L6 n a1 a3 (a5 + (-1 : Int32)) (eU2 (eU2 w 12 (Int32.toNatClampNeg a5) (w.2 12 (Int32.toNatClampNeg (a5 - (1 : Int32))))) 13 (Int32.toNatClampNeg a5) (w.2 13 (Int32.toNatClampNeg (a5 - (1 : Int32))))))))))))))
noncomputable def f_mm_edge (a1 : Int64) (a3 : Int64) (w : eW) : Option (eW) := (f_mm_edge_L6 eFu a1 a3 (w.1 24 34) w)
noncomputable def K_mm_edge {ρ : Type} : eF ρ := fun as w k => match as with
  | [.ref r0, .long a1, .long a3] => bif Nat.beq r0 24 then (f_mm_edge a1 a3 w).bind (fun w => k none w) else none
  | _ => none
section
variable {p : Program} {l : Launch} {e : Env} {s : State} {m : MethodId} {args : Array Value} {below : List Frame} {meth : Method} {c : Code} {ad : Nat → Nat} {D : va_G} {cA : Nat → ClassId}
theorem lk_mm_edge : ∀ q ∈ rs_mm_edge, eLnk { frames := 0, cells := 0, slots := 0, locals := 0 } vwCl (eWd yX12_edge cX12_edge 6 none) SSm SHm.length RX12 q.1 q.2 := List.forall_mem_cons.mpr ⟨lkX12_50 eTb_wd, List.forall_mem_cons.mpr ⟨lkX12_54 eTb_wd, List.forall_mem_cons.mpr ⟨lkX12_256 eTb_wd, fun _ h => absurd h List.not_mem_nil⟩⟩⟩
theorem hc_mm_edge {x : eW} : ∀ q ∈ rs_mm_edge, eHc l { frames := 0, cells := 0, slots := 0, locals := 0 } ad D cA vwCl SHm SSm (eWd yX12_edge cX12_edge 6 none) RX12 cs_mm_edge x q := List.forall_mem_cons.mpr ⟨trivial, List.forall_mem_cons.mpr ⟨trivial, List.forall_mem_cons.mpr ⟨trivial, fun _ h => absurd h List.not_mem_nil⟩⟩⟩
noncomputable def kk_mm_edge_6 (n : Nat) : eK (eW) := fun pc L st w => bif Nat.beq pc 6 then (lR L 0 24 ((lJ L 1).bind fun a1 => (lJ L 3).bind fun a3 => (lI L 5).bind fun a5 => sE st (f_mm_edge_L6 n a1 a3 a5 w))) else none
set_option maxRecDepth 100000 in
set_option maxHeartbeats 4000000 in
theorem go_mm_edge_L6 (hcx : eCx p { frames := 0, cells := 0, slots := 0, locals := 0 } s m args meth c cX12_edge RX12 6 ad D cA vwCl SHm SSm (eWd yX12_edge cX12_edge 6 none) (none)) {x : eW} : ∀ (n : Nat) (a1 : Int64) (a3 : Int64) (a5 : Int32) (w : eW), f_mm_edge_L6  n a1 a3 a5 w = some x → eGq p l e { frames := 0, cells := 0, slots := 0, locals := 0 } s m args below meth c 6 ad D cA vwCl SHm rV x 6 [some (.ref 24), some (.long a1), none, some (.long a3), none, some (.int a5)] [] w := by
  intro n
  induction n with
  | zero => intro a1 a3 a5 w h; exact nomatch (show (none : Option (eW)) = some x from h)
  | succ n ih =>
    intro a1 a3 a5 w h
    have h : eRun SHm SSm 6 rs_mm_edge (eCs cs_mm_edge) rV CX12_edge [6] (kk_mm_edge_6  n) 45 true 6 [some (.ref 24), some (.long a1), none, some (.long a3), none, some (.int a5)] [] w = some x := h
    refine eRun_go hcx (eLnk_all lk_mm_edge) (eHc_all hc_mm_edge) rV_ok dcX12_edge [6] _ (fun pc L st w hK => ?_) 45 true 6 _ _ w h
    unfold kk_mm_edge_6 at hK
    rcases eCut hK with ⟨hpc, hK⟩ | hK
    · subst hpc
      obtain ⟨e0, hK_1⟩ := lR_some hK
      obtain ⟨a1, e1, hK_2⟩ := lJ_some hK_1
      obtain ⟨a3, e3, hK_3⟩ := lJ_some hK_2
      obtain ⟨a5, e5, hK_4⟩ := lI_some hK_3
      obtain ⟨hst9, hK_5⟩ := sE_some hK_4
      subst hst9
      exact eGo.wk (ih a1 a3 a5 w hK_5) (eLe_wk ⟨e0, e1, e3, e5, trivial⟩)
    cases hK
set_option maxRecDepth 100000 in
set_option maxHeartbeats 4000000 in
theorem go_mm_edge (hcx : eCx p { frames := 0, cells := 0, slots := 0, locals := 0 } s m args meth c cX12_edge RX12 6 ad D cA vwCl SHm SSm (eWd yX12_edge cX12_edge 6 none) (none)) (a1 : Int64) (a3 : Int64) (w : eW) (x : eW) (h : f_mm_edge a1 a3 w = some x) : eGq p l e { frames := 0, cells := 0, slots := 0, locals := 0 } s m args below meth c 6 ad D cA vwCl SHm rV x 0 (eEnt [.ref 24, .long a1, .long a3]) [] w := by
  have h : eRun SHm SSm 6 rs_mm_edge (eCs cs_mm_edge) rV CX12_edge [6] (fun pc L st w => bif Nat.beq pc 6 then (lR L 0 24 ((lJ L 1).bind fun a1 => (lJ L 3).bind fun a3 => (lI L 5).bind fun a5 => sE st (f_mm_edge_L6 eFu a1 a3 a5 w))) else none) 6 true 0 [some (.ref 24), some (.long a1), none, some (.long a3), none, none] [] w = some x := h
  refine eGo.wk (eRun_go hcx (eLnk_all lk_mm_edge) (eHc_all hc_mm_edge) rV_ok dcX12_edge [6] _ (fun pc L st w hK => ?_) 6 true 0 _ _ w h) (eLe_wk ⟨rfl, rfl, rfl, trivial⟩)
  rcases eCut hK with ⟨hpc, hK⟩ | hK
  · subst hpc
    obtain ⟨e0, hK_1⟩ := lR_some hK
    obtain ⟨a1, e1, hK_2⟩ := lJ_some hK_1
    obtain ⟨a3, e3, hK_3⟩ := lJ_some hK_2
    obtain ⟨a5, e5, hK_4⟩ := lI_some hK_3
    obtain ⟨hst9, hK_5⟩ := sE_some hK_4
    subst hst9
    exact eGo.wk (go_mm_edge_L6 hcx  eFu a1 a3 a5 w hK_5) (eLe_wk ⟨e0, e1, e3, e5, trivial⟩)
  cases hK
end
set_option maxRecDepth 100000 in
set_option maxHeartbeats 4000000 in
theorem ok_mm_edge {l : Launch} {ad : Nat → Nat} {D : va_G} {cA : Nat → ClassId} {ρ : Type} (as : List Value) (w : eW) (k : Option Value → eW → Option ρ) (x : ρ) (h : K_mm_edge as w k = some x) : ∃ (v : Option Value) (w2 : eW), k v w2 = some x ∧ eMet l ad D cA vwCl SHm SSm yX12_edge (eWd yX12_edge cX12_edge 6 none) { frames := 0, cells := 0, slots := 0, locals := 0 } as w v w2 := by
  unfold K_mm_edge at h
  split at h
  · rename_i r0 a1 a3
    obtain ⟨h1, h5⟩ := eBif h
    clear h
    have h := h5
    clear h5
    have h1 := Nat.eq_of_beq_eq_true h1
    subst h1
    obtain ⟨q, h2, h3⟩ := Option.bind_eq_some_iff.mp h
    exact ⟨_, _, h3, eMet_of (by decide +kernel) rfl (by simp [eCat, Value.category]) rV_ret (fun p e s m args below meth c hcx => go_mm_edge hcx a1 a3 w q h2)⟩
  · cases h
def CX12_topOf : eCo := [[some (.aload_n 0), some (.getfield 16), none, none, some (.iload_n 1), some (.iaload), some (.aload_n 0), some (.getfield 31), none, none, some (.iload_n 1), some (.iaload), some (.imul), some (.istore_n 2), some (.iload_n 2), some (.aload_n 0)],
  [some (.iload_n 1), some (.invokevirtual 120), none, none, some (.if_icmp .ge 11), none, none, some (.aload_n 0), some (.iload_n 1), some (.invokevirtual 120), none, none, some (.goto 4), none, none, some (.iload_n 2)],
  [some (.ireturn)]]
theorem dcX12_topOf : eDec cX12_topOf CX12_topOf := eDec_of (by decide +kernel)
def rs_mm_topOf : List (Nat × eR) := [(16, (0, 11, 7, 2)), (31, (0, 11, 12, 2)), (120, (1, 0, 1, 11))]
noncomputable def cs_mm_topOf : List (eF (Int32 × eW)) := [K_mm_prefOf]
noncomputable def f_mm_topOf (a1 : Int32) (w : eW) : Option (Int32 × eW) := (eChk a1 24 (eChk a1 24 ((f_mm_prefOf a1 w).bind fun p1 => (if p1.1 ≤ ((w.1 2 (Int32.toNatClampNeg a1)) * (w.1 7 (Int32.toNatClampNeg a1))) then (some (((w.1 2 (Int32.toNatClampNeg a1)) * (w.1 7 (Int32.toNatClampNeg a1))), p1.2)) else ((f_mm_prefOf a1 p1.2).bind fun p2 => (some (p2.1, p2.2)))))))
noncomputable def K_mm_topOf {ρ : Type} : eF ρ := fun as w k => match as with
  | [.ref r0, .int a1] => bif Nat.beq r0 24 then (f_mm_topOf a1 w).bind (fun p => k (some (.int p.1)) p.2) else none
  | _ => none
section
variable {p : Program} {l : Launch} {e : Env} {s : State} {m : MethodId} {args : Array Value} {below : List Frame} {meth : Method} {c : Code} {ad : Nat → Nat} {D : va_G} {cA : Nat → ClassId}
theorem lk_mm_topOf : ∀ q ∈ rs_mm_topOf, eLnk { frames := 2, cells := 0, slots := 0, locals := 42 } vwCl (eWd yX12_topOf cX12_topOf 3 (some .int)) SSm SHm.length RX12 q.1 q.2 := List.forall_mem_cons.mpr ⟨lkX12_16 eTb_wd, List.forall_mem_cons.mpr ⟨lkX12_31 eTb_wd, List.forall_mem_cons.mpr ⟨trivial, fun _ h => absurd h List.not_mem_nil⟩⟩⟩
theorem hc_mm_topOf {x : Int32 × eW} : ∀ q ∈ rs_mm_topOf, eHc l { frames := 2, cells := 0, slots := 0, locals := 42 } ad D cA vwCl SHm SSm (eWd yX12_topOf cX12_topOf 3 (some .int)) RX12 cs_mm_topOf x q := List.forall_mem_cons.mpr ⟨trivial, List.forall_mem_cons.mpr ⟨trivial, List.forall_mem_cons.mpr ⟨(fun as w k h => let ⟨v, w2, h1, h2⟩ := ok_mm_prefOf as w k x h; ⟨v, w2, h1, eCal_of h2 ⟨rfl, rfl⟩ hdX12_prefOf (gvX12_120 eTb_wd)⟩), fun _ h => absurd h List.not_mem_nil⟩⟩⟩
set_option maxRecDepth 100000 in
set_option maxHeartbeats 4000000 in
theorem go_mm_topOf (hcx : eCx p { frames := 2, cells := 0, slots := 0, locals := 42 } s m args meth c cX12_topOf RX12 3 ad D cA vwCl SHm SSm (eWd yX12_topOf cX12_topOf 3 (some .int)) (some .int)) (a1 : Int32) (w : eW) (x : Int32 × eW) (h : f_mm_topOf a1 w = some x) : eGq p l e { frames := 2, cells := 0, slots := 0, locals := 42 } s m args below meth c 3 ad D cA vwCl SHm rI x 0 (eEnt [.ref 24, .int a1]) [] w := by
  have h : eRun SHm SSm 3 rs_mm_topOf (eCs cs_mm_topOf) rI CX12_topOf [] (fun pc L st w => none) 22 true 0 [some (.ref 24), some (.int a1), none] [] w = some x := h
  refine eGo.wk (eRun_go hcx (eLnk_all lk_mm_topOf) (eHc_all hc_mm_topOf) rI_ok dcX12_topOf [] _ (fun pc L st w hK => ?_) 22 true 0 _ _ w h) (eLe_wk ⟨rfl, rfl, trivial⟩)
  cases hK
end
set_option maxRecDepth 100000 in
set_option maxHeartbeats 4000000 in
theorem ok_mm_topOf {l : Launch} {ad : Nat → Nat} {D : va_G} {cA : Nat → ClassId} {ρ : Type} (as : List Value) (w : eW) (k : Option Value → eW → Option ρ) (x : ρ) (h : K_mm_topOf as w k = some x) : ∃ (v : Option Value) (w2 : eW), k v w2 = some x ∧ eMet l ad D cA vwCl SHm SSm yX12_topOf (eWd yX12_topOf cX12_topOf 3 (some .int)) { frames := 2, cells := 0, slots := 0, locals := 42 } as w v w2 := by
  unfold K_mm_topOf at h
  split at h
  · rename_i r0 a1
    obtain ⟨h1, h5⟩ := eBif h
    clear h
    have h := h5
    clear h5
    have h1 := Nat.eq_of_beq_eq_true h1
    subst h1
    obtain ⟨q, h2, h3⟩ := Option.bind_eq_some_iff.mp h
    exact ⟨_, _, h3, eMet_of (by decide +kernel) rfl (by simp [eCat, Value.category]) rI_ret (fun p e s m args below meth c hcx => go_mm_topOf hcx a1 w q h2)⟩
  · cases h
def CX12_layEdges : eCo := [[some (.aload_n 0), some (.iconst 0), some (.putfield 256), none, none, some (.aload_n 0), some (.lconst 0), some (.lconst 1), some (.invokevirtual 259), none, none, some (.iconst 0), some (.istore_n 1), some (.iload_n 1), some (.aload_n 0), some (.getfield 98)],
  [none, none, some (.if_icmp .ge 180), none, none, some (.aload_n 0), some (.getfield 7), none, none, some (.iload_n 1), some (.iaload), some (.iconst 1), some (.if_icmp .ne 22), none, none, some (.aload_n 0)],
  [some (.ldc2_w 263), none, none, some (.aload_n 0), some (.getfield 16), none, none, some (.iload_n 1), some (.iaload), some (.i2l), some (.lmul), some (.lconst 1), some (.invokevirtual 259), none, none, some (.goto 145)],
  [none, none, some (.aload_n 0), some (.getfield 7), none, none, some (.iload_n 1), some (.iaload), some (.iconst 2), some (.if_icmp .ne 43), none, none, some (.aload_n 0), some (.getfield 28), none, none],
  [some (.iload_n 1), some (.iaload), some (.ifCond .ne 34), none, none, some (.aload_n 0), some (.getfield 244), none, none, some (.ifCond .ne 27), none, none, some (.aload_n 0), some (.ldc2_w 263), none, none],
  [some (.aload_n 0), some (.iload_n 1), some (.invokevirtual 120), none, none, some (.i2l), some (.lmul), some (.aload_n 0), some (.getfield 25), none, none, some (.iload_n 1), some (.iaload), some (.i2l), some (.invokevirtual 259), none],
  [none, some (.goto 95), none, none, some (.aload_n 0), some (.getfield 7), none, none, some (.iload_n 1), some (.iaload), some (.iconst 2), some (.if_icmp .ne 85), none, none, some (.aload_n 0), some (.getfield 28)],
  [none, none, some (.iload_n 1), some (.iaload), some (.iconst 1), some (.if_icmp .ne 75), none, none, some (.aload_n 0), some (.getfield 31), none, none, some (.iload_n 1), some (.iaload), some (.ifCond .lt 66), none],
  [none, some (.aload_n 0), some (.iload_n 1), some (.invokevirtual 253), none, none, some (.ifCond .ne 58), none, none, some (.aload_n 0), some (.ldc2_w 263), none, none, some (.aload_n 0), some (.iload_n 1), some (.invokevirtual 265)],
  [none, none, some (.aload_n 0), some (.iload_n 1), some (.invokevirtual 120), none, none, some (.isub), some (.i2l), some (.lmul), some (.aload_n 0), some (.getfield 25), none, none, some (.iload_n 1), some (.iaload)],
  [some (.i2l), some (.invokevirtual 259), none, none, some (.aload_n 0), some (.getfield 244), none, none, some (.ifCond .ne 24), none, none, some (.aload_n 0), some (.ldc2_w 263), none, none, some (.aload_n 0)],
  [some (.iload_n 1), some (.invokevirtual 265), none, none, some (.i2l), some (.lmul), some (.aload_n 0), some (.getfield 25), none, none, some (.iload_n 1), some (.iaload), some (.i2l), some (.invokevirtual 259), none, none],
  [some (.iinc 1 1), none, none, some (.goto (-182)), none, none, some (.return_)]]
theorem dcX12_layEdges : eDec cX12_layEdges CX12_layEdges := eDec_of (by decide +kernel)
def rs_mm_layEdges : List (Nat × eR) := [(7, (0, 11, 5, 2)), (16, (0, 11, 7, 2)), (25, (0, 11, 10, 2)), (28, (0, 11, 11, 2)), (31, (0, 11, 12, 2)), (98, (0, 11, 1, 0)), (120, (1, 1, 1, 11)), (244, (0, 11, 36, 3)), (253, (1, 2, 1, 11)), (256, (0, 11, 34, 0)), (259, (1, 0, 2, 11)), (263, (3, 0, 0, 100)), (265, (1, 3, 1, 11))]
noncomputable def cs_mm_layEdges : List (eF (eW)) := [K_mm_edge, K_mm_prefOf, K_mm_isTurned, K_mm_topOf]
noncomputable def f_mm_layEdges_J100 (k13 : Int32 → eW → Option (eW)) (a1 : Int32) (w : eW) : Option (eW) := (eChk a1 24 (if ¬ (w.1 0 (Int32.toNatClampNeg a1)) = (2 : Int32) then (k13 (a1 + (1 : Int32)) w) else (eChk a1 24 (if ¬ (w.1 6 (Int32.toNatClampNeg a1)) = (1 : Int32) then (k13 (a1 + (1 : Int32)) w) else (eChk a1 24 (if (w.1 7 (Int32.toNatClampNeg a1)) < 0 then (k13 (a1 + (1 : Int32)) w) else ((f_mm_isTurned a1 w).bind fun p5 => (if ¬ p5.1 = 0 then (k13 (a1 + (1 : Int32)) p5.2) else ((f_mm_topOf a1 p5.2).bind fun p6 => ((f_mm_prefOf a1 p6.2).bind fun p7 => (eChk a1 24 ((f_mm_edge ((100 : Int64) * (((p6.1 - p7.1)).toInt64)) (((p7.2.1 5 (Int32.toNatClampNeg a1))).toInt64) p7.2).bind fun w8 => (if ¬ (w8.1 24 36) = 0 then (k13 (a1 + (1 : Int32)) w8) else ((f_mm_topOf a1 w8).bind fun p9 => (eChk a1 24 ((f_mm_edge ((100 : Int64) * ((p9.1).toInt64)) (((p9.2.1 5 (Int32.toNatClampNeg a1))).toInt64) p9.2).bind fun w10 => (k13 (a1 + (1 : Int32)) w10)))))))))))))))))
noncomputable def f_mm_layEdges_L13 : Nat → Int32 → eW → Option (eW)
  | 0, _, _ => none
  | n + 1, a1, w => (if (w.1 24 1) ≤ a1 then (some w) else (eChk a1 24 (if ¬ (w.1 0 (Int32.toNatClampNeg a1)) = (1 : Int32) then (eChk a1 24 (if ¬ (w.1 0 (Int32.toNatClampNeg a1)) = (2 : Int32) then (f_mm_layEdges_J100 (f_mm_layEdges_L13 n) a1 w) else (eChk a1 24 (if ¬ (w.1 6 (Int32.toNatClampNeg a1)) = 0 then (f_mm_layEdges_J100 (f_mm_layEdges_L13 n) a1 w) else (if ¬ (w.1 24 36) = 0 then (f_mm_layEdges_J100 (f_mm_layEdges_L13 n) a1 w) else ((f_mm_prefOf a1 w).bind fun p2 => (eChk a1 24 ((f_mm_edge ((100 : Int64) * ((p2.1).toInt64)) (((p2.2.1 5 (Int32.toNatClampNeg a1))).toInt64) p2.2).bind fun w3 => (f_mm_layEdges_L13 n (a1 + (1 : Int32)) w3))))))))) else (eChk a1 24 ((f_mm_edge ((100 : Int64) * (((w.1 2 (Int32.toNatClampNeg a1))).toInt64)) (1 : Int64) w).bind fun w4 => (f_mm_layEdges_L13 n (a1 + (1 : Int32)) w4))))))
noncomputable def f_mm_layEdges (w : eW) : Option (eW) := ((f_mm_edge (0 : Int64) (1 : Int64) (eU1 w 24 34 (0 : Int32))).bind fun w1 => (f_mm_layEdges_L13 eFu (0 : Int32) w1))
noncomputable def K_mm_layEdges {ρ : Type} : eF ρ := fun as w k => match as with
  | [.ref r0] => bif Nat.beq r0 24 then (f_mm_layEdges w).bind (fun w => k none w) else none
  | _ => none
section
variable {p : Program} {l : Launch} {e : Env} {s : State} {m : MethodId} {args : Array Value} {below : List Frame} {meth : Method} {c : Code} {ad : Nat → Nat} {D : va_G} {cA : Nat → ClassId}
theorem lk_mm_layEdges : ∀ q ∈ rs_mm_layEdges, eLnk { frames := 5, cells := 0, slots := 0, locals := 106 } vwCl (eWd yX12_layEdges cX12_layEdges 2 none) SSm SHm.length RX12 q.1 q.2 := List.forall_mem_cons.mpr ⟨lkX12_7 eTb_wd, List.forall_mem_cons.mpr ⟨lkX12_16 eTb_wd, List.forall_mem_cons.mpr ⟨lkX12_25 eTb_wd, List.forall_mem_cons.mpr ⟨lkX12_28 eTb_wd, List.forall_mem_cons.mpr ⟨lkX12_31 eTb_wd, List.forall_mem_cons.mpr ⟨lkX12_98 eTb_wd, List.forall_mem_cons.mpr ⟨trivial, List.forall_mem_cons.mpr ⟨lkX12_244 eTb_wd, List.forall_mem_cons.mpr ⟨trivial, List.forall_mem_cons.mpr ⟨lkX12_256 eTb_wd, List.forall_mem_cons.mpr ⟨trivial, List.forall_mem_cons.mpr ⟨lkX12_263 eTb_wd, List.forall_mem_cons.mpr ⟨trivial, fun _ h => absurd h List.not_mem_nil⟩⟩⟩⟩⟩⟩⟩⟩⟩⟩⟩⟩⟩
theorem hc_mm_layEdges {x : eW} : ∀ q ∈ rs_mm_layEdges, eHc l { frames := 5, cells := 0, slots := 0, locals := 106 } ad D cA vwCl SHm SSm (eWd yX12_layEdges cX12_layEdges 2 none) RX12 cs_mm_layEdges x q := List.forall_mem_cons.mpr ⟨trivial, List.forall_mem_cons.mpr ⟨trivial, List.forall_mem_cons.mpr ⟨trivial, List.forall_mem_cons.mpr ⟨trivial, List.forall_mem_cons.mpr ⟨trivial, List.forall_mem_cons.mpr ⟨trivial, List.forall_mem_cons.mpr ⟨(fun as w k h => let ⟨v, w2, h1, h2⟩ := ok_mm_prefOf as w k x h; ⟨v, w2, h1, eCal_of h2 ⟨rfl, rfl⟩ hdX12_prefOf (gvX12_120 eTb_wd)⟩), List.forall_mem_cons.mpr ⟨trivial, List.forall_mem_cons.mpr ⟨(fun as w k h => let ⟨v, w2, h1, h2⟩ := ok_mm_isTurned as w k x h; ⟨v, w2, h1, eCal_of h2 ⟨rfl, rfl⟩ hdX12_isTurned (gvX12_253 eTb_wd)⟩), List.forall_mem_cons.mpr ⟨trivial, List.forall_mem_cons.mpr ⟨(fun as w k h => let ⟨v, w2, h1, h2⟩ := ok_mm_edge as w k x h; ⟨v, w2, h1, eCal_of h2 ⟨rfl, rfl⟩ hdX12_edge (gvX12_259 eTb_wd)⟩), List.forall_mem_cons.mpr ⟨trivial, List.forall_mem_cons.mpr ⟨(fun as w k h => let ⟨v, w2, h1, h2⟩ := ok_mm_topOf as w k x h; ⟨v, w2, h1, eCal_of h2 ⟨rfl, rfl⟩ hdX12_topOf (gvX12_265 eTb_wd)⟩), fun _ h => absurd h List.not_mem_nil⟩⟩⟩⟩⟩⟩⟩⟩⟩⟩⟩⟩⟩
noncomputable def kk_mm_layEdges_100 (k13 : Int32 → eW → Option (eW)) : eK (eW) := fun pc L st w => bif Nat.beq pc 13 then (lR L 0 24 ((lI L 1).bind fun a1 => sE st (k13 a1 w))) else none
set_option maxRecDepth 100000 in
set_option maxHeartbeats 4000000 in
theorem go_mm_layEdges_J100 (hcx : eCx p { frames := 5, cells := 0, slots := 0, locals := 106 } s m args meth c cX12_layEdges RX12 2 ad D cA vwCl SHm SSm (eWd yX12_layEdges cX12_layEdges 2 none) (none)) {x : eW} (k13 : Int32 → eW → Option (eW)) (hk13 : ∀ (a1 : Int32) (w : eW), k13 a1 w = some x → eGq p l e { frames := 5, cells := 0, slots := 0, locals := 106 } s m args below meth c 2 ad D cA vwCl SHm rV x 13 [some (.ref 24), some (.int a1)] [] w) : ∀ (a1 : Int32) (w : eW), f_mm_layEdges_J100 k13 a1 w = some x → eGq p l e { frames := 5, cells := 0, slots := 0, locals := 106 } s m args below meth c 2 ad D cA vwCl SHm rV x 100 [some (.ref 24), some (.int a1)] [] w := by
  intro a1 w h
  have h : eRun SHm SSm 2 rs_mm_layEdges (eCs cs_mm_layEdges) rV CX12_layEdges [13, 100] (kk_mm_layEdges_100 k13) 59 true 100 [some (.ref 24), some (.int a1)] [] w = some x := h
  refine eRun_go hcx (eLnk_all lk_mm_layEdges) (eHc_all hc_mm_layEdges) rV_ok dcX12_layEdges [13, 100] _ (fun pc L st w hK => ?_) 59 true 100 _ _ w h
  unfold kk_mm_layEdges_100 at hK
  rcases eCut hK with ⟨hpc, hK⟩ | hK
  · subst hpc
    obtain ⟨e0, hK_1⟩ := lR_some hK
    obtain ⟨a1, e1, hK_2⟩ := lI_some hK_1
    obtain ⟨hst9, hK_3⟩ := sE_some hK_2
    subst hst9
    exact eGo.wk (hk13 a1 w hK_3) (eLe_wk ⟨e0, e1, trivial⟩)
  cases hK
noncomputable def kk_mm_layEdges_13 (n : Nat) : eK (eW) := fun pc L st w => bif Nat.beq pc 100 then (lR L 0 24 ((lI L 1).bind fun a1 => sE st (f_mm_layEdges_J100 (f_mm_layEdges_L13 n) a1 w))) else (bif Nat.beq pc 13 then (lR L 0 24 ((lI L 1).bind fun a1 => sE st (f_mm_layEdges_L13 n a1 w))) else none)
set_option maxRecDepth 100000 in
set_option maxHeartbeats 4000000 in
theorem go_mm_layEdges_L13 (hcx : eCx p { frames := 5, cells := 0, slots := 0, locals := 106 } s m args meth c cX12_layEdges RX12 2 ad D cA vwCl SHm SSm (eWd yX12_layEdges cX12_layEdges 2 none) (none)) {x : eW} : ∀ (n : Nat) (a1 : Int32) (w : eW), f_mm_layEdges_L13  n a1 w = some x → eGq p l e { frames := 5, cells := 0, slots := 0, locals := 106 } s m args below meth c 2 ad D cA vwCl SHm rV x 13 [some (.ref 24), some (.int a1)] [] w := by
  intro n
  induction n with
  | zero => intro a1 w h; exact nomatch (show (none : Option (eW)) = some x from h)
  | succ n ih =>
    intro a1 w h
    have h : eRun SHm SSm 2 rs_mm_layEdges (eCs cs_mm_layEdges) rV CX12_layEdges [13, 100] (kk_mm_layEdges_13  n) 43 true 13 [some (.ref 24), some (.int a1)] [] w = some x := h
    refine eRun_go hcx (eLnk_all lk_mm_layEdges) (eHc_all hc_mm_layEdges) rV_ok dcX12_layEdges [13, 100] _ (fun pc L st w hK => ?_) 43 true 13 _ _ w h
    unfold kk_mm_layEdges_13 at hK
    rcases eCut hK with ⟨hpc, hK⟩ | hK
    · subst hpc
      obtain ⟨e0, hK_1⟩ := lR_some hK
      obtain ⟨a1, e1, hK_2⟩ := lI_some hK_1
      obtain ⟨hst9, hK_3⟩ := sE_some hK_2
      subst hst9
      exact eGo.wk (go_mm_layEdges_J100 hcx (f_mm_layEdges_L13 n) ih a1 w hK_3) (eLe_wk ⟨e0, e1, trivial⟩)
    rcases eCut hK with ⟨hpc, hK⟩ | hK
    · subst hpc
      obtain ⟨e0, hK_1⟩ := lR_some hK
      obtain ⟨a1, e1, hK_2⟩ := lI_some hK_1
      obtain ⟨hst9, hK_3⟩ := sE_some hK_2
      subst hst9
      exact eGo.wk (ih a1 w hK_3) (eLe_wk ⟨e0, e1, trivial⟩)
    cases hK
set_option maxRecDepth 100000 in
set_option maxHeartbeats 4000000 in
theorem go_mm_layEdges (hcx : eCx p { frames := 5, cells := 0, slots := 0, locals := 106 } s m args meth c cX12_layEdges RX12 2 ad D cA vwCl SHm SSm (eWd yX12_layEdges cX12_layEdges 2 none) (none)) (w : eW) (x : eW) (h : f_mm_layEdges w = some x) : eGq p l e { frames := 5, cells := 0, slots := 0, locals := 106 } s m args below meth c 2 ad D cA vwCl SHm rV x 0 (eEnt [.ref 24]) [] w := by
  have h : eRun SHm SSm 2 rs_mm_layEdges (eCs cs_mm_layEdges) rV CX12_layEdges [13, 100] (fun pc L st w => bif Nat.beq pc 13 then (lR L 0 24 ((lI L 1).bind fun a1 => sE st (f_mm_layEdges_L13 eFu a1 w))) else none) 12 true 0 [some (.ref 24), none] [] w = some x := h
  refine eGo.wk (eRun_go hcx (eLnk_all lk_mm_layEdges) (eHc_all hc_mm_layEdges) rV_ok dcX12_layEdges [13, 100] _ (fun pc L st w hK => ?_) 12 true 0 _ _ w h) (eLe_wk ⟨rfl, trivial⟩)
  rcases eCut hK with ⟨hpc, hK⟩ | hK
  · subst hpc
    obtain ⟨e0, hK_1⟩ := lR_some hK
    obtain ⟨a1, e1, hK_2⟩ := lI_some hK_1
    obtain ⟨hst9, hK_3⟩ := sE_some hK_2
    subst hst9
    exact eGo.wk (go_mm_layEdges_L13 hcx  eFu a1 w hK_3) (eLe_wk ⟨e0, e1, trivial⟩)
  cases hK
end
set_option maxRecDepth 100000 in
set_option maxHeartbeats 4000000 in
theorem ok_mm_layEdges {l : Launch} {ad : Nat → Nat} {D : va_G} {cA : Nat → ClassId} {ρ : Type} (as : List Value) (w : eW) (k : Option Value → eW → Option ρ) (x : ρ) (h : K_mm_layEdges as w k = some x) : ∃ (v : Option Value) (w2 : eW), k v w2 = some x ∧ eMet l ad D cA vwCl SHm SSm yX12_layEdges (eWd yX12_layEdges cX12_layEdges 2 none) { frames := 5, cells := 0, slots := 0, locals := 106 } as w v w2 := by
  unfold K_mm_layEdges at h
  split at h
  · rename_i r0
    obtain ⟨h1, h5⟩ := eBif h
    clear h
    have h := h5
    clear h5
    have h1 := Nat.eq_of_beq_eq_true h1
    subst h1
    obtain ⟨q, h2, h3⟩ := Option.bind_eq_some_iff.mp h
    exact ⟨_, _, h3, eMet_of (by decide +kernel) rfl (by simp [eCat, Value.category]) rV_ret (fun p e s m args below meth c hcx => go_mm_layEdges hcx w q h2)⟩
  · cases h
