def CX2_totalAt : eCo := [[some (.iload_n 1), some (.ifCond .lt 11), none, none, some (.iload_n 1), some (.aload_n 0), some (.getfield 47), none, none, some (.if_icmp .lt 5), none, none, some (.lconst 0), some (.lreturn), some (.aload_n 0), some (.getfield 24)],
  [none, none, some (.iload_n 1), some (.iaload), some (.istore_n 2), some (.aload_n 0), some (.getfield 54), none, none, some (.aload_n 0), some (.getfield 34), none, none, some (.iload_n 2), some (.iaload), some (.i2l)],
  [some (.lmul), some (.aload_n 0), some (.getfield 58), none, none, some (.aload_n 0), some (.getfield 31), none, none, some (.iload_n 2), some (.iaload), some (.i2l), some (.lmul), some (.ladd), some (.lreturn)]]
theorem dcX2_totalAt : eDec cX2_totalAt CX2_totalAt := eDec_of (by decide +kernel)
def rs_cu_totalAt : List (Nat × eR) := [(24, (0, 2, 8, 2)), (31, (0, 2, 10, 2)), (34, (0, 2, 11, 2)), (47, (0, 2, 7, 0)), (54, (0, 2, 5, 1)), (58, (0, 2, 6, 1))]
noncomputable def cs_cu_totalAt : List (eF (Int64 × eW)) := []
noncomputable def f_cu_totalAt (a1 : Int32) (w : eW) : Option (Int64 × eW) := (if a1 < 0 then (some ((0 : Int64), w)) else (if a1 < (w.1 19 7) then (eChk a1 24 (eChk (w.1 13 (Int32.toNatClampNeg a1)) 24 (eChk (w.1 13 (Int32.toNatClampNeg a1)) 24 (some ((((w.2 19 5) * (((w.1 16 (Int32.toNatClampNeg (w.1 13 (Int32.toNatClampNeg a1))))).toInt64)) + ((w.2 19 6) * (((w.1 15 (Int32.toNatClampNeg (w.1 13 (Int32.toNatClampNeg a1))))).toInt64))), w))))) else (some ((0 : Int64), w))))
noncomputable def K_cu_totalAt {ρ : Type} : eF ρ := fun as w k => match as with
  | [.ref r0, .int a1] => bif Nat.beq r0 19 then (f_cu_totalAt a1 w).bind (fun p => k (some (.long p.1)) p.2) else none
  | _ => none
section
variable {p : Program} {l : Launch} {e : Env} {s : State} {m : MethodId} {args : Array Value} {below : List Frame} {meth : Method} {c : Code} {ad : Nat → Nat} {D : va_G} {cA : Nat → ClassId}
theorem lk_cu_totalAt : ∀ q ∈ rs_cu_totalAt, eLnk { frames := 0, cells := 0, slots := 0, locals := 0 } vwCl (eWd yX2_totalAt cX2_totalAt 3 (some .long)) SSc SHc.length RX2 q.1 q.2 := List.forall_mem_cons.mpr ⟨lkX2_24 eTb_wd, List.forall_mem_cons.mpr ⟨lkX2_31 eTb_wd, List.forall_mem_cons.mpr ⟨lkX2_34 eTb_wd, List.forall_mem_cons.mpr ⟨lkX2_47 eTb_wd, List.forall_mem_cons.mpr ⟨lkX2_54 eTb_wd, List.forall_mem_cons.mpr ⟨lkX2_58 eTb_wd, fun _ h => absurd h List.not_mem_nil⟩⟩⟩⟩⟩⟩
theorem hc_cu_totalAt {x : Int64 × eW} : ∀ q ∈ rs_cu_totalAt, eHc l { frames := 0, cells := 0, slots := 0, locals := 0 } ad D cA vwCl SHc SSc (eWd yX2_totalAt cX2_totalAt 3 (some .long)) RX2 cs_cu_totalAt x q := List.forall_mem_cons.mpr ⟨trivial, List.forall_mem_cons.mpr ⟨trivial, List.forall_mem_cons.mpr ⟨trivial, List.forall_mem_cons.mpr ⟨trivial, List.forall_mem_cons.mpr ⟨trivial, List.forall_mem_cons.mpr ⟨trivial, fun _ h => absurd h List.not_mem_nil⟩⟩⟩⟩⟩⟩
set_option maxRecDepth 100000 in
set_option maxHeartbeats 4000000 in
theorem go_cu_totalAt (hcx : eCx p { frames := 0, cells := 0, slots := 0, locals := 0 } s m args meth c cX2_totalAt RX2 3 ad D cA vwCl SHc SSc (eWd yX2_totalAt cX2_totalAt 3 (some .long)) (some .long)) (a1 : Int32) (w : eW) (x : Int64 × eW) (h : f_cu_totalAt a1 w = some x) : eGq p l e { frames := 0, cells := 0, slots := 0, locals := 0 } s m args below meth c 3 ad D cA vwCl SHc rJ x 0 (eEnt [.ref 19, .int a1]) [] w := by
  have h : eRun SHc SSc 3 rs_cu_totalAt (eCs cs_cu_totalAt) rJ CX2_totalAt [] (fun pc L st w => none) 31 true 0 [some (.ref 19), some (.int a1), none] [] w = some x := h
  refine eGo.wk (eRun_go hcx (eLnk_all lk_cu_totalAt) (eHc_all hc_cu_totalAt) rJ_ok dcX2_totalAt [] _ (fun pc L st w hK => ?_) 31 true 0 _ _ w h) (eLe_wk ⟨rfl, rfl, trivial⟩)
  cases hK
end
set_option maxRecDepth 100000 in
set_option maxHeartbeats 4000000 in
theorem ok_cu_totalAt {l : Launch} {ad : Nat → Nat} {D : va_G} {cA : Nat → ClassId} {ρ : Type} (as : List Value) (w : eW) (k : Option Value → eW → Option ρ) (x : ρ) (h : K_cu_totalAt as w k = some x) : ∃ (v : Option Value) (w2 : eW), k v w2 = some x ∧ eMet l ad D cA vwCl SHc SSc yX2_totalAt (eWd yX2_totalAt cX2_totalAt 3 (some .long)) { frames := 0, cells := 0, slots := 0, locals := 0 } as w v w2 := by
  unfold K_cu_totalAt at h
  split at h
  · rename_i r0 a1
    obtain ⟨h1, h5⟩ := eBif h
    clear h
    have h := h5
    clear h5
    have h1 := Nat.eq_of_beq_eq_true h1
    subst h1
    obtain ⟨q, h2, h3⟩ := Option.bind_eq_some_iff.mp h
    exact ⟨_, _, h3, eMet_of (by decide +kernel) rfl (by simp [eCat, Value.category]) rJ_ret (fun p e s m args below meth c hcx => go_cu_totalAt hcx a1 w q h2)⟩
  · cases h
def CX2_ratioAt : eCo := [[some (.iload_n 1), some (.ifCond .lt 25), none, none, some (.iload_n 1), some (.aload_n 0), some (.getfield 47), none, none, some (.if_icmp .ge 17), none, none, some (.aload_n 0), some (.getfield 34), none, none],
  [some (.aload_n 0), some (.getfield 24), none, none, some (.iload_n 1), some (.iaload), some (.iaload), some (.goto 4), none, none, some (.iconst 1), some (.ireturn)]]
theorem dcX2_ratioAt : eDec cX2_ratioAt CX2_ratioAt := eDec_of (by decide +kernel)
def rs_cu_ratioAt : List (Nat × eR) := [(24, (0, 2, 8, 2)), (34, (0, 2, 11, 2)), (47, (0, 2, 7, 0))]
noncomputable def cs_cu_ratioAt : List (eF (Int32 × eW)) := []
noncomputable def f_cu_ratioAt (a1 : Int32) (w : eW) : Option (Int32 × eW) := (if a1 < 0 then (some ((1 : Int32), w)) else (if (w.1 19 7) ≤ a1 then (some ((1 : Int32), w)) else (eChk a1 24 (eChk (w.1 13 (Int32.toNatClampNeg a1)) 24 (some ((w.1 16 (Int32.toNatClampNeg (w.1 13 (Int32.toNatClampNeg a1)))), w))))))
noncomputable def K_cu_ratioAt {ρ : Type} : eF ρ := fun as w k => match as with
  | [.ref r0, .int a1] => bif Nat.beq r0 19 then (f_cu_ratioAt a1 w).bind (fun p => k (some (.int p.1)) p.2) else none
  | _ => none
section
variable {p : Program} {l : Launch} {e : Env} {s : State} {m : MethodId} {args : Array Value} {below : List Frame} {meth : Method} {c : Code} {ad : Nat → Nat} {D : va_G} {cA : Nat → ClassId}
theorem lk_cu_ratioAt : ∀ q ∈ rs_cu_ratioAt, eLnk { frames := 0, cells := 0, slots := 0, locals := 0 } vwCl (eWd yX2_ratioAt cX2_ratioAt 2 (some .int)) SSc SHc.length RX2 q.1 q.2 := List.forall_mem_cons.mpr ⟨lkX2_24 eTb_wd, List.forall_mem_cons.mpr ⟨lkX2_34 eTb_wd, List.forall_mem_cons.mpr ⟨lkX2_47 eTb_wd, fun _ h => absurd h List.not_mem_nil⟩⟩⟩
theorem hc_cu_ratioAt {x : Int32 × eW} : ∀ q ∈ rs_cu_ratioAt, eHc l { frames := 0, cells := 0, slots := 0, locals := 0 } ad D cA vwCl SHc SSc (eWd yX2_ratioAt cX2_ratioAt 2 (some .int)) RX2 cs_cu_ratioAt x q := List.forall_mem_cons.mpr ⟨trivial, List.forall_mem_cons.mpr ⟨trivial, List.forall_mem_cons.mpr ⟨trivial, fun _ h => absurd h List.not_mem_nil⟩⟩⟩
set_option maxRecDepth 100000 in
set_option maxHeartbeats 4000000 in
theorem go_cu_ratioAt (hcx : eCx p { frames := 0, cells := 0, slots := 0, locals := 0 } s m args meth c cX2_ratioAt RX2 2 ad D cA vwCl SHc SSc (eWd yX2_ratioAt cX2_ratioAt 2 (some .int)) (some .int)) (a1 : Int32) (w : eW) (x : Int32 × eW) (h : f_cu_ratioAt a1 w = some x) : eGq p l e { frames := 0, cells := 0, slots := 0, locals := 0 } s m args below meth c 2 ad D cA vwCl SHc rI x 0 (eEnt [.ref 19, .int a1]) [] w := by
  have h : eRun SHc SSc 2 rs_cu_ratioAt (eCs cs_cu_ratioAt) rI CX2_ratioAt [] (fun pc L st w => none) 17 true 0 [some (.ref 19), some (.int a1)] [] w = some x := h
  refine eGo.wk (eRun_go hcx (eLnk_all lk_cu_ratioAt) (eHc_all hc_cu_ratioAt) rI_ok dcX2_ratioAt [] _ (fun pc L st w hK => ?_) 17 true 0 _ _ w h) (eLe_wk ⟨rfl, rfl, trivial⟩)
  cases hK
end
set_option maxRecDepth 100000 in
set_option maxHeartbeats 4000000 in
theorem ok_cu_ratioAt {l : Launch} {ad : Nat → Nat} {D : va_G} {cA : Nat → ClassId} {ρ : Type} (as : List Value) (w : eW) (k : Option Value → eW → Option ρ) (x : ρ) (h : K_cu_ratioAt as w k = some x) : ∃ (v : Option Value) (w2 : eW), k v w2 = some x ∧ eMet l ad D cA vwCl SHc SSc yX2_ratioAt (eWd yX2_ratioAt cX2_ratioAt 2 (some .int)) { frames := 0, cells := 0, slots := 0, locals := 0 } as w v w2 := by
  unfold K_cu_ratioAt at h
  split at h
  · rename_i r0 a1
    obtain ⟨h1, h5⟩ := eBif h
    clear h
    have h := h5
    clear h5
    have h1 := Nat.eq_of_beq_eq_true h1
    subst h1
    obtain ⟨q, h2, h3⟩ := Option.bind_eq_some_iff.mp h
    exact ⟨_, _, h3, eMet_of (by decide +kernel) rfl (by simp [eCat, Value.category]) rI_ret (fun p e s m args below meth c hcx => go_cu_ratioAt hcx a1 w q h2)⟩
  · cases h
def CX2_take : eCo := [[some (.iload_n 1), some (.ifCond .lt 11), none, none, some (.iload_n 1), some (.aload_n 0), some (.getfield 47), none, none, some (.if_icmp .lt 4), none, none, some (.return_), some (.aload_n 0), some (.getfield 24), none],
  [none, some (.iload_n 1), some (.iaload), some (.istore_n 2), some (.aload_n 0), some (.getfield 28), none, none, some (.iload_n 2), some (.iaload), some (.istore_n 3), some (.iload_n 3), some (.ifCond .lt 11), none, none, some (.iload_n 3)],
  [some (.aload_n 0), some (.getfield 43), none, none, some (.if_icmp .lt 4), none, none, some (.return_), some (.aload_n 0), some (.getfield 18), none, none, some (.iload_n 3), some (.dup2), some (.laload), some (.aload_n 0)],
  [some (.getfield 37), none, none, some (.iload_n 2), some (.laload), some (.ladd), some (.lastore), some (.aload_n 0), some (.getfield 21), none, none, some (.iload_n 3), some (.dup2), some (.laload), some (.aload_n 0), some (.getfield 40)],
  [none, none, some (.iload_n 2), some (.laload), some (.ladd), some (.lastore), some (.aload_n 0), some (.dup), some (.getfield 54), none, none, some (.aload_n 0), some (.getfield 37), none, none, some (.iload_n 2)],
  [some (.laload), some (.ladd), some (.putfield 54), none, none, some (.aload_n 0), some (.dup), some (.getfield 58), none, none, some (.aload_n 0), some (.getfield 40), none, none, some (.iload_n 2), some (.laload)],
  [some (.ladd), some (.putfield 58), none, none, some (.return_)]]
theorem dcX2_take : eDec cX2_take CX2_take := eDec_of (by decide +kernel)
def rs_cu_take : List (Nat × eR) := [(18, (0, 2, 3, 2)), (21, (0, 2, 4, 2)), (24, (0, 2, 8, 2)), (28, (0, 2, 9, 2)), (37, (0, 2, 12, 2)), (40, (0, 2, 13, 2)), (43, (0, 2, 0, 0)), (47, (0, 2, 7, 0)), (54, (0, 2, 5, 1)), (58, (0, 2, 6, 1))]
noncomputable def cs_cu_take : List (eF (eW)) := []
noncomputable def f_cu_take (a1 : Int32) (w : eW) : Option (eW) := (if a1 < 0 then (some w) else (if a1 < (w.1 19 7) then (eChk a1 24 (eChk (w.1 13 (Int32.toNatClampNeg a1)) 24 (if (w.1 14 (Int32.toNatClampNeg (w.1 13 (Int32.toNatClampNeg a1)))) < 0 then (some w) else (if (w.1 14 (Int32.toNatClampNeg (w.1 13 (Int32.toNatClampNeg a1)))) < (w.1 19 0) then (eChk (w.1 14 (Int32.toNatClampNeg (w.1 13 (Int32.toNatClampNeg a1)))) 12 (eChk (w.1 13 (Int32.toNatClampNeg a1)) 24 (eChk (w.1 14 (Int32.toNatClampNeg (w.1 13 (Int32.toNatClampNeg a1)))) 12 (eChk (w.1 14 (Int32.toNatClampNeg (w.1 13 (Int32.toNatClampNeg a1)))) 12 (eChk (w.1 13 (Int32.toNatClampNeg a1)) 24 (eChk (w.1 14 (Int32.toNatClampNeg (w.1 13 (Int32.toNatClampNeg a1)))) 12 (eChk (w.1 13 (Int32.toNatClampNeg a1)) 24 (eChk (w.1 13 (Int32.toNatClampNeg a1)) 24 (some (eU2 (eU2 (eU2 (eU2 w 11 (Int32.toNatClampNeg (w.1 14 (Int32.toNatClampNeg (w.1 13 (Int32.toNatClampNeg a1))))) ((w.2 11 (Int32.toNatClampNeg (w.1 14 (Int32.toNatClampNeg (w.1 13 (Int32.toNatClampNeg a1)))))) + (w.2 17 (Int32.toNatClampNeg (w.1 13 (Int32.toNatClampNeg a1)))))) 12 (Int32.toNatClampNeg (w.1 14 (Int32.toNatClampNeg (w.1 13 (Int32.toNatClampNeg a1))))) ((w.2 12 (Int32.toNatClampNeg (w.1 14 (Int32.toNatClampNeg (w.1 13 (Int32.toNatClampNeg a1)))))) + (w.2 18 (Int32.toNatClampNeg (w.1 13 (Int32.toNatClampNeg a1)))))) 19 5 ((w.2 19 5) + (w.2 17 (Int32.toNatClampNeg (w.1 13 (Int32.toNatClampNeg a1)))))) 19 6 ((w.2 19 6) + (w.2 18 (Int32.toNatClampNeg (w.1 13 (Int32.toNatClampNeg a1))))))))))))))) else (some w))))) else (some w)))
noncomputable def K_cu_take {ρ : Type} : eF ρ := fun as w k => match as with
  | [.ref r0, .int a1] => bif Nat.beq r0 19 then (f_cu_take a1 w).bind (fun w => k none w) else none
  | _ => none
section
variable {p : Program} {l : Launch} {e : Env} {s : State} {m : MethodId} {args : Array Value} {below : List Frame} {meth : Method} {c : Code} {ad : Nat → Nat} {D : va_G} {cA : Nat → ClassId}
theorem lk_cu_take : ∀ q ∈ rs_cu_take, eLnk { frames := 0, cells := 0, slots := 0, locals := 0 } vwCl (eWd yX2_take cX2_take 4 none) SSc SHc.length RX2 q.1 q.2 := List.forall_mem_cons.mpr ⟨lkX2_18 eTb_wd, List.forall_mem_cons.mpr ⟨lkX2_21 eTb_wd, List.forall_mem_cons.mpr ⟨lkX2_24 eTb_wd, List.forall_mem_cons.mpr ⟨lkX2_28 eTb_wd, List.forall_mem_cons.mpr ⟨lkX2_37 eTb_wd, List.forall_mem_cons.mpr ⟨lkX2_40 eTb_wd, List.forall_mem_cons.mpr ⟨lkX2_43 eTb_wd, List.forall_mem_cons.mpr ⟨lkX2_47 eTb_wd, List.forall_mem_cons.mpr ⟨lkX2_54 eTb_wd, List.forall_mem_cons.mpr ⟨lkX2_58 eTb_wd, fun _ h => absurd h List.not_mem_nil⟩⟩⟩⟩⟩⟩⟩⟩⟩⟩
theorem hc_cu_take {x : eW} : ∀ q ∈ rs_cu_take, eHc l { frames := 0, cells := 0, slots := 0, locals := 0 } ad D cA vwCl SHc SSc (eWd yX2_take cX2_take 4 none) RX2 cs_cu_take x q := List.forall_mem_cons.mpr ⟨trivial, List.forall_mem_cons.mpr ⟨trivial, List.forall_mem_cons.mpr ⟨trivial, List.forall_mem_cons.mpr ⟨trivial, List.forall_mem_cons.mpr ⟨trivial, List.forall_mem_cons.mpr ⟨trivial, List.forall_mem_cons.mpr ⟨trivial, List.forall_mem_cons.mpr ⟨trivial, List.forall_mem_cons.mpr ⟨trivial, List.forall_mem_cons.mpr ⟨trivial, fun _ h => absurd h List.not_mem_nil⟩⟩⟩⟩⟩⟩⟩⟩⟩⟩
set_option maxRecDepth 100000 in
set_option maxHeartbeats 4000000 in
theorem go_cu_take (hcx : eCx p { frames := 0, cells := 0, slots := 0, locals := 0 } s m args meth c cX2_take RX2 4 ad D cA vwCl SHc SSc (eWd yX2_take cX2_take 4 none) (none)) (a1 : Int32) (w : eW) (x : eW) (h : f_cu_take a1 w = some x) : eGq p l e { frames := 0, cells := 0, slots := 0, locals := 0 } s m args below meth c 4 ad D cA vwCl SHc rV x 0 (eEnt [.ref 19, .int a1]) [] w := by
  have h : eRun SHc SSc 4 rs_cu_take (eCs cs_cu_take) rV CX2_take [] (fun pc L st w => none) 65 true 0 [some (.ref 19), some (.int a1), none, none] [] w = some x := h
  refine eGo.wk (eRun_go hcx (eLnk_all lk_cu_take) (eHc_all hc_cu_take) rV_ok dcX2_take [] _ (fun pc L st w hK => ?_) 65 true 0 _ _ w h) (eLe_wk ⟨rfl, rfl, trivial⟩)
  cases hK
end
set_option maxRecDepth 100000 in
set_option maxHeartbeats 4000000 in
theorem ok_cu_take {l : Launch} {ad : Nat → Nat} {D : va_G} {cA : Nat → ClassId} {ρ : Type} (as : List Value) (w : eW) (k : Option Value → eW → Option ρ) (x : ρ) (h : K_cu_take as w k = some x) : ∃ (v : Option Value) (w2 : eW), k v w2 = some x ∧ eMet l ad D cA vwCl SHc SSc yX2_take (eWd yX2_take cX2_take 4 none) { frames := 0, cells := 0, slots := 0, locals := 0 } as w v w2 := by
  unfold K_cu_take at h
  split at h
  · rename_i r0 a1
    obtain ⟨h1, h5⟩ := eBif h
    clear h
    have h := h5
    clear h5
    have h1 := Nat.eq_of_beq_eq_true h1
    subst h1
    obtain ⟨q, h2, h3⟩ := Option.bind_eq_some_iff.mp h
    exact ⟨_, _, h3, eMet_of (by decide +kernel) rfl (by simp [eCat, Value.category]) rV_ret (fun p e s m args below meth c hcx => go_cu_take hcx a1 w q h2)⟩
  · cases h
def CX2_sweep : eCo := [[some (.aload_n 0), some (.invokevirtual 61), none, none, some (.iconst 0), some (.istore 6), none, some (.iload 6), none, some (.aload_n 0), some (.getfield 47), none, none, some (.if_icmp .ge 58), none, none],
  [some (.aload_n 0), some (.iload 6), none, some (.invokevirtual 64), none, none, some (.lload_n 3), some (.lmul), some (.lstore 7), none, some (.lload_n 1), some (.aload_n 0), some (.iload 6), none, some (.invokevirtual 68), none],
  [none, some (.i2l), some (.lmul), some (.lstore 9), none, some (.lload 7), none, some (.lload 9), none, some (.lcmp), some (.ifCond .gt 16), none, none, some (.lload 7), none, some (.lload 9)],
  [none, some (.lcmp), some (.ifCond .ne 9), none, none, some (.iload 5), none, some (.ifCond .ne 4), none, none, some (.return_), some (.aload_n 0), some (.iload 6), none, some (.invokevirtual 72), none],
  [none, some (.iinc 6 1), none, none, some (.goto (-61)), none, none, some (.return_)]]
theorem dcX2_sweep : eDec cX2_sweep CX2_sweep := eDec_of (by decide +kernel)
def rs_cu_sweep : List (Nat × eR) := [(47, (0, 2, 7, 0)), (61, (1, 0, 0, 2)), (64, (1, 1, 1, 2)), (68, (1, 2, 1, 2)), (72, (1, 3, 1, 2))]
noncomputable def cs_cu_sweep : List (eF (eW)) := [K_cu_restart, K_cu_totalAt, K_cu_ratioAt, K_cu_take]
noncomputable def f_cu_sweep_L7 : Nat → Int64 → Int64 → Int32 → Int32 → eW → Option (eW)
  | 0, _, _, _, _, _ => none
  | n + 1, a1, a3, a5, a6, w => (if (w.1 19 7) ≤ a6 then (some w) else ((f_cu_totalAt a6 w).bind fun p2 => ((f_cu_ratioAt a6 p2.2).bind fun p3 => (if 0 < (lg_cmp (p2.1 * a3) (a1 * ((p3.1).toInt64))) then (some p3.2) else (if ¬ (lg_cmp (p2.1 * a3) (a1 * ((p3.1).toInt64))) = 0 then ((f_cu_take a6 p3.2).bind fun w4 => (f_cu_sweep_L7 n a1 a3 a5 (a6 + (1 : Int32)) w4)) else (if ¬ a5 = 0 then ((f_cu_take a6 p3.2).bind fun w5 => (f_cu_sweep_L7 n a1 a3 a5 (a6 + (1 : Int32)) w5)) else (some p3.2)))))))
noncomputable def f_cu_sweep (a1 : Int64) (a3 : Int64) (a5 : Int32) (w : eW) : Option (eW) := ((f_cu_restart w).bind fun w1 => (f_cu_sweep_L7 eFu a1 a3 a5 (0 : Int32) w1))
noncomputable def K_cu_sweep {ρ : Type} : eF ρ := fun as w k => match as with
  | [.ref r0, .long a1, .long a3, .int a5] => bif Nat.beq r0 19 then (f_cu_sweep a1 a3 a5 w).bind (fun w => k none w) else none
  | _ => none
section
variable {p : Program} {l : Launch} {e : Env} {s : State} {m : MethodId} {args : Array Value} {below : List Frame} {meth : Method} {c : Code} {ad : Nat → Nat} {D : va_G} {cA : Nat → ClassId}
theorem lk_cu_sweep : ∀ q ∈ rs_cu_sweep, eLnk { frames := 1, cells := 0, slots := 0, locals := 23 } vwCl (eWd yX2_sweep cX2_sweep 11 none) SSc SHc.length RX2 q.1 q.2 := List.forall_mem_cons.mpr ⟨lkX2_47 eTb_wd, List.forall_mem_cons.mpr ⟨trivial, List.forall_mem_cons.mpr ⟨trivial, List.forall_mem_cons.mpr ⟨trivial, List.forall_mem_cons.mpr ⟨trivial, fun _ h => absurd h List.not_mem_nil⟩⟩⟩⟩⟩
theorem hc_cu_sweep {x : eW} : ∀ q ∈ rs_cu_sweep, eHc l { frames := 1, cells := 0, slots := 0, locals := 23 } ad D cA vwCl SHc SSc (eWd yX2_sweep cX2_sweep 11 none) RX2 cs_cu_sweep x q := List.forall_mem_cons.mpr ⟨trivial, List.forall_mem_cons.mpr ⟨(fun as w k h => let ⟨v, w2, h1, h2⟩ := ok_cu_restart as w k x h; ⟨v, w2, h1, eCal_of h2 ⟨rfl, rfl⟩ hdX2_restart (gvX2_61 eTb_wd)⟩), List.forall_mem_cons.mpr ⟨(fun as w k h => let ⟨v, w2, h1, h2⟩ := ok_cu_totalAt as w k x h; ⟨v, w2, h1, eCal_of h2 ⟨rfl, rfl⟩ hdX2_totalAt (gvX2_64 eTb_wd)⟩), List.forall_mem_cons.mpr ⟨(fun as w k h => let ⟨v, w2, h1, h2⟩ := ok_cu_ratioAt as w k x h; ⟨v, w2, h1, eCal_of h2 ⟨rfl, rfl⟩ hdX2_ratioAt (gvX2_68 eTb_wd)⟩), List.forall_mem_cons.mpr ⟨(fun as w k h => let ⟨v, w2, h1, h2⟩ := ok_cu_take as w k x h; ⟨v, w2, h1, eCal_of h2 ⟨rfl, rfl⟩ hdX2_take (gvX2_72 eTb_wd)⟩), fun _ h => absurd h List.not_mem_nil⟩⟩⟩⟩⟩
noncomputable def kk_cu_sweep_7 (n : Nat) : eK (eW) := fun pc L st w => bif Nat.beq pc 7 then (lR L 0 19 ((lJ L 1).bind fun a1 => (lJ L 3).bind fun a3 => (lI L 5).bind fun a5 => (lI L 6).bind fun a6 => sE st (f_cu_sweep_L7 n a1 a3 a5 a6 w))) else none
set_option maxRecDepth 100000 in
set_option maxHeartbeats 4000000 in
theorem go_cu_sweep_L7 (hcx : eCx p { frames := 1, cells := 0, slots := 0, locals := 23 } s m args meth c cX2_sweep RX2 11 ad D cA vwCl SHc SSc (eWd yX2_sweep cX2_sweep 11 none) (none)) {x : eW} : ∀ (n : Nat) (a1 : Int64) (a3 : Int64) (a5 : Int32) (a6 : Int32) (w : eW), f_cu_sweep_L7  n a1 a3 a5 a6 w = some x → eGq p l e { frames := 1, cells := 0, slots := 0, locals := 23 } s m args below meth c 11 ad D cA vwCl SHc rV x 7 [some (.ref 19), some (.long a1), none, some (.long a3), none, some (.int a5), some (.int a6), none, none, none, none] [] w := by
  intro n
  induction n with
  | zero => intro a1 a3 a5 a6 w h; exact nomatch (show (none : Option (eW)) = some x from h)
  | succ n ih =>
    intro a1 a3 a5 a6 w h
    have h : eRun SHc SSc 11 rs_cu_sweep (eCs cs_cu_sweep) rV CX2_sweep [7] (kk_cu_sweep_7  n) 35 true 7 [some (.ref 19), some (.long a1), none, some (.long a3), none, some (.int a5), some (.int a6), none, none, none, none] [] w = some x := h
    refine eRun_go hcx (eLnk_all lk_cu_sweep) (eHc_all hc_cu_sweep) rV_ok dcX2_sweep [7] _ (fun pc L st w hK => ?_) 35 true 7 _ _ w h
    unfold kk_cu_sweep_7 at hK
    rcases eCut hK with ⟨hpc, hK⟩ | hK
    · subst hpc
      obtain ⟨e0, hK_1⟩ := lR_some hK
      obtain ⟨a1, e1, hK_2⟩ := lJ_some hK_1
      obtain ⟨a3, e3, hK_3⟩ := lJ_some hK_2
      obtain ⟨a5, e5, hK_4⟩ := lI_some hK_3
      obtain ⟨a6, e6, hK_5⟩ := lI_some hK_4
      obtain ⟨hst9, hK_6⟩ := sE_some hK_5
      subst hst9
      exact eGo.wk (ih a1 a3 a5 a6 w hK_6) (eLe_wk ⟨e0, e1, e3, e5, e6, trivial⟩)
    cases hK
set_option maxRecDepth 100000 in
set_option maxHeartbeats 4000000 in
theorem go_cu_sweep (hcx : eCx p { frames := 1, cells := 0, slots := 0, locals := 23 } s m args meth c cX2_sweep RX2 11 ad D cA vwCl SHc SSc (eWd yX2_sweep cX2_sweep 11 none) (none)) (a1 : Int64) (a3 : Int64) (a5 : Int32) (w : eW) (x : eW) (h : f_cu_sweep a1 a3 a5 w = some x) : eGq p l e { frames := 1, cells := 0, slots := 0, locals := 23 } s m args below meth c 11 ad D cA vwCl SHc rV x 0 (eEnt [.ref 19, .long a1, .long a3, .int a5]) [] w := by
  have h : eRun SHc SSc 11 rs_cu_sweep (eCs cs_cu_sweep) rV CX2_sweep [7] (fun pc L st w => bif Nat.beq pc 7 then (lR L 0 19 ((lJ L 1).bind fun a1 => (lJ L 3).bind fun a3 => (lI L 5).bind fun a5 => (lI L 6).bind fun a6 => sE st (f_cu_sweep_L7 eFu a1 a3 a5 a6 w))) else none) 7 true 0 [some (.ref 19), some (.long a1), none, some (.long a3), none, some (.int a5), none, none, none, none, none] [] w = some x := h
  refine eGo.wk (eRun_go hcx (eLnk_all lk_cu_sweep) (eHc_all hc_cu_sweep) rV_ok dcX2_sweep [7] _ (fun pc L st w hK => ?_) 7 true 0 _ _ w h) (eLe_wk ⟨rfl, rfl, rfl, rfl, trivial⟩)
  rcases eCut hK with ⟨hpc, hK⟩ | hK
  · subst hpc
    obtain ⟨e0, hK_1⟩ := lR_some hK
    obtain ⟨a1, e1, hK_2⟩ := lJ_some hK_1
    obtain ⟨a3, e3, hK_3⟩ := lJ_some hK_2
    obtain ⟨a5, e5, hK_4⟩ := lI_some hK_3
    obtain ⟨a6, e6, hK_5⟩ := lI_some hK_4
    obtain ⟨hst9, hK_6⟩ := sE_some hK_5
    subst hst9
    exact eGo.wk (go_cu_sweep_L7 hcx  eFu a1 a3 a5 a6 w hK_6) (eLe_wk ⟨e0, e1, e3, e5, e6, trivial⟩)
  cases hK
end
set_option maxRecDepth 100000 in
set_option maxHeartbeats 4000000 in
theorem ok_cu_sweep {l : Launch} {ad : Nat → Nat} {D : va_G} {cA : Nat → ClassId} {ρ : Type} (as : List Value) (w : eW) (k : Option Value → eW → Option ρ) (x : ρ) (h : K_cu_sweep as w k = some x) : ∃ (v : Option Value) (w2 : eW), k v w2 = some x ∧ eMet l ad D cA vwCl SHc SSc yX2_sweep (eWd yX2_sweep cX2_sweep 11 none) { frames := 1, cells := 0, slots := 0, locals := 23 } as w v w2 := by
  unfold K_cu_sweep at h
  split at h
  · rename_i r0 a1 a3 a5
    obtain ⟨h1, h5⟩ := eBif h
    clear h
    have h := h5
    clear h5
    have h1 := Nat.eq_of_beq_eq_true h1
    subst h1
    obtain ⟨q, h2, h3⟩ := Option.bind_eq_some_iff.mp h
    exact ⟨_, _, h3, eMet_of (by decide +kernel) rfl (by simp [eCat, Value.category]) rV_ret (fun p e s m args below meth c hcx => go_cu_sweep hcx a1 a3 a5 w q h2)⟩
  · cases h
