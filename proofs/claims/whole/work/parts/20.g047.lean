def CX12_has : eCo := [[some (.aload_n 0), some (.iconst 0), some (.putfield 95), none, none, some (.aload_n 0), some (.iload_n 1), some (.invokevirtual 105), none, none, some (.ifCond .eq 19), none, none, some (.iload_n 2), some (.invokestatic 318), none],
  [none, some (.ifCond .eq 12), none, none, some (.iload_n 3), some (.iconst 0), some (.iconst 1), some (.invokestatic 101), none, none, some (.ifCond .ne 7), none, none, some (.ldc2_w 321), none, none],
  [some (.lreturn), some (.aload_n 0), some (.iload_n 2), some (.invokevirtual 323), none, none, some (.aload_n 0), some (.iload_n 1), some (.iload_n 3), some (.iconst 1), some (.if_icmp .ne 7), none, none, some (.iconst 1), some (.goto 4), none],
  [none, some (.iconst 0), some (.invokevirtual 326), none, none, some (.lreturn)]]
theorem dcX12_has : eDec cX12_has CX12_has := eDec_of (by decide +kernel)
def rs_mm_has : List (Nat × eR) := [(95, (0, 11, 0, 0)), (101, (1, 2, 3, -1)), (105, (1, 0, 1, 11)), (318, (1, 1, 1, -1)), (321, (3, 0, 0, -2)), (323, (1, 3, 1, 11)), (326, (1, 4, 2, 11))]
noncomputable def cs_mm_has : List (eF (Int64 × eW)) := [K_mm_isHolder, K_mm_isAmount, K_mm_in, K_mm_layBy, K_mm_lowest]
noncomputable def f_mm_has (a1 : Int32) (a2 : Int32) (a3 : Int32) (w : eW) : Option (Int64 × eW) := ((f_mm_isHolder a1 (eU1 w 24 0 (0 : Int32))).bind fun p1 => (if p1.1 = 0 then (some ((-2 : Int64), p1.2)) else ((f_mm_isAmount a2 p1.2).bind fun p2 => (if p2.1 = 0 then (some ((-2 : Int64), p2.2)) else ((f_mm_in a3 (0 : Int32) (1 : Int32) p2.2).bind fun p3 => (if ¬ p3.1 = 0 then ((f_mm_layBy a2 p3.2).bind fun w4 => (if ¬ a3 = (1 : Int32) then ((f_mm_lowest a1 (0 : Int32) w4).bind fun p5 => (some (p5.1, p5.2))) else ((f_mm_lowest a1 (1 : Int32) w4).bind fun p6 => (some (p6.1, p6.2))))) else (some ((-2 : Int64), p3.2))))))))
noncomputable def K_mm_has {ρ : Type} : eF ρ := fun as w k => match as with
  | [.ref r0, .int a1, .int a2, .int a3] => bif Nat.beq r0 24 then (f_mm_has a1 a2 a3 w).bind (fun p => k (some (.long p.1)) p.2) else none
  | _ => none
section
variable {p : Program} {l : Launch} {e : Env} {s : State} {m : MethodId} {args : Array Value} {below : List Frame} {meth : Method} {c : Code} {ad : Nat → Nat} {D : va_G} {cA : Nat → ClassId}
theorem lk_mm_has : ∀ q ∈ rs_mm_has, eLnk { frames := 10, cells := 0, slots := 0, locals := 230 } vwCl (eWd yX12_has cX12_has 4 (some .long)) SSm SHm.length RX12 q.1 q.2 := List.forall_mem_cons.mpr ⟨lkX12_95 eTb_wd, List.forall_mem_cons.mpr ⟨trivial, List.forall_mem_cons.mpr ⟨trivial, List.forall_mem_cons.mpr ⟨trivial, List.forall_mem_cons.mpr ⟨lkX12_321 eTb_wd, List.forall_mem_cons.mpr ⟨trivial, List.forall_mem_cons.mpr ⟨trivial, fun _ h => absurd h List.not_mem_nil⟩⟩⟩⟩⟩⟩⟩
theorem hc_mm_has {x : Int64 × eW} : ∀ q ∈ rs_mm_has, eHc l { frames := 10, cells := 0, slots := 0, locals := 230 } ad D cA vwCl SHm SSm (eWd yX12_has cX12_has 4 (some .long)) RX12 cs_mm_has x q := List.forall_mem_cons.mpr ⟨trivial, List.forall_mem_cons.mpr ⟨(fun as w k h => let ⟨v, w2, h1, h2⟩ := ok_mm_in as w k x h; ⟨v, w2, h1, eCal_of h2 ⟨rfl, rfl⟩ hdX12_in (gvX12_101 eTb_wd)⟩), List.forall_mem_cons.mpr ⟨(fun as w k h => let ⟨v, w2, h1, h2⟩ := ok_mm_isHolder as w k x h; ⟨v, w2, h1, eCal_of h2 ⟨rfl, rfl⟩ hdX12_isHolder (gvX12_105 eTb_wd)⟩), List.forall_mem_cons.mpr ⟨(fun as w k h => let ⟨v, w2, h1, h2⟩ := ok_mm_isAmount as w k x h; ⟨v, w2, h1, eCal_of h2 ⟨rfl, rfl⟩ hdX12_isAmount (gvX12_318 eTb_wd)⟩), List.forall_mem_cons.mpr ⟨trivial, List.forall_mem_cons.mpr ⟨(fun as w k h => let ⟨v, w2, h1, h2⟩ := ok_mm_layBy as w k x h; ⟨v, w2, h1, eCal_of h2 ⟨rfl, rfl⟩ hdX12_layBy (gvX12_323 eTb_wd)⟩), List.forall_mem_cons.mpr ⟨(fun as w k h => let ⟨v, w2, h1, h2⟩ := ok_mm_lowest as w k x h; ⟨v, w2, h1, eCal_of h2 ⟨rfl, rfl⟩ hdX12_lowest (gvX12_326 eTb_wd)⟩), fun _ h => absurd h List.not_mem_nil⟩⟩⟩⟩⟩⟩⟩
set_option maxRecDepth 100000 in
set_option maxHeartbeats 4000000 in
theorem go_mm_has (hcx : eCx p { frames := 10, cells := 0, slots := 0, locals := 230 } s m args meth c cX12_has RX12 4 ad D cA vwCl SHm SSm (eWd yX12_has cX12_has 4 (some .long)) (some .long)) (a1 : Int32) (a2 : Int32) (a3 : Int32) (w : eW) (x : Int64 × eW) (h : f_mm_has a1 a2 a3 w = some x) : eGq p l e { frames := 10, cells := 0, slots := 0, locals := 230 } s m args below meth c 4 ad D cA vwCl SHm rJ x 0 (eEnt [.ref 24, .int a1, .int a2, .int a3]) [] w := by
  have h : eRun SHm SSm 4 rs_mm_has (eCs cs_mm_has) rJ CX12_has [] (fun pc L st w => none) 29 true 0 [some (.ref 24), some (.int a1), some (.int a2), some (.int a3)] [] w = some x := h
  refine eGo.wk (eRun_go hcx (eLnk_all lk_mm_has) (eHc_all hc_mm_has) rJ_ok dcX12_has [] _ (fun pc L st w hK => ?_) 29 true 0 _ _ w h) (eLe_wk ⟨rfl, rfl, rfl, rfl, trivial⟩)
  cases hK
end
set_option maxRecDepth 100000 in
set_option maxHeartbeats 4000000 in
theorem ok_mm_has {l : Launch} {ad : Nat → Nat} {D : va_G} {cA : Nat → ClassId} {ρ : Type} (as : List Value) (w : eW) (k : Option Value → eW → Option ρ) (x : ρ) (h : K_mm_has as w k = some x) : ∃ (v : Option Value) (w2 : eW), k v w2 = some x ∧ eMet l ad D cA vwCl SHm SSm yX12_has (eWd yX12_has cX12_has 4 (some .long)) { frames := 10, cells := 0, slots := 0, locals := 230 } as w v w2 := by
  unfold K_mm_has at h
  split at h
  · rename_i r0 a1 a2 a3
    obtain ⟨h1, h5⟩ := eBif h
    clear h
    have h := h5
    clear h5
    have h1 := Nat.eq_of_beq_eq_true h1
    subst h1
    obtain ⟨q, h2, h3⟩ := Option.bind_eq_some_iff.mp h
    exact ⟨_, _, h3, eMet_of (by decide +kernel) rfl (by simp [eCat, Value.category]) rJ_ret (fun p e s m args below meth c hcx => go_mm_has hcx a1 a2 a3 w q h2)⟩
  · cases h
def CX12_level : eCo := [[some (.aload_n 0), some (.iconst 0), some (.putfield 95), none, none, some (.iload_n 1), some (.invokestatic 318), none, none, some (.ifCond .eq 19), none, none, some (.iload_n 2), some (.iconst 0), some (.iconst 1), some (.invokestatic 101)],
  [none, none, some (.ifCond .eq 10), none, none, some (.aload_n 0), some (.getfield 98), none, none, some (.ifCond .ne 7), none, none, some (.ldc2_w 321), none, none, some (.lreturn)],
  [some (.aload_n 0), some (.iload_n 1), some (.invokevirtual 323), none, none, some (.iload_n 2), some (.ifCond .ne 10), none, none, some (.aload_n 0), some (.getfield 281), none, none, some (.goto 7), none, none],
  [some (.aload_n 0), some (.getfield 70), none, none, some (.lreturn)]]
theorem dcX12_level : eDec cX12_level CX12_level := eDec_of (by decide +kernel)
def rs_mm_level : List (Nat × eR) := [(70, (0, 11, 40, 1)), (95, (0, 11, 0, 0)), (98, (0, 11, 1, 0)), (101, (1, 1, 3, -1)), (281, (0, 11, 39, 1)), (318, (1, 0, 1, -1)), (321, (3, 0, 0, -2)), (323, (1, 2, 1, 11))]
noncomputable def cs_mm_level : List (eF (Int64 × eW)) := [K_mm_isAmount, K_mm_in, K_mm_layBy]
noncomputable def f_mm_level (a1 : Int32) (a2 : Int32) (w : eW) : Option (Int64 × eW) := ((f_mm_isAmount a1 (eU1 w 24 0 (0 : Int32))).bind fun p1 => (if p1.1 = 0 then (some ((-2 : Int64), p1.2)) else ((f_mm_in a2 (0 : Int32) (1 : Int32) p1.2).bind fun p2 => (if p2.1 = 0 then (some ((-2 : Int64), p2.2)) else (if ¬ (p2.2.1 24 1) = 0 then ((f_mm_layBy a1 p2.2).bind fun w3 => (if ¬ a2 = 0 then (some ((w3.2 24 40), w3)) else (some ((w3.2 24 39), w3)))) else (some ((-2 : Int64), p2.2)))))))
noncomputable def K_mm_level {ρ : Type} : eF ρ := fun as w k => match as with
  | [.ref r0, .int a1, .int a2] => bif Nat.beq r0 24 then (f_mm_level a1 a2 w).bind (fun p => k (some (.long p.1)) p.2) else none
  | _ => none
section
variable {p : Program} {l : Launch} {e : Env} {s : State} {m : MethodId} {args : Array Value} {below : List Frame} {meth : Method} {c : Code} {ad : Nat → Nat} {D : va_G} {cA : Nat → ClassId}
theorem lk_mm_level : ∀ q ∈ rs_mm_level, eLnk { frames := 10, cells := 0, slots := 0, locals := 230 } vwCl (eWd yX12_level cX12_level 3 (some .long)) SSm SHm.length RX12 q.1 q.2 := List.forall_mem_cons.mpr ⟨lkX12_70 eTb_wd, List.forall_mem_cons.mpr ⟨lkX12_95 eTb_wd, List.forall_mem_cons.mpr ⟨lkX12_98 eTb_wd, List.forall_mem_cons.mpr ⟨trivial, List.forall_mem_cons.mpr ⟨lkX12_281 eTb_wd, List.forall_mem_cons.mpr ⟨trivial, List.forall_mem_cons.mpr ⟨lkX12_321 eTb_wd, List.forall_mem_cons.mpr ⟨trivial, fun _ h => absurd h List.not_mem_nil⟩⟩⟩⟩⟩⟩⟩⟩
theorem hc_mm_level {x : Int64 × eW} : ∀ q ∈ rs_mm_level, eHc l { frames := 10, cells := 0, slots := 0, locals := 230 } ad D cA vwCl SHm SSm (eWd yX12_level cX12_level 3 (some .long)) RX12 cs_mm_level x q := List.forall_mem_cons.mpr ⟨trivial, List.forall_mem_cons.mpr ⟨trivial, List.forall_mem_cons.mpr ⟨trivial, List.forall_mem_cons.mpr ⟨(fun as w k h => let ⟨v, w2, h1, h2⟩ := ok_mm_in as w k x h; ⟨v, w2, h1, eCal_of h2 ⟨rfl, rfl⟩ hdX12_in (gvX12_101 eTb_wd)⟩), List.forall_mem_cons.mpr ⟨trivial, List.forall_mem_cons.mpr ⟨(fun as w k h => let ⟨v, w2, h1, h2⟩ := ok_mm_isAmount as w k x h; ⟨v, w2, h1, eCal_of h2 ⟨rfl, rfl⟩ hdX12_isAmount (gvX12_318 eTb_wd)⟩), List.forall_mem_cons.mpr ⟨trivial, List.forall_mem_cons.mpr ⟨(fun as w k h => let ⟨v, w2, h1, h2⟩ := ok_mm_layBy as w k x h; ⟨v, w2, h1, eCal_of h2 ⟨rfl, rfl⟩ hdX12_layBy (gvX12_323 eTb_wd)⟩), fun _ h => absurd h List.not_mem_nil⟩⟩⟩⟩⟩⟩⟩⟩
set_option maxRecDepth 100000 in
set_option maxHeartbeats 4000000 in
theorem go_mm_level (hcx : eCx p { frames := 10, cells := 0, slots := 0, locals := 230 } s m args meth c cX12_level RX12 3 ad D cA vwCl SHm SSm (eWd yX12_level cX12_level 3 (some .long)) (some .long)) (a1 : Int32) (a2 : Int32) (w : eW) (x : Int64 × eW) (h : f_mm_level a1 a2 w = some x) : eGq p l e { frames := 10, cells := 0, slots := 0, locals := 230 } s m args below meth c 3 ad D cA vwCl SHm rJ x 0 (eEnt [.ref 24, .int a1, .int a2]) [] w := by
  have h : eRun SHm SSm 3 rs_mm_level (eCs cs_mm_level) rJ CX12_level [] (fun pc L st w => none) 25 true 0 [some (.ref 24), some (.int a1), some (.int a2)] [] w = some x := h
  refine eGo.wk (eRun_go hcx (eLnk_all lk_mm_level) (eHc_all hc_mm_level) rJ_ok dcX12_level [] _ (fun pc L st w hK => ?_) 25 true 0 _ _ w h) (eLe_wk ⟨rfl, rfl, rfl, trivial⟩)
  cases hK
end
set_option maxRecDepth 100000 in
set_option maxHeartbeats 4000000 in
theorem ok_mm_level {l : Launch} {ad : Nat → Nat} {D : va_G} {cA : Nat → ClassId} {ρ : Type} (as : List Value) (w : eW) (k : Option Value → eW → Option ρ) (x : ρ) (h : K_mm_level as w k = some x) : ∃ (v : Option Value) (w2 : eW), k v w2 = some x ∧ eMet l ad D cA vwCl SHm SSm yX12_level (eWd yX12_level cX12_level 3 (some .long)) { frames := 10, cells := 0, slots := 0, locals := 230 } as w v w2 := by
  unfold K_mm_level at h
  split at h
  · rename_i r0 a1 a2
    obtain ⟨h1, h5⟩ := eBif h
    clear h
    have h := h5
    clear h5
    have h1 := Nat.eq_of_beq_eq_true h1
    subst h1
    obtain ⟨q, h2, h3⟩ := Option.bind_eq_some_iff.mp h
    exact ⟨_, _, h3, eMet_of (by decide +kernel) rfl (by simp [eCat, Value.category]) rJ_ret (fun p e s m args below meth c hcx => go_mm_level hcx a1 a2 w q h2)⟩
  · cases h
def CX12_stateOf : eCo := [[some (.aload_n 0), some (.getfield 63), none, none, some (.iload_n 1), some (.laload), some (.lconst 0), some (.lcmp), some (.ifCond .ne 5), none, none, some (.iconst 0), some (.ireturn), some (.aload_n 0), some (.getfield 7), none],
  [none, some (.iload_n 1), some (.iaload), some (.iconst 2), some (.if_icmp .eq 5), none, none, some (.iconst 4), some (.ireturn), some (.aload_n 0), some (.getfield 281), none, none, some (.aload_n 0), some (.getfield 25), none],
  [none, some (.iload_n 1), some (.iaload), some (.i2l), some (.lmul), some (.lstore_n 2), some (.ldc2_w 263), none, none, some (.aload_n 0), some (.getfield 70), none, none, some (.lmul), some (.lstore 4), none],
  [some (.aload_n 0), some (.getfield 28), none, none, some (.iload_n 1), some (.iaload), some (.ifCond .ne 23), none, none, some (.lload_n 2), some (.aload_n 0), some (.iload_n 1), some (.invokevirtual 120), none, none, some (.i2l)],
  [some (.lload 4), none, some (.lmul), some (.lcmp), some (.ifCond .le 7), none, none, some (.iconst 4), some (.goto 4), none, none, some (.iconst 1), some (.ireturn), some (.lload_n 2), some (.lconst 0), some (.lcmp)],
  [some (.ifCond .eq 12), none, none, some (.aload_n 0), some (.getfield 31), none, none, some (.iload_n 1), some (.iaload), some (.ifCond .ge 15), none, none, some (.lload_n 2), some (.lconst 0), some (.lcmp), some (.ifCond .ne 7)],
  [none, none, some (.iconst 1), some (.goto 4), none, none, some (.iconst 2), some (.ireturn), some (.lload_n 2), some (.aload_n 0), some (.iload_n 1), some (.invokevirtual 265), none, none, some (.i2l), some (.lload 4)],
  [none, some (.lmul), some (.lcmp), some (.ifCond .le 5), none, none, some (.iconst 4), some (.ireturn), some (.lload_n 2), some (.aload_n 0), some (.iload_n 1), some (.invokevirtual 265), none, none, some (.aload_n 0), some (.iload_n 1)],
  [some (.invokevirtual 120), none, none, some (.isub), some (.i2l), some (.lload 4), none, some (.lmul), some (.lcmp), some (.ifCond .lt 7), none, none, some (.iconst 1), some (.goto 4), none, none],
  [some (.iconst 0), some (.istore 6), none, some (.iload 6), none, some (.ifCond .ne 7), none, none, some (.iconst 2), some (.goto 21), none, none, some (.aload_n 0), some (.iload_n 1), some (.invokevirtual 265), none],
  [none, some (.aload_n 0), some (.iload_n 1), some (.invokevirtual 120), none, none, some (.if_icmp .le 7), none, none, some (.iconst 3), some (.goto 4), none, none, some (.iconst 1), some (.ireturn)]]
theorem dcX12_stateOf : eDec cX12_stateOf CX12_stateOf := eDec_of (by decide +kernel)
def rs_mm_stateOf : List (Nat × eR) := [(7, (0, 11, 5, 2)), (25, (0, 11, 10, 2)), (28, (0, 11, 11, 2)), (31, (0, 11, 12, 2)), (63, (0, 11, 37, 2)), (70, (0, 11, 40, 1)), (120, (1, 1, 1, 11)), (263, (3, 0, 0, 100)), (265, (1, 0, 1, 11)), (281, (0, 11, 39, 1))]
noncomputable def cs_mm_stateOf : List (eF (Int32 × eW)) := [K_mm_topOf, K_mm_prefOf]
noncomputable def f_mm_stateOf (a1 : Int32) (w : eW) : Option (Int32 × eW) := (eChk a1 12 (if ¬ (lg_cmp (w.2 16 (Int32.toNatClampNeg a1)) (0 : Int64)) = 0 then (eChk a1 24 (if (w.1 0 (Int32.toNatClampNeg a1)) = (2 : Int32) then (eChk a1 24 (eChk a1 24 (if ¬ (w.1 6 (Int32.toNatClampNeg a1)) = 0 then (if (lg_cmp ((w.2 24 39) * (((w.1 5 (Int32.toNatClampNeg a1))).toInt64)) (0 : Int64)) = 0 then (if ¬ (lg_cmp ((w.2 24 39) * (((w.1 5 (Int32.toNatClampNeg a1))).toInt64)) (0 : Int64)) = 0 then (some ((2 : Int32), w)) else (some ((1 : Int32), w))) else (eChk a1 24 (if 0 ≤ (w.1 7 (Int32.toNatClampNeg a1)) then ((f_mm_topOf a1 w).bind fun p1 => (if (lg_cmp ((w.2 24 39) * (((w.1 5 (Int32.toNatClampNeg a1))).toInt64)) (((p1.1).toInt64) * ((100 : Int64) * (w.2 24 40)))) ≤ 0 then ((f_mm_topOf a1 p1.2).bind fun p2 => ((f_mm_prefOf a1 p2.2).bind fun p3 => (if (lg_cmp ((w.2 24 39) * (((w.1 5 (Int32.toNatClampNeg a1))).toInt64)) ((((p2.1 - p3.1)).toInt64) * ((100 : Int64) * (w.2 24 40)))) < 0 then (some ((2 : Int32), p3.2)) else ((f_mm_topOf a1 p3.2).bind fun p4 => ((f_mm_prefOf a1 p4.2).bind fun p5 => (if p4.1 ≤ p5.1 then (some ((1 : Int32), p5.2)) else (some ((3 : Int32), p5.2)))))))) else (some ((4 : Int32), p1.2)))) else (if ¬ (lg_cmp ((w.2 24 39) * (((w.1 5 (Int32.toNatClampNeg a1))).toInt64)) (0 : Int64)) = 0 then (some ((2 : Int32), w)) else (some ((1 : Int32), w)))))) else ((f_mm_prefOf a1 w).bind fun p6 => (if (lg_cmp ((w.2 24 39) * (((w.1 5 (Int32.toNatClampNeg a1))).toInt64)) (((p6.1).toInt64) * ((100 : Int64) * (w.2 24 40)))) ≤ 0 then (some ((1 : Int32), p6.2)) else (some ((4 : Int32), p6.2))))))) else (some ((4 : Int32), w)))) else (some ((0 : Int32), w))))
noncomputable def K_mm_stateOf {ρ : Type} : eF ρ := fun as w k => match as with
  | [.ref r0, .int a1] => bif Nat.beq r0 24 then (f_mm_stateOf a1 w).bind (fun p => k (some (.int p.1)) p.2) else none
  | _ => none
section
variable {p : Program} {l : Launch} {e : Env} {s : State} {m : MethodId} {args : Array Value} {below : List Frame} {meth : Method} {c : Code} {ad : Nat → Nat} {D : va_G} {cA : Nat → ClassId}
theorem lk_mm_stateOf : ∀ q ∈ rs_mm_stateOf, eLnk { frames := 3, cells := 0, slots := 0, locals := 64 } vwCl (eWd yX12_stateOf cX12_stateOf 7 (some .int)) SSm SHm.length RX12 q.1 q.2 := List.forall_mem_cons.mpr ⟨lkX12_7 eTb_wd, List.forall_mem_cons.mpr ⟨lkX12_25 eTb_wd, List.forall_mem_cons.mpr ⟨lkX12_28 eTb_wd, List.forall_mem_cons.mpr ⟨lkX12_31 eTb_wd, List.forall_mem_cons.mpr ⟨lkX12_63 eTb_wd, List.forall_mem_cons.mpr ⟨lkX12_70 eTb_wd, List.forall_mem_cons.mpr ⟨trivial, List.forall_mem_cons.mpr ⟨lkX12_263 eTb_wd, List.forall_mem_cons.mpr ⟨trivial, List.forall_mem_cons.mpr ⟨lkX12_281 eTb_wd, fun _ h => absurd h List.not_mem_nil⟩⟩⟩⟩⟩⟩⟩⟩⟩⟩
theorem hc_mm_stateOf {x : Int32 × eW} : ∀ q ∈ rs_mm_stateOf, eHc l { frames := 3, cells := 0, slots := 0, locals := 64 } ad D cA vwCl SHm SSm (eWd yX12_stateOf cX12_stateOf 7 (some .int)) RX12 cs_mm_stateOf x q := List.forall_mem_cons.mpr ⟨trivial, List.forall_mem_cons.mpr ⟨trivial, List.forall_mem_cons.mpr ⟨trivial, List.forall_mem_cons.mpr ⟨trivial, List.forall_mem_cons.mpr ⟨trivial, List.forall_mem_cons.mpr ⟨trivial, List.forall_mem_cons.mpr ⟨(fun as w k h => let ⟨v, w2, h1, h2⟩ := ok_mm_prefOf as w k x h; ⟨v, w2, h1, eCal_of h2 ⟨rfl, rfl⟩ hdX12_prefOf (gvX12_120 eTb_wd)⟩), List.forall_mem_cons.mpr ⟨trivial, List.forall_mem_cons.mpr ⟨(fun as w k h => let ⟨v, w2, h1, h2⟩ := ok_mm_topOf as w k x h; ⟨v, w2, h1, eCal_of h2 ⟨rfl, rfl⟩ hdX12_topOf (gvX12_265 eTb_wd)⟩), List.forall_mem_cons.mpr ⟨trivial, fun _ h => absurd h List.not_mem_nil⟩⟩⟩⟩⟩⟩⟩⟩⟩⟩
set_option maxRecDepth 100000 in
set_option maxHeartbeats 4000000 in
theorem go_mm_stateOf (hcx : eCx p { frames := 3, cells := 0, slots := 0, locals := 64 } s m args meth c cX12_stateOf RX12 7 ad D cA vwCl SHm SSm (eWd yX12_stateOf cX12_stateOf 7 (some .int)) (some .int)) (a1 : Int32) (w : eW) (x : Int32 × eW) (h : f_mm_stateOf a1 w = some x) : eGq p l e { frames := 3, cells := 0, slots := 0, locals := 64 } s m args below meth c 7 ad D cA vwCl SHm rI x 0 (eEnt [.ref 24, .int a1]) [] w := by
  have h : eRun SHm SSm 7 rs_mm_stateOf (eCs cs_mm_stateOf) rI CX12_stateOf [] (fun pc L st w => none) 80 true 0 [some (.ref 24), some (.int a1), none, none, none, none, none] [] w = some x := h
  refine eGo.wk (eRun_go hcx (eLnk_all lk_mm_stateOf) (eHc_all hc_mm_stateOf) rI_ok dcX12_stateOf [] _ (fun pc L st w hK => ?_) 80 true 0 _ _ w h) (eLe_wk ⟨rfl, rfl, trivial⟩)
  cases hK
end
set_option maxRecDepth 100000 in
set_option maxHeartbeats 4000000 in
theorem ok_mm_stateOf {l : Launch} {ad : Nat → Nat} {D : va_G} {cA : Nat → ClassId} {ρ : Type} (as : List Value) (w : eW) (k : Option Value → eW → Option ρ) (x : ρ) (h : K_mm_stateOf as w k = some x) : ∃ (v : Option Value) (w2 : eW), k v w2 = some x ∧ eMet l ad D cA vwCl SHm SSm yX12_stateOf (eWd yX12_stateOf cX12_stateOf 7 (some .int)) { frames := 3, cells := 0, slots := 0, locals := 64 } as w v w2 := by
  unfold K_mm_stateOf at h
  split at h
  · rename_i r0 a1
    obtain ⟨h1, h5⟩ := eBif h
    clear h
    have h := h5
    clear h5
    have h1 := Nat.eq_of_beq_eq_true h1
    subst h1
    obtain ⟨q, h2, h3⟩ := Option.bind_eq_some_iff.mp h
    exact ⟨_, _, h3, eMet_of (by decide +kernel) rfl (by simp [eCat, Value.category]) rI_ret (fun p e s m args below meth c hcx => go_mm_stateOf hcx a1 w q h2)⟩
  · cases h
def CX12_state : eCo := [[some (.aload_n 0), some (.iconst 0), some (.putfield 95), none, none, some (.aload_n 0), some (.iload_n 1), some (.invokevirtual 105), none, none, some (.ifCond .eq 10), none, none, some (.iload_n 2), some (.invokestatic 318), none],
  [none, some (.ifCond .ne 6), none, none, some (.bipush (-2)), none, some (.ireturn), some (.aload_n 0), some (.iload_n 2), some (.invokevirtual 323), none, none, some (.aload_n 0), some (.iload_n 1), some (.invokevirtual 330), none],
  [none, some (.ireturn)]]
theorem dcX12_state : eDec cX12_state CX12_state := eDec_of (by decide +kernel)
def rs_mm_state : List (Nat × eR) := [(95, (0, 11, 0, 0)), (105, (1, 0, 1, 11)), (318, (1, 1, 1, -1)), (323, (1, 2, 1, 11)), (330, (1, 3, 1, 11))]
noncomputable def cs_mm_state : List (eF (Int32 × eW)) := [K_mm_isHolder, K_mm_isAmount, K_mm_layBy, K_mm_stateOf]
noncomputable def f_mm_state (a1 : Int32) (a2 : Int32) (w : eW) : Option (Int32 × eW) := ((f_mm_isHolder a1 (eU1 w 24 0 (0 : Int32))).bind fun p1 => (if p1.1 = 0 then (some ((-2 : Int32), p1.2)) else ((f_mm_isAmount a2 p1.2).bind fun p2 => (if ¬ p2.1 = 0 then ((f_mm_layBy a2 p2.2).bind fun w3 => ((f_mm_stateOf a1 w3).bind fun p4 => (some (p4.1, p4.2)))) else (some ((-2 : Int32), p2.2))))))
noncomputable def K_mm_state {ρ : Type} : eF ρ := fun as w k => match as with
  | [.ref r0, .int a1, .int a2] => bif Nat.beq r0 24 then (f_mm_state a1 a2 w).bind (fun p => k (some (.int p.1)) p.2) else none
  | _ => none
section
variable {p : Program} {l : Launch} {e : Env} {s : State} {m : MethodId} {args : Array Value} {below : List Frame} {meth : Method} {c : Code} {ad : Nat → Nat} {D : va_G} {cA : Nat → ClassId}
theorem lk_mm_state : ∀ q ∈ rs_mm_state, eLnk { frames := 10, cells := 0, slots := 0, locals := 230 } vwCl (eWd yX12_state cX12_state 3 (some .int)) SSm SHm.length RX12 q.1 q.2 := List.forall_mem_cons.mpr ⟨lkX12_95 eTb_wd, List.forall_mem_cons.mpr ⟨trivial, List.forall_mem_cons.mpr ⟨trivial, List.forall_mem_cons.mpr ⟨trivial, List.forall_mem_cons.mpr ⟨trivial, fun _ h => absurd h List.not_mem_nil⟩⟩⟩⟩⟩
theorem hc_mm_state {x : Int32 × eW} : ∀ q ∈ rs_mm_state, eHc l { frames := 10, cells := 0, slots := 0, locals := 230 } ad D cA vwCl SHm SSm (eWd yX12_state cX12_state 3 (some .int)) RX12 cs_mm_state x q := List.forall_mem_cons.mpr ⟨trivial, List.forall_mem_cons.mpr ⟨(fun as w k h => let ⟨v, w2, h1, h2⟩ := ok_mm_isHolder as w k x h; ⟨v, w2, h1, eCal_of h2 ⟨rfl, rfl⟩ hdX12_isHolder (gvX12_105 eTb_wd)⟩), List.forall_mem_cons.mpr ⟨(fun as w k h => let ⟨v, w2, h1, h2⟩ := ok_mm_isAmount as w k x h; ⟨v, w2, h1, eCal_of h2 ⟨rfl, rfl⟩ hdX12_isAmount (gvX12_318 eTb_wd)⟩), List.forall_mem_cons.mpr ⟨(fun as w k h => let ⟨v, w2, h1, h2⟩ := ok_mm_layBy as w k x h; ⟨v, w2, h1, eCal_of h2 ⟨rfl, rfl⟩ hdX12_layBy (gvX12_323 eTb_wd)⟩), List.forall_mem_cons.mpr ⟨(fun as w k h => let ⟨v, w2, h1, h2⟩ := ok_mm_stateOf as w k x h; ⟨v, w2, h1, eCal_of h2 ⟨rfl, rfl⟩ hdX12_stateOf (gvX12_330 eTb_wd)⟩), fun _ h => absurd h List.not_mem_nil⟩⟩⟩⟩⟩
set_option maxRecDepth 100000 in
set_option maxHeartbeats 4000000 in
theorem go_mm_state (hcx : eCx p { frames := 10, cells := 0, slots := 0, locals := 230 } s m args meth c cX12_state RX12 3 ad D cA vwCl SHm SSm (eWd yX12_state cX12_state 3 (some .int)) (some .int)) (a1 : Int32) (a2 : Int32) (w : eW) (x : Int32 × eW) (h : f_mm_state a1 a2 w = some x) : eGq p l e { frames := 10, cells := 0, slots := 0, locals := 230 } s m args below meth c 3 ad D cA vwCl SHm rI x 0 (eEnt [.ref 24, .int a1, .int a2]) [] w := by
  have h : eRun SHm SSm 3 rs_mm_state (eCs cs_mm_state) rI CX12_state [] (fun pc L st w => none) 19 true 0 [some (.ref 24), some (.int a1), some (.int a2)] [] w = some x := h
  refine eGo.wk (eRun_go hcx (eLnk_all lk_mm_state) (eHc_all hc_mm_state) rI_ok dcX12_state [] _ (fun pc L st w hK => ?_) 19 true 0 _ _ w h) (eLe_wk ⟨rfl, rfl, rfl, trivial⟩)
  cases hK
end
set_option maxRecDepth 100000 in
set_option maxHeartbeats 4000000 in
theorem ok_mm_state {l : Launch} {ad : Nat → Nat} {D : va_G} {cA : Nat → ClassId} {ρ : Type} (as : List Value) (w : eW) (k : Option Value → eW → Option ρ) (x : ρ) (h : K_mm_state as w k = some x) : ∃ (v : Option Value) (w2 : eW), k v w2 = some x ∧ eMet l ad D cA vwCl SHm SSm yX12_state (eWd yX12_state cX12_state 3 (some .int)) { frames := 10, cells := 0, slots := 0, locals := 230 } as w v w2 := by
  unfold K_mm_state at h
  split at h
  · rename_i r0 a1 a2
    obtain ⟨h1, h5⟩ := eBif h
    clear h
    have h := h5
    clear h5
    have h1 := Nat.eq_of_beq_eq_true h1
    subst h1
    obtain ⟨q, h2, h3⟩ := Option.bind_eq_some_iff.mp h
    exact ⟨_, _, h3, eMet_of (by decide +kernel) rfl (by simp [eCat, Value.category]) rI_ret (fun p e s m args below meth c hcx => go_mm_state hcx a1 a2 w q h2)⟩
  · cases h
