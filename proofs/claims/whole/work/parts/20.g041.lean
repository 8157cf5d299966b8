def CX12_isAmount : eCo := [[some (.iload_n 0), some (.iconst 0), some (.ldc 109), none, some (.invokestatic 101), none, none, some (.ireturn)]]
theorem dcX12_isAmount : eDec cX12_isAmount CX12_isAmount := eDec_of (by decide +kernel)
def rs_mm_isAmount : List (Nat × eR) := [(101, (1, 0, 3, -1)), (109, (2, 0, 0, 9999999))]
noncomputable def cs_mm_isAmount : List (eF (Int32 × eW)) := [K_mm_in]
noncomputable def f_mm_isAmount (a0 : Int32) (w : eW) : Option (Int32 × eW) := ((f_mm_in a0 (0 : Int32) (9999999 : Int32) w).bind fun p1 => (if p1.1 = 0 ∨ p1.1 = 1 then some (p1.1, p1.2) else none))
noncomputable def K_mm_isAmount {ρ : Type} : eF ρ := fun as w k => match as with
  | [.int a0] => (f_mm_isAmount a0 w).bind (fun p => k (some (.int p.1)) p.2)
  | _ => none
section
variable {p : Program} {l : Launch} {e : Env} {s : State} {m : MethodId} {args : Array Value} {below : List Frame} {meth : Method} {c : Code} {ad : Nat → Nat} {D : va_G} {cA : Nat → ClassId}
theorem lk_mm_isAmount : ∀ q ∈ rs_mm_isAmount, eLnk { frames := 1, cells := 0, slots := 0, locals := 22 } vwCl (eWd yX12_isAmount cX12_isAmount 1 (some .boolean)) SSm SHm.length RX12 q.1 q.2 := List.forall_mem_cons.mpr ⟨trivial, List.forall_mem_cons.mpr ⟨lkX12_109 eTb_wd, fun _ h => absurd h List.not_mem_nil⟩⟩
theorem hc_mm_isAmount {x : Int32 × eW} : ∀ q ∈ rs_mm_isAmount, eHc l { frames := 1, cells := 0, slots := 0, locals := 22 } ad D cA vwCl SHm SSm (eWd yX12_isAmount cX12_isAmount 1 (some .boolean)) RX12 cs_mm_isAmount x q := List.forall_mem_cons.mpr ⟨(fun as w k h => let ⟨v, w2, h1, h2⟩ := ok_mm_in as w k x h; ⟨v, w2, h1, eCal_of h2 ⟨rfl, rfl⟩ hdX12_in (gvX12_101 eTb_wd)⟩), List.forall_mem_cons.mpr ⟨trivial, fun _ h => absurd h List.not_mem_nil⟩⟩
set_option maxRecDepth 100000 in
set_option maxHeartbeats 4000000 in
theorem go_mm_isAmount (hcx : eCx p { frames := 1, cells := 0, slots := 0, locals := 22 } s m args meth c cX12_isAmount RX12 1 ad D cA vwCl SHm SSm (eWd yX12_isAmount cX12_isAmount 1 (some .boolean)) (some .boolean)) (a0 : Int32) (w : eW) (x : Int32 × eW) (h : f_mm_isAmount a0 w = some x) : eGq p l e { frames := 1, cells := 0, slots := 0, locals := 22 } s m args below meth c 1 ad D cA vwCl SHm rZ x 0 (eEnt [.int a0]) [] w := by
  have h : eRun SHm SSm 1 rs_mm_isAmount (eCs cs_mm_isAmount) rZ CX12_isAmount [] (fun pc L st w => none) 7 true 0 [some (.int a0)] [] w = some x := h
  refine eGo.wk (eRun_go hcx (eLnk_all lk_mm_isAmount) (eHc_all hc_mm_isAmount) rZ_ok dcX12_isAmount [] _ (fun pc L st w hK => ?_) 7 true 0 _ _ w h) (eLe_wk ⟨rfl, trivial⟩)
  cases hK
end
set_option maxRecDepth 100000 in
set_option maxHeartbeats 4000000 in
theorem ok_mm_isAmount {l : Launch} {ad : Nat → Nat} {D : va_G} {cA : Nat → ClassId} {ρ : Type} (as : List Value) (w : eW) (k : Option Value → eW → Option ρ) (x : ρ) (h : K_mm_isAmount as w k = some x) : ∃ (v : Option Value) (w2 : eW), k v w2 = some x ∧ eMet l ad D cA vwCl SHm SSm yX12_isAmount (eWd yX12_isAmount cX12_isAmount 1 (some .boolean)) { frames := 1, cells := 0, slots := 0, locals := 22 } as w v w2 := by
  unfold K_mm_isAmount at h
  split at h
  · rename_i a0
    obtain ⟨q, h2, h3⟩ := Option.bind_eq_some_iff.mp h
    exact ⟨_, _, h3, eMet_of (by decide +kernel) rfl (by simp [eCat, Value.category]) rZ_ret (fun p e s m args below meth c hcx => go_mm_isAmount hcx a0 w q h2)⟩
  · cases h
def CX12_fallsBy : eCo := [[some (.ldc2_w 263), none, none, some (.iload_n 0), some (.iload_n 0), some (.i2l), some (.iload_n 1), some (.i2l), some (.lmul), some (.ldc2_w 263), none, none, some (.ldiv), some (.l2i), some (.isub), some (.i2l)],
  [some (.lmul), some (.lreturn)]]
theorem dcX12_fallsBy : eDec cX12_fallsBy CX12_fallsBy := eDec_of (by decide +kernel)
def rs_mm_fallsBy : List (Nat × eR) := [(263, (3, 0, 0, 100))]
noncomputable def cs_mm_fallsBy : List (eF (Int64 × eW)) := []
noncomputable def f_mm_fallsBy (a0 : Int32) (a1 : Int32) (w : eW) : Option (Int64 × eW) := (some (((100 : Int64) * (((a0 - ((((((a0).toInt64) * ((a1).toInt64)) / (100 : Int64))).toInt32))).toInt64)), w))
noncomputable def K_mm_fallsBy {ρ : Type} : eF ρ := fun as w k => match as with
  | [.int a0, .int a1] => (f_mm_fallsBy a0 a1 w).bind (fun p => k (some (.long p.1)) p.2)
  | _ => none
section
variable {p : Program} {l : Launch} {e : Env} {s : State} {m : MethodId} {args : Array Value} {below : List Frame} {meth : Method} {c : Code} {ad : Nat → Nat} {D : va_G} {cA : Nat → ClassId}
theorem lk_mm_fallsBy : ∀ q ∈ rs_mm_fallsBy, eLnk { frames := 0, cells := 0, slots := 0, locals := 0 } vwCl (eWd yX12_fallsBy cX12_fallsBy 2 (some .long)) SSm SHm.length RX12 q.1 q.2 := List.forall_mem_cons.mpr ⟨lkX12_263 eTb_wd, fun _ h => absurd h List.not_mem_nil⟩
theorem hc_mm_fallsBy {x : Int64 × eW} : ∀ q ∈ rs_mm_fallsBy, eHc l { frames := 0, cells := 0, slots := 0, locals := 0 } ad D cA vwCl SHm SSm (eWd yX12_fallsBy cX12_fallsBy 2 (some .long)) RX12 cs_mm_fallsBy x q := List.forall_mem_cons.mpr ⟨trivial, fun _ h => absurd h List.not_mem_nil⟩
set_option maxRecDepth 100000 in
set_option maxHeartbeats 4000000 in
theorem go_mm_fallsBy (hcx : eCx p { frames := 0, cells := 0, slots := 0, locals := 0 } s m args meth c cX12_fallsBy RX12 2 ad D cA vwCl SHm SSm (eWd yX12_fallsBy cX12_fallsBy 2 (some .long)) (some .long)) (a0 : Int32) (a1 : Int32) (w : eW) (x : Int64 × eW) (h : f_mm_fallsBy a0 a1 w = some x) : eGq p l e { frames := 0, cells := 0, slots := 0, locals := 0 } s m args below meth c 2 ad D cA vwCl SHm rJ x 0 (eEnt [.int a0, .int a1]) [] w := by
  have h : eRun SHm SSm 2 rs_mm_fallsBy (eCs cs_mm_fallsBy) rJ CX12_fallsBy [] (fun pc L st w => none) 16 true 0 [some (.int a0), some (.int a1)] [] w = some x := h
  refine eGo.wk (eRun_go hcx (eLnk_all lk_mm_fallsBy) (eHc_all hc_mm_fallsBy) rJ_ok dcX12_fallsBy [] _ (fun pc L st w hK => ?_) 16 true 0 _ _ w h) (eLe_wk ⟨rfl, rfl, trivial⟩)
  cases hK
end
set_option maxRecDepth 100000 in
set_option maxHeartbeats 4000000 in
theorem ok_mm_fallsBy {l : Launch} {ad : Nat → Nat} {D : va_G} {cA : Nat → ClassId} {ρ : Type} (as : List Value) (w : eW) (k : Option Value → eW → Option ρ) (x : ρ) (h : K_mm_fallsBy as w k = some x) : ∃ (v : Option Value) (w2 : eW), k v w2 = some x ∧ eMet l ad D cA vwCl SHm SSm yX12_fallsBy (eWd yX12_fallsBy cX12_fallsBy 2 (some .long)) { frames := 0, cells := 0, slots := 0, locals := 0 } as w v w2 := by
  unfold K_mm_fallsBy at h
  split at h
  · rename_i a0 a1
    obtain ⟨q, h2, h3⟩ := Option.bind_eq_some_iff.mp h
    exact ⟨_, _, h3, eMet_of (by decide +kernel) rfl (by simp [eCat, Value.category]) rJ_ret (fun p e s m args below meth c hcx => go_mm_fallsBy hcx a0 a1 w q h2)⟩
  · cases h
def CX12_isClass : eCo := [[some (.aload_n 0), some (.iload_n 1), some (.invokevirtual 105), none, none, some (.ifCond .eq 17), none, none, some (.aload_n 0), some (.getfield 7), none, none, some (.iload_n 1), some (.iaload), some (.iconst 2), some (.if_icmp .ne 7)],
  [none, none, some (.iconst 1), some (.goto 4), none, none, some (.iconst 0), some (.ireturn)]]
theorem dcX12_isClass : eDec cX12_isClass CX12_isClass := eDec_of (by decide +kernel)
def rs_mm_isClass : List (Nat × eR) := [(7, (0, 11, 5, 2)), (105, (1, 0, 1, 11))]
noncomputable def cs_mm_isClass : List (eF (Int32 × eW)) := [K_mm_isHolder]
noncomputable def f_mm_isClass (a1 : Int32) (w : eW) : Option (Int32 × eW) := ((f_mm_isHolder a1 w).bind fun p1 => (if p1.1 = 0 then (some ((0 : Int32), p1.2)) else (eChk a1 24 (if ¬ (p1.2.1 0 (Int32.toNatClampNeg a1)) = (2 : Int32) then (some ((0 : Int32), p1.2)) else (some ((1 : Int32), p1.2))))))
noncomputable def K_mm_isClass {ρ : Type} : eF ρ := fun as w k => match as with
  | [.ref r0, .int a1] => bif Nat.beq r0 24 then (f_mm_isClass a1 w).bind (fun p => k (some (.int p.1)) p.2) else none
  | _ => none
section
variable {p : Program} {l : Launch} {e : Env} {s : State} {m : MethodId} {args : Array Value} {below : List Frame} {meth : Method} {c : Code} {ad : Nat → Nat} {D : va_G} {cA : Nat → ClassId}
theorem lk_mm_isClass : ∀ q ∈ rs_mm_isClass, eLnk { frames := 2, cells := 0, slots := 0, locals := 43 } vwCl (eWd yX12_isClass cX12_isClass 2 (some .boolean)) SSm SHm.length RX12 q.1 q.2 := List.forall_mem_cons.mpr ⟨lkX12_7 eTb_wd, List.forall_mem_cons.mpr ⟨trivial, fun _ h => absurd h List.not_mem_nil⟩⟩
theorem hc_mm_isClass {x : Int32 × eW} : ∀ q ∈ rs_mm_isClass, eHc l { frames := 2, cells := 0, slots := 0, locals := 43 } ad D cA vwCl SHm SSm (eWd yX12_isClass cX12_isClass 2 (some .boolean)) RX12 cs_mm_isClass x q := List.forall_mem_cons.mpr ⟨trivial, List.forall_mem_cons.mpr ⟨(fun as w k h => let ⟨v, w2, h1, h2⟩ := ok_mm_isHolder as w k x h; ⟨v, w2, h1, eCal_of h2 ⟨rfl, rfl⟩ hdX12_isHolder (gvX12_105 eTb_wd)⟩), fun _ h => absurd h List.not_mem_nil⟩⟩
set_option maxRecDepth 100000 in
set_option maxHeartbeats 4000000 in
theorem go_mm_isClass (hcx : eCx p { frames := 2, cells := 0, slots := 0, locals := 43 } s m args meth c cX12_isClass RX12 2 ad D cA vwCl SHm SSm (eWd yX12_isClass cX12_isClass 2 (some .boolean)) (some .boolean)) (a1 : Int32) (w : eW) (x : Int32 × eW) (h : f_mm_isClass a1 w = some x) : eGq p l e { frames := 2, cells := 0, slots := 0, locals := 43 } s m args below meth c 2 ad D cA vwCl SHm rZ x 0 (eEnt [.ref 24, .int a1]) [] w := by
  have h : eRun SHm SSm 2 rs_mm_isClass (eCs cs_mm_isClass) rZ CX12_isClass [] (fun pc L st w => none) 15 true 0 [some (.ref 24), some (.int a1)] [] w = some x := h
  refine eGo.wk (eRun_go hcx (eLnk_all lk_mm_isClass) (eHc_all hc_mm_isClass) rZ_ok dcX12_isClass [] _ (fun pc L st w hK => ?_) 15 true 0 _ _ w h) (eLe_wk ⟨rfl, rfl, trivial⟩)
  cases hK
end
set_option maxRecDepth 100000 in
set_option maxHeartbeats 4000000 in
theorem ok_mm_isClass {l : Launch} {ad : Nat → Nat} {D : va_G} {cA : Nat → ClassId} {ρ : Type} (as : List Value) (w : eW) (k : Option Value → eW → Option ρ) (x : ρ) (h : K_mm_isClass as w k = some x) : ∃ (v : Option Value) (w2 : eW), k v w2 = some x ∧ eMet l ad D cA vwCl SHm SSm yX12_isClass (eWd yX12_isClass cX12_isClass 2 (some .boolean)) { frames := 2, cells := 0, slots := 0, locals := 43 } as w v w2 := by
  unfold K_mm_isClass at h
  split at h
  · rename_i r0 a1
    obtain ⟨h1, h5⟩ := eBif h
    clear h
    have h := h5
    clear h5
    have h1 := Nat.eq_of_beq_eq_true h1
    subst h1
    obtain ⟨q, h2, h3⟩ := Option.bind_eq_some_iff.mp h
    exact ⟨_, _, h3, eMet_of (by decide +kernel) rfl (by simp [eCat, Value.category]) rZ_ret (fun p e s m args below meth c hcx => go_mm_isClass hcx a1 w q h2)⟩
  · cases h
def CX12_canTurn : eCo := [[some (.aload_n 0), some (.iload_n 1), some (.invokevirtual 110), none, none, some (.ifCond .eq 25), none, none, some (.aload_n 0), some (.getfield 28), none, none, some (.iload_n 1), some (.iaload), some (.ifCond .eq 12), none],
  [none, some (.aload_n 0), some (.getfield 31), none, none, some (.iload_n 1), some (.iaload), some (.ifCond .lt 7), none, none, some (.iconst 1), some (.goto 4), none, none, some (.iconst 0), some (.ireturn)]]
theorem dcX12_canTurn : eDec cX12_canTurn CX12_canTurn := eDec_of (by decide +kernel)
def rs_mm_canTurn : List (Nat × eR) := [(28, (0, 11, 11, 2)), (31, (0, 11, 12, 2)), (110, (1, 0, 1, 11))]
noncomputable def cs_mm_canTurn : List (eF (Int32 × eW)) := [K_mm_isClass]
noncomputable def f_mm_canTurn (a1 : Int32) (w : eW) : Option (Int32 × eW) := ((f_mm_isClass a1 w).bind fun p1 => (if p1.1 = 0 then (some ((0 : Int32), p1.2)) else (eChk a1 24 (if (p1.2.1 6 (Int32.toNatClampNeg a1)) = 0 then (some ((1 : Int32), p1.2)) else (eChk a1 24 (if (p1.2.1 7 (Int32.toNatClampNeg a1)) < 0 then (some ((0 : Int32), p1.2)) else (some ((1 : Int32), p1.2))))))))
noncomputable def K_mm_canTurn {ρ : Type} : eF ρ := fun as w k => match as with
  | [.ref r0, .int a1] => bif Nat.beq r0 24 then (f_mm_canTurn a1 w).bind (fun p => k (some (.int p.1)) p.2) else none
  | _ => none
section
variable {p : Program} {l : Launch} {e : Env} {s : State} {m : MethodId} {args : Array Value} {below : List Frame} {meth : Method} {c : Code} {ad : Nat → Nat} {D : va_G} {cA : Nat → ClassId}
theorem lk_mm_canTurn : ∀ q ∈ rs_mm_canTurn, eLnk { frames := 3, cells := 0, slots := 0, locals := 64 } vwCl (eWd yX12_canTurn cX12_canTurn 2 (some .boolean)) SSm SHm.length RX12 q.1 q.2 := List.forall_mem_cons.mpr ⟨lkX12_28 eTb_wd, List.forall_mem_cons.mpr ⟨lkX12_31 eTb_wd, List.forall_mem_cons.mpr ⟨trivial, fun _ h => absurd h List.not_mem_nil⟩⟩⟩
theorem hc_mm_canTurn {x : Int32 × eW} : ∀ q ∈ rs_mm_canTurn, eHc l { frames := 3, cells := 0, slots := 0, locals := 64 } ad D cA vwCl SHm SSm (eWd yX12_canTurn cX12_canTurn 2 (some .boolean)) RX12 cs_mm_canTurn x q := List.forall_mem_cons.mpr ⟨trivial, List.forall_mem_cons.mpr ⟨trivial, List.forall_mem_cons.mpr ⟨(fun as w k h => let ⟨v, w2, h1, h2⟩ := ok_mm_isClass as w k x h; ⟨v, w2, h1, eCal_of h2 ⟨rfl, rfl⟩ hdX12_isClass (gvX12_110 eTb_wd)⟩), fun _ h => absurd h List.not_mem_nil⟩⟩⟩
set_option maxRecDepth 100000 in
set_option maxHeartbeats 4000000 in
theorem go_mm_canTurn (hcx : eCx p { frames := 3, cells := 0, slots := 0, locals := 64 } s m args meth c cX12_canTurn RX12 2 ad D cA vwCl SHm SSm (eWd yX12_canTurn cX12_canTurn 2 (some .boolean)) (some .boolean)) (a1 : Int32) (w : eW) (x : Int32 × eW) (h : f_mm_canTurn a1 w = some x) : eGq p l e { frames := 3, cells := 0, slots := 0, locals := 64 } s m args below meth c 2 ad D cA vwCl SHm rZ x 0 (eEnt [.ref 24, .int a1]) [] w := by
  have h : eRun SHm SSm 2 rs_mm_canTurn (eCs cs_mm_canTurn) rZ CX12_canTurn [] (fun pc L st w => none) 19 true 0 [some (.ref 24), some (.int a1)] [] w = some x := h
  refine eGo.wk (eRun_go hcx (eLnk_all lk_mm_canTurn) (eHc_all hc_mm_canTurn) rZ_ok dcX12_canTurn [] _ (fun pc L st w hK => ?_) 19 true 0 _ _ w h) (eLe_wk ⟨rfl, rfl, trivial⟩)
  cases hK
end
set_option maxRecDepth 100000 in
set_option maxHeartbeats 4000000 in
theorem ok_mm_canTurn {l : Launch} {ad : Nat → Nat} {D : va_G} {cA : Nat → ClassId} {ρ : Type} (as : List Value) (w : eW) (k : Option Value → eW → Option ρ) (x : ρ) (h : K_mm_canTurn as w k = some x) : ∃ (v : Option Value) (w2 : eW), k v w2 = some x ∧ eMet l ad D cA vwCl SHm SSm yX12_canTurn (eWd yX12_canTurn cX12_canTurn 2 (some .boolean)) { frames := 3, cells := 0, slots := 0, locals := 64 } as w v w2 := by
  unfold K_mm_canTurn at h
  split at h
  · rename_i r0 a1
    obtain ⟨h1, h5⟩ := eBif h
    clear h
    have h := h5
    clear h5
    have h1 := Nat.eq_of_beq_eq_true h1
    subst h1
    obtain ⟨q, h2, h3⟩ := Option.bind_eq_some_iff.mp h
    exact ⟨_, _, h3, eMet_of (by decide +kernel) rfl (by simp [eCat, Value.category]) rZ_ret (fun p e s m args below meth c hcx => go_mm_canTurn hcx a1 w q h2)⟩
  · cases h
def CX12_isTurned : eCo := [[some (.aload_n 0), some (.getfield 244), none, none, some (.ifCond .eq 26), none, none, some (.aload_n 0), some (.getfield 247), none, none, some (.iload_n 1), some (.invokestatic 116), none, none, some (.ifCond .eq 15)],
  [none, none, some (.aload_n 0), some (.iload_n 1), some (.invokevirtual 250), none, none, some (.ifCond .eq 7), none, none, some (.iconst 1), some (.goto 4), none, none, some (.iconst 0), some (.ireturn)]]
theorem dcX12_isTurned : eDec cX12_isTurned CX12_isTurned := eDec_of (by decide +kernel)
def rs_mm_isTurned : List (Nat × eR) := [(116, (1, 0, 2, -1)), (244, (0, 11, 36, 3)), (247, (0, 11, 35, 0)), (250, (1, 1, 1, 11))]
noncomputable def cs_mm_isTurned : List (eF (Int32 × eW)) := [K_mm_isOf, K_mm_canTurn]
noncomputable def f_mm_isTurned (a1 : Int32) (w : eW) : Option (Int32 × eW) := (if (w.1 24 36) = 0 then (some ((0 : Int32), w)) else ((f_mm_isOf (w.1 24 35) a1 w).bind fun p1 => (if p1.1 = 0 then (some ((0 : Int32), p1.2)) else ((f_mm_canTurn a1 p1.2).bind fun p2 => (if p2.1 = 0 then (some ((0 : Int32), p2.2)) else (some ((1 : Int32), p2.2)))))))
noncomputable def K_mm_isTurned {ρ : Type} : eF ρ := fun as w k => match as with
  | [.ref r0, .int a1] => bif Nat.beq r0 24 then (f_mm_isTurned a1 w).bind (fun p => k (some (.int p.1)) p.2) else none
  | _ => none
section
variable {p : Program} {l : Launch} {e : Env} {s : State} {m : MethodId} {args : Array Value} {below : List Frame} {meth : Method} {c : Code} {ad : Nat → Nat} {D : va_G} {cA : Nat → ClassId}
theorem lk_mm_isTurned : ∀ q ∈ rs_mm_isTurned, eLnk { frames := 4, cells := 0, slots := 0, locals := 85 } vwCl (eWd yX12_isTurned cX12_isTurned 2 (some .boolean)) SSm SHm.length RX12 q.1 q.2 := List.forall_mem_cons.mpr ⟨trivial, List.forall_mem_cons.mpr ⟨lkX12_244 eTb_wd, List.forall_mem_cons.mpr ⟨lkX12_247 eTb_wd, List.forall_mem_cons.mpr ⟨trivial, fun _ h => absurd h List.not_mem_nil⟩⟩⟩⟩
theorem hc_mm_isTurned {x : Int32 × eW} : ∀ q ∈ rs_mm_isTurned, eHc l { frames := 4, cells := 0, slots := 0, locals := 85 } ad D cA vwCl SHm SSm (eWd yX12_isTurned cX12_isTurned 2 (some .boolean)) RX12 cs_mm_isTurned x q := List.forall_mem_cons.mpr ⟨(fun as w k h => let ⟨v, w2, h1, h2⟩ := ok_mm_isOf as w k x h; ⟨v, w2, h1, eCal_of h2 ⟨rfl, rfl⟩ hdX12_isOf (gvX12_116 eTb_wd)⟩), List.forall_mem_cons.mpr ⟨trivial, List.forall_mem_cons.mpr ⟨trivial, List.forall_mem_cons.mpr ⟨(fun as w k h => let ⟨v, w2, h1, h2⟩ := ok_mm_canTurn as w k x h; ⟨v, w2, h1, eCal_of h2 ⟨rfl, rfl⟩ hdX12_canTurn (gvX12_250 eTb_wd)⟩), fun _ h => absurd h List.not_mem_nil⟩⟩⟩⟩
set_option maxRecDepth 100000 in
set_option maxHeartbeats 4000000 in
theorem go_mm_isTurned (hcx : eCx p { frames := 4, cells := 0, slots := 0, locals := 85 } s m args meth c cX12_isTurned RX12 2 ad D cA vwCl SHm SSm (eWd yX12_isTurned cX12_isTurned 2 (some .boolean)) (some .boolean)) (a1 : Int32) (w : eW) (x : Int32 × eW) (h : f_mm_isTurned a1 w = some x) : eGq p l e { frames := 4, cells := 0, slots := 0, locals := 85 } s m args below meth c 2 ad D cA vwCl SHm rZ x 0 (eEnt [.ref 24, .int a1]) [] w := by
  have h : eRun SHm SSm 2 rs_mm_isTurned (eCs cs_mm_isTurned) rZ CX12_isTurned [] (fun pc L st w => none) 17 true 0 [some (.ref 24), some (.int a1)] [] w = some x := h
  refine eGo.wk (eRun_go hcx (eLnk_all lk_mm_isTurned) (eHc_all hc_mm_isTurned) rZ_ok dcX12_isTurned [] _ (fun pc L st w hK => ?_) 17 true 0 _ _ w h) (eLe_wk ⟨rfl, rfl, trivial⟩)
  cases hK
end
set_option maxRecDepth 100000 in
set_option maxHeartbeats 4000000 in
theorem ok_mm_isTurned {l : Launch} {ad : Nat → Nat} {D : va_G} {cA : Nat → ClassId} {ρ : Type} (as : List Value) (w : eW) (k : Option Value → eW → Option ρ) (x : ρ) (h : K_mm_isTurned as w k = some x) : ∃ (v : Option Value) (w2 : eW), k v w2 = some x ∧ eMet l ad D cA vwCl SHm SSm yX12_isTurned (eWd yX12_isTurned cX12_isTurned 2 (some .boolean)) { frames := 4, cells := 0, slots := 0, locals := 85 } as w v w2 := by
  unfold K_mm_isTurned at h
  split at h
  · rename_i r0 a1
    obtain ⟨h1, h5⟩ := eBif h
    clear h
    have h := h5
    clear h5
    have h1 := Nat.eq_of_beq_eq_true h1
    subst h1
    obtain ⟨q, h2, h3⟩ := Option.bind_eq_some_iff.mp h
    exact ⟨_, _, h3, eMet_of (by decide +kernel) rfl (by simp [eCat, Value.category]) rZ_ret (fun p e s m args below meth c hcx => go_mm_isTurned hcx a1 w q h2)⟩
  · cases h
def CX12_firstOf : eCo := [[some (.aload_n 0), some (.iload_n 1), some (.invokevirtual 253), none, none, some (.ifCond .eq 7), none, none, some (.lconst 0), some (.goto 9), none, none, some (.aload_n 0), some (.iload_n 1), some (.invokevirtual 120), none],
  [none, some (.i2l), some (.lreturn)]]
theorem dcX12_firstOf : eDec cX12_firstOf CX12_firstOf := eDec_of (by decide +kernel)
def rs_mm_firstOf : List (Nat × eR) := [(120, (1, 1, 1, 11)), (253, (1, 0, 1, 11))]
noncomputable def cs_mm_firstOf : List (eF (Int64 × eW)) := [K_mm_isTurned, K_mm_prefOf]
noncomputable def f_mm_firstOf (a1 : Int32) (w : eW) : Option (Int64 × eW) := ((f_mm_isTurned a1 w).bind fun p1 => (if p1.1 = 0 then ((f_mm_prefOf a1 p1.2).bind fun p2 => (some (((p2.1).toInt64), p2.2))) else (some ((0 : Int64), p1.2))))
noncomputable def K_mm_firstOf {ρ : Type} : eF ρ := fun as w k => match as with
  | [.ref r0, .int a1] => bif Nat.beq r0 24 then (f_mm_firstOf a1 w).bind (fun p => k (some (.long p.1)) p.2) else none
  | _ => none
section
variable {p : Program} {l : Launch} {e : Env} {s : State} {m : MethodId} {args : Array Value} {below : List Frame} {meth : Method} {c : Code} {ad : Nat → Nat} {D : va_G} {cA : Nat → ClassId}
theorem lk_mm_firstOf : ∀ q ∈ rs_mm_firstOf, eLnk { frames := 5, cells := 0, slots := 0, locals := 106 } vwCl (eWd yX12_firstOf cX12_firstOf 2 (some .long)) SSm SHm.length RX12 q.1 q.2 := List.forall_mem_cons.mpr ⟨trivial, List.forall_mem_cons.mpr ⟨trivial, fun _ h => absurd h List.not_mem_nil⟩⟩
theorem hc_mm_firstOf {x : Int64 × eW} : ∀ q ∈ rs_mm_firstOf, eHc l { frames := 5, cells := 0, slots := 0, locals := 106 } ad D cA vwCl SHm SSm (eWd yX12_firstOf cX12_firstOf 2 (some .long)) RX12 cs_mm_firstOf x q := List.forall_mem_cons.mpr ⟨(fun as w k h => let ⟨v, w2, h1, h2⟩ := ok_mm_prefOf as w k x h; ⟨v, w2, h1, eCal_of h2 ⟨rfl, rfl⟩ hdX12_prefOf (gvX12_120 eTb_wd)⟩), List.forall_mem_cons.mpr ⟨(fun as w k h => let ⟨v, w2, h1, h2⟩ := ok_mm_isTurned as w k x h; ⟨v, w2, h1, eCal_of h2 ⟨rfl, rfl⟩ hdX12_isTurned (gvX12_253 eTb_wd)⟩), fun _ h => absurd h List.not_mem_nil⟩⟩
set_option maxRecDepth 100000 in
set_option maxHeartbeats 4000000 in
theorem go_mm_firstOf (hcx : eCx p { frames := 5, cells := 0, slots := 0, locals := 106 } s m args meth c cX12_firstOf RX12 2 ad D cA vwCl SHm SSm (eWd yX12_firstOf cX12_firstOf 2 (some .long)) (some .long)) (a1 : Int32) (w : eW) (x : Int64 × eW) (h : f_mm_firstOf a1 w = some x) : eGq p l e { frames := 5, cells := 0, slots := 0, locals := 106 } s m args below meth c 2 ad D cA vwCl SHm rJ x 0 (eEnt [.ref 24, .int a1]) [] w := by
  have h : eRun SHm SSm 2 rs_mm_firstOf (eCs cs_mm_firstOf) rJ CX12_firstOf [] (fun pc L st w => none) 11 true 0 [some (.ref 24), some (.int a1)] [] w = some x := h
  refine eGo.wk (eRun_go hcx (eLnk_all lk_mm_firstOf) (eHc_all hc_mm_firstOf) rJ_ok dcX12_firstOf [] _ (fun pc L st w hK => ?_) 11 true 0 _ _ w h) (eLe_wk ⟨rfl, rfl, trivial⟩)
  cases hK
end
set_option maxRecDepth 100000 in
set_option maxHeartbeats 4000000 in
theorem ok_mm_firstOf {l : Launch} {ad : Nat → Nat} {D : va_G} {cA : Nat → ClassId} {ρ : Type} (as : List Value) (w : eW) (k : Option Value → eW → Option ρ) (x : ρ) (h : K_mm_firstOf as w k = some x) : ∃ (v : Option Value) (w2 : eW), k v w2 = some x ∧ eMet l ad D cA vwCl SHm SSm yX12_firstOf (eWd yX12_firstOf cX12_firstOf 2 (some .long)) { frames := 5, cells := 0, slots := 0, locals := 106 } as w v w2 := by
  unfold K_mm_firstOf at h
  split at h
  · rename_i r0 a1
    obtain ⟨h1, h5⟩ := eBif h
    clear h
    have h := h5
    clear h5
    have h1 := Nat.eq_of_beq_eq_true h1
    subst h1
    obtain ⟨q, h2, h3⟩ := Option.bind_eq_some_iff.mp h
    exact ⟨_, _, h3, eMet_of (by decide +kernel) rfl (by simp [eCat, Value.category]) rJ_ret (fun p e s m args below meth c hcx => go_mm_firstOf hcx a1 w q h2)⟩
  · cases h
