def CX4_isWaived : eCo := [[some (.iload_n 1), some (.ifCond .lt 27), none, none, some (.iload_n 1), some (.aload_n 0), some (.getfield 15), none, none, some (.if_icmp .ge 19), none, none, some (.aload_n 0), some (.getfield 22), none, none],
  [some (.iload_n 1), some (.ishr), some (.iconst 1), some (.iand), some (.iconst 1), some (.if_icmp .ne 7), none, none, some (.iconst 1), some (.goto 4), none, none, some (.iconst 0), some (.ireturn)]]
theorem dcX4_isWaived : eDec cX4_isWaived CX4_isWaived := eDec_of (by decide +kernel)
def rs_fi_isWaived : List (Nat × eR) := [(15, (0, 4, 0, 0)), (22, (0, 4, 2, 0))]
noncomputable def cs_fi_isWaived : List (eF (Int32 × eW)) := []
noncomputable def f_fi_isWaived (a1 : Int32) (w : eW) : Option (Int32 × eW) := (if a1 < 0 then (some ((0 : Int32), w)) else (if (w.1 8 0) ≤ a1 then (some ((0 : Int32), w)) else (if ¬ (((w.1 8 2) >>> (a1 &&& 31)) &&& (1 : Int32)) = (1 : Int32) then (some ((0 : Int32), w)) else (some ((1 : Int32), w)))))
noncomputable def K_fi_isWaived {ρ : Type} : eF ρ := fun as w k => match as with
  | [.ref r0, .int a1] => bif Nat.beq r0 8 then (f_fi_isWaived a1 w).bind (fun p => k (some (.int p.1)) p.2) else none
  | _ => none
section
variable {p : Program} {l : Launch} {e : Env} {s : State} {m : MethodId} {args : Array Value} {below : List Frame} {meth : Method} {c : Code} {ad : Nat → Nat} {D : va_G} {cA : Nat → ClassId}
theorem lk_fi_isWaived : ∀ q ∈ rs_fi_isWaived, eLnk { frames := 0, cells := 0, slots := 0, locals := 0 } vwCl (eWd yX4_isWaived cX4_isWaived 2 (some .boolean)) SSc SHc.length RX4 q.1 q.2 := List.forall_mem_cons.mpr ⟨lkX4_15 eTb_wd, List.forall_mem_cons.mpr ⟨lkX4_22 eTb_wd, fun _ h => absurd h List.not_mem_nil⟩⟩
theorem hc_fi_isWaived {x : Int32 × eW} : ∀ q ∈ rs_fi_isWaived, eHc l { frames := 0, cells := 0, slots := 0, locals := 0 } ad D cA vwCl SHc SSc (eWd yX4_isWaived cX4_isWaived 2 (some .boolean)) RX4 cs_fi_isWaived x q := List.forall_mem_cons.mpr ⟨trivial, List.forall_mem_cons.mpr ⟨trivial, fun _ h => absurd h List.not_mem_nil⟩⟩
set_option maxRecDepth 100000 in
set_option maxHeartbeats 4000000 in
theorem go_fi_isWaived (hcx : eCx p { frames := 0, cells := 0, slots := 0, locals := 0 } s m args meth c cX4_isWaived RX4 2 ad D cA vwCl SHc SSc (eWd yX4_isWaived cX4_isWaived 2 (some .boolean)) (some .boolean)) (a1 : Int32) (w : eW) (x : Int32 × eW) (h : f_fi_isWaived a1 w = some x) : eGq p l e { frames := 0, cells := 0, slots := 0, locals := 0 } s m args below meth c 2 ad D cA vwCl SHc rZ x 0 (eEnt [.ref 8, .int a1]) [] w := by
  have h : eRun SHc SSc 2 rs_fi_isWaived (eCs cs_fi_isWaived) rZ CX4_isWaived [] (fun pc L st w => none) 19 true 0 [some (.ref 8), some (.int a1)] [] w = some x := h
  refine eGo.wk (eRun_go hcx (eLnk_all lk_fi_isWaived) (eHc_all hc_fi_isWaived) rZ_ok dcX4_isWaived [] _ (fun pc L st w hK => ?_) 19 true 0 _ _ w h) (eLe_wk ⟨rfl, rfl, trivial⟩)
  cases hK
end
set_option maxRecDepth 100000 in
set_option maxHeartbeats 4000000 in
theorem ok_fi_isWaived {l : Launch} {ad : Nat → Nat} {D : va_G} {cA : Nat → ClassId} {ρ : Type} (as : List Value) (w : eW) (k : Option Value → eW → Option ρ) (x : ρ) (h : K_fi_isWaived as w k = some x) : ∃ (v : Option Value) (w2 : eW), k v w2 = some x ∧ eMet l ad D cA vwCl SHc SSc yX4_isWaived (eWd yX4_isWaived cX4_isWaived 2 (some .boolean)) { frames := 0, cells := 0, slots := 0, locals := 0 } as w v w2 := by
  unfold K_fi_isWaived at h
  split at h
  · rename_i r0 a1
    obtain ⟨h1, h5⟩ := eBif h
    clear h
    have h := h5
    clear h5
    have h1 := Nat.eq_of_beq_eq_true h1
    subst h1
    obtain ⟨q, h2, h3⟩ := Option.bind_eq_some_iff.mp h
    exact ⟨_, _, h3, eMet_of (by decide +kernel) rfl (by simp [eCat, Value.category]) rZ_ret (fun p e s m args below meth c hcx => go_fi_isWaived hcx a1 w q h2)⟩
  · cases h
def CX4_prefOf : eCo := [[some (.aload_n 0), some (.iload_n 1), some (.invokevirtual 43), none, none, some (.ifCond .eq 11), none, none, some (.aload_n 0), some (.iload_n 1), some (.invokevirtual 46), none, none, some (.ifCond .eq 5), none, none],
  [some (.iconst 0), some (.ireturn), some (.aload_n 0), some (.iload_n 1), some (.iconst 2), some (.invokevirtual 39), none, none, some (.aload_n 0), some (.iload_n 1), some (.iconst 4), some (.invokevirtual 39), none, none, some (.aload_n 0), some (.iload_n 1)],
  [some (.bipush 8), none, some (.invokevirtual 39), none, none, some (.aload_n 0), some (.iload_n 1), some (.bipush 9), none, some (.invokevirtual 39), none, none, some (.imul), some (.iadd), some (.imul), some (.ireturn)]]
theorem dcX4_prefOf : eDec cX4_prefOf CX4_prefOf := eDec_of (by decide +kernel)
def rs_fi_prefOf : List (Nat × eR) := [(39, (1, 2, 2, 4)), (43, (1, 0, 1, 4)), (46, (1, 1, 1, 4))]
noncomputable def cs_fi_prefOf : List (eF (Int32 × eW)) := [K_fi_isClass, K_fi_isWaived, K_fi_fact]
noncomputable def f_fi_prefOf (a1 : Int32) (w : eW) : Option (Int32 × eW) := ((f_fi_isClass a1 w).bind fun p1 => (if p1.1 = 0 then (some ((0 : Int32), p1.2)) else ((f_fi_isWaived a1 p1.2).bind fun p2 => (if p2.1 = 0 then ((f_fi_fact a1 (2 : Int32) p2.2).bind fun p3 => ((f_fi_fact a1 (4 : Int32) p3.2).bind fun p4 => ((f_fi_fact a1 (8 : Int32) p4.2).bind fun p5 => ((f_fi_fact a1 (9 : Int32) p5.2).bind fun p6 => (some ((p3.1 * (p4.1 + (p5.1 * p6.1))), p6.2)))))) else (some ((0 : Int32), p2.2))))))
noncomputable def K_fi_prefOf {ρ : Type} : eF ρ := fun as w k => match as with
  | [.ref r0, .int a1] => bif Nat.beq r0 8 then (f_fi_prefOf a1 w).bind (fun p => k (some (.int p.1)) p.2) else none
  | _ => none
section
variable {p : Program} {l : Launch} {e : Env} {s : State} {m : MethodId} {args : Array Value} {below : List Frame} {meth : Method} {c : Code} {ad : Nat → Nat} {D : va_G} {cA : Nat → ClassId}
theorem lk_fi_prefOf : ∀ q ∈ rs_fi_prefOf, eLnk { frames := 1, cells := 0, slots := 0, locals := 22 } vwCl (eWd yX4_prefOf cX4_prefOf 2 (some .int)) SSc SHc.length RX4 q.1 q.2 := List.forall_mem_cons.mpr ⟨trivial, List.forall_mem_cons.mpr ⟨trivial, List.forall_mem_cons.mpr ⟨trivial, fun _ h => absurd h List.not_mem_nil⟩⟩⟩
theorem hc_fi_prefOf {x : Int32 × eW} : ∀ q ∈ rs_fi_prefOf, eHc l { frames := 1, cells := 0, slots := 0, locals := 22 } ad D cA vwCl SHc SSc (eWd yX4_prefOf cX4_prefOf 2 (some .int)) RX4 cs_fi_prefOf x q := List.forall_mem_cons.mpr ⟨(fun as w k h => let ⟨v, w2, h1, h2⟩ := ok_fi_fact as w k x h; ⟨v, w2, h1, eCal_of h2 ⟨rfl, rfl⟩ hdX4_fact (gvX4_39 eTb_wd)⟩), List.forall_mem_cons.mpr ⟨(fun as w k h => let ⟨v, w2, h1, h2⟩ := ok_fi_isClass as w k x h; ⟨v, w2, h1, eCal_of h2 ⟨rfl, rfl⟩ hdX4_isClass (gvX4_43 eTb_wd)⟩), List.forall_mem_cons.mpr ⟨(fun as w k h => let ⟨v, w2, h1, h2⟩ := ok_fi_isWaived as w k x h; ⟨v, w2, h1, eCal_of h2 ⟨rfl, rfl⟩ hdX4_isWaived (gvX4_46 eTb_wd)⟩), fun _ h => absurd h List.not_mem_nil⟩⟩⟩
set_option maxRecDepth 100000 in
set_option maxHeartbeats 4000000 in
theorem go_fi_prefOf (hcx : eCx p { frames := 1, cells := 0, slots := 0, locals := 22 } s m args meth c cX4_prefOf RX4 2 ad D cA vwCl SHc SSc (eWd yX4_prefOf cX4_prefOf 2 (some .int)) (some .int)) (a1 : Int32) (w : eW) (x : Int32 × eW) (h : f_fi_prefOf a1 w = some x) : eGq p l e { frames := 1, cells := 0, slots := 0, locals := 22 } s m args below meth c 2 ad D cA vwCl SHc rI x 0 (eEnt [.ref 8, .int a1]) [] w := by
  have h : eRun SHc SSc 2 rs_fi_prefOf (eCs cs_fi_prefOf) rI CX4_prefOf [] (fun pc L st w => none) 30 true 0 [some (.ref 8), some (.int a1)] [] w = some x := h
  refine eGo.wk (eRun_go hcx (eLnk_all lk_fi_prefOf) (eHc_all hc_fi_prefOf) rI_ok dcX4_prefOf [] _ (fun pc L st w hK => ?_) 30 true 0 _ _ w h) (eLe_wk ⟨rfl, rfl, trivial⟩)
  cases hK
end
set_option maxRecDepth 100000 in
set_option maxHeartbeats 4000000 in
theorem ok_fi_prefOf {l : Launch} {ad : Nat → Nat} {D : va_G} {cA : Nat → ClassId} {ρ : Type} (as : List Value) (w : eW) (k : Option Value → eW → Option ρ) (x : ρ) (h : K_fi_prefOf as w k = some x) : ∃ (v : Option Value) (w2 : eW), k v w2 = some x ∧ eMet l ad D cA vwCl SHc SSc yX4_prefOf (eWd yX4_prefOf cX4_prefOf 2 (some .int)) { frames := 1, cells := 0, slots := 0, locals := 22 } as w v w2 := by
  unfold K_fi_prefOf at h
  split at h
  · rename_i r0 a1
    obtain ⟨h1, h5⟩ := eBif h
    clear h
    have h := h5
    clear h5
    have h1 := Nat.eq_of_beq_eq_true h1
    subst h1
    obtain ⟨q, h2, h3⟩ := Option.bind_eq_some_iff.mp h
    exact ⟨_, _, h3, eMet_of (by decide +kernel) rfl (by simp [eCat, Value.category]) rI_ret (fun p e s m args below meth c hcx => go_fi_prefOf hcx a1 w q h2)⟩
  · cases h
def CX11_holder : eCo := [[some (.aload_n 0), some (.getfield 28), none, none, some (.iload_n 1), some (.invokevirtual 118), none, none, some (.ifCond .eq 7), none, none, some (.iload_n 2), some (.ifCond .ge 6), none, none, some (.bipush (-2))],
  [none, some (.ireturn), some (.aload_n 0), some (.getfield 28), none, none, some (.iload_n 1), some (.iconst 0), some (.invokevirtual 121), none, none, some (.istore_n 3), some (.iload_n 3), some (.ifCond .ne 7), none, none],
  [some (.iconst 1), some (.goto 14), none, none, some (.iload_n 3), some (.iconst 1), some (.if_icmp .ne 7), none, none, some (.iconst 2), some (.goto 5), none, none, some (.bipush 10), none, some (.istore 4)],
  [none, some (.iload_n 2), some (.iload 4), none, some (.if_icmp .le 6), none, none, some (.bipush (-2)), none, some (.ireturn), some (.iload_n 2), some (.bipush 10), none, some (.if_icmp .ne 14), none, none],
  [some (.aload_n 0), some (.getfield 28), none, none, some (.iload_n 1), some (.invokevirtual 125), none, none, some (.goto 12), none, none, some (.aload_n 0), some (.getfield 28), none, none, some (.iload_n 1)],
  [some (.iload_n 2), some (.invokevirtual 121), none, none, some (.ireturn)]]
theorem dcX11_holder : eDec cX11_holder CX11_holder := eDec_of (by decide +kernel)
def rs_xx_holder : List (Nat × eR) := [(28, (0, 10, 2, 2)), (118, (1, 0, 1, 4)), (121, (1, 1, 2, 4)), (125, (1, 2, 1, 4))]
noncomputable def cs_xx_holder : List (eF (Int32 × eW)) := [K_fi_isHolder, K_fi_fact, K_fi_prefOf]
noncomputable def f_xx_holder (a1 : Int32) (a2 : Int32) (w : eW) : Option (Int32 × eW) := ((f_fi_isHolder a1 w).bind fun p1 => (if p1.1 = 0 then (some ((-2 : Int32), p1.2)) else (if 0 ≤ a2 then ((f_fi_fact a1 (0 : Int32) p1.2).bind fun p2 => (if ¬ p2.1 = 0 then (if ¬ p2.1 = (1 : Int32) then (if a2 ≤ (10 : Int32) then (if ¬ a2 = (10 : Int32) then ((f_fi_fact a1 a2 p2.2).bind fun p3 => (some (p3.1, p3.2))) else ((f_fi_prefOf a1 p2.2).bind fun p4 => (some (p4.1, p4.2)))) else (some ((-2 : Int32), p2.2))) else (if a2 ≤ (2 : Int32) then (if ¬ a2 = (10 : Int32) then ((f_fi_fact a1 a2 p2.2).bind fun p5 => (some (p5.1, p5.2))) else ((f_fi_prefOf a1 p2.2).bind fun p6 => (some (p6.1, p6.2)))) else (some ((-2 : Int32), p2.2)))) else (if a2 ≤ (1 : Int32) then (if ¬ a2 = (10 : Int32) then ((f_fi_fact a1 a2 p2.2).bind fun p7 => (some (p7.1, p7.2))) else ((f_fi_prefOf a1 p2.2).bind fun p8 => (some (p8.1, p8.2)))) else (some ((-2 : Int32), p2.2))))) else (some ((-2 : Int32), p1.2)))))
noncomputable def K_xx_holder {ρ : Type} : eF ρ := fun as w k => match as with
  | [.ref r0, .int a1, .int a2] => bif Nat.beq r0 38 then (f_xx_holder a1 a2 w).bind (fun p => k (some (.int p.1)) p.2) else none
  | _ => none
section
variable {p : Program} {l : Launch} {e : Env} {s : State} {m : MethodId} {args : Array Value} {below : List Frame} {meth : Method} {c : Code} {ad : Nat → Nat} {D : va_G} {cA : Nat → ClassId}
theorem lk_xx_holder : ∀ q ∈ rs_xx_holder, eLnk { frames := 2, cells := 0, slots := 0, locals := 43 } vwCl (eWd yX11_holder cX11_holder 5 (some .int)) SSc SHc.length RX11 q.1 q.2 := List.forall_mem_cons.mpr ⟨lkX11_28 eTb_wd, List.forall_mem_cons.mpr ⟨trivial, List.forall_mem_cons.mpr ⟨trivial, List.forall_mem_cons.mpr ⟨trivial, fun _ h => absurd h List.not_mem_nil⟩⟩⟩⟩
theorem hc_xx_holder {x : Int32 × eW} : ∀ q ∈ rs_xx_holder, eHc l { frames := 2, cells := 0, slots := 0, locals := 43 } ad D cA vwCl SHc SSc (eWd yX11_holder cX11_holder 5 (some .int)) RX11 cs_xx_holder x q := List.forall_mem_cons.mpr ⟨trivial, List.forall_mem_cons.mpr ⟨(fun as w k h => let ⟨v, w2, h1, h2⟩ := ok_fi_isHolder as w k x h; ⟨v, w2, h1, eCal_of h2 ⟨rfl, rfl⟩ hdX4_isHolder (gvX11_118 eTb_wd)⟩), List.forall_mem_cons.mpr ⟨(fun as w k h => let ⟨v, w2, h1, h2⟩ := ok_fi_fact as w k x h; ⟨v, w2, h1, eCal_of h2 ⟨rfl, rfl⟩ hdX4_fact (gvX11_121 eTb_wd)⟩), List.forall_mem_cons.mpr ⟨(fun as w k h => let ⟨v, w2, h1, h2⟩ := ok_fi_prefOf as w k x h; ⟨v, w2, h1, eCal_of h2 ⟨rfl, rfl⟩ hdX4_prefOf (gvX11_125 eTb_wd)⟩), fun _ h => absurd h List.not_mem_nil⟩⟩⟩⟩
set_option maxRecDepth 100000 in
set_option maxHeartbeats 4000000 in
theorem go_xx_holder (hcx : eCx p { frames := 2, cells := 0, slots := 0, locals := 43 } s m args meth c cX11_holder RX11 5 ad D cA vwCl SHc SSc (eWd yX11_holder cX11_holder 5 (some .int)) (some .int)) (a1 : Int32) (a2 : Int32) (w : eW) (x : Int32 × eW) (h : f_xx_holder a1 a2 w = some x) : eGq p l e { frames := 2, cells := 0, slots := 0, locals := 43 } s m args below meth c 5 ad D cA vwCl SHc rI x 0 (eEnt [.ref 38, .int a1, .int a2]) [] w := by
  have h : eRun SHc SSc 5 rs_xx_holder (eCs cs_xx_holder) rI CX11_holder [] (fun pc L st w => none) 35 true 0 [some (.ref 38), some (.int a1), some (.int a2), none, none] [] w = some x := h
  refine eGo.wk (eRun_go hcx (eLnk_all lk_xx_holder) (eHc_all hc_xx_holder) rI_ok dcX11_holder [] _ (fun pc L st w hK => ?_) 35 true 0 _ _ w h) (eLe_wk ⟨rfl, rfl, rfl, trivial⟩)
  cases hK
end
set_option maxRecDepth 100000 in
set_option maxHeartbeats 4000000 in
theorem ok_xx_holder {l : Launch} {ad : Nat → Nat} {D : va_G} {cA : Nat → ClassId} {ρ : Type} (as : List Value) (w : eW) (k : Option Value → eW → Option ρ) (x : ρ) (h : K_xx_holder as w k = some x) : ∃ (v : Option Value) (w2 : eW), k v w2 = some x ∧ eMet l ad D cA vwCl SHc SSc yX11_holder (eWd yX11_holder cX11_holder 5 (some .int)) { frames := 2, cells := 0, slots := 0, locals := 43 } as w v w2 := by
  unfold K_xx_holder at h
  split at h
  · rename_i r0 a1 a2
    obtain ⟨h1, h5⟩ := eBif h
    clear h
    have h := h5
    clear h5
    have h1 := Nat.eq_of_beq_eq_true h1
    subst h1
    obtain ⟨q, h2, h3⟩ := Option.bind_eq_some_iff.mp h
    exact ⟨_, _, h3, eMet_of (by decide +kernel) rfl (by simp [eCat, Value.category]) rI_ret (fun p e s m args below meth c hcx => go_xx_holder hcx a1 a2 w q h2)⟩
  · cases h
def CX11_isAmount : eCo := [[some (.iload_n 0), some (.ifCond .lt 13), none, none, some (.iload_n 0), some (.ldc 180), none, some (.if_icmp .gt 7), none, none, some (.iconst 1), some (.goto 4), none, none, some (.iconst 0), some (.ireturn)]]
theorem dcX11_isAmount : eDec cX11_isAmount CX11_isAmount := eDec_of (by decide +kernel)
def rs_xx_isAmount : List (Nat × eR) := [(180, (2, 0, 0, 9999999))]
noncomputable def cs_xx_isAmount : List (eF (Int32 × eW)) := []
noncomputable def f_xx_isAmount (a0 : Int32) (w : eW) : Option (Int32 × eW) := (if a0 < 0 then (some ((0 : Int32), w)) else (if (9999999 : Int32) < a0 then (some ((0 : Int32), w)) else (some ((1 : Int32), w))))
noncomputable def K_xx_isAmount {ρ : Type} : eF ρ := fun as w k => match as with
  | [.int a0] => (f_xx_isAmount a0 w).bind (fun p => k (some (.int p.1)) p.2)
  | _ => none
section
variable {p : Program} {l : Launch} {e : Env} {s : State} {m : MethodId} {args : Array Value} {below : List Frame} {meth : Method} {c : Code} {ad : Nat → Nat} {D : va_G} {cA : Nat → ClassId}
theorem lk_xx_isAmount : ∀ q ∈ rs_xx_isAmount, eLnk { frames := 0, cells := 0, slots := 0, locals := 0 } vwCl (eWd yX11_isAmount cX11_isAmount 1 (some .boolean)) SSc SHc.length RX11 q.1 q.2 := List.forall_mem_cons.mpr ⟨lkX11_180 eTb_wd, fun _ h => absurd h List.not_mem_nil⟩
theorem hc_xx_isAmount {x : Int32 × eW} : ∀ q ∈ rs_xx_isAmount, eHc l { frames := 0, cells := 0, slots := 0, locals := 0 } ad D cA vwCl SHc SSc (eWd yX11_isAmount cX11_isAmount 1 (some .boolean)) RX11 cs_xx_isAmount x q := List.forall_mem_cons.mpr ⟨trivial, fun _ h => absurd h List.not_mem_nil⟩
set_option maxRecDepth 100000 in
set_option maxHeartbeats 4000000 in
theorem go_xx_isAmount (hcx : eCx p { frames := 0, cells := 0, slots := 0, locals := 0 } s m args meth c cX11_isAmount RX11 1 ad D cA vwCl SHc SSc (eWd yX11_isAmount cX11_isAmount 1 (some .boolean)) (some .boolean)) (a0 : Int32) (w : eW) (x : Int32 × eW) (h : f_xx_isAmount a0 w = some x) : eGq p l e { frames := 0, cells := 0, slots := 0, locals := 0 } s m args below meth c 1 ad D cA vwCl SHc rZ x 0 (eEnt [.int a0]) [] w := by
  have h : eRun SHc SSc 1 rs_xx_isAmount (eCs cs_xx_isAmount) rZ CX11_isAmount [] (fun pc L st w => none) 10 true 0 [some (.int a0)] [] w = some x := h
  refine eGo.wk (eRun_go hcx (eLnk_all lk_xx_isAmount) (eHc_all hc_xx_isAmount) rZ_ok dcX11_isAmount [] _ (fun pc L st w hK => ?_) 10 true 0 _ _ w h) (eLe_wk ⟨rfl, trivial⟩)
  cases hK
end
set_option maxRecDepth 100000 in
set_option maxHeartbeats 4000000 in
theorem ok_xx_isAmount {l : Launch} {ad : Nat → Nat} {D : va_G} {cA : Nat → ClassId} {ρ : Type} (as : List Value) (w : eW) (k : Option Value → eW → Option ρ) (x : ρ) (h : K_xx_isAmount as w k = some x) : ∃ (v : Option Value) (w2 : eW), k v w2 = some x ∧ eMet l ad D cA vwCl SHc SSc yX11_isAmount (eWd yX11_isAmount cX11_isAmount 1 (some .boolean)) { frames := 0, cells := 0, slots := 0, locals := 0 } as w v w2 := by
  unfold K_xx_isAmount at h
  split at h
  · rename_i a0
    obtain ⟨q, h2, h3⟩ := Option.bind_eq_some_iff.mp h
    exact ⟨_, _, h3, eMet_of (by decide +kernel) rfl (by simp [eCat, Value.category]) rZ_ret (fun p e s m args below meth c hcx => go_xx_isAmount hcx a0 w q h2)⟩
  · cases h
def CX11_isAsked : eCo := [[some (.aload_n 0), some (.getfield 28), none, none, some (.iload_n 1), some (.invokevirtual 118), none, none, some (.ifCond .eq 14), none, none, some (.iload_n 2), some (.invokestatic 162), none, none, some (.ifCond .eq 7)],
  [none, none, some (.iconst 1), some (.goto 4), none, none, some (.iconst 0), some (.ireturn)]]
theorem dcX11_isAsked : eDec cX11_isAsked CX11_isAsked := eDec_of (by decide +kernel)
def rs_xx_isAsked : List (Nat × eR) := [(28, (0, 10, 2, 2)), (118, (1, 0, 1, 4)), (162, (1, 1, 1, -1))]
noncomputable def cs_xx_isAsked : List (eF (Int32 × eW)) := [K_fi_isHolder, K_xx_isAmount]
noncomputable def f_xx_isAsked (a1 : Int32) (a2 : Int32) (w : eW) : Option (Int32 × eW) := ((f_fi_isHolder a1 w).bind fun p1 => (if p1.1 = 0 then (some ((0 : Int32), p1.2)) else ((f_xx_isAmount a2 p1.2).bind fun p2 => (if p2.1 = 0 then (some ((0 : Int32), p2.2)) else (some ((1 : Int32), p2.2))))))
noncomputable def K_xx_isAsked {ρ : Type} : eF ρ := fun as w k => match as with
  | [.ref r0, .int a1, .int a2] => bif Nat.beq r0 38 then (f_xx_isAsked a1 a2 w).bind (fun p => k (some (.int p.1)) p.2) else none
  | _ => none
section
variable {p : Program} {l : Launch} {e : Env} {s : State} {m : MethodId} {args : Array Value} {below : List Frame} {meth : Method} {c : Code} {ad : Nat → Nat} {D : va_G} {cA : Nat → ClassId}
theorem lk_xx_isAsked : ∀ q ∈ rs_xx_isAsked, eLnk { frames := 1, cells := 0, slots := 0, locals := 21 } vwCl (eWd yX11_isAsked cX11_isAsked 3 (some .boolean)) SSc SHc.length RX11 q.1 q.2 := List.forall_mem_cons.mpr ⟨lkX11_28 eTb_wd, List.forall_mem_cons.mpr ⟨trivial, List.forall_mem_cons.mpr ⟨trivial, fun _ h => absurd h List.not_mem_nil⟩⟩⟩
theorem hc_xx_isAsked {x : Int32 × eW} : ∀ q ∈ rs_xx_isAsked, eHc l { frames := 1, cells := 0, slots := 0, locals := 21 } ad D cA vwCl SHc SSc (eWd yX11_isAsked cX11_isAsked 3 (some .boolean)) RX11 cs_xx_isAsked x q := List.forall_mem_cons.mpr ⟨trivial, List.forall_mem_cons.mpr ⟨(fun as w k h => let ⟨v, w2, h1, h2⟩ := ok_fi_isHolder as w k x h; ⟨v, w2, h1, eCal_of h2 ⟨rfl, rfl⟩ hdX4_isHolder (gvX11_118 eTb_wd)⟩), List.forall_mem_cons.mpr ⟨(fun as w k h => let ⟨v, w2, h1, h2⟩ := ok_xx_isAmount as w k x h; ⟨v, w2, h1, eCal_of h2 ⟨rfl, rfl⟩ hdX11_isAmount (gvX11_162 eTb_wd)⟩), fun _ h => absurd h List.not_mem_nil⟩⟩⟩
set_option maxRecDepth 100000 in
set_option maxHeartbeats 4000000 in
theorem go_xx_isAsked (hcx : eCx p { frames := 1, cells := 0, slots := 0, locals := 21 } s m args meth c cX11_isAsked RX11 3 ad D cA vwCl SHc SSc (eWd yX11_isAsked cX11_isAsked 3 (some .boolean)) (some .boolean)) (a1 : Int32) (a2 : Int32) (w : eW) (x : Int32 × eW) (h : f_xx_isAsked a1 a2 w = some x) : eGq p l e { frames := 1, cells := 0, slots := 0, locals := 21 } s m args below meth c 3 ad D cA vwCl SHc rZ x 0 (eEnt [.ref 38, .int a1, .int a2]) [] w := by
  have h : eRun SHc SSc 3 rs_xx_isAsked (eCs cs_xx_isAsked) rZ CX11_isAsked [] (fun pc L st w => none) 13 true 0 [some (.ref 38), some (.int a1), some (.int a2)] [] w = some x := h
  refine eGo.wk (eRun_go hcx (eLnk_all lk_xx_isAsked) (eHc_all hc_xx_isAsked) rZ_ok dcX11_isAsked [] _ (fun pc L st w hK => ?_) 13 true 0 _ _ w h) (eLe_wk ⟨rfl, rfl, rfl, trivial⟩)
  cases hK
end
set_option maxRecDepth 100000 in
set_option maxHeartbeats 4000000 in
theorem ok_xx_isAsked {l : Launch} {ad : Nat → Nat} {D : va_G} {cA : Nat → ClassId} {ρ : Type} (as : List Value) (w : eW) (k : Option Value → eW → Option ρ) (x : ρ) (h : K_xx_isAsked as w k = some x) : ∃ (v : Option Value) (w2 : eW), k v w2 = some x ∧ eMet l ad D cA vwCl SHc SSc yX11_isAsked (eWd yX11_isAsked cX11_isAsked 3 (some .boolean)) { frames := 1, cells := 0, slots := 0, locals := 21 } as w v w2 := by
  unfold K_xx_isAsked at h
  split at h
  · rename_i r0 a1 a2
    obtain ⟨h1, h5⟩ := eBif h
    clear h
    have h := h5
    clear h5
    have h1 := Nat.eq_of_beq_eq_true h1
    subst h1
    obtain ⟨q, h2, h3⟩ := Option.bind_eq_some_iff.mp h
    exact ⟨_, _, h3, eMet_of (by decide +kernel) rfl (by simp [eCat, Value.category]) rZ_ret (fun p e s m args below meth c hcx => go_xx_isAsked hcx a1 a2 w q h2)⟩
  · cases h
def CX11_isAboveOrBelow : eCo := [[some (.iload_n 0), some (.ifCond .eq 8), none, none, some (.iload_n 0), some (.iconst 1), some (.if_icmp .ne 7), none, none, some (.iconst 1), some (.goto 4), none, none, some (.iconst 0), some (.ireturn)]]
theorem dcX11_isAboveOrBelow : eDec cX11_isAboveOrBelow CX11_isAboveOrBelow := eDec_of (by decide +kernel)
def rs_xx_isAboveOrBelow : List (Nat × eR) := []
noncomputable def cs_xx_isAboveOrBelow : List (eF (Int32 × eW)) := []
noncomputable def f_xx_isAboveOrBelow (a0 : Int32) (w : eW) : Option (Int32 × eW) := (if a0 = 0 then (some ((1 : Int32), w)) else (if ¬ a0 = (1 : Int32) then (some ((0 : Int32), w)) else (some ((1 : Int32), w))))
noncomputable def K_xx_isAboveOrBelow {ρ : Type} : eF ρ := fun as w k => match as with
  | [.int a0] => (f_xx_isAboveOrBelow a0 w).bind (fun p => k (some (.int p.1)) p.2)
  | _ => none
section
variable {p : Program} {l : Launch} {e : Env} {s : State} {m : MethodId} {args : Array Value} {below : List Frame} {meth : Method} {c : Code} {ad : Nat → Nat} {D : va_G} {cA : Nat → ClassId}
theorem lk_xx_isAboveOrBelow : ∀ q ∈ rs_xx_isAboveOrBelow, eLnk { frames := 0, cells := 0, slots := 0, locals := 0 } vwCl (eWd yX11_isAboveOrBelow cX11_isAboveOrBelow 1 (some .boolean)) SSc SHc.length RX11 q.1 q.2 := fun _ h => absurd h List.not_mem_nil
theorem hc_xx_isAboveOrBelow {x : Int32 × eW} : ∀ q ∈ rs_xx_isAboveOrBelow, eHc l { frames := 0, cells := 0, slots := 0, locals := 0 } ad D cA vwCl SHc SSc (eWd yX11_isAboveOrBelow cX11_isAboveOrBelow 1 (some .boolean)) RX11 cs_xx_isAboveOrBelow x q := fun _ h => absurd h List.not_mem_nil
set_option maxRecDepth 100000 in
set_option maxHeartbeats 4000000 in
theorem go_xx_isAboveOrBelow (hcx : eCx p { frames := 0, cells := 0, slots := 0, locals := 0 } s m args meth c cX11_isAboveOrBelow RX11 1 ad D cA vwCl SHc SSc (eWd yX11_isAboveOrBelow cX11_isAboveOrBelow 1 (some .boolean)) (some .boolean)) (a0 : Int32) (w : eW) (x : Int32 × eW) (h : f_xx_isAboveOrBelow a0 w = some x) : eGq p l e { frames := 0, cells := 0, slots := 0, locals := 0 } s m args below meth c 1 ad D cA vwCl SHc rZ x 0 (eEnt [.int a0]) [] w := by
  have h : eRun SHc SSc 1 rs_xx_isAboveOrBelow (eCs cs_xx_isAboveOrBelow) rZ CX11_isAboveOrBelow [] (fun pc L st w => none) 10 true 0 [some (.int a0)] [] w = some x := h
  refine eGo.wk (eRun_go hcx (eLnk_all lk_xx_isAboveOrBelow) (eHc_all hc_xx_isAboveOrBelow) rZ_ok dcX11_isAboveOrBelow [] _ (fun pc L st w hK => ?_) 10 true 0 _ _ w h) (eLe_wk ⟨rfl, trivial⟩)
  cases hK
end
set_option maxRecDepth 100000 in
set_option maxHeartbeats 4000000 in
theorem ok_xx_isAboveOrBelow {l : Launch} {ad : Nat → Nat} {D : va_G} {cA : Nat → ClassId} {ρ : Type} (as : List Value) (w : eW) (k : Option Value → eW → Option ρ) (x : ρ) (h : K_xx_isAboveOrBelow as w k = some x) : ∃ (v : Option Value) (w2 : eW), k v w2 = some x ∧ eMet l ad D cA vwCl SHc SSc yX11_isAboveOrBelow (eWd yX11_isAboveOrBelow cX11_isAboveOrBelow 1 (some .boolean)) { frames := 0, cells := 0, slots := 0, locals := 0 } as w v w2 := by
  unfold K_xx_isAboveOrBelow at h
  split at h
  · rename_i a0
    obtain ⟨q, h2, h3⟩ := Option.bind_eq_some_iff.mp h
    exact ⟨_, _, h3, eMet_of (by decide +kernel) rfl (by simp [eCat, Value.category]) rZ_ret (fun p e s m args below meth c hcx => go_xx_isAboveOrBelow hcx a0 w q h2)⟩
  · cases h
