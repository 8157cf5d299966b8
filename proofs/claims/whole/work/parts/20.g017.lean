def CX11_unitsFor : eCo := [[some (.aload_n 0), some (.iload_n 2), some (.invokevirtual 138), none, none, some (.aload_n 0), some (.getfield 35), none, none, some (.iload_n 1), some (.aload_n 0), some (.getfield 28), none, none, some (.iload_n 2), some (.invokevirtual 185)],
  [none, none, some (.invokevirtual 336), none, none, some (.ireturn)]]
theorem dcX11_unitsFor : eDec cX11_unitsFor CX11_unitsFor := eDec_of (by decide +kernel)
def rs_xx_unitsFor : List (Nat × eR) := [(28, (0, 10, 2, 2)), (35, (0, 10, 3, 2)), (138, (1, 0, 1, 10)), (185, (1, 1, 1, 4)), (336, (1, 2, 2, 3))]
noncomputable def cs_xx_unitsFor : List (eF (Int32 × eW)) := [K_xx_pour, K_fi_fallsOf, K_fa_unitsOf]
noncomputable def f_xx_unitsFor (a1 : Int32) (a2 : Int32) (w : eW) : Option (Int32 × eW) := ((f_xx_pour a2 w).bind fun w1 => ((f_fi_fallsOf a2 w1).bind fun p2 => ((f_fa_unitsOf a1 p2.1 p2.2).bind fun p3 => (some (p3.1, p3.2)))))
noncomputable def K_xx_unitsFor {ρ : Type} : eF ρ := fun as w k => match as with
  | [.ref r0, .int a1, .int a2] => bif Nat.beq r0 38 then (f_xx_unitsFor a1 a2 w).bind (fun p => k (some (.int p.1)) p.2) else none
  | _ => none
section
variable {p : Program} {l : Launch} {e : Env} {s : State} {m : MethodId} {args : Array Value} {below : List Frame} {meth : Method} {c : Code} {ad : Nat → Nat} {D : va_G} {cA : Nat → ClassId}
theorem lk_xx_unitsFor : ∀ q ∈ rs_xx_unitsFor, eLnk { frames := 5, cells := 0, slots := 0, locals := 159 } vwCl (eWd yX11_unitsFor cX11_unitsFor 3 (some .int)) SSc SHc.length RX11 q.1 q.2 := List.forall_mem_cons.mpr ⟨lkX11_28 eTb_wd, List.forall_mem_cons.mpr ⟨lkX11_35 eTb_wd, List.forall_mem_cons.mpr ⟨trivial, List.forall_mem_cons.mpr ⟨trivial, List.forall_mem_cons.mpr ⟨trivial, fun _ h => absurd h List.not_mem_nil⟩⟩⟩⟩⟩
theorem hc_xx_unitsFor {x : Int32 × eW} : ∀ q ∈ rs_xx_unitsFor, eHc l { frames := 5, cells := 0, slots := 0, locals := 159 } ad D cA vwCl SHc SSc (eWd yX11_unitsFor cX11_unitsFor 3 (some .int)) RX11 cs_xx_unitsFor x q := List.forall_mem_cons.mpr ⟨trivial, List.forall_mem_cons.mpr ⟨trivial, List.forall_mem_cons.mpr ⟨(fun as w k h => let ⟨v, w2, h1, h2⟩ := ok_xx_pour as w k x h; ⟨v, w2, h1, eCal_of h2 ⟨rfl, rfl⟩ hdX11_pour (gvX11_138 eTb_wd)⟩), List.forall_mem_cons.mpr ⟨(fun as w k h => let ⟨v, w2, h1, h2⟩ := ok_fi_fallsOf as w k x h; ⟨v, w2, h1, eCal_of h2 ⟨rfl, rfl⟩ hdX4_fallsOf (gvX11_185 eTb_wd)⟩), List.forall_mem_cons.mpr ⟨(fun as w k h => let ⟨v, w2, h1, h2⟩ := ok_fa_unitsOf as w k x h; ⟨v, w2, h1, eCal_of h2 ⟨rfl, rfl⟩ hdX3_unitsOf (gvX11_336 eTb_wd)⟩), fun _ h => absurd h List.not_mem_nil⟩⟩⟩⟩⟩
set_option maxRecDepth 100000 in
set_option maxHeartbeats 4000000 in
theorem go_xx_unitsFor (hcx : eCx p { frames := 5, cells := 0, slots := 0, locals := 159 } s m args meth c cX11_unitsFor RX11 3 ad D cA vwCl SHc SSc (eWd yX11_unitsFor cX11_unitsFor 3 (some .int)) (some .int)) (a1 : Int32) (a2 : Int32) (w : eW) (x : Int32 × eW) (h : f_xx_unitsFor a1 a2 w = some x) : eGq p l e { frames := 5, cells := 0, slots := 0, locals := 159 } s m args below meth c 3 ad D cA vwCl SHc rI x 0 (eEnt [.ref 38, .int a1, .int a2]) [] w := by
  have h : eRun SHc SSc 3 rs_xx_unitsFor (eCs cs_xx_unitsFor) rI CX11_unitsFor [] (fun pc L st w => none) 14 true 0 [some (.ref 38), some (.int a1), some (.int a2)] [] w = some x := h
  refine eGo.wk (eRun_go hcx (eLnk_all lk_xx_unitsFor) (eHc_all hc_xx_unitsFor) rI_ok dcX11_unitsFor [] _ (fun pc L st w hK => ?_) 14 true 0 _ _ w h) (eLe_wk ⟨rfl, rfl, rfl, trivial⟩)
  cases hK
end
set_option maxRecDepth 100000 in
set_option maxHeartbeats 4000000 in
theorem ok_xx_unitsFor {l : Launch} {ad : Nat → Nat} {D : va_G} {cA : Nat → ClassId} {ρ : Type} (as : List Value) (w : eW) (k : Option Value → eW → Option ρ) (x : ρ) (h : K_xx_unitsFor as w k = some x) : ∃ (v : Option Value) (w2 : eW), k v w2 = some x ∧ eMet l ad D cA vwCl SHc SSc yX11_unitsFor (eWd yX11_unitsFor cX11_unitsFor 3 (some .int)) { frames := 5, cells := 0, slots := 0, locals := 159 } as w v w2 := by
  unfold K_xx_unitsFor at h
  split at h
  · rename_i r0 a1 a2
    obtain ⟨h1, h5⟩ := eBif h
    clear h
    have h := h5
    clear h5
    have h1 := Nat.eq_of_beq_eq_true h1
    subst h1
    obtain ⟨q, h2, h3⟩ := Option.bind_eq_some_iff.mp h
    exact ⟨_, _, h3, eMet_of (by decide +kernel) rfl (by simp [eCat, Value.category]) rI_ret (fun p e s m args below meth c hcx => go_xx_unitsFor hcx a1 a2 w q h2)⟩
  · cases h
def CX11_paid : eCo := [[some (.aload_n 0), some (.iload_n 1), some (.iload_n 2), some (.invokevirtual 129), none, none, some (.ifCond .eq 12), none, none, some (.aload_n 0), some (.iload_n 1), some (.iload_n 2), some (.invokevirtual 159), none, none, some (.goto 5)],
  [none, none, some (.bipush (-2)), none, some (.ireturn)]]
theorem dcX11_paid : eDec cX11_paid CX11_paid := eDec_of (by decide +kernel)
def rs_xx_paid : List (Nat × eR) := [(129, (1, 0, 2, 10)), (159, (1, 1, 2, 10))]
noncomputable def cs_xx_paid : List (eF (Int32 × eW)) := [K_xx_isAsked, K_xx_unitsFor]
noncomputable def f_xx_paid (a1 : Int32) (a2 : Int32) (w : eW) : Option (Int32 × eW) := ((f_xx_isAsked a1 a2 w).bind fun p1 => (if p1.1 = 0 then (some ((-2 : Int32), p1.2)) else ((f_xx_unitsFor a1 a2 p1.2).bind fun p2 => (some (p2.1, p2.2)))))
noncomputable def K_xx_paid {ρ : Type} : eF ρ := fun as w k => match as with
  | [.ref r0, .int a1, .int a2] => bif Nat.beq r0 38 then (f_xx_paid a1 a2 w).bind (fun p => k (some (.int p.1)) p.2) else none
  | _ => none
section
variable {p : Program} {l : Launch} {e : Env} {s : State} {m : MethodId} {args : Array Value} {below : List Frame} {meth : Method} {c : Code} {ad : Nat → Nat} {D : va_G} {cA : Nat → ClassId}
theorem lk_xx_paid : ∀ q ∈ rs_xx_paid, eLnk { frames := 6, cells := 0, slots := 0, locals := 181 } vwCl (eWd yX11_paid cX11_paid 3 (some .int)) SSc SHc.length RX11 q.1 q.2 := List.forall_mem_cons.mpr ⟨trivial, List.forall_mem_cons.mpr ⟨trivial, fun _ h => absurd h List.not_mem_nil⟩⟩
theorem hc_xx_paid {x : Int32 × eW} : ∀ q ∈ rs_xx_paid, eHc l { frames := 6, cells := 0, slots := 0, locals := 181 } ad D cA vwCl SHc SSc (eWd yX11_paid cX11_paid 3 (some .int)) RX11 cs_xx_paid x q := List.forall_mem_cons.mpr ⟨(fun as w k h => let ⟨v, w2, h1, h2⟩ := ok_xx_isAsked as w k x h; ⟨v, w2, h1, eCal_of h2 ⟨rfl, rfl⟩ hdX11_isAsked (gvX11_129 eTb_wd)⟩), List.forall_mem_cons.mpr ⟨(fun as w k h => let ⟨v, w2, h1, h2⟩ := ok_xx_unitsFor as w k x h; ⟨v, w2, h1, eCal_of h2 ⟨rfl, rfl⟩ hdX11_unitsFor (gvX11_159 eTb_wd)⟩), fun _ h => absurd h List.not_mem_nil⟩⟩
set_option maxRecDepth 100000 in
set_option maxHeartbeats 4000000 in
theorem go_xx_paid (hcx : eCx p { frames := 6, cells := 0, slots := 0, locals := 181 } s m args meth c cX11_paid RX11 3 ad D cA vwCl SHc SSc (eWd yX11_paid cX11_paid 3 (some .int)) (some .int)) (a1 : Int32) (a2 : Int32) (w : eW) (x : Int32 × eW) (h : f_xx_paid a1 a2 w = some x) : eGq p l e { frames := 6, cells := 0, slots := 0, locals := 181 } s m args below meth c 3 ad D cA vwCl SHc rI x 0 (eEnt [.ref 38, .int a1, .int a2]) [] w := by
  have h : eRun SHc SSc 3 rs_xx_paid (eCs cs_xx_paid) rI CX11_paid [] (fun pc L st w => none) 13 true 0 [some (.ref 38), some (.int a1), some (.int a2)] [] w = some x := h
  refine eGo.wk (eRun_go hcx (eLnk_all lk_xx_paid) (eHc_all hc_xx_paid) rI_ok dcX11_paid [] _ (fun pc L st w hK => ?_) 13 true 0 _ _ w h) (eLe_wk ⟨rfl, rfl, rfl, trivial⟩)
  cases hK
end
set_option maxRecDepth 100000 in
set_option maxHeartbeats 4000000 in
theorem ok_xx_paid {l : Launch} {ad : Nat → Nat} {D : va_G} {cA : Nat → ClassId} {ρ : Type} (as : List Value) (w : eW) (k : Option Value → eW → Option ρ) (x : ρ) (h : K_xx_paid as w k = some x) : ∃ (v : Option Value) (w2 : eW), k v w2 = some x ∧ eMet l ad D cA vwCl SHc SSc yX11_paid (eWd yX11_paid cX11_paid 3 (some .int)) { frames := 6, cells := 0, slots := 0, locals := 181 } as w v w2 := by
  unfold K_xx_paid at h
  split at h
  · rename_i r0 a1 a2
    obtain ⟨h1, h5⟩ := eBif h
    clear h
    have h := h5
    clear h5
    have h1 := Nat.eq_of_beq_eq_true h1
    subst h1
    obtain ⟨q, h2, h3⟩ := Option.bind_eq_some_iff.mp h
    exact ⟨_, _, h3, eMet_of (by decide +kernel) rfl (by simp [eCat, Value.category]) rI_ret (fun p e s m args below meth c hcx => go_xx_paid hcx a1 a2 w q h2)⟩
  · cases h
def CX11_level : eCo := [[some (.iload_n 1), some (.invokestatic 162), none, none, some (.ifCond .eq 20), none, none, some (.iload_n 2), some (.invokestatic 133), none, none, some (.ifCond .eq 13), none, none, some (.aload_n 0), some (.getfield 28)],
  [none, none, some (.getfield 105), none, none, some (.ifCond .ne 7), none, none, some (.ldc2_w 136), none, none, some (.lreturn), some (.aload_n 0), some (.iload_n 1), some (.invokevirtual 138), none],
  [none, some (.aload_n 0), some (.getfield 35), none, none, some (.getfield 165), none, none, some (.aload_n 0), some (.getfield 35), none, none, some (.getfield 168), none, none, some (.iload_n 2)],
  [some (.invokestatic 149), none, none, some (.lreturn)]]
theorem dcX11_level : eDec cX11_level CX11_level := eDec_of (by decide +kernel)
def rs_xx_level : List (Nat × eR) := [(28, (0, 10, 2, 2)), (35, (0, 10, 3, 2)), (105, (0, 4, 0, 0)), (133, (1, 1, 1, -1)), (136, (3, 0, 0, -2)), (138, (1, 2, 1, 10)), (149, (1, 3, 3, -1)), (162, (1, 0, 1, -1)), (165, (0, 3, 6, 1)), (168, (0, 3, 7, 1))]
noncomputable def cs_xx_level : List (eF (Int64 × eW)) := [K_xx_isAmount, K_xx_isAboveOrBelow, K_xx_pour, K_nu_lowest]
noncomputable def f_xx_level (a1 : Int32) (a2 : Int32) (w : eW) : Option (Int64 × eW) := ((f_xx_isAmount a1 w).bind fun p1 => (if p1.1 = 0 then (some ((-2 : Int64), p1.2)) else ((f_xx_isAboveOrBelow a2 p1.2).bind fun p2 => (if p2.1 = 0 then (some ((-2 : Int64), p2.2)) else (if ¬ (p2.2.1 8 0) = 0 then ((f_xx_pour a1 p2.2).bind fun w3 => ((f_nu_lowest (w3.2 24 6) (w3.2 24 7) a2 w3).bind fun p4 => (some (p4.1, p4.2)))) else (some ((-2 : Int64), p2.2)))))))
noncomputable def K_xx_level {ρ : Type} : eF ρ := fun as w k => match as with
  | [.ref r0, .int a1, .int a2] => bif Nat.beq r0 38 then (f_xx_level a1 a2 w).bind (fun p => k (some (.long p.1)) p.2) else none
  | _ => none
section
variable {p : Program} {l : Launch} {e : Env} {s : State} {m : MethodId} {args : Array Value} {below : List Frame} {meth : Method} {c : Code} {ad : Nat → Nat} {D : va_G} {cA : Nat → ClassId}
theorem lk_xx_level : ∀ q ∈ rs_xx_level, eLnk { frames := 5, cells := 0, slots := 0, locals := 159 } vwCl (eWd yX11_level cX11_level 3 (some .long)) SSc SHc.length RX11 q.1 q.2 := List.forall_mem_cons.mpr ⟨lkX11_28 eTb_wd, List.forall_mem_cons.mpr ⟨lkX11_35 eTb_wd, List.forall_mem_cons.mpr ⟨lkX11_105 eTb_wd, List.forall_mem_cons.mpr ⟨trivial, List.forall_mem_cons.mpr ⟨lkX11_136 eTb_wd, List.forall_mem_cons.mpr ⟨trivial, List.forall_mem_cons.mpr ⟨trivial, List.forall_mem_cons.mpr ⟨trivial, List.forall_mem_cons.mpr ⟨lkX11_165 eTb_wd, List.forall_mem_cons.mpr ⟨lkX11_168 eTb_wd, fun _ h => absurd h List.not_mem_nil⟩⟩⟩⟩⟩⟩⟩⟩⟩⟩
theorem hc_xx_level {x : Int64 × eW} : ∀ q ∈ rs_xx_level, eHc l { frames := 5, cells := 0, slots := 0, locals := 159 } ad D cA vwCl SHc SSc (eWd yX11_level cX11_level 3 (some .long)) RX11 cs_xx_level x q := List.forall_mem_cons.mpr ⟨trivial, List.forall_mem_cons.mpr ⟨trivial, List.forall_mem_cons.mpr ⟨trivial, List.forall_mem_cons.mpr ⟨(fun as w k h => let ⟨v, w2, h1, h2⟩ := ok_xx_isAboveOrBelow as w k x h; ⟨v, w2, h1, eCal_of h2 ⟨rfl, rfl⟩ hdX11_isAboveOrBelow (gvX11_133 eTb_wd)⟩), List.forall_mem_cons.mpr ⟨trivial, List.forall_mem_cons.mpr ⟨(fun as w k h => let ⟨v, w2, h1, h2⟩ := ok_xx_pour as w k x h; ⟨v, w2, h1, eCal_of h2 ⟨rfl, rfl⟩ hdX11_pour (gvX11_138 eTb_wd)⟩), List.forall_mem_cons.mpr ⟨(fun as w k h => let ⟨v, w2, h1, h2⟩ := ok_nu_lowest as w k x h; ⟨v, w2, h1, eCal_of h2 ⟨rfl, rfl⟩ hdX7_lowest (gvX11_149 eTb_wd)⟩), List.forall_mem_cons.mpr ⟨(fun as w k h => let ⟨v, w2, h1, h2⟩ := ok_xx_isAmount as w k x h; ⟨v, w2, h1, eCal_of h2 ⟨rfl, rfl⟩ hdX11_isAmount (gvX11_162 eTb_wd)⟩), List.forall_mem_cons.mpr ⟨trivial, List.forall_mem_cons.mpr ⟨trivial, fun _ h => absurd h List.not_mem_nil⟩⟩⟩⟩⟩⟩⟩⟩⟩⟩
set_option maxRecDepth 100000 in
set_option maxHeartbeats 4000000 in
theorem go_xx_level (hcx : eCx p { frames := 5, cells := 0, slots := 0, locals := 159 } s m args meth c cX11_level RX11 3 ad D cA vwCl SHc SSc (eWd yX11_level cX11_level 3 (some .long)) (some .long)) (a1 : Int32) (a2 : Int32) (w : eW) (x : Int64 × eW) (h : f_xx_level a1 a2 w = some x) : eGq p l e { frames := 5, cells := 0, slots := 0, locals := 159 } s m args below meth c 3 ad D cA vwCl SHc rJ x 0 (eEnt [.ref 38, .int a1, .int a2]) [] w := by
  have h : eRun SHc SSc 3 rs_xx_level (eCs cs_xx_level) rJ CX11_level [] (fun pc L st w => none) 24 true 0 [some (.ref 38), some (.int a1), some (.int a2)] [] w = some x := h
  refine eGo.wk (eRun_go hcx (eLnk_all lk_xx_level) (eHc_all hc_xx_level) rJ_ok dcX11_level [] _ (fun pc L st w hK => ?_) 24 true 0 _ _ w h) (eLe_wk ⟨rfl, rfl, rfl, trivial⟩)
  cases hK
end
set_option maxRecDepth 100000 in
set_option maxHeartbeats 4000000 in
theorem ok_xx_level {l : Launch} {ad : Nat → Nat} {D : va_G} {cA : Nat → ClassId} {ρ : Type} (as : List Value) (w : eW) (k : Option Value → eW → Option ρ) (x : ρ) (h : K_xx_level as w k = some x) : ∃ (v : Option Value) (w2 : eW), k v w2 = some x ∧ eMet l ad D cA vwCl SHc SSc yX11_level (eWd yX11_level cX11_level 3 (some .long)) { frames := 5, cells := 0, slots := 0, locals := 159 } as w v w2 := by
  unfold K_xx_level at h
  split at h
  · rename_i r0 a1 a2
    obtain ⟨h1, h5⟩ := eBif h
    clear h
    have h := h5
    clear h5
    have h1 := Nat.eq_of_beq_eq_true h1
    subst h1
    obtain ⟨q, h2, h3⟩ := Option.bind_eq_some_iff.mp h
    exact ⟨_, _, h3, eMet_of (by decide +kernel) rfl (by simp [eCat, Value.category]) rJ_ret (fun p e s m args below meth c hcx => go_xx_level hcx a1 a2 w q h2)⟩
  · cases h
def CX11_isUnits : eCo := [[some (.iload_n 0), some (.iconst 1), some (.if_icmp .lt 13), none, none, some (.iload_n 0), some (.ldc 180), none, some (.if_icmp .gt 7), none, none, some (.iconst 1), some (.goto 4), none, none, some (.iconst 0)],
  [some (.ireturn)]]
theorem dcX11_isUnits : eDec cX11_isUnits CX11_isUnits := eDec_of (by decide +kernel)
def rs_xx_isUnits : List (Nat × eR) := [(180, (2, 0, 0, 9999999))]
noncomputable def cs_xx_isUnits : List (eF (Int32 × eW)) := []
noncomputable def f_xx_isUnits (a0 : Int32) (w : eW) : Option (Int32 × eW) := (if a0 < (1 : Int32) then (some ((0 : Int32), w)) else (if (9999999 : Int32) < a0 then (some ((0 : Int32), w)) else (some ((1 : Int32), w))))
noncomputable def K_xx_isUnits {ρ : Type} : eF ρ := fun as w k => match as with
  | [.int a0] => (f_xx_isUnits a0 w).bind (fun p => k (some (.int p.1)) p.2)
  | _ => none
section
variable {p : Program} {l : Launch} {e : Env} {s : State} {m : MethodId} {args : Array Value} {below : List Frame} {meth : Method} {c : Code} {ad : Nat → Nat} {D : va_G} {cA : Nat → ClassId}
theorem lk_xx_isUnits : ∀ q ∈ rs_xx_isUnits, eLnk { frames := 0, cells := 0, slots := 0, locals := 0 } vwCl (eWd yX11_isUnits cX11_isUnits 1 (some .boolean)) SSc SHc.length RX11 q.1 q.2 := List.forall_mem_cons.mpr ⟨lkX11_180 eTb_wd, fun _ h => absurd h List.not_mem_nil⟩
theorem hc_xx_isUnits {x : Int32 × eW} : ∀ q ∈ rs_xx_isUnits, eHc l { frames := 0, cells := 0, slots := 0, locals := 0 } ad D cA vwCl SHc SSc (eWd yX11_isUnits cX11_isUnits 1 (some .boolean)) RX11 cs_xx_isUnits x q := List.forall_mem_cons.mpr ⟨trivial, fun _ h => absurd h List.not_mem_nil⟩
set_option maxRecDepth 100000 in
set_option maxHeartbeats 4000000 in
theorem go_xx_isUnits (hcx : eCx p { frames := 0, cells := 0, slots := 0, locals := 0 } s m args meth c cX11_isUnits RX11 1 ad D cA vwCl SHc SSc (eWd yX11_isUnits cX11_isUnits 1 (some .boolean)) (some .boolean)) (a0 : Int32) (w : eW) (x : Int32 × eW) (h : f_xx_isUnits a0 w = some x) : eGq p l e { frames := 0, cells := 0, slots := 0, locals := 0 } s m args below meth c 1 ad D cA vwCl SHc rZ x 0 (eEnt [.int a0]) [] w := by
  have h : eRun SHc SSc 1 rs_xx_isUnits (eCs cs_xx_isUnits) rZ CX11_isUnits [] (fun pc L st w => none) 11 true 0 [some (.int a0)] [] w = some x := h
  refine eGo.wk (eRun_go hcx (eLnk_all lk_xx_isUnits) (eHc_all hc_xx_isUnits) rZ_ok dcX11_isUnits [] _ (fun pc L st w hK => ?_) 11 true 0 _ _ w h) (eLe_wk ⟨rfl, trivial⟩)
  cases hK
end
set_option maxRecDepth 100000 in
set_option maxHeartbeats 4000000 in
theorem ok_xx_isUnits {l : Launch} {ad : Nat → Nat} {D : va_G} {cA : Nat → ClassId} {ρ : Type} (as : List Value) (w : eW) (k : Option Value → eW → Option ρ) (x : ρ) (h : K_xx_isUnits as w k = some x) : ∃ (v : Option Value) (w2 : eW), k v w2 = some x ∧ eMet l ad D cA vwCl SHc SSc yX11_isUnits (eWd yX11_isUnits cX11_isUnits 1 (some .boolean)) { frames := 0, cells := 0, slots := 0, locals := 0 } as w v w2 := by
  unfold K_xx_isUnits at h
  split at h
  · rename_i a0
    obtain ⟨q, h2, h3⟩ := Option.bind_eq_some_iff.mp h
    exact ⟨_, _, h3, eMet_of (by decide +kernel) rfl (by simp [eCat, Value.category]) rZ_ret (fun p e s m args below meth c hcx => go_xx_isUnits hcx a0 w q h2)⟩
  · cases h
def CJ13_compare_74951 : eCo := [[some (.lload_n 0), some (.lload_n 2), some (.lcmp), some (.ifCond .ge 7), none, none, some (.iconst (-1)), some (.goto 14), none, none, some (.lload_n 0), some (.lload_n 2), some (.lcmp), some (.ifCond .ne 7), none, none],
  [some (.iconst 0), some (.goto 4), none, none, some (.iconst 1), some (.ireturn)]]
theorem dcJ13_compare_74951 : eDec cJ13_compare_74951 CJ13_compare_74951 := eDec_of (by decide +kernel)
def rs_lo_compare : List (Nat × eR) := []
noncomputable def cs_lo_compare : List (eF (Int32 × eW)) := []
noncomputable def f_lo_compare (a0 : Int64) (a2 : Int64) (w : eW) : Option (Int32 × eW) := (if 0 ≤ (lg_cmp a0 a2) then (if ¬ (lg_cmp a0 a2) = 0 then (some ((1 : Int32), w)) else (some ((0 : Int32), w))) else (some ((-1 : Int32), w)))
noncomputable def K_lo_compare {ρ : Type} : eF ρ := fun as w k => match as with
  | [.long a0, .long a2] => (f_lo_compare a0 a2 w).bind (fun p => k (some (.int p.1)) p.2)
  | _ => none
section
variable {p : Program} {l : Launch} {e : Env} {s : State} {m : MethodId} {args : Array Value} {below : List Frame} {meth : Method} {c : Code} {ad : Nat → Nat} {D : va_G} {cA : Nat → ClassId}
theorem lk_lo_compare : ∀ q ∈ rs_lo_compare, eLnk { frames := 0, cells := 0, slots := 0, locals := 0 } vwCl (eWd yJ13_compare_74951 cJ13_compare_74951 4 (some .int)) SSc SHc.length RJ13 q.1 q.2 := fun _ h => absurd h List.not_mem_nil
theorem hc_lo_compare {x : Int32 × eW} : ∀ q ∈ rs_lo_compare, eHc l { frames := 0, cells := 0, slots := 0, locals := 0 } ad D cA vwCl SHc SSc (eWd yJ13_compare_74951 cJ13_compare_74951 4 (some .int)) RJ13 cs_lo_compare x q := fun _ h => absurd h List.not_mem_nil
set_option maxRecDepth 100000 in
set_option maxHeartbeats 4000000 in
theorem go_lo_compare (hcx : eCx p { frames := 0, cells := 0, slots := 0, locals := 0 } s m args meth c cJ13_compare_74951 RJ13 4 ad D cA vwCl SHc SSc (eWd yJ13_compare_74951 cJ13_compare_74951 4 (some .int)) (some .int)) (a0 : Int64) (a2 : Int64) (w : eW) (x : Int32 × eW) (h : f_lo_compare a0 a2 w = some x) : eGq p l e { frames := 0, cells := 0, slots := 0, locals := 0 } s m args below meth c 4 ad D cA vwCl SHc rI x 0 (eEnt [.long a0, .long a2]) [] w := by
  have h : eRun SHc SSc 4 rs_lo_compare (eCs cs_lo_compare) rI CJ13_compare_74951 [] (fun pc L st w => none) 13 true 0 [some (.long a0), none, some (.long a2), none] [] w = some x := h
  refine eGo.wk (eRun_go hcx (eLnk_all lk_lo_compare) (eHc_all hc_lo_compare) rI_ok dcJ13_compare_74951 [] _ (fun pc L st w hK => ?_) 13 true 0 _ _ w h) (eLe_wk ⟨rfl, rfl, trivial⟩)
  cases hK
end
set_option maxRecDepth 100000 in
set_option maxHeartbeats 4000000 in
theorem ok_lo_compare {l : Launch} {ad : Nat → Nat} {D : va_G} {cA : Nat → ClassId} {ρ : Type} (as : List Value) (w : eW) (k : Option Value → eW → Option ρ) (x : ρ) (h : K_lo_compare as w k = some x) : ∃ (v : Option Value) (w2 : eW), k v w2 = some x ∧ eMet l ad D cA vwCl SHc SSc yJ13_compare_74951 (eWd yJ13_compare_74951 cJ13_compare_74951 4 (some .int)) { frames := 0, cells := 0, slots := 0, locals := 0 } as w v w2 := by
  unfold K_lo_compare at h
  split at h
  · rename_i a0 a2
    obtain ⟨q, h2, h3⟩ := Option.bind_eq_some_iff.mp h
    exact ⟨_, _, h3, eMet_of (by decide +kernel) rfl (by simp [eCat, Value.category]) rI_ret (fun p e s m args below meth c hcx => go_lo_compare hcx a0 a2 w q h2)⟩
  · cases h
def CX7_compareFractions : eCo := [[some (.lload_n 0), some (.lstore 8), none, some (.lload_n 2), some (.lstore 10), none, some (.lload 4), none, some (.lstore 12), none, some (.lload 6), none, some (.lstore 14), none, some (.iconst 1), some (.istore 16)],
  [none, some (.iconst 0), some (.istore 17), none, some (.iload 17), none, some (.sipush 1000), none, none, some (.if_icmp .ge 120), none, none, some (.lload 10), none, some (.lconst 0), some (.lcmp)],
  [some (.ifCond .le 113), none, none, some (.lload 14), none, some (.lconst 0), some (.lcmp), some (.ifCond .le 106), none, none, some (.lload 8), none, some (.lload 10), none, some (.ldiv), some (.lload 12)],
  [none, some (.lload 14), none, some (.ldiv), some (.lcmp), some (.ifCond .eq 26), none, none, some (.lload 8), none, some (.lload 10), none, some (.ldiv), some (.lload 12), none, some (.lload 14)],
  [none, some (.ldiv), some (.lcmp), some (.ifCond .le 8), none, none, some (.iload 16), none, some (.goto 6), none, none, some (.iload 16), none, some (.ineg), some (.ireturn), some (.lload 8)],
  [none, some (.lload 10), none, some (.lrem), some (.lstore 18), none, some (.lload 12), none, some (.lload 14), none, some (.lrem), some (.lstore 20), none, some (.lload 18), none, some (.lconst 0)],
  [some (.lcmp), some (.ifCond .eq 10), none, none, some (.lload 20), none, some (.lconst 0), some (.lcmp), some (.ifCond .ne 14), none, none, some (.iload 16), none, some (.lload 18), none, some (.lload 20)],
  [none, some (.invokestatic 22), none, none, some (.imul), some (.ireturn), some (.lload 10), none, some (.lstore 8), none, some (.lload 18), none, some (.lstore 10), none, some (.lload 14), none],
  [some (.lstore 12), none, some (.lload 20), none, some (.lstore 14), none, some (.iload 16), none, some (.ineg), some (.istore 16), none, some (.iinc 17 1), none, none, some (.goto (-122)), none],
  [none, some (.iconst 0), some (.ireturn)]]
theorem dcX7_compareFractions : eDec cX7_compareFractions CX7_compareFractions := eDec_of (by decide +kernel)
def rs_nu_compareFractions : List (Nat × eR) := [(22, (1, 0, 2, -1))]
noncomputable def cs_nu_compareFractions : List (eF (Int32 × eW)) := [K_lo_compare]
noncomputable def f_nu_compareFractions_L20 : Nat → Int64 → Int64 → Int64 → Int64 → Int32 → Int32 → eW → Option (Int32 × eW)
  | 0, _, _, _, _, _, _, _ => none
  | n + 1, a8, a10, a12, a14, a16, a17, w => (if (1000 : Int32) ≤ a17 then (some ((0 : Int32), w)) else (if (lg_cmp a10 (0 : Int64)) ≤ 0 then (some ((0 : Int32), w)) else (if (lg_cmp a14 (0 : Int64)) ≤ 0 then (some ((0 : Int32), w)) else (if a10 = 0 then none else (if a14 = 0 then none else (if (lg_cmp (a8 / a10) (a12 / a14)) = 0 then (if a10 = 0 then none else (if a14 = 0 then none else (if (lg_cmp (a8 - a8 / a10 * a10) (0 : Int64)) = 0 then ((f_lo_compare (a8 - a8 / a10 * a10) (a12 - a12 / a14 * a14) w).bind fun p1 => (some ((a16 * p1.1), p1.2))) else (if ¬ (lg_cmp (a12 - a12 / a14 * a14) (0 : Int64)) = 0 then (f_nu_compareFractions_L20 n a10 (a8 - a8 / a10 * a10) a14 (a12 - a12 / a14 * a14) (-a16) (a17 + (1 : Int32)) w) else ((f_lo_compare (a8 - a8 / a10 * a10) (a12 - a12 / a14 * a14) w).bind fun p2 => (some ((a16 * p2.1), p2.2))))))) else (if a10 = 0 then none else (if a14 = 0 then none else (if (lg_cmp (a8 / a10) (a12 / a14)) ≤ 0 then (some ((-a16), w)) else (some (a16, w)))))))))))
noncomputable def f_nu_compareFractions (a0 : Int64) (a2 : Int64) (a4 : Int64) (a6 : Int64) (w : eW) : Option (Int32 × eW) := (f_nu_compareFractions_L20 eFu a0 a2 a4 a6 (1 : Int32) (0 : Int32) w)
noncomputable def K_nu_compareFractions {ρ : Type} : eF ρ := fun as w k => match as with
  | [.long a0, .long a2, .long a4, .long a6] => (f_nu_compareFractions a0 a2 a4 a6 w).bind (fun p => k (some (.int p.1)) p.2)
  | _ => none
section
variable {p : Program} {l : Launch} {e : Env} {s : State} {m : MethodId} {args : Array Value} {below : List Frame} {meth : Method} {c : Code} {ad : Nat → Nat} {D : va_G} {cA : Nat → ClassId}
theorem lk_nu_compareFractions : ∀ q ∈ rs_nu_compareFractions, eLnk { frames := 1, cells := 0, slots := 0, locals := 23 } vwCl (eWd yX7_compareFractions cX7_compareFractions 22 (some .int)) SSc SHc.length RX7 q.1 q.2 := List.forall_mem_cons.mpr ⟨trivial, fun _ h => absurd h List.not_mem_nil⟩
theorem hc_nu_compareFractions {x : Int32 × eW} : ∀ q ∈ rs_nu_compareFractions, eHc l { frames := 1, cells := 0, slots := 0, locals := 23 } ad D cA vwCl SHc SSc (eWd yX7_compareFractions cX7_compareFractions 22 (some .int)) RX7 cs_nu_compareFractions x q := List.forall_mem_cons.mpr ⟨(fun as w k h => let ⟨v, w2, h1, h2⟩ := ok_lo_compare as w k x h; ⟨v, w2, h1, eCal_of h2 ⟨rfl, rfl⟩ hdJ13_compare_74951 (gvX7_22 eTb_wd)⟩), fun _ h => absurd h List.not_mem_nil⟩
noncomputable def kk_nu_compareFractions_20 (n : Nat) : eK (Int32 × eW) := fun pc L st w => bif Nat.beq pc 20 then ((lJ L 8).bind fun a8 => (lJ L 10).bind fun a10 => (lJ L 12).bind fun a12 => (lJ L 14).bind fun a14 => (lI L 16).bind fun a16 => (lI L 17).bind fun a17 => sE st (f_nu_compareFractions_L20 n a8 a10 a12 a14 a16 a17 w)) else none
set_option maxRecDepth 100000 in
set_option maxHeartbeats 4000000 in
theorem go_nu_compareFractions_L20 (hcx : eCx p { frames := 1, cells := 0, slots := 0, locals := 23 } s m args meth c cX7_compareFractions RX7 22 ad D cA vwCl SHc SSc (eWd yX7_compareFractions cX7_compareFractions 22 (some .int)) (some .int)) {x : Int32 × eW} : ∀ (n : Nat) (a8 : Int64) (a10 : Int64) (a12 : Int64) (a14 : Int64) (a16 : Int32) (a17 : Int32) (w : eW), f_nu_compareFractions_L20  n a8 a10 a12 a14 a16 a17 w = some x → eGq p l e { frames := 1, cells := 0, slots := 0, locals := 23 } s m args below meth c 22 ad D cA vwCl SHc rI x 20 [none, none, none, none, none, none, none, none, some (.long a8), none, some (.long a10), none, some (.long a12), none, some (.long a14), none, some (.int a16), some (.int a17), none, none, none, none] [] w := by
  intro n
  induction n with
  | zero => intro a8 a10 a12 a14 a16 a17 w h; exact nomatch (show (none : Option (Int32 × eW)) = some x from h)
  | succ n ih =>
    intro a8 a10 a12 a14 a16 a17 w h
    have h : eRun SHc SSc 22 rs_nu_compareFractions (eCs cs_nu_compareFractions) rI CX7_compareFractions [20] (kk_nu_compareFractions_20  n) 51 true 20 [none, none, none, none, none, none, none, none, some (.long a8), none, some (.long a10), none, some (.long a12), none, some (.long a14), none, some (.int a16), some (.int a17), none, none, none, none] [] w = some x := h
    refine eRun_go hcx (eLnk_all lk_nu_compareFractions) (eHc_all hc_nu_compareFractions) rI_ok dcX7_compareFractions [20] _ (fun pc L st w hK => ?_) 51 true 20 _ _ w h
    unfold kk_nu_compareFractions_20 at hK
    rcases eCut hK with ⟨hpc, hK⟩ | hK
    · subst hpc
      obtain ⟨a8, e8, hK_1⟩ := lJ_some hK
      obtain ⟨a10, e10, hK_2⟩ := lJ_some hK_1
      obtain ⟨a12, e12, hK_3⟩ := lJ_some hK_2
      obtain ⟨a14, e14, hK_4⟩ := lJ_some hK_3
      obtain ⟨a16, e16, hK_5⟩ := lI_some hK_4
      obtain ⟨a17, e17, hK_6⟩ := lI_some hK_5
      obtain ⟨hst9, hK_7⟩ := sE_some hK_6
      subst hst9
      exact eGo.wk (ih a8 a10 a12 a14 a16 a17 w hK_7) (eLe_wk ⟨e8, e10, e12, e14, e16, e17, trivial⟩)
    cases hK
set_option maxRecDepth 100000 in
set_option maxHeartbeats 4000000 in
theorem go_nu_compareFractions (hcx : eCx p { frames := 1, cells := 0, slots := 0, locals := 23 } s m args meth c cX7_compareFractions RX7 22 ad D cA vwCl SHc SSc (eWd yX7_compareFractions cX7_compareFractions 22 (some .int)) (some .int)) (a0 : Int64) (a2 : Int64) (a4 : Int64) (a6 : Int64) (w : eW) (x : Int32 × eW) (h : f_nu_compareFractions a0 a2 a4 a6 w = some x) : eGq p l e { frames := 1, cells := 0, slots := 0, locals := 23 } s m args below meth c 22 ad D cA vwCl SHc rI x 0 (eEnt [.long a0, .long a2, .long a4, .long a6]) [] w := by
  have h : eRun SHc SSc 22 rs_nu_compareFractions (eCs cs_nu_compareFractions) rI CX7_compareFractions [20] (fun pc L st w => bif Nat.beq pc 20 then ((lJ L 8).bind fun a8 => (lJ L 10).bind fun a10 => (lJ L 12).bind fun a12 => (lJ L 14).bind fun a14 => (lI L 16).bind fun a16 => (lI L 17).bind fun a17 => sE st (f_nu_compareFractions_L20 eFu a8 a10 a12 a14 a16 a17 w)) else none) 15 true 0 [some (.long a0), none, some (.long a2), none, some (.long a4), none, some (.long a6), none, none, none, none, none, none, none, none, none, none, none, none, none, none, none] [] w = some x := h
  refine eGo.wk (eRun_go hcx (eLnk_all lk_nu_compareFractions) (eHc_all hc_nu_compareFractions) rI_ok dcX7_compareFractions [20] _ (fun pc L st w hK => ?_) 15 true 0 _ _ w h) (eLe_wk ⟨rfl, rfl, rfl, rfl, trivial⟩)
  rcases eCut hK with ⟨hpc, hK⟩ | hK
  · subst hpc
    obtain ⟨a8, e8, hK_1⟩ := lJ_some hK
    obtain ⟨a10, e10, hK_2⟩ := lJ_some hK_1
    obtain ⟨a12, e12, hK_3⟩ := lJ_some hK_2
    obtain ⟨a14, e14, hK_4⟩ := lJ_some hK_3
    obtain ⟨a16, e16, hK_5⟩ := lI_some hK_4
    obtain ⟨a17, e17, hK_6⟩ := lI_some hK_5
    obtain ⟨hst9, hK_7⟩ := sE_some hK_6
    subst hst9
    exact eGo.wk (go_nu_compareFractions_L20 hcx  eFu a8 a10 a12 a14 a16 a17 w hK_7) (eLe_wk ⟨e8, e10, e12, e14, e16, e17, trivial⟩)
  cases hK
end
set_option maxRecDepth 100000 in
set_option maxHeartbeats 4000000 in
theorem ok_nu_compareFractions {l : Launch} {ad : Nat → Nat} {D : va_G} {cA : Nat → ClassId} {ρ : Type} (as : List Value) (w : eW) (k : Option Value → eW → Option ρ) (x : ρ) (h : K_nu_compareFractions as w k = some x) : ∃ (v : Option Value) (w2 : eW), k v w2 = some x ∧ eMet l ad D cA vwCl SHc SSc yX7_compareFractions (eWd yX7_compareFractions cX7_compareFractions 22 (some .int)) { frames := 1, cells := 0, slots := 0, locals := 23 } as w v w2 := by
  unfold K_nu_compareFractions at h
  split at h
  · rename_i a0 a2 a4 a6
    obtain ⟨q, h2, h3⟩ := Option.bind_eq_some_iff.mp h
    exact ⟨_, _, h3, eMet_of (by decide +kernel) rfl (by simp [eCat, Value.category]) rI_ret (fun p e s m args below meth c hcx => go_nu_compareFractions hcx a0 a2 a4 a6 w q h2)⟩
  · cases h
