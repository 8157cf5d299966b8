def CX11_dilutes : eCo := [[some (.aload_n 0), some (.iload_n 1), some (.iload_n 2), some (.invokevirtual 129), none, none, some (.ifCond .eq 16), none, none, some (.aload_n 0), some (.getfield 28), none, none, some (.iload_n 3), some (.iload 4), none],
  [some (.invokevirtual 202), none, none, some (.ifCond .ne 6), none, none, some (.ldc 205), none, some (.ireturn), some (.aload_n 0), some (.iload_n 1), some (.iload_n 2), some (.invokevirtual 159), none, none, some (.istore 5)],
  [none, some (.aload_n 0), some (.getfield 28), none, none, some (.iload_n 3), some (.iconst 1), some (.invokevirtual 121), none, none, some (.istore 6), none, some (.aload_n 0), some (.getfield 28), none, none],
  [some (.iload_n 3), some (.iconst 1), some (.iload 6), none, some (.iload 4), none, some (.iadd), some (.invokevirtual 195), none, none, some (.aload_n 0), some (.iload_n 1), some (.iload_n 2), some (.invokevirtual 159), none, none],
  [some (.istore 7), none, some (.aload_n 0), some (.getfield 28), none, none, some (.iload_n 3), some (.iconst 1), some (.iload 6), none, some (.invokevirtual 195), none, none, some (.iload 5), none, some (.iload 7)],
  [none, some (.isub), some (.ireturn)]]
theorem dcX11_dilutes : eDec cX11_dilutes CX11_dilutes := eDec_of (by decide +kernel)
def rs_xx_dilutes : List (Nat × eR) := [(28, (0, 10, 2, 2)), (121, (1, 3, 2, 4)), (129, (1, 0, 2, 10)), (159, (1, 2, 2, 10)), (195, (1, 4, 3, 4)), (202, (1, 1, 2, 4)), (205, (2, 0, 0, -1000000000))]
noncomputable def cs_xx_dilutes : List (eF (Int32 × eW)) := [K_xx_isAsked, K_fi_takesShares, K_xx_unitsFor, K_fi_fact, K_fi_put]
noncomputable def f_xx_dilutes (a1 : Int32) (a2 : Int32) (a3 : Int32) (a4 : Int32) (w : eW) : Option (Int32 × eW) := ((f_xx_isAsked a1 a2 w).bind fun p1 => (if p1.1 = 0 then (some ((-1000000000 : Int32), p1.2)) else ((f_fi_takesShares a3 a4 p1.2).bind fun p2 => (if ¬ p2.1 = 0 then ((f_xx_unitsFor a1 a2 p2.2).bind fun p3 => ((f_fi_fact a3 (1 : Int32) p3.2).bind fun p4 => ((f_fi_put a3 (1 : Int32) (p4.1 + a4) p4.2).bind fun w5 => ((f_xx_unitsFor a1 a2 w5).bind fun p6 => ((f_fi_put a3 (1 : Int32) p4.1 p6.2).bind fun w7 => (some ((p3.1 - p6.1), w7))))))) else (some ((-1000000000 : Int32), p2.2))))))
noncomputable def K_xx_dilutes {ρ : Type} : eF ρ := fun as w k => match as with
  | [.ref r0, .int a1, .int a2, .int a3, .int a4] => bif Nat.beq r0 38 then (f_xx_dilutes a1 a2 a3 a4 w).bind (fun p => k (some (.int p.1)) p.2) else none
  | _ => none
section
variable {p : Program} {l : Launch} {e : Env} {s : State} {m : MethodId} {args : Array Value} {below : List Frame} {meth : Method} {c : Code} {ad : Nat → Nat} {D : va_G} {cA : Nat → ClassId}
theorem lk_xx_dilutes : ∀ q ∈ rs_xx_dilutes, eLnk { frames := 6, cells := 0, slots := 0, locals := 181 } vwCl (eWd yX11_dilutes cX11_dilutes 8 (some .int)) SSc SHc.length RX11 q.1 q.2 := List.forall_mem_cons.mpr ⟨lkX11_28 eTb_wd, List.forall_mem_cons.mpr ⟨trivial, List.forall_mem_cons.mpr ⟨trivial, List.forall_mem_cons.mpr ⟨trivial, List.forall_mem_cons.mpr ⟨trivial, List.forall_mem_cons.mpr ⟨trivial, List.forall_mem_cons.mpr ⟨lkX11_205 eTb_wd, fun _ h => absurd h List.not_mem_nil⟩⟩⟩⟩⟩⟩⟩
theorem hc_xx_dilutes {x : Int32 × eW} : ∀ q ∈ rs_xx_dilutes, eHc l { frames := 6, cells := 0, slots := 0, locals := 181 } ad D cA vwCl SHc SSc (eWd yX11_dilutes cX11_dilutes 8 (some .int)) RX11 cs_xx_dilutes x q := List.forall_mem_cons.mpr ⟨trivial, List.forall_mem_cons.mpr ⟨(fun as w k h => let ⟨v, w2, h1, h2⟩ := ok_fi_fact as w k x h; ⟨v, w2, h1, eCal_of h2 ⟨rfl, rfl⟩ hdX4_fact (gvX11_121 eTb_wd)⟩), List.forall_mem_cons.mpr ⟨(fun as w k h => let ⟨v, w2, h1, h2⟩ := ok_xx_isAsked as w k x h; ⟨v, w2, h1, eCal_of h2 ⟨rfl, rfl⟩ hdX11_isAsked (gvX11_129 eTb_wd)⟩), List.forall_mem_cons.mpr ⟨(fun as w k h => let ⟨v, w2, h1, h2⟩ := ok_xx_unitsFor as w k x h; ⟨v, w2, h1, eCal_of h2 ⟨rfl, rfl⟩ hdX11_unitsFor (gvX11_159 eTb_wd)⟩), List.forall_mem_cons.mpr ⟨(fun as w k h => let ⟨v, w2, h1, h2⟩ := ok_fi_put as w k x h; ⟨v, w2, h1, eCal_of h2 ⟨rfl, rfl⟩ hdX4_put (gvX11_195 eTb_wd)⟩), List.forall_mem_cons.mpr ⟨(fun as w k h => let ⟨v, w2, h1, h2⟩ := ok_fi_takesShares as w k x h; ⟨v, w2, h1, eCal_of h2 ⟨rfl, rfl⟩ hdX4_takesShares (gvX11_202 eTb_wd)⟩), List.forall_mem_cons.mpr ⟨trivial, fun _ h => absurd h List.not_mem_nil⟩⟩⟩⟩⟩⟩⟩
set_option maxRecDepth 100000 in
set_option maxHeartbeats 4000000 in
theorem go_xx_dilutes (hcx : eCx p { frames := 6, cells := 0, slots := 0, locals := 181 } s m args meth c cX11_dilutes RX11 8 ad D cA vwCl SHc SSc (eWd yX11_dilutes cX11_dilutes 8 (some .int)) (some .int)) (a1 : Int32) (a2 : Int32) (a3 : Int32) (a4 : Int32) (w : eW) (x : Int32 × eW) (h : f_xx_dilutes a1 a2 a3 a4 w = some x) : eGq p l e { frames := 6, cells := 0, slots := 0, locals := 181 } s m args below meth c 8 ad D cA vwCl SHc rI x 0 (eEnt [.ref 38, .int a1, .int a2, .int a3, .int a4]) [] w := by
  have h : eRun SHc SSc 8 rs_xx_dilutes (eCs cs_xx_dilutes) rI CX11_dilutes [] (fun pc L st w => none) 47 true 0 [some (.ref 38), some (.int a1), some (.int a2), some (.int a3), some (.int a4), none, none, none] [] w = some x := h
  refine eGo.wk (eRun_go hcx (eLnk_all lk_xx_dilutes) (eHc_all hc_xx_dilutes) rI_ok dcX11_dilutes [] _ (fun pc L st w hK => ?_) 47 true 0 _ _ w h) (eLe_wk ⟨rfl, rfl, rfl, rfl, rfl, trivial⟩)
  cases hK
end
set_option maxRecDepth 100000 in
set_option maxHeartbeats 4000000 in
theorem ok_xx_dilutes {l : Launch} {ad : Nat → Nat} {D : va_G} {cA : Nat → ClassId} {ρ : Type} (as : List Value) (w : eW) (k : Option Value → eW → Option ρ) (x : ρ) (h : K_xx_dilutes as w k = some x) : ∃ (v : Option Value) (w2 : eW), k v w2 = some x ∧ eMet l ad D cA vwCl SHc SSc yX11_dilutes (eWd yX11_dilutes cX11_dilutes 8 (some .int)) { frames := 6, cells := 0, slots := 0, locals := 181 } as w v w2 := by
  unfold K_xx_dilutes at h
  split at h
  · rename_i r0 a1 a2 a3 a4
    obtain ⟨h1, h5⟩ := eBif h
    clear h
    have h := h5
    clear h5
    have h1 := Nat.eq_of_beq_eq_true h1
    subst h1
    obtain ⟨q, h2, h3⟩ := Option.bind_eq_some_iff.mp h
    exact ⟨_, _, h3, eMet_of (by decide +kernel) rfl (by simp [eCat, Value.category]) rI_ret (fun p e s m args below meth c hcx => go_xx_dilutes hcx a1 a2 a3 a4 w q h2)⟩
  · cases h
def CX3_remember : eCo := [[some (.aload_n 0), some (.getfield 26), none, none, some (.iconst 0), some (.aload_n 0), some (.getfield 36), none, none, some (.iconst 0), some (.aload_n 0), some (.getfield 26), none, none, some (.arraylength), some (.invokestatic 138)],
  [none, none, some (.aload_n 0), some (.aload_n 0), some (.getfield 29), none, none, some (.putfield 39), none, none, some (.return_)]]
theorem dcX3_remember : eDec cX3_remember CX3_remember := eDec_of (by decide +kernel)
def rs_fa_remember : List (Nat × eR) := [(26, (0, 3, 4, 2)), (29, (0, 3, 5, 1)), (36, (0, 3, 8, 2)), (39, (0, 3, 9, 1)), (138, (6, 3, 0, 0))]
noncomputable def cs_fa_remember : List (eF (eW)) := []
noncomputable def f_fa_remember (w : eW) : Option (eW) := (if ¬ (0 : Int32) < 0 ∧ ¬ (0 : Int32) < 0 ∧ ¬ (12 : Int32) < 0 ∧ (Int32.toNatClampNeg (0 : Int32)) + (Int32.toNatClampNeg (12 : Int32)) ≤ 12 ∧ (Int32.toNatClampNeg (0 : Int32)) + (Int32.toNatClampNeg (12 : Int32)) ≤ 12 then (some (eU2 (eCp2 w 23 22 (Int32.toNatClampNeg (0 : Int32)) (Int32.toNatClampNeg (0 : Int32)) (Int32.toNatClampNeg (12 : Int32))) 24 9 (w.2 24 5))) else none)
noncomputable def K_fa_remember {ρ : Type} : eF ρ := fun as w k => match as with
  | [.ref r0] => bif Nat.beq r0 24 then (f_fa_remember w).bind (fun w => k none w) else none
  | _ => none
section
variable {p : Program} {l : Launch} {e : Env} {s : State} {m : MethodId} {args : Array Value} {below : List Frame} {meth : Method} {c : Code} {ad : Nat → Nat} {D : va_G} {cA : Nat → ClassId}
theorem lk_fa_remember : ∀ q ∈ rs_fa_remember, eLnk { frames := 1, cells := 0, slots := 0, locals := 60 } vwCl (eWd yX3_remember cX3_remember 1 none) SSc SHc.length RX3 q.1 q.2 := List.forall_mem_cons.mpr ⟨lkX3_26 eTb_wd, List.forall_mem_cons.mpr ⟨lkX3_29 eTb_wd, List.forall_mem_cons.mpr ⟨lkX3_36 eTb_wd, List.forall_mem_cons.mpr ⟨lkX3_39 eTb_wd, List.forall_mem_cons.mpr ⟨lkX3_138 ⟨by decide, by decide⟩ eTb_wd, fun _ h => absurd h List.not_mem_nil⟩⟩⟩⟩⟩
theorem hc_fa_remember {x : eW} : ∀ q ∈ rs_fa_remember, eHc l { frames := 1, cells := 0, slots := 0, locals := 60 } ad D cA vwCl SHc SSc (eWd yX3_remember cX3_remember 1 none) RX3 cs_fa_remember x q := List.forall_mem_cons.mpr ⟨trivial, List.forall_mem_cons.mpr ⟨trivial, List.forall_mem_cons.mpr ⟨trivial, List.forall_mem_cons.mpr ⟨trivial, List.forall_mem_cons.mpr ⟨trivial, fun _ h => absurd h List.not_mem_nil⟩⟩⟩⟩⟩
set_option maxRecDepth 100000 in
set_option maxHeartbeats 4000000 in
theorem go_fa_remember (hcx : eCx p { frames := 1, cells := 0, slots := 0, locals := 60 } s m args meth c cX3_remember RX3 1 ad D cA vwCl SHc SSc (eWd yX3_remember cX3_remember 1 none) (none)) (w : eW) (x : eW) (h : f_fa_remember w = some x) : eGq p l e { frames := 1, cells := 0, slots := 0, locals := 60 } s m args below meth c 1 ad D cA vwCl SHc rV x 0 (eEnt [.ref 24]) [] w := by
  have h : eRun SHc SSc 1 rs_fa_remember (eCs cs_fa_remember) rV CX3_remember [] (fun pc L st w => none) 17 true 0 [some (.ref 24)] [] w = some x := h
  refine eGo.wk (eRun_go hcx (eLnk_all lk_fa_remember) (eHc_all hc_fa_remember) rV_ok dcX3_remember [] _ (fun pc L st w hK => ?_) 17 true 0 _ _ w h) (eLe_wk ⟨rfl, trivial⟩)
  cases hK
end
set_option maxRecDepth 100000 in
set_option maxHeartbeats 4000000 in
theorem ok_fa_remember {l : Launch} {ad : Nat → Nat} {D : va_G} {cA : Nat → ClassId} {ρ : Type} (as : List Value) (w : eW) (k : Option Value → eW → Option ρ) (x : ρ) (h : K_fa_remember as w k = some x) : ∃ (v : Option Value) (w2 : eW), k v w2 = some x ∧ eMet l ad D cA vwCl SHc SSc yX3_remember (eWd yX3_remember cX3_remember 1 none) { frames := 1, cells := 0, slots := 0, locals := 60 } as w v w2 := by
  unfold K_fa_remember at h
  split at h
  · rename_i r0
    obtain ⟨h1, h5⟩ := eBif h
    clear h
    have h := h5
    clear h5
    have h1 := Nat.eq_of_beq_eq_true h1
    subst h1
    obtain ⟨q, h2, h3⟩ := Option.bind_eq_some_iff.mp h
    exact ⟨_, _, h3, eMet_of (by decide +kernel) rfl (by simp [eCat, Value.category]) rV_ret (fun p e s m args below meth c hcx => go_fa_remember hcx w q h2)⟩
  · cases h
def CX3_hasMoreThanRemembered : eCo := [[some (.iload_n 1), some (.ifCond .lt 32), none, none, some (.iload_n 1), some (.bipush 12), none, some (.if_icmp .ge 26), none, none, some (.aload_n 0), some (.iload_n 1), some (.aload_n 0), some (.getfield 36), none, none],
  [some (.iload_n 1), some (.laload), some (.aload_n 0), some (.getfield 39), none, none, some (.iconst 1), some (.invokevirtual 144), none, none, some (.ifCond .eq 7), none, none, some (.iconst 1), some (.goto 4), none],
  [none, some (.iconst 0), some (.ireturn)]]
theorem dcX3_hasMoreThanRemembered : eDec cX3_hasMoreThanRemembered CX3_hasMoreThanRemembered := eDec_of (by decide +kernel)
def rs_fa_hasMoreThanRemembered : List (Nat × eR) := [(36, (0, 3, 8, 2)), (39, (0, 3, 9, 1)), (144, (1, 0, 4, 3))]
noncomputable def cs_fa_hasMoreThanRemembered : List (eF (Int32 × eW)) := [K_fa_reaches]
noncomputable def f_fa_hasMoreThanRemembered (a1 : Int32) (w : eW) : Option (Int32 × eW) := (if a1 < 0 then (some ((0 : Int32), w)) else (if (12 : Int32) ≤ a1 then (some ((0 : Int32), w)) else (eChk a1 12 ((f_fa_reaches a1 (w.2 23 (Int32.toNatClampNeg a1)) (w.2 24 9) (1 : Int32) w).bind fun p1 => (if p1.1 = 0 then (some ((0 : Int32), p1.2)) else (some ((1 : Int32), p1.2)))))))
noncomputable def K_fa_hasMoreThanRemembered {ρ : Type} : eF ρ := fun as w k => match as with
  | [.ref r0, .int a1] => bif Nat.beq r0 24 then (f_fa_hasMoreThanRemembered a1 w).bind (fun p => k (some (.int p.1)) p.2) else none
  | _ => none
section
variable {p : Program} {l : Launch} {e : Env} {s : State} {m : MethodId} {args : Array Value} {below : List Frame} {meth : Method} {c : Code} {ad : Nat → Nat} {D : va_G} {cA : Nat → ClassId}
theorem lk_fa_hasMoreThanRemembered : ∀ q ∈ rs_fa_hasMoreThanRemembered, eLnk { frames := 3, cells := 0, slots := 0, locals := 91 } vwCl (eWd yX3_hasMoreThanRemembered cX3_hasMoreThanRemembered 2 (some .boolean)) SSc SHc.length RX3 q.1 q.2 := List.forall_mem_cons.mpr ⟨lkX3_36 eTb_wd, List.forall_mem_cons.mpr ⟨lkX3_39 eTb_wd, List.forall_mem_cons.mpr ⟨trivial, fun _ h => absurd h List.not_mem_nil⟩⟩⟩
theorem hc_fa_hasMoreThanRemembered {x : Int32 × eW} : ∀ q ∈ rs_fa_hasMoreThanRemembered, eHc l { frames := 3, cells := 0, slots := 0, locals := 91 } ad D cA vwCl SHc SSc (eWd yX3_hasMoreThanRemembered cX3_hasMoreThanRemembered 2 (some .boolean)) RX3 cs_fa_hasMoreThanRemembered x q := List.forall_mem_cons.mpr ⟨trivial, List.forall_mem_cons.mpr ⟨trivial, List.forall_mem_cons.mpr ⟨(fun as w k h => let ⟨v, w2, h1, h2⟩ := ok_fa_reaches as w k x h; ⟨v, w2, h1, eCal_of h2 ⟨rfl, rfl⟩ hdX3_reaches (gvX3_144 eTb_wd)⟩), fun _ h => absurd h List.not_mem_nil⟩⟩⟩
set_option maxRecDepth 100000 in
set_option maxHeartbeats 4000000 in
theorem go_fa_hasMoreThanRemembered (hcx : eCx p { frames := 3, cells := 0, slots := 0, locals := 91 } s m args meth c cX3_hasMoreThanRemembered RX3 2 ad D cA vwCl SHc SSc (eWd yX3_hasMoreThanRemembered cX3_hasMoreThanRemembered 2 (some .boolean)) (some .boolean)) (a1 : Int32) (w : eW) (x : Int32 × eW) (h : f_fa_hasMoreThanRemembered a1 w = some x) : eGq p l e { frames := 3, cells := 0, slots := 0, locals := 91 } s m args below meth c 2 ad D cA vwCl SHc rZ x 0 (eEnt [.ref 24, .int a1]) [] w := by
  have h : eRun SHc SSc 2 rs_fa_hasMoreThanRemembered (eCs cs_fa_hasMoreThanRemembered) rZ CX3_hasMoreThanRemembered [] (fun pc L st w => none) 21 true 0 [some (.ref 24), some (.int a1)] [] w = some x := h
  refine eGo.wk (eRun_go hcx (eLnk_all lk_fa_hasMoreThanRemembered) (eHc_all hc_fa_hasMoreThanRemembered) rZ_ok dcX3_hasMoreThanRemembered [] _ (fun pc L st w hK => ?_) 21 true 0 _ _ w h) (eLe_wk ⟨rfl, rfl, trivial⟩)
  cases hK
end
set_option maxRecDepth 100000 in
set_option maxHeartbeats 4000000 in
theorem ok_fa_hasMoreThanRemembered {l : Launch} {ad : Nat → Nat} {D : va_G} {cA : Nat → ClassId} {ρ : Type} (as : List Value) (w : eW) (k : Option Value → eW → Option ρ) (x : ρ) (h : K_fa_hasMoreThanRemembered as w k = some x) : ∃ (v : Option Value) (w2 : eW), k v w2 = some x ∧ eMet l ad D cA vwCl SHc SSc yX3_hasMoreThanRemembered (eWd yX3_hasMoreThanRemembered cX3_hasMoreThanRemembered 2 (some .boolean)) { frames := 3, cells := 0, slots := 0, locals := 91 } as w v w2 := by
  unfold K_fa_hasMoreThanRemembered at h
  split at h
  · rename_i r0 a1
    obtain ⟨h1, h5⟩ := eBif h
    clear h
    have h := h5
    clear h5
    have h1 := Nat.eq_of_beq_eq_true h1
    subst h1
    obtain ⟨q, h2, h3⟩ := Option.bind_eq_some_iff.mp h
    exact ⟨_, _, h3, eMet_of (by decide +kernel) rfl (by simp [eCat, Value.category]) rZ_ret (fun p e s m args below meth c hcx => go_fa_hasMoreThanRemembered hcx a1 w q h2)⟩
  · cases h
def CX11_thoseWithMore : eCo := [[some (.iconst 0), some (.istore_n 3), some (.aload_n 0), some (.iload_n 2), some (.invokevirtual 138), none, none, some (.aload_n 0), some (.getfield 35), none, none, some (.invokevirtual 340), none, none, some (.aload_n 0), some (.iload_n 1)],
  [some (.invokevirtual 138), none, none, some (.iconst 0), some (.istore 4), none, some (.iload 4), none, some (.aload_n 0), some (.getfield 28), none, none, some (.getfield 105), none, none, some (.if_icmp .ge 28)],
  [none, none, some (.aload_n 0), some (.getfield 35), none, none, some (.iload 4), none, some (.invokevirtual 343), none, none, some (.ifCond .eq 10), none, none, some (.iload_n 3), some (.iconst 1)],
  [some (.iload 4), none, some (.ishl), some (.ior), some (.istore_n 3), some (.iinc 4 1), none, none, some (.goto (-34)), none, none, some (.iload_n 3), some (.ireturn)]]
theorem dcX11_thoseWithMore : eDec cX11_thoseWithMore CX11_thoseWithMore := eDec_of (by decide +kernel)
def rs_xx_thoseWithMore : List (Nat × eR) := [(28, (0, 10, 2, 2)), (35, (0, 10, 3, 2)), (105, (0, 4, 0, 0)), (138, (1, 0, 1, 10)), (340, (1, 1, 0, 3)), (343, (1, 2, 1, 3))]
noncomputable def cs_xx_thoseWithMore : List (eF (Int32 × eW)) := [K_xx_pour, K_fa_remember, K_fa_hasMoreThanRemembered]
noncomputable def f_xx_thoseWithMore_L22 : Nat → Int32 → Int32 → eW → Option (Int32 × eW)
  | 0, _, _, _ => none
  | n + 1, a3, a4, w => (if (w.1 8 0) ≤ a4 then (some (a3, w)) else ((f_fa_hasMoreThanRemembered a4 w).bind fun p4 => (if p4.1 = 0 then (f_xx_thoseWithMore_L22 n a3 (a4 + (1 : Int32)) p4.2) else (f_xx_thoseWithMore_L22 n (a3 ||| ((1 : Int32) <<< (a4 &&& 31))) (a4 + (1 : Int32)) p4.2))))
noncomputable def f_xx_thoseWithMore (a1 : Int32) (a2 : Int32) (w : eW) : Option (Int32 × eW) := ((f_xx_pour a2 w).bind fun w1 => ((f_fa_remember w1).bind fun w2 => ((f_xx_pour a1 w2).bind fun w3 => (f_xx_thoseWithMore_L22 eFu (0 : Int32) (0 : Int32) w3))))
noncomputable def K_xx_thoseWithMore {ρ : Type} : eF ρ := fun as w k => match as with
  | [.ref r0, .int a1, .int a2] => bif Nat.beq r0 38 then (f_xx_thoseWithMore a1 a2 w).bind (fun p => k (some (.int p.1)) p.2) else none
  | _ => none
section
variable {p : Program} {l : Launch} {e : Env} {s : State} {m : MethodId} {args : Array Value} {below : List Frame} {meth : Method} {c : Code} {ad : Nat → Nat} {D : va_G} {cA : Nat → ClassId}
theorem lk_xx_thoseWithMore : ∀ q ∈ rs_xx_thoseWithMore, eLnk { frames := 5, cells := 0, slots := 0, locals := 159 } vwCl (eWd yX11_thoseWithMore cX11_thoseWithMore 5 (some .int)) SSc SHc.length RX11 q.1 q.2 := List.forall_mem_cons.mpr ⟨lkX11_28 eTb_wd, List.forall_mem_cons.mpr ⟨lkX11_35 eTb_wd, List.forall_mem_cons.mpr ⟨lkX11_105 eTb_wd, List.forall_mem_cons.mpr ⟨trivial, List.forall_mem_cons.mpr ⟨trivial, List.forall_mem_cons.mpr ⟨trivial, fun _ h => absurd h List.not_mem_nil⟩⟩⟩⟩⟩⟩
theorem hc_xx_thoseWithMore {x : Int32 × eW} : ∀ q ∈ rs_xx_thoseWithMore, eHc l { frames := 5, cells := 0, slots := 0, locals := 159 } ad D cA vwCl SHc SSc (eWd yX11_thoseWithMore cX11_thoseWithMore 5 (some .int)) RX11 cs_xx_thoseWithMore x q := List.forall_mem_cons.mpr ⟨trivial, List.forall_mem_cons.mpr ⟨trivial, List.forall_mem_cons.mpr ⟨trivial, List.forall_mem_cons.mpr ⟨(fun as w k h => let ⟨v, w2, h1, h2⟩ := ok_xx_pour as w k x h; ⟨v, w2, h1, eCal_of h2 ⟨rfl, rfl⟩ hdX11_pour (gvX11_138 eTb_wd)⟩), List.forall_mem_cons.mpr ⟨(fun as w k h => let ⟨v, w2, h1, h2⟩ := ok_fa_remember as w k x h; ⟨v, w2, h1, eCal_of h2 ⟨rfl, rfl⟩ hdX3_remember (gvX11_340 eTb_wd)⟩), List.forall_mem_cons.mpr ⟨(fun as w k h => let ⟨v, w2, h1, h2⟩ := ok_fa_hasMoreThanRemembered as w k x h; ⟨v, w2, h1, eCal_of h2 ⟨rfl, rfl⟩ hdX3_hasMoreThanRemembered (gvX11_343 eTb_wd)⟩), fun _ h => absurd h List.not_mem_nil⟩⟩⟩⟩⟩⟩
noncomputable def kk_xx_thoseWithMore_22 (n : Nat) : eK (Int32 × eW) := fun pc L st w => bif Nat.beq pc 22 then (lR L 0 38 ((lI L 3).bind fun a3 => (lI L 4).bind fun a4 => sE st (f_xx_thoseWithMore_L22 n a3 a4 w))) else none
set_option maxRecDepth 100000 in
set_option maxHeartbeats 4000000 in
theorem go_xx_thoseWithMore_L22 (hcx : eCx p { frames := 5, cells := 0, slots := 0, locals := 159 } s m args meth c cX11_thoseWithMore RX11 5 ad D cA vwCl SHc SSc (eWd yX11_thoseWithMore cX11_thoseWithMore 5 (some .int)) (some .int)) {x : Int32 × eW} : ∀ (n : Nat) (a3 : Int32) (a4 : Int32) (w : eW), f_xx_thoseWithMore_L22  n a3 a4 w = some x → eGq p l e { frames := 5, cells := 0, slots := 0, locals := 159 } s m args below meth c 5 ad D cA vwCl SHc rI x 22 [some (.ref 38), none, none, some (.int a3), some (.int a4)] [] w := by
  intro n
  induction n with
  | zero => intro a3 a4 w h; exact nomatch (show (none : Option (Int32 × eW)) = some x from h)
  | succ n ih =>
    intro a3 a4 w h
    have h : eRun SHc SSc 5 rs_xx_thoseWithMore (eCs cs_xx_thoseWithMore) rI CX11_thoseWithMore [22] (kk_xx_thoseWithMore_22  n) 21 true 22 [some (.ref 38), none, none, some (.int a3), some (.int a4)] [] w = some x := h
    refine eRun_go hcx (eLnk_all lk_xx_thoseWithMore) (eHc_all hc_xx_thoseWithMore) rI_ok dcX11_thoseWithMore [22] _ (fun pc L st w hK => ?_) 21 true 22 _ _ w h
    unfold kk_xx_thoseWithMore_22 at hK
    rcases eCut hK with ⟨hpc, hK⟩ | hK
    · subst hpc
      obtain ⟨e0, hK_1⟩ := lR_some hK
      obtain ⟨a3, e3, hK_2⟩ := lI_some hK_1
      obtain ⟨a4, e4, hK_3⟩ := lI_some hK_2
      obtain ⟨hst9, hK_4⟩ := sE_some hK_3
      subst hst9
      exact eGo.wk (ih a3 a4 w hK_4) (eLe_wk ⟨e0, e3, e4, trivial⟩)
    cases hK
set_option maxRecDepth 100000 in
set_option maxHeartbeats 4000000 in
theorem go_xx_thoseWithMore (hcx : eCx p { frames := 5, cells := 0, slots := 0, locals := 159 } s m args meth c cX11_thoseWithMore RX11 5 ad D cA vwCl SHc SSc (eWd yX11_thoseWithMore cX11_thoseWithMore 5 (some .int)) (some .int)) (a1 : Int32) (a2 : Int32) (w : eW) (x : Int32 × eW) (h : f_xx_thoseWithMore a1 a2 w = some x) : eGq p l e { frames := 5, cells := 0, slots := 0, locals := 159 } s m args below meth c 5 ad D cA vwCl SHc rI x 0 (eEnt [.ref 38, .int a1, .int a2]) [] w := by
  have h : eRun SHc SSc 5 rs_xx_thoseWithMore (eCs cs_xx_thoseWithMore) rI CX11_thoseWithMore [22] (fun pc L st w => bif Nat.beq pc 22 then (lR L 0 38 ((lI L 3).bind fun a3 => (lI L 4).bind fun a4 => sE st (f_xx_thoseWithMore_L22 eFu a3 a4 w))) else none) 16 true 0 [some (.ref 38), some (.int a1), some (.int a2), none, none] [] w = some x := h
  refine eGo.wk (eRun_go hcx (eLnk_all lk_xx_thoseWithMore) (eHc_all hc_xx_thoseWithMore) rI_ok dcX11_thoseWithMore [22] _ (fun pc L st w hK => ?_) 16 true 0 _ _ w h) (eLe_wk ⟨rfl, rfl, rfl, trivial⟩)
  rcases eCut hK with ⟨hpc, hK⟩ | hK
  · subst hpc
    obtain ⟨e0, hK_1⟩ := lR_some hK
    obtain ⟨a3, e3, hK_2⟩ := lI_some hK_1
    obtain ⟨a4, e4, hK_3⟩ := lI_some hK_2
    obtain ⟨hst9, hK_4⟩ := sE_some hK_3
    subst hst9
    exact eGo.wk (go_xx_thoseWithMore_L22 hcx  eFu a3 a4 w hK_4) (eLe_wk ⟨e0, e3, e4, trivial⟩)
  cases hK
end
set_option maxRecDepth 100000 in
set_option maxHeartbeats 4000000 in
theorem ok_xx_thoseWithMore {l : Launch} {ad : Nat → Nat} {D : va_G} {cA : Nat → ClassId} {ρ : Type} (as : List Value) (w : eW) (k : Option Value → eW → Option ρ) (x : ρ) (h : K_xx_thoseWithMore as w k = some x) : ∃ (v : Option Value) (w2 : eW), k v w2 = some x ∧ eMet l ad D cA vwCl SHc SSc yX11_thoseWithMore (eWd yX11_thoseWithMore cX11_thoseWithMore 5 (some .int)) { frames := 5, cells := 0, slots := 0, locals := 159 } as w v w2 := by
  unfold K_xx_thoseWithMore at h
  split at h
  · rename_i r0 a1 a2
    obtain ⟨h1, h5⟩ := eBif h
    clear h
    have h := h5
    clear h5
    have h1 := Nat.eq_of_beq_eq_true h1
    subst h1
    obtain ⟨q, h2, h3⟩ := Option.bind_eq_some_iff.mp h
    exact ⟨_, _, h3, eMet_of (by decide +kernel) rfl (by simp [eCat, Value.category]) rI_ret (fun p e s m args below meth c hcx => go_xx_thoseWithMore hcx a1 a2 w q h2)⟩
  · cases h
