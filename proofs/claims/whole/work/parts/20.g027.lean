def CX5_steadySet : eCo := [[some (.iconst 0), some (.istore_n 2), some (.iconst 0), some (.istore_n 3), some (.iload_n 3), some (.iconst 1), some (.aload_n 0), some (.getfield 22), none, none, some (.ishl), some (.if_icmp .ge 31), none, none, some (.aload_n 0), some (.iload_n 3)],
  [some (.invokevirtual 68), none, none, some (.ifCond .eq 17), none, none, some (.iload_n 2), some (.iload_n 1), some (.if_icmp .ne 9), none, none, some (.aload_n 0), some (.iload_n 3), some (.invokevirtual 37), none, none],
  [some (.ireturn), some (.iinc 2 1), none, none, some (.iinc 3 1), none, none, some (.goto (-35)), none, none, some (.iconst (-1)), some (.ireturn)]]
theorem dcX5_steadySet : eDec cX5_steadySet CX5_steadySet := eDec_of (by decide +kernel)
def rs_ga_steadySet : List (Nat × eR) := [(22, (0, 5, 1, 0)), (37, (1, 1, 1, 5)), (68, (1, 0, 1, 5))]
noncomputable def cs_ga_steadySet : List (eF (Int32 × eW)) := [K_ga_isSteady, K_ga_setOf]
noncomputable def f_ga_steadySet_L4 : Nat → Int32 → Int32 → Int32 → eW → Option (Int32 × eW)
  | 0, _, _, _, _ => none
  | n + 1, a1, a2, a3, w => (if ((1 : Int32) <<< ((w.1 31 1) &&& 31)) ≤ a3 then (some ((-1 : Int32), w)) else ((f_ga_isSteady a3 w).bind fun p1 => (if p1.1 = 0 then (f_ga_steadySet_L4 n a1 a2 (a3 + (1 : Int32)) p1.2) else (if ¬ a2 = a1 then (f_ga_steadySet_L4 n a1 (a2 + (1 : Int32)) (a3 + (1 : Int32)) p1.2) else ((f_ga_setOf a3 p1.2).bind fun p2 => (some (p2.1, p2.2)))))))
noncomputable def f_ga_steadySet (a1 : Int32) (w : eW) : Option (Int32 × eW) := (f_ga_steadySet_L4 eFu a1 (0 : Int32) (0 : Int32) w)
noncomputable def K_ga_steadySet {ρ : Type} : eF ρ := fun as w k => match as with
  | [.ref r0, .int a1] => bif Nat.beq r0 31 then (f_ga_steadySet a1 w).bind (fun p => k (some (.int p.1)) p.2) else none
  | _ => none
section
variable {p : Program} {l : Launch} {e : Env} {s : State} {m : MethodId} {args : Array Value} {below : List Frame} {meth : Method} {c : Code} {ad : Nat → Nat} {D : va_G} {cA : Nat → ClassId}
theorem lk_ga_steadySet : ∀ q ∈ rs_ga_steadySet, eLnk { frames := 4, cells := 0, slots := 0, locals := 114 } vwCl (eWd yX5_steadySet cX5_steadySet 4 (some .int)) SSc SHc.length RX5 q.1 q.2 := List.forall_mem_cons.mpr ⟨lkX5_22 eTb_wd, List.forall_mem_cons.mpr ⟨trivial, List.forall_mem_cons.mpr ⟨trivial, fun _ h => absurd h List.not_mem_nil⟩⟩⟩
theorem hc_ga_steadySet {x : Int32 × eW} : ∀ q ∈ rs_ga_steadySet, eHc l { frames := 4, cells := 0, slots := 0, locals := 114 } ad D cA vwCl SHc SSc (eWd yX5_steadySet cX5_steadySet 4 (some .int)) RX5 cs_ga_steadySet x q := List.forall_mem_cons.mpr ⟨trivial, List.forall_mem_cons.mpr ⟨(fun as w k h => let ⟨v, w2, h1, h2⟩ := ok_ga_setOf as w k x h; ⟨v, w2, h1, eCal_of h2 ⟨rfl, rfl⟩ hdX5_setOf (gvX5_37 eTb_wd)⟩), List.forall_mem_cons.mpr ⟨(fun as w k h => let ⟨v, w2, h1, h2⟩ := ok_ga_isSteady as w k x h; ⟨v, w2, h1, eCal_of h2 ⟨rfl, rfl⟩ hdX5_isSteady (gvX5_68 eTb_wd)⟩), fun _ h => absurd h List.not_mem_nil⟩⟩⟩
noncomputable def kk_ga_steadySet_4 (n : Nat) : eK (Int32 × eW) := fun pc L st w => bif Nat.beq pc 4 then (lR L 0 31 ((lI L 1).bind fun a1 => (lI L 2).bind fun a2 => (lI L 3).bind fun a3 => sE st (f_ga_steadySet_L4 n a1 a2 a3 w))) else none
set_option maxRecDepth 100000 in
set_option maxHeartbeats 4000000 in
theorem go_ga_steadySet_L4 (hcx : eCx p { frames := 4, cells := 0, slots := 0, locals := 114 } s m args meth c cX5_steadySet RX5 4 ad D cA vwCl SHc SSc (eWd yX5_steadySet cX5_steadySet 4 (some .int)) (some .int)) {x : Int32 × eW} : ∀ (n : Nat) (a1 : Int32) (a2 : Int32) (a3 : Int32) (w : eW), f_ga_steadySet_L4  n a1 a2 a3 w = some x → eGq p l e { frames := 4, cells := 0, slots := 0, locals := 114 } s m args below meth c 4 ad D cA vwCl SHc rI x 4 [some (.ref 31), some (.int a1), some (.int a2), some (.int a3)] [] w := by
  intro n
  induction n with
  | zero => intro a1 a2 a3 w h; exact nomatch (show (none : Option (Int32 × eW)) = some x from h)
  | succ n ih =>
    intro a1 a2 a3 w h
    have h : eRun SHc SSc 4 rs_ga_steadySet (eCs cs_ga_steadySet) rI CX5_steadySet [4] (kk_ga_steadySet_4  n) 19 true 4 [some (.ref 31), some (.int a1), some (.int a2), some (.int a3)] [] w = some x := h
    refine eRun_go hcx (eLnk_all lk_ga_steadySet) (eHc_all hc_ga_steadySet) rI_ok dcX5_steadySet [4] _ (fun pc L st w hK => ?_) 19 true 4 _ _ w h
    unfold kk_ga_steadySet_4 at hK
    rcases eCut hK with ⟨hpc, hK⟩ | hK
    · subst hpc
      obtain ⟨e0, hK_1⟩ := lR_some hK
      obtain ⟨a1, e1, hK_2⟩ := lI_some hK_1
      obtain ⟨a2, e2, hK_3⟩ := lI_some hK_2
      obtain ⟨a3, e3, hK_4⟩ := lI_some hK_3
      obtain ⟨hst9, hK_5⟩ := sE_some hK_4
      subst hst9
      exact eGo.wk (ih a1 a2 a3 w hK_5) (eLe_wk ⟨e0, e1, e2, e3, trivial⟩)
    cases hK
set_option maxRecDepth 100000 in
set_option maxHeartbeats 4000000 in
theorem go_ga_steadySet (hcx : eCx p { frames := 4, cells := 0, slots := 0, locals := 114 } s m args meth c cX5_steadySet RX5 4 ad D cA vwCl SHc SSc (eWd yX5_steadySet cX5_steadySet 4 (some .int)) (some .int)) (a1 : Int32) (w : eW) (x : Int32 × eW) (h : f_ga_steadySet a1 w = some x) : eGq p l e { frames := 4, cells := 0, slots := 0, locals := 114 } s m args below meth c 4 ad D cA vwCl SHc rI x 0 (eEnt [.ref 31, .int a1]) [] w := by
  have h : eRun SHc SSc 4 rs_ga_steadySet (eCs cs_ga_steadySet) rI CX5_steadySet [4] (fun pc L st w => bif Nat.beq pc 4 then (lR L 0 31 ((lI L 1).bind fun a1 => (lI L 2).bind fun a2 => (lI L 3).bind fun a3 => sE st (f_ga_steadySet_L4 eFu a1 a2 a3 w))) else none) 7 true 0 [some (.ref 31), some (.int a1), none, none] [] w = some x := h
  refine eGo.wk (eRun_go hcx (eLnk_all lk_ga_steadySet) (eHc_all hc_ga_steadySet) rI_ok dcX5_steadySet [4] _ (fun pc L st w hK => ?_) 7 true 0 _ _ w h) (eLe_wk ⟨rfl, rfl, trivial⟩)
  rcases eCut hK with ⟨hpc, hK⟩ | hK
  · subst hpc
    obtain ⟨e0, hK_1⟩ := lR_some hK
    obtain ⟨a1, e1, hK_2⟩ := lI_some hK_1
    obtain ⟨a2, e2, hK_3⟩ := lI_some hK_2
    obtain ⟨a3, e3, hK_4⟩ := lI_some hK_3
    obtain ⟨hst9, hK_5⟩ := sE_some hK_4
    subst hst9
    exact eGo.wk (go_ga_steadySet_L4 hcx  eFu a1 a2 a3 w hK_5) (eLe_wk ⟨e0, e1, e2, e3, trivial⟩)
  cases hK
end
set_option maxRecDepth 100000 in
set_option maxHeartbeats 4000000 in
theorem ok_ga_steadySet {l : Launch} {ad : Nat → Nat} {D : va_G} {cA : Nat → ClassId} {ρ : Type} (as : List Value) (w : eW) (k : Option Value → eW → Option ρ) (x : ρ) (h : K_ga_steadySet as w k = some x) : ∃ (v : Option Value) (w2 : eW), k v w2 = some x ∧ eMet l ad D cA vwCl SHc SSc yX5_steadySet (eWd yX5_steadySet cX5_steadySet 4 (some .int)) { frames := 4, cells := 0, slots := 0, locals := 114 } as w v w2 := by
  unfold K_ga_steadySet at h
  split at h
  · rename_i r0 a1
    obtain ⟨h1, h5⟩ := eBif h
    clear h
    have h := h5
    clear h5
    have h1 := Nat.eq_of_beq_eq_true h1
    subst h1
    obtain ⟨q, h2, h3⟩ := Option.bind_eq_some_iff.mp h
    exact ⟨_, _, h3, eMet_of (by decide +kernel) rfl (by simp [eCat, Value.category]) rI_ret (fun p e s m args below meth c hcx => go_ga_steadySet hcx a1 w q h2)⟩
  · cases h
def CX5_countSteady : eCo := [[some (.iconst 0), some (.istore_n 1), some (.iconst 0), some (.istore_n 2), some (.iload_n 2), some (.iconst 1), some (.aload_n 0), some (.getfield 22), none, none, some (.ishl), some (.if_icmp .ge 25), none, none, some (.iload_n 1), some (.aload_n 0)],
  [some (.iload_n 2), some (.invokevirtual 68), none, none, some (.ifCond .eq 7), none, none, some (.iconst 1), some (.goto 4), none, none, some (.iconst 0), some (.iadd), some (.istore_n 1), some (.iinc 2 1), none],
  [none, some (.goto (-29)), none, none, some (.iload_n 1), some (.ireturn)]]
theorem dcX5_countSteady : eDec cX5_countSteady CX5_countSteady := eDec_of (by decide +kernel)
def rs_ga_countSteady : List (Nat × eR) := [(22, (0, 5, 1, 0)), (68, (1, 0, 1, 5))]
noncomputable def cs_ga_countSteady : List (eF (Int32 × eW)) := [K_ga_isSteady]
noncomputable def f_ga_countSteady_L4 : Nat → Int32 → Int32 → eW → Option (Int32 × eW)
  | 0, _, _, _ => none
  | n + 1, a1, a2, w => (if ((1 : Int32) <<< ((w.1 31 1) &&& 31)) ≤ a2 then (some (a1, w)) else ((f_ga_isSteady a2 w).bind fun p1 => (if p1.1 = 0 then (f_ga_countSteady_L4 n (a1 + (0 : Int32)) (a2 + (1 : Int32)) p1.2) else (f_ga_countSteady_L4 n (a1 + (1 : Int32)) (a2 + (1 : Int32)) p1.2))))
noncomputable def f_ga_countSteady (w : eW) : Option (Int32 × eW) := (f_ga_countSteady_L4 eFu (0 : Int32) (0 : Int32) w)
noncomputable def K_ga_countSteady {ρ : Type} : eF ρ := fun as w k => match as with
  | [.ref r0] => bif Nat.beq r0 31 then (f_ga_countSteady w).bind (fun p => k (some (.int p.1)) p.2) else none
  | _ => none
section
variable {p : Program} {l : Launch} {e : Env} {s : State} {m : MethodId} {args : Array Value} {below : List Frame} {meth : Method} {c : Code} {ad : Nat → Nat} {D : va_G} {cA : Nat → ClassId}
theorem lk_ga_countSteady : ∀ q ∈ rs_ga_countSteady, eLnk { frames := 4, cells := 0, slots := 0, locals := 114 } vwCl (eWd yX5_countSteady cX5_countSteady 3 (some .int)) SSc SHc.length RX5 q.1 q.2 := List.forall_mem_cons.mpr ⟨lkX5_22 eTb_wd, List.forall_mem_cons.mpr ⟨trivial, fun _ h => absurd h List.not_mem_nil⟩⟩
theorem hc_ga_countSteady {x : Int32 × eW} : ∀ q ∈ rs_ga_countSteady, eHc l { frames := 4, cells := 0, slots := 0, locals := 114 } ad D cA vwCl SHc SSc (eWd yX5_countSteady cX5_countSteady 3 (some .int)) RX5 cs_ga_countSteady x q := List.forall_mem_cons.mpr ⟨trivial, List.forall_mem_cons.mpr ⟨(fun as w k h => let ⟨v, w2, h1, h2⟩ := ok_ga_isSteady as w k x h; ⟨v, w2, h1, eCal_of h2 ⟨rfl, rfl⟩ hdX5_isSteady (gvX5_68 eTb_wd)⟩), fun _ h => absurd h List.not_mem_nil⟩⟩
noncomputable def kk_ga_countSteady_4 (n : Nat) : eK (Int32 × eW) := fun pc L st w => bif Nat.beq pc 4 then (lR L 0 31 ((lI L 1).bind fun a1 => (lI L 2).bind fun a2 => sE st (f_ga_countSteady_L4 n a1 a2 w))) else none
set_option maxRecDepth 100000 in
set_option maxHeartbeats 4000000 in
theorem go_ga_countSteady_L4 (hcx : eCx p { frames := 4, cells := 0, slots := 0, locals := 114 } s m args meth c cX5_countSteady RX5 3 ad D cA vwCl SHc SSc (eWd yX5_countSteady cX5_countSteady 3 (some .int)) (some .int)) {x : Int32 × eW} : ∀ (n : Nat) (a1 : Int32) (a2 : Int32) (w : eW), f_ga_countSteady_L4  n a1 a2 w = some x → eGq p l e { frames := 4, cells := 0, slots := 0, locals := 114 } s m args below meth c 3 ad D cA vwCl SHc rI x 4 [some (.ref 31), some (.int a1), some (.int a2)] [] w := by
  intro n
  induction n with
  | zero => intro a1 a2 w h; exact nomatch (show (none : Option (Int32 × eW)) = some x from h)
  | succ n ih =>
    intro a1 a2 w h
    have h : eRun SHc SSc 3 rs_ga_countSteady (eCs cs_ga_countSteady) rI CX5_countSteady [4] (kk_ga_countSteady_4  n) 20 true 4 [some (.ref 31), some (.int a1), some (.int a2)] [] w = some x := h
    refine eRun_go hcx (eLnk_all lk_ga_countSteady) (eHc_all hc_ga_countSteady) rI_ok dcX5_countSteady [4] _ (fun pc L st w hK => ?_) 20 true 4 _ _ w h
    unfold kk_ga_countSteady_4 at hK
    rcases eCut hK with ⟨hpc, hK⟩ | hK
    · subst hpc
      obtain ⟨e0, hK_1⟩ := lR_some hK
      obtain ⟨a1, e1, hK_2⟩ := lI_some hK_1
      obtain ⟨a2, e2, hK_3⟩ := lI_some hK_2
      obtain ⟨hst9, hK_4⟩ := sE_some hK_3
      subst hst9
      exact eGo.wk (ih a1 a2 w hK_4) (eLe_wk ⟨e0, e1, e2, trivial⟩)
    cases hK
set_option maxRecDepth 100000 in
set_option maxHeartbeats 4000000 in
theorem go_ga_countSteady (hcx : eCx p { frames := 4, cells := 0, slots := 0, locals := 114 } s m args meth c cX5_countSteady RX5 3 ad D cA vwCl SHc SSc (eWd yX5_countSteady cX5_countSteady 3 (some .int)) (some .int)) (w : eW) (x : Int32 × eW) (h : f_ga_countSteady w = some x) : eGq p l e { frames := 4, cells := 0, slots := 0, locals := 114 } s m args below meth c 3 ad D cA vwCl SHc rI x 0 (eEnt [.ref 31]) [] w := by
  have h : eRun SHc SSc 3 rs_ga_countSteady (eCs cs_ga_countSteady) rI CX5_countSteady [4] (fun pc L st w => bif Nat.beq pc 4 then (lR L 0 31 ((lI L 1).bind fun a1 => (lI L 2).bind fun a2 => sE st (f_ga_countSteady_L4 eFu a1 a2 w))) else none) 7 true 0 [some (.ref 31), none, none] [] w = some x := h
  refine eGo.wk (eRun_go hcx (eLnk_all lk_ga_countSteady) (eHc_all hc_ga_countSteady) rI_ok dcX5_countSteady [4] _ (fun pc L st w hK => ?_) 7 true 0 _ _ w h) (eLe_wk ⟨rfl, trivial⟩)
  rcases eCut hK with ⟨hpc, hK⟩ | hK
  · subst hpc
    obtain ⟨e0, hK_1⟩ := lR_some hK
    obtain ⟨a1, e1, hK_2⟩ := lI_some hK_1
    obtain ⟨a2, e2, hK_3⟩ := lI_some hK_2
    obtain ⟨hst9, hK_4⟩ := sE_some hK_3
    subst hst9
    exact eGo.wk (go_ga_countSteady_L4 hcx  eFu a1 a2 w hK_4) (eLe_wk ⟨e0, e1, e2, trivial⟩)
  cases hK
end
set_option maxRecDepth 100000 in
set_option maxHeartbeats 4000000 in
theorem ok_ga_countSteady {l : Launch} {ad : Nat → Nat} {D : va_G} {cA : Nat → ClassId} {ρ : Type} (as : List Value) (w : eW) (k : Option Value → eW → Option ρ) (x : ρ) (h : K_ga_countSteady as w k = some x) : ∃ (v : Option Value) (w2 : eW), k v w2 = some x ∧ eMet l ad D cA vwCl SHc SSc yX5_countSteady (eWd yX5_countSteady cX5_countSteady 3 (some .int)) { frames := 4, cells := 0, slots := 0, locals := 114 } as w v w2 := by
  unfold K_ga_countSteady at h
  split at h
  · rename_i r0
    obtain ⟨h1, h5⟩ := eBif h
    clear h
    have h := h5
    clear h5
    have h1 := Nat.eq_of_beq_eq_true h1
    subst h1
    obtain ⟨q, h2, h3⟩ := Option.bind_eq_some_iff.mp h
    exact ⟨_, _, h3, eMet_of (by decide +kernel) rfl (by simp [eCat, Value.category]) rI_ret (fun p e s m args below meth c hcx => go_ga_countSteady hcx w q h2)⟩
  · cases h
def CX11_steadies : eCo := [[some (.iload_n 1), some (.invokestatic 162), none, none, some (.ifCond .ne 6), none, none, some (.bipush (-2)), none, some (.ireturn), some (.aload_n 0), some (.getfield 49), none, none, some (.aload_n 0), some (.getfield 28)],
  [none, none, some (.invokevirtual 236), none, none, some (.aload_n 0), some (.getfield 49), none, none, some (.aload_n 0), some (.getfield 28), none, none, some (.aload_n 0), some (.getfield 35), none],
  [none, some (.aload_n 0), some (.getfield 28), none, none, some (.iload_n 1), some (.invokevirtual 185), none, none, some (.i2l), some (.ldc2_w 174), none, none, some (.lmul), some (.invokevirtual 249), none],
  [none, some (.iload_n 2), some (.iconst (-1)), some (.if_icmp .ne 13), none, none, some (.aload_n 0), some (.getfield 49), none, none, some (.invokevirtual 253), none, none, some (.goto 11), none, none],
  [some (.aload_n 0), some (.getfield 49), none, none, some (.iload_n 2), some (.invokevirtual 257), none, none, some (.ireturn)]]
theorem dcX11_steadies : eDec cX11_steadies CX11_steadies := eDec_of (by decide +kernel)
def rs_xx_steadies : List (Nat × eR) := [(28, (0, 10, 2, 2)), (35, (0, 10, 3, 2)), (49, (0, 10, 5, 2)), (162, (1, 0, 1, -1)), (174, (3, 0, 0, 100)), (185, (1, 2, 1, 4)), (236, (1, 1, 1, 5)), (249, (1, 3, 3, 5)), (253, (1, 5, 0, 5)), (257, (1, 4, 1, 5))]
noncomputable def cs_xx_steadies : List (eF (Int32 × eW)) := [K_xx_isAmount, K_ga_gather, K_fi_fallsOf, K_ga_playAll, K_ga_steadySet, K_ga_countSteady]
noncomputable def f_xx_steadies (a1 : Int32) (a2 : Int32) (w : eW) : Option (Int32 × eW) := ((f_xx_isAmount a1 w).bind fun p1 => (if ¬ p1.1 = 0 then ((f_ga_gather p1.2).bind fun w2 => ((f_fi_fallsOf a1 w2).bind fun p3 => ((f_ga_playAll (((p3.1).toInt64) * (100 : Int64)) p3.2).bind fun w4 => (if ¬ a2 = (-1 : Int32) then ((f_ga_steadySet a2 w4).bind fun p5 => (some (p5.1, p5.2))) else ((f_ga_countSteady w4).bind fun p6 => (some (p6.1, p6.2))))))) else (some ((-2 : Int32), p1.2))))
noncomputable def K_xx_steadies {ρ : Type} : eF ρ := fun as w k => match as with
  | [.ref r0, .int a1, .int a2] => bif Nat.beq r0 38 then (f_xx_steadies a1 a2 w).bind (fun p => k (some (.int p.1)) p.2) else none
  | _ => none
section
variable {p : Program} {l : Launch} {e : Env} {s : State} {m : MethodId} {args : Array Value} {below : List Frame} {meth : Method} {c : Code} {ad : Nat → Nat} {D : va_G} {cA : Nat → ClassId}
theorem lk_xx_steadies : ∀ q ∈ rs_xx_steadies, eLnk { frames := 6, cells := 0, slots := 0, locals := 189 } vwCl (eWd yX11_steadies cX11_steadies 3 (some .int)) SSc SHc.length RX11 q.1 q.2 := List.forall_mem_cons.mpr ⟨lkX11_28 eTb_wd, List.forall_mem_cons.mpr ⟨lkX11_35 eTb_wd, List.forall_mem_cons.mpr ⟨lkX11_49 eTb_wd, List.forall_mem_cons.mpr ⟨trivial, List.forall_mem_cons.mpr ⟨lkX11_174 eTb_wd, List.forall_mem_cons.mpr ⟨trivial, List.forall_mem_cons.mpr ⟨trivial, List.forall_mem_cons.mpr ⟨trivial, List.forall_mem_cons.mpr ⟨trivial, List.forall_mem_cons.mpr ⟨trivial, fun _ h => absurd h List.not_mem_nil⟩⟩⟩⟩⟩⟩⟩⟩⟩⟩
theorem hc_xx_steadies {x : Int32 × eW} : ∀ q ∈ rs_xx_steadies, eHc l { frames := 6, cells := 0, slots := 0, locals := 189 } ad D cA vwCl SHc SSc (eWd yX11_steadies cX11_steadies 3 (some .int)) RX11 cs_xx_steadies x q := List.forall_mem_cons.mpr ⟨trivial, List.forall_mem_cons.mpr ⟨trivial, List.forall_mem_cons.mpr ⟨trivial, List.forall_mem_cons.mpr ⟨(fun as w k h => let ⟨v, w2, h1, h2⟩ := ok_xx_isAmount as w k x h; ⟨v, w2, h1, eCal_of h2 ⟨rfl, rfl⟩ hdX11_isAmount (gvX11_162 eTb_wd)⟩), List.forall_mem_cons.mpr ⟨trivial, List.forall_mem_cons.mpr ⟨(fun as w k h => let ⟨v, w2, h1, h2⟩ := ok_fi_fallsOf as w k x h; ⟨v, w2, h1, eCal_of h2 ⟨rfl, rfl⟩ hdX4_fallsOf (gvX11_185 eTb_wd)⟩), List.forall_mem_cons.mpr ⟨(fun as w k h => let ⟨v, w2, h1, h2⟩ := ok_ga_gather as w k x h; ⟨v, w2, h1, eCal_of h2 ⟨rfl, rfl⟩ hdX5_gather (gvX11_236 eTb_wd)⟩), List.forall_mem_cons.mpr ⟨(fun as w k h => let ⟨v, w2, h1, h2⟩ := ok_ga_playAll as w k x h; ⟨v, w2, h1, eCal_of h2 ⟨rfl, rfl⟩ hdX5_playAll (gvX11_249 eTb_wd)⟩), List.forall_mem_cons.mpr ⟨(fun as w k h => let ⟨v, w2, h1, h2⟩ := ok_ga_countSteady as w k x h; ⟨v, w2, h1, eCal_of h2 ⟨rfl, rfl⟩ hdX5_countSteady (gvX11_253 eTb_wd)⟩), List.forall_mem_cons.mpr ⟨(fun as w k h => let ⟨v, w2, h1, h2⟩ := ok_ga_steadySet as w k x h; ⟨v, w2, h1, eCal_of h2 ⟨rfl, rfl⟩ hdX5_steadySet (gvX11_257 eTb_wd)⟩), fun _ h => absurd h List.not_mem_nil⟩⟩⟩⟩⟩⟩⟩⟩⟩⟩
set_option maxRecDepth 100000 in
set_option maxHeartbeats 4000000 in
theorem go_xx_steadies (hcx : eCx p { frames := 6, cells := 0, slots := 0, locals := 189 } s m args meth c cX11_steadies RX11 3 ad D cA vwCl SHc SSc (eWd yX11_steadies cX11_steadies 3 (some .int)) (some .int)) (a1 : Int32) (a2 : Int32) (w : eW) (x : Int32 × eW) (h : f_xx_steadies a1 a2 w = some x) : eGq p l e { frames := 6, cells := 0, slots := 0, locals := 189 } s m args below meth c 3 ad D cA vwCl SHc rI x 0 (eEnt [.ref 38, .int a1, .int a2]) [] w := by
  have h : eRun SHc SSc 3 rs_xx_steadies (eCs cs_xx_steadies) rI CX11_steadies [] (fun pc L st w => none) 32 true 0 [some (.ref 38), some (.int a1), some (.int a2)] [] w = some x := h
  refine eGo.wk (eRun_go hcx (eLnk_all lk_xx_steadies) (eHc_all hc_xx_steadies) rI_ok dcX11_steadies [] _ (fun pc L st w hK => ?_) 32 true 0 _ _ w h) (eLe_wk ⟨rfl, rfl, rfl, trivial⟩)
  cases hK
end
set_option maxRecDepth 100000 in
set_option maxHeartbeats 4000000 in
theorem ok_xx_steadies {l : Launch} {ad : Nat → Nat} {D : va_G} {cA : Nat → ClassId} {ρ : Type} (as : List Value) (w : eW) (k : Option Value → eW → Option ρ) (x : ρ) (h : K_xx_steadies as w k = some x) : ∃ (v : Option Value) (w2 : eW), k v w2 = some x ∧ eMet l ad D cA vwCl SHc SSc yX11_steadies (eWd yX11_steadies cX11_steadies 3 (some .int)) { frames := 6, cells := 0, slots := 0, locals := 189 } as w v w2 := by
  unfold K_xx_steadies at h
  split at h
  · rename_i r0 a1 a2
    obtain ⟨h1, h5⟩ := eBif h
    clear h
    have h := h5
    clear h5
    have h1 := Nat.eq_of_beq_eq_true h1
    subst h1
    obtain ⟨q, h2, h3⟩ := Option.bind_eq_some_iff.mp h
    exact ⟨_, _, h3, eMet_of (by decide +kernel) rfl (by simp [eCat, Value.category]) rI_ret (fun p e s m args below meth c hcx => go_xx_steadies hcx a1 a2 w q h2)⟩
  · cases h
def CX0_put : eCo := [[some (.aload_n 0), some (.getfield 15), none, none, some (.bipush 8), none, some (.imul), some (.iload_n 1), some (.iadd), some (.istore_n 3), some (.iload_n 3), some (.ifCond .lt 19), none, none, some (.iload_n 3), some (.aload_n 0)],
  [some (.getfield 11), none, none, some (.arraylength), some (.if_icmp .ge 10), none, none, some (.aload_n 0), some (.getfield 11), none, none, some (.iload_n 3), some (.iload_n 2), some (.iastore), some (.return_)]]
theorem dcX0_put : eDec cX0_put CX0_put := eDec_of (by decide +kernel)
def rs_ac_put : List (Nat × eR) := [(11, (0, 0, 0, 2)), (15, (0, 0, 1, 0))]
noncomputable def cs_ac_put : List (eF (eW)) := []
noncomputable def f_ac_put (a1 : Int32) (a2 : Int32) (w : eW) : Option (eW) := (if (((w.1 37 1) * (8 : Int32)) + a1) < 0 then (some w) else (if (96 : Int32) ≤ (((w.1 37 1) * (8 : Int32)) + a1) then (some w) else (eChk (((w.1 37 1) * (8 : Int32)) + a1) 96 (some (eU1 w 36 (Int32.toNatClampNeg (((w.1 37 1) * (8 : Int32)) + a1)) a2)))))
noncomputable def K_ac_put {ρ : Type} : eF ρ := fun as w k => match as with
  | [.ref r0, .int a1, .int a2] => bif Nat.beq r0 37 then (f_ac_put a1 a2 w).bind (fun w => k none w) else none
  | _ => none
section
variable {p : Program} {l : Launch} {e : Env} {s : State} {m : MethodId} {args : Array Value} {below : List Frame} {meth : Method} {c : Code} {ad : Nat → Nat} {D : va_G} {cA : Nat → ClassId}
theorem lk_ac_put : ∀ q ∈ rs_ac_put, eLnk { frames := 0, cells := 0, slots := 0, locals := 0 } vwCl (eWd yX0_put cX0_put 4 none) SSc SHc.length RX0 q.1 q.2 := List.forall_mem_cons.mpr ⟨lkX0_11 eTb_wd, List.forall_mem_cons.mpr ⟨lkX0_15 eTb_wd, fun _ h => absurd h List.not_mem_nil⟩⟩
theorem hc_ac_put {x : eW} : ∀ q ∈ rs_ac_put, eHc l { frames := 0, cells := 0, slots := 0, locals := 0 } ad D cA vwCl SHc SSc (eWd yX0_put cX0_put 4 none) RX0 cs_ac_put x q := List.forall_mem_cons.mpr ⟨trivial, List.forall_mem_cons.mpr ⟨trivial, fun _ h => absurd h List.not_mem_nil⟩⟩
set_option maxRecDepth 100000 in
set_option maxHeartbeats 4000000 in
theorem go_ac_put (hcx : eCx p { frames := 0, cells := 0, slots := 0, locals := 0 } s m args meth c cX0_put RX0 4 ad D cA vwCl SHc SSc (eWd yX0_put cX0_put 4 none) (none)) (a1 : Int32) (a2 : Int32) (w : eW) (x : eW) (h : f_ac_put a1 a2 w = some x) : eGq p l e { frames := 0, cells := 0, slots := 0, locals := 0 } s m args below meth c 4 ad D cA vwCl SHc rV x 0 (eEnt [.ref 37, .int a1, .int a2]) [] w := by
  have h : eRun SHc SSc 4 rs_ac_put (eCs cs_ac_put) rV CX0_put [] (fun pc L st w => none) 22 true 0 [some (.ref 37), some (.int a1), some (.int a2), none] [] w = some x := h
  refine eGo.wk (eRun_go hcx (eLnk_all lk_ac_put) (eHc_all hc_ac_put) rV_ok dcX0_put [] _ (fun pc L st w hK => ?_) 22 true 0 _ _ w h) (eLe_wk ⟨rfl, rfl, rfl, trivial⟩)
  cases hK
end
set_option maxRecDepth 100000 in
set_option maxHeartbeats 4000000 in
theorem ok_ac_put {l : Launch} {ad : Nat → Nat} {D : va_G} {cA : Nat → ClassId} {ρ : Type} (as : List Value) (w : eW) (k : Option Value → eW → Option ρ) (x : ρ) (h : K_ac_put as w k = some x) : ∃ (v : Option Value) (w2 : eW), k v w2 = some x ∧ eMet l ad D cA vwCl SHc SSc yX0_put (eWd yX0_put cX0_put 4 none) { frames := 0, cells := 0, slots := 0, locals := 0 } as w v w2 := by
  unfold K_ac_put at h
  split at h
  · rename_i r0 a1 a2
    obtain ⟨h1, h5⟩ := eBif h
    clear h
    have h := h5
    clear h5
    have h1 := Nat.eq_of_beq_eq_true h1
    subst h1
    obtain ⟨q, h2, h3⟩ := Option.bind_eq_some_iff.mp h
    exact ⟨_, _, h3, eMet_of (by decide +kernel) rfl (by simp [eCat, Value.category]) rV_ret (fun p e s m args below meth c hcx => go_ac_put hcx a1 a2 w q h2)⟩
  · cases h
