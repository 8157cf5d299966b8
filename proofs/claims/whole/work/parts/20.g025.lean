def CX5_rowOf : eCo := [[some (.iconst 0), some (.istore_n 2), some (.iconst 0), some (.istore_n 3), some (.iload_n 3), some (.aload_n 0), some (.getfield 22), none, none, some (.if_icmp .ge 24), none, none, some (.iload_n 2), some (.iload_n 1), some (.aload_n 0), some (.getfield 9)],
  [none, none, some (.iload_n 3), some (.iaload), some (.ishr), some (.iconst 1), some (.iand), some (.iload_n 3), some (.ishl), some (.ior), some (.istore_n 2), some (.iinc 3 1), none, none, some (.goto (-26)), none],
  [none, some (.iload_n 2), some (.ireturn)]]
theorem dcX5_rowOf : eDec cX5_rowOf CX5_rowOf := eDec_of (by decide +kernel)
def rs_ga_rowOf : List (Nat × eR) := [(9, (0, 5, 0, 2)), (22, (0, 5, 1, 0))]
noncomputable def cs_ga_rowOf : List (eF (Int32 × eW)) := []
noncomputable def f_ga_rowOf_L4 : Nat → Int32 → Int32 → Int32 → eW → Option (Int32 × eW)
  | 0, _, _, _, _ => none
  | n + 1, a1, a2, a3, w => (if (w.1 31 1) ≤ a3 then (some (a2, w)) else (eChk a3 6 (f_ga_rowOf_L4 n a1 (a2 ||| (((a1 >>> ((w.1 28 (Int32.toNatClampNeg a3)) &&& 31)) &&& (1 : Int32)) <<< (a3 &&& 31))) (a3 + (1 : Int32)) w)))
noncomputable def f_ga_rowOf (a1 : Int32) (w : eW) : Option (Int32 × eW) := (f_ga_rowOf_L4 eFu a1 (0 : Int32) (0 : Int32) w)
noncomputable def K_ga_rowOf {ρ : Type} : eF ρ := fun as w k => match as with
  | [.ref r0, .int a1] => bif Nat.beq r0 31 then (f_ga_rowOf a1 w).bind (fun p => k (some (.int p.1)) p.2) else none
  | _ => none
section
variable {p : Program} {l : Launch} {e : Env} {s : State} {m : MethodId} {args : Array Value} {below : List Frame} {meth : Method} {c : Code} {ad : Nat → Nat} {D : va_G} {cA : Nat → ClassId}
theorem lk_ga_rowOf : ∀ q ∈ rs_ga_rowOf, eLnk { frames := 0, cells := 0, slots := 0, locals := 0 } vwCl (eWd yX5_rowOf cX5_rowOf 4 (some .int)) SSc SHc.length RX5 q.1 q.2 := List.forall_mem_cons.mpr ⟨lkX5_9 eTb_wd, List.forall_mem_cons.mpr ⟨lkX5_22 eTb_wd, fun _ h => absurd h List.not_mem_nil⟩⟩
theorem hc_ga_rowOf {x : Int32 × eW} : ∀ q ∈ rs_ga_rowOf, eHc l { frames := 0, cells := 0, slots := 0, locals := 0 } ad D cA vwCl SHc SSc (eWd yX5_rowOf cX5_rowOf 4 (some .int)) RX5 cs_ga_rowOf x q := List.forall_mem_cons.mpr ⟨trivial, List.forall_mem_cons.mpr ⟨trivial, fun _ h => absurd h List.not_mem_nil⟩⟩
noncomputable def kk_ga_rowOf_4 (n : Nat) : eK (Int32 × eW) := fun pc L st w => bif Nat.beq pc 4 then (lR L 0 31 ((lI L 1).bind fun a1 => (lI L 2).bind fun a2 => (lI L 3).bind fun a3 => sE st (f_ga_rowOf_L4 n a1 a2 a3 w))) else none
set_option maxRecDepth 100000 in
set_option maxHeartbeats 4000000 in
theorem go_ga_rowOf_L4 (hcx : eCx p { frames := 0, cells := 0, slots := 0, locals := 0 } s m args meth c cX5_rowOf RX5 4 ad D cA vwCl SHc SSc (eWd yX5_rowOf cX5_rowOf 4 (some .int)) (some .int)) {x : Int32 × eW} : ∀ (n : Nat) (a1 : Int32) (a2 : Int32) (a3 : Int32) (w : eW), f_ga_rowOf_L4  n a1 a2 a3 w = some x → eGq p l e { frames := 0, cells := 0, slots := 0, locals := 0 } s m args below meth c 4 ad D cA vwCl SHc rI x 4 [some (.ref 31), some (.int a1), some (.int a2), some (.int a3)] [] w := by
  intro n
  induction n with
  | zero => intro a1 a2 a3 w h; exact nomatch (show (none : Option (Int32 × eW)) = some x from h)
  | succ n ih =>
    intro a1 a2 a3 w h
    have h : eRun SHc SSc 4 rs_ga_rowOf (eCs cs_ga_rowOf) rI CX5_rowOf [4] (kk_ga_rowOf_4  n) 22 true 4 [some (.ref 31), some (.int a1), some (.int a2), some (.int a3)] [] w = some x := h
    refine eRun_go hcx (eLnk_all lk_ga_rowOf) (eHc_all hc_ga_rowOf) rI_ok dcX5_rowOf [4] _ (fun pc L st w hK => ?_) 22 true 4 _ _ w h
    unfold kk_ga_rowOf_4 at hK
    rcases eCut hK with ⟨hpc, hK⟩ | hK
    · subst hpc
      obtain ⟨e0, hK_1⟩ := lR_some hK
      obtain ⟨a1, e1, hK_2⟩ := lI_some hK_1
      obtain ⟨a2, e2, hK_3⟩ := lI_some hK_2
      obtain ⟨a3, e3, hK_4⟩ := lI_some hK_3
      obtain ⟨hst9, hK_5⟩ := sE_some hK_4
      subst hst9
      exact eGo.wk (ih a1 a2 a3 w hK_5) (eLe_wk ⟨e0, e1, e2, e3, trivial⟩)
    cases hK
set_option maxRecDepth 100000 in
set_option maxHeartbeats 4000000 in
theorem go_ga_rowOf (hcx : eCx p { frames := 0, cells := 0, slots := 0, locals := 0 } s m args meth c cX5_rowOf RX5 4 ad D cA vwCl SHc SSc (eWd yX5_rowOf cX5_rowOf 4 (some .int)) (some .int)) (a1 : Int32) (w : eW) (x : Int32 × eW) (h : f_ga_rowOf a1 w = some x) : eGq p l e { frames := 0, cells := 0, slots := 0, locals := 0 } s m args below meth c 4 ad D cA vwCl SHc rI x 0 (eEnt [.ref 31, .int a1]) [] w := by
  have h : eRun SHc SSc 4 rs_ga_rowOf (eCs cs_ga_rowOf) rI CX5_rowOf [4] (fun pc L st w => bif Nat.beq pc 4 then (lR L 0 31 ((lI L 1).bind fun a1 => (lI L 2).bind fun a2 => (lI L 3).bind fun a3 => sE st (f_ga_rowOf_L4 eFu a1 a2 a3 w))) else none) 7 true 0 [some (.ref 31), some (.int a1), none, none] [] w = some x := h
  refine eGo.wk (eRun_go hcx (eLnk_all lk_ga_rowOf) (eHc_all hc_ga_rowOf) rI_ok dcX5_rowOf [4] _ (fun pc L st w hK => ?_) 7 true 0 _ _ w h) (eLe_wk ⟨rfl, rfl, trivial⟩)
  rcases eCut hK with ⟨hpc, hK⟩ | hK
  · subst hpc
    obtain ⟨e0, hK_1⟩ := lR_some hK
    obtain ⟨a1, e1, hK_2⟩ := lI_some hK_1
    obtain ⟨a2, e2, hK_3⟩ := lI_some hK_2
    obtain ⟨a3, e3, hK_4⟩ := lI_some hK_3
    obtain ⟨hst9, hK_5⟩ := sE_some hK_4
    subst hst9
    exact eGo.wk (go_ga_rowOf_L4 hcx  eFu a1 a2 a3 w hK_5) (eLe_wk ⟨e0, e1, e2, e3, trivial⟩)
  cases hK
end
set_option maxRecDepth 100000 in
set_option maxHeartbeats 4000000 in
theorem ok_ga_rowOf {l : Launch} {ad : Nat → Nat} {D : va_G} {cA : Nat → ClassId} {ρ : Type} (as : List Value) (w : eW) (k : Option Value → eW → Option ρ) (x : ρ) (h : K_ga_rowOf as w k = some x) : ∃ (v : Option Value) (w2 : eW), k v w2 = some x ∧ eMet l ad D cA vwCl SHc SSc yX5_rowOf (eWd yX5_rowOf cX5_rowOf 4 (some .int)) { frames := 0, cells := 0, slots := 0, locals := 0 } as w v w2 := by
  unfold K_ga_rowOf at h
  split at h
  · rename_i r0 a1
    obtain ⟨h1, h5⟩ := eBif h
    clear h
    have h := h5
    clear h5
    have h1 := Nat.eq_of_beq_eq_true h1
    subst h1
    obtain ⟨q, h2, h3⟩ := Option.bind_eq_some_iff.mp h
    exact ⟨_, _, h3, eMet_of (by decide +kernel) rfl (by simp [eCat, Value.category]) rI_ret (fun p e s m args below meth c hcx => go_ga_rowOf hcx a1 w q h2)⟩
  · cases h
def CX5_setOf : eCo := [[some (.iconst 0), some (.istore_n 2), some (.iconst 0), some (.istore_n 3), some (.iload_n 3), some (.aload_n 0), some (.getfield 22), none, none, some (.if_icmp .ge 24), none, none, some (.iload_n 2), some (.iload_n 1), some (.iload_n 3), some (.ishr)],
  [some (.iconst 1), some (.iand), some (.aload_n 0), some (.getfield 9), none, none, some (.iload_n 3), some (.iaload), some (.ishl), some (.ior), some (.istore_n 2), some (.iinc 3 1), none, none, some (.goto (-26)), none],
  [none, some (.iload_n 2), some (.ireturn)]]
theorem dcX5_setOf : eDec cX5_setOf CX5_setOf := eDec_of (by decide +kernel)
def rs_ga_setOf : List (Nat × eR) := [(9, (0, 5, 0, 2)), (22, (0, 5, 1, 0))]
noncomputable def cs_ga_setOf : List (eF (Int32 × eW)) := []
noncomputable def f_ga_setOf_L4 : Nat → Int32 → Int32 → Int32 → eW → Option (Int32 × eW)
  | 0, _, _, _, _ => none
  | n + 1, a1, a2, a3, w => (if (w.1 31 1) ≤ a3 then (some (a2, w)) else (eChk a3 6 (f_ga_setOf_L4 n a1 (a2 ||| (((a1 >>> (a3 &&& 31)) &&& (1 : Int32)) <<< ((w.1 28 (Int32.toNatClampNeg a3)) &&& 31))) (a3 + (1 : Int32)) w)))
noncomputable def f_ga_setOf (a1 : Int32) (w : eW) : Option (Int32 × eW) := (f_ga_setOf_L4 eFu a1 (0 : Int32) (0 : Int32) w)
noncomputable def K_ga_setOf {ρ : Type} : eF ρ := fun as w k => match as with
  | [.ref r0, .int a1] => bif Nat.beq r0 31 then (f_ga_setOf a1 w).bind (fun p => k (some (.int p.1)) p.2) else none
  | _ => none
section
variable {p : Program} {l : Launch} {e : Env} {s : State} {m : MethodId} {args : Array Value} {below : List Frame} {meth : Method} {c : Code} {ad : Nat → Nat} {D : va_G} {cA : Nat → ClassId}
theorem lk_ga_setOf : ∀ q ∈ rs_ga_setOf, eLnk { frames := 0, cells := 0, slots := 0, locals := 0 } vwCl (eWd yX5_setOf cX5_setOf 4 (some .int)) SSc SHc.length RX5 q.1 q.2 := List.forall_mem_cons.mpr ⟨lkX5_9 eTb_wd, List.forall_mem_cons.mpr ⟨lkX5_22 eTb_wd, fun _ h => absurd h List.not_mem_nil⟩⟩
theorem hc_ga_setOf {x : Int32 × eW} : ∀ q ∈ rs_ga_setOf, eHc l { frames := 0, cells := 0, slots := 0, locals := 0 } ad D cA vwCl SHc SSc (eWd yX5_setOf cX5_setOf 4 (some .int)) RX5 cs_ga_setOf x q := List.forall_mem_cons.mpr ⟨trivial, List.forall_mem_cons.mpr ⟨trivial, fun _ h => absurd h List.not_mem_nil⟩⟩
noncomputable def kk_ga_setOf_4 (n : Nat) : eK (Int32 × eW) := fun pc L st w => bif Nat.beq pc 4 then (lR L 0 31 ((lI L 1).bind fun a1 => (lI L 2).bind fun a2 => (lI L 3).bind fun a3 => sE st (f_ga_setOf_L4 n a1 a2 a3 w))) else none
set_option maxRecDepth 100000 in
set_option maxHeartbeats 4000000 in
theorem go_ga_setOf_L4 (hcx : eCx p { frames := 0, cells := 0, slots := 0, locals := 0 } s m args meth c cX5_setOf RX5 4 ad D cA vwCl SHc SSc (eWd yX5_setOf cX5_setOf 4 (some .int)) (some .int)) {x : Int32 × eW} : ∀ (n : Nat) (a1 : Int32) (a2 : Int32) (a3 : Int32) (w : eW), f_ga_setOf_L4  n a1 a2 a3 w = some x → eGq p l e { frames := 0, cells := 0, slots := 0, locals := 0 } s m args below meth c 4 ad D cA vwCl SHc rI x 4 [some (.ref 31), some (.int a1), some (.int a2), some (.int a3)] [] w := by
  intro n
  induction n with
  | zero => intro a1 a2 a3 w h; exact nomatch (show (none : Option (Int32 × eW)) = some x from h)
  | succ n ih =>
    intro a1 a2 a3 w h
    have h : eRun SHc SSc 4 rs_ga_setOf (eCs cs_ga_setOf) rI CX5_setOf [4] (kk_ga_setOf_4  n) 22 true 4 [some (.ref 31), some (.int a1), some (.int a2), some (.int a3)] [] w = some x := h
    refine eRun_go hcx (eLnk_all lk_ga_setOf) (eHc_all hc_ga_setOf) rI_ok dcX5_setOf [4] _ (fun pc L st w hK => ?_) 22 true 4 _ _ w h
    unfold kk_ga_setOf_4 at hK
    rcases eCut hK with ⟨hpc, hK⟩ | hK
    · subst hpc
      obtain ⟨e0, hK_1⟩ := lR_some hK
      obtain ⟨a1, e1, hK_2⟩ := lI_some hK_1
      obtain ⟨a2, e2, hK_3⟩ := lI_some hK_2
      obtain ⟨a3, e3, hK_4⟩ := lI_some hK_3
      obtain ⟨hst9, hK_5⟩ := sE_some hK_4
      subst hst9
      exact eGo.wk (ih a1 a2 a3 w hK_5) (eLe_wk ⟨e0, e1, e2, e3, trivial⟩)
    cases hK
set_option maxRecDepth 100000 in
set_option maxHeartbeats 4000000 in
theorem go_ga_setOf (hcx : eCx p { frames := 0, cells := 0, slots := 0, locals := 0 } s m args meth c cX5_setOf RX5 4 ad D cA vwCl SHc SSc (eWd yX5_setOf cX5_setOf 4 (some .int)) (some .int)) (a1 : Int32) (w : eW) (x : Int32 × eW) (h : f_ga_setOf a1 w = some x) : eGq p l e { frames := 0, cells := 0, slots := 0, locals := 0 } s m args below meth c 4 ad D cA vwCl SHc rI x 0 (eEnt [.ref 31, .int a1]) [] w := by
  have h : eRun SHc SSc 4 rs_ga_setOf (eCs cs_ga_setOf) rI CX5_setOf [4] (fun pc L st w => bif Nat.beq pc 4 then (lR L 0 31 ((lI L 1).bind fun a1 => (lI L 2).bind fun a2 => (lI L 3).bind fun a3 => sE st (f_ga_setOf_L4 eFu a1 a2 a3 w))) else none) 7 true 0 [some (.ref 31), some (.int a1), none, none] [] w = some x := h
  refine eGo.wk (eRun_go hcx (eLnk_all lk_ga_setOf) (eHc_all hc_ga_setOf) rI_ok dcX5_setOf [4] _ (fun pc L st w hK => ?_) 7 true 0 _ _ w h) (eLe_wk ⟨rfl, rfl, trivial⟩)
  rcases eCut hK with ⟨hpc, hK⟩ | hK
  · subst hpc
    obtain ⟨e0, hK_1⟩ := lR_some hK
    obtain ⟨a1, e1, hK_2⟩ := lI_some hK_1
    obtain ⟨a2, e2, hK_3⟩ := lI_some hK_2
    obtain ⟨a3, e3, hK_4⟩ := lI_some hK_3
    obtain ⟨hst9, hK_5⟩ := sE_some hK_4
    subst hst9
    exact eGo.wk (go_ga_setOf_L4 hcx  eFu a1 a2 a3 w hK_5) (eLe_wk ⟨e0, e1, e2, e3, trivial⟩)
  cases hK
end
set_option maxRecDepth 100000 in
set_option maxHeartbeats 4000000 in
theorem ok_ga_setOf {l : Launch} {ad : Nat → Nat} {D : va_G} {cA : Nat → ClassId} {ρ : Type} (as : List Value) (w : eW) (k : Option Value → eW → Option ρ) (x : ρ) (h : K_ga_setOf as w k = some x) : ∃ (v : Option Value) (w2 : eW), k v w2 = some x ∧ eMet l ad D cA vwCl SHc SSc yX5_setOf (eWd yX5_setOf cX5_setOf 4 (some .int)) { frames := 0, cells := 0, slots := 0, locals := 0 } as w v w2 := by
  unfold K_ga_setOf at h
  split at h
  · rename_i r0 a1
    obtain ⟨h1, h5⟩ := eBif h
    clear h
    have h := h5
    clear h5
    have h1 := Nat.eq_of_beq_eq_true h1
    subst h1
    obtain ⟨q, h2, h3⟩ := Option.bind_eq_some_iff.mp h
    exact ⟨_, _, h3, eMet_of (by decide +kernel) rfl (by simp [eCat, Value.category]) rI_ret (fun p e s m args below meth c hcx => go_ga_setOf hcx a1 w q h2)⟩
  · cases h
def CX5_play : eCo := [[some (.iload_n 3), some (.ifCond .lt 9), none, none, some (.iload_n 3), some (.bipush 64), none, some (.if_icmp .lt 4), none, none, some (.return_), some (.aload_n 2), some (.aload_n 1), some (.iconst 1), some (.aload_n 0), some (.iload_n 3)],
  [some (.invokevirtual 37), none, none, some (.invokevirtual 41), none, none, some (.aload_n 2), some (.lload 4), none, some (.invokevirtual 47), none, none, some (.aload_n 0), some (.getfield 19), none, none],
  [some (.iload_n 3), some (.aload_n 2), some (.getfield 51), none, none, some (.lastore), some (.iconst 0), some (.istore 6), none, some (.iload 6), none, some (.aload_n 0), some (.getfield 22), none, none, some (.if_icmp .ge 32)],
  [none, none, some (.aload_n 0), some (.getfield 15), none, none, some (.iload_n 3), some (.bipush 6), none, some (.imul), some (.iload 6), none, some (.iadd), some (.aload_n 2), some (.aload_n 0), some (.getfield 9)],
  [none, none, some (.iload 6), none, some (.iaload), some (.invokevirtual 54), none, none, some (.lastore), some (.iinc 6 1), none, none, some (.goto (-35)), none, none, some (.return_)]]
theorem dcX5_play : eDec cX5_play CX5_play := eDec_of (by decide +kernel)
def rs_ga_play : List (Nat × eR) := [(9, (0, 5, 0, 2)), (15, (0, 5, 2, 2)), (19, (0, 5, 3, 2)), (22, (0, 5, 1, 0)), (37, (1, 0, 1, 5)), (41, (1, 1, 3, 3)), (47, (1, 2, 1, 3)), (51, (0, 3, 5, 1)), (54, (1, 3, 1, 3))]
noncomputable def cs_ga_play : List (eF (eW)) := [K_ga_setOf, K_fa_arrange, K_fa_pour, K_fa_aboveOf]
noncomputable def f_ga_play_L41 : Nat → Int32 → Int32 → eW → Option (eW)
  | 0, _, _, _ => none
  | n + 1, a3, a6, w => (if (w.1 31 1) ≤ a6 then (some w) else (eChk a6 6 ((f_fa_aboveOf (w.1 28 (Int32.toNatClampNeg a6)) w).bind fun p4 => (eChk ((a3 * (6 : Int32)) + a6) 384 (f_ga_play_L41 n a3 (a6 + (1 : Int32)) (eU2 p4.2 29 (Int32.toNatClampNeg ((a3 * (6 : Int32)) + a6)) p4.1))))))
noncomputable def f_ga_play (a3 : Int32) (a4 : Int64) (w : eW) : Option (eW) := (if a3 < 0 then (some w) else (if a3 < (64 : Int32) then ((f_ga_setOf a3 w).bind fun p1 => ((f_fa_arrange (1 : Int32) p1.1 p1.2).bind fun w2 => ((f_fa_pour a4 w2).bind fun w3 => (eChk a3 64 (f_ga_play_L41 eFu a3 (0 : Int32) (eU2 w3 30 (Int32.toNatClampNeg a3) (w3.2 24 5))))))) else (some w)))
noncomputable def K_ga_play {ρ : Type} : eF ρ := fun as w k => match as with
  | [.ref r0, .ref r1, .ref r2, .int a3, .long a4] => bif Nat.beq r0 31 then (bif Nat.beq r1 8 then (bif Nat.beq r2 24 then (f_ga_play a3 a4 w).bind (fun w => k none w) else none) else none) else none
  | _ => none
section
variable {p : Program} {l : Launch} {e : Env} {s : State} {m : MethodId} {args : Array Value} {below : List Frame} {meth : Method} {c : Code} {ad : Nat → Nat} {D : va_G} {cA : Nat → ClassId}
theorem lk_ga_play : ∀ q ∈ rs_ga_play, eLnk { frames := 4, cells := 0, slots := 0, locals := 138 } vwCl (eWd yX5_play cX5_play 7 none) SSc SHc.length RX5 q.1 q.2 := List.forall_mem_cons.mpr ⟨lkX5_9 eTb_wd, List.forall_mem_cons.mpr ⟨lkX5_15 eTb_wd, List.forall_mem_cons.mpr ⟨lkX5_19 eTb_wd, List.forall_mem_cons.mpr ⟨lkX5_22 eTb_wd, List.forall_mem_cons.mpr ⟨trivial, List.forall_mem_cons.mpr ⟨trivial, List.forall_mem_cons.mpr ⟨trivial, List.forall_mem_cons.mpr ⟨lkX5_51 eTb_wd, List.forall_mem_cons.mpr ⟨trivial, fun _ h => absurd h List.not_mem_nil⟩⟩⟩⟩⟩⟩⟩⟩⟩
theorem hc_ga_play {x : eW} : ∀ q ∈ rs_ga_play, eHc l { frames := 4, cells := 0, slots := 0, locals := 138 } ad D cA vwCl SHc SSc (eWd yX5_play cX5_play 7 none) RX5 cs_ga_play x q := List.forall_mem_cons.mpr ⟨trivial, List.forall_mem_cons.mpr ⟨trivial, List.forall_mem_cons.mpr ⟨trivial, List.forall_mem_cons.mpr ⟨trivial, List.forall_mem_cons.mpr ⟨(fun as w k h => let ⟨v, w2, h1, h2⟩ := ok_ga_setOf as w k x h; ⟨v, w2, h1, eCal_of h2 ⟨rfl, rfl⟩ hdX5_setOf (gvX5_37 eTb_wd)⟩), List.forall_mem_cons.mpr ⟨(fun as w k h => let ⟨v, w2, h1, h2⟩ := ok_fa_arrange as w k x h; ⟨v, w2, h1, eCal_of h2 ⟨rfl, rfl⟩ hdX3_arrange (gvX5_41 eTb_wd)⟩), List.forall_mem_cons.mpr ⟨(fun as w k h => let ⟨v, w2, h1, h2⟩ := ok_fa_pour as w k x h; ⟨v, w2, h1, eCal_of h2 ⟨rfl, rfl⟩ hdX3_pour (gvX5_47 eTb_wd)⟩), List.forall_mem_cons.mpr ⟨trivial, List.forall_mem_cons.mpr ⟨(fun as w k h => let ⟨v, w2, h1, h2⟩ := ok_fa_aboveOf as w k x h; ⟨v, w2, h1, eCal_of h2 ⟨rfl, rfl⟩ hdX3_aboveOf (gvX5_54 eTb_wd)⟩), fun _ h => absurd h List.not_mem_nil⟩⟩⟩⟩⟩⟩⟩⟩⟩
noncomputable def kk_ga_play_41 (n : Nat) : eK (eW) := fun pc L st w => bif Nat.beq pc 41 then (lR L 0 31 (lR L 2 24 ((lI L 3).bind fun a3 => (lI L 6).bind fun a6 => sE st (f_ga_play_L41 n a3 a6 w)))) else none
set_option maxRecDepth 100000 in
set_option maxHeartbeats 4000000 in
theorem go_ga_play_L41 (hcx : eCx p { frames := 4, cells := 0, slots := 0, locals := 138 } s m args meth c cX5_play RX5 7 ad D cA vwCl SHc SSc (eWd yX5_play cX5_play 7 none) (none)) {x : eW} : ∀ (n : Nat) (a3 : Int32) (a6 : Int32) (w : eW), f_ga_play_L41  n a3 a6 w = some x → eGq p l e { frames := 4, cells := 0, slots := 0, locals := 138 } s m args below meth c 7 ad D cA vwCl SHc rV x 41 [some (.ref 31), none, some (.ref 24), some (.int a3), none, none, some (.int a6)] [] w := by
  intro n
  induction n with
  | zero => intro a3 a6 w h; exact nomatch (show (none : Option (eW)) = some x from h)
  | succ n ih =>
    intro a3 a6 w h
    have h : eRun SHc SSc 7 rs_ga_play (eCs cs_ga_play) rV CX5_play [41] (kk_ga_play_41  n) 23 true 41 [some (.ref 31), none, some (.ref 24), some (.int a3), none, none, some (.int a6)] [] w = some x := h
    refine eRun_go hcx (eLnk_all lk_ga_play) (eHc_all hc_ga_play) rV_ok dcX5_play [41] _ (fun pc L st w hK => ?_) 23 true 41 _ _ w h
    unfold kk_ga_play_41 at hK
    rcases eCut hK with ⟨hpc, hK⟩ | hK
    · subst hpc
      obtain ⟨e0, hK_1⟩ := lR_some hK
      obtain ⟨e2, hK_2⟩ := lR_some hK_1
      obtain ⟨a3, e3, hK_3⟩ := lI_some hK_2
      obtain ⟨a6, e6, hK_4⟩ := lI_some hK_3
      obtain ⟨hst9, hK_5⟩ := sE_some hK_4
      subst hst9
      exact eGo.wk (ih a3 a6 w hK_5) (eLe_wk ⟨e0, e2, e3, e6, trivial⟩)
    cases hK
set_option maxRecDepth 100000 in
set_option maxHeartbeats 4000000 in
theorem go_ga_play (hcx : eCx p { frames := 4, cells := 0, slots := 0, locals := 138 } s m args meth c cX5_play RX5 7 ad D cA vwCl SHc SSc (eWd yX5_play cX5_play 7 none) (none)) (a3 : Int32) (a4 : Int64) (w : eW) (x : eW) (h : f_ga_play a3 a4 w = some x) : eGq p l e { frames := 4, cells := 0, slots := 0, locals := 138 } s m args below meth c 7 ad D cA vwCl SHc rV x 0 (eEnt [.ref 31, .ref 8, .ref 24, .int a3, .long a4]) [] w := by
  have h : eRun SHc SSc 7 rs_ga_play (eCs cs_ga_play) rV CX5_play [41] (fun pc L st w => bif Nat.beq pc 41 then (lR L 0 31 (lR L 2 24 ((lI L 3).bind fun a3 => (lI L 6).bind fun a6 => sE st (f_ga_play_L41 eFu a3 a6 w)))) else none) 26 true 0 [some (.ref 31), some (.ref 8), some (.ref 24), some (.int a3), some (.long a4), none, none] [] w = some x := h
  refine eGo.wk (eRun_go hcx (eLnk_all lk_ga_play) (eHc_all hc_ga_play) rV_ok dcX5_play [41] _ (fun pc L st w hK => ?_) 26 true 0 _ _ w h) (eLe_wk ⟨rfl, rfl, rfl, rfl, rfl, trivial⟩)
  rcases eCut hK with ⟨hpc, hK⟩ | hK
  · subst hpc
    obtain ⟨e0, hK_1⟩ := lR_some hK
    obtain ⟨e2, hK_2⟩ := lR_some hK_1
    obtain ⟨a3, e3, hK_3⟩ := lI_some hK_2
    obtain ⟨a6, e6, hK_4⟩ := lI_some hK_3
    obtain ⟨hst9, hK_5⟩ := sE_some hK_4
    subst hst9
    exact eGo.wk (go_ga_play_L41 hcx  eFu a3 a6 w hK_5) (eLe_wk ⟨e0, e2, e3, e6, trivial⟩)
  cases hK
end
set_option maxRecDepth 100000 in
set_option maxHeartbeats 4000000 in
theorem ok_ga_play {l : Launch} {ad : Nat → Nat} {D : va_G} {cA : Nat → ClassId} {ρ : Type} (as : List Value) (w : eW) (k : Option Value → eW → Option ρ) (x : ρ) (h : K_ga_play as w k = some x) : ∃ (v : Option Value) (w2 : eW), k v w2 = some x ∧ eMet l ad D cA vwCl SHc SSc yX5_play (eWd yX5_play cX5_play 7 none) { frames := 4, cells := 0, slots := 0, locals := 138 } as w v w2 := by
  unfold K_ga_play at h
  split at h
  · rename_i r0 r1 r2 a3 a4
    obtain ⟨h1, h5⟩ := eBif h
    clear h
    have h := h5
    clear h5
    have h1 := Nat.eq_of_beq_eq_true h1
    subst h1
    obtain ⟨h1, h5⟩ := eBif h
    clear h
    have h := h5
    clear h5
    have h1 := Nat.eq_of_beq_eq_true h1
    subst h1
    obtain ⟨h1, h5⟩ := eBif h
    clear h
    have h := h5
    clear h5
    have h1 := Nat.eq_of_beq_eq_true h1
    subst h1
    obtain ⟨q, h2, h3⟩ := Option.bind_eq_some_iff.mp h
    exact ⟨_, _, h3, eMet_of (by decide +kernel) rfl (by simp [eCat, Value.category]) rV_ret (fun p e s m args below meth c hcx => go_ga_play hcx a3 a4 w q h2)⟩
  · cases h
def CX5_playRound : eCo := [[some (.aload_n 0), some (.aload_n 1), some (.aload_n 2), some (.iload_n 3), some (.lload 4), none, some (.invokevirtual 33), none, none, some (.iconst 0), some (.istore 6), none, some (.iload 6), none, some (.aload_n 0), some (.getfield 22)],
  [none, none, some (.if_icmp .ge 23), none, none, some (.aload_n 0), some (.aload_n 1), some (.aload_n 2), some (.iload_n 3), some (.iconst 1), some (.iload 6), none, some (.ishl), some (.ixor), some (.lload 4), none],
  [some (.invokevirtual 33), none, none, some (.iinc 6 1), none, none, some (.goto (-26)), none, none, some (.return_)]]
theorem dcX5_playRound : eDec cX5_playRound CX5_playRound := eDec_of (by decide +kernel)
def rs_ga_playRound : List (Nat × eR) := [(22, (0, 5, 1, 0)), (33, (1, 0, 4, 5))]
noncomputable def cs_ga_playRound : List (eF (eW)) := [K_ga_play]
noncomputable def f_ga_playRound_L12 : Nat → Int32 → Int64 → Int32 → eW → Option (eW)
  | 0, _, _, _, _ => none
  | n + 1, a3, a4, a6, w => (if (w.1 31 1) ≤ a6 then (some w) else ((f_ga_play (a3 ^^^ ((1 : Int32) <<< (a6 &&& 31))) a4 w).bind fun w2 => (f_ga_playRound_L12 n a3 a4 (a6 + (1 : Int32)) w2)))
noncomputable def f_ga_playRound (a3 : Int32) (a4 : Int64) (w : eW) : Option (eW) := ((f_ga_play a3 a4 w).bind fun w1 => (f_ga_playRound_L12 eFu a3 a4 (0 : Int32) w1))
noncomputable def K_ga_playRound {ρ : Type} : eF ρ := fun as w k => match as with
  | [.ref r0, .ref r1, .ref r2, .int a3, .long a4] => bif Nat.beq r0 31 then (bif Nat.beq r1 8 then (bif Nat.beq r2 24 then (f_ga_playRound a3 a4 w).bind (fun w => k none w) else none) else none) else none
  | _ => none
section
variable {p : Program} {l : Launch} {e : Env} {s : State} {m : MethodId} {args : Array Value} {below : List Frame} {meth : Method} {c : Code} {ad : Nat → Nat} {D : va_G} {cA : Nat → ClassId}
theorem lk_ga_playRound : ∀ q ∈ rs_ga_playRound, eLnk { frames := 5, cells := 0, slots := 0, locals := 164 } vwCl (eWd yX5_playRound cX5_playRound 7 none) SSc SHc.length RX5 q.1 q.2 := List.forall_mem_cons.mpr ⟨lkX5_22 eTb_wd, List.forall_mem_cons.mpr ⟨trivial, fun _ h => absurd h List.not_mem_nil⟩⟩
theorem hc_ga_playRound {x : eW} : ∀ q ∈ rs_ga_playRound, eHc l { frames := 5, cells := 0, slots := 0, locals := 164 } ad D cA vwCl SHc SSc (eWd yX5_playRound cX5_playRound 7 none) RX5 cs_ga_playRound x q := List.forall_mem_cons.mpr ⟨trivial, List.forall_mem_cons.mpr ⟨(fun as w k h => let ⟨v, w2, h1, h2⟩ := ok_ga_play as w k x h; ⟨v, w2, h1, eCal_of h2 ⟨rfl, rfl⟩ hdX5_play (gvX5_33 eTb_wd)⟩), fun _ h => absurd h List.not_mem_nil⟩⟩
noncomputable def kk_ga_playRound_12 (n : Nat) : eK (eW) := fun pc L st w => bif Nat.beq pc 12 then (lR L 0 31 (lR L 1 8 (lR L 2 24 ((lI L 3).bind fun a3 => (lJ L 4).bind fun a4 => (lI L 6).bind fun a6 => sE st (f_ga_playRound_L12 n a3 a4 a6 w))))) else none
set_option maxRecDepth 100000 in
set_option maxHeartbeats 4000000 in
theorem go_ga_playRound_L12 (hcx : eCx p { frames := 5, cells := 0, slots := 0, locals := 164 } s m args meth c cX5_playRound RX5 7 ad D cA vwCl SHc SSc (eWd yX5_playRound cX5_playRound 7 none) (none)) {x : eW} : ∀ (n : Nat) (a3 : Int32) (a4 : Int64) (a6 : Int32) (w : eW), f_ga_playRound_L12  n a3 a4 a6 w = some x → eGq p l e { frames := 5, cells := 0, slots := 0, locals := 164 } s m args below meth c 7 ad D cA vwCl SHc rV x 12 [some (.ref 31), some (.ref 8), some (.ref 24), some (.int a3), some (.long a4), none, some (.int a6)] [] w := by
  intro n
  induction n with
  | zero => intro a3 a4 a6 w h; exact nomatch (show (none : Option (eW)) = some x from h)
  | succ n ih =>
    intro a3 a4 a6 w h
    have h : eRun SHc SSc 7 rs_ga_playRound (eCs cs_ga_playRound) rV CX5_playRound [12] (kk_ga_playRound_12  n) 19 true 12 [some (.ref 31), some (.ref 8), some (.ref 24), some (.int a3), some (.long a4), none, some (.int a6)] [] w = some x := h
    refine eRun_go hcx (eLnk_all lk_ga_playRound) (eHc_all hc_ga_playRound) rV_ok dcX5_playRound [12] _ (fun pc L st w hK => ?_) 19 true 12 _ _ w h
    unfold kk_ga_playRound_12 at hK
    rcases eCut hK with ⟨hpc, hK⟩ | hK
    · subst hpc
      obtain ⟨e0, hK_1⟩ := lR_some hK
      obtain ⟨e1, hK_2⟩ := lR_some hK_1
      obtain ⟨e2, hK_3⟩ := lR_some hK_2
      obtain ⟨a3, e3, hK_4⟩ := lI_some hK_3
      obtain ⟨a4, e4, hK_5⟩ := lJ_some hK_4
      obtain ⟨a6, e6, hK_6⟩ := lI_some hK_5
      obtain ⟨hst9, hK_7⟩ := sE_some hK_6
      subst hst9
      exact eGo.wk (ih a3 a4 a6 w hK_7) (eLe_wk ⟨e0, e1, e2, e3, e4, e6, trivial⟩)
    cases hK
set_option maxRecDepth 100000 in
set_option maxHeartbeats 4000000 in
theorem go_ga_playRound (hcx : eCx p { frames := 5, cells := 0, slots := 0, locals := 164 } s m args meth c cX5_playRound RX5 7 ad D cA vwCl SHc SSc (eWd yX5_playRound cX5_playRound 7 none) (none)) (a3 : Int32) (a4 : Int64) (w : eW) (x : eW) (h : f_ga_playRound a3 a4 w = some x) : eGq p l e { frames := 5, cells := 0, slots := 0, locals := 164 } s m args below meth c 7 ad D cA vwCl SHc rV x 0 (eEnt [.ref 31, .ref 8, .ref 24, .int a3, .long a4]) [] w := by
  have h : eRun SHc SSc 7 rs_ga_playRound (eCs cs_ga_playRound) rV CX5_playRound [12] (fun pc L st w => bif Nat.beq pc 12 then (lR L 0 31 (lR L 1 8 (lR L 2 24 ((lI L 3).bind fun a3 => (lJ L 4).bind fun a4 => (lI L 6).bind fun a6 => sE st (f_ga_playRound_L12 eFu a3 a4 a6 w))))) else none) 11 true 0 [some (.ref 31), some (.ref 8), some (.ref 24), some (.int a3), some (.long a4), none, none] [] w = some x := h
  refine eGo.wk (eRun_go hcx (eLnk_all lk_ga_playRound) (eHc_all hc_ga_playRound) rV_ok dcX5_playRound [12] _ (fun pc L st w hK => ?_) 11 true 0 _ _ w h) (eLe_wk ⟨rfl, rfl, rfl, rfl, rfl, trivial⟩)
  rcases eCut hK with ⟨hpc, hK⟩ | hK
  · subst hpc
    obtain ⟨e0, hK_1⟩ := lR_some hK
    obtain ⟨e1, hK_2⟩ := lR_some hK_1
    obtain ⟨e2, hK_3⟩ := lR_some hK_2
    obtain ⟨a3, e3, hK_4⟩ := lI_some hK_3
    obtain ⟨a4, e4, hK_5⟩ := lJ_some hK_4
    obtain ⟨a6, e6, hK_6⟩ := lI_some hK_5
    obtain ⟨hst9, hK_7⟩ := sE_some hK_6
    subst hst9
    exact eGo.wk (go_ga_playRound_L12 hcx  eFu a3 a4 a6 w hK_7) (eLe_wk ⟨e0, e1, e2, e3, e4, e6, trivial⟩)
  cases hK
end
set_option maxRecDepth 100000 in
set_option maxHeartbeats 4000000 in
theorem ok_ga_playRound {l : Launch} {ad : Nat → Nat} {D : va_G} {cA : Nat → ClassId} {ρ : Type} (as : List Value) (w : eW) (k : Option Value → eW → Option ρ) (x : ρ) (h : K_ga_playRound as w k = some x) : ∃ (v : Option Value) (w2 : eW), k v w2 = some x ∧ eMet l ad D cA vwCl SHc SSc yX5_playRound (eWd yX5_playRound cX5_playRound 7 none) { frames := 5, cells := 0, slots := 0, locals := 164 } as w v w2 := by
  unfold K_ga_playRound at h
  split at h
  · rename_i r0 r1 r2 a3 a4
    obtain ⟨h1, h5⟩ := eBif h
    clear h
    have h := h5
    clear h5
    have h1 := Nat.eq_of_beq_eq_true h1
    subst h1
    obtain ⟨h1, h5⟩ := eBif h
    clear h
    have h := h5
    clear h5
    have h1 := Nat.eq_of_beq_eq_true h1
    subst h1
    obtain ⟨h1, h5⟩ := eBif h
    clear h
    have h := h5
    clear h5
    have h1 := Nat.eq_of_beq_eq_true h1
    subst h1
    obtain ⟨q, h2, h3⟩ := Option.bind_eq_some_iff.mp h
    exact ⟨_, _, h3, eMet_of (by decide +kernel) rfl (by simp [eCat, Value.category]) rV_ret (fun p e s m args below meth c hcx => go_ga_playRound hcx a3 a4 w q h2)⟩
  · cases h
