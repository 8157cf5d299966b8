def CX3_arrange : eCo := [[some (.aload_n 0), some (.getfield 12), none, none, some (.invokevirtual 42), none, none, some (.aload_n 0), some (.lconst 0), some (.putfield 45), none, none, some (.iconst 0), some (.istore 4), none, some (.iload 4)],
  [none, some (.iconst 5), some (.if_icmp .gt 17), none, none, some (.aload_n 0), some (.getfield 22), none, none, some (.iload 4), none, some (.lconst 0), some (.lastore), some (.iinc 4 1), none, none],
  [some (.goto (-17)), none, none, some (.iconst 0), some (.istore 4), none, some (.iload 4), none, some (.aload_n 1), some (.getfield 48), none, none, some (.if_icmp .ge 72), none, none, some (.iload 4)],
  [none, some (.bipush 12), none, some (.if_icmp .ge 65), none, none, some (.aload_n 0), some (.getfield 18), none, none, some (.iload 4), none, some (.aload_n 1), some (.iload 4), none, some (.iconst 3)],
  [some (.invokevirtual 54), none, none, some (.iastore), some (.aload_n 1), some (.iload 4), none, some (.invokevirtual 58), none, none, some (.ifCond .eq 29), none, none, some (.aload_n 0), some (.aload_n 1), some (.iload 4)],
  [none, some (.iload_n 2), some (.iload_n 3), some (.iload 4), none, some (.ishr), some (.iconst 1), some (.iand), some (.iconst 1), some (.if_icmp .ne 7), none, none, some (.iconst 1), some (.goto 4), none, none],
  [some (.iconst 0), some (.invokevirtual 62), none, none, some (.goto 10), none, none, some (.aload_n 0), some (.aload_n 1), some (.iload 4), none, some (.invokevirtual 66), none, none, some (.iinc 4 1), none],
  [none, some (.goto (-75)), none, none, some (.return_)]]
theorem dcX3_arrange : eDec cX3_arrange CX3_arrange := eDec_of (by decide +kernel)
def rs_fa_arrange : List (Nat × eR) := [(12, (0, 3, 0, 2)), (18, (0, 3, 1, 2)), (22, (0, 3, 2, 2)), (42, (1, 0, 0, 2)), (45, (0, 3, 3, 1)), (48, (0, 4, 0, 0)), (54, (1, 1, 2, 4)), (58, (1, 2, 1, 4)), (62, (1, 4, 4, 3)), (66, (1, 3, 2, 3))]
noncomputable def cs_fa_arrange : List (eF (eW)) := [K_cu_clear, K_fi_fact, K_fi_isClass, K_fa_addOther, K_fa_addClass]
noncomputable def f_fa_arrange_L38 : Nat → Int32 → Int32 → Int32 → eW → Option (eW)
  | 0, _, _, _, _ => none
  | n + 1, a2, a3, a4, w => (if (w.1 8 0) ≤ a4 then (some w) else (if (12 : Int32) ≤ a4 then (some w) else ((f_fi_fact a4 (3 : Int32) w).bind fun p2 => (eChk a4 12 ((f_fi_isClass a4 (eU1 p2.2 20 (Int32.toNatClampNeg a4) p2.1)).bind fun p3 => (if p3.1 = 0 then ((f_fa_addOther a4 p3.2).bind fun w4 => (f_fa_arrange_L38 n a2 a3 (a4 + (1 : Int32)) w4)) else (if ¬ ((a3 >>> (a4 &&& 31)) &&& (1 : Int32)) = (1 : Int32) then ((f_fa_addClass a4 a2 (0 : Int32) p3.2).bind fun w5 => (f_fa_arrange_L38 n a2 a3 (a4 + (1 : Int32)) w5)) else ((f_fa_addClass a4 a2 (1 : Int32) p3.2).bind fun w6 => (f_fa_arrange_L38 n a2 a3 (a4 + (1 : Int32)) w6)))))))))
noncomputable def f_fa_arrange_L15 : Nat → Int32 → Int32 → Int32 → eW → Option (eW)
  | 0, _, _, _, _ => none
  | n + 1, a2, a3, a4, w => (if (5 : Int32) < a4 then (f_fa_arrange_L38 eFu a2 a3 (0 : Int32) w) else (eChk a4 6 (f_fa_arrange_L15 n a2 a3 (a4 + (1 : Int32)) (eU2 w 21 (Int32.toNatClampNeg a4) (0 : Int64)))))
noncomputable def f_fa_arrange (a2 : Int32) (a3 : Int32) (w : eW) : Option (eW) := ((f_cu_clear w).bind fun w1 => (f_fa_arrange_L15 eFu a2 a3 (0 : Int32) (eU2 w1 24 3 (0 : Int64))))
noncomputable def K_fa_arrange {ρ : Type} : eF ρ := fun as w k => match as with
  | [.ref r0, .ref r1, .int a2, .int a3] => bif Nat.beq r0 24 then (bif Nat.beq r1 8 then (f_fa_arrange a2 a3 w).bind (fun w => k none w) else none) else none
  | _ => none
section
variable {p : Program} {l : Launch} {e : Env} {s : State} {m : MethodId} {args : Array Value} {below : List Frame} {meth : Method} {c : Code} {ad : Nat → Nat} {D : va_G} {cA : Nat → ClassId}
theorem lk_fa_arrange : ∀ q ∈ rs_fa_arrange, eLnk { frames := 3, cells := 0, slots := 0, locals := 114 } vwCl (eWd yX3_arrange cX3_arrange 5 none) SSc SHc.length RX3 q.1 q.2 := List.forall_mem_cons.mpr ⟨lkX3_12 eTb_wd, List.forall_mem_cons.mpr ⟨lkX3_18 eTb_wd, List.forall_mem_cons.mpr ⟨lkX3_22 eTb_wd, List.forall_mem_cons.mpr ⟨trivial, List.forall_mem_cons.mpr ⟨lkX3_45 eTb_wd, List.forall_mem_cons.mpr ⟨lkX3_48 eTb_wd, List.forall_mem_cons.mpr ⟨trivial, List.forall_mem_cons.mpr ⟨trivial, List.forall_mem_cons.mpr ⟨trivial, List.forall_mem_cons.mpr ⟨trivial, fun _ h => absurd h List.not_mem_nil⟩⟩⟩⟩⟩⟩⟩⟩⟩⟩
theorem hc_fa_arrange {x : eW} : ∀ q ∈ rs_fa_arrange, eHc l { frames := 3, cells := 0, slots := 0, locals := 114 } ad D cA vwCl SHc SSc (eWd yX3_arrange cX3_arrange 5 none) RX3 cs_fa_arrange x q := List.forall_mem_cons.mpr ⟨trivial, List.forall_mem_cons.mpr ⟨trivial, List.forall_mem_cons.mpr ⟨trivial, List.forall_mem_cons.mpr ⟨(fun as w k h => let ⟨v, w2, h1, h2⟩ := ok_cu_clear as w k x h; ⟨v, w2, h1, eCal_of h2 ⟨rfl, rfl⟩ hdX2_clear (gvX3_42 eTb_wd)⟩), List.forall_mem_cons.mpr ⟨trivial, List.forall_mem_cons.mpr ⟨trivial, List.forall_mem_cons.mpr ⟨(fun as w k h => let ⟨v, w2, h1, h2⟩ := ok_fi_fact as w k x h; ⟨v, w2, h1, eCal_of h2 ⟨rfl, rfl⟩ hdX4_fact (gvX3_54 eTb_wd)⟩), List.forall_mem_cons.mpr ⟨(fun as w k h => let ⟨v, w2, h1, h2⟩ := ok_fi_isClass as w k x h; ⟨v, w2, h1, eCal_of h2 ⟨rfl, rfl⟩ hdX4_isClass (gvX3_58 eTb_wd)⟩), List.forall_mem_cons.mpr ⟨(fun as w k h => let ⟨v, w2, h1, h2⟩ := ok_fa_addClass as w k x h; ⟨v, w2, h1, eCal_of h2 ⟨rfl, rfl⟩ hdX3_addClass (gvX3_62 eTb_wd)⟩), List.forall_mem_cons.mpr ⟨(fun as w k h => let ⟨v, w2, h1, h2⟩ := ok_fa_addOther as w k x h; ⟨v, w2, h1, eCal_of h2 ⟨rfl, rfl⟩ hdX3_addOther (gvX3_66 eTb_wd)⟩), fun _ h => absurd h List.not_mem_nil⟩⟩⟩⟩⟩⟩⟩⟩⟩⟩
noncomputable def kk_fa_arrange_38 (n : Nat) : eK (eW) := fun pc L st w => bif Nat.beq pc 38 then (lR L 0 24 (lR L 1 8 ((lI L 2).bind fun a2 => (lI L 3).bind fun a3 => (lI L 4).bind fun a4 => sE st (f_fa_arrange_L38 n a2 a3 a4 w)))) else none
set_option maxRecDepth 100000 in
set_option maxHeartbeats 4000000 in
theorem go_fa_arrange_L38 (hcx : eCx p { frames := 3, cells := 0, slots := 0, locals := 114 } s m args meth c cX3_arrange RX3 5 ad D cA vwCl SHc SSc (eWd yX3_arrange cX3_arrange 5 none) (none)) {x : eW} : ∀ (n : Nat) (a2 : Int32) (a3 : Int32) (a4 : Int32) (w : eW), f_fa_arrange_L38  n a2 a3 a4 w = some x → eGq p l e { frames := 3, cells := 0, slots := 0, locals := 114 } s m args below meth c 5 ad D cA vwCl SHc rV x 38 [some (.ref 24), some (.ref 8), some (.int a2), some (.int a3), some (.int a4)] [] w := by
  intro n
  induction n with
  | zero => intro a2 a3 a4 w h; exact nomatch (show (none : Option (eW)) = some x from h)
  | succ n ih =>
    intro a2 a3 a4 w h
    have h : eRun SHc SSc 5 rs_fa_arrange (eCs cs_fa_arrange) rV CX3_arrange [15, 38] (kk_fa_arrange_38  n) 39 true 38 [some (.ref 24), some (.ref 8), some (.int a2), some (.int a3), some (.int a4)] [] w = some x := h
    refine eRun_go hcx (eLnk_all lk_fa_arrange) (eHc_all hc_fa_arrange) rV_ok dcX3_arrange [15, 38] _ (fun pc L st w hK => ?_) 39 true 38 _ _ w h
    unfold kk_fa_arrange_38 at hK
    rcases eCut hK with ⟨hpc, hK⟩ | hK
    · subst hpc
      obtain ⟨e0, hK_1⟩ := lR_some hK
      obtain ⟨e1, hK_2⟩ := lR_some hK_1
      obtain ⟨a2, e2, hK_3⟩ := lI_some hK_2
      obtain ⟨a3, e3, hK_4⟩ := lI_some hK_3
      obtain ⟨a4, e4, hK_5⟩ := lI_some hK_4
      obtain ⟨hst9, hK_6⟩ := sE_some hK_5
      subst hst9
      exact eGo.wk (ih a2 a3 a4 w hK_6) (eLe_wk ⟨e0, e1, e2, e3, e4, trivial⟩)
    cases hK
noncomputable def kk_fa_arrange_15 (n : Nat) : eK (eW) := fun pc L st w => bif Nat.beq pc 38 then (lR L 0 24 (lR L 1 8 ((lI L 2).bind fun a2 => (lI L 3).bind fun a3 => (lI L 4).bind fun a4 => sE st (f_fa_arrange_L38 eFu a2 a3 a4 w)))) else (bif Nat.beq pc 15 then (lR L 0 24 (lR L 1 8 ((lI L 2).bind fun a2 => (lI L 3).bind fun a3 => (lI L 4).bind fun a4 => sE st (f_fa_arrange_L15 n a2 a3 a4 w)))) else none)
set_option maxRecDepth 100000 in
set_option maxHeartbeats 4000000 in
theorem go_fa_arrange_L15 (hcx : eCx p { frames := 3, cells := 0, slots := 0, locals := 114 } s m args meth c cX3_arrange RX3 5 ad D cA vwCl SHc SSc (eWd yX3_arrange cX3_arrange 5 none) (none)) {x : eW} : ∀ (n : Nat) (a2 : Int32) (a3 : Int32) (a4 : Int32) (w : eW), f_fa_arrange_L15  n a2 a3 a4 w = some x → eGq p l e { frames := 3, cells := 0, slots := 0, locals := 114 } s m args below meth c 5 ad D cA vwCl SHc rV x 15 [some (.ref 24), some (.ref 8), some (.int a2), some (.int a3), some (.int a4)] [] w := by
  intro n
  induction n with
  | zero => intro a2 a3 a4 w h; exact nomatch (show (none : Option (eW)) = some x from h)
  | succ n ih =>
    intro a2 a3 a4 w h
    have h : eRun SHc SSc 5 rs_fa_arrange (eCs cs_fa_arrange) rV CX3_arrange [15, 38] (kk_fa_arrange_15  n) 13 true 15 [some (.ref 24), some (.ref 8), some (.int a2), some (.int a3), some (.int a4)] [] w = some x := h
    refine eRun_go hcx (eLnk_all lk_fa_arrange) (eHc_all hc_fa_arrange) rV_ok dcX3_arrange [15, 38] _ (fun pc L st w hK => ?_) 13 true 15 _ _ w h
    unfold kk_fa_arrange_15 at hK
    rcases eCut hK with ⟨hpc, hK⟩ | hK
    · subst hpc
      obtain ⟨e0, hK_1⟩ := lR_some hK
      obtain ⟨e1, hK_2⟩ := lR_some hK_1
      obtain ⟨a2, e2, hK_3⟩ := lI_some hK_2
      obtain ⟨a3, e3, hK_4⟩ := lI_some hK_3
      obtain ⟨a4, e4, hK_5⟩ := lI_some hK_4
      obtain ⟨hst9, hK_6⟩ := sE_some hK_5
      subst hst9
      exact eGo.wk (go_fa_arrange_L38 hcx  eFu a2 a3 a4 w hK_6) (eLe_wk ⟨e0, e1, e2, e3, e4, trivial⟩)
    rcases eCut hK with ⟨hpc, hK⟩ | hK
    · subst hpc
      obtain ⟨e0, hK_1⟩ := lR_some hK
      obtain ⟨e1, hK_2⟩ := lR_some hK_1
      obtain ⟨a2, e2, hK_3⟩ := lI_some hK_2
      obtain ⟨a3, e3, hK_4⟩ := lI_some hK_3
      obtain ⟨a4, e4, hK_5⟩ := lI_some hK_4
      obtain ⟨hst9, hK_6⟩ := sE_some hK_5
      subst hst9
      exact eGo.wk (ih a2 a3 a4 w hK_6) (eLe_wk ⟨e0, e1, e2, e3, e4, trivial⟩)
    cases hK
set_option maxRecDepth 100000 in
set_option maxHeartbeats 4000000 in
theorem go_fa_arrange (hcx : eCx p { frames := 3, cells := 0, slots := 0, locals := 114 } s m args meth c cX3_arrange RX3 5 ad D cA vwCl SHc SSc (eWd yX3_arrange cX3_arrange 5 none) (none)) (a2 : Int32) (a3 : Int32) (w : eW) (x : eW) (h : f_fa_arrange a2 a3 w = some x) : eGq p l e { frames := 3, cells := 0, slots := 0, locals := 114 } s m args below meth c 5 ad D cA vwCl SHc rV x 0 (eEnt [.ref 24, .ref 8, .int a2, .int a3]) [] w := by
  have h : eRun SHc SSc 5 rs_fa_arrange (eCs cs_fa_arrange) rV CX3_arrange [15, 38] (fun pc L st w => bif Nat.beq pc 15 then (lR L 0 24 (lR L 1 8 ((lI L 2).bind fun a2 => (lI L 3).bind fun a3 => (lI L 4).bind fun a4 => sE st (f_fa_arrange_L15 eFu a2 a3 a4 w)))) else none) 11 true 0 [some (.ref 24), some (.ref 8), some (.int a2), some (.int a3), none] [] w = some x := h
  refine eGo.wk (eRun_go hcx (eLnk_all lk_fa_arrange) (eHc_all hc_fa_arrange) rV_ok dcX3_arrange [15, 38] _ (fun pc L st w hK => ?_) 11 true 0 _ _ w h) (eLe_wk ⟨rfl, rfl, rfl, rfl, trivial⟩)
  rcases eCut hK with ⟨hpc, hK⟩ | hK
  · subst hpc
    obtain ⟨e0, hK_1⟩ := lR_some hK
    obtain ⟨e1, hK_2⟩ := lR_some hK_1
    obtain ⟨a2, e2, hK_3⟩ := lI_some hK_2
    obtain ⟨a3, e3, hK_4⟩ := lI_some hK_3
    obtain ⟨a4, e4, hK_5⟩ := lI_some hK_4
    obtain ⟨hst9, hK_6⟩ := sE_some hK_5
    subst hst9
    exact eGo.wk (go_fa_arrange_L15 hcx  eFu a2 a3 a4 w hK_6) (eLe_wk ⟨e0, e1, e2, e3, e4, trivial⟩)
  cases hK
end
set_option maxRecDepth 100000 in
set_option maxHeartbeats 4000000 in
theorem ok_fa_arrange {l : Launch} {ad : Nat → Nat} {D : va_G} {cA : Nat → ClassId} {ρ : Type} (as : List Value) (w : eW) (k : Option Value → eW → Option ρ) (x : ρ) (h : K_fa_arrange as w k = some x) : ∃ (v : Option Value) (w2 : eW), k v w2 = some x ∧ eMet l ad D cA vwCl SHc SSc yX3_arrange (eWd yX3_arrange cX3_arrange 5 none) { frames := 3, cells := 0, slots := 0, locals := 114 } as w v w2 := by
  unfold K_fa_arrange at h
  split at h
  · rename_i r0 r1 a2 a3
    obtain ⟨h1, h5⟩ := eBif h
    clear h
    have h := h5
    clear h5
    have h1 := Nat.eq_of_beq_eq_true h1
    subst h1
    obtain ⟨h1, h5⟩ := eBif h
    clear h
    have h := h5
    clear h5
    have h1 := Nat.eq_of_beq_eq_true h1
    subst h1
    obtain ⟨q, h2, h3⟩ := Option.bind_eq_some_iff.mp h
    exact ⟨_, _, h3, eMet_of (by decide +kernel) rfl (by simp [eCat, Value.category]) rV_ret (fun p e s m args below meth c hcx => go_fa_arrange hcx a2 a3 w q h2)⟩
  · cases h
def CX4_fallsOf : eCo := [[some (.iload_n 1), some (.iload_n 1), some (.aload_n 0), some (.getfield 19), none, none, some (.imul), some (.bipush 100), none, some (.idiv), some (.isub), some (.ireturn)]]
theorem dcX4_fallsOf : eDec cX4_fallsOf CX4_fallsOf := eDec_of (by decide +kernel)
def rs_fi_fallsOf : List (Nat × eR) := [(19, (0, 4, 1, 0))]
noncomputable def cs_fi_fallsOf : List (eF (Int32 × eW)) := []
noncomputable def f_fi_fallsOf (a1 : Int32) (w : eW) : Option (Int32 × eW) := (some ((a1 - ((a1 * (w.1 8 1)) / (100 : Int32))), w))
noncomputable def K_fi_fallsOf {ρ : Type} : eF ρ := fun as w k => match as with
  | [.ref r0, .int a1] => bif Nat.beq r0 8 then (f_fi_fallsOf a1 w).bind (fun p => k (some (.int p.1)) p.2) else none
  | _ => none
section
variable {p : Program} {l : Launch} {e : Env} {s : State} {m : MethodId} {args : Array Value} {below : List Frame} {meth : Method} {c : Code} {ad : Nat → Nat} {D : va_G} {cA : Nat → ClassId}
theorem lk_fi_fallsOf : ∀ q ∈ rs_fi_fallsOf, eLnk { frames := 0, cells := 0, slots := 0, locals := 0 } vwCl (eWd yX4_fallsOf cX4_fallsOf 2 (some .int)) SSc SHc.length RX4 q.1 q.2 := List.forall_mem_cons.mpr ⟨lkX4_19 eTb_wd, fun _ h => absurd h List.not_mem_nil⟩
theorem hc_fi_fallsOf {x : Int32 × eW} : ∀ q ∈ rs_fi_fallsOf, eHc l { frames := 0, cells := 0, slots := 0, locals := 0 } ad D cA vwCl SHc SSc (eWd yX4_fallsOf cX4_fallsOf 2 (some .int)) RX4 cs_fi_fallsOf x q := List.forall_mem_cons.mpr ⟨trivial, fun _ h => absurd h List.not_mem_nil⟩
set_option maxRecDepth 100000 in
set_option maxHeartbeats 4000000 in
theorem go_fi_fallsOf (hcx : eCx p { frames := 0, cells := 0, slots := 0, locals := 0 } s m args meth c cX4_fallsOf RX4 2 ad D cA vwCl SHc SSc (eWd yX4_fallsOf cX4_fallsOf 2 (some .int)) (some .int)) (a1 : Int32) (w : eW) (x : Int32 × eW) (h : f_fi_fallsOf a1 w = some x) : eGq p l e { frames := 0, cells := 0, slots := 0, locals := 0 } s m args below meth c 2 ad D cA vwCl SHc rI x 0 (eEnt [.ref 8, .int a1]) [] w := by
  have h : eRun SHc SSc 2 rs_fi_fallsOf (eCs cs_fi_fallsOf) rI CX4_fallsOf [] (fun pc L st w => none) 11 true 0 [some (.ref 8), some (.int a1)] [] w = some x := h
  refine eGo.wk (eRun_go hcx (eLnk_all lk_fi_fallsOf) (eHc_all hc_fi_fallsOf) rI_ok dcX4_fallsOf [] _ (fun pc L st w hK => ?_) 11 true 0 _ _ w h) (eLe_wk ⟨rfl, rfl, trivial⟩)
  cases hK
end
set_option maxRecDepth 100000 in
set_option maxHeartbeats 4000000 in
theorem ok_fi_fallsOf {l : Launch} {ad : Nat → Nat} {D : va_G} {cA : Nat → ClassId} {ρ : Type} (as : List Value) (w : eW) (k : Option Value → eW → Option ρ) (x : ρ) (h : K_fi_fallsOf as w k = some x) : ∃ (v : Option Value) (w2 : eW), k v w2 = some x ∧ eMet l ad D cA vwCl SHc SSc yX4_fallsOf (eWd yX4_fallsOf cX4_fallsOf 2 (some .int)) { frames := 0, cells := 0, slots := 0, locals := 0 } as w v w2 := by
  unfold K_fi_fallsOf at h
  split at h
  · rename_i r0 a1
    obtain ⟨h1, h5⟩ := eBif h
    clear h
    have h := h5
    clear h5
    have h1 := Nat.eq_of_beq_eq_true h1
    subst h1
    obtain ⟨q, h2, h3⟩ := Option.bind_eq_some_iff.mp h
    exact ⟨_, _, h3, eMet_of (by decide +kernel) rfl (by simp [eCat, Value.category]) rI_ret (fun p e s m args below meth c hcx => go_fi_fallsOf hcx a1 w q h2)⟩
  · cases h
def CX2_restart : eCo := [[some (.aload_n 0), some (.lconst 0), some (.putfield 54), none, none, some (.aload_n 0), some (.lconst 0), some (.putfield 58), none, none, some (.iconst 0), some (.istore_n 1), some (.iload_n 1), some (.aload_n 0), some (.getfield 43), none],
  [none, some (.if_icmp .ge 63), none, none, some (.aload_n 0), some (.getfield 18), none, none, some (.iload_n 1), some (.aload_n 0), some (.getfield 9), none, none, some (.iload_n 1), some (.laload), some (.lastore)],
  [some (.aload_n 0), some (.getfield 21), none, none, some (.iload_n 1), some (.aload_n 0), some (.getfield 15), none, none, some (.iload_n 1), some (.laload), some (.lastore), some (.aload_n 0), some (.dup), some (.getfield 54), none],
  [none, some (.aload_n 0), some (.getfield 9), none, none, some (.iload_n 1), some (.laload), some (.ladd), some (.putfield 54), none, none, some (.aload_n 0), some (.dup), some (.getfield 58), none, none],
  [some (.aload_n 0), some (.getfield 15), none, none, some (.iload_n 1), some (.laload), some (.ladd), some (.putfield 58), none, none, some (.iinc 1 1), none, none, some (.goto (-65)), none, none],
  [some (.return_)]]
theorem dcX2_restart : eDec cX2_restart CX2_restart := eDec_of (by decide +kernel)
def rs_cu_restart : List (Nat × eR) := [(9, (0, 2, 1, 2)), (15, (0, 2, 2, 2)), (18, (0, 2, 3, 2)), (21, (0, 2, 4, 2)), (43, (0, 2, 0, 0)), (54, (0, 2, 5, 1)), (58, (0, 2, 6, 1))]
noncomputable def cs_cu_restart : List (eF (eW)) := []
noncomputable def f_cu_restart_L12 : Nat → Int32 → eW → Option (eW)
  | 0, _, _ => none
  | n + 1, a1, w => (if (w.1 19 0) ≤ a1 then (some w) else (eChk a1 12 (eChk a1 12 (eChk a1 12 (eChk a1 12 (eChk a1 12 (eChk a1 12 (f_cu_restart_L12 n (a1 + (1 : Int32)) (eU2 (eU2 (eU2 (eU2 w 11 (Int32.toNatClampNeg a1) (w.2 9 (Int32.toNatClampNeg a1))) 12 (Int32.toNatClampNeg a1) (w.2 10 (Int32.toNatClampNeg a1))) 19 5 ((w.2 19 5) + (w.2 9 (Int32.toNatClampNeg a1)))) 19 6 ((w.2 19 6) + (w.2 10 (Int32.toNatClampNeg a1))))))))))))
noncomputable def f_cu_restart (w : eW) : Option (eW) := (f_cu_restart_L12 eFu (0 : Int32) (eU2 (eU2 w 19 5 (0 : Int64)) 19 6 (0 : Int64)))
noncomputable def K_cu_restart {ρ : Type} : eF ρ := fun as w k => match as with
  | [.ref r0] => bif Nat.beq r0 19 then (f_cu_restart w).bind (fun w => k none w) else none
  | _ => none
section
variable {p : Program} {l : Launch} {e : Env} {s : State} {m : MethodId} {args : Array Value} {below : List Frame} {meth : Method} {c : Code} {ad : Nat → Nat} {D : va_G} {cA : Nat → ClassId}
theorem lk_cu_restart : ∀ q ∈ rs_cu_restart, eLnk { frames := 0, cells := 0, slots := 0, locals := 0 } vwCl (eWd yX2_restart cX2_restart 2 none) SSc SHc.length RX2 q.1 q.2 := List.forall_mem_cons.mpr ⟨lkX2_9 eTb_wd, List.forall_mem_cons.mpr ⟨lkX2_15 eTb_wd, List.forall_mem_cons.mpr ⟨lkX2_18 eTb_wd, List.forall_mem_cons.mpr ⟨lkX2_21 eTb_wd, List.forall_mem_cons.mpr ⟨lkX2_43 eTb_wd, List.forall_mem_cons.mpr ⟨lkX2_54 eTb_wd, List.forall_mem_cons.mpr ⟨lkX2_58 eTb_wd, fun _ h => absurd h List.not_mem_nil⟩⟩⟩⟩⟩⟩⟩
theorem hc_cu_restart {x : eW} : ∀ q ∈ rs_cu_restart, eHc l { frames := 0, cells := 0, slots := 0, locals := 0 } ad D cA vwCl SHc SSc (eWd yX2_restart cX2_restart 2 none) RX2 cs_cu_restart x q := List.forall_mem_cons.mpr ⟨trivial, List.forall_mem_cons.mpr ⟨trivial, List.forall_mem_cons.mpr ⟨trivial, List.forall_mem_cons.mpr ⟨trivial, List.forall_mem_cons.mpr ⟨trivial, List.forall_mem_cons.mpr ⟨trivial, List.forall_mem_cons.mpr ⟨trivial, fun _ h => absurd h List.not_mem_nil⟩⟩⟩⟩⟩⟩⟩
noncomputable def kk_cu_restart_12 (n : Nat) : eK (eW) := fun pc L st w => bif Nat.beq pc 12 then (lR L 0 19 ((lI L 1).bind fun a1 => sE st (f_cu_restart_L12 n a1 w))) else none
set_option maxRecDepth 100000 in
set_option maxHeartbeats 4000000 in
theorem go_cu_restart_L12 (hcx : eCx p { frames := 0, cells := 0, slots := 0, locals := 0 } s m args meth c cX2_restart RX2 2 ad D cA vwCl SHc SSc (eWd yX2_restart cX2_restart 2 none) (none)) {x : eW} : ∀ (n : Nat) (a1 : Int32) (w : eW), f_cu_restart_L12  n a1 w = some x → eGq p l e { frames := 0, cells := 0, slots := 0, locals := 0 } s m args below meth c 2 ad D cA vwCl SHc rV x 12 [some (.ref 19), some (.int a1)] [] w := by
  intro n
  induction n with
  | zero => intro a1 w h; exact nomatch (show (none : Option (eW)) = some x from h)
  | succ n ih =>
    intro a1 w h
    have h : eRun SHc SSc 2 rs_cu_restart (eCs cs_cu_restart) rV CX2_restart [12] (kk_cu_restart_12  n) 43 true 12 [some (.ref 19), some (.int a1)] [] w = some x := h
    refine eRun_go hcx (eLnk_all lk_cu_restart) (eHc_all hc_cu_restart) rV_ok dcX2_restart [12] _ (fun pc L st w hK => ?_) 43 true 12 _ _ w h
    unfold kk_cu_restart_12 at hK
    rcases eCut hK with ⟨hpc, hK⟩ | hK
    · subst hpc
      obtain ⟨e0, hK_1⟩ := lR_some hK
      obtain ⟨a1, e1, hK_2⟩ := lI_some hK_1
      obtain ⟨hst9, hK_3⟩ := sE_some hK_2
      subst hst9
      exact eGo.wk (ih a1 w hK_3) (eLe_wk ⟨e0, e1, trivial⟩)
    cases hK
set_option maxRecDepth 100000 in
set_option maxHeartbeats 4000000 in
theorem go_cu_restart (hcx : eCx p { frames := 0, cells := 0, slots := 0, locals := 0 } s m args meth c cX2_restart RX2 2 ad D cA vwCl SHc SSc (eWd yX2_restart cX2_restart 2 none) (none)) (w : eW) (x : eW) (h : f_cu_restart w = some x) : eGq p l e { frames := 0, cells := 0, slots := 0, locals := 0 } s m args below meth c 2 ad D cA vwCl SHc rV x 0 (eEnt [.ref 19]) [] w := by
  have h : eRun SHc SSc 2 rs_cu_restart (eCs cs_cu_restart) rV CX2_restart [12] (fun pc L st w => bif Nat.beq pc 12 then (lR L 0 19 ((lI L 1).bind fun a1 => sE st (f_cu_restart_L12 eFu a1 w))) else none) 11 true 0 [some (.ref 19), none] [] w = some x := h
  refine eGo.wk (eRun_go hcx (eLnk_all lk_cu_restart) (eHc_all hc_cu_restart) rV_ok dcX2_restart [12] _ (fun pc L st w hK => ?_) 11 true 0 _ _ w h) (eLe_wk ⟨rfl, trivial⟩)
  rcases eCut hK with ⟨hpc, hK⟩ | hK
  · subst hpc
    obtain ⟨e0, hK_1⟩ := lR_some hK
    obtain ⟨a1, e1, hK_2⟩ := lI_some hK_1
    obtain ⟨hst9, hK_3⟩ := sE_some hK_2
    subst hst9
    exact eGo.wk (go_cu_restart_L12 hcx  eFu a1 w hK_3) (eLe_wk ⟨e0, e1, trivial⟩)
  cases hK
end
set_option maxRecDepth 100000 in
set_option maxHeartbeats 4000000 in
theorem ok_cu_restart {l : Launch} {ad : Nat → Nat} {D : va_G} {cA : Nat → ClassId} {ρ : Type} (as : List Value) (w : eW) (k : Option Value → eW → Option ρ) (x : ρ) (h : K_cu_restart as w k = some x) : ∃ (v : Option Value) (w2 : eW), k v w2 = some x ∧ eMet l ad D cA vwCl SHc SSc yX2_restart (eWd yX2_restart cX2_restart 2 none) { frames := 0, cells := 0, slots := 0, locals := 0 } as w v w2 := by
  unfold K_cu_restart at h
  split at h
  · rename_i r0
    obtain ⟨h1, h5⟩ := eBif h
    clear h
    have h := h5
    clear h5
    have h1 := Nat.eq_of_beq_eq_true h1
    subst h1
    obtain ⟨q, h2, h3⟩ := Option.bind_eq_some_iff.mp h
    exact ⟨_, _, h3, eMet_of (by decide +kernel) rfl (by simp [eCat, Value.category]) rV_ret (fun p e s m args below meth c hcx => go_cu_restart hcx w q h2)⟩
  · cases h
