def CX7_asFloat : eCo := [[some (.lload_n 0), some (.lload_n 2), some (.iconst 1), some (.invokestatic 28), none, none, some (.lstore 4), none, some (.lload 4), none, some (.lconst 0), some (.lcmp), some (.ifCond .le 17), none, none, some (.lload_n 0)],
  [some (.lload_n 2), some (.iconst 0), some (.invokestatic 28), none, none, some (.l2f), some (.lload 4), none, some (.l2f), some (.fdiv), some (.goto 4), none, none, some (.fconst 0), some (.freturn)]]
theorem dcX7_asFloat : eDec cX7_asFloat CX7_asFloat := eDec_of (by decide +kernel)
def rs_nu_asFloat : List (Nat × eR) := [(28, (1, 0, 3, -1))]
noncomputable def cs_nu_asFloat : List (eF (UInt32 × eW)) := [K_nu_lowest]
noncomputable def f_nu_asFloat (a0 : Int64) (a2 : Int64) (w : eW) : Option (UInt32 × eW) := ((f_nu_lowest a0 a2 (1 : Int32) w).bind fun p1 => (if (lg_cmp p1.1 (0 : Int64)) ≤ 0 then (some (FP.fconst0, p1.2)) else ((f_nu_lowest a0 a2 (0 : Int32) p1.2).bind fun p2 => (if (FP.fdiv (FP.l2f p2.1) (FP.l2f p1.1)) &&& 0x7fffffff ≤ 0x7f800000 then (some ((FP.fdiv (FP.l2f p2.1) (FP.l2f p1.1)), p2.2)) else none))))
noncomputable def K_nu_asFloat {ρ : Type} : eF ρ := fun as w k => match as with
  | [.long a0, .long a2] => (f_nu_asFloat a0 a2 w).bind (fun p => k (some (.float p.1)) p.2)
  | _ => none
section
variable {p : Program} {l : Launch} {e : Env} {s : State} {m : MethodId} {args : Array Value} {below : List Frame} {meth : Method} {c : Code} {ad : Nat → Nat} {D : va_G} {cA : Nat → ClassId}
theorem lk_nu_asFloat : ∀ q ∈ rs_nu_asFloat, eLnk { frames := 3, cells := 0, slots := 0, locals := 116 } vwCl (eWd yX7_asFloat cX7_asFloat 6 (some .float)) SSc SHc.length RX7 q.1 q.2 := List.forall_mem_cons.mpr ⟨trivial, fun _ h => absurd h List.not_mem_nil⟩
theorem hc_nu_asFloat {x : UInt32 × eW} : ∀ q ∈ rs_nu_asFloat, eHc l { frames := 3, cells := 0, slots := 0, locals := 116 } ad D cA vwCl SHc SSc (eWd yX7_asFloat cX7_asFloat 6 (some .float)) RX7 cs_nu_asFloat x q := List.forall_mem_cons.mpr ⟨(fun as w k h => let ⟨v, w2, h1, h2⟩ := ok_nu_lowest as w k x h; ⟨v, w2, h1, eCal_of h2 ⟨rfl, rfl⟩ hdX7_lowest (gvX7_28 eTb_wd)⟩), fun _ h => absurd h List.not_mem_nil⟩
set_option maxRecDepth 100000 in
set_option maxHeartbeats 4000000 in
theorem go_nu_asFloat (hcx : eCx p { frames := 3, cells := 0, slots := 0, locals := 116 } s m args meth c cX7_asFloat RX7 6 ad D cA vwCl SHc SSc (eWd yX7_asFloat cX7_asFloat 6 (some .float)) (some .float)) (a0 : Int64) (a2 : Int64) (w : eW) (x : UInt32 × eW) (h : f_nu_asFloat a0 a2 w = some x) : eGq p l e { frames := 3, cells := 0, slots := 0, locals := 116 } s m args below meth c 6 ad D cA vwCl SHc rF x 0 (eEnt [.long a0, .long a2]) [] w := by
  have h : eRun SHc SSc 6 rs_nu_asFloat (eCs cs_nu_asFloat) rF CX7_asFloat [] (fun pc L st w => none) 21 true 0 [some (.long a0), none, some (.long a2), none, none, none] [] w = some x := h
  refine eGo.wk (eRun_go hcx (eLnk_all lk_nu_asFloat) (eHc_all hc_nu_asFloat) rF_ok dcX7_asFloat [] _ (fun pc L st w hK => ?_) 21 true 0 _ _ w h) (eLe_wk ⟨rfl, rfl, trivial⟩)
  cases hK
end
set_option maxRecDepth 100000 in
set_option maxHeartbeats 4000000 in
theorem ok_nu_asFloat {l : Launch} {ad : Nat → Nat} {D : va_G} {cA : Nat → ClassId} {ρ : Type} (as : List Value) (w : eW) (k : Option Value → eW → Option ρ) (x : ρ) (h : K_nu_asFloat as w k = some x) : ∃ (v : Option Value) (w2 : eW), k v w2 = some x ∧ eMet l ad D cA vwCl SHc SSc yX7_asFloat (eWd yX7_asFloat cX7_asFloat 6 (some .float)) { frames := 3, cells := 0, slots := 0, locals := 116 } as w v w2 := by
  unfold K_nu_asFloat at h
  split at h
  · rename_i a0 a2
    obtain ⟨q, h2, h3⟩ := Option.bind_eq_some_iff.mp h
    exact ⟨_, _, h3, eMet_of (by decide +kernel) rfl (by simp [eCat, Value.category]) rF_ret (fun p e s m args below meth c hcx => go_nu_asFloat hcx a0 a2 w q h2)⟩
  · cases h
def CX4_costOf : eCo := [[some (.aload_n 0), some (.iload_n 1), some (.iconst 2), some (.invokevirtual 39), none, none, some (.aload_n 0), some (.iload_n 1), some (.iconst 1), some (.invokevirtual 39), none, none, some (.imul), some (.bipush 100), none, some (.imul)],
  [some (.ireturn)]]
theorem dcX4_costOf : eDec cX4_costOf CX4_costOf := eDec_of (by decide +kernel)
def rs_fi_costOf : List (Nat × eR) := [(39, (1, 0, 2, 4))]
noncomputable def cs_fi_costOf : List (eF (Int32 × eW)) := [K_fi_fact]
noncomputable def f_fi_costOf (a1 : Int32) (w : eW) : Option (Int32 × eW) := ((f_fi_fact a1 (2 : Int32) w).bind fun p1 => ((f_fi_fact a1 (1 : Int32) p1.2).bind fun p2 => (some (((p1.1 * p2.1) * (100 : Int32)), p2.2))))
noncomputable def K_fi_costOf {ρ : Type} : eF ρ := fun as w k => match as with
  | [.ref r0, .int a1] => bif Nat.beq r0 8 then (f_fi_costOf a1 w).bind (fun p => k (some (.int p.1)) p.2) else none
  | _ => none
section
variable {p : Program} {l : Launch} {e : Env} {s : State} {m : MethodId} {args : Array Value} {below : List Frame} {meth : Method} {c : Code} {ad : Nat → Nat} {D : va_G} {cA : Nat → ClassId}
theorem lk_fi_costOf : ∀ q ∈ rs_fi_costOf, eLnk { frames := 1, cells := 0, slots := 0, locals := 22 } vwCl (eWd yX4_costOf cX4_costOf 2 (some .int)) SSc SHc.length RX4 q.1 q.2 := List.forall_mem_cons.mpr ⟨trivial, fun _ h => absurd h List.not_mem_nil⟩
theorem hc_fi_costOf {x : Int32 × eW} : ∀ q ∈ rs_fi_costOf, eHc l { frames := 1, cells := 0, slots := 0, locals := 22 } ad D cA vwCl SHc SSc (eWd yX4_costOf cX4_costOf 2 (some .int)) RX4 cs_fi_costOf x q := List.forall_mem_cons.mpr ⟨(fun as w k h => let ⟨v, w2, h1, h2⟩ := ok_fi_fact as w k x h; ⟨v, w2, h1, eCal_of h2 ⟨rfl, rfl⟩ hdX4_fact (gvX4_39 eTb_wd)⟩), fun _ h => absurd h List.not_mem_nil⟩
set_option maxRecDepth 100000 in
set_option maxHeartbeats 4000000 in
theorem go_fi_costOf (hcx : eCx p { frames := 1, cells := 0, slots := 0, locals := 22 } s m args meth c cX4_costOf RX4 2 ad D cA vwCl SHc SSc (eWd yX4_costOf cX4_costOf 2 (some .int)) (some .int)) (a1 : Int32) (w : eW) (x : Int32 × eW) (h : f_fi_costOf a1 w = some x) : eGq p l e { frames := 1, cells := 0, slots := 0, locals := 22 } s m args below meth c 2 ad D cA vwCl SHc rI x 0 (eEnt [.ref 8, .int a1]) [] w := by
  have h : eRun SHc SSc 2 rs_fi_costOf (eCs cs_fi_costOf) rI CX4_costOf [] (fun pc L st w => none) 14 true 0 [some (.ref 8), some (.int a1)] [] w = some x := h
  refine eGo.wk (eRun_go hcx (eLnk_all lk_fi_costOf) (eHc_all hc_fi_costOf) rI_ok dcX4_costOf [] _ (fun pc L st w hK => ?_) 14 true 0 _ _ w h) (eLe_wk ⟨rfl, rfl, trivial⟩)
  cases hK
end
set_option maxRecDepth 100000 in
set_option maxHeartbeats 4000000 in
theorem ok_fi_costOf {l : Launch} {ad : Nat → Nat} {D : va_G} {cA : Nat → ClassId} {ρ : Type} (as : List Value) (w : eW) (k : Option Value → eW → Option ρ) (x : ρ) (h : K_fi_costOf as w k = some x) : ∃ (v : Option Value) (w2 : eW), k v w2 = some x ∧ eMet l ad D cA vwCl SHc SSc yX4_costOf (eWd yX4_costOf cX4_costOf 2 (some .int)) { frames := 1, cells := 0, slots := 0, locals := 22 } as w v w2 := by
  unfold K_fi_costOf at h
  split at h
  · rename_i r0 a1
    obtain ⟨h1, h5⟩ := eBif h
    clear h
    have h := h5
    clear h5
    have h1 := Nat.eq_of_beq_eq_true h1
    subst h1
    obtain ⟨q, h2, h3⟩ := Option.bind_eq_some_iff.mp h
    exact ⟨_, _, h3, eMet_of (by decide +kernel) rfl (by simp [eCat, Value.category]) rI_ret (fun p e s m args below meth c hcx => go_fi_costOf hcx a1 w q h2)⟩
  · cases h
def CX7_bitsOfFloat : eCo := [[some (.fload_n 0), some (.fconst 0), some (.fcmp .l), some (.ifCond .gt 5), none, none, some (.iconst 0), some (.ireturn), some (.fload_n 0), some (.fstore_n 1), some (.bipush 127), none, some (.istore_n 2), some (.iconst 0), some (.istore_n 3), some (.iload_n 3)],
  [some (.sipush 1000), none, none, some (.if_icmp .ge 22), none, none, some (.fload_n 1), some (.fconst 2), some (.fcmp .l), some (.ifCond .lt 16), none, none, some (.fload_n 1), some (.fconst 2), some (.fdiv), some (.fstore_n 1)],
  [some (.iinc 2 1), none, none, some (.iinc 3 1), none, none, some (.goto (-23)), none, none, some (.iconst 0), some (.istore_n 3), some (.iload_n 3), some (.sipush 1000), none, none, some (.if_icmp .ge 22)],
  [none, none, some (.fload_n 1), some (.fconst 1), some (.fcmp .g), some (.ifCond .ge 16), none, none, some (.fload_n 1), some (.fconst 2), some (.fmul), some (.fstore_n 1), some (.iinc 2 (-1)), none, none, some (.iinc 3 1)],
  [none, none, some (.goto (-23)), none, none, some (.iload_n 2), some (.bipush 23), none, some (.ishl), some (.fload_n 1), some (.fconst 1), some (.fsub), some (.ldc 40), none, some (.fmul), some (.f2i)],
  [some (.iadd), some (.ireturn)]]
theorem dcX7_bitsOfFloat : eDec cX7_bitsOfFloat CX7_bitsOfFloat := eDec_of (by decide +kernel)
def rs_nu_bitsOfFloat : List (Nat × eR) := [(40, (5, 1258291200, 0, 0))]
noncomputable def cs_nu_bitsOfFloat : List (eF (Int32 × eW)) := []
noncomputable def f_nu_bitsOfFloat_L43 : Nat → UInt32 → Int32 → Int32 → eW → Option (Int32 × eW)
  | 0, _, _, _, _ => none
  | n + 1, a1, a2, a3, w => (if (1000 : Int32) ≤ a3 then (if (FP.fsub a1 FP.fconst1) &&& 0x7fffffff ≤ 0x7f800000 then (if (FP.fmul (FP.fsub a1 FP.fconst1) (1258291200 : UInt32)) &&& 0x7fffffff ≤ 0x7f800000 then (some (((a2 <<< ((23 : Int32) &&& 31)) + (FP.f2i (FP.fmul (FP.fsub a1 FP.fconst1) (1258291200 : UInt32)))), w)) else none) else none) else (if 0 ≤ (Op.cmpValue (FP.fcmp a1 FP.fconst1) CmpOp.g) then (if (FP.fsub a1 FP.fconst1) &&& 0x7fffffff ≤ 0x7f800000 then (if (FP.fmul (FP.fsub a1 FP.fconst1) (1258291200 : UInt32)) &&& 0x7fffffff ≤ 0x7f800000 then (some (((a2 <<< ((23 : Int32) &&& 31)) + (FP.f2i (FP.fmul (FP.fsub a1 FP.fconst1) (1258291200 : UInt32)))), w)) else none) else none) else (if (FP.fmul a1 FP.fconst2) &&& 0x7fffffff ≤ 0x7f800000 then (f_nu_bitsOfFloat_L43 n (FP.fmul a1 FP.fconst2) (a2 + (-1 : Int32)) (a3 + (1 : Int32)) w) else none)))
noncomputable def f_nu_bitsOfFloat_L15 : Nat → UInt32 → Int32 → Int32 → eW → Option (Int32 × eW)
  | 0, _, _, _, _ => none
  | n + 1, a1, a2, a3, w => (if (1000 : Int32) ≤ a3 then (f_nu_bitsOfFloat_L43 eFu a1 a2 (0 : Int32) w) else (if (Op.cmpValue (FP.fcmp a1 FP.fconst2) CmpOp.l) < 0 then (f_nu_bitsOfFloat_L43 eFu a1 a2 (0 : Int32) w) else (if (FP.fdiv a1 FP.fconst2) &&& 0x7fffffff ≤ 0x7f800000 then (f_nu_bitsOfFloat_L15 n (FP.fdiv a1 FP.fconst2) (a2 + (1 : Int32)) (a3 + (1 : Int32)) w) else none)))
noncomputable def f_nu_bitsOfFloat (a0 : UInt32) (w : eW) : Option (Int32 × eW) := (if 0 < (Op.cmpValue (FP.fcmp a0 FP.fconst0) CmpOp.l) then (f_nu_bitsOfFloat_L15 eFu a0 (127 : Int32) (0 : Int32) w) else (some ((0 : Int32), w)))
noncomputable def K_nu_bitsOfFloat {ρ : Type} : eF ρ := fun as w k => match as with
  | [.float a0] => (f_nu_bitsOfFloat a0 w).bind (fun p => k (some (.int p.1)) p.2)
  | _ => none
section
variable {p : Program} {l : Launch} {e : Env} {s : State} {m : MethodId} {args : Array Value} {below : List Frame} {meth : Method} {c : Code} {ad : Nat → Nat} {D : va_G} {cA : Nat → ClassId}
theorem lk_nu_bitsOfFloat : ∀ q ∈ rs_nu_bitsOfFloat, eLnk { frames := 0, cells := 0, slots := 0, locals := 0 } vwCl (eWd yX7_bitsOfFloat cX7_bitsOfFloat 4 (some .int)) SSc SHc.length RX7 q.1 q.2 := List.forall_mem_cons.mpr ⟨lkX7_40 eTb_wd, fun _ h => absurd h List.not_mem_nil⟩
theorem hc_nu_bitsOfFloat {x : Int32 × eW} : ∀ q ∈ rs_nu_bitsOfFloat, eHc l { frames := 0, cells := 0, slots := 0, locals := 0 } ad D cA vwCl SHc SSc (eWd yX7_bitsOfFloat cX7_bitsOfFloat 4 (some .int)) RX7 cs_nu_bitsOfFloat x q := List.forall_mem_cons.mpr ⟨trivial, fun _ h => absurd h List.not_mem_nil⟩
noncomputable def kk_nu_bitsOfFloat_43 (n : Nat) : eK (Int32 × eW) := fun pc L st w => bif Nat.beq pc 43 then ((lF L 1).bind fun a1 => (lI L 2).bind fun a2 => (lI L 3).bind fun a3 => sE st (f_nu_bitsOfFloat_L43 n a1 a2 a3 w)) else none
set_option maxRecDepth 100000 in
set_option maxHeartbeats 4000000 in
theorem go_nu_bitsOfFloat_L43 (hcx : eCx p { frames := 0, cells := 0, slots := 0, locals := 0 } s m args meth c cX7_bitsOfFloat RX7 4 ad D cA vwCl SHc SSc (eWd yX7_bitsOfFloat cX7_bitsOfFloat 4 (some .int)) (some .int)) {x : Int32 × eW} : ∀ (n : Nat) (a1 : UInt32) (a2 : Int32) (a3 : Int32) (w : eW), f_nu_bitsOfFloat_L43  n a1 a2 a3 w = some x → eGq p l e { frames := 0, cells := 0, slots := 0, locals := 0 } s m args below meth c 4 ad D cA vwCl SHc rI x 43 [none, some (.float a1), some (.int a2), some (.int a3)] [] w := by
  intro n
  induction n with
  | zero => intro a1 a2 a3 w h; exact nomatch (show (none : Option (Int32 × eW)) = some x from h)
  | succ n ih =>
    intro a1 a2 a3 w h
    have h : eRun SHc SSc 4 rs_nu_bitsOfFloat (eCs cs_nu_bitsOfFloat) rI CX7_bitsOfFloat [15, 43] (kk_nu_bitsOfFloat_43  n) 20 true 43 [none, some (.float a1), some (.int a2), some (.int a3)] [] w = some x := h
    refine eRun_go hcx (eLnk_all lk_nu_bitsOfFloat) (eHc_all hc_nu_bitsOfFloat) rI_ok dcX7_bitsOfFloat [15, 43] _ (fun pc L st w hK => ?_) 20 true 43 _ _ w h
    unfold kk_nu_bitsOfFloat_43 at hK
    rcases eCut hK with ⟨hpc, hK⟩ | hK
    · subst hpc
      obtain ⟨a1, e1, hK_1⟩ := lF_some hK
      obtain ⟨a2, e2, hK_2⟩ := lI_some hK_1
      obtain ⟨a3, e3, hK_3⟩ := lI_some hK_2
      obtain ⟨hst9, hK_4⟩ := sE_some hK_3
      subst hst9
      exact eGo.wk (ih a1 a2 a3 w hK_4) (eLe_wk ⟨e1, e2, e3, trivial⟩)
    cases hK
noncomputable def kk_nu_bitsOfFloat_15 (n : Nat) : eK (Int32 × eW) := fun pc L st w => bif Nat.beq pc 43 then ((lF L 1).bind fun a1 => (lI L 2).bind fun a2 => (lI L 3).bind fun a3 => sE st (f_nu_bitsOfFloat_L43 eFu a1 a2 a3 w)) else (bif Nat.beq pc 15 then ((lF L 1).bind fun a1 => (lI L 2).bind fun a2 => (lI L 3).bind fun a3 => sE st (f_nu_bitsOfFloat_L15 n a1 a2 a3 w)) else none)
set_option maxRecDepth 100000 in
set_option maxHeartbeats 4000000 in
theorem go_nu_bitsOfFloat_L15 (hcx : eCx p { frames := 0, cells := 0, slots := 0, locals := 0 } s m args meth c cX7_bitsOfFloat RX7 4 ad D cA vwCl SHc SSc (eWd yX7_bitsOfFloat cX7_bitsOfFloat 4 (some .int)) (some .int)) {x : Int32 × eW} : ∀ (n : Nat) (a1 : UInt32) (a2 : Int32) (a3 : Int32) (w : eW), f_nu_bitsOfFloat_L15  n a1 a2 a3 w = some x → eGq p l e { frames := 0, cells := 0, slots := 0, locals := 0 } s m args below meth c 4 ad D cA vwCl SHc rI x 15 [none, some (.float a1), some (.int a2), some (.int a3)] [] w := by
  intro n
  induction n with
  | zero => intro a1 a2 a3 w h; exact nomatch (show (none : Option (Int32 × eW)) = some x from h)
  | succ n ih =>
    intro a1 a2 a3 w h
    have h : eRun SHc SSc 4 rs_nu_bitsOfFloat (eCs cs_nu_bitsOfFloat) rI CX7_bitsOfFloat [15, 43] (kk_nu_bitsOfFloat_15  n) 17 true 15 [none, some (.float a1), some (.int a2), some (.int a3)] [] w = some x := h
    refine eRun_go hcx (eLnk_all lk_nu_bitsOfFloat) (eHc_all hc_nu_bitsOfFloat) rI_ok dcX7_bitsOfFloat [15, 43] _ (fun pc L st w hK => ?_) 17 true 15 _ _ w h
    unfold kk_nu_bitsOfFloat_15 at hK
    rcases eCut hK with ⟨hpc, hK⟩ | hK
    · subst hpc
      obtain ⟨a1, e1, hK_1⟩ := lF_some hK
      obtain ⟨a2, e2, hK_2⟩ := lI_some hK_1
      obtain ⟨a3, e3, hK_3⟩ := lI_some hK_2
      obtain ⟨hst9, hK_4⟩ := sE_some hK_3
      subst hst9
      exact eGo.wk (go_nu_bitsOfFloat_L43 hcx  eFu a1 a2 a3 w hK_4) (eLe_wk ⟨e1, e2, e3, trivial⟩)
    rcases eCut hK with ⟨hpc, hK⟩ | hK
    · subst hpc
      obtain ⟨a1, e1, hK_1⟩ := lF_some hK
      obtain ⟨a2, e2, hK_2⟩ := lI_some hK_1
      obtain ⟨a3, e3, hK_3⟩ := lI_some hK_2
      obtain ⟨hst9, hK_4⟩ := sE_some hK_3
      subst hst9
      exact eGo.wk (ih a1 a2 a3 w hK_4) (eLe_wk ⟨e1, e2, e3, trivial⟩)
    cases hK
set_option maxRecDepth 100000 in
set_option maxHeartbeats 4000000 in
theorem go_nu_bitsOfFloat (hcx : eCx p { frames := 0, cells := 0, slots := 0, locals := 0 } s m args meth c cX7_bitsOfFloat RX7 4 ad D cA vwCl SHc SSc (eWd yX7_bitsOfFloat cX7_bitsOfFloat 4 (some .int)) (some .int)) (a0 : UInt32) (w : eW) (x : Int32 × eW) (h : f_nu_bitsOfFloat a0 w = some x) : eGq p l e { frames := 0, cells := 0, slots := 0, locals := 0 } s m args below meth c 4 ad D cA vwCl SHc rI x 0 (eEnt [.float a0]) [] w := by
  have h : eRun SHc SSc 4 rs_nu_bitsOfFloat (eCs cs_nu_bitsOfFloat) rI CX7_bitsOfFloat [15, 43] (fun pc L st w => bif Nat.beq pc 15 then ((lF L 1).bind fun a1 => (lI L 2).bind fun a2 => (lI L 3).bind fun a3 => sE st (f_nu_bitsOfFloat_L15 eFu a1 a2 a3 w)) else none) 13 true 0 [some (.float a0), none, none, none] [] w = some x := h
  refine eGo.wk (eRun_go hcx (eLnk_all lk_nu_bitsOfFloat) (eHc_all hc_nu_bitsOfFloat) rI_ok dcX7_bitsOfFloat [15, 43] _ (fun pc L st w hK => ?_) 13 true 0 _ _ w h) (eLe_wk ⟨rfl, trivial⟩)
  rcases eCut hK with ⟨hpc, hK⟩ | hK
  · subst hpc
    obtain ⟨a1, e1, hK_1⟩ := lF_some hK
    obtain ⟨a2, e2, hK_2⟩ := lI_some hK_1
    obtain ⟨a3, e3, hK_3⟩ := lI_some hK_2
    obtain ⟨hst9, hK_4⟩ := sE_some hK_3
    subst hst9
    exact eGo.wk (go_nu_bitsOfFloat_L15 hcx  eFu a1 a2 a3 w hK_4) (eLe_wk ⟨e1, e2, e3, trivial⟩)
  cases hK
end
set_option maxRecDepth 100000 in
set_option maxHeartbeats 4000000 in
theorem ok_nu_bitsOfFloat {l : Launch} {ad : Nat → Nat} {D : va_G} {cA : Nat → ClassId} {ρ : Type} (as : List Value) (w : eW) (k : Option Value → eW → Option ρ) (x : ρ) (h : K_nu_bitsOfFloat as w k = some x) : ∃ (v : Option Value) (w2 : eW), k v w2 = some x ∧ eMet l ad D cA vwCl SHc SSc yX7_bitsOfFloat (eWd yX7_bitsOfFloat cX7_bitsOfFloat 4 (some .int)) { frames := 0, cells := 0, slots := 0, locals := 0 } as w v w2 := by
  unfold K_nu_bitsOfFloat at h
  split at h
  · rename_i a0
    obtain ⟨q, h2, h3⟩ := Option.bind_eq_some_iff.mp h
    exact ⟨_, _, h3, eMet_of (by decide +kernel) rfl (by simp [eCat, Value.category]) rI_ret (fun p e s m args below meth c hcx => go_nu_bitsOfFloat hcx a0 w q h2)⟩
  · cases h
def CX11_multiple : eCo := [[some (.aload_n 0), some (.iload_n 1), some (.iload_n 2), some (.invokevirtual 129), none, none, some (.ifCond .eq 14), none, none, some (.aload_n 0), some (.getfield 28), none, none, some (.iload_n 1), some (.invokevirtual 192), none],
  [none, some (.ifCond .ne 6), none, none, some (.bipush (-2)), none, some (.ireturn), some (.aload_n 0), some (.iload_n 2), some (.invokevirtual 138), none, none, some (.aload_n 0), some (.getfield 35), none, none],
  [some (.iload_n 1), some (.invokevirtual 141), none, none, some (.aload_n 0), some (.getfield 35), none, none, some (.getfield 145), none, none, some (.invokestatic 308), none, none, some (.fstore_n 3), some (.aload_n 0)],
  [some (.getfield 28), none, none, some (.iload_n 1), some (.invokevirtual 312), none, none, some (.istore 4), none, some (.iload 4), none, some (.ifCond .le 14), none, none, some (.fload_n 3), some (.iload 4)],
  [none, some (.i2f), some (.fdiv), some (.invokestatic 315), none, none, some (.goto 5), none, none, some (.bipush (-2)), none, some (.ireturn)]]
theorem dcX11_multiple : eDec cX11_multiple CX11_multiple := eDec_of (by decide +kernel)
def rs_xx_multiple : List (Nat × eR) := [(28, (0, 10, 2, 2)), (35, (0, 10, 3, 2)), (129, (1, 0, 2, 10)), (138, (1, 2, 1, 10)), (141, (1, 3, 1, 3)), (145, (0, 3, 5, 1)), (192, (1, 1, 1, 4)), (308, (1, 4, 2, -1)), (312, (1, 5, 1, 4)), (315, (1, 6, 1, -1))]
noncomputable def cs_xx_multiple : List (eF (Int32 × eW)) := [K_xx_isAsked, K_fi_isClass, K_xx_pour, K_fa_aboveOf, K_nu_asFloat, K_fi_costOf, K_nu_bitsOfFloat]
noncomputable def f_xx_multiple (a1 : Int32) (a2 : Int32) (w : eW) : Option (Int32 × eW) := ((f_xx_isAsked a1 a2 w).bind fun p1 => (if p1.1 = 0 then (some ((-2 : Int32), p1.2)) else ((f_fi_isClass a1 p1.2).bind fun p2 => (if ¬ p2.1 = 0 then ((f_xx_pour a2 p2.2).bind fun w3 => ((f_fa_aboveOf a1 w3).bind fun p4 => ((f_nu_asFloat p4.1 (p4.2.2 24 5) p4.2).bind fun p5 => ((f_fi_costOf a1 p5.2).bind fun p6 => (if p6.1 ≤ 0 then (some ((-2 : Int32), p6.2)) else (if (FP.fdiv p5.1 (FP.i2f p6.1)) &&& 0x7fffffff ≤ 0x7f800000 then ((f_nu_bitsOfFloat (FP.fdiv p5.1 (FP.i2f p6.1)) p6.2).bind fun p7 => (some (p7.1, p7.2))) else none)))))) else (some ((-2 : Int32), p2.2))))))
noncomputable def K_xx_multiple {ρ : Type} : eF ρ := fun as w k => match as with
  | [.ref r0, .int a1, .int a2] => bif Nat.beq r0 38 then (f_xx_multiple a1 a2 w).bind (fun p => k (some (.int p.1)) p.2) else none
  | _ => none
section
variable {p : Program} {l : Launch} {e : Env} {s : State} {m : MethodId} {args : Array Value} {below : List Frame} {meth : Method} {c : Code} {ad : Nat → Nat} {D : va_G} {cA : Nat → ClassId}
theorem lk_xx_multiple : ∀ q ∈ rs_xx_multiple, eLnk { frames := 5, cells := 0, slots := 0, locals := 159 } vwCl (eWd yX11_multiple cX11_multiple 5 (some .int)) SSc SHc.length RX11 q.1 q.2 := List.forall_mem_cons.mpr ⟨lkX11_28 eTb_wd, List.forall_mem_cons.mpr ⟨lkX11_35 eTb_wd, List.forall_mem_cons.mpr ⟨trivial, List.forall_mem_cons.mpr ⟨trivial, List.forall_mem_cons.mpr ⟨trivial, List.forall_mem_cons.mpr ⟨lkX11_145 eTb_wd, List.forall_mem_cons.mpr ⟨trivial, List.forall_mem_cons.mpr ⟨trivial, List.forall_mem_cons.mpr ⟨trivial, List.forall_mem_cons.mpr ⟨trivial, fun _ h => absurd h List.not_mem_nil⟩⟩⟩⟩⟩⟩⟩⟩⟩⟩
theorem hc_xx_multiple {x : Int32 × eW} : ∀ q ∈ rs_xx_multiple, eHc l { frames := 5, cells := 0, slots := 0, locals := 159 } ad D cA vwCl SHc SSc (eWd yX11_multiple cX11_multiple 5 (some .int)) RX11 cs_xx_multiple x q := List.forall_mem_cons.mpr ⟨trivial, List.forall_mem_cons.mpr ⟨trivial, List.forall_mem_cons.mpr ⟨(fun as w k h => let ⟨v, w2, h1, h2⟩ := ok_xx_isAsked as w k x h; ⟨v, w2, h1, eCal_of h2 ⟨rfl, rfl⟩ hdX11_isAsked (gvX11_129 eTb_wd)⟩), List.forall_mem_cons.mpr ⟨(fun as w k h => let ⟨v, w2, h1, h2⟩ := ok_xx_pour as w k x h; ⟨v, w2, h1, eCal_of h2 ⟨rfl, rfl⟩ hdX11_pour (gvX11_138 eTb_wd)⟩), List.forall_mem_cons.mpr ⟨(fun as w k h => let ⟨v, w2, h1, h2⟩ := ok_fa_aboveOf as w k x h; ⟨v, w2, h1, eCal_of h2 ⟨rfl, rfl⟩ hdX3_aboveOf (gvX11_141 eTb_wd)⟩), List.forall_mem_cons.mpr ⟨trivial, List.forall_mem_cons.mpr ⟨(fun as w k h => let ⟨v, w2, h1, h2⟩ := ok_fi_isClass as w k x h; ⟨v, w2, h1, eCal_of h2 ⟨rfl, rfl⟩ hdX4_isClass (gvX11_192 eTb_wd)⟩), List.forall_mem_cons.mpr ⟨(fun as w k h => let ⟨v, w2, h1, h2⟩ := ok_nu_asFloat as w k x h; ⟨v, w2, h1, eCal_of h2 ⟨rfl, rfl⟩ hdX7_asFloat (gvX11_308 eTb_wd)⟩), List.forall_mem_cons.mpr ⟨(fun as w k h => let ⟨v, w2, h1, h2⟩ := ok_fi_costOf as w k x h; ⟨v, w2, h1, eCal_of h2 ⟨rfl, rfl⟩ hdX4_costOf (gvX11_312 eTb_wd)⟩), List.forall_mem_cons.mpr ⟨(fun as w k h => let ⟨v, w2, h1, h2⟩ := ok_nu_bitsOfFloat as w k x h; ⟨v, w2, h1, eCal_of h2 ⟨rfl, rfl⟩ hdX7_bitsOfFloat (gvX11_315 eTb_wd)⟩), fun _ h => absurd h List.not_mem_nil⟩⟩⟩⟩⟩⟩⟩⟩⟩⟩
set_option maxRecDepth 100000 in
set_option maxHeartbeats 4000000 in
theorem go_xx_multiple (hcx : eCx p { frames := 5, cells := 0, slots := 0, locals := 159 } s m args meth c cX11_multiple RX11 5 ad D cA vwCl SHc SSc (eWd yX11_multiple cX11_multiple 5 (some .int)) (some .int)) (a1 : Int32) (a2 : Int32) (w : eW) (x : Int32 × eW) (h : f_xx_multiple a1 a2 w = some x) : eGq p l e { frames := 5, cells := 0, slots := 0, locals := 159 } s m args below meth c 5 ad D cA vwCl SHc rI x 0 (eEnt [.ref 38, .int a1, .int a2]) [] w := by
  have h : eRun SHc SSc 5 rs_xx_multiple (eCs cs_xx_multiple) rI CX11_multiple [] (fun pc L st w => none) 38 true 0 [some (.ref 38), some (.int a1), some (.int a2), none, none] [] w = some x := h
  refine eGo.wk (eRun_go hcx (eLnk_all lk_xx_multiple) (eHc_all hc_xx_multiple) rI_ok dcX11_multiple [] _ (fun pc L st w hK => ?_) 38 true 0 _ _ w h) (eLe_wk ⟨rfl, rfl, rfl, trivial⟩)
  cases hK
end
set_option maxRecDepth 100000 in
set_option maxHeartbeats 4000000 in
theorem ok_xx_multiple {l : Launch} {ad : Nat → Nat} {D : va_G} {cA : Nat → ClassId} {ρ : Type} (as : List Value) (w : eW) (k : Option Value → eW → Option ρ) (x : ρ) (h : K_xx_multiple as w k = some x) : ∃ (v : Option Value) (w2 : eW), k v w2 = some x ∧ eMet l ad D cA vwCl SHc SSc yX11_multiple (eWd yX11_multiple cX11_multiple 5 (some .int)) { frames := 5, cells := 0, slots := 0, locals := 159 } as w v w2 := by
  unfold K_xx_multiple at h
  split at h
  · rename_i r0 a1 a2
    obtain ⟨h1, h5⟩ := eBif h
    clear h
    have h := h5
    clear h5
    have h1 := Nat.eq_of_beq_eq_true h1
    subst h1
    obtain ⟨q, h2, h3⟩ := Option.bind_eq_some_iff.mp h
    exact ⟨_, _, h3, eMet_of (by decide +kernel) rfl (by simp [eCat, Value.category]) rI_ret (fun p e s m args below meth c hcx => go_xx_multiple hcx a1 a2 w q h2)⟩
  · cases h
