def CX4_fact : eCo := [[some (.iload_n 1), some (.ifCond .lt 35), none, none, some (.iload_n 1), some (.aload_n 0), some (.getfield 15), none, none, some (.if_icmp .ge 27), none, none, some (.iload_n 2), some (.ifCond .lt 23), none, none],
  [some (.iload_n 2), some (.bipush 10), none, some (.if_icmp .ge 17), none, none, some (.aload_n 0), some (.getfield 9), none, none, some (.iload_n 1), some (.bipush 10), none, some (.imul), some (.iload_n 2), some (.iadd)],
  [some (.iaload), some (.goto 4), none, none, some (.iconst 0), some (.ireturn)]]
theorem dcX4_fact : eDec cX4_fact CX4_fact := eDec_of (by decide +kernel)
def rs_dr_fact : List (Nat × eR) := [(9, (0, 4, 3, 2)), (15, (0, 4, 0, 0))]
noncomputable def cs_dr_fact : List (eF (Int32 × eW)) := []
noncomputable def f_dr_fact (a1 : Int32) (a2 : Int32) (w : eW) : Option (Int32 × eW) := (if a1 < 0 then (some ((0 : Int32), w)) else (if (w.1 3 0) ≤ a1 then (some ((0 : Int32), w)) else (if a2 < 0 then (some ((0 : Int32), w)) else (if (10 : Int32) ≤ a2 then (some ((0 : Int32), w)) else (eChk ((a1 * (10 : Int32)) + a2) 120 (some ((w.1 2 (Int32.toNatClampNeg ((a1 * (10 : Int32)) + a2))), w)))))))
noncomputable def K_dr_fact {ρ : Type} : eF ρ := fun as w k => match as with
  | [.ref r0, .int a1, .int a2] => bif Nat.beq r0 3 then (f_dr_fact a1 a2 w).bind (fun p => k (some (.int p.1)) p.2) else none
  | _ => none
section
variable {p : Program} {l : Launch} {e : Env} {s : State} {m : MethodId} {args : Array Value} {below : List Frame} {meth : Method} {c : Code} {ad : Nat → Nat} {D : va_G} {cA : Nat → ClassId}
theorem lk_dr_fact : ∀ q ∈ rs_dr_fact, eLnk { frames := 0, cells := 0, slots := 0, locals := 0 } vwCl (eWd yX4_fact cX4_fact 3 (some .int)) SSc SHc.length RX4 q.1 q.2 := List.forall_mem_cons.mpr ⟨lkX4_9 eTb_wd, List.forall_mem_cons.mpr ⟨lkX4_15 eTb_wd, fun _ h => absurd h List.not_mem_nil⟩⟩
theorem hc_dr_fact {x : Int32 × eW} : ∀ q ∈ rs_dr_fact, eHc l { frames := 0, cells := 0, slots := 0, locals := 0 } ad D cA vwCl SHc SSc (eWd yX4_fact cX4_fact 3 (some .int)) RX4 cs_dr_fact x q := List.forall_mem_cons.mpr ⟨trivial, List.forall_mem_cons.mpr ⟨trivial, fun _ h => absurd h List.not_mem_nil⟩⟩
set_option maxRecDepth 100000 in
set_option maxHeartbeats 4000000 in
theorem go_dr_fact (hcx : eCx p { frames := 0, cells := 0, slots := 0, locals := 0 } s m args meth c cX4_fact RX4 3 ad D cA vwCl SHc SSc (eWd yX4_fact cX4_fact 3 (some .int)) (some .int)) (a1 : Int32) (a2 : Int32) (w : eW) (x : Int32 × eW) (h : f_dr_fact a1 a2 w = some x) : eGq p l e { frames := 0, cells := 0, slots := 0, locals := 0 } s m args below meth c 3 ad D cA vwCl SHc rI x 0 (eEnt [.ref 3, .int a1, .int a2]) [] w := by
  have h : eRun SHc SSc 3 rs_dr_fact (eCs cs_dr_fact) rI CX4_fact [] (fun pc L st w => none) 23 true 0 [some (.ref 3), some (.int a1), some (.int a2)] [] w = some x := h
  refine eGo.wk (eRun_go hcx (eLnk_all lk_dr_fact) (eHc_all hc_dr_fact) rI_ok dcX4_fact [] _ (fun pc L st w hK => ?_) 23 true 0 _ _ w h) (eLe_wk ⟨rfl, rfl, rfl, trivial⟩)
  cases hK
end
set_option maxRecDepth 100000 in
set_option maxHeartbeats 4000000 in
theorem ok_dr_fact {l : Launch} {ad : Nat → Nat} {D : va_G} {cA : Nat → ClassId} {ρ : Type} (as : List Value) (w : eW) (k : Option Value → eW → Option ρ) (x : ρ) (h : K_dr_fact as w k = some x) : ∃ (v : Option Value) (w2 : eW), k v w2 = some x ∧ eMet l ad D cA vwCl SHc SSc yX4_fact (eWd yX4_fact cX4_fact 3 (some .int)) { frames := 0, cells := 0, slots := 0, locals := 0 } as w v w2 := by
  unfold K_dr_fact at h
  split at h
  · rename_i r0 a1 a2
    obtain ⟨h1, h5⟩ := eBif h
    clear h
    have h := h5
    clear h5
    have h1 := Nat.eq_of_beq_eq_true h1
    subst h1
    obtain ⟨q, h2, h3⟩ := Option.bind_eq_some_iff.mp h
    exact ⟨_, _, h3, eMet_of (by decide +kernel) rfl (by simp [eCat, Value.category]) rI_ret (fun p e s m args below meth c hcx => go_dr_fact hcx a1 a2 w q h2)⟩
  · cases h
def CX4_countOf : eCo := [[some (.iconst 0), some (.istore_n 2), some (.iconst 0), some (.istore_n 3), some (.iload_n 3), some (.aload_n 0), some (.getfield 15), none, none, some (.if_icmp .ge 27), none, none, some (.iload_n 2), some (.aload_n 0), some (.iload_n 3), some (.iconst 0)],
  [some (.invokevirtual 39), none, none, some (.iload_n 1), some (.if_icmp .ne 7), none, none, some (.iconst 1), some (.goto 4), none, none, some (.iconst 0), some (.iadd), some (.istore_n 2), some (.iinc 3 1), none],
  [none, some (.goto (-29)), none, none, some (.iload_n 2), some (.ireturn)]]
theorem dcX4_countOf : eDec cX4_countOf CX4_countOf := eDec_of (by decide +kernel)
def rs_dr_countOf : List (Nat × eR) := [(15, (0, 4, 0, 0)), (39, (1, 0, 2, 4))]
noncomputable def cs_dr_countOf : List (eF (Int32 × eW)) := [K_dr_fact]
noncomputable def f_dr_countOf_L4 : Nat → Int32 → Int32 → Int32 → eW → Option (Int32 × eW)
  | 0, _, _, _, _ => none
  | n + 1, a1, a2, a3, w => (if (w.1 3 0) ≤ a3 then (some (a2, w)) else ((f_dr_fact a3 (0 : Int32) w).bind fun p1 => (if ¬ p1.1 = a1 then (f_dr_countOf_L4 n a1 (a2 + (0 : Int32)) (a3 + (1 : Int32)) p1.2) else (f_dr_countOf_L4 n a1 (a2 + (1 : Int32)) (a3 + (1 : Int32)) p1.2))))
noncomputable def f_dr_countOf (a1 : Int32) (w : eW) : Option (Int32 × eW) := (f_dr_countOf_L4 eFu a1 (0 : Int32) (0 : Int32) w)
noncomputable def K_dr_countOf {ρ : Type} : eF ρ := fun as w k => match as with
  | [.ref r0, .int a1] => bif Nat.beq r0 3 then (f_dr_countOf a1 w).bind (fun p => k (some (.int p.1)) p.2) else none
  | _ => none
section
variable {p : Program} {l : Launch} {e : Env} {s : State} {m : MethodId} {args : Array Value} {below : List Frame} {meth : Method} {c : Code} {ad : Nat → Nat} {D : va_G} {cA : Nat → ClassId}
theorem lk_dr_countOf : ∀ q ∈ rs_dr_countOf, eLnk { frames := 1, cells := 0, slots := 0, locals := 22 } vwCl (eWd yX4_countOf cX4_countOf 4 (some .int)) SSc SHc.length RX4 q.1 q.2 := List.forall_mem_cons.mpr ⟨lkX4_15 eTb_wd, List.forall_mem_cons.mpr ⟨trivial, fun _ h => absurd h List.not_mem_nil⟩⟩
theorem hc_dr_countOf {x : Int32 × eW} : ∀ q ∈ rs_dr_countOf, eHc l { frames := 1, cells := 0, slots := 0, locals := 22 } ad D cA vwCl SHc SSc (eWd yX4_countOf cX4_countOf 4 (some .int)) RX4 cs_dr_countOf x q := List.forall_mem_cons.mpr ⟨trivial, List.forall_mem_cons.mpr ⟨(fun as w k h => let ⟨v, w2, h1, h2⟩ := ok_dr_fact as w k x h; ⟨v, w2, h1, eCal_of h2 ⟨rfl, rfl⟩ hdX4_fact (gvX4_39 eTb_wd)⟩), fun _ h => absurd h List.not_mem_nil⟩⟩
noncomputable def kk_dr_countOf_4 (n : Nat) : eK (Int32 × eW) := fun pc L st w => bif Nat.beq pc 4 then (lR L 0 3 ((lI L 1).bind fun a1 => (lI L 2).bind fun a2 => (lI L 3).bind fun a3 => sE st (f_dr_countOf_L4 n a1 a2 a3 w))) else none
set_option maxRecDepth 100000 in
set_option maxHeartbeats 4000000 in
theorem go_dr_countOf_L4 (hcx : eCx p { frames := 1, cells := 0, slots := 0, locals := 22 } s m args meth c cX4_countOf RX4 4 ad D cA vwCl SHc SSc (eWd yX4_countOf cX4_countOf 4 (some .int)) (some .int)) {x : Int32 × eW} : ∀ (n : Nat) (a1 : Int32) (a2 : Int32) (a3 : Int32) (w : eW), f_dr_countOf_L4  n a1 a2 a3 w = some x → eGq p l e { frames := 1, cells := 0, slots := 0, locals := 22 } s m args below meth c 4 ad D cA vwCl SHc rI x 4 [some (.ref 3), some (.int a1), some (.int a2), some (.int a3)] [] w := by
  intro n
  induction n with
  | zero => intro a1 a2 a3 w h; exact nomatch (show (none : Option (Int32 × eW)) = some x from h)
  | succ n ih =>
    intro a1 a2 a3 w h
    have h : eRun SHc SSc 4 rs_dr_countOf (eCs cs_dr_countOf) rI CX4_countOf [4] (kk_dr_countOf_4  n) 20 true 4 [some (.ref 3), some (.int a1), some (.int a2), some (.int a3)] [] w = some x := h
    refine eRun_go hcx (eLnk_all lk_dr_countOf) (eHc_all hc_dr_countOf) rI_ok dcX4_countOf [4] _ (fun pc L st w hK => ?_) 20 true 4 _ _ w h
    unfold kk_dr_countOf_4 at hK
    rcases eCut hK with ⟨hpc, hK⟩ | hK
    · subst hpc
      obtain ⟨e0, hK_1⟩ := lR_some hK
      obtain ⟨a1, e1, hK_2⟩ := lI_some hK_1
      obtain ⟨a2, e2, hK_3⟩ := lI_some hK_2
      obtain ⟨a3, e3, hK_4⟩ := lI_some hK_3
      obtain ⟨hst9, hK_5⟩ := sE_some hK_4
      subst hst9
      exact eGo.wk (ih a1 a2 a3 w hK_5) (eLe_wk ⟨e0, e1, e2, e3, trivial⟩)
    cases hK
set_option maxRecDepth 100000 in
set_option maxHeartbeats 4000000 in
theorem go_dr_countOf (hcx : eCx p { frames := 1, cells := 0, slots := 0, locals := 22 } s m args meth c cX4_countOf RX4 4 ad D cA vwCl SHc SSc (eWd yX4_countOf cX4_countOf 4 (some .int)) (some .int)) (a1 : Int32) (w : eW) (x : Int32 × eW) (h : f_dr_countOf a1 w = some x) : eGq p l e { frames := 1, cells := 0, slots := 0, locals := 22 } s m args below meth c 4 ad D cA vwCl SHc rI x 0 (eEnt [.ref 3, .int a1]) [] w := by
  have h : eRun SHc SSc 4 rs_dr_countOf (eCs cs_dr_countOf) rI CX4_countOf [4] (fun pc L st w => bif Nat.beq pc 4 then (lR L 0 3 ((lI L 1).bind fun a1 => (lI L 2).bind fun a2 => (lI L 3).bind fun a3 => sE st (f_dr_countOf_L4 eFu a1 a2 a3 w))) else none) 7 true 0 [some (.ref 3), some (.int a1), none, none] [] w = some x := h
  refine eGo.wk (eRun_go hcx (eLnk_all lk_dr_countOf) (eHc_all hc_dr_countOf) rI_ok dcX4_countOf [4] _ (fun pc L st w hK => ?_) 7 true 0 _ _ w h) (eLe_wk ⟨rfl, rfl, trivial⟩)
  rcases eCut hK with ⟨hpc, hK⟩ | hK
  · subst hpc
    obtain ⟨e0, hK_1⟩ := lR_some hK
    obtain ⟨a1, e1, hK_2⟩ := lI_some hK_1
    obtain ⟨a2, e2, hK_3⟩ := lI_some hK_2
    obtain ⟨a3, e3, hK_4⟩ := lI_some hK_3
    obtain ⟨hst9, hK_5⟩ := sE_some hK_4
    subst hst9
    exact eGo.wk (go_dr_countOf_L4 hcx  eFu a1 a2 a3 w hK_5) (eLe_wk ⟨e0, e1, e2, e3, trivial⟩)
  cases hK
end
set_option maxRecDepth 100000 in
set_option maxHeartbeats 4000000 in
theorem ok_dr_countOf {l : Launch} {ad : Nat → Nat} {D : va_G} {cA : Nat → ClassId} {ρ : Type} (as : List Value) (w : eW) (k : Option Value → eW → Option ρ) (x : ρ) (h : K_dr_countOf as w k = some x) : ∃ (v : Option Value) (w2 : eW), k v w2 = some x ∧ eMet l ad D cA vwCl SHc SSc yX4_countOf (eWd yX4_countOf cX4_countOf 4 (some .int)) { frames := 1, cells := 0, slots := 0, locals := 22 } as w v w2 := by
  unfold K_dr_countOf at h
  split at h
  · rename_i r0 a1
    obtain ⟨h1, h5⟩ := eBif h
    clear h
    have h := h5
    clear h5
    have h1 := Nat.eq_of_beq_eq_true h1
    subst h1
    obtain ⟨q, h2, h3⟩ := Option.bind_eq_some_iff.mp h
    exact ⟨_, _, h3, eMet_of (by decide +kernel) rfl (by simp [eCat, Value.category]) rI_ret (fun p e s m args below meth c hcx => go_dr_countOf hcx a1 w q h2)⟩
  · cases h
def CX8_mostOf : eCo := [[some (.iload_n 0), some (.iconst 2), some (.if_icmp .ne 8), none, none, some (.bipush 6), none, some (.goto 4), none, none, some (.iconst 3), some (.ireturn)]]
theorem dcX8_mostOf : eDec cX8_mostOf CX8_mostOf := eDec_of (by decide +kernel)
def rs_re_mostOf : List (Nat × eR) := []
noncomputable def cs_re_mostOf : List (eF (Int32 × eW)) := []
noncomputable def f_re_mostOf (a0 : Int32) (w : eW) : Option (Int32 × eW) := (if ¬ a0 = (2 : Int32) then (some ((3 : Int32), w)) else (some ((6 : Int32), w)))
noncomputable def K_re_mostOf {ρ : Type} : eF ρ := fun as w k => match as with
  | [.int a0] => (f_re_mostOf a0 w).bind (fun p => k (some (.int p.1)) p.2)
  | _ => none
section
variable {p : Program} {l : Launch} {e : Env} {s : State} {m : MethodId} {args : Array Value} {below : List Frame} {meth : Method} {c : Code} {ad : Nat → Nat} {D : va_G} {cA : Nat → ClassId}
theorem lk_re_mostOf : ∀ q ∈ rs_re_mostOf, eLnk { frames := 0, cells := 0, slots := 0, locals := 0 } vwCl (eWd yX8_mostOf cX8_mostOf 1 (some .int)) SSc SHc.length RX8 q.1 q.2 := fun _ h => absurd h List.not_mem_nil
theorem hc_re_mostOf {x : Int32 × eW} : ∀ q ∈ rs_re_mostOf, eHc l { frames := 0, cells := 0, slots := 0, locals := 0 } ad D cA vwCl SHc SSc (eWd yX8_mostOf cX8_mostOf 1 (some .int)) RX8 cs_re_mostOf x q := fun _ h => absurd h List.not_mem_nil
set_option maxRecDepth 100000 in
set_option maxHeartbeats 4000000 in
theorem go_re_mostOf (hcx : eCx p { frames := 0, cells := 0, slots := 0, locals := 0 } s m args meth c cX8_mostOf RX8 1 ad D cA vwCl SHc SSc (eWd yX8_mostOf cX8_mostOf 1 (some .int)) (some .int)) (a0 : Int32) (w : eW) (x : Int32 × eW) (h : f_re_mostOf a0 w = some x) : eGq p l e { frames := 0, cells := 0, slots := 0, locals := 0 } s m args below meth c 1 ad D cA vwCl SHc rI x 0 (eEnt [.int a0]) [] w := by
  have h : eRun SHc SSc 1 rs_re_mostOf (eCs cs_re_mostOf) rI CX8_mostOf [] (fun pc L st w => none) 8 true 0 [some (.int a0)] [] w = some x := h
  refine eGo.wk (eRun_go hcx (eLnk_all lk_re_mostOf) (eHc_all hc_re_mostOf) rI_ok dcX8_mostOf [] _ (fun pc L st w hK => ?_) 8 true 0 _ _ w h) (eLe_wk ⟨rfl, trivial⟩)
  cases hK
end
set_option maxRecDepth 100000 in
set_option maxHeartbeats 4000000 in
theorem ok_re_mostOf {l : Launch} {ad : Nat → Nat} {D : va_G} {cA : Nat → ClassId} {ρ : Type} (as : List Value) (w : eW) (k : Option Value → eW → Option ρ) (x : ρ) (h : K_re_mostOf as w k = some x) : ∃ (v : Option Value) (w2 : eW), k v w2 = some x ∧ eMet l ad D cA vwCl SHc SSc yX8_mostOf (eWd yX8_mostOf cX8_mostOf 1 (some .int)) { frames := 0, cells := 0, slots := 0, locals := 0 } as w v w2 := by
  unfold K_re_mostOf at h
  split at h
  · rename_i a0
    obtain ⟨q, h2, h3⟩ := Option.bind_eq_some_iff.mp h
    exact ⟨_, _, h3, eMet_of (by decide +kernel) rfl (by simp [eCat, Value.category]) rI_ret (fun p e s m args below meth c hcx => go_re_mostOf hcx a0 w q h2)⟩
  · cases h
def CX4_isHolder : eCo := [[some (.iload_n 1), some (.ifCond .lt 15), none, none, some (.iload_n 1), some (.aload_n 0), some (.getfield 15), none, none, some (.if_icmp .ge 7), none, none, some (.iconst 1), some (.goto 4), none, none],
  [some (.iconst 0), some (.ireturn)]]
theorem dcX4_isHolder : eDec cX4_isHolder CX4_isHolder := eDec_of (by decide +kernel)
def rs_dr_isHolder : List (Nat × eR) := [(15, (0, 4, 0, 0))]
noncomputable def cs_dr_isHolder : List (eF (Int32 × eW)) := []
noncomputable def f_dr_isHolder (a1 : Int32) (w : eW) : Option (Int32 × eW) := (if a1 < 0 then (some ((0 : Int32), w)) else (if (w.1 3 0) ≤ a1 then (some ((0 : Int32), w)) else (some ((1 : Int32), w))))
noncomputable def K_dr_isHolder {ρ : Type} : eF ρ := fun as w k => match as with
  | [.ref r0, .int a1] => bif Nat.beq r0 3 then (f_dr_isHolder a1 w).bind (fun p => k (some (.int p.1)) p.2) else none
  | _ => none
section
variable {p : Program} {l : Launch} {e : Env} {s : State} {m : MethodId} {args : Array Value} {below : List Frame} {meth : Method} {c : Code} {ad : Nat → Nat} {D : va_G} {cA : Nat → ClassId}
theorem lk_dr_isHolder : ∀ q ∈ rs_dr_isHolder, eLnk { frames := 0, cells := 0, slots := 0, locals := 0 } vwCl (eWd yX4_isHolder cX4_isHolder 2 (some .boolean)) SSc SHc.length RX4 q.1 q.2 := List.forall_mem_cons.mpr ⟨lkX4_15 eTb_wd, fun _ h => absurd h List.not_mem_nil⟩
theorem hc_dr_isHolder {x : Int32 × eW} : ∀ q ∈ rs_dr_isHolder, eHc l { frames := 0, cells := 0, slots := 0, locals := 0 } ad D cA vwCl SHc SSc (eWd yX4_isHolder cX4_isHolder 2 (some .boolean)) RX4 cs_dr_isHolder x q := List.forall_mem_cons.mpr ⟨trivial, fun _ h => absurd h List.not_mem_nil⟩
set_option maxRecDepth 100000 in
set_option maxHeartbeats 4000000 in
theorem go_dr_isHolder (hcx : eCx p { frames := 0, cells := 0, slots := 0, locals := 0 } s m args meth c cX4_isHolder RX4 2 ad D cA vwCl SHc SSc (eWd yX4_isHolder cX4_isHolder 2 (some .boolean)) (some .boolean)) (a1 : Int32) (w : eW) (x : Int32 × eW) (h : f_dr_isHolder a1 w = some x) : eGq p l e { frames := 0, cells := 0, slots := 0, locals := 0 } s m args below meth c 2 ad D cA vwCl SHc rZ x 0 (eEnt [.ref 3, .int a1]) [] w := by
  have h : eRun SHc SSc 2 rs_dr_isHolder (eCs cs_dr_isHolder) rZ CX4_isHolder [] (fun pc L st w => none) 11 true 0 [some (.ref 3), some (.int a1)] [] w = some x := h
  refine eGo.wk (eRun_go hcx (eLnk_all lk_dr_isHolder) (eHc_all hc_dr_isHolder) rZ_ok dcX4_isHolder [] _ (fun pc L st w hK => ?_) 11 true 0 _ _ w h) (eLe_wk ⟨rfl, rfl, trivial⟩)
  cases hK
end
set_option maxRecDepth 100000 in
set_option maxHeartbeats 4000000 in
theorem ok_dr_isHolder {l : Launch} {ad : Nat → Nat} {D : va_G} {cA : Nat → ClassId} {ρ : Type} (as : List Value) (w : eW) (k : Option Value → eW → Option ρ) (x : ρ) (h : K_dr_isHolder as w k = some x) : ∃ (v : Option Value) (w2 : eW), k v w2 = some x ∧ eMet l ad D cA vwCl SHc SSc yX4_isHolder (eWd yX4_isHolder cX4_isHolder 2 (some .boolean)) { frames := 0, cells := 0, slots := 0, locals := 0 } as w v w2 := by
  unfold K_dr_isHolder at h
  split at h
  · rename_i r0 a1
    obtain ⟨h1, h5⟩ := eBif h
    clear h
    have h := h5
    clear h5
    have h1 := Nat.eq_of_beq_eq_true h1
    subst h1
    obtain ⟨q, h2, h3⟩ := Option.bind_eq_some_iff.mp h
    exact ⟨_, _, h3, eMet_of (by decide +kernel) rfl (by simp [eCat, Value.category]) rZ_ret (fun p e s m args below meth c hcx => go_dr_isHolder hcx a1 w q h2)⟩
  · cases h
def CX4_put : eCo := [[some (.aload_n 0), some (.iload_n 1), some (.invokevirtual 35), none, none, some (.ifCond .eq 25), none, none, some (.iload_n 2), some (.ifCond .lt 21), none, none, some (.iload_n 2), some (.bipush 10), none, some (.if_icmp .ge 15)],
  [none, none, some (.aload_n 0), some (.getfield 9), none, none, some (.iload_n 1), some (.bipush 10), none, some (.imul), some (.iload_n 2), some (.iadd), some (.iload_n 3), some (.iastore), some (.return_)]]
theorem dcX4_put : eDec cX4_put CX4_put := eDec_of (by decide +kernel)
def rs_dr_put : List (Nat × eR) := [(9, (0, 4, 3, 2)), (35, (1, 0, 1, 4))]
noncomputable def cs_dr_put : List (eF (eW)) := [K_dr_isHolder]
noncomputable def f_dr_put (a1 : Int32) (a2 : Int32) (a3 : Int32) (w : eW) : Option (eW) := ((f_dr_isHolder a1 w).bind fun p1 => (if p1.1 = 0 then (some p1.2) else (if a2 < 0 then (some p1.2) else (if (10 : Int32) ≤ a2 then (some p1.2) else (eChk ((a1 * (10 : Int32)) + a2) 120 (some (eU1 p1.2 2 (Int32.toNatClampNeg ((a1 * (10 : Int32)) + a2)) a3)))))))
noncomputable def K_dr_put {ρ : Type} : eF ρ := fun as w k => match as with
  | [.ref r0, .int a1, .int a2, .int a3] => bif Nat.beq r0 3 then (f_dr_put a1 a2 a3 w).bind (fun w => k none w) else none
  | _ => none
section
variable {p : Program} {l : Launch} {e : Env} {s : State} {m : MethodId} {args : Array Value} {below : List Frame} {meth : Method} {c : Code} {ad : Nat → Nat} {D : va_G} {cA : Nat → ClassId}
theorem lk_dr_put : ∀ q ∈ rs_dr_put, eLnk { frames := 1, cells := 0, slots := 0, locals := 21 } vwCl (eWd yX4_put cX4_put 4 none) SSc SHc.length RX4 q.1 q.2 := List.forall_mem_cons.mpr ⟨lkX4_9 eTb_wd, List.forall_mem_cons.mpr ⟨trivial, fun _ h => absurd h List.not_mem_nil⟩⟩
theorem hc_dr_put {x : eW} : ∀ q ∈ rs_dr_put, eHc l { frames := 1, cells := 0, slots := 0, locals := 21 } ad D cA vwCl SHc SSc (eWd yX4_put cX4_put 4 none) RX4 cs_dr_put x q := List.forall_mem_cons.mpr ⟨trivial, List.forall_mem_cons.mpr ⟨(fun as w k h => let ⟨v, w2, h1, h2⟩ := ok_dr_isHolder as w k x h; ⟨v, w2, h1, eCal_of h2 ⟨rfl, rfl⟩ hdX4_isHolder (gvX4_35 eTb_wd)⟩), fun _ h => absurd h List.not_mem_nil⟩⟩
set_option maxRecDepth 100000 in
set_option maxHeartbeats 4000000 in
theorem go_dr_put (hcx : eCx p { frames := 1, cells := 0, slots := 0, locals := 21 } s m args meth c cX4_put RX4 4 ad D cA vwCl SHc SSc (eWd yX4_put cX4_put 4 none) (none)) (a1 : Int32) (a2 : Int32) (a3 : Int32) (w : eW) (x : eW) (h : f_dr_put a1 a2 a3 w = some x) : eGq p l e { frames := 1, cells := 0, slots := 0, locals := 21 } s m args below meth c 4 ad D cA vwCl SHc rV x 0 (eEnt [.ref 3, .int a1, .int a2, .int a3]) [] w := by
  have h : eRun SHc SSc 4 rs_dr_put (eCs cs_dr_put) rV CX4_put [] (fun pc L st w => none) 21 true 0 [some (.ref 3), some (.int a1), some (.int a2), some (.int a3)] [] w = some x := h
  refine eGo.wk (eRun_go hcx (eLnk_all lk_dr_put) (eHc_all hc_dr_put) rV_ok dcX4_put [] _ (fun pc L st w hK => ?_) 21 true 0 _ _ w h) (eLe_wk ⟨rfl, rfl, rfl, rfl, trivial⟩)
  cases hK
end
set_option maxRecDepth 100000 in
set_option maxHeartbeats 4000000 in
theorem ok_dr_put {l : Launch} {ad : Nat → Nat} {D : va_G} {cA : Nat → ClassId} {ρ : Type} (as : List Value) (w : eW) (k : Option Value → eW → Option ρ) (x : ρ) (h : K_dr_put as w k = some x) : ∃ (v : Option Value) (w2 : eW), k v w2 = some x ∧ eMet l ad D cA vwCl SHc SSc yX4_put (eWd yX4_put cX4_put 4 none) { frames := 1, cells := 0, slots := 0, locals := 21 } as w v w2 := by
  unfold K_dr_put at h
  split at h
  · rename_i r0 a1 a2 a3
    obtain ⟨h1, h5⟩ := eBif h
    clear h
    have h := h5
    clear h5
    have h1 := Nat.eq_of_beq_eq_true h1
    subst h1
    obtain ⟨q, h2, h3⟩ := Option.bind_eq_some_iff.mp h
    exact ⟨_, _, h3, eMet_of (by decide +kernel) rfl (by simp [eCat, Value.category]) rV_ret (fun p e s m args below meth c hcx => go_dr_put hcx a1 a2 a3 w q h2)⟩
  · cases h
def CX4_add : eCo := [[some (.aload_n 0), some (.getfield 15), none, none, some (.bipush 12), none, some (.if_icmp .lt 5), none, none, some (.iconst 0), some (.ireturn), some (.aload_n 0), some (.getfield 15), none, none, some (.istore_n 2)],
  [some (.aload_n 0), some (.dup), some (.getfield 15), none, none, some (.iconst 1), some (.iadd), some (.putfield 15), none, none, some (.iconst 0), some (.istore_n 3), some (.iload_n 3), some (.bipush 10), none, some (.if_icmp .ge 16)],
  [none, none, some (.aload_n 0), some (.iload_n 2), some (.iload_n 3), some (.iconst 0), some (.invokevirtual 31), none, none, some (.iinc 3 1), none, none, some (.goto (-16)), none, none, some (.aload_n 0)],
  [some (.iload_n 2), some (.iconst 0), some (.iload_n 1), some (.invokevirtual 31), none, none, some (.aload_n 0), some (.iload_n 2), some (.iconst 4), some (.bipush 100), none, some (.invokevirtual 31), none, none, some (.aload_n 0), some (.iload_n 2)],
  [some (.iconst 5), some (.bipush 100), none, some (.invokevirtual 31), none, none, some (.aload_n 0), some (.iload_n 2), some (.bipush 7), none, some (.iconst (-1)), some (.invokevirtual 31), none, none, some (.iconst 1), some (.ireturn)]]
theorem dcX4_add : eDec cX4_add CX4_add := eDec_of (by decide +kernel)
def rs_dr_add : List (Nat × eR) := [(15, (0, 4, 0, 0)), (31, (1, 0, 3, 4))]
noncomputable def cs_dr_add : List (eF (Int32 × eW)) := [K_dr_put]
noncomputable def f_dr_add_L28 : Nat → Int32 → Int32 → Int32 → eW → Option (Int32 × eW)
  | 0, _, _, _, _ => none
  | n + 1, a1, a2, a3, w => (if (10 : Int32) ≤ a3 then ((f_dr_put a2 (0 : Int32) a1 w).bind fun w1 => ((f_dr_put a2 (4 : Int32) (100 : Int32) w1).bind fun w2 => ((f_dr_put a2 (5 : Int32) (100 : Int32) w2).bind fun w3 => ((f_dr_put a2 (7 : Int32) (-1 : Int32) w3).bind fun w4 => (some ((1 : Int32), w4)))))) else ((f_dr_put a2 a3 (0 : Int32) w).bind fun w5 => (f_dr_add_L28 n a1 a2 (a3 + (1 : Int32)) w5)))
noncomputable def f_dr_add (a1 : Int32) (w : eW) : Option (Int32 × eW) := (if (w.1 3 0) < (12 : Int32) then (f_dr_add_L28 eFu a1 (w.1 3 0) (0 : Int32) (eU1 w 3 0 ((w.1 3 0) + (1 : Int32)))) else (some ((0 : Int32), w)))
noncomputable def K_dr_add {ρ : Type} : eF ρ := fun as w k => match as with
  | [.ref r0, .int a1] => bif Nat.beq r0 3 then (f_dr_add a1 w).bind (fun p => k (some (.int p.1)) p.2) else none
  | _ => none
section
variable {p : Program} {l : Launch} {e : Env} {s : State} {m : MethodId} {args : Array Value} {below : List Frame} {meth : Method} {c : Code} {ad : Nat → Nat} {D : va_G} {cA : Nat → ClassId}
theorem lk_dr_add : ∀ q ∈ rs_dr_add, eLnk { frames := 2, cells := 0, slots := 0, locals := 44 } vwCl (eWd yX4_add cX4_add 4 (some .boolean)) SSc SHc.length RX4 q.1 q.2 := List.forall_mem_cons.mpr ⟨lkX4_15 eTb_wd, List.forall_mem_cons.mpr ⟨trivial, fun _ h => absurd h List.not_mem_nil⟩⟩
theorem hc_dr_add {x : Int32 × eW} : ∀ q ∈ rs_dr_add, eHc l { frames := 2, cells := 0, slots := 0, locals := 44 } ad D cA vwCl SHc SSc (eWd yX4_add cX4_add 4 (some .boolean)) RX4 cs_dr_add x q := List.forall_mem_cons.mpr ⟨trivial, List.forall_mem_cons.mpr ⟨(fun as w k h => let ⟨v, w2, h1, h2⟩ := ok_dr_put as w k x h; ⟨v, w2, h1, eCal_of h2 ⟨rfl, rfl⟩ hdX4_put (gvX4_31 eTb_wd)⟩), fun _ h => absurd h List.not_mem_nil⟩⟩
noncomputable def kk_dr_add_28 (n : Nat) : eK (Int32 × eW) := fun pc L st w => bif Nat.beq pc 28 then (lR L 0 3 ((lI L 1).bind fun a1 => (lI L 2).bind fun a2 => (lI L 3).bind fun a3 => sE st (f_dr_add_L28 n a1 a2 a3 w))) else none
set_option maxRecDepth 100000 in
set_option maxHeartbeats 4000000 in
theorem go_dr_add_L28 (hcx : eCx p { frames := 2, cells := 0, slots := 0, locals := 44 } s m args meth c cX4_add RX4 4 ad D cA vwCl SHc SSc (eWd yX4_add cX4_add 4 (some .boolean)) (some .boolean)) {x : Int32 × eW} : ∀ (n : Nat) (a1 : Int32) (a2 : Int32) (a3 : Int32) (w : eW), f_dr_add_L28  n a1 a2 a3 w = some x → eGq p l e { frames := 2, cells := 0, slots := 0, locals := 44 } s m args below meth c 4 ad D cA vwCl SHc rZ x 28 [some (.ref 3), some (.int a1), some (.int a2), some (.int a3)] [] w := by
  intro n
  induction n with
  | zero => intro a1 a2 a3 w h; exact nomatch (show (none : Option (Int32 × eW)) = some x from h)
  | succ n ih =>
    intro a1 a2 a3 w h
    have h : eRun SHc SSc 4 rs_dr_add (eCs cs_dr_add) rZ CX4_add [28] (kk_dr_add_28  n) 27 true 28 [some (.ref 3), some (.int a1), some (.int a2), some (.int a3)] [] w = some x := h
    refine eRun_go hcx (eLnk_all lk_dr_add) (eHc_all hc_dr_add) rZ_ok dcX4_add [28] _ (fun pc L st w hK => ?_) 27 true 28 _ _ w h
    unfold kk_dr_add_28 at hK
    rcases eCut hK with ⟨hpc, hK⟩ | hK
    · subst hpc
      obtain ⟨e0, hK_1⟩ := lR_some hK
      obtain ⟨a1, e1, hK_2⟩ := lI_some hK_1
      obtain ⟨a2, e2, hK_3⟩ := lI_some hK_2
      obtain ⟨a3, e3, hK_4⟩ := lI_some hK_3
      obtain ⟨hst9, hK_5⟩ := sE_some hK_4
      subst hst9
      exact eGo.wk (ih a1 a2 a3 w hK_5) (eLe_wk ⟨e0, e1, e2, e3, trivial⟩)
    cases hK
set_option maxRecDepth 100000 in
set_option maxHeartbeats 4000000 in
theorem go_dr_add (hcx : eCx p { frames := 2, cells := 0, slots := 0, locals := 44 } s m args meth c cX4_add RX4 4 ad D cA vwCl SHc SSc (eWd yX4_add cX4_add 4 (some .boolean)) (some .boolean)) (a1 : Int32) (w : eW) (x : Int32 × eW) (h : f_dr_add a1 w = some x) : eGq p l e { frames := 2, cells := 0, slots := 0, locals := 44 } s m args below meth c 4 ad D cA vwCl SHc rZ x 0 (eEnt [.ref 3, .int a1]) [] w := by
  have h : eRun SHc SSc 4 rs_dr_add (eCs cs_dr_add) rZ CX4_add [28] (fun pc L st w => bif Nat.beq pc 28 then (lR L 0 3 ((lI L 1).bind fun a1 => (lI L 2).bind fun a2 => (lI L 3).bind fun a3 => sE st (f_dr_add_L28 eFu a1 a2 a3 w))) else none) 18 true 0 [some (.ref 3), some (.int a1), none, none] [] w = some x := h
  refine eGo.wk (eRun_go hcx (eLnk_all lk_dr_add) (eHc_all hc_dr_add) rZ_ok dcX4_add [28] _ (fun pc L st w hK => ?_) 18 true 0 _ _ w h) (eLe_wk ⟨rfl, rfl, trivial⟩)
  rcases eCut hK with ⟨hpc, hK⟩ | hK
  · subst hpc
    obtain ⟨e0, hK_1⟩ := lR_some hK
    obtain ⟨a1, e1, hK_2⟩ := lI_some hK_1
    obtain ⟨a2, e2, hK_3⟩ := lI_some hK_2
    obtain ⟨a3, e3, hK_4⟩ := lI_some hK_3
    obtain ⟨hst9, hK_5⟩ := sE_some hK_4
    subst hst9
    exact eGo.wk (go_dr_add_L28 hcx  eFu a1 a2 a3 w hK_5) (eLe_wk ⟨e0, e1, e2, e3, trivial⟩)
  cases hK
end
set_option maxRecDepth 100000 in
set_option maxHeartbeats 4000000 in
theorem ok_dr_add {l : Launch} {ad : Nat → Nat} {D : va_G} {cA : Nat → ClassId} {ρ : Type} (as : List Value) (w : eW) (k : Option Value → eW → Option ρ) (x : ρ) (h : K_dr_add as w k = some x) : ∃ (v : Option Value) (w2 : eW), k v w2 = some x ∧ eMet l ad D cA vwCl SHc SSc yX4_add (eWd yX4_add cX4_add 4 (some .boolean)) { frames := 2, cells := 0, slots := 0, locals := 44 } as w v w2 := by
  unfold K_dr_add at h
  split at h
  · rename_i r0 a1
    obtain ⟨h1, h5⟩ := eBif h
    clear h
    have h := h5
    clear h5
    have h1 := Nat.eq_of_beq_eq_true h1
    subst h1
    obtain ⟨q, h2, h3⟩ := Option.bind_eq_some_iff.mp h
    exact ⟨_, _, h3, eMet_of (by decide +kernel) rfl (by simp [eCat, Value.category]) rZ_ret (fun p e s m args below meth c hcx => go_dr_add hcx a1 w q h2)⟩
  · cases h
