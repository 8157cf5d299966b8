def CX10_isLetter : eCo := [[some (.iload_n 0), some (.bipush 97), none, some (.if_icmp .lt 13), none, none, some (.iload_n 0), some (.bipush 122), none, some (.if_icmp .gt 7), none, none, some (.iconst 1), some (.goto 4), none, none],
  [some (.iconst 0), some (.ireturn)]]
theorem dcX10_isLetter : eDec cX10_isLetter CX10_isLetter := eDec_of (by decide +kernel)
def rs_ta_isLetter : List (Nat × eR) := []
noncomputable def cs_ta_isLetter : List (eF (Int32 × eW)) := []
noncomputable def f_ta_isLetter (a0 : Int32) (w : eW) : Option (Int32 × eW) := (if a0 < (97 : Int32) then (some ((0 : Int32), w)) else (if (122 : Int32) < a0 then (some ((0 : Int32), w)) else (some ((1 : Int32), w))))
noncomputable def K_ta_isLetter {ρ : Type} : eF ρ := fun as w k => match as with
  | [.int a0] => (f_ta_isLetter a0 w).bind (fun p => k (some (.int p.1)) p.2)
  | _ => none
section
variable {p : Program} {l : Launch} {e : Env} {s : State} {m : MethodId} {args : Array Value} {below : List Frame} {meth : Method} {c : Code} {ad : Nat → Nat} {D : va_G} {cA : Nat → ClassId}
theorem lk_ta_isLetter : ∀ q ∈ rs_ta_isLetter, eLnk { frames := 0, cells := 0, slots := 0, locals := 0 } vwCl (eWd yX10_isLetter cX10_isLetter 1 (some .boolean)) SSc SHc.length RX10 q.1 q.2 := fun _ h => absurd h List.not_mem_nil
theorem hc_ta_isLetter {x : Int32 × eW} : ∀ q ∈ rs_ta_isLetter, eHc l { frames := 0, cells := 0, slots := 0, locals := 0 } ad D cA vwCl SHc SSc (eWd yX10_isLetter cX10_isLetter 1 (some .boolean)) RX10 cs_ta_isLetter x q := fun _ h => absurd h List.not_mem_nil
set_option maxRecDepth 100000 in
set_option maxHeartbeats 4000000 in
theorem go_ta_isLetter (hcx : eCx p { frames := 0, cells := 0, slots := 0, locals := 0 } s m args meth c cX10_isLetter RX10 1 ad D cA vwCl SHc SSc (eWd yX10_isLetter cX10_isLetter 1 (some .boolean)) (some .boolean)) (a0 : Int32) (w : eW) (x : Int32 × eW) (h : f_ta_isLetter a0 w = some x) : eGq p l e { frames := 0, cells := 0, slots := 0, locals := 0 } s m args below meth c 1 ad D cA vwCl SHc rZ x 0 (eEnt [.int a0]) [] w := by
  have h : eRun SHc SSc 1 rs_ta_isLetter (eCs cs_ta_isLetter) rZ CX10_isLetter [] (fun pc L st w => none) 11 true 0 [some (.int a0)] [] w = some x := h
  refine eGo.wk (eRun_go hcx (eLnk_all lk_ta_isLetter) (eHc_all hc_ta_isLetter) rZ_ok dcX10_isLetter [] _ (fun pc L st w hK => ?_) 11 true 0 _ _ w h) (eLe_wk ⟨rfl, trivial⟩)
  cases hK
end
set_option maxRecDepth 100000 in
set_option maxHeartbeats 4000000 in
theorem ok_ta_isLetter {l : Launch} {ad : Nat → Nat} {D : va_G} {cA : Nat → ClassId} {ρ : Type} (as : List Value) (w : eW) (k : Option Value → eW → Option ρ) (x : ρ) (h : K_ta_isLetter as w k = some x) : ∃ (v : Option Value) (w2 : eW), k v w2 = some x ∧ eMet l ad D cA vwCl SHc SSc yX10_isLetter (eWd yX10_isLetter cX10_isLetter 1 (some .boolean)) { frames := 0, cells := 0, slots := 0, locals := 0 } as w v w2 := by
  unfold K_ta_isLetter at h
  split at h
  · rename_i a0
    obtain ⟨q, h2, h3⟩ := Option.bind_eq_some_iff.mp h
    exact ⟨_, _, h3, eMet_of (by decide +kernel) rfl (by simp [eCat, Value.category]) rZ_ret (fun p e s m args below meth c hcx => go_ta_isLetter hcx a0 w q h2)⟩
  · cases h
def CX10_isDigit : eCo := [[some (.iload_n 0), some (.bipush 48), none, some (.if_icmp .lt 13), none, none, some (.iload_n 0), some (.bipush 57), none, some (.if_icmp .gt 7), none, none, some (.iconst 1), some (.goto 4), none, none],
  [some (.iconst 0), some (.ireturn)]]
theorem dcX10_isDigit : eDec cX10_isDigit CX10_isDigit := eDec_of (by decide +kernel)
def rs_ta_isDigit : List (Nat × eR) := []
noncomputable def cs_ta_isDigit : List (eF (Int32 × eW)) := []
noncomputable def f_ta_isDigit (a0 : Int32) (w : eW) : Option (Int32 × eW) := (if a0 < (48 : Int32) then (some ((0 : Int32), w)) else (if (57 : Int32) < a0 then (some ((0 : Int32), w)) else (some ((1 : Int32), w))))
noncomputable def K_ta_isDigit {ρ : Type} : eF ρ := fun as w k => match as with
  | [.int a0] => (f_ta_isDigit a0 w).bind (fun p => k (some (.int p.1)) p.2)
  | _ => none
section
variable {p : Program} {l : Launch} {e : Env} {s : State} {m : MethodId} {args : Array Value} {below : List Frame} {meth : Method} {c : Code} {ad : Nat → Nat} {D : va_G} {cA : Nat → ClassId}
theorem lk_ta_isDigit : ∀ q ∈ rs_ta_isDigit, eLnk { frames := 0, cells := 0, slots := 0, locals := 0 } vwCl (eWd yX10_isDigit cX10_isDigit 1 (some .boolean)) SSc SHc.length RX10 q.1 q.2 := fun _ h => absurd h List.not_mem_nil
theorem hc_ta_isDigit {x : Int32 × eW} : ∀ q ∈ rs_ta_isDigit, eHc l { frames := 0, cells := 0, slots := 0, locals := 0 } ad D cA vwCl SHc SSc (eWd yX10_isDigit cX10_isDigit 1 (some .boolean)) RX10 cs_ta_isDigit x q := fun _ h => absurd h List.not_mem_nil
set_option maxRecDepth 100000 in
set_option maxHeartbeats 4000000 in
theorem go_ta_isDigit (hcx : eCx p { frames := 0, cells := 0, slots := 0, locals := 0 } s m args meth c cX10_isDigit RX10 1 ad D cA vwCl SHc SSc (eWd yX10_isDigit cX10_isDigit 1 (some .boolean)) (some .boolean)) (a0 : Int32) (w : eW) (x : Int32 × eW) (h : f_ta_isDigit a0 w = some x) : eGq p l e { frames := 0, cells := 0, slots := 0, locals := 0 } s m args below meth c 1 ad D cA vwCl SHc rZ x 0 (eEnt [.int a0]) [] w := by
  have h : eRun SHc SSc 1 rs_ta_isDigit (eCs cs_ta_isDigit) rZ CX10_isDigit [] (fun pc L st w => none) 11 true 0 [some (.int a0)] [] w = some x := h
  refine eGo.wk (eRun_go hcx (eLnk_all lk_ta_isDigit) (eHc_all hc_ta_isDigit) rZ_ok dcX10_isDigit [] _ (fun pc L st w hK => ?_) 11 true 0 _ _ w h) (eLe_wk ⟨rfl, trivial⟩)
  cases hK
end
set_option maxRecDepth 100000 in
set_option maxHeartbeats 4000000 in
theorem ok_ta_isDigit {l : Launch} {ad : Nat → Nat} {D : va_G} {cA : Nat → ClassId} {ρ : Type} (as : List Value) (w : eW) (k : Option Value → eW → Option ρ) (x : ρ) (h : K_ta_isDigit as w k = some x) : ∃ (v : Option Value) (w2 : eW), k v w2 = some x ∧ eMet l ad D cA vwCl SHc SSc yX10_isDigit (eWd yX10_isDigit cX10_isDigit 1 (some .boolean)) { frames := 0, cells := 0, slots := 0, locals := 0 } as w v w2 := by
  unfold K_ta_isDigit at h
  split at h
  · rename_i a0
    obtain ⟨q, h2, h3⟩ := Option.bind_eq_some_iff.mp h
    exact ⟨_, _, h3, eMet_of (by decide +kernel) rfl (by simp [eCat, Value.category]) rZ_ret (fun p e s m args below meth c hcx => go_ta_isDigit hcx a0 w q h2)⟩
  · cases h
def CX10_scanNumber : eCo := [[some (.aload_n 0), some (.iconst 0), some (.putfield 55), none, none, some (.aload_n 0), some (.getfield 19), none, none, some (.aload_n 0), some (.getfield 15), none, none, some (.if_icmp .ge 55), none, none],
  [some (.aload_n 0), some (.getfield 9), none, none, some (.aload_n 0), some (.getfield 19), none, none, some (.baload), some (.invokestatic 41), none, none, some (.ifCond .eq 40), none, none, some (.aload_n 0)],
  [some (.aload_n 0), some (.getfield 55), none, none, some (.bipush 10), none, some (.imul), some (.aload_n 0), some (.getfield 9), none, none, some (.aload_n 0), some (.getfield 19), none, none, some (.baload)],
  [some (.bipush 48), none, some (.isub), some (.iadd), some (.putfield 55), none, none, some (.aload_n 0), some (.dup), some (.getfield 19), none, none, some (.iconst 1), some (.iadd), some (.putfield 19), none],
  [none, some (.goto (-60)), none, none, some (.aload_n 0), some (.getfield 19), none, none, some (.aload_n 0), some (.getfield 15), none, none, some (.if_icmp .ge 22), none, none, some (.aload_n 0)],
  [some (.getfield 9), none, none, some (.aload_n 0), some (.getfield 19), none, none, some (.baload), some (.invokestatic 35), none, none, some (.ifCond .eq 7), none, none, some (.iconst 1), some (.goto 4)],
  [none, none, some (.iconst 0), some (.istore_n 1), some (.aload_n 0), some (.aload_n 0), some (.getfield 19), none, none, some (.aload_n 0), some (.getfield 29), none, none, some (.isub), some (.iconst 4), some (.if_icmp .gt 11)],
  [none, none, some (.iload_n 1), some (.ifCond .ne 7), none, none, some (.iconst 2), some (.goto 4), none, none, some (.iconst 4), some (.putfield 32), none, none, some (.return_)]]
theorem dcX10_scanNumber : eDec cX10_scanNumber CX10_scanNumber := eDec_of (by decide +kernel)
def rs_ta_scanNumber : List (Nat × eR) := [(9, (0, 9, 0, 2)), (15, (0, 9, 1, 0)), (19, (0, 9, 2, 0)), (29, (0, 9, 3, 0)), (32, (0, 9, 4, 0)), (35, (1, 1, 1, -1)), (41, (1, 0, 1, -1)), (55, (0, 9, 5, 0))]
noncomputable def cs_ta_scanNumber : List (eF (eW)) := [K_ta_isDigit, K_ta_isLetter]
noncomputable def f_ta_scanNumber_J68 (w : eW) : Option (eW) := (if (w.1 1 1) ≤ (w.1 1 2) then (if (4 : Int32) < ((w.1 1 2) - (w.1 1 3)) then (some (eU1 w 1 4 (4 : Int32))) else (some (eU1 w 1 4 (2 : Int32)))) else (eChk (w.1 1 2) 700 ((f_ta_isLetter (w.1 0 (Int32.toNatClampNeg (w.1 1 2))) w).bind fun p2 => (if p2.1 = 0 then (if (4 : Int32) < ((p2.2.1 1 2) - (p2.2.1 1 3)) then (some (eU1 p2.2 1 4 (4 : Int32))) else (some (eU1 p2.2 1 4 (2 : Int32)))) else (if (4 : Int32) < ((p2.2.1 1 2) - (p2.2.1 1 3)) then (some (eU1 p2.2 1 4 (4 : Int32))) else (some (eU1 p2.2 1 4 (4 : Int32))))))))
noncomputable def f_ta_scanNumber_L5 : Nat → eW → Option (eW)
  | 0, _ => none
  | n + 1, w => (if (w.1 1 1) ≤ (w.1 1 2) then (f_ta_scanNumber_J68 w) else (eChk (w.1 1 2) 700 ((f_ta_isDigit (w.1 0 (Int32.toNatClampNeg (w.1 1 2))) w).bind fun p1 => (if p1.1 = 0 then (f_ta_scanNumber_J68 p1.2) else (eChk (p1.2.1 1 2) 700 (f_ta_scanNumber_L5 n (eU1 (eU1 p1.2 1 5 (((p1.2.1 1 5) * (10 : Int32)) + ((p1.2.1 0 (Int32.toNatClampNeg (p1.2.1 1 2))) - (48 : Int32)))) 1 2 ((p1.2.1 1 2) + (1 : Int32)))))))))
noncomputable def f_ta_scanNumber (w : eW) : Option (eW) := (f_ta_scanNumber_L5 eFu (eU1 w 1 5 (0 : Int32)))
noncomputable def K_ta_scanNumber {ρ : Type} : eF ρ := fun as w k => match as with
  | [.ref r0] => bif Nat.beq r0 1 then (f_ta_scanNumber w).bind (fun w => k none w) else none
  | _ => none
section
variable {p : Program} {l : Launch} {e : Env} {s : State} {m : MethodId} {args : Array Value} {below : List Frame} {meth : Method} {c : Code} {ad : Nat → Nat} {D : va_G} {cA : Nat → ClassId}
theorem lk_ta_scanNumber : ∀ q ∈ rs_ta_scanNumber, eLnk { frames := 1, cells := 0, slots := 0, locals := 20 } vwCl (eWd yX10_scanNumber cX10_scanNumber 2 none) SSc SHc.length RX10 q.1 q.2 := List.forall_mem_cons.mpr ⟨lkX10_9 eTb_wd, List.forall_mem_cons.mpr ⟨lkX10_15 eTb_wd, List.forall_mem_cons.mpr ⟨lkX10_19 eTb_wd, List.forall_mem_cons.mpr ⟨lkX10_29 eTb_wd, List.forall_mem_cons.mpr ⟨lkX10_32 eTb_wd, List.forall_mem_cons.mpr ⟨trivial, List.forall_mem_cons.mpr ⟨trivial, List.forall_mem_cons.mpr ⟨lkX10_55 eTb_wd, fun _ h => absurd h List.not_mem_nil⟩⟩⟩⟩⟩⟩⟩⟩
theorem hc_ta_scanNumber {x : eW} : ∀ q ∈ rs_ta_scanNumber, eHc l { frames := 1, cells := 0, slots := 0, locals := 20 } ad D cA vwCl SHc SSc (eWd yX10_scanNumber cX10_scanNumber 2 none) RX10 cs_ta_scanNumber x q := List.forall_mem_cons.mpr ⟨trivial, List.forall_mem_cons.mpr ⟨trivial, List.forall_mem_cons.mpr ⟨trivial, List.forall_mem_cons.mpr ⟨trivial, List.forall_mem_cons.mpr ⟨trivial, List.forall_mem_cons.mpr ⟨(fun as w k h => let ⟨v, w2, h1, h2⟩ := ok_ta_isLetter as w k x h; ⟨v, w2, h1, eCal_of h2 ⟨rfl, rfl⟩ hdX10_isLetter (gvX10_35 eTb_wd)⟩), List.forall_mem_cons.mpr ⟨(fun as w k h => let ⟨v, w2, h1, h2⟩ := ok_ta_isDigit as w k x h; ⟨v, w2, h1, eCal_of h2 ⟨rfl, rfl⟩ hdX10_isDigit (gvX10_41 eTb_wd)⟩), List.forall_mem_cons.mpr ⟨trivial, fun _ h => absurd h List.not_mem_nil⟩⟩⟩⟩⟩⟩⟩⟩
noncomputable def kk_ta_scanNumber_68 : eK (eW) := fun pc L st w => none
set_option maxRecDepth 100000 in
set_option maxHeartbeats 4000000 in
theorem go_ta_scanNumber_J68 (hcx : eCx p { frames := 1, cells := 0, slots := 0, locals := 20 } s m args meth c cX10_scanNumber RX10 2 ad D cA vwCl SHc SSc (eWd yX10_scanNumber cX10_scanNumber 2 none) (none)) {x : eW} : ∀ (w : eW), f_ta_scanNumber_J68  w = some x → eGq p l e { frames := 1, cells := 0, slots := 0, locals := 20 } s m args below meth c 2 ad D cA vwCl SHc rV x 68 [some (.ref 1), none] [] w := by
  intro w h
  have h : eRun SHc SSc 2 rs_ta_scanNumber (eCs cs_ta_scanNumber) rV CX10_scanNumber [5, 68] (kk_ta_scanNumber_68 ) 30 true 68 [some (.ref 1), none] [] w = some x := h
  refine eRun_go hcx (eLnk_all lk_ta_scanNumber) (eHc_all hc_ta_scanNumber) rV_ok dcX10_scanNumber [5, 68] _ (fun pc L st w hK => ?_) 30 true 68 _ _ w h
  unfold kk_ta_scanNumber_68 at hK
  cases hK
noncomputable def kk_ta_scanNumber_5 (n : Nat) : eK (eW) := fun pc L st w => bif Nat.beq pc 68 then (lR L 0 1 (sE st (f_ta_scanNumber_J68 w))) else (bif Nat.beq pc 5 then (lR L 0 1 (sE st (f_ta_scanNumber_L5 n w))) else none)
set_option maxRecDepth 100000 in
set_option maxHeartbeats 4000000 in
theorem go_ta_scanNumber_L5 (hcx : eCx p { frames := 1, cells := 0, slots := 0, locals := 20 } s m args meth c cX10_scanNumber RX10 2 ad D cA vwCl SHc SSc (eWd yX10_scanNumber cX10_scanNumber 2 none) (none)) {x : eW} : ∀ (n : Nat) (w : eW), f_ta_scanNumber_L5  n w = some x → eGq p l e { frames := 1, cells := 0, slots := 0, locals := 20 } s m args below meth c 2 ad D cA vwCl SHc rV x 5 [some (.ref 1), none] [] w := by
  intro n
  induction n with
  | zero => intro w h; exact nomatch (show (none : Option (eW)) = some x from h)
  | succ n ih =>
    intro w h
    have h : eRun SHc SSc 2 rs_ta_scanNumber (eCs cs_ta_scanNumber) rV CX10_scanNumber [5, 68] (kk_ta_scanNumber_5  n) 36 true 5 [some (.ref 1), none] [] w = some x := h
    refine eRun_go hcx (eLnk_all lk_ta_scanNumber) (eHc_all hc_ta_scanNumber) rV_ok dcX10_scanNumber [5, 68] _ (fun pc L st w hK => ?_) 36 true 5 _ _ w h
    unfold kk_ta_scanNumber_5 at hK
    rcases eCut hK with ⟨hpc, hK⟩ | hK
    · subst hpc
      obtain ⟨e0, hK_1⟩ := lR_some hK
      obtain ⟨hst9, hK_2⟩ := sE_some hK_1
      subst hst9
      exact eGo.wk (go_ta_scanNumber_J68 hcx  w hK_2) (eLe_wk ⟨e0, trivial⟩)
    rcases eCut hK with ⟨hpc, hK⟩ | hK
    · subst hpc
      obtain ⟨e0, hK_1⟩ := lR_some hK
      obtain ⟨hst9, hK_2⟩ := sE_some hK_1
      subst hst9
      exact eGo.wk (ih w hK_2) (eLe_wk ⟨e0, trivial⟩)
    cases hK
set_option maxRecDepth 100000 in
set_option maxHeartbeats 4000000 in
theorem go_ta_scanNumber (hcx : eCx p { frames := 1, cells := 0, slots := 0, locals := 20 } s m args meth c cX10_scanNumber RX10 2 ad D cA vwCl SHc SSc (eWd yX10_scanNumber cX10_scanNumber 2 none) (none)) (w : eW) (x : eW) (h : f_ta_scanNumber w = some x) : eGq p l e { frames := 1, cells := 0, slots := 0, locals := 20 } s m args below meth c 2 ad D cA vwCl SHc rV x 0 (eEnt [.ref 1]) [] w := by
  have h : eRun SHc SSc 2 rs_ta_scanNumber (eCs cs_ta_scanNumber) rV CX10_scanNumber [5, 68] (fun pc L st w => bif Nat.beq pc 5 then (lR L 0 1 (sE st (f_ta_scanNumber_L5 eFu w))) else none) 6 true 0 [some (.ref 1), none] [] w = some x := h
  refine eGo.wk (eRun_go hcx (eLnk_all lk_ta_scanNumber) (eHc_all hc_ta_scanNumber) rV_ok dcX10_scanNumber [5, 68] _ (fun pc L st w hK => ?_) 6 true 0 _ _ w h) (eLe_wk ⟨rfl, trivial⟩)
  rcases eCut hK with ⟨hpc, hK⟩ | hK
  · subst hpc
    obtain ⟨e0, hK_1⟩ := lR_some hK
    obtain ⟨hst9, hK_2⟩ := sE_some hK_1
    subst hst9
    exact eGo.wk (go_ta_scanNumber_L5 hcx  eFu w hK_2) (eLe_wk ⟨e0, trivial⟩)
  cases hK
end
set_option maxRecDepth 100000 in
set_option maxHeartbeats 4000000 in
theorem ok_ta_scanNumber {l : Launch} {ad : Nat → Nat} {D : va_G} {cA : Nat → ClassId} {ρ : Type} (as : List Value) (w : eW) (k : Option Value → eW → Option ρ) (x : ρ) (h : K_ta_scanNumber as w k = some x) : ∃ (v : Option Value) (w2 : eW), k v w2 = some x ∧ eMet l ad D cA vwCl SHc SSc yX10_scanNumber (eWd yX10_scanNumber cX10_scanNumber 2 none) { frames := 1, cells := 0, slots := 0, locals := 20 } as w v w2 := by
  unfold K_ta_scanNumber at h
  split at h
  · rename_i r0
    obtain ⟨h1, h5⟩ := eBif h
    clear h
    have h := h5
    clear h5
    have h1 := Nat.eq_of_beq_eq_true h1
    subst h1
    obtain ⟨q, h2, h3⟩ := Option.bind_eq_some_iff.mp h
    exact ⟨_, _, h3, eMet_of (by decide +kernel) rfl (by simp [eCat, Value.category]) rV_ret (fun p e s m args below meth c hcx => go_ta_scanNumber hcx w q h2)⟩
  · cases h
def CX10_withLetter : eCo := [[some (.lload_n 0), some (.ldc2_w 58), none, none, some (.lmul), some (.iload_n 2), some (.bipush 97), none, some (.isub), some (.iconst 1), some (.iadd), some (.i2l), some (.ladd), some (.lreturn)]]
theorem dcX10_withLetter : eDec cX10_withLetter CX10_withLetter := eDec_of (by decide +kernel)
def rs_ta_withLetter : List (Nat × eR) := [(58, (3, 0, 0, 32))]
noncomputable def cs_ta_withLetter : List (eF (Int64 × eW)) := []
noncomputable def f_ta_withLetter (a0 : Int64) (a2 : Int32) (w : eW) : Option (Int64 × eW) := (some (((a0 * (32 : Int64)) + ((((a2 - (97 : Int32)) + (1 : Int32))).toInt64)), w))
noncomputable def K_ta_withLetter {ρ : Type} : eF ρ := fun as w k => match as with
  | [.long a0, .int a2] => (f_ta_withLetter a0 a2 w).bind (fun p => k (some (.long p.1)) p.2)
  | _ => none
section
variable {p : Program} {l : Launch} {e : Env} {s : State} {m : MethodId} {args : Array Value} {below : List Frame} {meth : Method} {c : Code} {ad : Nat → Nat} {D : va_G} {cA : Nat → ClassId}
theorem lk_ta_withLetter : ∀ q ∈ rs_ta_withLetter, eLnk { frames := 0, cells := 0, slots := 0, locals := 0 } vwCl (eWd yX10_withLetter cX10_withLetter 3 (some .long)) SSc SHc.length RX10 q.1 q.2 := List.forall_mem_cons.mpr ⟨lkX10_58 eTb_wd, fun _ h => absurd h List.not_mem_nil⟩
theorem hc_ta_withLetter {x : Int64 × eW} : ∀ q ∈ rs_ta_withLetter, eHc l { frames := 0, cells := 0, slots := 0, locals := 0 } ad D cA vwCl SHc SSc (eWd yX10_withLetter cX10_withLetter 3 (some .long)) RX10 cs_ta_withLetter x q := List.forall_mem_cons.mpr ⟨trivial, fun _ h => absurd h List.not_mem_nil⟩
set_option maxRecDepth 100000 in
set_option maxHeartbeats 4000000 in
theorem go_ta_withLetter (hcx : eCx p { frames := 0, cells := 0, slots := 0, locals := 0 } s m args meth c cX10_withLetter RX10 3 ad D cA vwCl SHc SSc (eWd yX10_withLetter cX10_withLetter 3 (some .long)) (some .long)) (a0 : Int64) (a2 : Int32) (w : eW) (x : Int64 × eW) (h : f_ta_withLetter a0 a2 w = some x) : eGq p l e { frames := 0, cells := 0, slots := 0, locals := 0 } s m args below meth c 3 ad D cA vwCl SHc rJ x 0 (eEnt [.long a0, .int a2]) [] w := by
  have h : eRun SHc SSc 3 rs_ta_withLetter (eCs cs_ta_withLetter) rJ CX10_withLetter [] (fun pc L st w => none) 13 true 0 [some (.long a0), none, some (.int a2)] [] w = some x := h
  refine eGo.wk (eRun_go hcx (eLnk_all lk_ta_withLetter) (eHc_all hc_ta_withLetter) rJ_ok dcX10_withLetter [] _ (fun pc L st w hK => ?_) 13 true 0 _ _ w h) (eLe_wk ⟨rfl, rfl, trivial⟩)
  cases hK
end
set_option maxRecDepth 100000 in
set_option maxHeartbeats 4000000 in
theorem ok_ta_withLetter {l : Launch} {ad : Nat → Nat} {D : va_G} {cA : Nat → ClassId} {ρ : Type} (as : List Value) (w : eW) (k : Option Value → eW → Option ρ) (x : ρ) (h : K_ta_withLetter as w k = some x) : ∃ (v : Option Value) (w2 : eW), k v w2 = some x ∧ eMet l ad D cA vwCl SHc SSc yX10_withLetter (eWd yX10_withLetter cX10_withLetter 3 (some .long)) { frames := 0, cells := 0, slots := 0, locals := 0 } as w v w2 := by
  unfold K_ta_withLetter at h
  split at h
  · rename_i a0 a2
    obtain ⟨q, h2, h3⟩ := Option.bind_eq_some_iff.mp h
    exact ⟨_, _, h3, eMet_of (by decide +kernel) rfl (by simp [eCat, Value.category]) rJ_ret (fun p e s m args below meth c hcx => go_ta_withLetter hcx a0 a2 w q h2)⟩
  · cases h
def CX10_scanWord : eCo := [[some (.aload_n 0), some (.lconst 0), some (.putfield 47), none, none, some (.aload_n 0), some (.getfield 19), none, none, some (.aload_n 0), some (.getfield 15), none, none, some (.if_icmp .ge 51), none, none],
  [some (.aload_n 0), some (.getfield 9), none, none, some (.aload_n 0), some (.getfield 19), none, none, some (.baload), some (.invokestatic 35), none, none, some (.ifCond .eq 36), none, none, some (.aload_n 0)],
  [some (.aload_n 0), some (.getfield 47), none, none, some (.aload_n 0), some (.getfield 9), none, none, some (.aload_n 0), some (.getfield 19), none, none, some (.baload), some (.invokestatic 51), none, none],
  [some (.putfield 47), none, none, some (.aload_n 0), some (.dup), some (.getfield 19), none, none, some (.iconst 1), some (.iadd), some (.putfield 19), none, none, some (.goto (-56)), none, none],
  [some (.aload_n 0), some (.aload_n 0), some (.getfield 19), none, none, some (.aload_n 0), some (.getfield 29), none, none, some (.isub), some (.bipush 7), none, some (.if_icmp .gt 7), none, none, some (.iconst 1)],
  [some (.goto 4), none, none, some (.iconst 4), some (.putfield 32), none, none, some (.return_)]]
theorem dcX10_scanWord : eDec cX10_scanWord CX10_scanWord := eDec_of (by decide +kernel)
def rs_ta_scanWord : List (Nat × eR) := [(9, (0, 9, 0, 2)), (15, (0, 9, 1, 0)), (19, (0, 9, 2, 0)), (29, (0, 9, 3, 0)), (32, (0, 9, 4, 0)), (35, (1, 0, 1, -1)), (47, (0, 9, 6, 1)), (51, (1, 1, 2, -1))]
noncomputable def cs_ta_scanWord : List (eF (eW)) := [K_ta_isLetter, K_ta_withLetter]
noncomputable def f_ta_scanWord_L5 : Nat → eW → Option (eW)
  | 0, _ => none
  | n + 1, w => (if (w.1 1 1) ≤ (w.1 1 2) then (if (7 : Int32) < ((w.1 1 2) - (w.1 1 3)) then (some (eU1 w 1 4 (4 : Int32))) else (some (eU1 w 1 4 (1 : Int32)))) else (eChk (w.1 1 2) 700 ((f_ta_isLetter (w.1 0 (Int32.toNatClampNeg (w.1 1 2))) w).bind fun p1 => (if p1.1 = 0 then (if (7 : Int32) < ((p1.2.1 1 2) - (p1.2.1 1 3)) then (some (eU1 p1.2 1 4 (4 : Int32))) else (some (eU1 p1.2 1 4 (1 : Int32)))) else (eChk (p1.2.1 1 2) 700 ((f_ta_withLetter (p1.2.2 1 6) (p1.2.1 0 (Int32.toNatClampNeg (p1.2.1 1 2))) p1.2).bind fun p2 => (f_ta_scanWord_L5 n (eU1 (eU2 p2.2 1 6 p2.1) 1 2 ((p2.2.1 1 2) + (1 : Int32))))))))))
noncomputable def f_ta_scanWord (w : eW) : Option (eW) := (f_ta_scanWord_L5 eFu (eU2 w 1 6 (0 : Int64)))
noncomputable def K_ta_scanWord {ρ : Type} : eF ρ := fun as w k => match as with
  | [.ref r0] => bif Nat.beq r0 1 then (f_ta_scanWord w).bind (fun w => k none w) else none
  | _ => none
section
variable {p : Program} {l : Launch} {e : Env} {s : State} {m : MethodId} {args : Array Value} {below : List Frame} {meth : Method} {c : Code} {ad : Nat → Nat} {D : va_G} {cA : Nat → ClassId}
theorem lk_ta_scanWord : ∀ q ∈ rs_ta_scanWord, eLnk { frames := 1, cells := 0, slots := 0, locals := 22 } vwCl (eWd yX10_scanWord cX10_scanWord 1 none) SSc SHc.length RX10 q.1 q.2 := List.forall_mem_cons.mpr ⟨lkX10_9 eTb_wd, List.forall_mem_cons.mpr ⟨lkX10_15 eTb_wd, List.forall_mem_cons.mpr ⟨lkX10_19 eTb_wd, List.forall_mem_cons.mpr ⟨lkX10_29 eTb_wd, List.forall_mem_cons.mpr ⟨lkX10_32 eTb_wd, List.forall_mem_cons.mpr ⟨trivial, List.forall_mem_cons.mpr ⟨lkX10_47 eTb_wd, List.forall_mem_cons.mpr ⟨trivial, fun _ h => absurd h List.not_mem_nil⟩⟩⟩⟩⟩⟩⟩⟩
theorem hc_ta_scanWord {x : eW} : ∀ q ∈ rs_ta_scanWord, eHc l { frames := 1, cells := 0, slots := 0, locals := 22 } ad D cA vwCl SHc SSc (eWd yX10_scanWord cX10_scanWord 1 none) RX10 cs_ta_scanWord x q := List.forall_mem_cons.mpr ⟨trivial, List.forall_mem_cons.mpr ⟨trivial, List.forall_mem_cons.mpr ⟨trivial, List.forall_mem_cons.mpr ⟨trivial, List.forall_mem_cons.mpr ⟨trivial, List.forall_mem_cons.mpr ⟨(fun as w k h => let ⟨v, w2, h1, h2⟩ := ok_ta_isLetter as w k x h; ⟨v, w2, h1, eCal_of h2 ⟨rfl, rfl⟩ hdX10_isLetter (gvX10_35 eTb_wd)⟩), List.forall_mem_cons.mpr ⟨trivial, List.forall_mem_cons.mpr ⟨(fun as w k h => let ⟨v, w2, h1, h2⟩ := ok_ta_withLetter as w k x h; ⟨v, w2, h1, eCal_of h2 ⟨rfl, rfl⟩ hdX10_withLetter (gvX10_51 eTb_wd)⟩), fun _ h => absurd h List.not_mem_nil⟩⟩⟩⟩⟩⟩⟩⟩
noncomputable def kk_ta_scanWord_5 (n : Nat) : eK (eW) := fun pc L st w => bif Nat.beq pc 5 then (lR L 0 1 (sE st (f_ta_scanWord_L5 n w))) else none
set_option maxRecDepth 100000 in
set_option maxHeartbeats 4000000 in
theorem go_ta_scanWord_L5 (hcx : eCx p { frames := 1, cells := 0, slots := 0, locals := 22 } s m args meth c cX10_scanWord RX10 1 ad D cA vwCl SHc SSc (eWd yX10_scanWord cX10_scanWord 1 none) (none)) {x : eW} : ∀ (n : Nat) (w : eW), f_ta_scanWord_L5  n w = some x → eGq p l e { frames := 1, cells := 0, slots := 0, locals := 22 } s m args below meth c 1 ad D cA vwCl SHc rV x 5 [some (.ref 1)] [] w := by
  intro n
  induction n with
  | zero => intro w h; exact nomatch (show (none : Option (eW)) = some x from h)
  | succ n ih =>
    intro w h
    have h : eRun SHc SSc 1 rs_ta_scanWord (eCs cs_ta_scanWord) rV CX10_scanWord [5] (kk_ta_scanWord_5  n) 32 true 5 [some (.ref 1)] [] w = some x := h
    refine eRun_go hcx (eLnk_all lk_ta_scanWord) (eHc_all hc_ta_scanWord) rV_ok dcX10_scanWord [5] _ (fun pc L st w hK => ?_) 32 true 5 _ _ w h
    unfold kk_ta_scanWord_5 at hK
    rcases eCut hK with ⟨hpc, hK⟩ | hK
    · subst hpc
      obtain ⟨e0, hK_1⟩ := lR_some hK
      obtain ⟨hst9, hK_2⟩ := sE_some hK_1
      subst hst9
      exact eGo.wk (ih w hK_2) (eLe_wk ⟨e0, trivial⟩)
    cases hK
set_option maxRecDepth 100000 in
set_option maxHeartbeats 4000000 in
theorem go_ta_scanWord (hcx : eCx p { frames := 1, cells := 0, slots := 0, locals := 22 } s m args meth c cX10_scanWord RX10 1 ad D cA vwCl SHc SSc (eWd yX10_scanWord cX10_scanWord 1 none) (none)) (w : eW) (x : eW) (h : f_ta_scanWord w = some x) : eGq p l e { frames := 1, cells := 0, slots := 0, locals := 22 } s m args below meth c 1 ad D cA vwCl SHc rV x 0 (eEnt [.ref 1]) [] w := by
  have h : eRun SHc SSc 1 rs_ta_scanWord (eCs cs_ta_scanWord) rV CX10_scanWord [5] (fun pc L st w => bif Nat.beq pc 5 then (lR L 0 1 (sE st (f_ta_scanWord_L5 eFu w))) else none) 6 true 0 [some (.ref 1)] [] w = some x := h
  refine eGo.wk (eRun_go hcx (eLnk_all lk_ta_scanWord) (eHc_all hc_ta_scanWord) rV_ok dcX10_scanWord [5] _ (fun pc L st w hK => ?_) 6 true 0 _ _ w h) (eLe_wk ⟨rfl, trivial⟩)
  rcases eCut hK with ⟨hpc, hK⟩ | hK
  · subst hpc
    obtain ⟨e0, hK_1⟩ := lR_some hK
    obtain ⟨hst9, hK_2⟩ := sE_some hK_1
    subst hst9
    exact eGo.wk (go_ta_scanWord_L5 hcx  eFu w hK_2) (eLe_wk ⟨e0, trivial⟩)
  cases hK
end
set_option maxRecDepth 100000 in
set_option maxHeartbeats 4000000 in
theorem ok_ta_scanWord {l : Launch} {ad : Nat → Nat} {D : va_G} {cA : Nat → ClassId} {ρ : Type} (as : List Value) (w : eW) (k : Option Value → eW → Option ρ) (x : ρ) (h : K_ta_scanWord as w k = some x) : ∃ (v : Option Value) (w2 : eW), k v w2 = some x ∧ eMet l ad D cA vwCl SHc SSc yX10_scanWord (eWd yX10_scanWord cX10_scanWord 1 none) { frames := 1, cells := 0, slots := 0, locals := 22 } as w v w2 := by
  unfold K_ta_scanWord at h
  split at h
  · rename_i r0
    obtain ⟨h1, h5⟩ := eBif h
    clear h
    have h := h5
    clear h5
    have h1 := Nat.eq_of_beq_eq_true h1
    subst h1
    obtain ⟨q, h2, h3⟩ := Option.bind_eq_some_iff.mp h
    exact ⟨_, _, h3, eMet_of (by decide +kernel) rfl (by simp [eCat, Value.category]) rV_ret (fun p e s m args below meth c hcx => go_ta_scanWord hcx w q h2)⟩
  · cases h
