def CX4_canTurn : eCo := [[some (.aload_n 0), some (.iload_n 1), some (.invokevirtual 43), none, none, some (.ifCond .eq 28), none, none, some (.aload_n 0), some (.iload_n 1), some (.bipush 6), none, some (.invokevirtual 39), none, none, some (.ifCond .eq 14)],
  [none, none, some (.aload_n 0), some (.iload_n 1), some (.bipush 7), none, some (.invokevirtual 39), none, none, some (.iconst (-1)), some (.if_icmp .eq 7), none, none, some (.iconst 1), some (.goto 4), none],
  [none, some (.iconst 0), some (.ireturn)]]
theorem dcX4_canTurn : eDec cX4_canTurn CX4_canTurn := eDec_of (by decide +kernel)
def rs_fi_canTurn : List (Nat × eR) := [(39, (1, 1, 2, 4)), (43, (1, 0, 1, 4))]
noncomputable def cs_fi_canTurn : List (eF (Int32 × eW)) := [K_fi_isClass, K_fi_fact]
noncomputable def f_fi_canTurn (a1 : Int32) (w : eW) : Option (Int32 × eW) := ((f_fi_isClass a1 w).bind fun p1 => (if p1.1 = 0 then (some ((0 : Int32), p1.2)) else ((f_fi_fact a1 (6 : Int32) p1.2).bind fun p2 => (if p2.1 = 0 then (some ((1 : Int32), p2.2)) else ((f_fi_fact a1 (7 : Int32) p2.2).bind fun p3 => (if p3.1 = (-1 : Int32) then (some ((0 : Int32), p3.2)) else (some ((1 : Int32), p3.2))))))))
noncomputable def K_fi_canTurn {ρ : Type} : eF ρ := fun as w k => match as with
  | [.ref r0, .int a1] => bif Nat.beq r0 8 then (f_fi_canTurn a1 w).bind (fun p => k (some (.int p.1)) p.2) else none
  | _ => none
section
variable {p : Program} {l : Launch} {e : Env} {s : State} {m : MethodId} {args : Array Value} {below : List Frame} {meth : Method} {c : Code} {ad : Nat → Nat} {D : va_G} {cA : Nat → ClassId}
theorem lk_fi_canTurn : ∀ q ∈ rs_fi_canTurn, eLnk { frames := 1, cells := 0, slots := 0, locals := 22 } vwCl (eWd yX4_canTurn cX4_canTurn 2 (some .boolean)) SSc SHc.length RX4 q.1 q.2 := List.forall_mem_cons.mpr ⟨trivial, List.forall_mem_cons.mpr ⟨trivial, fun _ h => absurd h List.not_mem_nil⟩⟩
theorem hc_fi_canTurn {x : Int32 × eW} : ∀ q ∈ rs_fi_canTurn, eHc l { frames := 1, cells := 0, slots := 0, locals := 22 } ad D cA vwCl SHc SSc (eWd yX4_canTurn cX4_canTurn 2 (some .boolean)) RX4 cs_fi_canTurn x q := List.forall_mem_cons.mpr ⟨(fun as w k h => let ⟨v, w2, h1, h2⟩ := ok_fi_fact as w k x h; ⟨v, w2, h1, eCal_of h2 ⟨rfl, rfl⟩ hdX4_fact (gvX4_39 eTb_wd)⟩), List.forall_mem_cons.mpr ⟨(fun as w k h => let ⟨v, w2, h1, h2⟩ := ok_fi_isClass as w k x h; ⟨v, w2, h1, eCal_of h2 ⟨rfl, rfl⟩ hdX4_isClass (gvX4_43 eTb_wd)⟩), fun _ h => absurd h List.not_mem_nil⟩⟩
set_option maxRecDepth 100000 in
set_option maxHeartbeats 4000000 in
theorem go_fi_canTurn (hcx : eCx p { frames := 1, cells := 0, slots := 0, locals := 22 } s m args meth c cX4_canTurn RX4 2 ad D cA vwCl SHc SSc (eWd yX4_canTurn cX4_canTurn 2 (some .boolean)) (some .boolean)) (a1 : Int32) (w : eW) (x : Int32 × eW) (h : f_fi_canTurn a1 w = some x) : eGq p l e { frames := 1, cells := 0, slots := 0, locals := 22 } s m args below meth c 2 ad D cA vwCl SHc rZ x 0 (eEnt [.ref 8, .int a1]) [] w := by
  have h : eRun SHc SSc 2 rs_fi_canTurn (eCs cs_fi_canTurn) rZ CX4_canTurn [] (fun pc L st w => none) 20 true 0 [some (.ref 8), some (.int a1)] [] w = some x := h
  refine eGo.wk (eRun_go hcx (eLnk_all lk_fi_canTurn) (eHc_all hc_fi_canTurn) rZ_ok dcX4_canTurn [] _ (fun pc L st w hK => ?_) 20 true 0 _ _ w h) (eLe_wk ⟨rfl, rfl, trivial⟩)
  cases hK
end
set_option maxRecDepth 100000 in
set_option maxHeartbeats 4000000 in
theorem ok_fi_canTurn {l : Launch} {ad : Nat → Nat} {D : va_G} {cA : Nat → ClassId} {ρ : Type} (as : List Value) (w : eW) (k : Option Value → eW → Option ρ) (x : ρ) (h : K_fi_canTurn as w k = some x) : ∃ (v : Option Value) (w2 : eW), k v w2 = some x ∧ eMet l ad D cA vwCl SHc SSc yX4_canTurn (eWd yX4_canTurn cX4_canTurn 2 (some .boolean)) { frames := 1, cells := 0, slots := 0, locals := 22 } as w v w2 := by
  unfold K_fi_canTurn at h
  split at h
  · rename_i r0 a1
    obtain ⟨h1, h5⟩ := eBif h
    clear h
    have h := h5
    clear h5
    have h1 := Nat.eq_of_beq_eq_true h1
    subst h1
    obtain ⟨q, h2, h3⟩ := Option.bind_eq_some_iff.mp h
    exact ⟨_, _, h3, eMet_of (by decide +kernel) rfl (by simp [eCat, Value.category]) rZ_ret (fun p e s m args below meth c hcx => go_fi_canTurn hcx a1 w q h2)⟩
  · cases h
def CX3_countPrefs : eCo := [[some (.aload_n 0), some (.dup), some (.getfield 45), none, none, some (.lload_n 2), some (.ladd), some (.putfield 45), none, none, some (.iload_n 1), some (.ifCond .lt 18), none, none, some (.iload_n 1), some (.iconst 5)],
  [some (.if_icmp .gt 13), none, none, some (.aload_n 0), some (.getfield 22), none, none, some (.iload_n 1), some (.dup2), some (.laload), some (.lload_n 2), some (.ladd), some (.lastore), some (.return_)]]
theorem dcX3_countPrefs : eDec cX3_countPrefs CX3_countPrefs := eDec_of (by decide +kernel)
def rs_fa_countPrefs : List (Nat × eR) := [(22, (0, 3, 2, 2)), (45, (0, 3, 3, 1))]
noncomputable def cs_fa_countPrefs : List (eF (eW)) := []
noncomputable def f_fa_countPrefs (a1 : Int32) (a2 : Int64) (w : eW) : Option (eW) := (if a1 < 0 then (some (eU2 w 24 3 ((w.2 24 3) + a2))) else (if (5 : Int32) < a1 then (some (eU2 w 24 3 ((w.2 24 3) + a2))) else (eChk a1 6 (eChk a1 6 (some (eU2 (eU2 w 24 3 ((w.2 24 3) + a2)) 21 (Int32.toNatClampNeg a1) ((w.2 21 (Int32.toNatClampNeg a1)) + a2)))))))
noncomputable def K_fa_countPrefs {ρ : Type} : eF ρ := fun as w k => match as with
  | [.ref r0, .int a1, .long a2] => bif Nat.beq r0 24 then (f_fa_countPrefs a1 a2 w).bind (fun w => k none w) else none
  | _ => none
section
variable {p : Program} {l : Launch} {e : Env} {s : State} {m : MethodId} {args : Array Value} {below : List Frame} {meth : Method} {c : Code} {ad : Nat → Nat} {D : va_G} {cA : Nat → ClassId}
theorem lk_fa_countPrefs : ∀ q ∈ rs_fa_countPrefs, eLnk { frames := 0, cells := 0, slots := 0, locals := 0 } vwCl (eWd yX3_countPrefs cX3_countPrefs 4 none) SSc SHc.length RX3 q.1 q.2 := List.forall_mem_cons.mpr ⟨lkX3_22 eTb_wd, List.forall_mem_cons.mpr ⟨lkX3_45 eTb_wd, fun _ h => absurd h List.not_mem_nil⟩⟩
theorem hc_fa_countPrefs {x : eW} : ∀ q ∈ rs_fa_countPrefs, eHc l { frames := 0, cells := 0, slots := 0, locals := 0 } ad D cA vwCl SHc SSc (eWd yX3_countPrefs cX3_countPrefs 4 none) RX3 cs_fa_countPrefs x q := List.forall_mem_cons.mpr ⟨trivial, List.forall_mem_cons.mpr ⟨trivial, fun _ h => absurd h List.not_mem_nil⟩⟩
set_option maxRecDepth 100000 in
set_option maxHeartbeats 4000000 in
theorem go_fa_countPrefs (hcx : eCx p { frames := 0, cells := 0, slots := 0, locals := 0 } s m args meth c cX3_countPrefs RX3 4 ad D cA vwCl SHc SSc (eWd yX3_countPrefs cX3_countPrefs 4 none) (none)) (a1 : Int32) (a2 : Int64) (w : eW) (x : eW) (h : f_fa_countPrefs a1 a2 w = some x) : eGq p l e { frames := 0, cells := 0, slots := 0, locals := 0 } s m args below meth c 4 ad D cA vwCl SHc rV x 0 (eEnt [.ref 24, .int a1, .long a2]) [] w := by
  have h : eRun SHc SSc 4 rs_fa_countPrefs (eCs cs_fa_countPrefs) rV CX3_countPrefs [] (fun pc L st w => none) 22 true 0 [some (.ref 24), some (.int a1), some (.long a2), none] [] w = some x := h
  refine eGo.wk (eRun_go hcx (eLnk_all lk_fa_countPrefs) (eHc_all hc_fa_countPrefs) rV_ok dcX3_countPrefs [] _ (fun pc L st w hK => ?_) 22 true 0 _ _ w h) (eLe_wk ⟨rfl, rfl, rfl, trivial⟩)
  cases hK
end
set_option maxRecDepth 100000 in
set_option maxHeartbeats 4000000 in
theorem ok_fa_countPrefs {l : Launch} {ad : Nat → Nat} {D : va_G} {cA : Nat → ClassId} {ρ : Type} (as : List Value) (w : eW) (k : Option Value → eW → Option ρ) (x : ρ) (h : K_fa_countPrefs as w k = some x) : ∃ (v : Option Value) (w2 : eW), k v w2 = some x ∧ eMet l ad D cA vwCl SHc SSc yX3_countPrefs (eWd yX3_countPrefs cX3_countPrefs 4 none) { frames := 0, cells := 0, slots := 0, locals := 0 } as w v w2 := by
  unfold K_fa_countPrefs at h
  split at h
  · rename_i r0 a1 a2
    obtain ⟨h1, h5⟩ := eBif h
    clear h
    have h := h5
    clear h5
    have h1 := Nat.eq_of_beq_eq_true h1
    subst h1
    obtain ⟨q, h2, h3⟩ := Option.bind_eq_some_iff.mp h
    exact ⟨_, _, h3, eMet_of (by decide +kernel) rfl (by simp [eCat, Value.category]) rV_ret (fun p e s m args below meth c hcx => go_fa_countPrefs hcx a1 a2 w q h2)⟩
  · cases h
def CX4_lidOf : eCo := [[some (.aload_n 0), some (.iload_n 1), some (.bipush 6), none, some (.invokevirtual 39), none, none, some (.ifCond .ne 7), none, none, some (.iload_n 2), some (.goto 21), none, none, some (.iload_n 2), some (.aload_n 0)],
  [some (.iload_n 1), some (.iconst 2), some (.invokevirtual 39), none, none, some (.aload_n 0), some (.iload_n 1), some (.bipush 7), none, some (.invokevirtual 39), none, none, some (.imul), some (.invokestatic 49), none, none],
  [some (.ireturn)]]
theorem dcX4_lidOf : eDec cX4_lidOf CX4_lidOf := eDec_of (by decide +kernel)
def rs_fi_lidOf : List (Nat × eR) := [(39, (1, 0, 2, 4)), (49, (6, 0, 0, 0))]
noncomputable def cs_fi_lidOf : List (eF (Int32 × eW)) := [K_fi_fact]
noncomputable def f_fi_lidOf (a1 : Int32) (a2 : Int32) (w : eW) : Option (Int32 × eW) := ((f_fi_fact a1 (6 : Int32) w).bind fun p1 => (if ¬ p1.1 = 0 then ((f_fi_fact a1 (2 : Int32) p1.2).bind fun p2 => ((f_fi_fact a1 (7 : Int32) p2.2).bind fun p3 => (some ((if a2 < (p2.1 * p3.1) then (p2.1 * p3.1) else a2), p3.2)))) else (some (a2, p1.2))))
noncomputable def K_fi_lidOf {ρ : Type} : eF ρ := fun as w k => match as with
  | [.ref r0, .int a1, .int a2] => bif Nat.beq r0 8 then (f_fi_lidOf a1 a2 w).bind (fun p => k (some (.int p.1)) p.2) else none
  | _ => none
section
variable {p : Program} {l : Launch} {e : Env} {s : State} {m : MethodId} {args : Array Value} {below : List Frame} {meth : Method} {c : Code} {ad : Nat → Nat} {D : va_G} {cA : Nat → ClassId}
theorem lk_fi_lidOf : ∀ q ∈ rs_fi_lidOf, eLnk { frames := 1, cells := 0, slots := 0, locals := 60 } vwCl (eWd yX4_lidOf cX4_lidOf 3 (some .int)) SSc SHc.length RX4 q.1 q.2 := List.forall_mem_cons.mpr ⟨trivial, List.forall_mem_cons.mpr ⟨lkX4_49 ⟨by decide, by decide⟩ eTb_wd, fun _ h => absurd h List.not_mem_nil⟩⟩
theorem hc_fi_lidOf {x : Int32 × eW} : ∀ q ∈ rs_fi_lidOf, eHc l { frames := 1, cells := 0, slots := 0, locals := 60 } ad D cA vwCl SHc SSc (eWd yX4_lidOf cX4_lidOf 3 (some .int)) RX4 cs_fi_lidOf x q := List.forall_mem_cons.mpr ⟨(fun as w k h => let ⟨v, w2, h1, h2⟩ := ok_fi_fact as w k x h; ⟨v, w2, h1, eCal_of h2 ⟨rfl, rfl⟩ hdX4_fact (gvX4_39 eTb_wd)⟩), List.forall_mem_cons.mpr ⟨trivial, fun _ h => absurd h List.not_mem_nil⟩⟩
set_option maxRecDepth 100000 in
set_option maxHeartbeats 4000000 in
theorem go_fi_lidOf (hcx : eCx p { frames := 1, cells := 0, slots := 0, locals := 60 } s m args meth c cX4_lidOf RX4 3 ad D cA vwCl SHc SSc (eWd yX4_lidOf cX4_lidOf 3 (some .int)) (some .int)) (a1 : Int32) (a2 : Int32) (w : eW) (x : Int32 × eW) (h : f_fi_lidOf a1 a2 w = some x) : eGq p l e { frames := 1, cells := 0, slots := 0, locals := 60 } s m args below meth c 3 ad D cA vwCl SHc rI x 0 (eEnt [.ref 8, .int a1, .int a2]) [] w := by
  have h : eRun SHc SSc 3 rs_fi_lidOf (eCs cs_fi_lidOf) rI CX4_lidOf [] (fun pc L st w => none) 19 true 0 [some (.ref 8), some (.int a1), some (.int a2)] [] w = some x := h
  refine eGo.wk (eRun_go hcx (eLnk_all lk_fi_lidOf) (eHc_all hc_fi_lidOf) rI_ok dcX4_lidOf [] _ (fun pc L st w hK => ?_) 19 true 0 _ _ w h) (eLe_wk ⟨rfl, rfl, rfl, trivial⟩)
  cases hK
end
set_option maxRecDepth 100000 in
set_option maxHeartbeats 4000000 in
theorem ok_fi_lidOf {l : Launch} {ad : Nat → Nat} {D : va_G} {cA : Nat → ClassId} {ρ : Type} (as : List Value) (w : eW) (k : Option Value → eW → Option ρ) (x : ρ) (h : K_fi_lidOf as w k = some x) : ∃ (v : Option Value) (w2 : eW), k v w2 = some x ∧ eMet l ad D cA vwCl SHc SSc yX4_lidOf (eWd yX4_lidOf cX4_lidOf 3 (some .int)) { frames := 1, cells := 0, slots := 0, locals := 60 } as w v w2 := by
  unfold K_fi_lidOf at h
  split at h
  · rename_i r0 a1 a2
    obtain ⟨h1, h5⟩ := eBif h
    clear h
    have h := h5
    clear h5
    have h1 := Nat.eq_of_beq_eq_true h1
    subst h1
    obtain ⟨q, h2, h3⟩ := Option.bind_eq_some_iff.mp h
    exact ⟨_, _, h3, eMet_of (by decide +kernel) rfl (by simp [eCat, Value.category]) rI_ret (fun p e s m args below meth c hcx => go_fi_lidOf hcx a1 a2 w q h2)⟩
  · cases h
def CX3_addClass : eCo := [[some (.aload_n 1), some (.iload_n 2), some (.iconst 1), some (.invokevirtual 54), none, none, some (.i2l), some (.lstore 5), none, some (.aload_n 1), some (.iload_n 2), some (.iconst 5), some (.invokevirtual 54), none, none, some (.istore 7)],
  [none, some (.lload 5), none, some (.iload 7), none, some (.i2l), some (.lmul), some (.lstore 8), none, some (.aload_n 1), some (.iload_n 2), some (.invokevirtual 80), none, none, some (.istore 10), none],
  [some (.iload_n 3), some (.ifCond .eq 24), none, none, some (.iload 4), none, some (.ifCond .eq 19), none, none, some (.iload 10), none, some (.ifCond .eq 14), none, none, some (.aload_n 0), some (.getfield 12)],
  [none, none, some (.lconst 0), some (.lload 8), none, some (.invokevirtual 72), none, none, some (.return_), some (.aload_n 1), some (.iload_n 2), some (.invokevirtual 83), none, none, some (.istore 11), none],
  [some (.aload_n 0), some (.getfield 12), none, none, some (.lload 5), none, some (.iload 11), none, some (.i2l), some (.lmul), some (.lload 8), none, some (.invokevirtual 72), none, none, some (.aload_n 0)],
  [some (.aload_n 0), some (.getfield 18), none, none, some (.iload_n 2), some (.iaload), some (.lload 5), none, some (.iload 11), none, some (.i2l), some (.lmul), some (.invokevirtual 87), none, none, some (.iload 10)],
  [none, some (.ifCond .ne 4), none, none, some (.return_), some (.aload_n 1), some (.iload_n 2), some (.iload 11), none, some (.invokevirtual 91), none, none, some (.istore 12), none, some (.aload_n 0), some (.getfield 12)],
  [none, none, some (.iload 12), none, some (.iload 11), none, some (.isub), some (.iload 7), none, some (.lload 5), none, some (.iload 12), none, some (.iload 11), none, some (.isub)],
  [some (.i2l), some (.lmul), some (.lload 8), none, some (.lneg), some (.invokevirtual 76), none, none, some (.iload_n 3), some (.ifCond .ne 23), none, none, some (.aload_n 0), some (.getfield 12), none, none],
  [some (.iload 12), none, some (.iload 7), none, some (.lload 5), none, some (.lneg), some (.iload 12), none, some (.i2l), some (.lmul), some (.lload 8), none, some (.invokevirtual 76), none, none],
  [some (.return_)]]
theorem dcX3_addClass : eDec cX3_addClass CX3_addClass := eDec_of (by decide +kernel)
def rs_fa_addClass : List (Nat × eR) := [(12, (0, 3, 0, 2)), (18, (0, 3, 1, 2)), (54, (1, 0, 2, 4)), (72, (1, 2, 2, 2)), (76, (1, 6, 4, 2)), (80, (1, 1, 1, 4)), (83, (1, 3, 1, 4)), (87, (1, 4, 2, 3)), (91, (1, 5, 2, 4))]
noncomputable def cs_fa_addClass : List (eF (eW)) := [K_fi_fact, K_fi_canTurn, K_cu_addHolder, K_fi_prefOf, K_fa_countPrefs, K_fi_lidOf, K_cu_addStep]
noncomputable def f_fa_addClass_J57 (a2 : Int32) (a3 : Int32) (a5 : Int64) (a7 : Int32) (a8 : Int64) (a10 : Int32) (w : eW) : Option (eW) := ((f_fi_prefOf a2 w).bind fun p5 => ((f_cu_addHolder (a5 * ((p5.1).toInt64)) a8 p5.2).bind fun w6 => (eChk a2 12 ((f_fa_countPrefs (w6.1 20 (Int32.toNatClampNeg a2)) (a5 * ((p5.1).toInt64)) w6).bind fun w7 => (if ¬ a10 = 0 then ((f_fi_lidOf a2 p5.1 w7).bind fun p8 => ((f_cu_addStep (p8.1 - p5.1) a7 (a5 * (((p8.1 - p5.1)).toInt64)) (-a8) p8.2).bind fun w9 => (if ¬ a3 = 0 then (some w9) else ((f_cu_addStep p8.1 a7 ((-a5) * ((p8.1).toInt64)) a8 w9).bind fun w10 => (some w10))))) else (some w7))))))
noncomputable def f_fa_addClass (a2 : Int32) (a3 : Int32) (a4 : Int32) (w : eW) : Option (eW) := ((f_fi_fact a2 (1 : Int32) w).bind fun p1 => ((f_fi_fact a2 (5 : Int32) p1.2).bind fun p2 => ((f_fi_canTurn a2 p2.2).bind fun p3 => (if a3 = 0 then (f_fa_addClass_J57 a2 a3 ((p1.1).toInt64) p2.1 (((p1.1).toInt64) * ((p2.1).toInt64)) p3.1 p3.2) else (if a4 = 0 then (f_fa_addClass_J57 a2 a3 ((p1.1).toInt64) p2.1 (((p1.1).toInt64) * ((p2.1).toInt64)) p3.1 p3.2) else (if p3.1 = 0 then (f_fa_addClass_J57 a2 a3 ((p1.1).toInt64) p2.1 (((p1.1).toInt64) * ((p2.1).toInt64)) p3.1 p3.2) else ((f_cu_addHolder (0 : Int64) (((p1.1).toInt64) * ((p2.1).toInt64)) p3.2).bind fun w4 => (some w4))))))))
noncomputable def K_fa_addClass {ρ : Type} : eF ρ := fun as w k => match as with
  | [.ref r0, .ref r1, .int a2, .int a3, .int a4] => bif Nat.beq r0 24 then (bif Nat.beq r1 8 then (f_fa_addClass a2 a3 a4 w).bind (fun w => k none w) else none) else none
  | _ => none
section
variable {p : Program} {l : Launch} {e : Env} {s : State} {m : MethodId} {args : Array Value} {below : List Frame} {meth : Method} {c : Code} {ad : Nat → Nat} {D : va_G} {cA : Nat → ClassId}
theorem lk_fa_addClass : ∀ q ∈ rs_fa_addClass, eLnk { frames := 2, cells := 0, slots := 0, locals := 82 } vwCl (eWd yX3_addClass cX3_addClass 13 none) SSc SHc.length RX3 q.1 q.2 := List.forall_mem_cons.mpr ⟨lkX3_12 eTb_wd, List.forall_mem_cons.mpr ⟨lkX3_18 eTb_wd, List.forall_mem_cons.mpr ⟨trivial, List.forall_mem_cons.mpr ⟨trivial, List.forall_mem_cons.mpr ⟨trivial, List.forall_mem_cons.mpr ⟨trivial, List.forall_mem_cons.mpr ⟨trivial, List.forall_mem_cons.mpr ⟨trivial, List.forall_mem_cons.mpr ⟨trivial, fun _ h => absurd h List.not_mem_nil⟩⟩⟩⟩⟩⟩⟩⟩⟩
theorem hc_fa_addClass {x : eW} : ∀ q ∈ rs_fa_addClass, eHc l { frames := 2, cells := 0, slots := 0, locals := 82 } ad D cA vwCl SHc SSc (eWd yX3_addClass cX3_addClass 13 none) RX3 cs_fa_addClass x q := List.forall_mem_cons.mpr ⟨trivial, List.forall_mem_cons.mpr ⟨trivial, List.forall_mem_cons.mpr ⟨(fun as w k h => let ⟨v, w2, h1, h2⟩ := ok_fi_fact as w k x h; ⟨v, w2, h1, eCal_of h2 ⟨rfl, rfl⟩ hdX4_fact (gvX3_54 eTb_wd)⟩), List.forall_mem_cons.mpr ⟨(fun as w k h => let ⟨v, w2, h1, h2⟩ := ok_cu_addHolder as w k x h; ⟨v, w2, h1, eCal_of h2 ⟨rfl, rfl⟩ hdX2_addHolder (gvX3_72 eTb_wd)⟩), List.forall_mem_cons.mpr ⟨(fun as w k h => let ⟨v, w2, h1, h2⟩ := ok_cu_addStep as w k x h; ⟨v, w2, h1, eCal_of h2 ⟨rfl, rfl⟩ hdX2_addStep (gvX3_76 eTb_wd)⟩), List.forall_mem_cons.mpr ⟨(fun as w k h => let ⟨v, w2, h1, h2⟩ := ok_fi_canTurn as w k x h; ⟨v, w2, h1, eCal_of h2 ⟨rfl, rfl⟩ hdX4_canTurn (gvX3_80 eTb_wd)⟩), List.forall_mem_cons.mpr ⟨(fun as w k h => let ⟨v, w2, h1, h2⟩ := ok_fi_prefOf as w k x h; ⟨v, w2, h1, eCal_of h2 ⟨rfl, rfl⟩ hdX4_prefOf (gvX3_83 eTb_wd)⟩), List.forall_mem_cons.mpr ⟨(fun as w k h => let ⟨v, w2, h1, h2⟩ := ok_fa_countPrefs as w k x h; ⟨v, w2, h1, eCal_of h2 ⟨rfl, rfl⟩ hdX3_countPrefs (gvX3_87 eTb_wd)⟩), List.forall_mem_cons.mpr ⟨(fun as w k h => let ⟨v, w2, h1, h2⟩ := ok_fi_lidOf as w k x h; ⟨v, w2, h1, eCal_of h2 ⟨rfl, rfl⟩ hdX4_lidOf (gvX3_91 eTb_wd)⟩), fun _ h => absurd h List.not_mem_nil⟩⟩⟩⟩⟩⟩⟩⟩⟩
noncomputable def kk_fa_addClass_57 : eK (eW) := fun pc L st w => none
set_option maxRecDepth 100000 in
set_option maxHeartbeats 4000000 in
theorem go_fa_addClass_J57 (hcx : eCx p { frames := 2, cells := 0, slots := 0, locals := 82 } s m args meth c cX3_addClass RX3 13 ad D cA vwCl SHc SSc (eWd yX3_addClass cX3_addClass 13 none) (none)) {x : eW} : ∀ (a2 : Int32) (a3 : Int32) (a5 : Int64) (a7 : Int32) (a8 : Int64) (a10 : Int32) (w : eW), f_fa_addClass_J57  a2 a3 a5 a7 a8 a10 w = some x → eGq p l e { frames := 2, cells := 0, slots := 0, locals := 82 } s m args below meth c 13 ad D cA vwCl SHc rV x 57 [some (.ref 24), some (.ref 8), some (.int a2), some (.int a3), none, some (.long a5), none, some (.int a7), some (.long a8), none, some (.int a10), none, none] [] w := by
  intro a2 a3 a5 a7 a8 a10 w h
  have h : eRun SHc SSc 13 rs_fa_addClass (eCs cs_fa_addClass) rV CX3_addClass [57] (kk_fa_addClass_57 ) 60 true 57 [some (.ref 24), some (.ref 8), some (.int a2), some (.int a3), none, some (.long a5), none, some (.int a7), some (.long a8), none, some (.int a10), none, none] [] w = some x := h
  refine eRun_go hcx (eLnk_all lk_fa_addClass) (eHc_all hc_fa_addClass) rV_ok dcX3_addClass [57] _ (fun pc L st w hK => ?_) 60 true 57 _ _ w h
  unfold kk_fa_addClass_57 at hK
  cases hK
set_option maxRecDepth 100000 in
set_option maxHeartbeats 4000000 in
theorem go_fa_addClass (hcx : eCx p { frames := 2, cells := 0, slots := 0, locals := 82 } s m args meth c cX3_addClass RX3 13 ad D cA vwCl SHc SSc (eWd yX3_addClass cX3_addClass 13 none) (none)) (a2 : Int32) (a3 : Int32) (a4 : Int32) (w : eW) (x : eW) (h : f_fa_addClass a2 a3 a4 w = some x) : eGq p l e { frames := 2, cells := 0, slots := 0, locals := 82 } s m args below meth c 13 ad D cA vwCl SHc rV x 0 (eEnt [.ref 24, .ref 8, .int a2, .int a3, .int a4]) [] w := by
  have h : eRun SHc SSc 13 rs_fa_addClass (eCs cs_fa_addClass) rV CX3_addClass [57] (fun pc L st w => bif Nat.beq pc 57 then (lR L 0 24 (lR L 1 8 ((lI L 2).bind fun a2 => (lI L 3).bind fun a3 => (lJ L 5).bind fun a5 => (lI L 7).bind fun a7 => (lJ L 8).bind fun a8 => (lI L 10).bind fun a10 => sE st (f_fa_addClass_J57 a2 a3 a5 a7 a8 a10 w)))) else none) 34 true 0 [some (.ref 24), some (.ref 8), some (.int a2), some (.int a3), some (.int a4), none, none, none, none, none, none, none, none] [] w = some x := h
  refine eGo.wk (eRun_go hcx (eLnk_all lk_fa_addClass) (eHc_all hc_fa_addClass) rV_ok dcX3_addClass [57] _ (fun pc L st w hK => ?_) 34 true 0 _ _ w h) (eLe_wk ⟨rfl, rfl, rfl, rfl, rfl, trivial⟩)
  rcases eCut hK with ⟨hpc, hK⟩ | hK
  · subst hpc
    obtain ⟨e0, hK_1⟩ := lR_some hK
    obtain ⟨e1, hK_2⟩ := lR_some hK_1
    obtain ⟨a2, e2, hK_3⟩ := lI_some hK_2
    obtain ⟨a3, e3, hK_4⟩ := lI_some hK_3
    obtain ⟨a5, e5, hK_5⟩ := lJ_some hK_4
    obtain ⟨a7, e7, hK_6⟩ := lI_some hK_5
    obtain ⟨a8, e8, hK_7⟩ := lJ_some hK_6
    obtain ⟨a10, e10, hK_8⟩ := lI_some hK_7
    obtain ⟨hst9, hK_9⟩ := sE_some hK_8
    subst hst9
    exact eGo.wk (go_fa_addClass_J57 hcx  a2 a3 a5 a7 a8 a10 w hK_9) (eLe_wk ⟨e0, e1, e2, e3, e5, e7, e8, e10, trivial⟩)
  cases hK
end
set_option maxRecDepth 100000 in
set_option maxHeartbeats 4000000 in
theorem ok_fa_addClass {l : Launch} {ad : Nat → Nat} {D : va_G} {cA : Nat → ClassId} {ρ : Type} (as : List Value) (w : eW) (k : Option Value → eW → Option ρ) (x : ρ) (h : K_fa_addClass as w k = some x) : ∃ (v : Option Value) (w2 : eW), k v w2 = some x ∧ eMet l ad D cA vwCl SHc SSc yX3_addClass (eWd yX3_addClass cX3_addClass 13 none) { frames := 2, cells := 0, slots := 0, locals := 82 } as w v w2 := by
  unfold K_fa_addClass at h
  split at h
  · rename_i r0 r1 a2 a3 a4
    obtain ⟨h1, h5⟩ := eBif h
    clear h
    have h := h5
    clear h5
    have h1 := Nat.eq_of_beq_eq_true h1
    subst h1
    obtain ⟨h1, h5⟩ := eBif h
    clear h
    have h := h5
    clear h5
    have h1 := Nat.eq_of_beq_eq_true h1
    subst h1
    obtain ⟨q, h2, h3⟩ := Option.bind_eq_some_iff.mp h
    exact ⟨_, _, h3, eMet_of (by decide +kernel) rfl (by simp [eCat, Value.category]) rV_ret (fun p e s m args below meth c hcx => go_fa_addClass hcx a2 a3 a4 w q h2)⟩
  · cases h
