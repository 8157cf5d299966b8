def CX2_clear : eCo := [[some (.aload_n 0), some (.iconst 0), some (.putfield 43), none, none, some (.aload_n 0), some (.iconst 0), some (.putfield 47), none, none, some (.return_)]]
theorem dcX2_clear : eDec cX2_clear CX2_clear := eDec_of (by decide +kernel)
def rs_cu_clear : List (Nat × eR) := [(43, (0, 2, 0, 0)), (47, (0, 2, 7, 0))]
noncomputable def cs_cu_clear : List (eF (eW)) := []
noncomputable def f_cu_clear (w : eW) : Option (eW) := (some (eU1 (eU1 w 19 0 (0 : Int32)) 19 7 (0 : Int32)))
noncomputable def K_cu_clear {ρ : Type} : eF ρ := fun as w k => match as with
  | [.ref r0] => bif Nat.beq r0 19 then (f_cu_clear w).bind (fun w => k none w) else none
  | _ => none
section
variable {p : Program} {l : Launch} {e : Env} {s : State} {m : MethodId} {args : Array Value} {below : List Frame} {meth : Method} {c : Code} {ad : Nat → Nat} {D : va_G} {cA : Nat → ClassId}
theorem lk_cu_clear : ∀ q ∈ rs_cu_clear, eLnk { frames := 0, cells := 0, slots := 0, locals := 0 } vwCl (eWd yX2_clear cX2_clear 1 none) SSc SHc.length RX2 q.1 q.2 := List.forall_mem_cons.mpr ⟨lkX2_43 eTb_wd, List.forall_mem_cons.mpr ⟨lkX2_47 eTb_wd, fun _ h => absurd h List.not_mem_nil⟩⟩
theorem hc_cu_clear {x : eW} : ∀ q ∈ rs_cu_clear, eHc l { frames := 0, cells := 0, slots := 0, locals := 0 } ad D cA vwCl SHc SSc (eWd yX2_clear cX2_clear 1 none) RX2 cs_cu_clear x q := List.forall_mem_cons.mpr ⟨trivial, List.forall_mem_cons.mpr ⟨trivial, fun _ h => absurd h List.not_mem_nil⟩⟩
set_option maxRecDepth 100000 in
set_option maxHeartbeats 4000000 in
theorem go_cu_clear (hcx : eCx p { frames := 0, cells := 0, slots := 0, locals := 0 } s m args meth c cX2_clear RX2 1 ad D cA vwCl SHc SSc (eWd yX2_clear cX2_clear 1 none) (none)) (w : eW) (x : eW) (h : f_cu_clear w = some x) : eGq p l e { frames := 0, cells := 0, slots := 0, locals := 0 } s m args below meth c 1 ad D cA vwCl SHc rV x 0 (eEnt [.ref 19]) [] w := by
  have h : eRun SHc SSc 1 rs_cu_clear (eCs cs_cu_clear) rV CX2_clear [] (fun pc L st w => none) 9 true 0 [some (.ref 19)] [] w = some x := h
  refine eGo.wk (eRun_go hcx (eLnk_all lk_cu_clear) (eHc_all hc_cu_clear) rV_ok dcX2_clear [] _ (fun pc L st w hK => ?_) 9 true 0 _ _ w h) (eLe_wk ⟨rfl, trivial⟩)
  cases hK
end
set_option maxRecDepth 100000 in
set_option maxHeartbeats 4000000 in
theorem ok_cu_clear {l : Launch} {ad : Nat → Nat} {D : va_G} {cA : Nat → ClassId} {ρ : Type} (as : List Value) (w : eW) (k : Option Value → eW → Option ρ) (x : ρ) (h : K_cu_clear as w k = some x) : ∃ (v : Option Value) (w2 : eW), k v w2 = some x ∧ eMet l ad D cA vwCl SHc SSc yX2_clear (eWd yX2_clear cX2_clear 1 none) { frames := 0, cells := 0, slots := 0, locals := 0 } as w v w2 := by
  unfold K_cu_clear at h
  split at h
  · rename_i r0
    obtain ⟨h1, h5⟩ := eBif h
    clear h
    have h := h5
    clear h5
    have h1 := Nat.eq_of_beq_eq_true h1
    subst h1
    obtain ⟨q, h2, h3⟩ := Option.bind_eq_some_iff.mp h
    exact ⟨_, _, h3, eMet_of (by decide +kernel) rfl (by simp [eCat, Value.category]) rV_ret (fun p e s m args below meth c hcx => go_cu_clear hcx w q h2)⟩
  · cases h
def CX2_addHolder : eCo := [[some (.aload_n 0), some (.getfield 43), none, none, some (.bipush 12), none, some (.if_icmp .ge 33), none, none, some (.aload_n 0), some (.getfield 9), none, none, some (.aload_n 0), some (.getfield 43), none],
  [none, some (.lload_n 1), some (.lastore), some (.aload_n 0), some (.getfield 15), none, none, some (.aload_n 0), some (.getfield 43), none, none, some (.lload_n 3), some (.lastore), some (.aload_n 0), some (.dup), some (.getfield 43)],
  [none, none, some (.iconst 1), some (.iadd), some (.putfield 43), none, none, some (.return_)]]
theorem dcX2_addHolder : eDec cX2_addHolder CX2_addHolder := eDec_of (by decide +kernel)
def rs_cu_addHolder : List (Nat × eR) := [(9, (0, 2, 1, 2)), (15, (0, 2, 2, 2)), (43, (0, 2, 0, 0))]
noncomputable def cs_cu_addHolder : List (eF (eW)) := []
noncomputable def f_cu_addHolder (a1 : Int64) (a3 : Int64) (w : eW) : Option (eW) := (if (12 : Int32) ≤ (w.1 19 0) then (some w) else (eChk (w.1 19 0) 12 (eChk (w.1 19 0) 12 (some (eU1 (eU2 (eU2 w 9 (Int32.toNatClampNeg (w.1 19 0)) a1) 10 (Int32.toNatClampNeg (w.1 19 0)) a3) 19 0 ((w.1 19 0) + (1 : Int32)))))))
noncomputable def K_cu_addHolder {ρ : Type} : eF ρ := fun as w k => match as with
  | [.ref r0, .long a1, .long a3] => bif Nat.beq r0 19 then (f_cu_addHolder a1 a3 w).bind (fun w => k none w) else none
  | _ => none
section
variable {p : Program} {l : Launch} {e : Env} {s : State} {m : MethodId} {args : Array Value} {below : List Frame} {meth : Method} {c : Code} {ad : Nat → Nat} {D : va_G} {cA : Nat → ClassId}
theorem lk_cu_addHolder : ∀ q ∈ rs_cu_addHolder, eLnk { frames := 0, cells := 0, slots := 0, locals := 0 } vwCl (eWd yX2_addHolder cX2_addHolder 5 none) SSc SHc.length RX2 q.1 q.2 := List.forall_mem_cons.mpr ⟨lkX2_9 eTb_wd, List.forall_mem_cons.mpr ⟨lkX2_15 eTb_wd, List.forall_mem_cons.mpr ⟨lkX2_43 eTb_wd, fun _ h => absurd h List.not_mem_nil⟩⟩⟩
theorem hc_cu_addHolder {x : eW} : ∀ q ∈ rs_cu_addHolder, eHc l { frames := 0, cells := 0, slots := 0, locals := 0 } ad D cA vwCl SHc SSc (eWd yX2_addHolder cX2_addHolder 5 none) RX2 cs_cu_addHolder x q := List.forall_mem_cons.mpr ⟨trivial, List.forall_mem_cons.mpr ⟨trivial, List.forall_mem_cons.mpr ⟨trivial, fun _ h => absurd h List.not_mem_nil⟩⟩⟩
set_option maxRecDepth 100000 in
set_option maxHeartbeats 4000000 in
theorem go_cu_addHolder (hcx : eCx p { frames := 0, cells := 0, slots := 0, locals := 0 } s m args meth c cX2_addHolder RX2 5 ad D cA vwCl SHc SSc (eWd yX2_addHolder cX2_addHolder 5 none) (none)) (a1 : Int64) (a3 : Int64) (w : eW) (x : eW) (h : f_cu_addHolder a1 a3 w = some x) : eGq p l e { frames := 0, cells := 0, slots := 0, locals := 0 } s m args below meth c 5 ad D cA vwCl SHc rV x 0 (eEnt [.ref 19, .long a1, .long a3]) [] w := by
  have h : eRun SHc SSc 5 rs_cu_addHolder (eCs cs_cu_addHolder) rV CX2_addHolder [] (fun pc L st w => none) 25 true 0 [some (.ref 19), some (.long a1), none, some (.long a3), none] [] w = some x := h
  refine eGo.wk (eRun_go hcx (eLnk_all lk_cu_addHolder) (eHc_all hc_cu_addHolder) rV_ok dcX2_addHolder [] _ (fun pc L st w hK => ?_) 25 true 0 _ _ w h) (eLe_wk ⟨rfl, rfl, rfl, trivial⟩)
  cases hK
end
set_option maxRecDepth 100000 in
set_option maxHeartbeats 4000000 in
theorem ok_cu_addHolder {l : Launch} {ad : Nat → Nat} {D : va_G} {cA : Nat → ClassId} {ρ : Type} (as : List Value) (w : eW) (k : Option Value → eW → Option ρ) (x : ρ) (h : K_cu_addHolder as w k = some x) : ∃ (v : Option Value) (w2 : eW), k v w2 = some x ∧ eMet l ad D cA vwCl SHc SSc yX2_addHolder (eWd yX2_addHolder cX2_addHolder 5 none) { frames := 0, cells := 0, slots := 0, locals := 0 } as w v w2 := by
  unfold K_cu_addHolder at h
  split at h
  · rename_i r0 a1 a3
    obtain ⟨h1, h5⟩ := eBif h
    clear h
    have h := h5
    clear h5
    have h1 := Nat.eq_of_beq_eq_true h1
    subst h1
    obtain ⟨q, h2, h3⟩ := Option.bind_eq_some_iff.mp h
    exact ⟨_, _, h3, eMet_of (by decide +kernel) rfl (by simp [eCat, Value.category]) rV_ret (fun p e s m args below meth c hcx => go_cu_addHolder hcx a1 a3 w q h2)⟩
  · cases h
def CX2_isLater : eCo := [[some (.aload_n 0), some (.getfield 31), none, none, some (.iload_n 1), some (.iaload), some (.i2l), some (.aload_n 0), some (.getfield 34), none, none, some (.iload_n 2), some (.iaload), some (.i2l), some (.lmul), some (.aload_n 0)],
  [some (.getfield 31), none, none, some (.iload_n 2), some (.iaload), some (.i2l), some (.aload_n 0), some (.getfield 34), none, none, some (.iload_n 1), some (.iaload), some (.i2l), some (.lmul), some (.lcmp), some (.ifCond .le 7)],
  [none, none, some (.iconst 1), some (.goto 4), none, none, some (.iconst 0), some (.ireturn)]]
theorem dcX2_isLater : eDec cX2_isLater CX2_isLater := eDec_of (by decide +kernel)
def rs_cu_isLater : List (Nat × eR) := [(31, (0, 2, 10, 2)), (34, (0, 2, 11, 2))]
noncomputable def cs_cu_isLater : List (eF (Int32 × eW)) := []
noncomputable def f_cu_isLater (a1 : Int32) (a2 : Int32) (w : eW) : Option (Int32 × eW) := (eChk a1 24 (eChk a2 24 (eChk a2 24 (eChk a1 24 (if (lg_cmp ((((w.1 15 (Int32.toNatClampNeg a1))).toInt64) * (((w.1 16 (Int32.toNatClampNeg a2))).toInt64)) ((((w.1 15 (Int32.toNatClampNeg a2))).toInt64) * (((w.1 16 (Int32.toNatClampNeg a1))).toInt64))) ≤ 0 then (some ((0 : Int32), w)) else (some ((1 : Int32), w)))))))
noncomputable def K_cu_isLater {ρ : Type} : eF ρ := fun as w k => match as with
  | [.ref r0, .int a1, .int a2] => bif Nat.beq r0 19 then (f_cu_isLater a1 a2 w).bind (fun p => k (some (.int p.1)) p.2) else none
  | _ => none
section
variable {p : Program} {l : Launch} {e : Env} {s : State} {m : MethodId} {args : Array Value} {below : List Frame} {meth : Method} {c : Code} {ad : Nat → Nat} {D : va_G} {cA : Nat → ClassId}
theorem lk_cu_isLater : ∀ q ∈ rs_cu_isLater, eLnk { frames := 0, cells := 0, slots := 0, locals := 0 } vwCl (eWd yX2_isLater cX2_isLater 3 (some .boolean)) SSc SHc.length RX2 q.1 q.2 := List.forall_mem_cons.mpr ⟨lkX2_31 eTb_wd, List.forall_mem_cons.mpr ⟨lkX2_34 eTb_wd, fun _ h => absurd h List.not_mem_nil⟩⟩
theorem hc_cu_isLater {x : Int32 × eW} : ∀ q ∈ rs_cu_isLater, eHc l { frames := 0, cells := 0, slots := 0, locals := 0 } ad D cA vwCl SHc SSc (eWd yX2_isLater cX2_isLater 3 (some .boolean)) RX2 cs_cu_isLater x q := List.forall_mem_cons.mpr ⟨trivial, List.forall_mem_cons.mpr ⟨trivial, fun _ h => absurd h List.not_mem_nil⟩⟩
set_option maxRecDepth 100000 in
set_option maxHeartbeats 4000000 in
theorem go_cu_isLater (hcx : eCx p { frames := 0, cells := 0, slots := 0, locals := 0 } s m args meth c cX2_isLater RX2 3 ad D cA vwCl SHc SSc (eWd yX2_isLater cX2_isLater 3 (some .boolean)) (some .boolean)) (a1 : Int32) (a2 : Int32) (w : eW) (x : Int32 × eW) (h : f_cu_isLater a1 a2 w = some x) : eGq p l e { frames := 0, cells := 0, slots := 0, locals := 0 } s m args below meth c 3 ad D cA vwCl SHc rZ x 0 (eEnt [.ref 19, .int a1, .int a2]) [] w := by
  have h : eRun SHc SSc 3 rs_cu_isLater (eCs cs_cu_isLater) rZ CX2_isLater [] (fun pc L st w => none) 29 true 0 [some (.ref 19), some (.int a1), some (.int a2)] [] w = some x := h
  refine eGo.wk (eRun_go hcx (eLnk_all lk_cu_isLater) (eHc_all hc_cu_isLater) rZ_ok dcX2_isLater [] _ (fun pc L st w hK => ?_) 29 true 0 _ _ w h) (eLe_wk ⟨rfl, rfl, rfl, trivial⟩)
  cases hK
end
set_option maxRecDepth 100000 in
set_option maxHeartbeats 4000000 in
theorem ok_cu_isLater {l : Launch} {ad : Nat → Nat} {D : va_G} {cA : Nat → ClassId} {ρ : Type} (as : List Value) (w : eW) (k : Option Value → eW → Option ρ) (x : ρ) (h : K_cu_isLater as w k = some x) : ∃ (v : Option Value) (w2 : eW), k v w2 = some x ∧ eMet l ad D cA vwCl SHc SSc yX2_isLater (eWd yX2_isLater cX2_isLater 3 (some .boolean)) { frames := 0, cells := 0, slots := 0, locals := 0 } as w v w2 := by
  unfold K_cu_isLater at h
  split at h
  · rename_i r0 a1 a2
    obtain ⟨h1, h5⟩ := eBif h
    clear h
    have h := h5
    clear h5
    have h1 := Nat.eq_of_beq_eq_true h1
    subst h1
    obtain ⟨q, h2, h3⟩ := Option.bind_eq_some_iff.mp h
    exact ⟨_, _, h3, eMet_of (by decide +kernel) rfl (by simp [eCat, Value.category]) rZ_ret (fun p e s m args below meth c hcx => go_cu_isLater hcx a1 a2 w q h2)⟩
  · cases h
def CX2_addStep : eCo := [[some (.aload_n 0), some (.getfield 47), none, none, some (.bipush 24), none, some (.if_icmp .ge 10), none, none, some (.aload_n 0), some (.getfield 43), none, none, some (.ifCond .ne 4), none, none],
  [some (.return_), some (.aload_n 0), some (.getfield 28), none, none, some (.aload_n 0), some (.getfield 47), none, none, some (.aload_n 0), some (.getfield 43), none, none, some (.iconst 1), some (.isub), some (.iastore)],
  [some (.aload_n 0), some (.getfield 31), none, none, some (.aload_n 0), some (.getfield 47), none, none, some (.iload_n 1), some (.iastore), some (.aload_n 0), some (.getfield 34), none, none, some (.aload_n 0), some (.getfield 47)],
  [none, none, some (.iload_n 2), some (.iastore), some (.aload_n 0), some (.getfield 37), none, none, some (.aload_n 0), some (.getfield 47), none, none, some (.lload_n 3), some (.lastore), some (.aload_n 0), some (.getfield 40)],
  [none, none, some (.aload_n 0), some (.getfield 47), none, none, some (.lload 5), none, some (.lastore), some (.aload_n 0), some (.getfield 47), none, none, some (.istore 7), none, some (.iload 7)],
  [none, some (.ifCond .le 45), none, none, some (.aload_n 0), some (.aload_n 0), some (.getfield 24), none, none, some (.iload 7), none, some (.iconst 1), some (.isub), some (.iaload), some (.aload_n 0), some (.getfield 47)],
  [none, none, some (.invokevirtual 50), none, none, some (.ifCond .eq 25), none, none, some (.aload_n 0), some (.getfield 24), none, none, some (.iload 7), none, some (.aload_n 0), some (.getfield 24)],
  [none, none, some (.iload 7), none, some (.iconst 1), some (.isub), some (.iaload), some (.iastore), some (.iinc 7 (-1)), none, none, some (.goto (-44)), none, none, some (.aload_n 0), some (.getfield 24)],
  [none, none, some (.iload 7), none, some (.aload_n 0), some (.getfield 47), none, none, some (.iastore), some (.aload_n 0), some (.dup), some (.getfield 47), none, none, some (.iconst 1), some (.iadd)],
  [some (.putfield 47), none, none, some (.return_)]]
theorem dcX2_addStep : eDec cX2_addStep CX2_addStep := eDec_of (by decide +kernel)
def rs_cu_addStep : List (Nat × eR) := [(24, (0, 2, 8, 2)), (28, (0, 2, 9, 2)), (31, (0, 2, 10, 2)), (34, (0, 2, 11, 2)), (37, (0, 2, 12, 2)), (40, (0, 2, 13, 2)), (43, (0, 2, 0, 0)), (47, (0, 2, 7, 0)), (50, (1, 0, 2, 2))]
noncomputable def cs_cu_addStep : List (eF (eW)) := [K_cu_isLater]
noncomputable def f_cu_addStep_L79 : Nat → Int32 → eW → Option (eW)
  | 0, _, _ => none
  | n + 1, a7, w => (if a7 ≤ 0 then (eChk a7 24 (some (eU1 (eU1 w 13 (Int32.toNatClampNeg a7) (w.1 19 7)) 19 7 ((w.1 19 7) + (1 : Int32))))) else (eChk (a7 - (1 : Int32)) 24 ((f_cu_isLater (w.1 13 (Int32.toNatClampNeg (a7 - (1 : Int32)))) (w.1 19 7) w).bind fun p1 => (if p1.1 = 0 then (eChk a7 24 (some (eU1 (eU1 p1.2 13 (Int32.toNatClampNeg a7) (p1.2.1 19 7)) 19 7 ((p1.2.1 19 7) + (1 : Int32))))) else (eChk (a7 - (1 : Int32)) 24 (eChk a7 24 (f_cu_addStep_L79 n (a7 + (-1 : Int32)) (eU1 p1.2 13 (Int32.toNatClampNeg a7) (p1.2.1 13 (Int32.toNatClampNeg (a7 - (1 : Int32))))))))))))
noncomputable def f_cu_addStep (a1 : Int32) (a2 : Int32) (a3 : Int64) (a5 : Int64) (w : eW) : Option (eW) := (if (24 : Int32) ≤ (w.1 19 7) then (some w) else (if ¬ (w.1 19 0) = 0 then (eChk (w.1 19 7) 24 (eChk (w.1 19 7) 24 (eChk (w.1 19 7) 24 (eChk (w.1 19 7) 24 (eChk (w.1 19 7) 24 (f_cu_addStep_L79 eFu (w.1 19 7) (eU2 (eU2 (eU1 (eU1 (eU1 w 14 (Int32.toNatClampNeg (w.1 19 7)) ((w.1 19 0) - (1 : Int32))) 15 (Int32.toNatClampNeg (w.1 19 7)) a1) 16 (Int32.toNatClampNeg (w.1 19 7)) a2) 17 (Int32.toNatClampNeg (w.1 19 7)) a3) 18 (Int32.toNatClampNeg (w.1 19 7)) a5))))))) else (some w)))
noncomputable def K_cu_addStep {ρ : Type} : eF ρ := fun as w k => match as with
  | [.ref r0, .int a1, .int a2, .long a3, .long a5] => bif Nat.beq r0 19 then (f_cu_addStep a1 a2 a3 a5 w).bind (fun w => k none w) else none
  | _ => none
section
variable {p : Program} {l : Launch} {e : Env} {s : State} {m : MethodId} {args : Array Value} {below : List Frame} {meth : Method} {c : Code} {ad : Nat → Nat} {D : va_G} {cA : Nat → ClassId}
theorem lk_cu_addStep : ∀ q ∈ rs_cu_addStep, eLnk { frames := 1, cells := 0, slots := 0, locals := 22 } vwCl (eWd yX2_addStep cX2_addStep 8 none) SSc SHc.length RX2 q.1 q.2 := List.forall_mem_cons.mpr ⟨lkX2_24 eTb_wd, List.forall_mem_cons.mpr ⟨lkX2_28 eTb_wd, List.forall_mem_cons.mpr ⟨lkX2_31 eTb_wd, List.forall_mem_cons.mpr ⟨lkX2_34 eTb_wd, List.forall_mem_cons.mpr ⟨lkX2_37 eTb_wd, List.forall_mem_cons.mpr ⟨lkX2_40 eTb_wd, List.forall_mem_cons.mpr ⟨lkX2_43 eTb_wd, List.forall_mem_cons.mpr ⟨lkX2_47 eTb_wd, List.forall_mem_cons.mpr ⟨trivial, fun _ h => absurd h List.not_mem_nil⟩⟩⟩⟩⟩⟩⟩⟩⟩
theorem hc_cu_addStep {x : eW} : ∀ q ∈ rs_cu_addStep, eHc l { frames := 1, cells := 0, slots := 0, locals := 22 } ad D cA vwCl SHc SSc (eWd yX2_addStep cX2_addStep 8 none) RX2 cs_cu_addStep x q := List.forall_mem_cons.mpr ⟨trivial, List.forall_mem_cons.mpr ⟨trivial, List.forall_mem_cons.mpr ⟨trivial, List.forall_mem_cons.mpr ⟨trivial, List.forall_mem_cons.mpr ⟨trivial, List.forall_mem_cons.mpr ⟨trivial, List.forall_mem_cons.mpr ⟨trivial, List.forall_mem_cons.mpr ⟨trivial, List.forall_mem_cons.mpr ⟨(fun as w k h => let ⟨v, w2, h1, h2⟩ := ok_cu_isLater as w k x h; ⟨v, w2, h1, eCal_of h2 ⟨rfl, rfl⟩ hdX2_isLater (gvX2_50 eTb_wd)⟩), fun _ h => absurd h List.not_mem_nil⟩⟩⟩⟩⟩⟩⟩⟩⟩
noncomputable def kk_cu_addStep_79 (n : Nat) : eK (eW) := fun pc L st w => bif Nat.beq pc 79 then (lR L 0 19 ((lI L 7).bind fun a7 => sE st (f_cu_addStep_L79 n a7 w))) else none
set_option maxRecDepth 100000 in
set_option maxHeartbeats 4000000 in
theorem go_cu_addStep_L79 (hcx : eCx p { frames := 1, cells := 0, slots := 0, locals := 22 } s m args meth c cX2_addStep RX2 8 ad D cA vwCl SHc SSc (eWd yX2_addStep cX2_addStep 8 none) (none)) {x : eW} : ∀ (n : Nat) (a7 : Int32) (w : eW), f_cu_addStep_L79  n a7 w = some x → eGq p l e { frames := 1, cells := 0, slots := 0, locals := 22 } s m args below meth c 8 ad D cA vwCl SHc rV x 79 [some (.ref 19), none, none, none, none, none, none, some (.int a7)] [] w := by
  intro n
  induction n with
  | zero => intro a7 w h; exact nomatch (show (none : Option (eW)) = some x from h)
  | succ n ih =>
    intro a7 w h
    have h : eRun SHc SSc 8 rs_cu_addStep (eCs cs_cu_addStep) rV CX2_addStep [79] (kk_cu_addStep_79  n) 28 true 79 [some (.ref 19), none, none, none, none, none, none, some (.int a7)] [] w = some x := h
    refine eRun_go hcx (eLnk_all lk_cu_addStep) (eHc_all hc_cu_addStep) rV_ok dcX2_addStep [79] _ (fun pc L st w hK => ?_) 28 true 79 _ _ w h
    unfold kk_cu_addStep_79 at hK
    rcases eCut hK with ⟨hpc, hK⟩ | hK
    · subst hpc
      obtain ⟨e0, hK_1⟩ := lR_some hK
      obtain ⟨a7, e7, hK_2⟩ := lI_some hK_1
      obtain ⟨hst9, hK_3⟩ := sE_some hK_2
      subst hst9
      exact eGo.wk (ih a7 w hK_3) (eLe_wk ⟨e0, e7, trivial⟩)
    cases hK
set_option maxRecDepth 100000 in
set_option maxHeartbeats 4000000 in
theorem go_cu_addStep (hcx : eCx p { frames := 1, cells := 0, slots := 0, locals := 22 } s m args meth c cX2_addStep RX2 8 ad D cA vwCl SHc SSc (eWd yX2_addStep cX2_addStep 8 none) (none)) (a1 : Int32) (a2 : Int32) (a3 : Int64) (a5 : Int64) (w : eW) (x : eW) (h : f_cu_addStep a1 a2 a3 a5 w = some x) : eGq p l e { frames := 1, cells := 0, slots := 0, locals := 22 } s m args below meth c 8 ad D cA vwCl SHc rV x 0 (eEnt [.ref 19, .int a1, .int a2, .long a3, .long a5]) [] w := by
  have h : eRun SHc SSc 8 rs_cu_addStep (eCs cs_cu_addStep) rV CX2_addStep [79] (fun pc L st w => bif Nat.beq pc 79 then (lR L 0 19 ((lI L 7).bind fun a7 => sE st (f_cu_addStep_L79 eFu a7 w))) else none) 46 true 0 [some (.ref 19), some (.int a1), some (.int a2), some (.long a3), none, some (.long a5), none, none] [] w = some x := h
  refine eGo.wk (eRun_go hcx (eLnk_all lk_cu_addStep) (eHc_all hc_cu_addStep) rV_ok dcX2_addStep [79] _ (fun pc L st w hK => ?_) 46 true 0 _ _ w h) (eLe_wk ⟨rfl, rfl, rfl, rfl, rfl, trivial⟩)
  rcases eCut hK with ⟨hpc, hK⟩ | hK
  · subst hpc
    obtain ⟨e0, hK_1⟩ := lR_some hK
    obtain ⟨a7, e7, hK_2⟩ := lI_some hK_1
    obtain ⟨hst9, hK_3⟩ := sE_some hK_2
    subst hst9
    exact eGo.wk (go_cu_addStep_L79 hcx  eFu a7 w hK_3) (eLe_wk ⟨e0, e7, trivial⟩)
  cases hK
end
set_option maxRecDepth 100000 in
set_option maxHeartbeats 4000000 in
theorem ok_cu_addStep {l : Launch} {ad : Nat → Nat} {D : va_G} {cA : Nat → ClassId} {ρ : Type} (as : List Value) (w : eW) (k : Option Value → eW → Option ρ) (x : ρ) (h : K_cu_addStep as w k = some x) : ∃ (v : Option Value) (w2 : eW), k v w2 = some x ∧ eMet l ad D cA vwCl SHc SSc yX2_addStep (eWd yX2_addStep cX2_addStep 8 none) { frames := 1, cells := 0, slots := 0, locals := 22 } as w v w2 := by
  unfold K_cu_addStep at h
  split at h
  · rename_i r0 a1 a2 a3 a5
    obtain ⟨h1, h5⟩ := eBif h
    clear h
    have h := h5
    clear h5
    have h1 := Nat.eq_of_beq_eq_true h1
    subst h1
    obtain ⟨q, h2, h3⟩ := Option.bind_eq_some_iff.mp h
    exact ⟨_, _, h3, eMet_of (by decide +kernel) rfl (by simp [eCat, Value.category]) rV_ret (fun p e s m args below meth c hcx => go_cu_addStep hcx a1 a2 a3 a5 w q h2)⟩
  · cases h
def CX3_addOther : eCo := [[some (.aload_n 1), some (.iload_n 2), some (.iconst 1), some (.invokevirtual 54), none, none, some (.i2l), some (.lstore_n 3), some (.lload_n 3), some (.ldc2_w 70), none, none, some (.lmul), some (.lstore 5), none, some (.aload_n 1)],
  [some (.iload_n 2), some (.iconst 0), some (.invokevirtual 54), none, none, some (.ifCond .ne 14), none, none, some (.aload_n 0), some (.getfield 12), none, none, some (.lconst 0), some (.lload 5), none, some (.invokevirtual 72)],
  [none, none, some (.return_), some (.aload_n 1), some (.iload_n 2), some (.iconst 2), some (.invokevirtual 54), none, none, some (.bipush 100), none, some (.imul), some (.istore 7), none, some (.aload_n 0), some (.getfield 12)],
  [none, none, some (.lconst 0), some (.lconst 0), some (.invokevirtual 72), none, none, some (.aload_n 0), some (.getfield 12), none, none, some (.iload 7), none, some (.bipush 100), none, some (.lload_n 3)],
  [some (.lneg), some (.iload 7), none, some (.i2l), some (.lmul), some (.lload 5), none, some (.invokevirtual 76), none, none, some (.return_)]]
theorem dcX3_addOther : eDec cX3_addOther CX3_addOther := eDec_of (by decide +kernel)
def rs_fa_addOther : List (Nat × eR) := [(12, (0, 3, 0, 2)), (54, (1, 0, 2, 4)), (70, (3, 0, 0, 100)), (72, (1, 1, 2, 2)), (76, (1, 2, 4, 2))]
noncomputable def cs_fa_addOther : List (eF (eW)) := [K_fi_fact, K_cu_addHolder, K_cu_addStep]
noncomputable def f_fa_addOther (a2 : Int32) (w : eW) : Option (eW) := ((f_fi_fact a2 (1 : Int32) w).bind fun p1 => ((f_fi_fact a2 (0 : Int32) p1.2).bind fun p2 => (if ¬ p2.1 = 0 then ((f_fi_fact a2 (2 : Int32) p2.2).bind fun p3 => ((f_cu_addHolder (0 : Int64) (0 : Int64) p3.2).bind fun w4 => ((f_cu_addStep (p3.1 * (100 : Int32)) (100 : Int32) ((-((p1.1).toInt64)) * (((p3.1 * (100 : Int32))).toInt64)) (((p1.1).toInt64) * (100 : Int64)) w4).bind fun w5 => (some w5)))) else ((f_cu_addHolder (0 : Int64) (((p1.1).toInt64) * (100 : Int64)) p2.2).bind fun w6 => (some w6)))))
noncomputable def K_fa_addOther {ρ : Type} : eF ρ := fun as w k => match as with
  | [.ref r0, .ref r1, .int a2] => bif Nat.beq r0 24 then (bif Nat.beq r1 8 then (f_fa_addOther a2 w).bind (fun w => k none w) else none) else none
  | _ => none
section
variable {p : Program} {l : Launch} {e : Env} {s : State} {m : MethodId} {args : Array Value} {below : List Frame} {meth : Method} {c : Code} {ad : Nat → Nat} {D : va_G} {cA : Nat → ClassId}
theorem lk_fa_addOther : ∀ q ∈ rs_fa_addOther, eLnk { frames := 2, cells := 0, slots := 0, locals := 49 } vwCl (eWd yX3_addOther cX3_addOther 8 none) SSc SHc.length RX3 q.1 q.2 := List.forall_mem_cons.mpr ⟨lkX3_12 eTb_wd, List.forall_mem_cons.mpr ⟨trivial, List.forall_mem_cons.mpr ⟨lkX3_70 eTb_wd, List.forall_mem_cons.mpr ⟨trivial, List.forall_mem_cons.mpr ⟨trivial, fun _ h => absurd h List.not_mem_nil⟩⟩⟩⟩⟩
theorem hc_fa_addOther {x : eW} : ∀ q ∈ rs_fa_addOther, eHc l { frames := 2, cells := 0, slots := 0, locals := 49 } ad D cA vwCl SHc SSc (eWd yX3_addOther cX3_addOther 8 none) RX3 cs_fa_addOther x q := List.forall_mem_cons.mpr ⟨trivial, List.forall_mem_cons.mpr ⟨(fun as w k h => let ⟨v, w2, h1, h2⟩ := ok_fi_fact as w k x h; ⟨v, w2, h1, eCal_of h2 ⟨rfl, rfl⟩ hdX4_fact (gvX3_54 eTb_wd)⟩), List.forall_mem_cons.mpr ⟨trivial, List.forall_mem_cons.mpr ⟨(fun as w k h => let ⟨v, w2, h1, h2⟩ := ok_cu_addHolder as w k x h; ⟨v, w2, h1, eCal_of h2 ⟨rfl, rfl⟩ hdX2_addHolder (gvX3_72 eTb_wd)⟩), List.forall_mem_cons.mpr ⟨(fun as w k h => let ⟨v, w2, h1, h2⟩ := ok_cu_addStep as w k x h; ⟨v, w2, h1, eCal_of h2 ⟨rfl, rfl⟩ hdX2_addStep (gvX3_76 eTb_wd)⟩), fun _ h => absurd h List.not_mem_nil⟩⟩⟩⟩⟩
set_option maxRecDepth 100000 in
set_option maxHeartbeats 4000000 in
theorem go_fa_addOther (hcx : eCx p { frames := 2, cells := 0, slots := 0, locals := 49 } s m args meth c cX3_addOther RX3 8 ad D cA vwCl SHc SSc (eWd yX3_addOther cX3_addOther 8 none) (none)) (a2 : Int32) (w : eW) (x : eW) (h : f_fa_addOther a2 w = some x) : eGq p l e { frames := 2, cells := 0, slots := 0, locals := 49 } s m args below meth c 8 ad D cA vwCl SHc rV x 0 (eEnt [.ref 24, .ref 8, .int a2]) [] w := by
  have h : eRun SHc SSc 8 rs_fa_addOther (eCs cs_fa_addOther) rV CX3_addOther [] (fun pc L st w => none) 41 true 0 [some (.ref 24), some (.ref 8), some (.int a2), none, none, none, none, none] [] w = some x := h
  refine eGo.wk (eRun_go hcx (eLnk_all lk_fa_addOther) (eHc_all hc_fa_addOther) rV_ok dcX3_addOther [] _ (fun pc L st w hK => ?_) 41 true 0 _ _ w h) (eLe_wk ⟨rfl, rfl, rfl, trivial⟩)
  cases hK
end
set_option maxRecDepth 100000 in
set_option maxHeartbeats 4000000 in
theorem ok_fa_addOther {l : Launch} {ad : Nat → Nat} {D : va_G} {cA : Nat → ClassId} {ρ : Type} (as : List Value) (w : eW) (k : Option Value → eW → Option ρ) (x : ρ) (h : K_fa_addOther as w k = some x) : ∃ (v : Option Value) (w2 : eW), k v w2 = some x ∧ eMet l ad D cA vwCl SHc SSc yX3_addOther (eWd yX3_addOther cX3_addOther 8 none) { frames := 2, cells := 0, slots := 0, locals := 49 } as w v w2 := by
  unfold K_fa_addOther at h
  split at h
  · rename_i r0 r1 a2
    obtain ⟨h1, h5⟩ := eBif h
    clear h
    have h := h5
    clear h5
    have h1 := Nat.eq_of_beq_eq_true h1
    subst h1
    obtain ⟨h1, h5⟩ := eBif h
    clear h
    have h := h5
    clear h5
    have h1 := Nat.eq_of_beq_eq_true h1
    subst h1
    obtain ⟨q, h2, h3⟩ := Option.bind_eq_some_iff.mp h
    exact ⟨_, _, h3, eMet_of (by decide +kernel) rfl (by simp [eCat, Value.category]) rV_ret (fun p e s m args below meth c hcx => go_fa_addOther hcx a2 w q h2)⟩
  · cases h
