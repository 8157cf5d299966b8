def CX12_fault : eCo := [[some (.aload_n 0), some (.iconst 0), some (.putfield 95), none, none, some (.iload_n 1), some (.ifCond .ne 10), none, none, some (.aload_n 0), some (.getfield 229), none, none, some (.goto 16), none, none],
  [some (.iload_n 1), some (.iconst 1), some (.if_icmp .ne 10), none, none, some (.aload_n 0), some (.getfield 46), none, none, some (.goto 4), none, none, some (.iconst (-1)), some (.ireturn)]]
theorem dcX12_fault : eDec cX12_fault CX12_fault := eDec_of (by decide +kernel)
def rs_mm_fault : List (Nat × eR) := [(46, (0, 11, 26, 0)), (95, (0, 11, 0, 0)), (229, (0, 11, 25, 0))]
noncomputable def cs_mm_fault : List (eF (Int32 × eW)) := []
noncomputable def f_mm_fault (a1 : Int32) (w : eW) : Option (Int32 × eW) := (if ¬ a1 = 0 then (if ¬ a1 = (1 : Int32) then (some ((-1 : Int32), (eU1 w 24 0 (0 : Int32)))) else (some ((w.1 24 26), (eU1 w 24 0 (0 : Int32))))) else (some ((w.1 24 25), (eU1 w 24 0 (0 : Int32)))))
noncomputable def K_mm_fault {ρ : Type} : eF ρ := fun as w k => match as with
  | [.ref r0, .int a1] => bif Nat.beq r0 24 then (f_mm_fault a1 w).bind (fun p => k (some (.int p.1)) p.2) else none
  | _ => none
section
variable {p : Program} {l : Launch} {e : Env} {s : State} {m : MethodId} {args : Array Value} {below : List Frame} {meth : Method} {c : Code} {ad : Nat → Nat} {D : va_G} {cA : Nat → ClassId}
theorem lk_mm_fault : ∀ q ∈ rs_mm_fault, eLnk { frames := 0, cells := 0, slots := 0, locals := 0 } vwCl (eWd yX12_fault cX12_fault 2 (some .int)) SSm SHm.length RX12 q.1 q.2 := List.forall_mem_cons.mpr ⟨lkX12_46 eTb_wd, List.forall_mem_cons.mpr ⟨lkX12_95 eTb_wd, List.forall_mem_cons.mpr ⟨lkX12_229 eTb_wd, fun _ h => absurd h List.not_mem_nil⟩⟩⟩
theorem hc_mm_fault {x : Int32 × eW} : ∀ q ∈ rs_mm_fault, eHc l { frames := 0, cells := 0, slots := 0, locals := 0 } ad D cA vwCl SHm SSm (eWd yX12_fault cX12_fault 2 (some .int)) RX12 cs_mm_fault x q := List.forall_mem_cons.mpr ⟨trivial, List.forall_mem_cons.mpr ⟨trivial, List.forall_mem_cons.mpr ⟨trivial, fun _ h => absurd h List.not_mem_nil⟩⟩⟩
set_option maxRecDepth 100000 in
set_option maxHeartbeats 4000000 in
theorem go_mm_fault (hcx : eCx p { frames := 0, cells := 0, slots := 0, locals := 0 } s m args meth c cX12_fault RX12 2 ad D cA vwCl SHm SSm (eWd yX12_fault cX12_fault 2 (some .int)) (some .int)) (a1 : Int32) (w : eW) (x : Int32 × eW) (h : f_mm_fault a1 w = some x) : eGq p l e { frames := 0, cells := 0, slots := 0, locals := 0 } s m args below meth c 2 ad D cA vwCl SHm rI x 0 (eEnt [.ref 24, .int a1]) [] w := by
  have h : eRun SHm SSm 2 rs_mm_fault (eCs cs_mm_fault) rI CX12_fault [] (fun pc L st w => none) 14 true 0 [some (.ref 24), some (.int a1)] [] w = some x := h
  refine eGo.wk (eRun_go hcx (eLnk_all lk_mm_fault) (eHc_all hc_mm_fault) rI_ok dcX12_fault [] _ (fun pc L st w hK => ?_) 14 true 0 _ _ w h) (eLe_wk ⟨rfl, rfl, trivial⟩)
  cases hK
end
set_option maxRecDepth 100000 in
set_option maxHeartbeats 4000000 in
theorem ok_mm_fault {l : Launch} {ad : Nat → Nat} {D : va_G} {cA : Nat → ClassId} {ρ : Type} (as : List Value) (w : eW) (k : Option Value → eW → Option ρ) (x : ρ) (h : K_mm_fault as w k = some x) : ∃ (v : Option Value) (w2 : eW), k v w2 = some x ∧ eMet l ad D cA vwCl SHm SSm yX12_fault (eWd yX12_fault cX12_fault 2 (some .int)) { frames := 0, cells := 0, slots := 0, locals := 0 } as w v w2 := by
  unfold K_mm_fault at h
  split at h
  · rename_i r0 a1
    obtain ⟨h1, h5⟩ := eBif h
    clear h
    have h := h5
    clear h5
    have h1 := Nat.eq_of_beq_eq_true h1
    subst h1
    obtain ⟨q, h2, h3⟩ := Option.bind_eq_some_iff.mp h
    exact ⟨_, _, h3, eMet_of (by decide +kernel) rfl (by simp [eCat, Value.category]) rI_ret (fun p e s m args below meth c hcx => go_mm_fault hcx a1 w q h2)⟩
  · cases h
def CX12_about : eCo := [[some (.aload_n 0), some (.iconst 0), some (.putfield 95), none, none, some (.iload_n 1), some (.tableswitch 68 0 5 #[38, 43, 48, 53, 58, 63]), none, none, none, none, none, none, none, none, none],
  [none, none, none, none, none, none, none, none, none, none, none, none, none, none, none, none],
  [none, none, none, none, none, none, none, none, none, none, none, none, some (.aload_n 0), some (.getfield 98), none, none],
  [some (.ireturn), some (.aload_n 0), some (.getfield 232), none, none, some (.ireturn), some (.aload_n 0), some (.getfield 241), none, none, some (.ireturn), some (.aload_n 0), some (.getfield 124), none, none, some (.ireturn)],
  [some (.aload_n 0), some (.getfield 235), none, none, some (.ireturn), some (.aload_n 0), some (.getfield 113), none, none, some (.ireturn), some (.iconst (-1)), some (.ireturn)]]
theorem dcX12_about : eDec cX12_about CX12_about := eDec_of (by decide +kernel)
def rs_mm_about : List (Nat × eR) := [(95, (0, 11, 0, 0)), (98, (0, 11, 1, 0)), (113, (0, 11, 16, 0)), (124, (0, 11, 18, 0)), (232, (0, 11, 2, 0)), (235, (0, 11, 54, 0)), (241, (0, 11, 53, 0))]
noncomputable def cs_mm_about : List (eF (Int32 × eW)) := []
noncomputable def f_mm_about (a1 : Int32) (w : eW) : Option (Int32 × eW) := (if a1 = (0 : Int32) then (some ((w.1 24 1), (eU1 w 24 0 (0 : Int32)))) else (if a1 = (1 : Int32) then (some ((w.1 24 2), (eU1 w 24 0 (0 : Int32)))) else (if a1 = (2 : Int32) then (some ((w.1 24 53), (eU1 w 24 0 (0 : Int32)))) else (if a1 = (3 : Int32) then (some ((w.1 24 18), (eU1 w 24 0 (0 : Int32)))) else (if a1 = (4 : Int32) then (some ((w.1 24 54), (eU1 w 24 0 (0 : Int32)))) else (if a1 = (5 : Int32) then (some ((w.1 24 16), (eU1 w 24 0 (0 : Int32)))) else (some ((-1 : Int32), (eU1 w 24 0 (0 : Int32))))))))))
noncomputable def K_mm_about {ρ : Type} : eF ρ := fun as w k => match as with
  | [.ref r0, .int a1] => bif Nat.beq r0 24 then (f_mm_about a1 w).bind (fun p => k (some (.int p.1)) p.2) else none
  | _ => none
section
variable {p : Program} {l : Launch} {e : Env} {s : State} {m : MethodId} {args : Array Value} {below : List Frame} {meth : Method} {c : Code} {ad : Nat → Nat} {D : va_G} {cA : Nat → ClassId}
theorem lk_mm_about : ∀ q ∈ rs_mm_about, eLnk { frames := 0, cells := 0, slots := 0, locals := 0 } vwCl (eWd yX12_about cX12_about 2 (some .int)) SSm SHm.length RX12 q.1 q.2 := List.forall_mem_cons.mpr ⟨lkX12_95 eTb_wd, List.forall_mem_cons.mpr ⟨lkX12_98 eTb_wd, List.forall_mem_cons.mpr ⟨lkX12_113 eTb_wd, List.forall_mem_cons.mpr ⟨lkX12_124 eTb_wd, List.forall_mem_cons.mpr ⟨lkX12_232 eTb_wd, List.forall_mem_cons.mpr ⟨lkX12_235 eTb_wd, List.forall_mem_cons.mpr ⟨lkX12_241 eTb_wd, fun _ h => absurd h List.not_mem_nil⟩⟩⟩⟩⟩⟩⟩
theorem hc_mm_about {x : Int32 × eW} : ∀ q ∈ rs_mm_about, eHc l { frames := 0, cells := 0, slots := 0, locals := 0 } ad D cA vwCl SHm SSm (eWd yX12_about cX12_about 2 (some .int)) RX12 cs_mm_about x q := List.forall_mem_cons.mpr ⟨trivial, List.forall_mem_cons.mpr ⟨trivial, List.forall_mem_cons.mpr ⟨trivial, List.forall_mem_cons.mpr ⟨trivial, List.forall_mem_cons.mpr ⟨trivial, List.forall_mem_cons.mpr ⟨trivial, List.forall_mem_cons.mpr ⟨trivial, fun _ h => absurd h List.not_mem_nil⟩⟩⟩⟩⟩⟩⟩
set_option maxRecDepth 100000 in
set_option maxHeartbeats 4000000 in
theorem go_mm_about (hcx : eCx p { frames := 0, cells := 0, slots := 0, locals := 0 } s m args meth c cX12_about RX12 2 ad D cA vwCl SHm SSm (eWd yX12_about cX12_about 2 (some .int)) (some .int)) (a1 : Int32) (w : eW) (x : Int32 × eW) (h : f_mm_about a1 w = some x) : eGq p l e { frames := 0, cells := 0, slots := 0, locals := 0 } s m args below meth c 2 ad D cA vwCl SHm rI x 0 (eEnt [.ref 24, .int a1]) [] w := by
  have h : eRun SHm SSm 2 rs_mm_about (eCs cs_mm_about) rI CX12_about [] (fun pc L st w => none) 10 true 0 [some (.ref 24), some (.int a1)] [] w = some x := h
  refine eGo.wk (eRun_go hcx (eLnk_all lk_mm_about) (eHc_all hc_mm_about) rI_ok dcX12_about [] _ (fun pc L st w hK => ?_) 10 true 0 _ _ w h) (eLe_wk ⟨rfl, rfl, trivial⟩)
  cases hK
end
set_option maxRecDepth 100000 in
set_option maxHeartbeats 4000000 in
theorem ok_mm_about {l : Launch} {ad : Nat → Nat} {D : va_G} {cA : Nat → ClassId} {ρ : Type} (as : List Value) (w : eW) (k : Option Value → eW → Option ρ) (x : ρ) (h : K_mm_about as w k = some x) : ∃ (v : Option Value) (w2 : eW), k v w2 = some x ∧ eMet l ad D cA vwCl SHm SSm yX12_about (eWd yX12_about cX12_about 2 (some .int)) { frames := 0, cells := 0, slots := 0, locals := 0 } as w v w2 := by
  unfold K_mm_about at h
  split at h
  · rename_i r0 a1
    obtain ⟨h1, h5⟩ := eBif h
    clear h
    have h := h5
    clear h5
    have h1 := Nat.eq_of_beq_eq_true h1
    subst h1
    obtain ⟨q, h2, h3⟩ := Option.bind_eq_some_iff.mp h
    exact ⟨_, _, h3, eMet_of (by decide +kernel) rfl (by simp [eCat, Value.category]) rI_ret (fun p e s m args below meth c hcx => go_mm_about hcx a1 w q h2)⟩
  · cases h
def CX12_isHolder : eCo := [[some (.iload_n 1), some (.iconst 0), some (.aload_n 0), some (.getfield 98), none, none, some (.iconst 1), some (.isub), some (.invokestatic 101), none, none, some (.ireturn)]]
theorem dcX12_isHolder : eDec cX12_isHolder CX12_isHolder := eDec_of (by decide +kernel)
def rs_mm_isHolder : List (Nat × eR) := [(98, (0, 11, 1, 0)), (101, (1, 0, 3, -1))]
noncomputable def cs_mm_isHolder : List (eF (Int32 × eW)) := [K_mm_in]
noncomputable def f_mm_isHolder (a1 : Int32) (w : eW) : Option (Int32 × eW) := ((f_mm_in a1 (0 : Int32) ((w.1 24 1) - (1 : Int32)) w).bind fun p1 => (if p1.1 = 0 ∨ p1.1 = 1 then some (p1.1, p1.2) else none))
noncomputable def K_mm_isHolder {ρ : Type} : eF ρ := fun as w k => match as with
  | [.ref r0, .int a1] => bif Nat.beq r0 24 then (f_mm_isHolder a1 w).bind (fun p => k (some (.int p.1)) p.2) else none
  | _ => none
section
variable {p : Program} {l : Launch} {e : Env} {s : State} {m : MethodId} {args : Array Value} {below : List Frame} {meth : Method} {c : Code} {ad : Nat → Nat} {D : va_G} {cA : Nat → ClassId}
theorem lk_mm_isHolder : ∀ q ∈ rs_mm_isHolder, eLnk { frames := 1, cells := 0, slots := 0, locals := 22 } vwCl (eWd yX12_isHolder cX12_isHolder 2 (some .boolean)) SSm SHm.length RX12 q.1 q.2 := List.forall_mem_cons.mpr ⟨lkX12_98 eTb_wd, List.forall_mem_cons.mpr ⟨trivial, fun _ h => absurd h List.not_mem_nil⟩⟩
theorem hc_mm_isHolder {x : Int32 × eW} : ∀ q ∈ rs_mm_isHolder, eHc l { frames := 1, cells := 0, slots := 0, locals := 22 } ad D cA vwCl SHm SSm (eWd yX12_isHolder cX12_isHolder 2 (some .boolean)) RX12 cs_mm_isHolder x q := List.forall_mem_cons.mpr ⟨trivial, List.forall_mem_cons.mpr ⟨(fun as w k h => let ⟨v, w2, h1, h2⟩ := ok_mm_in as w k x h; ⟨v, w2, h1, eCal_of h2 ⟨rfl, rfl⟩ hdX12_in (gvX12_101 eTb_wd)⟩), fun _ h => absurd h List.not_mem_nil⟩⟩
set_option maxRecDepth 100000 in
set_option maxHeartbeats 4000000 in
theorem go_mm_isHolder (hcx : eCx p { frames := 1, cells := 0, slots := 0, locals := 22 } s m args meth c cX12_isHolder RX12 2 ad D cA vwCl SHm SSm (eWd yX12_isHolder cX12_isHolder 2 (some .boolean)) (some .boolean)) (a1 : Int32) (w : eW) (x : Int32 × eW) (h : f_mm_isHolder a1 w = some x) : eGq p l e { frames := 1, cells := 0, slots := 0, locals := 22 } s m args below meth c 2 ad D cA vwCl SHm rZ x 0 (eEnt [.ref 24, .int a1]) [] w := by
  have h : eRun SHm SSm 2 rs_mm_isHolder (eCs cs_mm_isHolder) rZ CX12_isHolder [] (fun pc L st w => none) 10 true 0 [some (.ref 24), some (.int a1)] [] w = some x := h
  refine eGo.wk (eRun_go hcx (eLnk_all lk_mm_isHolder) (eHc_all hc_mm_isHolder) rZ_ok dcX12_isHolder [] _ (fun pc L st w hK => ?_) 10 true 0 _ _ w h) (eLe_wk ⟨rfl, rfl, trivial⟩)
  cases hK
end
set_option maxRecDepth 100000 in
set_option maxHeartbeats 4000000 in
theorem ok_mm_isHolder {l : Launch} {ad : Nat → Nat} {D : va_G} {cA : Nat → ClassId} {ρ : Type} (as : List Value) (w : eW) (k : Option Value → eW → Option ρ) (x : ρ) (h : K_mm_isHolder as w k = some x) : ∃ (v : Option Value) (w2 : eW), k v w2 = some x ∧ eMet l ad D cA vwCl SHm SSm yX12_isHolder (eWd yX12_isHolder cX12_isHolder 2 (some .boolean)) { frames := 1, cells := 0, slots := 0, locals := 22 } as w v w2 := by
  unfold K_mm_isHolder at h
  split at h
  · rename_i r0 a1
    obtain ⟨h1, h5⟩ := eBif h
    clear h
    have h := h5
    clear h5
    have h1 := Nat.eq_of_beq_eq_true h1
    subst h1
    obtain ⟨q, h2, h3⟩ := Option.bind_eq_some_iff.mp h
    exact ⟨_, _, h3, eMet_of (by decide +kernel) rfl (by simp [eCat, Value.category]) rZ_ret (fun p e s m args below meth c hcx => go_mm_isHolder hcx a1 w q h2)⟩
  · cases h
def CX12_isOf : eCo := [[some (.iload_n 0), some (.iload_n 1), some (.ishr), some (.iconst 1), some (.iand), some (.iconst 1), some (.if_icmp .ne 7), none, none, some (.iconst 1), some (.goto 4), none, none, some (.iconst 0), some (.ireturn)]]
theorem dcX12_isOf : eDec cX12_isOf CX12_isOf := eDec_of (by decide +kernel)
def rs_mm_isOf : List (Nat × eR) := []
noncomputable def cs_mm_isOf : List (eF (Int32 × eW)) := []
noncomputable def f_mm_isOf (a0 : Int32) (a1 : Int32) (w : eW) : Option (Int32 × eW) := (if ¬ ((a0 >>> (a1 &&& 31)) &&& (1 : Int32)) = (1 : Int32) then (some ((0 : Int32), w)) else (some ((1 : Int32), w)))
noncomputable def K_mm_isOf {ρ : Type} : eF ρ := fun as w k => match as with
  | [.int a0, .int a1] => (f_mm_isOf a0 a1 w).bind (fun p => k (some (.int p.1)) p.2)
  | _ => none
section
variable {p : Program} {l : Launch} {e : Env} {s : State} {m : MethodId} {args : Array Value} {below : List Frame} {meth : Method} {c : Code} {ad : Nat → Nat} {D : va_G} {cA : Nat → ClassId}
theorem lk_mm_isOf : ∀ q ∈ rs_mm_isOf, eLnk { frames := 0, cells := 0, slots := 0, locals := 0 } vwCl (eWd yX12_isOf cX12_isOf 2 (some .boolean)) SSm SHm.length RX12 q.1 q.2 := fun _ h => absurd h List.not_mem_nil
theorem hc_mm_isOf {x : Int32 × eW} : ∀ q ∈ rs_mm_isOf, eHc l { frames := 0, cells := 0, slots := 0, locals := 0 } ad D cA vwCl SHm SSm (eWd yX12_isOf cX12_isOf 2 (some .boolean)) RX12 cs_mm_isOf x q := fun _ h => absurd h List.not_mem_nil
set_option maxRecDepth 100000 in
set_option maxHeartbeats 4000000 in
theorem go_mm_isOf (hcx : eCx p { frames := 0, cells := 0, slots := 0, locals := 0 } s m args meth c cX12_isOf RX12 2 ad D cA vwCl SHm SSm (eWd yX12_isOf cX12_isOf 2 (some .boolean)) (some .boolean)) (a0 : Int32) (a1 : Int32) (w : eW) (x : Int32 × eW) (h : f_mm_isOf a0 a1 w = some x) : eGq p l e { frames := 0, cells := 0, slots := 0, locals := 0 } s m args below meth c 2 ad D cA vwCl SHm rZ x 0 (eEnt [.int a0, .int a1]) [] w := by
  have h : eRun SHm SSm 2 rs_mm_isOf (eCs cs_mm_isOf) rZ CX12_isOf [] (fun pc L st w => none) 12 true 0 [some (.int a0), some (.int a1)] [] w = some x := h
  refine eGo.wk (eRun_go hcx (eLnk_all lk_mm_isOf) (eHc_all hc_mm_isOf) rZ_ok dcX12_isOf [] _ (fun pc L st w hK => ?_) 12 true 0 _ _ w h) (eLe_wk ⟨rfl, rfl, trivial⟩)
  cases hK
end
set_option maxRecDepth 100000 in
set_option maxHeartbeats 4000000 in
theorem ok_mm_isOf {l : Launch} {ad : Nat → Nat} {D : va_G} {cA : Nat → ClassId} {ρ : Type} (as : List Value) (w : eW) (k : Option Value → eW → Option ρ) (x : ρ) (h : K_mm_isOf as w k = some x) : ∃ (v : Option Value) (w2 : eW), k v w2 = some x ∧ eMet l ad D cA vwCl SHm SSm yX12_isOf (eWd yX12_isOf cX12_isOf 2 (some .boolean)) { frames := 0, cells := 0, slots := 0, locals := 0 } as w v w2 := by
  unfold K_mm_isOf at h
  split at h
  · rename_i a0 a1
    obtain ⟨q, h2, h3⟩ := Option.bind_eq_some_iff.mp h
    exact ⟨_, _, h3, eMet_of (by decide +kernel) rfl (by simp [eCat, Value.category]) rZ_ret (fun p e s m args below meth c hcx => go_mm_isOf hcx a0 a1 w q h2)⟩
  · cases h
def CX12_prefOf : eCo := [[some (.aload_n 0), some (.getfield 7), none, none, some (.iload_n 1), some (.iaload), some (.iconst 2), some (.if_icmp .ne 14), none, none, some (.aload_n 0), some (.getfield 113), none, none, some (.iload_n 1), some (.invokestatic 116)],
  [none, none, some (.ifCond .eq 7), none, none, some (.iconst 0), some (.goto 30), none, none, some (.aload_n 0), some (.getfield 16), none, none, some (.iload_n 1), some (.iaload), some (.aload_n 0)],
  [some (.getfield 22), none, none, some (.iload_n 1), some (.iaload), some (.aload_n 0), some (.getfield 34), none, none, some (.iload_n 1), some (.iaload), some (.aload_n 0), some (.getfield 37), none, none, some (.iload_n 1)],
  [some (.iaload), some (.imul), some (.iadd), some (.imul), some (.ireturn)]]
theorem dcX12_prefOf : eDec cX12_prefOf CX12_prefOf := eDec_of (by decide +kernel)
def rs_mm_prefOf : List (Nat × eR) := [(7, (0, 11, 5, 2)), (16, (0, 11, 7, 2)), (22, (0, 11, 9, 2)), (34, (0, 11, 13, 2)), (37, (0, 11, 14, 2)), (113, (0, 11, 16, 0)), (116, (1, 0, 2, -1))]
noncomputable def cs_mm_prefOf : List (eF (Int32 × eW)) := [K_mm_isOf]
noncomputable def f_mm_prefOf (a1 : Int32) (w : eW) : Option (Int32 × eW) := (eChk a1 24 (if ¬ (w.1 0 (Int32.toNatClampNeg a1)) = (2 : Int32) then (some ((0 : Int32), w)) else ((f_mm_isOf (w.1 24 16) a1 w).bind fun p1 => (if p1.1 = 0 then (eChk a1 24 (eChk a1 24 (eChk a1 24 (eChk a1 24 (some (((p1.2.1 2 (Int32.toNatClampNeg a1)) * ((p1.2.1 4 (Int32.toNatClampNeg a1)) + ((p1.2.1 8 (Int32.toNatClampNeg a1)) * (p1.2.1 9 (Int32.toNatClampNeg a1))))), p1.2)))))) else (some ((0 : Int32), p1.2))))))
noncomputable def K_mm_prefOf {ρ : Type} : eF ρ := fun as w k => match as with
  | [.ref r0, .int a1] => bif Nat.beq r0 24 then (f_mm_prefOf a1 w).bind (fun p => k (some (.int p.1)) p.2) else none
  | _ => none
section
variable {p : Program} {l : Launch} {e : Env} {s : State} {m : MethodId} {args : Array Value} {below : List Frame} {meth : Method} {c : Code} {ad : Nat → Nat} {D : va_G} {cA : Nat → ClassId}
theorem lk_mm_prefOf : ∀ q ∈ rs_mm_prefOf, eLnk { frames := 1, cells := 0, slots := 0, locals := 21 } vwCl (eWd yX12_prefOf cX12_prefOf 2 (some .int)) SSm SHm.length RX12 q.1 q.2 := List.forall_mem_cons.mpr ⟨lkX12_7 eTb_wd, List.forall_mem_cons.mpr ⟨lkX12_16 eTb_wd, List.forall_mem_cons.mpr ⟨lkX12_22 eTb_wd, List.forall_mem_cons.mpr ⟨lkX12_34 eTb_wd, List.forall_mem_cons.mpr ⟨lkX12_37 eTb_wd, List.forall_mem_cons.mpr ⟨lkX12_113 eTb_wd, List.forall_mem_cons.mpr ⟨trivial, fun _ h => absurd h List.not_mem_nil⟩⟩⟩⟩⟩⟩⟩
theorem hc_mm_prefOf {x : Int32 × eW} : ∀ q ∈ rs_mm_prefOf, eHc l { frames := 1, cells := 0, slots := 0, locals := 21 } ad D cA vwCl SHm SSm (eWd yX12_prefOf cX12_prefOf 2 (some .int)) RX12 cs_mm_prefOf x q := List.forall_mem_cons.mpr ⟨trivial, List.forall_mem_cons.mpr ⟨trivial, List.forall_mem_cons.mpr ⟨trivial, List.forall_mem_cons.mpr ⟨trivial, List.forall_mem_cons.mpr ⟨trivial, List.forall_mem_cons.mpr ⟨trivial, List.forall_mem_cons.mpr ⟨(fun as w k h => let ⟨v, w2, h1, h2⟩ := ok_mm_isOf as w k x h; ⟨v, w2, h1, eCal_of h2 ⟨rfl, rfl⟩ hdX12_isOf (gvX12_116 eTb_wd)⟩), fun _ h => absurd h List.not_mem_nil⟩⟩⟩⟩⟩⟩⟩
set_option maxRecDepth 100000 in
set_option maxHeartbeats 4000000 in
theorem go_mm_prefOf (hcx : eCx p { frames := 1, cells := 0, slots := 0, locals := 21 } s m args meth c cX12_prefOf RX12 2 ad D cA vwCl SHm SSm (eWd yX12_prefOf cX12_prefOf 2 (some .int)) (some .int)) (a1 : Int32) (w : eW) (x : Int32 × eW) (h : f_mm_prefOf a1 w = some x) : eGq p l e { frames := 1, cells := 0, slots := 0, locals := 21 } s m args below meth c 2 ad D cA vwCl SHm rI x 0 (eEnt [.ref 24, .int a1]) [] w := by
  have h : eRun SHm SSm 2 rs_mm_prefOf (eCs cs_mm_prefOf) rI CX12_prefOf [] (fun pc L st w => none) 33 true 0 [some (.ref 24), some (.int a1)] [] w = some x := h
  refine eGo.wk (eRun_go hcx (eLnk_all lk_mm_prefOf) (eHc_all hc_mm_prefOf) rI_ok dcX12_prefOf [] _ (fun pc L st w hK => ?_) 33 true 0 _ _ w h) (eLe_wk ⟨rfl, rfl, trivial⟩)
  cases hK
end
set_option maxRecDepth 100000 in
set_option maxHeartbeats 4000000 in
theorem ok_mm_prefOf {l : Launch} {ad : Nat → Nat} {D : va_G} {cA : Nat → ClassId} {ρ : Type} (as : List Value) (w : eW) (k : Option Value → eW → Option ρ) (x : ρ) (h : K_mm_prefOf as w k = some x) : ∃ (v : Option Value) (w2 : eW), k v w2 = some x ∧ eMet l ad D cA vwCl SHm SSm yX12_prefOf (eWd yX12_prefOf cX12_prefOf 2 (some .int)) { frames := 1, cells := 0, slots := 0, locals := 21 } as w v w2 := by
  unfold K_mm_prefOf at h
  split at h
  · rename_i r0 a1
    obtain ⟨h1, h5⟩ := eBif h
    clear h
    have h := h5
    clear h5
    have h1 := Nat.eq_of_beq_eq_true h1
    subst h1
    obtain ⟨q, h2, h3⟩ := Option.bind_eq_some_iff.mp h
    exact ⟨_, _, h3, eMet_of (by decide +kernel) rfl (by simp [eCat, Value.category]) rI_ret (fun p e s m args below meth c hcx => go_mm_prefOf hcx a1 w q h2)⟩
  · cases h
def CX12_holder : eCo := [[some (.aload_n 0), some (.iconst 0), some (.putfield 95), none, none, some (.aload_n 0), some (.iload_n 1), some (.invokevirtual 105), none, none, some (.ifCond .eq 40), none, none, some (.iload_n 2), some (.iconst 0), some (.aload_n 0)],
  [some (.getfield 7), none, none, some (.iload_n 1), some (.iaload), some (.ifCond .ne 7), none, none, some (.iconst 1), some (.goto 19), none, none, some (.aload_n 0), some (.getfield 7), none, none],
  [some (.iload_n 1), some (.iaload), some (.iconst 1), some (.if_icmp .ne 7), none, none, some (.iconst 2), some (.goto 5), none, none, some (.bipush 10), none, some (.invokestatic 101), none, none, some (.ifCond .ne 6)],
  [none, none, some (.bipush (-2)), none, some (.ireturn), some (.iload_n 2), some (.tableswitch 124 0 9 #[54, 61, 68, 75, 82, 89, 96, 103, 110, 117]), none, none, none, none, none, none, none, none, none],
  [none, none, none, none, none, none, none, none, none, none, none, none, none, none, none, none],
  [none, none, none, none, none, none, none, none, none, none, none, none, none, none, none, none],
  [none, none, none, none, none, none, none, none, none, none, none, none, some (.aload_n 0), some (.getfield 7), none, none],
  [some (.iload_n 1), some (.iaload), some (.ireturn), some (.aload_n 0), some (.getfield 13), none, none, some (.iload_n 1), some (.iaload), some (.ireturn), some (.aload_n 0), some (.getfield 16), none, none, some (.iload_n 1), some (.iaload)],
  [some (.ireturn), some (.aload_n 0), some (.getfield 19), none, none, some (.iload_n 1), some (.iaload), some (.ireturn), some (.aload_n 0), some (.getfield 22), none, none, some (.iload_n 1), some (.iaload), some (.ireturn), some (.aload_n 0)],
  [some (.getfield 25), none, none, some (.iload_n 1), some (.iaload), some (.ireturn), some (.aload_n 0), some (.getfield 28), none, none, some (.iload_n 1), some (.iaload), some (.ireturn), some (.aload_n 0), some (.getfield 31), none],
  [none, some (.iload_n 1), some (.iaload), some (.ireturn), some (.aload_n 0), some (.getfield 34), none, none, some (.iload_n 1), some (.iaload), some (.ireturn), some (.aload_n 0), some (.getfield 37), none, none, some (.iload_n 1)],
  [some (.iaload), some (.ireturn), some (.aload_n 0), some (.iload_n 1), some (.invokevirtual 120), none, none, some (.ireturn)]]
theorem dcX12_holder : eDec cX12_holder CX12_holder := eDec_of (by decide +kernel)
def rs_mm_holder : List (Nat × eR) := [(7, (0, 11, 5, 2)), (13, (0, 11, 6, 2)), (16, (0, 11, 7, 2)), (19, (0, 11, 8, 2)), (22, (0, 11, 9, 2)), (25, (0, 11, 10, 2)), (28, (0, 11, 11, 2)), (31, (0, 11, 12, 2)), (34, (0, 11, 13, 2)), (37, (0, 11, 14, 2)), (95, (0, 11, 0, 0)), (101, (1, 1, 3, -1)), (105, (1, 0, 1, 11)), (120, (1, 2, 1, 11))]
noncomputable def cs_mm_holder : List (eF (Int32 × eW)) := [K_mm_isHolder, K_mm_in, K_mm_prefOf]
noncomputable def f_mm_holder_J44 (a1 : Int32) (a2 : Int32) (s0 : Int32) (s1 : Int32) (s2 : Int32) (w : eW) : Option (Int32 × eW) := ((f_mm_in s2 s1 s0 w).bind fun p2 => (if ¬ p2.1 = 0 then (if a2 = (0 : Int32) then (eChk a1 24 (some ((p2.2.1 0 (Int32.toNatClampNeg a1)), p2.2))) else (if a2 = (1 : Int32) then (eChk a1 24 (some ((p2.2.1 1 (Int32.toNatClampNeg a1)), p2.2))) else (if a2 = (2 : Int32) then (eChk a1 24 (some ((p2.2.1 2 (Int32.toNatClampNeg a1)), p2.2))) else (if a2 = (3 : Int32) then (eChk a1 24 (some ((p2.2.1 3 (Int32.toNatClampNeg a1)), p2.2))) else (if a2 = (4 : Int32) then (eChk a1 24 (some ((p2.2.1 4 (Int32.toNatClampNeg a1)), p2.2))) else (if a2 = (5 : Int32) then (eChk a1 24 (some ((p2.2.1 5 (Int32.toNatClampNeg a1)), p2.2))) else (if a2 = (6 : Int32) then (eChk a1 24 (some ((p2.2.1 6 (Int32.toNatClampNeg a1)), p2.2))) else (if a2 = (7 : Int32) then (eChk a1 24 (some ((p2.2.1 7 (Int32.toNatClampNeg a1)), p2.2))) else (if a2 = (8 : Int32) then (eChk a1 24 (some ((p2.2.1 8 (Int32.toNatClampNeg a1)), p2.2))) else (if a2 = (9 : Int32) then (eChk a1 24 (some ((p2.2.1 9 (Int32.toNatClampNeg a1)), p2.2))) else ((f_mm_prefOf a1 p2.2).bind fun p3 => (some (p3.1, p3.2))))))))))))) else (some ((-2 : Int32), p2.2))))
noncomputable def f_mm_holder (a1 : Int32) (a2 : Int32) (w : eW) : Option (Int32 × eW) := ((f_mm_isHolder a1 (eU1 w 24 0 (0 : Int32))).bind fun p1 => (if p1.1 = 0 then (some ((-2 : Int32), p1.2)) else (eChk a1 24 (if ¬ (p1.2.1 0 (Int32.toNatClampNeg a1)) = 0 then (eChk a1 24 (if ¬ (p1.2.1 0 (Int32.toNatClampNeg a1)) = (1 : Int32) then (f_mm_holder_J44 a1 a2 (10 : Int32) (0 : Int32) a2 p1.2) else (f_mm_holder_J44 a1 a2 (2 : Int32) (0 : Int32) a2 p1.2))) else (f_mm_holder_J44 a1 a2 (1 : Int32) (0 : Int32) a2 p1.2)))))
noncomputable def K_mm_holder {ρ : Type} : eF ρ := fun as w k => match as with
  | [.ref r0, .int a1, .int a2] => bif Nat.beq r0 24 then (f_mm_holder a1 a2 w).bind (fun p => k (some (.int p.1)) p.2) else none
  | _ => none
section
variable {p : Program} {l : Launch} {e : Env} {s : State} {m : MethodId} {args : Array Value} {below : List Frame} {meth : Method} {c : Code} {ad : Nat → Nat} {D : va_G} {cA : Nat → ClassId}
theorem lk_mm_holder : ∀ q ∈ rs_mm_holder, eLnk { frames := 2, cells := 0, slots := 0, locals := 43 } vwCl (eWd yX12_holder cX12_holder 3 (some .int)) SSm SHm.length RX12 q.1 q.2 := List.forall_mem_cons.mpr ⟨lkX12_7 eTb_wd, List.forall_mem_cons.mpr ⟨lkX12_13 eTb_wd, List.forall_mem_cons.mpr ⟨lkX12_16 eTb_wd, List.forall_mem_cons.mpr ⟨lkX12_19 eTb_wd, List.forall_mem_cons.mpr ⟨lkX12_22 eTb_wd, List.forall_mem_cons.mpr ⟨lkX12_25 eTb_wd, List.forall_mem_cons.mpr ⟨lkX12_28 eTb_wd, List.forall_mem_cons.mpr ⟨lkX12_31 eTb_wd, List.forall_mem_cons.mpr ⟨lkX12_34 eTb_wd, List.forall_mem_cons.mpr ⟨lkX12_37 eTb_wd, List.forall_mem_cons.mpr ⟨lkX12_95 eTb_wd, List.forall_mem_cons.mpr ⟨trivial, List.forall_mem_cons.mpr ⟨trivial, List.forall_mem_cons.mpr ⟨trivial, fun _ h => absurd h List.not_mem_nil⟩⟩⟩⟩⟩⟩⟩⟩⟩⟩⟩⟩⟩⟩
theorem hc_mm_holder {x : Int32 × eW} : ∀ q ∈ rs_mm_holder, eHc l { frames := 2, cells := 0, slots := 0, locals := 43 } ad D cA vwCl SHm SSm (eWd yX12_holder cX12_holder 3 (some .int)) RX12 cs_mm_holder x q := List.forall_mem_cons.mpr ⟨trivial, List.forall_mem_cons.mpr ⟨trivial, List.forall_mem_cons.mpr ⟨trivial, List.forall_mem_cons.mpr ⟨trivial, List.forall_mem_cons.mpr ⟨trivial, List.forall_mem_cons.mpr ⟨trivial, List.forall_mem_cons.mpr ⟨trivial, List.forall_mem_cons.mpr ⟨trivial, List.forall_mem_cons.mpr ⟨trivial, List.forall_mem_cons.mpr ⟨trivial, List.forall_mem_cons.mpr ⟨trivial, List.forall_mem_cons.mpr ⟨(fun as w k h => let ⟨v, w2, h1, h2⟩ := ok_mm_in as w k x h; ⟨v, w2, h1, eCal_of h2 ⟨rfl, rfl⟩ hdX12_in (gvX12_101 eTb_wd)⟩), List.forall_mem_cons.mpr ⟨(fun as w k h => let ⟨v, w2, h1, h2⟩ := ok_mm_isHolder as w k x h; ⟨v, w2, h1, eCal_of h2 ⟨rfl, rfl⟩ hdX12_isHolder (gvX12_105 eTb_wd)⟩), List.forall_mem_cons.mpr ⟨(fun as w k h => let ⟨v, w2, h1, h2⟩ := ok_mm_prefOf as w k x h; ⟨v, w2, h1, eCal_of h2 ⟨rfl, rfl⟩ hdX12_prefOf (gvX12_120 eTb_wd)⟩), fun _ h => absurd h List.not_mem_nil⟩⟩⟩⟩⟩⟩⟩⟩⟩⟩⟩⟩⟩⟩
noncomputable def kk_mm_holder_44 : eK (Int32 × eW) := fun pc L st w => none
set_option maxRecDepth 100000 in
set_option maxHeartbeats 4000000 in
theorem go_mm_holder_J44 (hcx : eCx p { frames := 2, cells := 0, slots := 0, locals := 43 } s m args meth c cX12_holder RX12 3 ad D cA vwCl SHm SSm (eWd yX12_holder cX12_holder 3 (some .int)) (some .int)) {x : Int32 × eW} : ∀ (a1 : Int32) (a2 : Int32) (s0 : Int32) (s1 : Int32) (s2 : Int32) (w : eW), f_mm_holder_J44  a1 a2 s0 s1 s2 w = some x → eGq p l e { frames := 2, cells := 0, slots := 0, locals := 43 } s m args below meth c 3 ad D cA vwCl SHm rI x 44 [some (.ref 24), some (.int a1), some (.int a2)] [.int s0, .int s1, .int s2] w := by
  intro a1 a2 s0 s1 s2 w h
  have h : eRun SHm SSm 3 rs_mm_holder (eCs cs_mm_holder) rI CX12_holder [44] (kk_mm_holder_44 ) 11 true 44 [some (.ref 24), some (.int a1), some (.int a2)] [.int s0, .int s1, .int s2] w = some x := h
  refine eRun_go hcx (eLnk_all lk_mm_holder) (eHc_all hc_mm_holder) rI_ok dcX12_holder [44] _ (fun pc L st w hK => ?_) 11 true 44 _ _ w h
  unfold kk_mm_holder_44 at hK
  cases hK
set_option maxRecDepth 100000 in
set_option maxHeartbeats 4000000 in
theorem go_mm_holder (hcx : eCx p { frames := 2, cells := 0, slots := 0, locals := 43 } s m args meth c cX12_holder RX12 3 ad D cA vwCl SHm SSm (eWd yX12_holder cX12_holder 3 (some .int)) (some .int)) (a1 : Int32) (a2 : Int32) (w : eW) (x : Int32 × eW) (h : f_mm_holder a1 a2 w = some x) : eGq p l e { frames := 2, cells := 0, slots := 0, locals := 43 } s m args below meth c 3 ad D cA vwCl SHm rI x 0 (eEnt [.ref 24, .int a1, .int a2]) [] w := by
  have h : eRun SHm SSm 3 rs_mm_holder (eCs cs_mm_holder) rI CX12_holder [44] (fun pc L st w => bif Nat.beq pc 44 then (lR L 0 24 ((lI L 1).bind fun a1 => (lI L 2).bind fun a2 => sI st (fun s0 st1 => sI st1 (fun s1 st2 => sI st2 (fun s2 st3 => sE st3 (f_mm_holder_J44 a1 a2 s0 s1 s2 w)))))) else none) 25 true 0 [some (.ref 24), some (.int a1), some (.int a2)] [] w = some x := h
  refine eGo.wk (eRun_go hcx (eLnk_all lk_mm_holder) (eHc_all hc_mm_holder) rI_ok dcX12_holder [44] _ (fun pc L st w hK => ?_) 25 true 0 _ _ w h) (eLe_wk ⟨rfl, rfl, rfl, trivial⟩)
  rcases eCut hK with ⟨hpc, hK⟩ | hK
  · subst hpc
    obtain ⟨e0, hK_1⟩ := lR_some hK
    obtain ⟨a1, e1, hK_2⟩ := lI_some hK_1
    obtain ⟨a2, e2, hK_3⟩ := lI_some hK_2
    obtain ⟨s0, st1, hst0, hK_4⟩ := sI_some hK_3
    subst hst0
    obtain ⟨s1, st2, hst1, hK_5⟩ := sI_some hK_4
    subst hst1
    obtain ⟨s2, st3, hst2, hK_6⟩ := sI_some hK_5
    subst hst2
    obtain ⟨hst9, hK_7⟩ := sE_some hK_6
    subst hst9
    exact eGo.wk (go_mm_holder_J44 hcx  a1 a2 s0 s1 s2 w hK_7) (eLe_wk ⟨e0, e1, e2, trivial⟩)
  cases hK
end
set_option maxRecDepth 100000 in
set_option maxHeartbeats 4000000 in
theorem ok_mm_holder {l : Launch} {ad : Nat → Nat} {D : va_G} {cA : Nat → ClassId} {ρ : Type} (as : List Value) (w : eW) (k : Option Value → eW → Option ρ) (x : ρ) (h : K_mm_holder as w k = some x) : ∃ (v : Option Value) (w2 : eW), k v w2 = some x ∧ eMet l ad D cA vwCl SHm SSm yX12_holder (eWd yX12_holder cX12_holder 3 (some .int)) { frames := 2, cells := 0, slots := 0, locals := 43 } as w v w2 := by
  unfold K_mm_holder at h
  split at h
  · rename_i r0 a1 a2
    obtain ⟨h1, h5⟩ := eBif h
    clear h
    have h := h5
    clear h5
    have h1 := Nat.eq_of_beq_eq_true h1
    subst h1
    obtain ⟨q, h2, h3⟩ := Option.bind_eq_some_iff.mp h
    exact ⟨_, _, h3, eMet_of (by decide +kernel) rfl (by simp [eCat, Value.category]) rI_ret (fun p e s m args below meth c hcx => go_mm_holder hcx a1 a2 w q h2)⟩
  · cases h
