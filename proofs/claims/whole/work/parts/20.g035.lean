def CX12_end : eCo := [[some (.aload_n 0), some (.iconst 0), some (.putfield 95), none, none, some (.iload_n 1), some (.iconst 0), some (.aload_n 0), some (.getfield 124), none, none, some (.invokestatic 101), none, none, some (.ifCond .ne 5), none],
  [none, some (.iconst (-1)), some (.ireturn), some (.aload_n 0), some (.iload_n 1), some (.putfield 124), none, none, some (.iload_n 1), some (.ireturn)]]
theorem dcX12_end : eDec cX12_end CX12_end := eDec_of (by decide +kernel)
def rs_mm_end : List (Nat × eR) := [(95, (0, 11, 0, 0)), (101, (1, 0, 3, -1)), (124, (0, 11, 18, 0))]
noncomputable def cs_mm_end : List (eF (Int32 × eW)) := [K_mm_in]
noncomputable def f_mm_end (a1 : Int32) (w : eW) : Option (Int32 × eW) := ((f_mm_in a1 (0 : Int32) (w.1 24 18) (eU1 w 24 0 (0 : Int32))).bind fun p1 => (if ¬ p1.1 = 0 then (some (a1, (eU1 p1.2 24 18 a1))) else (some ((-1 : Int32), p1.2))))
noncomputable def K_mm_end {ρ : Type} : eF ρ := fun as w k => match as with
  | [.ref r0, .int a1] => bif Nat.beq r0 24 then (f_mm_end a1 w).bind (fun p => k (some (.int p.1)) p.2) else none
  | _ => none
section
variable {p : Program} {l : Launch} {e : Env} {s : State} {m : MethodId} {args : Array Value} {below : List Frame} {meth : Method} {c : Code} {ad : Nat → Nat} {D : va_G} {cA : Nat → ClassId}
theorem lk_mm_end : ∀ q ∈ rs_mm_end, eLnk { frames := 1, cells := 0, slots := 0, locals := 22 } vwCl (eWd yX12_end cX12_end 2 (some .int)) SSm SHm.length RX12 q.1 q.2 := List.forall_mem_cons.mpr ⟨lkX12_95 eTb_wd, List.forall_mem_cons.mpr ⟨trivial, List.forall_mem_cons.mpr ⟨lkX12_124 eTb_wd, fun _ h => absurd h List.not_mem_nil⟩⟩⟩
theorem hc_mm_end {x : Int32 × eW} : ∀ q ∈ rs_mm_end, eHc l { frames := 1, cells := 0, slots := 0, locals := 22 } ad D cA vwCl SHm SSm (eWd yX12_end cX12_end 2 (some .int)) RX12 cs_mm_end x q := List.forall_mem_cons.mpr ⟨trivial, List.forall_mem_cons.mpr ⟨(fun as w k h => let ⟨v, w2, h1, h2⟩ := ok_mm_in as w k x h; ⟨v, w2, h1, eCal_of h2 ⟨rfl, rfl⟩ hdX12_in (gvX12_101 eTb_wd)⟩), List.forall_mem_cons.mpr ⟨trivial, fun _ h => absurd h List.not_mem_nil⟩⟩⟩
set_option maxRecDepth 100000 in
set_option maxHeartbeats 4000000 in
theorem go_mm_end (hcx : eCx p { frames := 1, cells := 0, slots := 0, locals := 22 } s m args meth c cX12_end RX12 2 ad D cA vwCl SHm SSm (eWd yX12_end cX12_end 2 (some .int)) (some .int)) (a1 : Int32) (w : eW) (x : Int32 × eW) (h : f_mm_end a1 w = some x) : eGq p l e { frames := 1, cells := 0, slots := 0, locals := 22 } s m args below meth c 2 ad D cA vwCl SHm rI x 0 (eEnt [.ref 24, .int a1]) [] w := by
  have h : eRun SHm SSm 2 rs_mm_end (eCs cs_mm_end) rI CX12_end [] (fun pc L st w => none) 16 true 0 [some (.ref 24), some (.int a1)] [] w = some x := h
  refine eGo.wk (eRun_go hcx (eLnk_all lk_mm_end) (eHc_all hc_mm_end) rI_ok dcX12_end [] _ (fun pc L st w hK => ?_) 16 true 0 _ _ w h) (eLe_wk ⟨rfl, rfl, trivial⟩)
  cases hK
end
set_option maxRecDepth 100000 in
set_option maxHeartbeats 4000000 in
theorem ok_mm_end {l : Launch} {ad : Nat → Nat} {D : va_G} {cA : Nat → ClassId} {ρ : Type} (as : List Value) (w : eW) (k : Option Value → eW → Option ρ) (x : ρ) (h : K_mm_end as w k = some x) : ∃ (v : Option Value) (w2 : eW), k v w2 = some x ∧ eMet l ad D cA vwCl SHm SSm yX12_end (eWd yX12_end cX12_end 2 (some .int)) { frames := 1, cells := 0, slots := 0, locals := 22 } as w v w2 := by
  unfold K_mm_end at h
  split at h
  · rename_i r0 a1
    obtain ⟨h1, h5⟩ := eBif h
    clear h
    have h := h5
    clear h5
    have h1 := Nat.eq_of_beq_eq_true h1
    subst h1
    obtain ⟨q, h2, h3⟩ := Option.bind_eq_some_iff.mp h
    exact ⟨_, _, h3, eMet_of (by decide +kernel) rfl (by simp [eCat, Value.category]) rI_ret (fun p e s m args below meth c hcx => go_mm_end hcx a1 w q h2)⟩
  · cases h
def CX12_isGood : eCo := [[some (.aload_n 0), some (.getfield 134), none, none, some (.ifCond .ne 7), none, none, some (.iconst 1), some (.goto 4), none, none, some (.iconst 0), some (.ireturn)]]
theorem dcX12_isGood : eDec cX12_isGood CX12_isGood := eDec_of (by decide +kernel)
def rs_mm_isGood : List (Nat × eR) := [(134, (0, 11, 27, 0))]
noncomputable def cs_mm_isGood : List (eF (Int32 × eW)) := []
noncomputable def f_mm_isGood (w : eW) : Option (Int32 × eW) := (if ¬ (w.1 24 27) = 0 then (some ((0 : Int32), w)) else (some ((1 : Int32), w)))
noncomputable def K_mm_isGood {ρ : Type} : eF ρ := fun as w k => match as with
  | [.ref r0] => bif Nat.beq r0 24 then (f_mm_isGood w).bind (fun p => k (some (.int p.1)) p.2) else none
  | _ => none
section
variable {p : Program} {l : Launch} {e : Env} {s : State} {m : MethodId} {args : Array Value} {below : List Frame} {meth : Method} {c : Code} {ad : Nat → Nat} {D : va_G} {cA : Nat → ClassId}
theorem lk_mm_isGood : ∀ q ∈ rs_mm_isGood, eLnk { frames := 0, cells := 0, slots := 0, locals := 0 } vwCl (eWd yX12_isGood cX12_isGood 1 (some .boolean)) SSm SHm.length RX12 q.1 q.2 := List.forall_mem_cons.mpr ⟨lkX12_134 eTb_wd, fun _ h => absurd h List.not_mem_nil⟩
theorem hc_mm_isGood {x : Int32 × eW} : ∀ q ∈ rs_mm_isGood, eHc l { frames := 0, cells := 0, slots := 0, locals := 0 } ad D cA vwCl SHm SSm (eWd yX12_isGood cX12_isGood 1 (some .boolean)) RX12 cs_mm_isGood x q := List.forall_mem_cons.mpr ⟨trivial, fun _ h => absurd h List.not_mem_nil⟩
set_option maxRecDepth 100000 in
set_option maxHeartbeats 4000000 in
theorem go_mm_isGood (hcx : eCx p { frames := 0, cells := 0, slots := 0, locals := 0 } s m args meth c cX12_isGood RX12 1 ad D cA vwCl SHm SSm (eWd yX12_isGood cX12_isGood 1 (some .boolean)) (some .boolean)) (w : eW) (x : Int32 × eW) (h : f_mm_isGood w = some x) : eGq p l e { frames := 0, cells := 0, slots := 0, locals := 0 } s m args below meth c 1 ad D cA vwCl SHm rZ x 0 (eEnt [.ref 24]) [] w := by
  have h : eRun SHm SSm 1 rs_mm_isGood (eCs cs_mm_isGood) rZ CX12_isGood [] (fun pc L st w => none) 8 true 0 [some (.ref 24)] [] w = some x := h
  refine eGo.wk (eRun_go hcx (eLnk_all lk_mm_isGood) (eHc_all hc_mm_isGood) rZ_ok dcX12_isGood [] _ (fun pc L st w hK => ?_) 8 true 0 _ _ w h) (eLe_wk ⟨rfl, trivial⟩)
  cases hK
end
set_option maxRecDepth 100000 in
set_option maxHeartbeats 4000000 in
theorem ok_mm_isGood {l : Launch} {ad : Nat → Nat} {D : va_G} {cA : Nat → ClassId} {ρ : Type} (as : List Value) (w : eW) (k : Option Value → eW → Option ρ) (x : ρ) (h : K_mm_isGood as w k = some x) : ∃ (v : Option Value) (w2 : eW), k v w2 = some x ∧ eMet l ad D cA vwCl SHm SSm yX12_isGood (eWd yX12_isGood cX12_isGood 1 (some .boolean)) { frames := 0, cells := 0, slots := 0, locals := 0 } as w v w2 := by
  unfold K_mm_isGood at h
  split at h
  · rename_i r0
    obtain ⟨h1, h5⟩ := eBif h
    clear h
    have h := h5
    clear h5
    have h1 := Nat.eq_of_beq_eq_true h1
    subst h1
    obtain ⟨q, h2, h3⟩ := Option.bind_eq_some_iff.mp h
    exact ⟨_, _, h3, eMet_of (by decide +kernel) rfl (by simp [eCat, Value.category]) rZ_ret (fun p e s m args below meth c hcx => go_mm_isGood hcx w q h2)⟩
  · cases h
def CX12_byteAt : eCo := [[some (.iload_n 1), some (.aload_n 0), some (.getfield 131), none, none, some (.if_icmp .ge 12), none, none, some (.aload_n 0), some (.getfield 43), none, none, some (.iload_n 1), some (.iaload), some (.goto 4), none],
  [none, some (.iconst (-1)), some (.ireturn)]]
theorem dcX12_byteAt : eDec cX12_byteAt CX12_byteAt := eDec_of (by decide +kernel)
def rs_mm_byteAt : List (Nat × eR) := [(43, (0, 11, 17, 2)), (131, (0, 11, 19, 0))]
noncomputable def cs_mm_byteAt : List (eF (Int32 × eW)) := []
noncomputable def f_mm_byteAt (a1 : Int32) (w : eW) : Option (Int32 × eW) := (if (w.1 24 19) ≤ a1 then (some ((-1 : Int32), w)) else (eChk a1 700 (some ((w.1 11 (Int32.toNatClampNeg a1)), w))))
noncomputable def K_mm_byteAt {ρ : Type} : eF ρ := fun as w k => match as with
  | [.ref r0, .int a1] => bif Nat.beq r0 24 then (f_mm_byteAt a1 w).bind (fun p => k (some (.int p.1)) p.2) else none
  | _ => none
section
variable {p : Program} {l : Launch} {e : Env} {s : State} {m : MethodId} {args : Array Value} {below : List Frame} {meth : Method} {c : Code} {ad : Nat → Nat} {D : va_G} {cA : Nat → ClassId}
theorem lk_mm_byteAt : ∀ q ∈ rs_mm_byteAt, eLnk { frames := 0, cells := 0, slots := 0, locals := 0 } vwCl (eWd yX12_byteAt cX12_byteAt 2 (some .int)) SSm SHm.length RX12 q.1 q.2 := List.forall_mem_cons.mpr ⟨lkX12_43 eTb_wd, List.forall_mem_cons.mpr ⟨lkX12_131 eTb_wd, fun _ h => absurd h List.not_mem_nil⟩⟩
theorem hc_mm_byteAt {x : Int32 × eW} : ∀ q ∈ rs_mm_byteAt, eHc l { frames := 0, cells := 0, slots := 0, locals := 0 } ad D cA vwCl SHm SSm (eWd yX12_byteAt cX12_byteAt 2 (some .int)) RX12 cs_mm_byteAt x q := List.forall_mem_cons.mpr ⟨trivial, List.forall_mem_cons.mpr ⟨trivial, fun _ h => absurd h List.not_mem_nil⟩⟩
set_option maxRecDepth 100000 in
set_option maxHeartbeats 4000000 in
theorem go_mm_byteAt (hcx : eCx p { frames := 0, cells := 0, slots := 0, locals := 0 } s m args meth c cX12_byteAt RX12 2 ad D cA vwCl SHm SSm (eWd yX12_byteAt cX12_byteAt 2 (some .int)) (some .int)) (a1 : Int32) (w : eW) (x : Int32 × eW) (h : f_mm_byteAt a1 w = some x) : eGq p l e { frames := 0, cells := 0, slots := 0, locals := 0 } s m args below meth c 2 ad D cA vwCl SHm rI x 0 (eEnt [.ref 24, .int a1]) [] w := by
  have h : eRun SHm SSm 2 rs_mm_byteAt (eCs cs_mm_byteAt) rI CX12_byteAt [] (fun pc L st w => none) 12 true 0 [some (.ref 24), some (.int a1)] [] w = some x := h
  refine eGo.wk (eRun_go hcx (eLnk_all lk_mm_byteAt) (eHc_all hc_mm_byteAt) rI_ok dcX12_byteAt [] _ (fun pc L st w hK => ?_) 12 true 0 _ _ w h) (eLe_wk ⟨rfl, rfl, trivial⟩)
  cases hK
end
set_option maxRecDepth 100000 in
set_option maxHeartbeats 4000000 in
theorem ok_mm_byteAt {l : Launch} {ad : Nat → Nat} {D : va_G} {cA : Nat → ClassId} {ρ : Type} (as : List Value) (w : eW) (k : Option Value → eW → Option ρ) (x : ρ) (h : K_mm_byteAt as w k = some x) : ∃ (v : Option Value) (w2 : eW), k v w2 = some x ∧ eMet l ad D cA vwCl SHm SSm yX12_byteAt (eWd yX12_byteAt cX12_byteAt 2 (some .int)) { frames := 0, cells := 0, slots := 0, locals := 0 } as w v w2 := by
  unfold K_mm_byteAt at h
  split at h
  · rename_i r0 a1
    obtain ⟨h1, h5⟩ := eBif h
    clear h
    have h := h5
    clear h5
    have h1 := Nat.eq_of_beq_eq_true h1
    subst h1
    obtain ⟨q, h2, h3⟩ := Option.bind_eq_some_iff.mp h
    exact ⟨_, _, h3, eMet_of (by decide +kernel) rfl (by simp [eCat, Value.category]) rI_ret (fun p e s m args below meth c hcx => go_mm_byteAt hcx a1 w q h2)⟩
  · cases h
def CX12_isSmall : eCo := [[some (.iload_n 0), some (.bipush 97), none, some (.if_icmp .lt 13), none, none, some (.iload_n 0), some (.bipush 122), none, some (.if_icmp .gt 7), none, none, some (.iconst 1), some (.goto 4), none, none],
  [some (.iconst 0), some (.ireturn)]]
theorem dcX12_isSmall : eDec cX12_isSmall CX12_isSmall := eDec_of (by decide +kernel)
def rs_mm_isSmall : List (Nat × eR) := []
noncomputable def cs_mm_isSmall : List (eF (Int32 × eW)) := []
noncomputable def f_mm_isSmall (a0 : Int32) (w : eW) : Option (Int32 × eW) := (if a0 < (97 : Int32) then (some ((0 : Int32), w)) else (if (122 : Int32) < a0 then (some ((0 : Int32), w)) else (some ((1 : Int32), w))))
noncomputable def K_mm_isSmall {ρ : Type} : eF ρ := fun as w k => match as with
  | [.int a0] => (f_mm_isSmall a0 w).bind (fun p => k (some (.int p.1)) p.2)
  | _ => none
section
variable {p : Program} {l : Launch} {e : Env} {s : State} {m : MethodId} {args : Array Value} {below : List Frame} {meth : Method} {c : Code} {ad : Nat → Nat} {D : va_G} {cA : Nat → ClassId}
theorem lk_mm_isSmall : ∀ q ∈ rs_mm_isSmall, eLnk { frames := 0, cells := 0, slots := 0, locals := 0 } vwCl (eWd yX12_isSmall cX12_isSmall 1 (some .boolean)) SSm SHm.length RX12 q.1 q.2 := fun _ h => absurd h List.not_mem_nil
theorem hc_mm_isSmall {x : Int32 × eW} : ∀ q ∈ rs_mm_isSmall, eHc l { frames := 0, cells := 0, slots := 0, locals := 0 } ad D cA vwCl SHm SSm (eWd yX12_isSmall cX12_isSmall 1 (some .boolean)) RX12 cs_mm_isSmall x q := fun _ h => absurd h List.not_mem_nil
set_option maxRecDepth 100000 in
set_option maxHeartbeats 4000000 in
theorem go_mm_isSmall (hcx : eCx p { frames := 0, cells := 0, slots := 0, locals := 0 } s m args meth c cX12_isSmall RX12 1 ad D cA vwCl SHm SSm (eWd yX12_isSmall cX12_isSmall 1 (some .boolean)) (some .boolean)) (a0 : Int32) (w : eW) (x : Int32 × eW) (h : f_mm_isSmall a0 w = some x) : eGq p l e { frames := 0, cells := 0, slots := 0, locals := 0 } s m args below meth c 1 ad D cA vwCl SHm rZ x 0 (eEnt [.int a0]) [] w := by
  have h : eRun SHm SSm 1 rs_mm_isSmall (eCs cs_mm_isSmall) rZ CX12_isSmall [] (fun pc L st w => none) 11 true 0 [some (.int a0)] [] w = some x := h
  refine eGo.wk (eRun_go hcx (eLnk_all lk_mm_isSmall) (eHc_all hc_mm_isSmall) rZ_ok dcX12_isSmall [] _ (fun pc L st w hK => ?_) 11 true 0 _ _ w h) (eLe_wk ⟨rfl, trivial⟩)
  cases hK
end
set_option maxRecDepth 100000 in
set_option maxHeartbeats 4000000 in
theorem ok_mm_isSmall {l : Launch} {ad : Nat → Nat} {D : va_G} {cA : Nat → ClassId} {ρ : Type} (as : List Value) (w : eW) (k : Option Value → eW → Option ρ) (x : ρ) (h : K_mm_isSmall as w k = some x) : ∃ (v : Option Value) (w2 : eW), k v w2 = some x ∧ eMet l ad D cA vwCl SHm SSm yX12_isSmall (eWd yX12_isSmall cX12_isSmall 1 (some .boolean)) { frames := 0, cells := 0, slots := 0, locals := 0 } as w v w2 := by
  unfold K_mm_isSmall at h
  split at h
  · rename_i a0
    obtain ⟨q, h2, h3⟩ := Option.bind_eq_some_iff.mp h
    exact ⟨_, _, h3, eMet_of (by decide +kernel) rfl (by simp [eCat, Value.category]) rZ_ret (fun p e s m args below meth c hcx => go_mm_isSmall hcx a0 w q h2)⟩
  · cases h
def CX12_isDigit : eCo := [[some (.iload_n 0), some (.bipush 48), none, some (.if_icmp .lt 13), none, none, some (.iload_n 0), some (.bipush 57), none, some (.if_icmp .gt 7), none, none, some (.iconst 1), some (.goto 4), none, none],
  [some (.iconst 0), some (.ireturn)]]
theorem dcX12_isDigit : eDec cX12_isDigit CX12_isDigit := eDec_of (by decide +kernel)
def rs_mm_isDigit : List (Nat × eR) := []
noncomputable def cs_mm_isDigit : List (eF (Int32 × eW)) := []
noncomputable def f_mm_isDigit (a0 : Int32) (w : eW) : Option (Int32 × eW) := (if a0 < (48 : Int32) then (some ((0 : Int32), w)) else (if (57 : Int32) < a0 then (some ((0 : Int32), w)) else (some ((1 : Int32), w))))
noncomputable def K_mm_isDigit {ρ : Type} : eF ρ := fun as w k => match as with
  | [.int a0] => (f_mm_isDigit a0 w).bind (fun p => k (some (.int p.1)) p.2)
  | _ => none
section
variable {p : Program} {l : Launch} {e : Env} {s : State} {m : MethodId} {args : Array Value} {below : List Frame} {meth : Method} {c : Code} {ad : Nat → Nat} {D : va_G} {cA : Nat → ClassId}
theorem lk_mm_isDigit : ∀ q ∈ rs_mm_isDigit, eLnk { frames := 0, cells := 0, slots := 0, locals := 0 } vwCl (eWd yX12_isDigit cX12_isDigit 1 (some .boolean)) SSm SHm.length RX12 q.1 q.2 := fun _ h => absurd h List.not_mem_nil
theorem hc_mm_isDigit {x : Int32 × eW} : ∀ q ∈ rs_mm_isDigit, eHc l { frames := 0, cells := 0, slots := 0, locals := 0 } ad D cA vwCl SHm SSm (eWd yX12_isDigit cX12_isDigit 1 (some .boolean)) RX12 cs_mm_isDigit x q := fun _ h => absurd h List.not_mem_nil
set_option maxRecDepth 100000 in
set_option maxHeartbeats 4000000 in
theorem go_mm_isDigit (hcx : eCx p { frames := 0, cells := 0, slots := 0, locals := 0 } s m args meth c cX12_isDigit RX12 1 ad D cA vwCl SHm SSm (eWd yX12_isDigit cX12_isDigit 1 (some .boolean)) (some .boolean)) (a0 : Int32) (w : eW) (x : Int32 × eW) (h : f_mm_isDigit a0 w = some x) : eGq p l e { frames := 0, cells := 0, slots := 0, locals := 0 } s m args below meth c 1 ad D cA vwCl SHm rZ x 0 (eEnt [.int a0]) [] w := by
  have h : eRun SHm SSm 1 rs_mm_isDigit (eCs cs_mm_isDigit) rZ CX12_isDigit [] (fun pc L st w => none) 11 true 0 [some (.int a0)] [] w = some x := h
  refine eGo.wk (eRun_go hcx (eLnk_all lk_mm_isDigit) (eHc_all hc_mm_isDigit) rZ_ok dcX12_isDigit [] _ (fun pc L st w hK => ?_) 11 true 0 _ _ w h) (eLe_wk ⟨rfl, trivial⟩)
  cases hK
end
set_option maxRecDepth 100000 in
set_option maxHeartbeats 4000000 in
theorem ok_mm_isDigit {l : Launch} {ad : Nat → Nat} {D : va_G} {cA : Nat → ClassId} {ρ : Type} (as : List Value) (w : eW) (k : Option Value → eW → Option ρ) (x : ρ) (h : K_mm_isDigit as w k = some x) : ∃ (v : Option Value) (w2 : eW), k v w2 = some x ∧ eMet l ad D cA vwCl SHm SSm yX12_isDigit (eWd yX12_isDigit cX12_isDigit 1 (some .boolean)) { frames := 0, cells := 0, slots := 0, locals := 0 } as w v w2 := by
  unfold K_mm_isDigit at h
  split at h
  · rename_i a0
    obtain ⟨q, h2, h3⟩ := Option.bind_eq_some_iff.mp h
    exact ⟨_, _, h3, eMet_of (by decide +kernel) rfl (by simp [eCat, Value.category]) rZ_ret (fun p e s m args below meth c hcx => go_mm_isDigit hcx a0 w q h2)⟩
  · cases h
def CX12_goOn : eCo := [[some (.aload_n 0), some (.invokevirtual 146), none, none, some (.ifCond .ne 4), none, none, some (.return_), some (.aload_n 0), some (.aload_n 0), some (.getfield 150), none, none, some (.invokevirtual 153), none, none],
  [some (.bipush 32), none, some (.if_icmp .eq 16), none, none, some (.aload_n 0), some (.aload_n 0), some (.getfield 150), none, none, some (.invokevirtual 153), none, none, some (.bipush 10), none, some (.if_icmp .ne 16)],
  [none, none, some (.aload_n 0), some (.dup), some (.getfield 150), none, none, some (.iconst 1), some (.iadd), some (.putfield 150), none, none, some (.goto (-36)), none, none, some (.aload_n 0)],
  [some (.aload_n 0), some (.getfield 150), none, none, some (.putfield 140), none, none, some (.aload_n 0), some (.aload_n 0), some (.getfield 140), none, none, some (.invokevirtual 153), none, none, some (.istore_n 1)],
  [some (.aload_n 0), some (.iconst 0), some (.putfield 156), none, none, some (.aload_n 0), some (.iconst 0), some (.putfield 159), none, none, some (.iload_n 1), some (.iconst (-1)), some (.if_icmp .ne 11), none, none, some (.aload_n 0)],
  [some (.iconst 0), some (.putfield 137), none, none, some (.goto 283), none, none, some (.iload_n 1), some (.invokestatic 162), none, none, some (.ifCond .eq 139), none, none, some (.aload_n 0), some (.aload_n 0)],
  [some (.getfield 150), none, none, some (.invokevirtual 153), none, none, some (.invokestatic 162), none, none, some (.ifCond .eq 99), none, none, some (.aload_n 0), some (.aload_n 0), some (.getfield 150), none],
  [none, some (.invokevirtual 153), none, none, some (.bipush 96), none, some (.isub), some (.istore_n 2), some (.aload_n 0), some (.aload_n 0), some (.getfield 150), none, none, some (.aload_n 0), some (.getfield 140), none],
  [none, some (.isub), some (.iconst 5), some (.if_icmp .ge 15), none, none, some (.aload_n 0), some (.getfield 156), none, none, some (.bipush 32), none, some (.imul), some (.iload_n 2), some (.iadd), some (.goto 7)],
  [none, none, some (.aload_n 0), some (.getfield 156), none, none, some (.putfield 156), none, none, some (.aload_n 0), some (.aload_n 0), some (.getfield 150), none, none, some (.aload_n 0), some (.getfield 140)],
  [none, none, some (.isub), some (.iconst 5), some (.bipush 7), none, some (.invokestatic 101), none, none, some (.ifCond .eq 15), none, none, some (.aload_n 0), some (.getfield 159), none, none],
  [some (.bipush 32), none, some (.imul), some (.iload_n 2), some (.iadd), some (.goto 7), none, none, some (.aload_n 0), some (.getfield 159), none, none, some (.putfield 159), none, none, some (.aload_n 0)],
  [some (.dup), some (.getfield 150), none, none, some (.iconst 1), some (.iadd), some (.putfield 150), none, none, some (.goto (-107)), none, none, some (.aload_n 0), some (.aload_n 0), some (.getfield 150), none],
  [none, some (.aload_n 0), some (.getfield 140), none, none, some (.isub), some (.bipush 7), none, some (.if_icmp .le 7), none, none, some (.iconst 4), some (.goto 4), none, none, some (.iconst 1)],
  [some (.putfield 137), none, none, some (.goto 140), none, none, some (.iload_n 1), some (.invokestatic 165), none, none, some (.ifCond .eq 108), none, none, some (.aload_n 0), some (.aload_n 0), some (.getfield 150)],
  [none, none, some (.invokevirtual 153), none, none, some (.invokestatic 165), none, none, some (.ifCond .eq 55), none, none, some (.aload_n 0), some (.aload_n 0), some (.getfield 156), none, none],
  [some (.ldc 168), none, some (.if_icmp .le 10), none, none, some (.aload_n 0), some (.getfield 156), none, none, some (.goto 22), none, none, some (.aload_n 0), some (.getfield 156), none, none],
  [some (.bipush 10), none, some (.imul), some (.aload_n 0), some (.aload_n 0), some (.getfield 150), none, none, some (.invokevirtual 153), none, none, some (.iadd), some (.bipush 48), none, some (.isub), some (.putfield 156)],
  [none, none, some (.aload_n 0), some (.dup), some (.getfield 150), none, none, some (.iconst 1), some (.iadd), some (.putfield 150), none, none, some (.goto (-63)), none, none, some (.aload_n 0)],
  [some (.aload_n 0), some (.getfield 150), none, none, some (.aload_n 0), some (.getfield 140), none, none, some (.isub), some (.iconst 4), some (.if_icmp .gt 17), none, none, some (.aload_n 0), some (.aload_n 0), some (.getfield 150)],
  [none, none, some (.invokevirtual 153), none, none, some (.invokestatic 162), none, none, some (.ifCond .eq 7), none, none, some (.iconst 4), some (.goto 4), none, none, some (.iconst 2)],
  [some (.putfield 137), none, none, some (.goto 28), none, none, some (.aload_n 0), some (.dup), some (.getfield 150), none, none, some (.iconst 1), some (.iadd), some (.putfield 150), none, none],
  [some (.aload_n 0), some (.iload_n 1), some (.bipush 59), none, some (.if_icmp .ne 7), none, none, some (.iconst 3), some (.goto 4), none, none, some (.iconst 4), some (.putfield 137), none, none, some (.return_)]]
theorem dcX12_goOn : eDec cX12_goOn CX12_goOn := eDec_of (by decide +kernel)
def rs_mm_goOn : List (Nat × eR) := [(101, (1, 4, 3, -1)), (137, (0, 11, 22, 0)), (140, (0, 11, 20, 0)), (146, (1, 0, 0, 11)), (150, (0, 11, 21, 0)), (153, (1, 1, 1, 11)), (156, (0, 11, 23, 0)), (159, (0, 11, 24, 0)), (162, (1, 2, 1, -1)), (165, (1, 3, 1, -1)), (168, (2, 0, 0, 99999))]
noncomputable def cs_mm_goOn : List (eF (eW)) := [K_mm_isGood, K_mm_byteAt, K_mm_isSmall, K_mm_isDigit, K_mm_in]
noncomputable def f_mm_goOn_L237 : Nat → eW → Option (eW)
  | 0, _ => none
  | n + 1, w => ((f_mm_byteAt (w.1 24 21) w).bind fun p7 => ((f_mm_isDigit p7.1 p7.2).bind fun p8 => (if p8.1 = 0 then (if (4 : Int32) < ((p8.2.1 24 21) - (p8.2.1 24 20)) then (some (eU1 p8.2 24 22 (4 : Int32))) else ((f_mm_byteAt (p8.2.1 24 21) p8.2).bind fun p9 => ((f_mm_isSmall p9.1 p9.2).bind fun p10 => (if p10.1 = 0 then (some (eU1 p10.2 24 22 (2 : Int32))) else (some (eU1 p10.2 24 22 (4 : Int32))))))) else (if (p8.2.1 24 23) ≤ (99999 : Int32) then ((f_mm_byteAt (p8.2.1 24 21) p8.2).bind fun p11 => (f_mm_goOn_L237 n (eU1 (eU1 p11.2 24 23 ((((p8.2.1 24 23) * (10 : Int32)) + p11.1) - (48 : Int32))) 24 21 ((p11.2.1 24 21) + (1 : Int32))))) else (f_mm_goOn_L237 n (eU1 (eU1 p8.2 24 23 (p8.2.1 24 23)) 24 21 ((p8.2.1 24 21) + (1 : Int32))))))))
noncomputable def f_mm_goOn_J150 (k94 : eW → Option (eW)) (a2 : Int32) (s0 : Int32) (w : eW) : Option (eW) := ((f_mm_in ((w.1 24 21) - (w.1 24 20)) (5 : Int32) (7 : Int32) (eU1 w 24 23 s0)).bind fun p15 => (if p15.1 = 0 then (k94 (eU1 (eU1 p15.2 24 24 (p15.2.1 24 24)) 24 21 ((p15.2.1 24 21) + (1 : Int32)))) else (k94 (eU1 (eU1 p15.2 24 24 (((p15.2.1 24 24) * (32 : Int32)) + a2)) 24 21 ((p15.2.1 24 21) + (1 : Int32))))))
noncomputable def f_mm_goOn_L94 : Nat → eW → Option (eW)
  | 0, _ => none
  | n + 1, w => ((f_mm_byteAt (w.1 24 21) w).bind fun p12 => ((f_mm_isSmall p12.1 p12.2).bind fun p13 => (if p13.1 = 0 then (if ((p13.2.1 24 21) - (p13.2.1 24 20)) ≤ (7 : Int32) then (some (eU1 p13.2 24 22 (1 : Int32))) else (some (eU1 p13.2 24 22 (4 : Int32)))) else ((f_mm_byteAt (p13.2.1 24 21) p13.2).bind fun p14 => (if (5 : Int32) ≤ ((p14.2.1 24 21) - (p14.2.1 24 20)) then (f_mm_goOn_J150 (f_mm_goOn_L94 n) (p14.1 - (96 : Int32)) (p14.2.1 24 23) p14.2) else (f_mm_goOn_J150 (f_mm_goOn_L94 n) (p14.1 - (96 : Int32)) (((p14.2.1 24 23) * (32 : Int32)) + (p14.1 - (96 : Int32))) p14.2))))))
noncomputable def f_mm_goOn_L8 : Nat → eW → Option (eW)
  | 0, _ => none
  | n + 1, w => ((f_mm_byteAt (w.1 24 21) w).bind fun p2 => (if p2.1 = (32 : Int32) then (f_mm_goOn_L8 n (eU1 p2.2 24 21 ((p2.2.1 24 21) + (1 : Int32)))) else ((f_mm_byteAt (p2.2.1 24 21) p2.2).bind fun p3 => (if ¬ p3.1 = (10 : Int32) then ((f_mm_byteAt (p3.2.1 24 21) (eU1 p3.2 24 20 (p3.2.1 24 21))).bind fun p4 => (if ¬ p4.1 = (-1 : Int32) then ((f_mm_isSmall p4.1 (eU1 (eU1 p4.2 24 23 (0 : Int32)) 24 24 (0 : Int32))).bind fun p5 => (if p5.1 = 0 then ((f_mm_isDigit p4.1 p5.2).bind fun p6 => (if p6.1 = 0 then (if ¬ p4.1 = (59 : Int32) then (some (eU1 (eU1 p6.2 24 21 ((p6.2.1 24 21) + (1 : Int32))) 24 22 (4 : Int32))) else (some (eU1 (eU1 p6.2 24 21 ((p6.2.1 24 21) + (1 : Int32))) 24 22 (3 : Int32)))) else (f_mm_goOn_L237 eFu p6.2))) else (f_mm_goOn_L94 eFu p5.2))) else (some (eU1 (eU1 (eU1 p4.2 24 23 (0 : Int32)) 24 24 (0 : Int32)) 24 22 (0 : Int32))))) else (f_mm_goOn_L8 n (eU1 p3.2 24 21 ((p3.2.1 24 21) + (1 : Int32))))))))
noncomputable def f_mm_goOn (w : eW) : Option (eW) := ((f_mm_isGood w).bind fun p1 => (if ¬ p1.1 = 0 then (f_mm_goOn_L8 eFu p1.2) else (some p1.2)))
noncomputable def K_mm_goOn {ρ : Type} : eF ρ := fun as w k => match as with
  | [.ref r0] => bif Nat.beq r0 24 then (f_mm_goOn w).bind (fun w => k none w) else none
  | _ => none
section
variable {p : Program} {l : Launch} {e : Env} {s : State} {m : MethodId} {args : Array Value} {below : List Frame} {meth : Method} {c : Code} {ad : Nat → Nat} {D : va_G} {cA : Nat → ClassId}
theorem lk_mm_goOn : ∀ q ∈ rs_mm_goOn, eLnk { frames := 1, cells := 0, slots := 0, locals := 22 } vwCl (eWd yX12_goOn cX12_goOn 3 none) SSm SHm.length RX12 q.1 q.2 := List.forall_mem_cons.mpr ⟨trivial, List.forall_mem_cons.mpr ⟨lkX12_137 eTb_wd, List.forall_mem_cons.mpr ⟨lkX12_140 eTb_wd, List.forall_mem_cons.mpr ⟨trivial, List.forall_mem_cons.mpr ⟨lkX12_150 eTb_wd, List.forall_mem_cons.mpr ⟨trivial, List.forall_mem_cons.mpr ⟨lkX12_156 eTb_wd, List.forall_mem_cons.mpr ⟨lkX12_159 eTb_wd, List.forall_mem_cons.mpr ⟨trivial, List.forall_mem_cons.mpr ⟨trivial, List.forall_mem_cons.mpr ⟨lkX12_168 eTb_wd, fun _ h => absurd h List.not_mem_nil⟩⟩⟩⟩⟩⟩⟩⟩⟩⟩⟩
theorem hc_mm_goOn {x : eW} : ∀ q ∈ rs_mm_goOn, eHc l { frames := 1, cells := 0, slots := 0, locals := 22 } ad D cA vwCl SHm SSm (eWd yX12_goOn cX12_goOn 3 none) RX12 cs_mm_goOn x q := List.forall_mem_cons.mpr ⟨(fun as w k h => let ⟨v, w2, h1, h2⟩ := ok_mm_in as w k x h; ⟨v, w2, h1, eCal_of h2 ⟨rfl, rfl⟩ hdX12_in (gvX12_101 eTb_wd)⟩), List.forall_mem_cons.mpr ⟨trivial, List.forall_mem_cons.mpr ⟨trivial, List.forall_mem_cons.mpr ⟨(fun as w k h => let ⟨v, w2, h1, h2⟩ := ok_mm_isGood as w k x h; ⟨v, w2, h1, eCal_of h2 ⟨rfl, rfl⟩ hdX12_isGood (gvX12_146 eTb_wd)⟩), List.forall_mem_cons.mpr ⟨trivial, List.forall_mem_cons.mpr ⟨(fun as w k h => let ⟨v, w2, h1, h2⟩ := ok_mm_byteAt as w k x h; ⟨v, w2, h1, eCal_of h2 ⟨rfl, rfl⟩ hdX12_byteAt (gvX12_153 eTb_wd)⟩), List.forall_mem_cons.mpr ⟨trivial, List.forall_mem_cons.mpr ⟨trivial, List.forall_mem_cons.mpr ⟨(fun as w k h => let ⟨v, w2, h1, h2⟩ := ok_mm_isSmall as w k x h; ⟨v, w2, h1, eCal_of h2 ⟨rfl, rfl⟩ hdX12_isSmall (gvX12_162 eTb_wd)⟩), List.forall_mem_cons.mpr ⟨(fun as w k h => let ⟨v, w2, h1, h2⟩ := ok_mm_isDigit as w k x h; ⟨v, w2, h1, eCal_of h2 ⟨rfl, rfl⟩ hdX12_isDigit (gvX12_165 eTb_wd)⟩), List.forall_mem_cons.mpr ⟨trivial, fun _ h => absurd h List.not_mem_nil⟩⟩⟩⟩⟩⟩⟩⟩⟩⟩⟩
noncomputable def kk_mm_goOn_237 (n : Nat) : eK (eW) := fun pc L st w => bif Nat.beq pc 237 then (lR L 0 24 (sE st (f_mm_goOn_L237 n w))) else none
set_option maxRecDepth 100000 in
set_option maxHeartbeats 4000000 in
theorem go_mm_goOn_L237 (hcx : eCx p { frames := 1, cells := 0, slots := 0, locals := 22 } s m args meth c cX12_goOn RX12 3 ad D cA vwCl SHm SSm (eWd yX12_goOn cX12_goOn 3 none) (none)) {x : eW} : ∀ (n : Nat) (w : eW), f_mm_goOn_L237  n w = some x → eGq p l e { frames := 1, cells := 0, slots := 0, locals := 22 } s m args below meth c 3 ad D cA vwCl SHm rV x 237 [some (.ref 24), none, none] [] w := by
  intro n
  induction n with
  | zero => intro w h; exact nomatch (show (none : Option (eW)) = some x from h)
  | succ n ih =>
    intro w h
    have h : eRun SHm SSm 3 rs_mm_goOn (eCs cs_mm_goOn) rV CX12_goOn [8, 94, 150, 237] (kk_mm_goOn_237  n) 33 true 237 [some (.ref 24), none, none] [] w = some x := h
    refine eRun_go hcx (eLnk_all lk_mm_goOn) (eHc_all hc_mm_goOn) rV_ok dcX12_goOn [8, 94, 150, 237] _ (fun pc L st w hK => ?_) 33 true 237 _ _ w h
    unfold kk_mm_goOn_237 at hK
    rcases eCut hK with ⟨hpc, hK⟩ | hK
    · subst hpc
      obtain ⟨e0, hK_1⟩ := lR_some hK
      obtain ⟨hst9, hK_2⟩ := sE_some hK_1
      subst hst9
      exact eGo.wk (ih w hK_2) (eLe_wk ⟨e0, trivial⟩)
    cases hK
noncomputable def kk_mm_goOn_150 (k94 : eW → Option (eW)) : eK (eW) := fun pc L st w => bif Nat.beq pc 94 then (lR L 0 24 (sE st (k94 w))) else none
set_option maxRecDepth 100000 in
set_option maxHeartbeats 4000000 in
theorem go_mm_goOn_J150 (hcx : eCx p { frames := 1, cells := 0, slots := 0, locals := 22 } s m args meth c cX12_goOn RX12 3 ad D cA vwCl SHm SSm (eWd yX12_goOn cX12_goOn 3 none) (none)) {x : eW} (k94 : eW → Option (eW)) (hk94 : ∀ (w : eW), k94 w = some x → eGq p l e { frames := 1, cells := 0, slots := 0, locals := 22 } s m args below meth c 3 ad D cA vwCl SHm rV x 94 [some (.ref 24), none, none] [] w) : ∀ (a2 : Int32) (s0 : Int32) (w : eW), f_mm_goOn_J150 k94 a2 s0 w = some x → eGq p l e { frames := 1, cells := 0, slots := 0, locals := 22 } s m args below meth c 3 ad D cA vwCl SHm rV x 150 [some (.ref 24), none, some (.int a2)] [.int s0, .ref 24] w := by
  intro a2 s0 w h
  have h : eRun SHm SSm 3 rs_mm_goOn (eCs cs_mm_goOn) rV CX12_goOn [8, 94, 150, 237] (kk_mm_goOn_150 k94) 29 true 150 [some (.ref 24), none, some (.int a2)] [.int s0, .ref 24] w = some x := h
  refine eRun_go hcx (eLnk_all lk_mm_goOn) (eHc_all hc_mm_goOn) rV_ok dcX12_goOn [8, 94, 150, 237] _ (fun pc L st w hK => ?_) 29 true 150 _ _ w h
  unfold kk_mm_goOn_150 at hK
  rcases eCut hK with ⟨hpc, hK⟩ | hK
  · subst hpc
    obtain ⟨e0, hK_1⟩ := lR_some hK
    obtain ⟨hst9, hK_2⟩ := sE_some hK_1
    subst hst9
    exact eGo.wk (hk94 w hK_2) (eLe_wk ⟨e0, trivial⟩)
  cases hK
noncomputable def kk_mm_goOn_94 (n : Nat) : eK (eW) := fun pc L st w => bif Nat.beq pc 150 then (lR L 0 24 ((lI L 2).bind fun a2 => sI st (fun s0 st1 => sR st1 24 (fun st2 => sE st2 (f_mm_goOn_J150 (f_mm_goOn_L94 n) a2 s0 w))))) else none
set_option maxRecDepth 100000 in
set_option maxHeartbeats 4000000 in
theorem go_mm_goOn_L94 (hcx : eCx p { frames := 1, cells := 0, slots := 0, locals := 22 } s m args meth c cX12_goOn RX12 3 ad D cA vwCl SHm SSm (eWd yX12_goOn cX12_goOn 3 none) (none)) {x : eW} : ∀ (n : Nat) (w : eW), f_mm_goOn_L94  n w = some x → eGq p l e { frames := 1, cells := 0, slots := 0, locals := 22 } s m args below meth c 3 ad D cA vwCl SHm rV x 94 [some (.ref 24), none, none] [] w := by
  intro n
  induction n with
  | zero => intro w h; exact nomatch (show (none : Option (eW)) = some x from h)
  | succ n ih =>
    intro w h
    have h : eRun SHm SSm 3 rs_mm_goOn (eCs cs_mm_goOn) rV CX12_goOn [8, 94, 150, 237] (kk_mm_goOn_94  n) 31 true 94 [some (.ref 24), none, none] [] w = some x := h
    refine eRun_go hcx (eLnk_all lk_mm_goOn) (eHc_all hc_mm_goOn) rV_ok dcX12_goOn [8, 94, 150, 237] _ (fun pc L st w hK => ?_) 31 true 94 _ _ w h
    unfold kk_mm_goOn_94 at hK
    rcases eCut hK with ⟨hpc, hK⟩ | hK
    · subst hpc
      obtain ⟨e0, hK_1⟩ := lR_some hK
      obtain ⟨a2, e2, hK_2⟩ := lI_some hK_1
      obtain ⟨s0, st1, hst0, hK_3⟩ := sI_some hK_2
      subst hst0
      obtain ⟨st2, hst1, hK_4⟩ := sR_some hK_3
      subst hst1
      obtain ⟨hst9, hK_5⟩ := sE_some hK_4
      subst hst9
      exact eGo.wk (go_mm_goOn_J150 hcx (f_mm_goOn_L94 n) ih a2 s0 w hK_5) (eLe_wk ⟨e0, e2, trivial⟩)
    cases hK
noncomputable def kk_mm_goOn_8 (n : Nat) : eK (eW) := fun pc L st w => bif Nat.beq pc 8 then (lR L 0 24 (sE st (f_mm_goOn_L8 n w))) else (bif Nat.beq pc 237 then (lR L 0 24 (sE st (f_mm_goOn_L237 eFu w))) else (bif Nat.beq pc 94 then (lR L 0 24 (sE st (f_mm_goOn_L94 eFu w))) else none))
set_option maxRecDepth 100000 in
set_option maxHeartbeats 4000000 in
theorem go_mm_goOn_L8 (hcx : eCx p { frames := 1, cells := 0, slots := 0, locals := 22 } s m args meth c cX12_goOn RX12 3 ad D cA vwCl SHm SSm (eWd yX12_goOn cX12_goOn 3 none) (none)) {x : eW} : ∀ (n : Nat) (w : eW), f_mm_goOn_L8  n w = some x → eGq p l e { frames := 1, cells := 0, slots := 0, locals := 22 } s m args below meth c 3 ad D cA vwCl SHm rV x 8 [some (.ref 24), none, none] [] w := by
  intro n
  induction n with
  | zero => intro w h; exact nomatch (show (none : Option (eW)) = some x from h)
  | succ n ih =>
    intro w h
    have h : eRun SHm SSm 3 rs_mm_goOn (eCs cs_mm_goOn) rV CX12_goOn [8, 94, 150, 237] (kk_mm_goOn_8  n) 52 true 8 [some (.ref 24), none, none] [] w = some x := h
    refine eRun_go hcx (eLnk_all lk_mm_goOn) (eHc_all hc_mm_goOn) rV_ok dcX12_goOn [8, 94, 150, 237] _ (fun pc L st w hK => ?_) 52 true 8 _ _ w h
    unfold kk_mm_goOn_8 at hK
    rcases eCut hK with ⟨hpc, hK⟩ | hK
    · subst hpc
      obtain ⟨e0, hK_1⟩ := lR_some hK
      obtain ⟨hst9, hK_2⟩ := sE_some hK_1
      subst hst9
      exact eGo.wk (ih w hK_2) (eLe_wk ⟨e0, trivial⟩)
    rcases eCut hK with ⟨hpc, hK⟩ | hK
    · subst hpc
      obtain ⟨e0, hK_1⟩ := lR_some hK
      obtain ⟨hst9, hK_2⟩ := sE_some hK_1
      subst hst9
      exact eGo.wk (go_mm_goOn_L237 hcx  eFu w hK_2) (eLe_wk ⟨e0, trivial⟩)
    rcases eCut hK with ⟨hpc, hK⟩ | hK
    · subst hpc
      obtain ⟨e0, hK_1⟩ := lR_some hK
      obtain ⟨hst9, hK_2⟩ := sE_some hK_1
      subst hst9
      exact eGo.wk (go_mm_goOn_L94 hcx  eFu w hK_2) (eLe_wk ⟨e0, trivial⟩)
    cases hK
set_option maxRecDepth 100000 in
set_option maxHeartbeats 4000000 in
theorem go_mm_goOn (hcx : eCx p { frames := 1, cells := 0, slots := 0, locals := 22 } s m args meth c cX12_goOn RX12 3 ad D cA vwCl SHm SSm (eWd yX12_goOn cX12_goOn 3 none) (none)) (w : eW) (x : eW) (h : f_mm_goOn w = some x) : eGq p l e { frames := 1, cells := 0, slots := 0, locals := 22 } s m args below meth c 3 ad D cA vwCl SHm rV x 0 (eEnt [.ref 24]) [] w := by
  have h : eRun SHm SSm 3 rs_mm_goOn (eCs cs_mm_goOn) rV CX12_goOn [8, 94, 150, 237] (fun pc L st w => bif Nat.beq pc 8 then (lR L 0 24 (sE st (f_mm_goOn_L8 eFu w))) else none) 6 true 0 [some (.ref 24), none, none] [] w = some x := h
  refine eGo.wk (eRun_go hcx (eLnk_all lk_mm_goOn) (eHc_all hc_mm_goOn) rV_ok dcX12_goOn [8, 94, 150, 237] _ (fun pc L st w hK => ?_) 6 true 0 _ _ w h) (eLe_wk ⟨rfl, trivial⟩)
  rcases eCut hK with ⟨hpc, hK⟩ | hK
  · subst hpc
    obtain ⟨e0, hK_1⟩ := lR_some hK
    obtain ⟨hst9, hK_2⟩ := sE_some hK_1
    subst hst9
    exact eGo.wk (go_mm_goOn_L8 hcx  eFu w hK_2) (eLe_wk ⟨e0, trivial⟩)
  cases hK
end
set_option maxRecDepth 100000 in
set_option maxHeartbeats 4000000 in
theorem ok_mm_goOn {l : Launch} {ad : Nat → Nat} {D : va_G} {cA : Nat → ClassId} {ρ : Type} (as : List Value) (w : eW) (k : Option Value → eW → Option ρ) (x : ρ) (h : K_mm_goOn as w k = some x) : ∃ (v : Option Value) (w2 : eW), k v w2 = some x ∧ eMet l ad D cA vwCl SHm SSm yX12_goOn (eWd yX12_goOn cX12_goOn 3 none) { frames := 1, cells := 0, slots := 0, locals := 22 } as w v w2 := by
  unfold K_mm_goOn at h
  split at h
  · rename_i r0
    obtain ⟨h1, h5⟩ := eBif h
    clear h
    have h := h5
    clear h5
    have h1 := Nat.eq_of_beq_eq_true h1
    subst h1
    obtain ⟨q, h2, h3⟩ := Option.bind_eq_some_iff.mp h
    exact ⟨_, _, h3, eMet_of (by decide +kernel) rfl (by simp [eCat, Value.category]) rV_ret (fun p e s m args below meth c hcx => go_mm_goOn hcx w q h2)⟩
  · cases h
