def CX12_isWord : eCo := [[some (.aload_n 0), some (.getfield 137), none, none, some (.iconst 1), some (.if_icmp .ne 23), none, none, some (.aload_n 0), some (.getfield 156), none, none, some (.iload_n 1), some (.if_icmp .ne 15), none, none],
  [some (.aload_n 0), some (.getfield 159), none, none, some (.iload_n 2), some (.if_icmp .ne 7), none, none, some (.iconst 1), some (.goto 4), none, none, some (.iconst 0), some (.ireturn)]]
theorem dcX12_isWord : eDec cX12_isWord CX12_isWord := eDec_of (by decide +kernel)
def rs_mm_isWord : List (Nat × eR) := [(137, (0, 11, 22, 0)), (156, (0, 11, 23, 0)), (159, (0, 11, 24, 0))]
noncomputable def cs_mm_isWord : List (eF (Int32 × eW)) := []
noncomputable def f_mm_isWord (a1 : Int32) (a2 : Int32) (w : eW) : Option (Int32 × eW) := (if ¬ (w.1 24 22) = (1 : Int32) then (some ((0 : Int32), w)) else (if ¬ (w.1 24 23) = a1 then (some ((0 : Int32), w)) else (if ¬ (w.1 24 24) = a2 then (some ((0 : Int32), w)) else (some ((1 : Int32), w)))))
noncomputable def K_mm_isWord {ρ : Type} : eF ρ := fun as w k => match as with
  | [.ref r0, .int a1, .int a2] => bif Nat.beq r0 24 then (f_mm_isWord a1 a2 w).bind (fun p => k (some (.int p.1)) p.2) else none
  | _ => none
section
variable {p : Program} {l : Launch} {e : Env} {s : State} {m : MethodId} {args : Array Value} {below : List Frame} {meth : Method} {c : Code} {ad : Nat → Nat} {D : va_G} {cA : Nat → ClassId}
theorem lk_mm_isWord : ∀ q ∈ rs_mm_isWord, eLnk { frames := 0, cells := 0, slots := 0, locals := 0 } vwCl (eWd yX12_isWord cX12_isWord 3 (some .boolean)) SSm SHm.length RX12 q.1 q.2 := List.forall_mem_cons.mpr ⟨lkX12_137 eTb_wd, List.forall_mem_cons.mpr ⟨lkX12_156 eTb_wd, List.forall_mem_cons.mpr ⟨lkX12_159 eTb_wd, fun _ h => absurd h List.not_mem_nil⟩⟩⟩
theorem hc_mm_isWord {x : Int32 × eW} : ∀ q ∈ rs_mm_isWord, eHc l { frames := 0, cells := 0, slots := 0, locals := 0 } ad D cA vwCl SHm SSm (eWd yX12_isWord cX12_isWord 3 (some .boolean)) RX12 cs_mm_isWord x q := List.forall_mem_cons.mpr ⟨trivial, List.forall_mem_cons.mpr ⟨trivial, List.forall_mem_cons.mpr ⟨trivial, fun _ h => absurd h List.not_mem_nil⟩⟩⟩
set_option maxRecDepth 100000 in
set_option maxHeartbeats 4000000 in
theorem go_mm_isWord (hcx : eCx p { frames := 0, cells := 0, slots := 0, locals := 0 } s m args meth c cX12_isWord RX12 3 ad D cA vwCl SHm SSm (eWd yX12_isWord cX12_isWord 3 (some .boolean)) (some .boolean)) (a1 : Int32) (a2 : Int32) (w : eW) (x : Int32 × eW) (h : f_mm_isWord a1 a2 w = some x) : eGq p l e { frames := 0, cells := 0, slots := 0, locals := 0 } s m args below meth c 3 ad D cA vwCl SHm rZ x 0 (eEnt [.ref 24, .int a1, .int a2]) [] w := by
  have h : eRun SHm SSm 3 rs_mm_isWord (eCs cs_mm_isWord) rZ CX12_isWord [] (fun pc L st w => none) 17 true 0 [some (.ref 24), some (.int a1), some (.int a2)] [] w = some x := h
  refine eGo.wk (eRun_go hcx (eLnk_all lk_mm_isWord) (eHc_all hc_mm_isWord) rZ_ok dcX12_isWord [] _ (fun pc L st w hK => ?_) 17 true 0 _ _ w h) (eLe_wk ⟨rfl, rfl, rfl, trivial⟩)
  cases hK
end
set_option maxRecDepth 100000 in
set_option maxHeartbeats 4000000 in
theorem ok_mm_isWord {l : Launch} {ad : Nat → Nat} {D : va_G} {cA : Nat → ClassId} {ρ : Type} (as : List Value) (w : eW) (k : Option Value → eW → Option ρ) (x : ρ) (h : K_mm_isWord as w k = some x) : ∃ (v : Option Value) (w2 : eW), k v w2 = some x ∧ eMet l ad D cA vwCl SHm SSm yX12_isWord (eWd yX12_isWord cX12_isWord 3 (some .boolean)) { frames := 0, cells := 0, slots := 0, locals := 0 } as w v w2 := by
  unfold K_mm_isWord at h
  split at h
  · rename_i r0 a1 a2
    obtain ⟨h1, h5⟩ := eBif h
    clear h
    have h := h5
    clear h5
    have h1 := Nat.eq_of_beq_eq_true h1
    subst h1
    obtain ⟨q, h2, h3⟩ := Option.bind_eq_some_iff.mp h
    exact ⟨_, _, h3, eMet_of (by decide +kernel) rfl (by simp [eCat, Value.category]) rZ_ret (fun p e s m args below meth c hcx => go_mm_isWord hcx a1 a2 w q h2)⟩
  · cases h
def CX12_fails : eCo := [[some (.aload_n 0), some (.getfield 134), none, none, some (.ifCond .ne 28), none, none, some (.aload_n 0), some (.aload_n 0), some (.getfield 137), none, none, some (.iconst 4), some (.if_icmp .ne 7), none, none],
  [some (.iconst 1), some (.goto 4), none, none, some (.iload_n 1), some (.putfield 134), none, none, some (.aload_n 0), some (.aload_n 0), some (.getfield 140), none, none, some (.putfield 143), none, none],
  [some (.return_)]]
theorem dcX12_fails : eDec cX12_fails CX12_fails := eDec_of (by decide +kernel)
def rs_mm_fails : List (Nat × eR) := [(134, (0, 11, 27, 0)), (137, (0, 11, 22, 0)), (140, (0, 11, 20, 0)), (143, (0, 11, 28, 0))]
noncomputable def cs_mm_fails : List (eF (eW)) := []
noncomputable def f_mm_fails (a1 : Int32) (w : eW) : Option (eW) := (if ¬ (w.1 24 27) = 0 then (some w) else (if ¬ (w.1 24 22) = (4 : Int32) then (some (eU1 (eU1 w 24 27 a1) 24 28 (w.1 24 20))) else (some (eU1 (eU1 w 24 27 (1 : Int32)) 24 28 (w.1 24 20)))))
noncomputable def K_mm_fails {ρ : Type} : eF ρ := fun as w k => match as with
  | [.ref r0, .int a1] => bif Nat.beq r0 24 then (f_mm_fails a1 w).bind (fun w => k none w) else none
  | _ => none
section
variable {p : Program} {l : Launch} {e : Env} {s : State} {m : MethodId} {args : Array Value} {below : List Frame} {meth : Method} {c : Code} {ad : Nat → Nat} {D : va_G} {cA : Nat → ClassId}
theorem lk_mm_fails : ∀ q ∈ rs_mm_fails, eLnk { frames := 0, cells := 0, slots := 0, locals := 0 } vwCl (eWd yX12_fails cX12_fails 2 none) SSm SHm.length RX12 q.1 q.2 := List.forall_mem_cons.mpr ⟨lkX12_134 eTb_wd, List.forall_mem_cons.mpr ⟨lkX12_137 eTb_wd, List.forall_mem_cons.mpr ⟨lkX12_140 eTb_wd, List.forall_mem_cons.mpr ⟨lkX12_143 eTb_wd, fun _ h => absurd h List.not_mem_nil⟩⟩⟩⟩
theorem hc_mm_fails {x : eW} : ∀ q ∈ rs_mm_fails, eHc l { frames := 0, cells := 0, slots := 0, locals := 0 } ad D cA vwCl SHm SSm (eWd yX12_fails cX12_fails 2 none) RX12 cs_mm_fails x q := List.forall_mem_cons.mpr ⟨trivial, List.forall_mem_cons.mpr ⟨trivial, List.forall_mem_cons.mpr ⟨trivial, List.forall_mem_cons.mpr ⟨trivial, fun _ h => absurd h List.not_mem_nil⟩⟩⟩⟩
set_option maxRecDepth 100000 in
set_option maxHeartbeats 4000000 in
theorem go_mm_fails (hcx : eCx p { frames := 0, cells := 0, slots := 0, locals := 0 } s m args meth c cX12_fails RX12 2 ad D cA vwCl SHm SSm (eWd yX12_fails cX12_fails 2 none) (none)) (a1 : Int32) (w : eW) (x : eW) (h : f_mm_fails a1 w = some x) : eGq p l e { frames := 0, cells := 0, slots := 0, locals := 0 } s m args below meth c 2 ad D cA vwCl SHm rV x 0 (eEnt [.ref 24, .int a1]) [] w := by
  have h : eRun SHm SSm 2 rs_mm_fails (eCs cs_mm_fails) rV CX12_fails [] (fun pc L st w => none) 18 true 0 [some (.ref 24), some (.int a1)] [] w = some x := h
  refine eGo.wk (eRun_go hcx (eLnk_all lk_mm_fails) (eHc_all hc_mm_fails) rV_ok dcX12_fails [] _ (fun pc L st w hK => ?_) 18 true 0 _ _ w h) (eLe_wk ⟨rfl, rfl, trivial⟩)
  cases hK
end
set_option maxRecDepth 100000 in
set_option maxHeartbeats 4000000 in
theorem ok_mm_fails {l : Launch} {ad : Nat → Nat} {D : va_G} {cA : Nat → ClassId} {ρ : Type} (as : List Value) (w : eW) (k : Option Value → eW → Option ρ) (x : ρ) (h : K_mm_fails as w k = some x) : ∃ (v : Option Value) (w2 : eW), k v w2 = some x ∧ eMet l ad D cA vwCl SHm SSm yX12_fails (eWd yX12_fails cX12_fails 2 none) { frames := 0, cells := 0, slots := 0, locals := 0 } as w v w2 := by
  unfold K_mm_fails at h
  split at h
  · rename_i r0 a1
    obtain ⟨h1, h5⟩ := eBif h
    clear h
    have h := h5
    clear h5
    have h1 := Nat.eq_of_beq_eq_true h1
    subst h1
    obtain ⟨q, h2, h3⟩ := Option.bind_eq_some_iff.mp h
    exact ⟨_, _, h3, eMet_of (by decide +kernel) rfl (by simp [eCat, Value.category]) rV_ret (fun p e s m args below meth c hcx => go_mm_fails hcx a1 w q h2)⟩
  · cases h
def CX12_number : eCo := [[some (.aload_n 0), some (.invokevirtual 146), none, none, some (.ifCond .eq 19), none, none, some (.aload_n 0), some (.getfield 137), none, none, some (.iconst 2), some (.if_icmp .eq 11), none, none, some (.aload_n 0)],
  [some (.iconst 2), some (.invokevirtual 190), none, none, some (.goto 27), none, none, some (.aload_n 0), some (.invokevirtual 146), none, none, some (.ifCond .eq 20), none, none, some (.aload_n 0), some (.getfield 156)],
  [none, none, some (.iload_n 1), some (.iload_n 2), some (.invokestatic 101), none, none, some (.ifCond .ne 8), none, none, some (.aload_n 0), some (.iconst 4), some (.invokevirtual 190), none, none, some (.aload_n 0)],
  [some (.getfield 156), none, none, some (.istore_n 3), some (.aload_n 0), some (.invokevirtual 184), none, none, some (.aload_n 0), some (.invokevirtual 146), none, none, some (.ifCond .eq 7), none, none, some (.iload_n 3)],
  [some (.goto 4), none, none, some (.iconst 0), some (.ireturn)]]
theorem dcX12_number : eDec cX12_number CX12_number := eDec_of (by decide +kernel)
def rs_mm_number : List (Nat × eR) := [(101, (1, 3, 3, -1)), (137, (0, 11, 22, 0)), (146, (1, 0, 0, 11)), (156, (0, 11, 23, 0)), (184, (1, 2, 0, 11)), (190, (1, 1, 1, 11))]
noncomputable def cs_mm_number : List (eF (Int32 × eW)) := [K_mm_isGood, K_mm_fails, K_mm_goOn, K_mm_in]
noncomputable def f_mm_number_J23 (a1 : Int32) (a2 : Int32) (w : eW) : Option (Int32 × eW) := ((f_mm_isGood w).bind fun p5 => (if p5.1 = 0 then ((f_mm_goOn p5.2).bind fun w6 => ((f_mm_isGood w6).bind fun p7 => (if p7.1 = 0 then (some ((0 : Int32), p7.2)) else (some ((p5.2.1 24 23), p7.2))))) else ((f_mm_in (p5.2.1 24 23) a1 a2 p5.2).bind fun p8 => (if ¬ p8.1 = 0 then ((f_mm_goOn p8.2).bind fun w9 => ((f_mm_isGood w9).bind fun p10 => (if p10.1 = 0 then (some ((0 : Int32), p10.2)) else (some ((p8.2.1 24 23), p10.2))))) else ((f_mm_fails (4 : Int32) p8.2).bind fun w11 => ((f_mm_goOn w11).bind fun w12 => ((f_mm_isGood w12).bind fun p13 => (if p13.1 = 0 then (some ((0 : Int32), p13.2)) else (some ((w11.1 24 23), p13.2))))))))))
noncomputable def f_mm_number (a1 : Int32) (a2 : Int32) (w : eW) : Option (Int32 × eW) := ((f_mm_isGood w).bind fun p1 => (if p1.1 = 0 then (f_mm_number_J23 a1 a2 p1.2) else (if (p1.2.1 24 22) = (2 : Int32) then (f_mm_number_J23 a1 a2 p1.2) else ((f_mm_fails (2 : Int32) p1.2).bind fun w2 => ((f_mm_goOn w2).bind fun w3 => ((f_mm_isGood w3).bind fun p4 => (if p4.1 = 0 then (some ((0 : Int32), p4.2)) else (some ((w2.1 24 23), p4.2)))))))))
noncomputable def K_mm_number {ρ : Type} : eF ρ := fun as w k => match as with
  | [.ref r0, .int a1, .int a2] => bif Nat.beq r0 24 then (f_mm_number a1 a2 w).bind (fun p => k (some (.int p.1)) p.2) else none
  | _ => none
section
variable {p : Program} {l : Launch} {e : Env} {s : State} {m : MethodId} {args : Array Value} {below : List Frame} {meth : Method} {c : Code} {ad : Nat → Nat} {D : va_G} {cA : Nat → ClassId}
theorem lk_mm_number : ∀ q ∈ rs_mm_number, eLnk { frames := 2, cells := 0, slots := 0, locals := 44 } vwCl (eWd yX12_number cX12_number 4 (some .int)) SSm SHm.length RX12 q.1 q.2 := List.forall_mem_cons.mpr ⟨trivial, List.forall_mem_cons.mpr ⟨lkX12_137 eTb_wd, List.forall_mem_cons.mpr ⟨trivial, List.forall_mem_cons.mpr ⟨lkX12_156 eTb_wd, List.forall_mem_cons.mpr ⟨trivial, List.forall_mem_cons.mpr ⟨trivial, fun _ h => absurd h List.not_mem_nil⟩⟩⟩⟩⟩⟩
theorem hc_mm_number {x : Int32 × eW} : ∀ q ∈ rs_mm_number, eHc l { frames := 2, cells := 0, slots := 0, locals := 44 } ad D cA vwCl SHm SSm (eWd yX12_number cX12_number 4 (some .int)) RX12 cs_mm_number x q := List.forall_mem_cons.mpr ⟨(fun as w k h => let ⟨v, w2, h1, h2⟩ := ok_mm_in as w k x h; ⟨v, w2, h1, eCal_of h2 ⟨rfl, rfl⟩ hdX12_in (gvX12_101 eTb_wd)⟩), List.forall_mem_cons.mpr ⟨trivial, List.forall_mem_cons.mpr ⟨(fun as w k h => let ⟨v, w2, h1, h2⟩ := ok_mm_isGood as w k x h; ⟨v, w2, h1, eCal_of h2 ⟨rfl, rfl⟩ hdX12_isGood (gvX12_146 eTb_wd)⟩), List.forall_mem_cons.mpr ⟨trivial, List.forall_mem_cons.mpr ⟨(fun as w k h => let ⟨v, w2, h1, h2⟩ := ok_mm_goOn as w k x h; ⟨v, w2, h1, eCal_of h2 ⟨rfl, rfl⟩ hdX12_goOn (gvX12_184 eTb_wd)⟩), List.forall_mem_cons.mpr ⟨(fun as w k h => let ⟨v, w2, h1, h2⟩ := ok_mm_fails as w k x h; ⟨v, w2, h1, eCal_of h2 ⟨rfl, rfl⟩ hdX12_fails (gvX12_190 eTb_wd)⟩), fun _ h => absurd h List.not_mem_nil⟩⟩⟩⟩⟩⟩
noncomputable def kk_mm_number_23 : eK (Int32 × eW) := fun pc L st w => none
set_option maxRecDepth 100000 in
set_option maxHeartbeats 4000000 in
theorem go_mm_number_J23 (hcx : eCx p { frames := 2, cells := 0, slots := 0, locals := 44 } s m args meth c cX12_number RX12 4 ad D cA vwCl SHm SSm (eWd yX12_number cX12_number 4 (some .int)) (some .int)) {x : Int32 × eW} : ∀ (a1 : Int32) (a2 : Int32) (w : eW), f_mm_number_J23  a1 a2 w = some x → eGq p l e { frames := 2, cells := 0, slots := 0, locals := 44 } s m args below meth c 4 ad D cA vwCl SHm rI x 23 [some (.ref 24), some (.int a1), some (.int a2), none] [] w := by
  intro a1 a2 w h
  have h : eRun SHm SSm 4 rs_mm_number (eCs cs_mm_number) rI CX12_number [23] (kk_mm_number_23 ) 25 true 23 [some (.ref 24), some (.int a1), some (.int a2), none] [] w = some x := h
  refine eRun_go hcx (eLnk_all lk_mm_number) (eHc_all hc_mm_number) rI_ok dcX12_number [23] _ (fun pc L st w hK => ?_) 25 true 23 _ _ w h
  unfold kk_mm_number_23 at hK
  cases hK
set_option maxRecDepth 100000 in
set_option maxHeartbeats 4000000 in
theorem go_mm_number (hcx : eCx p { frames := 2, cells := 0, slots := 0, locals := 44 } s m args meth c cX12_number RX12 4 ad D cA vwCl SHm SSm (eWd yX12_number cX12_number 4 (some .int)) (some .int)) (a1 : Int32) (a2 : Int32) (w : eW) (x : Int32 × eW) (h : f_mm_number a1 a2 w = some x) : eGq p l e { frames := 2, cells := 0, slots := 0, locals := 44 } s m args below meth c 4 ad D cA vwCl SHm rI x 0 (eEnt [.ref 24, .int a1, .int a2]) [] w := by
  have h : eRun SHm SSm 4 rs_mm_number (eCs cs_mm_number) rI CX12_number [23] (fun pc L st w => bif Nat.beq pc 23 then (lR L 0 24 ((lI L 1).bind fun a1 => (lI L 2).bind fun a2 => sE st (f_mm_number_J23 a1 a2 w))) else none) 24 true 0 [some (.ref 24), some (.int a1), some (.int a2), none] [] w = some x := h
  refine eGo.wk (eRun_go hcx (eLnk_all lk_mm_number) (eHc_all hc_mm_number) rI_ok dcX12_number [23] _ (fun pc L st w hK => ?_) 24 true 0 _ _ w h) (eLe_wk ⟨rfl, rfl, rfl, trivial⟩)
  rcases eCut hK with ⟨hpc, hK⟩ | hK
  · subst hpc
    obtain ⟨e0, hK_1⟩ := lR_some hK
    obtain ⟨a1, e1, hK_2⟩ := lI_some hK_1
    obtain ⟨a2, e2, hK_3⟩ := lI_some hK_2
    obtain ⟨hst9, hK_4⟩ := sE_some hK_3
    subst hst9
    exact eGo.wk (go_mm_number_J23 hcx  a1 a2 w hK_4) (eLe_wk ⟨e0, e1, e2, trivial⟩)
  cases hK
end
set_option maxRecDepth 100000 in
set_option maxHeartbeats 4000000 in
theorem ok_mm_number {l : Launch} {ad : Nat → Nat} {D : va_G} {cA : Nat → ClassId} {ρ : Type} (as : List Value) (w : eW) (k : Option Value → eW → Option ρ) (x : ρ) (h : K_mm_number as w k = some x) : ∃ (v : Option Value) (w2 : eW), k v w2 = some x ∧ eMet l ad D cA vwCl SHm SSm yX12_number (eWd yX12_number cX12_number 4 (some .int)) { frames := 2, cells := 0, slots := 0, locals := 44 } as w v w2 := by
  unfold K_mm_number at h
  split at h
  · rename_i r0 a1 a2
    obtain ⟨h1, h5⟩ := eBif h
    clear h
    have h := h5
    clear h5
    have h1 := Nat.eq_of_beq_eq_true h1
    subst h1
    obtain ⟨q, h2, h3⟩ := Option.bind_eq_some_iff.mp h
    exact ⟨_, _, h3, eMet_of (by decide +kernel) rfl (by simp [eCat, Value.category]) rI_ret (fun p e s m args below meth c hcx => go_mm_number hcx a1 a2 w q h2)⟩
  · cases h
def CX12_manyOf : eCo := [[some (.iconst 0), some (.istore_n 2), some (.iconst 0), some (.istore_n 3), some (.iload_n 3), some (.aload_n 0), some (.getfield 181), none, none, some (.if_icmp .ge 30), none, none, some (.iload_n 2), some (.aload_n 0), some (.getfield 7), none],
  [none, some (.bipush 12), none, some (.iload_n 3), some (.iadd), some (.iaload), some (.iload_n 1), some (.if_icmp .ne 7), none, none, some (.iconst 1), some (.goto 4), none, none, some (.iconst 0), some (.iadd)],
  [some (.istore_n 2), some (.iinc 3 1), none, none, some (.goto (-32)), none, none, some (.iload_n 2), some (.ireturn)]]
theorem dcX12_manyOf : eDec cX12_manyOf CX12_manyOf := eDec_of (by decide +kernel)
def rs_mm_manyOf : List (Nat × eR) := [(7, (0, 11, 5, 2)), (181, (0, 11, 3, 0))]
noncomputable def cs_mm_manyOf : List (eF (Int32 × eW)) := []
noncomputable def f_mm_manyOf_L4 : Nat → Int32 → Int32 → Int32 → eW → Option (Int32 × eW)
  | 0, _, _, _, _ => none
  | n + 1, a1, a2, a3, w => (if (w.1 24 3) ≤ a3 then (some (a2, w)) else (eChk ((12 : Int32) + a3) 24 (if ¬ (w.1 0 (Int32.toNatClampNeg ((12 : Int32) + a3))) = a1 then (f_mm_manyOf_L4 n a1 (a2 + (0 : Int32)) (a3 + (1 : Int32)) w) else (f_mm_manyOf_L4 n a1 (a2 + (1 : Int32)) (a3 + (1 : Int32)) w))))
noncomputable def f_mm_manyOf (a1 : Int32) (w : eW) : Option (Int32 × eW) := (f_mm_manyOf_L4 eFu a1 (0 : Int32) (0 : Int32) w)
noncomputable def K_mm_manyOf {ρ : Type} : eF ρ := fun as w k => match as with
  | [.ref r0, .int a1] => bif Nat.beq r0 24 then (f_mm_manyOf a1 w).bind (fun p => k (some (.int p.1)) p.2) else none
  | _ => none
section
variable {p : Program} {l : Launch} {e : Env} {s : State} {m : MethodId} {args : Array Value} {below : List Frame} {meth : Method} {c : Code} {ad : Nat → Nat} {D : va_G} {cA : Nat → ClassId}
theorem lk_mm_manyOf : ∀ q ∈ rs_mm_manyOf, eLnk { frames := 0, cells := 0, slots := 0, locals := 0 } vwCl (eWd yX12_manyOf cX12_manyOf 4 (some .int)) SSm SHm.length RX12 q.1 q.2 := List.forall_mem_cons.mpr ⟨lkX12_7 eTb_wd, List.forall_mem_cons.mpr ⟨lkX12_181 eTb_wd, fun _ h => absurd h List.not_mem_nil⟩⟩
theorem hc_mm_manyOf {x : Int32 × eW} : ∀ q ∈ rs_mm_manyOf, eHc l { frames := 0, cells := 0, slots := 0, locals := 0 } ad D cA vwCl SHm SSm (eWd yX12_manyOf cX12_manyOf 4 (some .int)) RX12 cs_mm_manyOf x q := List.forall_mem_cons.mpr ⟨trivial, List.forall_mem_cons.mpr ⟨trivial, fun _ h => absurd h List.not_mem_nil⟩⟩
noncomputable def kk_mm_manyOf_4 (n : Nat) : eK (Int32 × eW) := fun pc L st w => bif Nat.beq pc 4 then (lR L 0 24 ((lI L 1).bind fun a1 => (lI L 2).bind fun a2 => (lI L 3).bind fun a3 => sE st (f_mm_manyOf_L4 n a1 a2 a3 w))) else none
set_option maxRecDepth 100000 in
set_option maxHeartbeats 4000000 in
theorem go_mm_manyOf_L4 (hcx : eCx p { frames := 0, cells := 0, slots := 0, locals := 0 } s m args meth c cX12_manyOf RX12 4 ad D cA vwCl SHm SSm (eWd yX12_manyOf cX12_manyOf 4 (some .int)) (some .int)) {x : Int32 × eW} : ∀ (n : Nat) (a1 : Int32) (a2 : Int32) (a3 : Int32) (w : eW), f_mm_manyOf_L4  n a1 a2 a3 w = some x → eGq p l e { frames := 0, cells := 0, slots := 0, locals := 0 } s m args below meth c 4 ad D cA vwCl SHm rI x 4 [some (.ref 24), some (.int a1), some (.int a2), some (.int a3)] [] w := by
  intro n
  induction n with
  | zero => intro a1 a2 a3 w h; exact nomatch (show (none : Option (Int32 × eW)) = some x from h)
  | succ n ih =>
    intro a1 a2 a3 w h
    have h : eRun SHm SSm 4 rs_mm_manyOf (eCs cs_mm_manyOf) rI CX12_manyOf [4] (kk_mm_manyOf_4  n) 22 true 4 [some (.ref 24), some (.int a1), some (.int a2), some (.int a3)] [] w = some x := h
    refine eRun_go hcx (eLnk_all lk_mm_manyOf) (eHc_all hc_mm_manyOf) rI_ok dcX12_manyOf [4] _ (fun pc L st w hK => ?_) 22 true 4 _ _ w h
    unfold kk_mm_manyOf_4 at hK
    rcases eCut hK with ⟨hpc, hK⟩ | hK
    · subst hpc
      obtain ⟨e0, hK_1⟩ := lR_some hK
      obtain ⟨a1, e1, hK_2⟩ := lI_some hK_1
      obtain ⟨a2, e2, hK_3⟩ := lI_some hK_2
      obtain ⟨a3, e3, hK_4⟩ := lI_some hK_3
      obtain ⟨hst9, hK_5⟩ := sE_some hK_4
      subst hst9
      exact eGo.wk (ih a1 a2 a3 w hK_5) (eLe_wk ⟨e0, e1, e2, e3, trivial⟩)
    cases hK
set_option maxRecDepth 100000 in
set_option maxHeartbeats 4000000 in
theorem go_mm_manyOf (hcx : eCx p { frames := 0, cells := 0, slots := 0, locals := 0 } s m args meth c cX12_manyOf RX12 4 ad D cA vwCl SHm SSm (eWd yX12_manyOf cX12_manyOf 4 (some .int)) (some .int)) (a1 : Int32) (w : eW) (x : Int32 × eW) (h : f_mm_manyOf a1 w = some x) : eGq p l e { frames := 0, cells := 0, slots := 0, locals := 0 } s m args below meth c 4 ad D cA vwCl SHm rI x 0 (eEnt [.ref 24, .int a1]) [] w := by
  have h : eRun SHm SSm 4 rs_mm_manyOf (eCs cs_mm_manyOf) rI CX12_manyOf [4] (fun pc L st w => bif Nat.beq pc 4 then (lR L 0 24 ((lI L 1).bind fun a1 => (lI L 2).bind fun a2 => (lI L 3).bind fun a3 => sE st (f_mm_manyOf_L4 eFu a1 a2 a3 w))) else none) 7 true 0 [some (.ref 24), some (.int a1), none, none] [] w = some x := h
  refine eGo.wk (eRun_go hcx (eLnk_all lk_mm_manyOf) (eHc_all hc_mm_manyOf) rI_ok dcX12_manyOf [4] _ (fun pc L st w hK => ?_) 7 true 0 _ _ w h) (eLe_wk ⟨rfl, rfl, trivial⟩)
  rcases eCut hK with ⟨hpc, hK⟩ | hK
  · subst hpc
    obtain ⟨e0, hK_1⟩ := lR_some hK
    obtain ⟨a1, e1, hK_2⟩ := lI_some hK_1
    obtain ⟨a2, e2, hK_3⟩ := lI_some hK_2
    obtain ⟨a3, e3, hK_4⟩ := lI_some hK_3
    obtain ⟨hst9, hK_5⟩ := sE_some hK_4
    subst hst9
    exact eGo.wk (go_mm_manyOf_L4 hcx  eFu a1 a2 a3 w hK_5) (eLe_wk ⟨e0, e1, e2, e3, trivial⟩)
  cases hK
end
set_option maxRecDepth 100000 in
set_option maxHeartbeats 4000000 in
theorem ok_mm_manyOf {l : Launch} {ad : Nat → Nat} {D : va_G} {cA : Nat → ClassId} {ρ : Type} (as : List Value) (w : eW) (k : Option Value → eW → Option ρ) (x : ρ) (h : K_mm_manyOf as w k = some x) : ∃ (v : Option Value) (w2 : eW), k v w2 = some x ∧ eMet l ad D cA vwCl SHm SSm yX12_manyOf (eWd yX12_manyOf cX12_manyOf 4 (some .int)) { frames := 0, cells := 0, slots := 0, locals := 0 } as w v w2 := by
  unfold K_mm_manyOf at h
  split at h
  · rename_i r0 a1
    obtain ⟨h1, h5⟩ := eBif h
    clear h
    have h := h5
    clear h5
    have h1 := Nat.eq_of_beq_eq_true h1
    subst h1
    obtain ⟨q, h2, h3⟩ := Option.bind_eq_some_iff.mp h
    exact ⟨_, _, h3, eMet_of (by decide +kernel) rfl (by simp [eCat, Value.category]) rI_ret (fun p e s m args below meth c hcx => go_mm_manyOf hcx a1 w q h2)⟩
  · cases h
def CX12_isName : eCo := [[some (.aload_n 0), some (.ldc 169), none, some (.bipush 14), none, some (.invokevirtual 170), none, none, some (.ifCond .ne 44), none, none, some (.aload_n 0), some (.ldc 173), none, some (.bipush 14), none],
  [some (.invokevirtual 170), none, none, some (.ifCond .ne 33), none, none, some (.aload_n 0), some (.ldc 174), none, some (.iconst 0), some (.invokevirtual 170), none, none, some (.ifCond .ne 23), none, none],
  [some (.aload_n 0), some (.bipush 52), none, some (.iconst 0), some (.invokevirtual 170), none, none, some (.ifCond .ne 13), none, none, some (.aload_n 0), some (.ldc 175), none, some (.iconst 0), some (.invokevirtual 170), none],
  [none, some (.ifCond .eq 7), none, none, some (.iconst 1), some (.goto 4), none, none, some (.iconst 0), some (.istore_n 1), some (.aload_n 0), some (.ldc 176), none, some (.iconst 0), some (.invokevirtual 170), none],
  [none, some (.ifCond .ne 47), none, none, some (.aload_n 0), some (.ldc 177), none, some (.iconst 0), some (.invokevirtual 170), none, none, some (.ifCond .ne 37), none, none, some (.aload_n 0), some (.ldc 178)],
  [none, some (.sipush 455), none, none, some (.invokevirtual 170), none, none, some (.ifCond .ne 25), none, none, some (.aload_n 0), some (.sipush 3120), none, none, some (.iconst 0), some (.invokevirtual 170)],
  [none, none, some (.ifCond .ne 14), none, none, some (.aload_n 0), some (.ldc 179), none, some (.bipush 25), none, some (.invokevirtual 170), none, none, some (.ifCond .eq 7), none, none],
  [some (.iconst 1), some (.goto 4), none, none, some (.iconst 0), some (.istore_n 2), some (.aload_n 0), some (.getfield 137), none, none, some (.iconst 1), some (.if_icmp .ne 25), none, none, some (.iload_n 1), some (.ifCond .ne 21)],
  [none, none, some (.iload_n 2), some (.ifCond .ne 17), none, none, some (.aload_n 0), some (.ldc 180), none, some (.iconst 0), some (.invokevirtual 170), none, none, some (.ifCond .ne 7), none, none],
  [some (.iconst 1), some (.goto 4), none, none, some (.iconst 0), some (.ireturn)]]
theorem dcX12_isName : eDec cX12_isName CX12_isName := eDec_of (by decide +kernel)
def rs_mm_isName : List (Nat × eR) := [(137, (0, 11, 22, 0)), (169, (2, 0, 0, 3650991)), (170, (1, 0, 2, 11)), (173, (2, 0, 0, 16273711)), (174, (2, 0, 0, 3540595)), (175, (2, 0, 0, 591307)), (176, (2, 0, 0, 21279923)), (177, (2, 0, 0, 18927919)), (178, (2, 0, 0, 20186697)), (179, (2, 0, 0, 26379852)), (180, (2, 0, 0, 3197637))]
noncomputable def cs_mm_isName : List (eF (Int32 × eW)) := [K_mm_isWord]
noncomputable def f_mm_isName_J57 (s0 : Int32) (w : eW) : Option (Int32 × eW) := ((f_mm_isWord (21279923 : Int32) (0 : Int32) w).bind fun p6 => (if ¬ p6.1 = 0 then (if ¬ (p6.2.1 24 22) = (1 : Int32) then (some ((0 : Int32), p6.2)) else (if ¬ s0 = 0 then (some ((0 : Int32), p6.2)) else (some ((0 : Int32), p6.2)))) else ((f_mm_isWord (18927919 : Int32) (0 : Int32) p6.2).bind fun p7 => (if ¬ p7.1 = 0 then (if ¬ (p7.2.1 24 22) = (1 : Int32) then (some ((0 : Int32), p7.2)) else (if ¬ s0 = 0 then (some ((0 : Int32), p7.2)) else (some ((0 : Int32), p7.2)))) else ((f_mm_isWord (20186697 : Int32) (455 : Int32) p7.2).bind fun p8 => (if ¬ p8.1 = 0 then (if ¬ (p8.2.1 24 22) = (1 : Int32) then (some ((0 : Int32), p8.2)) else (if ¬ s0 = 0 then (some ((0 : Int32), p8.2)) else (some ((0 : Int32), p8.2)))) else ((f_mm_isWord (3120 : Int32) (0 : Int32) p8.2).bind fun p9 => (if ¬ p9.1 = 0 then (if ¬ (p9.2.1 24 22) = (1 : Int32) then (some ((0 : Int32), p9.2)) else (if ¬ s0 = 0 then (some ((0 : Int32), p9.2)) else (some ((0 : Int32), p9.2)))) else ((f_mm_isWord (26379852 : Int32) (25 : Int32) p9.2).bind fun p10 => (if p10.1 = 0 then (if ¬ (p10.2.1 24 22) = (1 : Int32) then (some ((0 : Int32), p10.2)) else (if ¬ s0 = 0 then (some ((0 : Int32), p10.2)) else ((f_mm_isWord (3197637 : Int32) (0 : Int32) p10.2).bind fun p11 => (if ¬ p11.1 = 0 then (some ((0 : Int32), p11.2)) else (some ((1 : Int32), p11.2)))))) else (if ¬ (p10.2.1 24 22) = (1 : Int32) then (some ((0 : Int32), p10.2)) else (if ¬ s0 = 0 then (some ((0 : Int32), p10.2)) else (some ((0 : Int32), p10.2))))))))))))))
noncomputable def f_mm_isName (w : eW) : Option (Int32 × eW) := ((f_mm_isWord (3650991 : Int32) (14 : Int32) w).bind fun p1 => (if ¬ p1.1 = 0 then (f_mm_isName_J57 (1 : Int32) p1.2) else ((f_mm_isWord (16273711 : Int32) (14 : Int32) p1.2).bind fun p2 => (if ¬ p2.1 = 0 then (f_mm_isName_J57 (1 : Int32) p2.2) else ((f_mm_isWord (3540595 : Int32) (0 : Int32) p2.2).bind fun p3 => (if ¬ p3.1 = 0 then (f_mm_isName_J57 (1 : Int32) p3.2) else ((f_mm_isWord (52 : Int32) (0 : Int32) p3.2).bind fun p4 => (if ¬ p4.1 = 0 then (f_mm_isName_J57 (1 : Int32) p4.2) else ((f_mm_isWord (591307 : Int32) (0 : Int32) p4.2).bind fun p5 => (if p5.1 = 0 then (f_mm_isName_J57 (0 : Int32) p5.2) else (f_mm_isName_J57 (1 : Int32) p5.2)))))))))))
noncomputable def K_mm_isName {ρ : Type} : eF ρ := fun as w k => match as with
  | [.ref r0] => bif Nat.beq r0 24 then (f_mm_isName w).bind (fun p => k (some (.int p.1)) p.2) else none
  | _ => none
section
variable {p : Program} {l : Launch} {e : Env} {s : State} {m : MethodId} {args : Array Value} {below : List Frame} {meth : Method} {c : Code} {ad : Nat → Nat} {D : va_G} {cA : Nat → ClassId}
theorem lk_mm_isName : ∀ q ∈ rs_mm_isName, eLnk { frames := 1, cells := 0, slots := 0, locals := 22 } vwCl (eWd yX12_isName cX12_isName 3 (some .boolean)) SSm SHm.length RX12 q.1 q.2 := List.forall_mem_cons.mpr ⟨lkX12_137 eTb_wd, List.forall_mem_cons.mpr ⟨lkX12_169 eTb_wd, List.forall_mem_cons.mpr ⟨trivial, List.forall_mem_cons.mpr ⟨lkX12_173 eTb_wd, List.forall_mem_cons.mpr ⟨lkX12_174 eTb_wd, List.forall_mem_cons.mpr ⟨lkX12_175 eTb_wd, List.forall_mem_cons.mpr ⟨lkX12_176 eTb_wd, List.forall_mem_cons.mpr ⟨lkX12_177 eTb_wd, List.forall_mem_cons.mpr ⟨lkX12_178 eTb_wd, List.forall_mem_cons.mpr ⟨lkX12_179 eTb_wd, List.forall_mem_cons.mpr ⟨lkX12_180 eTb_wd, fun _ h => absurd h List.not_mem_nil⟩⟩⟩⟩⟩⟩⟩⟩⟩⟩⟩
theorem hc_mm_isName {x : Int32 × eW} : ∀ q ∈ rs_mm_isName, eHc l { frames := 1, cells := 0, slots := 0, locals := 22 } ad D cA vwCl SHm SSm (eWd yX12_isName cX12_isName 3 (some .boolean)) RX12 cs_mm_isName x q := List.forall_mem_cons.mpr ⟨trivial, List.forall_mem_cons.mpr ⟨trivial, List.forall_mem_cons.mpr ⟨(fun as w k h => let ⟨v, w2, h1, h2⟩ := ok_mm_isWord as w k x h; ⟨v, w2, h1, eCal_of h2 ⟨rfl, rfl⟩ hdX12_isWord (gvX12_170 eTb_wd)⟩), List.forall_mem_cons.mpr ⟨trivial, List.forall_mem_cons.mpr ⟨trivial, List.forall_mem_cons.mpr ⟨trivial, List.forall_mem_cons.mpr ⟨trivial, List.forall_mem_cons.mpr ⟨trivial, List.forall_mem_cons.mpr ⟨trivial, List.forall_mem_cons.mpr ⟨trivial, List.forall_mem_cons.mpr ⟨trivial, fun _ h => absurd h List.not_mem_nil⟩⟩⟩⟩⟩⟩⟩⟩⟩⟩⟩
noncomputable def kk_mm_isName_57 : eK (Int32 × eW) := fun pc L st w => none
set_option maxRecDepth 100000 in
set_option maxHeartbeats 4000000 in
theorem go_mm_isName_J57 (hcx : eCx p { frames := 1, cells := 0, slots := 0, locals := 22 } s m args meth c cX12_isName RX12 3 ad D cA vwCl SHm SSm (eWd yX12_isName cX12_isName 3 (some .boolean)) (some .boolean)) {x : Int32 × eW} : ∀ (s0 : Int32) (w : eW), f_mm_isName_J57  s0 w = some x → eGq p l e { frames := 1, cells := 0, slots := 0, locals := 22 } s m args below meth c 3 ad D cA vwCl SHm rZ x 57 [some (.ref 24), none, none] [.int s0] w := by
  intro s0 w h
  have h : eRun SHm SSm 3 rs_mm_isName (eCs cs_mm_isName) rZ CX12_isName [57] (kk_mm_isName_57 ) 46 true 57 [some (.ref 24), none, none] [.int s0] w = some x := h
  refine eRun_go hcx (eLnk_all lk_mm_isName) (eHc_all hc_mm_isName) rZ_ok dcX12_isName [57] _ (fun pc L st w hK => ?_) 46 true 57 _ _ w h
  unfold kk_mm_isName_57 at hK
  cases hK
set_option maxRecDepth 100000 in
set_option maxHeartbeats 4000000 in
theorem go_mm_isName (hcx : eCx p { frames := 1, cells := 0, slots := 0, locals := 22 } s m args meth c cX12_isName RX12 3 ad D cA vwCl SHm SSm (eWd yX12_isName cX12_isName 3 (some .boolean)) (some .boolean)) (w : eW) (x : Int32 × eW) (h : f_mm_isName w = some x) : eGq p l e { frames := 1, cells := 0, slots := 0, locals := 22 } s m args below meth c 3 ad D cA vwCl SHm rZ x 0 (eEnt [.ref 24]) [] w := by
  have h : eRun SHm SSm 3 rs_mm_isName (eCs cs_mm_isName) rZ CX12_isName [57] (fun pc L st w => bif Nat.beq pc 57 then (lR L 0 24 (sI st (fun s0 st1 => sE st1 (f_mm_isName_J57 s0 w)))) else none) 30 true 0 [some (.ref 24), none, none] [] w = some x := h
  refine eGo.wk (eRun_go hcx (eLnk_all lk_mm_isName) (eHc_all hc_mm_isName) rZ_ok dcX12_isName [57] _ (fun pc L st w hK => ?_) 30 true 0 _ _ w h) (eLe_wk ⟨rfl, trivial⟩)
  rcases eCut hK with ⟨hpc, hK⟩ | hK
  · subst hpc
    obtain ⟨e0, hK_1⟩ := lR_some hK
    obtain ⟨s0, st1, hst0, hK_2⟩ := sI_some hK_1
    subst hst0
    obtain ⟨hst9, hK_3⟩ := sE_some hK_2
    subst hst9
    exact eGo.wk (go_mm_isName_J57 hcx  s0 w hK_3) (eLe_wk ⟨e0, trivial⟩)
  cases hK
end
set_option maxRecDepth 100000 in
set_option maxHeartbeats 4000000 in
theorem ok_mm_isName {l : Launch} {ad : Nat → Nat} {D : va_G} {cA : Nat → ClassId} {ρ : Type} (as : List Value) (w : eW) (k : Option Value → eW → Option ρ) (x : ρ) (h : K_mm_isName as w k = some x) : ∃ (v : Option Value) (w2 : eW), k v w2 = some x ∧ eMet l ad D cA vwCl SHm SSm yX12_isName (eWd yX12_isName cX12_isName 3 (some .boolean)) { frames := 1, cells := 0, slots := 0, locals := 22 } as w v w2 := by
  unfold K_mm_isName at h
  split at h
  · rename_i r0
    obtain ⟨h1, h5⟩ := eBif h
    clear h
    have h := h5
    clear h5
    have h1 := Nat.eq_of_beq_eq_true h1
    subst h1
    obtain ⟨q, h2, h3⟩ := Option.bind_eq_some_iff.mp h
    exact ⟨_, _, h3, eMet_of (by decide +kernel) rfl (by simp [eCat, Value.category]) rZ_ret (fun p e s m args below meth c hcx => go_mm_isName hcx w q h2)⟩
  · cases h
