def CX10_put : eCo := [[some (.bipush 24), none, some (.istore_n 2), some (.iload_n 2), some (.ifCond .lt 42), none, none, some (.aload_n 0), some (.getfield 15), none, none, some (.sipush 700), none, none, some (.if_icmp .ge 32), none],
  [none, some (.aload_n 0), some (.getfield 9), none, none, some (.aload_n 0), some (.getfield 15), none, none, some (.iload_n 1), some (.iload_n 2), some (.iushr), some (.i2b), some (.bastore), some (.aload_n 0), some (.dup)],
  [some (.getfield 15), none, none, some (.iconst 1), some (.iadd), some (.putfield 15), none, none, some (.iinc 2 (-8)), none, none, some (.goto (-40)), none, none, some (.return_)]]
theorem dcX10_put : eDec cX10_put CX10_put := eDec_of (by decide +kernel)
def rs_ta_put : List (Nat × eR) := [(9, (0, 9, 0, 2)), (15, (0, 9, 1, 0))]
noncomputable def cs_ta_put : List (eF (eW)) := []
noncomputable def f_ta_put_L3 : Nat → Int32 → Int32 → eW → Option (eW)
  | 0, _, _, _ => none
  | n + 1, a1, a2, w => (if a2 < 0 then (some w) else (if (700 : Int32) ≤ (w.1 1 1) then (some w) else (eChk (w.1 1 1) 700 (f_ta_put_L3 n a1 (a2 + (-8 : Int32)) (eU1 (eU1 w 0 (Int32.toNatClampNeg (w.1 1 1)) (vp_nar .byte ((((a1).toUInt32 >>> ((a2).toUInt32 &&& Int32.toUInt32 31)).toInt32).toInt8.toInt32))) 1 1 ((w.1 1 1) + (1 : Int32)))))))
noncomputable def f_ta_put (a1 : Int32) (w : eW) : Option (eW) := (f_ta_put_L3 eFu a1 (24 : Int32) w)
noncomputable def K_ta_put {ρ : Type} : eF ρ := fun as w k => match as with
  | [.ref r0, .int a1] => bif Nat.beq r0 1 then (f_ta_put a1 w).bind (fun w => k none w) else none
  | _ => none
section
variable {p : Program} {l : Launch} {e : Env} {s : State} {m : MethodId} {args : Array Value} {below : List Frame} {meth : Method} {c : Code} {ad : Nat → Nat} {D : va_G} {cA : Nat → ClassId}
theorem lk_ta_put : ∀ q ∈ rs_ta_put, eLnk { frames := 0, cells := 0, slots := 0, locals := 0 } vwCl (eWd yX10_put cX10_put 3 none) SSc SHc.length RX10 q.1 q.2 := List.forall_mem_cons.mpr ⟨lkX10_9 eTb_wd, List.forall_mem_cons.mpr ⟨lkX10_15 eTb_wd, fun _ h => absurd h List.not_mem_nil⟩⟩
theorem hc_ta_put {x : eW} : ∀ q ∈ rs_ta_put, eHc l { frames := 0, cells := 0, slots := 0, locals := 0 } ad D cA vwCl SHc SSc (eWd yX10_put cX10_put 3 none) RX10 cs_ta_put x q := List.forall_mem_cons.mpr ⟨trivial, List.forall_mem_cons.mpr ⟨trivial, fun _ h => absurd h List.not_mem_nil⟩⟩
noncomputable def kk_ta_put_3 (n : Nat) : eK (eW) := fun pc L st w => bif Nat.beq pc 3 then (lR L 0 1 ((lI L 1).bind fun a1 => (lI L 2).bind fun a2 => sE st (f_ta_put_L3 n a1 a2 w))) else none
set_option maxRecDepth 100000 in
set_option maxHeartbeats 4000000 in
theorem go_ta_put_L3 (hcx : eCx p { frames := 0, cells := 0, slots := 0, locals := 0 } s m args meth c cX10_put RX10 3 ad D cA vwCl SHc SSc (eWd yX10_put cX10_put 3 none) (none)) {x : eW} : ∀ (n : Nat) (a1 : Int32) (a2 : Int32) (w : eW), f_ta_put_L3  n a1 a2 w = some x → eGq p l e { frames := 0, cells := 0, slots := 0, locals := 0 } s m args below meth c 3 ad D cA vwCl SHc rV x 3 [some (.ref 1), some (.int a1), some (.int a2)] [] w := by
  intro n
  induction n with
  | zero => intro a1 a2 w h; exact nomatch (show (none : Option (eW)) = some x from h)
  | succ n ih =>
    intro a1 a2 w h
    have h : eRun SHc SSc 3 rs_ta_put (eCs cs_ta_put) rV CX10_put [3] (kk_ta_put_3  n) 26 true 3 [some (.ref 1), some (.int a1), some (.int a2)] [] w = some x := h
    refine eRun_go hcx (eLnk_all lk_ta_put) (eHc_all hc_ta_put) rV_ok dcX10_put [3] _ (fun pc L st w hK => ?_) 26 true 3 _ _ w h
    unfold kk_ta_put_3 at hK
    rcases eCut hK with ⟨hpc, hK⟩ | hK
    · subst hpc
      obtain ⟨e0, hK_1⟩ := lR_some hK
      obtain ⟨a1, e1, hK_2⟩ := lI_some hK_1
      obtain ⟨a2, e2, hK_3⟩ := lI_some hK_2
      obtain ⟨hst9, hK_4⟩ := sE_some hK_3
      subst hst9
      exact eGo.wk (ih a1 a2 w hK_4) (eLe_wk ⟨e0, e1, e2, trivial⟩)
    cases hK
set_option maxRecDepth 100000 in
set_option maxHeartbeats 4000000 in
theorem go_ta_put (hcx : eCx p { frames := 0, cells := 0, slots := 0, locals := 0 } s m args meth c cX10_put RX10 3 ad D cA vwCl SHc SSc (eWd yX10_put cX10_put 3 none) (none)) (a1 : Int32) (w : eW) (x : eW) (h : f_ta_put a1 w = some x) : eGq p l e { frames := 0, cells := 0, slots := 0, locals := 0 } s m args below meth c 3 ad D cA vwCl SHc rV x 0 (eEnt [.ref 1, .int a1]) [] w := by
  have h : eRun SHc SSc 3 rs_ta_put (eCs cs_ta_put) rV CX10_put [3] (fun pc L st w => bif Nat.beq pc 3 then (lR L 0 1 ((lI L 1).bind fun a1 => (lI L 2).bind fun a2 => sE st (f_ta_put_L3 eFu a1 a2 w))) else none) 5 true 0 [some (.ref 1), some (.int a1), none] [] w = some x := h
  refine eGo.wk (eRun_go hcx (eLnk_all lk_ta_put) (eHc_all hc_ta_put) rV_ok dcX10_put [3] _ (fun pc L st w hK => ?_) 5 true 0 _ _ w h) (eLe_wk ⟨rfl, rfl, trivial⟩)
  rcases eCut hK with ⟨hpc, hK⟩ | hK
  · subst hpc
    obtain ⟨e0, hK_1⟩ := lR_some hK
    obtain ⟨a1, e1, hK_2⟩ := lI_some hK_1
    obtain ⟨a2, e2, hK_3⟩ := lI_some hK_2
    obtain ⟨hst9, hK_4⟩ := sE_some hK_3
    subst hst9
    exact eGo.wk (go_ta_put_L3 hcx  eFu a1 a2 w hK_4) (eLe_wk ⟨e0, e1, e2, trivial⟩)
  cases hK
end
set_option maxRecDepth 100000 in
set_option maxHeartbeats 4000000 in
theorem ok_ta_put {l : Launch} {ad : Nat → Nat} {D : va_G} {cA : Nat → ClassId} {ρ : Type} (as : List Value) (w : eW) (k : Option Value → eW → Option ρ) (x : ρ) (h : K_ta_put as w k = some x) : ∃ (v : Option Value) (w2 : eW), k v w2 = some x ∧ eMet l ad D cA vwCl SHc SSc yX10_put (eWd yX10_put cX10_put 3 none) { frames := 0, cells := 0, slots := 0, locals := 0 } as w v w2 := by
  unfold K_ta_put at h
  split at h
  · rename_i r0 a1
    obtain ⟨h1, h5⟩ := eBif h
    clear h
    have h := h5
    clear h5
    have h1 := Nat.eq_of_beq_eq_true h1
    subst h1
    obtain ⟨q, h2, h3⟩ := Option.bind_eq_some_iff.mp h
    exact ⟨_, _, h3, eMet_of (by decide +kernel) rfl (by simp [eCat, Value.category]) rV_ret (fun p e s m args below meth c hcx => go_ta_put hcx a1 w q h2)⟩
  · cases h
def CX11_feed : eCo := [[some (.aload_n 0), some (.getfield 10), none, none, some (.getfield 74), none, none, some (.bipush 20), none, some (.iadd), some (.sipush 700), none, none, some (.if_icmp .le 5), none, none],
  [some (.iconst (-1)), some (.ireturn), some (.aload_n 0), some (.getfield 10), none, none, some (.iload_n 1), some (.invokevirtual 78), none, none, some (.aload_n 0), some (.getfield 10), none, none, some (.iload_n 2), some (.invokevirtual 78)],
  [none, none, some (.aload_n 0), some (.getfield 10), none, none, some (.iload_n 3), some (.invokevirtual 78), none, none, some (.aload_n 0), some (.getfield 10), none, none, some (.iload 4), none],
  [some (.invokevirtual 78), none, none, some (.aload_n 0), some (.getfield 10), none, none, some (.iload 5), none, some (.invokevirtual 78), none, none, some (.aload_n 0), some (.getfield 10), none, none],
  [some (.getfield 74), none, none, some (.ireturn)]]
theorem dcX11_feed : eDec cX11_feed CX11_feed := eDec_of (by decide +kernel)
def rs_xx_feed : List (Nat × eR) := [(10, (0, 10, 0, 2)), (74, (0, 9, 1, 0)), (78, (1, 0, 1, 9))]
noncomputable def cs_xx_feed : List (eF (Int32 × eW)) := [K_ta_put]
noncomputable def f_xx_feed (a1 : Int32) (a2 : Int32) (a3 : Int32) (a4 : Int32) (a5 : Int32) (w : eW) : Option (Int32 × eW) := (if ((w.1 1 1) + (20 : Int32)) ≤ (700 : Int32) then ((f_ta_put a1 w).bind fun w1 => ((f_ta_put a2 w1).bind fun w2 => ((f_ta_put a3 w2).bind fun w3 => ((f_ta_put a4 w3).bind fun w4 => ((f_ta_put a5 w4).bind fun w5 => (some ((w5.1 1 1), w5))))))) else (some ((-1 : Int32), w)))
noncomputable def K_xx_feed {ρ : Type} : eF ρ := fun as w k => match as with
  | [.ref r0, .int a1, .int a2, .int a3, .int a4, .int a5] => bif Nat.beq r0 38 then (f_xx_feed a1 a2 a3 a4 a5 w).bind (fun p => k (some (.int p.1)) p.2) else none
  | _ => none
section
variable {p : Program} {l : Launch} {e : Env} {s : State} {m : MethodId} {args : Array Value} {below : List Frame} {meth : Method} {c : Code} {ad : Nat → Nat} {D : va_G} {cA : Nat → ClassId}
theorem lk_xx_feed : ∀ q ∈ rs_xx_feed, eLnk { frames := 1, cells := 0, slots := 0, locals := 22 } vwCl (eWd yX11_feed cX11_feed 6 (some .int)) SSc SHc.length RX11 q.1 q.2 := List.forall_mem_cons.mpr ⟨lkX11_10 eTb_wd, List.forall_mem_cons.mpr ⟨lkX11_74 eTb_wd, List.forall_mem_cons.mpr ⟨trivial, fun _ h => absurd h List.not_mem_nil⟩⟩⟩
theorem hc_xx_feed {x : Int32 × eW} : ∀ q ∈ rs_xx_feed, eHc l { frames := 1, cells := 0, slots := 0, locals := 22 } ad D cA vwCl SHc SSc (eWd yX11_feed cX11_feed 6 (some .int)) RX11 cs_xx_feed x q := List.forall_mem_cons.mpr ⟨trivial, List.forall_mem_cons.mpr ⟨trivial, List.forall_mem_cons.mpr ⟨(fun as w k h => let ⟨v, w2, h1, h2⟩ := ok_ta_put as w k x h; ⟨v, w2, h1, eCal_of h2 ⟨rfl, rfl⟩ hdX10_put (gvX11_78 eTb_wd)⟩), fun _ h => absurd h List.not_mem_nil⟩⟩⟩
set_option maxRecDepth 100000 in
set_option maxHeartbeats 4000000 in
theorem go_xx_feed (hcx : eCx p { frames := 1, cells := 0, slots := 0, locals := 22 } s m args meth c cX11_feed RX11 6 ad D cA vwCl SHc SSc (eWd yX11_feed cX11_feed 6 (some .int)) (some .int)) (a1 : Int32) (a2 : Int32) (a3 : Int32) (a4 : Int32) (a5 : Int32) (w : eW) (x : Int32 × eW) (h : f_xx_feed a1 a2 a3 a4 a5 w = some x) : eGq p l e { frames := 1, cells := 0, slots := 0, locals := 22 } s m args below meth c 6 ad D cA vwCl SHc rI x 0 (eEnt [.ref 38, .int a1, .int a2, .int a3, .int a4, .int a5]) [] w := by
  have h : eRun SHc SSc 6 rs_xx_feed (eCs cs_xx_feed) rI CX11_feed [] (fun pc L st w => none) 33 true 0 [some (.ref 38), some (.int a1), some (.int a2), some (.int a3), some (.int a4), some (.int a5)] [] w = some x := h
  refine eGo.wk (eRun_go hcx (eLnk_all lk_xx_feed) (eHc_all hc_xx_feed) rI_ok dcX11_feed [] _ (fun pc L st w hK => ?_) 33 true 0 _ _ w h) (eLe_wk ⟨rfl, rfl, rfl, rfl, rfl, rfl, trivial⟩)
  cases hK
end
set_option maxRecDepth 100000 in
set_option maxHeartbeats 4000000 in
theorem ok_xx_feed {l : Launch} {ad : Nat → Nat} {D : va_G} {cA : Nat → ClassId} {ρ : Type} (as : List Value) (w : eW) (k : Option Value → eW → Option ρ) (x : ρ) (h : K_xx_feed as w k = some x) : ∃ (v : Option Value) (w2 : eW), k v w2 = some x ∧ eMet l ad D cA vwCl SHc SSc yX11_feed (eWd yX11_feed cX11_feed 6 (some .int)) { frames := 1, cells := 0, slots := 0, locals := 22 } as w v w2 := by
  unfold K_xx_feed at h
  split at h
  · rename_i r0 a1 a2 a3 a4 a5
    obtain ⟨h1, h5⟩ := eBif h
    clear h
    have h := h5
    clear h5
    have h1 := Nat.eq_of_beq_eq_true h1
    subst h1
    obtain ⟨q, h2, h3⟩ := Option.bind_eq_some_iff.mp h
    exact ⟨_, _, h3, eMet_of (by decide +kernel) rfl (by simp [eCat, Value.category]) rI_ret (fun p e s m args below meth c hcx => go_xx_feed hcx a1 a2 a3 a4 a5 w q h2)⟩
  · cases h
def CX10_cut : eCo := [[some (.iload_n 1), some (.ifCond .lt 11), none, none, some (.iload_n 1), some (.aload_n 0), some (.getfield 15), none, none, some (.if_icmp .le 5), none, none, some (.iconst 0), some (.ireturn), some (.aload_n 0), some (.iload_n 1)],
  [some (.putfield 15), none, none, some (.iconst 1), some (.ireturn)]]
theorem dcX10_cut : eDec cX10_cut CX10_cut := eDec_of (by decide +kernel)
def rs_ta_cut : List (Nat × eR) := [(15, (0, 9, 1, 0))]
noncomputable def cs_ta_cut : List (eF (Int32 × eW)) := []
noncomputable def f_ta_cut (a1 : Int32) (w : eW) : Option (Int32 × eW) := (if a1 < 0 then (some ((0 : Int32), w)) else (if a1 ≤ (w.1 1 1) then (some ((1 : Int32), (eU1 w 1 1 a1))) else (some ((0 : Int32), w))))
noncomputable def K_ta_cut {ρ : Type} : eF ρ := fun as w k => match as with
  | [.ref r0, .int a1] => bif Nat.beq r0 1 then (f_ta_cut a1 w).bind (fun p => k (some (.int p.1)) p.2) else none
  | _ => none
section
variable {p : Program} {l : Launch} {e : Env} {s : State} {m : MethodId} {args : Array Value} {below : List Frame} {meth : Method} {c : Code} {ad : Nat → Nat} {D : va_G} {cA : Nat → ClassId}
theorem lk_ta_cut : ∀ q ∈ rs_ta_cut, eLnk { frames := 0, cells := 0, slots := 0, locals := 0 } vwCl (eWd yX10_cut cX10_cut 2 (some .boolean)) SSc SHc.length RX10 q.1 q.2 := List.forall_mem_cons.mpr ⟨lkX10_15 eTb_wd, fun _ h => absurd h List.not_mem_nil⟩
theorem hc_ta_cut {x : Int32 × eW} : ∀ q ∈ rs_ta_cut, eHc l { frames := 0, cells := 0, slots := 0, locals := 0 } ad D cA vwCl SHc SSc (eWd yX10_cut cX10_cut 2 (some .boolean)) RX10 cs_ta_cut x q := List.forall_mem_cons.mpr ⟨trivial, fun _ h => absurd h List.not_mem_nil⟩
set_option maxRecDepth 100000 in
set_option maxHeartbeats 4000000 in
theorem go_ta_cut (hcx : eCx p { frames := 0, cells := 0, slots := 0, locals := 0 } s m args meth c cX10_cut RX10 2 ad D cA vwCl SHc SSc (eWd yX10_cut cX10_cut 2 (some .boolean)) (some .boolean)) (a1 : Int32) (w : eW) (x : Int32 × eW) (h : f_ta_cut a1 w = some x) : eGq p l e { frames := 0, cells := 0, slots := 0, locals := 0 } s m args below meth c 2 ad D cA vwCl SHc rZ x 0 (eEnt [.ref 1, .int a1]) [] w := by
  have h : eRun SHc SSc 2 rs_ta_cut (eCs cs_ta_cut) rZ CX10_cut [] (fun pc L st w => none) 13 true 0 [some (.ref 1), some (.int a1)] [] w = some x := h
  refine eGo.wk (eRun_go hcx (eLnk_all lk_ta_cut) (eHc_all hc_ta_cut) rZ_ok dcX10_cut [] _ (fun pc L st w hK => ?_) 13 true 0 _ _ w h) (eLe_wk ⟨rfl, rfl, trivial⟩)
  cases hK
end
set_option maxRecDepth 100000 in
set_option maxHeartbeats 4000000 in
theorem ok_ta_cut {l : Launch} {ad : Nat → Nat} {D : va_G} {cA : Nat → ClassId} {ρ : Type} (as : List Value) (w : eW) (k : Option Value → eW → Option ρ) (x : ρ) (h : K_ta_cut as w k = some x) : ∃ (v : Option Value) (w2 : eW), k v w2 = some x ∧ eMet l ad D cA vwCl SHc SSc yX10_cut (eWd yX10_cut cX10_cut 2 (some .boolean)) { frames := 0, cells := 0, slots := 0, locals := 0 } as w v w2 := by
  unfold K_ta_cut at h
  split at h
  · rename_i r0 a1
    obtain ⟨h1, h5⟩ := eBif h
    clear h
    have h := h5
    clear h5
    have h1 := Nat.eq_of_beq_eq_true h1
    subst h1
    obtain ⟨q, h2, h3⟩ := Option.bind_eq_some_iff.mp h
    exact ⟨_, _, h3, eMet_of (by decide +kernel) rfl (by simp [eCat, Value.category]) rZ_ret (fun p e s m args below meth c hcx => go_ta_cut hcx a1 w q h2)⟩
  · cases h
def CX11_end : eCo := [[some (.aload_n 0), some (.getfield 10), none, none, some (.iload_n 1), some (.invokevirtual 82), none, none, some (.ifCond .eq 7), none, none, some (.iload_n 1), some (.goto 4), none, none, some (.iconst (-1))],
  [some (.ireturn)]]
theorem dcX11_end : eDec cX11_end CX11_end := eDec_of (by decide +kernel)
def rs_xx_end : List (Nat × eR) := [(10, (0, 10, 0, 2)), (82, (1, 0, 1, 9))]
noncomputable def cs_xx_end : List (eF (Int32 × eW)) := [K_ta_cut]
noncomputable def f_xx_end (a1 : Int32) (w : eW) : Option (Int32 × eW) := ((f_ta_cut a1 w).bind fun p1 => (if p1.1 = 0 then (some ((-1 : Int32), p1.2)) else (some (a1, p1.2))))
noncomputable def K_xx_end {ρ : Type} : eF ρ := fun as w k => match as with
  | [.ref r0, .int a1] => bif Nat.beq r0 38 then (f_xx_end a1 w).bind (fun p => k (some (.int p.1)) p.2) else none
  | _ => none
section
variable {p : Program} {l : Launch} {e : Env} {s : State} {m : MethodId} {args : Array Value} {below : List Frame} {meth : Method} {c : Code} {ad : Nat → Nat} {D : va_G} {cA : Nat → ClassId}
theorem lk_xx_end : ∀ q ∈ rs_xx_end, eLnk { frames := 1, cells := 0, slots := 0, locals := 21 } vwCl (eWd yX11_end cX11_end 2 (some .int)) SSc SHc.length RX11 q.1 q.2 := List.forall_mem_cons.mpr ⟨lkX11_10 eTb_wd, List.forall_mem_cons.mpr ⟨trivial, fun _ h => absurd h List.not_mem_nil⟩⟩
theorem hc_xx_end {x : Int32 × eW} : ∀ q ∈ rs_xx_end, eHc l { frames := 1, cells := 0, slots := 0, locals := 21 } ad D cA vwCl SHc SSc (eWd yX11_end cX11_end 2 (some .int)) RX11 cs_xx_end x q := List.forall_mem_cons.mpr ⟨trivial, List.forall_mem_cons.mpr ⟨(fun as w k h => let ⟨v, w2, h1, h2⟩ := ok_ta_cut as w k x h; ⟨v, w2, h1, eCal_of h2 ⟨rfl, rfl⟩ hdX10_cut (gvX11_82 eTb_wd)⟩), fun _ h => absurd h List.not_mem_nil⟩⟩
set_option maxRecDepth 100000 in
set_option maxHeartbeats 4000000 in
theorem go_xx_end (hcx : eCx p { frames := 1, cells := 0, slots := 0, locals := 21 } s m args meth c cX11_end RX11 2 ad D cA vwCl SHc SSc (eWd yX11_end cX11_end 2 (some .int)) (some .int)) (a1 : Int32) (w : eW) (x : Int32 × eW) (h : f_xx_end a1 w = some x) : eGq p l e { frames := 1, cells := 0, slots := 0, locals := 21 } s m args below meth c 2 ad D cA vwCl SHc rI x 0 (eEnt [.ref 38, .int a1]) [] w := by
  have h : eRun SHc SSc 2 rs_xx_end (eCs cs_xx_end) rI CX11_end [] (fun pc L st w => none) 10 true 0 [some (.ref 38), some (.int a1)] [] w = some x := h
  refine eGo.wk (eRun_go hcx (eLnk_all lk_xx_end) (eHc_all hc_xx_end) rI_ok dcX11_end [] _ (fun pc L st w hK => ?_) 10 true 0 _ _ w h) (eLe_wk ⟨rfl, rfl, trivial⟩)
  cases hK
end
set_option maxRecDepth 100000 in
set_option maxHeartbeats 4000000 in
theorem ok_xx_end {l : Launch} {ad : Nat → Nat} {D : va_G} {cA : Nat → ClassId} {ρ : Type} (as : List Value) (w : eW) (k : Option Value → eW → Option ρ) (x : ρ) (h : K_xx_end as w k = some x) : ∃ (v : Option Value) (w2 : eW), k v w2 = some x ∧ eMet l ad D cA vwCl SHc SSc yX11_end (eWd yX11_end cX11_end 2 (some .int)) { frames := 1, cells := 0, slots := 0, locals := 21 } as w v w2 := by
  unfold K_xx_end at h
  split at h
  · rename_i r0 a1
    obtain ⟨h1, h5⟩ := eBif h
    clear h
    have h := h5
    clear h5
    have h1 := Nat.eq_of_beq_eq_true h1
    subst h1
    obtain ⟨q, h2, h3⟩ := Option.bind_eq_some_iff.mp h
    exact ⟨_, _, h3, eMet_of (by decide +kernel) rfl (by simp [eCat, Value.category]) rI_ret (fun p e s m args below meth c hcx => go_xx_end hcx a1 w q h2)⟩
  · cases h
def CX4_clear : eCo := [[some (.aload_n 0), some (.iconst 0), some (.putfield 15), none, none, some (.aload_n 0), some (.iconst 0), some (.putfield 19), none, none, some (.aload_n 0), some (.iconst 0), some (.putfield 22), none, none, some (.return_)]]
theorem dcX4_clear : eDec cX4_clear CX4_clear := eDec_of (by decide +kernel)
def rs_dr_clear : List (Nat × eR) := [(15, (0, 4, 0, 0)), (19, (0, 4, 1, 0)), (22, (0, 4, 2, 0))]
noncomputable def cs_dr_clear : List (eF (eW)) := []
noncomputable def f_dr_clear (w : eW) : Option (eW) := (some (eU1 (eU1 (eU1 w 3 0 (0 : Int32)) 3 1 (0 : Int32)) 3 2 (0 : Int32)))
noncomputable def K_dr_clear {ρ : Type} : eF ρ := fun as w k => match as with
  | [.ref r0] => bif Nat.beq r0 3 then (f_dr_clear w).bind (fun w => k none w) else none
  | _ => none
section
variable {p : Program} {l : Launch} {e : Env} {s : State} {m : MethodId} {args : Array Value} {below : List Frame} {meth : Method} {c : Code} {ad : Nat → Nat} {D : va_G} {cA : Nat → ClassId}
theorem lk_dr_clear : ∀ q ∈ rs_dr_clear, eLnk { frames := 0, cells := 0, slots := 0, locals := 0 } vwCl (eWd yX4_clear cX4_clear 1 none) SSc SHc.length RX4 q.1 q.2 := List.forall_mem_cons.mpr ⟨lkX4_15 eTb_wd, List.forall_mem_cons.mpr ⟨lkX4_19 eTb_wd, List.forall_mem_cons.mpr ⟨lkX4_22 eTb_wd, fun _ h => absurd h List.not_mem_nil⟩⟩⟩
theorem hc_dr_clear {x : eW} : ∀ q ∈ rs_dr_clear, eHc l { frames := 0, cells := 0, slots := 0, locals := 0 } ad D cA vwCl SHc SSc (eWd yX4_clear cX4_clear 1 none) RX4 cs_dr_clear x q := List.forall_mem_cons.mpr ⟨trivial, List.forall_mem_cons.mpr ⟨trivial, List.forall_mem_cons.mpr ⟨trivial, fun _ h => absurd h List.not_mem_nil⟩⟩⟩
set_option maxRecDepth 100000 in
set_option maxHeartbeats 4000000 in
theorem go_dr_clear (hcx : eCx p { frames := 0, cells := 0, slots := 0, locals := 0 } s m args meth c cX4_clear RX4 1 ad D cA vwCl SHc SSc (eWd yX4_clear cX4_clear 1 none) (none)) (w : eW) (x : eW) (h : f_dr_clear w = some x) : eGq p l e { frames := 0, cells := 0, slots := 0, locals := 0 } s m args below meth c 1 ad D cA vwCl SHc rV x 0 (eEnt [.ref 3]) [] w := by
  have h : eRun SHc SSc 1 rs_dr_clear (eCs cs_dr_clear) rV CX4_clear [] (fun pc L st w => none) 12 true 0 [some (.ref 3)] [] w = some x := h
  refine eGo.wk (eRun_go hcx (eLnk_all lk_dr_clear) (eHc_all hc_dr_clear) rV_ok dcX4_clear [] _ (fun pc L st w hK => ?_) 12 true 0 _ _ w h) (eLe_wk ⟨rfl, trivial⟩)
  cases hK
end
set_option maxRecDepth 100000 in
set_option maxHeartbeats 4000000 in
theorem ok_dr_clear {l : Launch} {ad : Nat → Nat} {D : va_G} {cA : Nat → ClassId} {ρ : Type} (as : List Value) (w : eW) (k : Option Value → eW → Option ρ) (x : ρ) (h : K_dr_clear as w k = some x) : ∃ (v : Option Value) (w2 : eW), k v w2 = some x ∧ eMet l ad D cA vwCl SHc SSc yX4_clear (eWd yX4_clear cX4_clear 1 none) { frames := 0, cells := 0, slots := 0, locals := 0 } as w v w2 := by
  unfold K_dr_clear at h
  split at h
  · rename_i r0
    obtain ⟨h1, h5⟩ := eBif h
    clear h
    have h := h5
    clear h5
    have h1 := Nat.eq_of_beq_eq_true h1
    subst h1
    obtain ⟨q, h2, h3⟩ := Option.bind_eq_some_iff.mp h
    exact ⟨_, _, h3, eMet_of (by decide +kernel) rfl (by simp [eCat, Value.category]) rV_ret (fun p e s m args below meth c hcx => go_dr_clear hcx w q h2)⟩
  · cases h
def CX10_isBlank : eCo := [[some (.iload_n 0), some (.bipush 32), none, some (.if_icmp .eq 9), none, none, some (.iload_n 0), some (.bipush 10), none, some (.if_icmp .ne 7), none, none, some (.iconst 1), some (.goto 4), none, none],
  [some (.iconst 0), some (.ireturn)]]
theorem dcX10_isBlank : eDec cX10_isBlank CX10_isBlank := eDec_of (by decide +kernel)
def rs_ta_isBlank : List (Nat × eR) := []
noncomputable def cs_ta_isBlank : List (eF (Int32 × eW)) := []
noncomputable def f_ta_isBlank (a0 : Int32) (w : eW) : Option (Int32 × eW) := (if a0 = (32 : Int32) then (some ((1 : Int32), w)) else (if ¬ a0 = (10 : Int32) then (some ((0 : Int32), w)) else (some ((1 : Int32), w))))
noncomputable def K_ta_isBlank {ρ : Type} : eF ρ := fun as w k => match as with
  | [.int a0] => (f_ta_isBlank a0 w).bind (fun p => k (some (.int p.1)) p.2)
  | _ => none
section
variable {p : Program} {l : Launch} {e : Env} {s : State} {m : MethodId} {args : Array Value} {below : List Frame} {meth : Method} {c : Code} {ad : Nat → Nat} {D : va_G} {cA : Nat → ClassId}
theorem lk_ta_isBlank : ∀ q ∈ rs_ta_isBlank, eLnk { frames := 0, cells := 0, slots := 0, locals := 0 } vwCl (eWd yX10_isBlank cX10_isBlank 1 (some .boolean)) SSc SHc.length RX10 q.1 q.2 := fun _ h => absurd h List.not_mem_nil
theorem hc_ta_isBlank {x : Int32 × eW} : ∀ q ∈ rs_ta_isBlank, eHc l { frames := 0, cells := 0, slots := 0, locals := 0 } ad D cA vwCl SHc SSc (eWd yX10_isBlank cX10_isBlank 1 (some .boolean)) RX10 cs_ta_isBlank x q := fun _ h => absurd h List.not_mem_nil
set_option maxRecDepth 100000 in
set_option maxHeartbeats 4000000 in
theorem go_ta_isBlank (hcx : eCx p { frames := 0, cells := 0, slots := 0, locals := 0 } s m args meth c cX10_isBlank RX10 1 ad D cA vwCl SHc SSc (eWd yX10_isBlank cX10_isBlank 1 (some .boolean)) (some .boolean)) (a0 : Int32) (w : eW) (x : Int32 × eW) (h : f_ta_isBlank a0 w = some x) : eGq p l e { frames := 0, cells := 0, slots := 0, locals := 0 } s m args below meth c 1 ad D cA vwCl SHc rZ x 0 (eEnt [.int a0]) [] w := by
  have h : eRun SHc SSc 1 rs_ta_isBlank (eCs cs_ta_isBlank) rZ CX10_isBlank [] (fun pc L st w => none) 11 true 0 [some (.int a0)] [] w = some x := h
  refine eGo.wk (eRun_go hcx (eLnk_all lk_ta_isBlank) (eHc_all hc_ta_isBlank) rZ_ok dcX10_isBlank [] _ (fun pc L st w hK => ?_) 11 true 0 _ _ w h) (eLe_wk ⟨rfl, trivial⟩)
  cases hK
end
set_option maxRecDepth 100000 in
set_option maxHeartbeats 4000000 in
theorem ok_ta_isBlank {l : Launch} {ad : Nat → Nat} {D : va_G} {cA : Nat → ClassId} {ρ : Type} (as : List Value) (w : eW) (k : Option Value → eW → Option ρ) (x : ρ) (h : K_ta_isBlank as w k = some x) : ∃ (v : Option Value) (w2 : eW), k v w2 = some x ∧ eMet l ad D cA vwCl SHc SSc yX10_isBlank (eWd yX10_isBlank cX10_isBlank 1 (some .boolean)) { frames := 0, cells := 0, slots := 0, locals := 0 } as w v w2 := by
  unfold K_ta_isBlank at h
  split at h
  · rename_i a0
    obtain ⟨q, h2, h3⟩ := Option.bind_eq_some_iff.mp h
    exact ⟨_, _, h3, eMet_of (by decide +kernel) rfl (by simp [eCat, Value.category]) rZ_ret (fun p e s m args below meth c hcx => go_ta_isBlank hcx a0 w q h2)⟩
  · cases h
