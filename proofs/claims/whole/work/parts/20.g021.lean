def CX11_prefers : eCo := [[some (.iload_n 1), some (.invokestatic 162), none, none, some (.ifCond .eq 19), none, none, some (.iload_n 2), some (.invokestatic 162), none, none, some (.ifCond .eq 12), none, none, some (.aload_n 0), some (.iload_n 1)],
  [some (.iload_n 2), some (.invokevirtual 206), none, none, some (.goto 5), none, none, some (.bipush (-2)), none, some (.ireturn)]]
theorem dcX11_prefers : eDec cX11_prefers CX11_prefers := eDec_of (by decide +kernel)
def rs_xx_prefers : List (Nat × eR) := [(162, (1, 0, 1, -1)), (206, (1, 1, 2, 10))]
noncomputable def cs_xx_prefers : List (eF (Int32 × eW)) := [K_xx_isAmount, K_xx_thoseWithMore]
noncomputable def f_xx_prefers (a1 : Int32) (a2 : Int32) (w : eW) : Option (Int32 × eW) := ((f_xx_isAmount a1 w).bind fun p1 => (if p1.1 = 0 then (some ((-2 : Int32), p1.2)) else ((f_xx_isAmount a2 p1.2).bind fun p2 => (if p2.1 = 0 then (some ((-2 : Int32), p2.2)) else ((f_xx_thoseWithMore a1 a2 p2.2).bind fun p3 => (some (p3.1, p3.2)))))))
noncomputable def K_xx_prefers {ρ : Type} : eF ρ := fun as w k => match as with
  | [.ref r0, .int a1, .int a2] => bif Nat.beq r0 38 then (f_xx_prefers a1 a2 w).bind (fun p => k (some (.int p.1)) p.2) else none
  | _ => none
section
variable {p : Program} {l : Launch} {e : Env} {s : State} {m : MethodId} {args : Array Value} {below : List Frame} {meth : Method} {c : Code} {ad : Nat → Nat} {D : va_G} {cA : Nat → ClassId}
theorem lk_xx_prefers : ∀ q ∈ rs_xx_prefers, eLnk { frames := 6, cells := 0, slots := 0, locals := 183 } vwCl (eWd yX11_prefers cX11_prefers 3 (some .int)) SSc SHc.length RX11 q.1 q.2 := List.forall_mem_cons.mpr ⟨trivial, List.forall_mem_cons.mpr ⟨trivial, fun _ h => absurd h List.not_mem_nil⟩⟩
theorem hc_xx_prefers {x : Int32 × eW} : ∀ q ∈ rs_xx_prefers, eHc l { frames := 6, cells := 0, slots := 0, locals := 183 } ad D cA vwCl SHc SSc (eWd yX11_prefers cX11_prefers 3 (some .int)) RX11 cs_xx_prefers x q := List.forall_mem_cons.mpr ⟨(fun as w k h => let ⟨v, w2, h1, h2⟩ := ok_xx_isAmount as w k x h; ⟨v, w2, h1, eCal_of h2 ⟨rfl, rfl⟩ hdX11_isAmount (gvX11_162 eTb_wd)⟩), List.forall_mem_cons.mpr ⟨(fun as w k h => let ⟨v, w2, h1, h2⟩ := ok_xx_thoseWithMore as w k x h; ⟨v, w2, h1, eCal_of h2 ⟨rfl, rfl⟩ hdX11_thoseWithMore (gvX11_206 eTb_wd)⟩), fun _ h => absurd h List.not_mem_nil⟩⟩
set_option maxRecDepth 100000 in
set_option maxHeartbeats 4000000 in
theorem go_xx_prefers (hcx : eCx p { frames := 6, cells := 0, slots := 0, locals := 183 } s m args meth c cX11_prefers RX11 3 ad D cA vwCl SHc SSc (eWd yX11_prefers cX11_prefers 3 (some .int)) (some .int)) (a1 : Int32) (a2 : Int32) (w : eW) (x : Int32 × eW) (h : f_xx_prefers a1 a2 w = some x) : eGq p l e { frames := 6, cells := 0, slots := 0, locals := 183 } s m args below meth c 3 ad D cA vwCl SHc rI x 0 (eEnt [.ref 38, .int a1, .int a2]) [] w := by
  have h : eRun SHc SSc 3 rs_xx_prefers (eCs cs_xx_prefers) rI CX11_prefers [] (fun pc L st w => none) 14 true 0 [some (.ref 38), some (.int a1), some (.int a2)] [] w = some x := h
  refine eGo.wk (eRun_go hcx (eLnk_all lk_xx_prefers) (eHc_all hc_xx_prefers) rI_ok dcX11_prefers [] _ (fun pc L st w hK => ?_) 14 true 0 _ _ w h) (eLe_wk ⟨rfl, rfl, rfl, trivial⟩)
  cases hK
end
set_option maxRecDepth 100000 in
set_option maxHeartbeats 4000000 in
theorem ok_xx_prefers {l : Launch} {ad : Nat → Nat} {D : va_G} {cA : Nat → ClassId} {ρ : Type} (as : List Value) (w : eW) (k : Option Value → eW → Option ρ) (x : ρ) (h : K_xx_prefers as w k = some x) : ∃ (v : Option Value) (w2 : eW), k v w2 = some x ∧ eMet l ad D cA vwCl SHc SSc yX11_prefers (eWd yX11_prefers cX11_prefers 3 (some .int)) { frames := 6, cells := 0, slots := 0, locals := 183 } as w v w2 := by
  unfold K_xx_prefers at h
  split at h
  · rename_i r0 a1 a2
    obtain ⟨h1, h5⟩ := eBif h
    clear h
    have h := h5
    clear h5
    have h1 := Nat.eq_of_beq_eq_true h1
    subst h1
    obtain ⟨q, h2, h3⟩ := Option.bind_eq_some_iff.mp h
    exact ⟨_, _, h3, eMet_of (by decide +kernel) rfl (by simp [eCat, Value.category]) rI_ret (fun p e s m args below meth c hcx => go_xx_prefers hcx a1 a2 w q h2)⟩
  · cases h
def CX4_votesOf : eCo := [[some (.aload_n 0), some (.iload_n 1), some (.iconst 0), some (.invokevirtual 39), none, none, some (.iconst 1), some (.if_icmp .ne 7), none, none, some (.iconst 0), some (.goto 19), none, none, some (.aload_n 0), some (.iload_n 1)],
  [some (.iconst 1), some (.invokevirtual 39), none, none, some (.aload_n 0), some (.iload_n 1), some (.iconst 5), some (.invokevirtual 39), none, none, some (.imul), some (.bipush 100), none, some (.idiv), some (.ireturn)]]
theorem dcX4_votesOf : eDec cX4_votesOf CX4_votesOf := eDec_of (by decide +kernel)
def rs_fi_votesOf : List (Nat × eR) := [(39, (1, 0, 2, 4))]
noncomputable def cs_fi_votesOf : List (eF (Int32 × eW)) := [K_fi_fact]
noncomputable def f_fi_votesOf (a1 : Int32) (w : eW) : Option (Int32 × eW) := ((f_fi_fact a1 (0 : Int32) w).bind fun p1 => (if ¬ p1.1 = (1 : Int32) then ((f_fi_fact a1 (1 : Int32) p1.2).bind fun p2 => ((f_fi_fact a1 (5 : Int32) p2.2).bind fun p3 => (some (((p2.1 * p3.1) / (100 : Int32)), p3.2)))) else (some ((0 : Int32), p1.2))))
noncomputable def K_fi_votesOf {ρ : Type} : eF ρ := fun as w k => match as with
  | [.ref r0, .int a1] => bif Nat.beq r0 8 then (f_fi_votesOf a1 w).bind (fun p => k (some (.int p.1)) p.2) else none
  | _ => none
section
variable {p : Program} {l : Launch} {e : Env} {s : State} {m : MethodId} {args : Array Value} {below : List Frame} {meth : Method} {c : Code} {ad : Nat → Nat} {D : va_G} {cA : Nat → ClassId}
theorem lk_fi_votesOf : ∀ q ∈ rs_fi_votesOf, eLnk { frames := 1, cells := 0, slots := 0, locals := 22 } vwCl (eWd yX4_votesOf cX4_votesOf 2 (some .int)) SSc SHc.length RX4 q.1 q.2 := List.forall_mem_cons.mpr ⟨trivial, fun _ h => absurd h List.not_mem_nil⟩
theorem hc_fi_votesOf {x : Int32 × eW} : ∀ q ∈ rs_fi_votesOf, eHc l { frames := 1, cells := 0, slots := 0, locals := 22 } ad D cA vwCl SHc SSc (eWd yX4_votesOf cX4_votesOf 2 (some .int)) RX4 cs_fi_votesOf x q := List.forall_mem_cons.mpr ⟨(fun as w k h => let ⟨v, w2, h1, h2⟩ := ok_fi_fact as w k x h; ⟨v, w2, h1, eCal_of h2 ⟨rfl, rfl⟩ hdX4_fact (gvX4_39 eTb_wd)⟩), fun _ h => absurd h List.not_mem_nil⟩
set_option maxRecDepth 100000 in
set_option maxHeartbeats 4000000 in
theorem go_fi_votesOf (hcx : eCx p { frames := 1, cells := 0, slots := 0, locals := 22 } s m args meth c cX4_votesOf RX4 2 ad D cA vwCl SHc SSc (eWd yX4_votesOf cX4_votesOf 2 (some .int)) (some .int)) (a1 : Int32) (w : eW) (x : Int32 × eW) (h : f_fi_votesOf a1 w = some x) : eGq p l e { frames := 1, cells := 0, slots := 0, locals := 22 } s m args below meth c 2 ad D cA vwCl SHc rI x 0 (eEnt [.ref 8, .int a1]) [] w := by
  have h : eRun SHc SSc 2 rs_fi_votesOf (eCs cs_fi_votesOf) rI CX4_votesOf [] (fun pc L st w => none) 20 true 0 [some (.ref 8), some (.int a1)] [] w = some x := h
  refine eGo.wk (eRun_go hcx (eLnk_all lk_fi_votesOf) (eHc_all hc_fi_votesOf) rI_ok dcX4_votesOf [] _ (fun pc L st w hK => ?_) 20 true 0 _ _ w h) (eLe_wk ⟨rfl, rfl, trivial⟩)
  cases hK
end
set_option maxRecDepth 100000 in
set_option maxHeartbeats 4000000 in
theorem ok_fi_votesOf {l : Launch} {ad : Nat → Nat} {D : va_G} {cA : Nat → ClassId} {ρ : Type} (as : List Value) (w : eW) (k : Option Value → eW → Option ρ) (x : ρ) (h : K_fi_votesOf as w k = some x) : ∃ (v : Option Value) (w2 : eW), k v w2 = some x ∧ eMet l ad D cA vwCl SHc SSc yX4_votesOf (eWd yX4_votesOf cX4_votesOf 2 (some .int)) { frames := 1, cells := 0, slots := 0, locals := 22 } as w v w2 := by
  unfold K_fi_votesOf at h
  split at h
  · rename_i r0 a1
    obtain ⟨h1, h5⟩ := eBif h
    clear h
    have h := h5
    clear h5
    have h1 := Nat.eq_of_beq_eq_true h1
    subst h1
    obtain ⟨q, h2, h3⟩ := Option.bind_eq_some_iff.mp h
    exact ⟨_, _, h3, eMet_of (by decide +kernel) rfl (by simp [eCat, Value.category]) rI_ret (fun p e s m args below meth c hcx => go_fi_votesOf hcx a1 w q h2)⟩
  · cases h
def CX11_votesTogether : eCo := [[some (.iconst 0), some (.istore_n 2), some (.iconst 0), some (.istore_n 3), some (.iload_n 3), some (.aload_n 0), some (.getfield 28), none, none, some (.getfield 105), none, none, some (.if_icmp .ge 29), none, none, some (.iload_n 1)],
  [some (.iload_n 3), some (.ishr), some (.iconst 1), some (.iand), some (.iconst 1), some (.if_icmp .ne 14), none, none, some (.iload_n 2), some (.aload_n 0), some (.getfield 28), none, none, some (.iload_n 3), some (.invokevirtual 346), none],
  [none, some (.iadd), some (.istore_n 2), some (.iinc 3 1), none, none, some (.goto (-34)), none, none, some (.iload_n 2), some (.ireturn)]]
theorem dcX11_votesTogether : eDec cX11_votesTogether CX11_votesTogether := eDec_of (by decide +kernel)
def rs_xx_votesTogether : List (Nat × eR) := [(28, (0, 10, 2, 2)), (105, (0, 4, 0, 0)), (346, (1, 0, 1, 4))]
noncomputable def cs_xx_votesTogether : List (eF (Int32 × eW)) := [K_fi_votesOf]
noncomputable def f_xx_votesTogether_L4 : Nat → Int32 → Int32 → Int32 → eW → Option (Int32 × eW)
  | 0, _, _, _, _ => none
  | n + 1, a1, a2, a3, w => (if (w.1 8 0) ≤ a3 then (some (a2, w)) else (if ¬ ((a1 >>> (a3 &&& 31)) &&& (1 : Int32)) = (1 : Int32) then (f_xx_votesTogether_L4 n a1 a2 (a3 + (1 : Int32)) w) else ((f_fi_votesOf a3 w).bind fun p1 => (f_xx_votesTogether_L4 n a1 (a2 + p1.1) (a3 + (1 : Int32)) p1.2))))
noncomputable def f_xx_votesTogether (a1 : Int32) (w : eW) : Option (Int32 × eW) := (f_xx_votesTogether_L4 eFu a1 (0 : Int32) (0 : Int32) w)
noncomputable def K_xx_votesTogether {ρ : Type} : eF ρ := fun as w k => match as with
  | [.ref r0, .int a1] => bif Nat.beq r0 38 then (f_xx_votesTogether a1 w).bind (fun p => k (some (.int p.1)) p.2) else none
  | _ => none
section
variable {p : Program} {l : Launch} {e : Env} {s : State} {m : MethodId} {args : Array Value} {below : List Frame} {meth : Method} {c : Code} {ad : Nat → Nat} {D : va_G} {cA : Nat → ClassId}
theorem lk_xx_votesTogether : ∀ q ∈ rs_xx_votesTogether, eLnk { frames := 2, cells := 0, slots := 0, locals := 43 } vwCl (eWd yX11_votesTogether cX11_votesTogether 4 (some .int)) SSc SHc.length RX11 q.1 q.2 := List.forall_mem_cons.mpr ⟨lkX11_28 eTb_wd, List.forall_mem_cons.mpr ⟨lkX11_105 eTb_wd, List.forall_mem_cons.mpr ⟨trivial, fun _ h => absurd h List.not_mem_nil⟩⟩⟩
theorem hc_xx_votesTogether {x : Int32 × eW} : ∀ q ∈ rs_xx_votesTogether, eHc l { frames := 2, cells := 0, slots := 0, locals := 43 } ad D cA vwCl SHc SSc (eWd yX11_votesTogether cX11_votesTogether 4 (some .int)) RX11 cs_xx_votesTogether x q := List.forall_mem_cons.mpr ⟨trivial, List.forall_mem_cons.mpr ⟨trivial, List.forall_mem_cons.mpr ⟨(fun as w k h => let ⟨v, w2, h1, h2⟩ := ok_fi_votesOf as w k x h; ⟨v, w2, h1, eCal_of h2 ⟨rfl, rfl⟩ hdX4_votesOf (gvX11_346 eTb_wd)⟩), fun _ h => absurd h List.not_mem_nil⟩⟩⟩
noncomputable def kk_xx_votesTogether_4 (n : Nat) : eK (Int32 × eW) := fun pc L st w => bif Nat.beq pc 4 then (lR L 0 38 ((lI L 1).bind fun a1 => (lI L 2).bind fun a2 => (lI L 3).bind fun a3 => sE st (f_xx_votesTogether_L4 n a1 a2 a3 w))) else none
set_option maxRecDepth 100000 in
set_option maxHeartbeats 4000000 in
theorem go_xx_votesTogether_L4 (hcx : eCx p { frames := 2, cells := 0, slots := 0, locals := 43 } s m args meth c cX11_votesTogether RX11 4 ad D cA vwCl SHc SSc (eWd yX11_votesTogether cX11_votesTogether 4 (some .int)) (some .int)) {x : Int32 × eW} : ∀ (n : Nat) (a1 : Int32) (a2 : Int32) (a3 : Int32) (w : eW), f_xx_votesTogether_L4  n a1 a2 a3 w = some x → eGq p l e { frames := 2, cells := 0, slots := 0, locals := 43 } s m args below meth c 4 ad D cA vwCl SHc rI x 4 [some (.ref 38), some (.int a1), some (.int a2), some (.int a3)] [] w := by
  intro n
  induction n with
  | zero => intro a1 a2 a3 w h; exact nomatch (show (none : Option (Int32 × eW)) = some x from h)
  | succ n ih =>
    intro a1 a2 a3 w h
    have h : eRun SHc SSc 4 rs_xx_votesTogether (eCs cs_xx_votesTogether) rI CX11_votesTogether [4] (kk_xx_votesTogether_4  n) 24 true 4 [some (.ref 38), some (.int a1), some (.int a2), some (.int a3)] [] w = some x := h
    refine eRun_go hcx (eLnk_all lk_xx_votesTogether) (eHc_all hc_xx_votesTogether) rI_ok dcX11_votesTogether [4] _ (fun pc L st w hK => ?_) 24 true 4 _ _ w h
    unfold kk_xx_votesTogether_4 at hK
    rcases eCut hK with ⟨hpc, hK⟩ | hK
    · subst hpc
      obtain ⟨e0, hK_1⟩ := lR_some hK
      obtain ⟨a1, e1, hK_2⟩ := lI_some hK_1
      obtain ⟨a2, e2, hK_3⟩ := lI_some hK_2
      obtain ⟨a3, e3, hK_4⟩ := lI_some hK_3
      obtain ⟨hst9, hK_5⟩ := sE_some hK_4
      subst hst9
      exact eGo.wk (ih a1 a2 a3 w hK_5) (eLe_wk ⟨e0, e1, e2, e3, trivial⟩)
    cases hK
set_option maxRecDepth 100000 in
set_option maxHeartbeats 4000000 in
theorem go_xx_votesTogether (hcx : eCx p { frames := 2, cells := 0, slots := 0, locals := 43 } s m args meth c cX11_votesTogether RX11 4 ad D cA vwCl SHc SSc (eWd yX11_votesTogether cX11_votesTogether 4 (some .int)) (some .int)) (a1 : Int32) (w : eW) (x : Int32 × eW) (h : f_xx_votesTogether a1 w = some x) : eGq p l e { frames := 2, cells := 0, slots := 0, locals := 43 } s m args below meth c 4 ad D cA vwCl SHc rI x 0 (eEnt [.ref 38, .int a1]) [] w := by
  have h : eRun SHc SSc 4 rs_xx_votesTogether (eCs cs_xx_votesTogether) rI CX11_votesTogether [4] (fun pc L st w => bif Nat.beq pc 4 then (lR L 0 38 ((lI L 1).bind fun a1 => (lI L 2).bind fun a2 => (lI L 3).bind fun a3 => sE st (f_xx_votesTogether_L4 eFu a1 a2 a3 w))) else none) 7 true 0 [some (.ref 38), some (.int a1), none, none] [] w = some x := h
  refine eGo.wk (eRun_go hcx (eLnk_all lk_xx_votesTogether) (eHc_all hc_xx_votesTogether) rI_ok dcX11_votesTogether [4] _ (fun pc L st w hK => ?_) 7 true 0 _ _ w h) (eLe_wk ⟨rfl, rfl, trivial⟩)
  rcases eCut hK with ⟨hpc, hK⟩ | hK
  · subst hpc
    obtain ⟨e0, hK_1⟩ := lR_some hK
    obtain ⟨a1, e1, hK_2⟩ := lI_some hK_1
    obtain ⟨a2, e2, hK_3⟩ := lI_some hK_2
    obtain ⟨a3, e3, hK_4⟩ := lI_some hK_3
    obtain ⟨hst9, hK_5⟩ := sE_some hK_4
    subst hst9
    exact eGo.wk (go_xx_votesTogether_L4 hcx  eFu a1 a2 a3 w hK_5) (eLe_wk ⟨e0, e1, e2, e3, trivial⟩)
  cases hK
end
set_option maxRecDepth 100000 in
set_option maxHeartbeats 4000000 in
theorem ok_xx_votesTogether {l : Launch} {ad : Nat → Nat} {D : va_G} {cA : Nat → ClassId} {ρ : Type} (as : List Value) (w : eW) (k : Option Value → eW → Option ρ) (x : ρ) (h : K_xx_votesTogether as w k = some x) : ∃ (v : Option Value) (w2 : eW), k v w2 = some x ∧ eMet l ad D cA vwCl SHc SSc yX11_votesTogether (eWd yX11_votesTogether cX11_votesTogether 4 (some .int)) { frames := 2, cells := 0, slots := 0, locals := 43 } as w v w2 := by
  unfold K_xx_votesTogether at h
  split at h
  · rename_i r0 a1
    obtain ⟨h1, h5⟩ := eBif h
    clear h
    have h := h5
    clear h5
    have h1 := Nat.eq_of_beq_eq_true h1
    subst h1
    obtain ⟨q, h2, h3⟩ := Option.bind_eq_some_iff.mp h
    exact ⟨_, _, h3, eMet_of (by decide +kernel) rfl (by simp [eCat, Value.category]) rI_ret (fun p e s m args below meth c hcx => go_xx_votesTogether hcx a1 w q h2)⟩
  · cases h
def CX11_votes : eCo := [[some (.aload_n 0), some (.iload_n 1), some (.invokevirtual 209), none, none, some (.ireturn)]]
theorem dcX11_votes : eDec cX11_votes CX11_votes := eDec_of (by decide +kernel)
def rs_xx_votes : List (Nat × eR) := [(209, (1, 0, 1, 10))]
noncomputable def cs_xx_votes : List (eF (Int32 × eW)) := [K_xx_votesTogether]
noncomputable def f_xx_votes (a1 : Int32) (w : eW) : Option (Int32 × eW) := ((f_xx_votesTogether a1 w).bind fun p1 => (some (p1.1, p1.2)))
noncomputable def K_xx_votes {ρ : Type} : eF ρ := fun as w k => match as with
  | [.ref r0, .int a1] => bif Nat.beq r0 38 then (f_xx_votes a1 w).bind (fun p => k (some (.int p.1)) p.2) else none
  | _ => none
section
variable {p : Program} {l : Launch} {e : Env} {s : State} {m : MethodId} {args : Array Value} {below : List Frame} {meth : Method} {c : Code} {ad : Nat → Nat} {D : va_G} {cA : Nat → ClassId}
theorem lk_xx_votes : ∀ q ∈ rs_xx_votes, eLnk { frames := 3, cells := 0, slots := 0, locals := 66 } vwCl (eWd yX11_votes cX11_votes 2 (some .int)) SSc SHc.length RX11 q.1 q.2 := List.forall_mem_cons.mpr ⟨trivial, fun _ h => absurd h List.not_mem_nil⟩
theorem hc_xx_votes {x : Int32 × eW} : ∀ q ∈ rs_xx_votes, eHc l { frames := 3, cells := 0, slots := 0, locals := 66 } ad D cA vwCl SHc SSc (eWd yX11_votes cX11_votes 2 (some .int)) RX11 cs_xx_votes x q := List.forall_mem_cons.mpr ⟨(fun as w k h => let ⟨v, w2, h1, h2⟩ := ok_xx_votesTogether as w k x h; ⟨v, w2, h1, eCal_of h2 ⟨rfl, rfl⟩ hdX11_votesTogether (gvX11_209 eTb_wd)⟩), fun _ h => absurd h List.not_mem_nil⟩
set_option maxRecDepth 100000 in
set_option maxHeartbeats 4000000 in
theorem go_xx_votes (hcx : eCx p { frames := 3, cells := 0, slots := 0, locals := 66 } s m args meth c cX11_votes RX11 2 ad D cA vwCl SHc SSc (eWd yX11_votes cX11_votes 2 (some .int)) (some .int)) (a1 : Int32) (w : eW) (x : Int32 × eW) (h : f_xx_votes a1 w = some x) : eGq p l e { frames := 3, cells := 0, slots := 0, locals := 66 } s m args below meth c 2 ad D cA vwCl SHc rI x 0 (eEnt [.ref 38, .int a1]) [] w := by
  have h : eRun SHc SSc 2 rs_xx_votes (eCs cs_xx_votes) rI CX11_votes [] (fun pc L st w => none) 6 true 0 [some (.ref 38), some (.int a1)] [] w = some x := h
  refine eGo.wk (eRun_go hcx (eLnk_all lk_xx_votes) (eHc_all hc_xx_votes) rI_ok dcX11_votes [] _ (fun pc L st w hK => ?_) 6 true 0 _ _ w h) (eLe_wk ⟨rfl, rfl, trivial⟩)
  cases hK
end
set_option maxRecDepth 100000 in
set_option maxHeartbeats 4000000 in
theorem ok_xx_votes {l : Launch} {ad : Nat → Nat} {D : va_G} {cA : Nat → ClassId} {ρ : Type} (as : List Value) (w : eW) (k : Option Value → eW → Option ρ) (x : ρ) (h : K_xx_votes as w k = some x) : ∃ (v : Option Value) (w2 : eW), k v w2 = some x ∧ eMet l ad D cA vwCl SHc SSc yX11_votes (eWd yX11_votes cX11_votes 2 (some .int)) { frames := 3, cells := 0, slots := 0, locals := 66 } as w v w2 := by
  unfold K_xx_votes at h
  split at h
  · rename_i r0 a1
    obtain ⟨h1, h5⟩ := eBif h
    clear h
    have h := h5
    clear h5
    have h1 := Nat.eq_of_beq_eq_true h1
    subst h1
    obtain ⟨q, h2, h3⟩ := Option.bind_eq_some_iff.mp h
    exact ⟨_, _, h3, eMet_of (by decide +kernel) rfl (by simp [eCat, Value.category]) rI_ret (fun p e s m args below meth c hcx => go_xx_votes hcx a1 w q h2)⟩
  · cases h
def CX11_passes : eCo := [[some (.iload_n 1), some (.invokestatic 162), none, none, some (.ifCond .eq 10), none, none, some (.iload_n 2), some (.invokestatic 162), none, none, some (.ifCond .ne 6), none, none, some (.bipush (-2)), none],
  [some (.ireturn), some (.aload_n 0), some (.iload_n 1), some (.iload_n 2), some (.invokevirtual 206), none, none, some (.istore_n 3), some (.aload_n 0), some (.iload_n 3), some (.invokevirtual 209), none, none, some (.aload_n 0), some (.iload_n 3), some (.iconst (-1))],
  [some (.ixor), some (.invokevirtual 209), none, none, some (.if_icmp .le 7), none, none, some (.iconst 1), some (.goto 4), none, none, some (.iconst 0), some (.ireturn)]]
theorem dcX11_passes : eDec cX11_passes CX11_passes := eDec_of (by decide +kernel)
def rs_xx_passes : List (Nat × eR) := [(162, (1, 0, 1, -1)), (206, (1, 1, 2, 10)), (209, (1, 2, 1, 10))]
noncomputable def cs_xx_passes : List (eF (Int32 × eW)) := [K_xx_isAmount, K_xx_thoseWithMore, K_xx_votesTogether]
noncomputable def f_xx_passes (a1 : Int32) (a2 : Int32) (w : eW) : Option (Int32 × eW) := ((f_xx_isAmount a1 w).bind fun p1 => (if p1.1 = 0 then (some ((-2 : Int32), p1.2)) else ((f_xx_isAmount a2 p1.2).bind fun p2 => (if ¬ p2.1 = 0 then ((f_xx_thoseWithMore a1 a2 p2.2).bind fun p3 => ((f_xx_votesTogether p3.1 p3.2).bind fun p4 => ((f_xx_votesTogether (p3.1 ^^^ (-1 : Int32)) p4.2).bind fun p5 => (if p4.1 ≤ p5.1 then (some ((0 : Int32), p5.2)) else (some ((1 : Int32), p5.2)))))) else (some ((-2 : Int32), p2.2))))))
noncomputable def K_xx_passes {ρ : Type} : eF ρ := fun as w k => match as with
  | [.ref r0, .int a1, .int a2] => bif Nat.beq r0 38 then (f_xx_passes a1 a2 w).bind (fun p => k (some (.int p.1)) p.2) else none
  | _ => none
section
variable {p : Program} {l : Launch} {e : Env} {s : State} {m : MethodId} {args : Array Value} {below : List Frame} {meth : Method} {c : Code} {ad : Nat → Nat} {D : va_G} {cA : Nat → ClassId}
theorem lk_xx_passes : ∀ q ∈ rs_xx_passes, eLnk { frames := 6, cells := 0, slots := 0, locals := 183 } vwCl (eWd yX11_passes cX11_passes 4 (some .int)) SSc SHc.length RX11 q.1 q.2 := List.forall_mem_cons.mpr ⟨trivial, List.forall_mem_cons.mpr ⟨trivial, List.forall_mem_cons.mpr ⟨trivial, fun _ h => absurd h List.not_mem_nil⟩⟩⟩
theorem hc_xx_passes {x : Int32 × eW} : ∀ q ∈ rs_xx_passes, eHc l { frames := 6, cells := 0, slots := 0, locals := 183 } ad D cA vwCl SHc SSc (eWd yX11_passes cX11_passes 4 (some .int)) RX11 cs_xx_passes x q := List.forall_mem_cons.mpr ⟨(fun as w k h => let ⟨v, w2, h1, h2⟩ := ok_xx_isAmount as w k x h; ⟨v, w2, h1, eCal_of h2 ⟨rfl, rfl⟩ hdX11_isAmount (gvX11_162 eTb_wd)⟩), List.forall_mem_cons.mpr ⟨(fun as w k h => let ⟨v, w2, h1, h2⟩ := ok_xx_thoseWithMore as w k x h; ⟨v, w2, h1, eCal_of h2 ⟨rfl, rfl⟩ hdX11_thoseWithMore (gvX11_206 eTb_wd)⟩), List.forall_mem_cons.mpr ⟨(fun as w k h => let ⟨v, w2, h1, h2⟩ := ok_xx_votesTogether as w k x h; ⟨v, w2, h1, eCal_of h2 ⟨rfl, rfl⟩ hdX11_votesTogether (gvX11_209 eTb_wd)⟩), fun _ h => absurd h List.not_mem_nil⟩⟩⟩
set_option maxRecDepth 100000 in
set_option maxHeartbeats 4000000 in
theorem go_xx_passes (hcx : eCx p { frames := 6, cells := 0, slots := 0, locals := 183 } s m args meth c cX11_passes RX11 4 ad D cA vwCl SHc SSc (eWd yX11_passes cX11_passes 4 (some .int)) (some .int)) (a1 : Int32) (a2 : Int32) (w : eW) (x : Int32 × eW) (h : f_xx_passes a1 a2 w = some x) : eGq p l e { frames := 6, cells := 0, slots := 0, locals := 183 } s m args below meth c 4 ad D cA vwCl SHc rI x 0 (eEnt [.ref 38, .int a1, .int a2]) [] w := by
  have h : eRun SHc SSc 4 rs_xx_passes (eCs cs_xx_passes) rI CX11_passes [] (fun pc L st w => none) 25 true 0 [some (.ref 38), some (.int a1), some (.int a2), none] [] w = some x := h
  refine eGo.wk (eRun_go hcx (eLnk_all lk_xx_passes) (eHc_all hc_xx_passes) rI_ok dcX11_passes [] _ (fun pc L st w hK => ?_) 25 true 0 _ _ w h) (eLe_wk ⟨rfl, rfl, rfl, trivial⟩)
  cases hK
end
set_option maxRecDepth 100000 in
set_option maxHeartbeats 4000000 in
theorem ok_xx_passes {l : Launch} {ad : Nat → Nat} {D : va_G} {cA : Nat → ClassId} {ρ : Type} (as : List Value) (w : eW) (k : Option Value → eW → Option ρ) (x : ρ) (h : K_xx_passes as w k = some x) : ∃ (v : Option Value) (w2 : eW), k v w2 = some x ∧ eMet l ad D cA vwCl SHc SSc yX11_passes (eWd yX11_passes cX11_passes 4 (some .int)) { frames := 6, cells := 0, slots := 0, locals := 183 } as w v w2 := by
  unfold K_xx_passes at h
  split at h
  · rename_i r0 a1 a2
    obtain ⟨h1, h5⟩ := eBif h
    clear h
    have h := h5
    clear h5
    have h1 := Nat.eq_of_beq_eq_true h1
    subst h1
    obtain ⟨q, h2, h3⟩ := Option.bind_eq_some_iff.mp h
    exact ⟨_, _, h3, eMet_of (by decide +kernel) rfl (by simp [eCat, Value.category]) rI_ret (fun p e s m args below meth c hcx => go_xx_passes hcx a1 a2 w q h2)⟩
  · cases h
