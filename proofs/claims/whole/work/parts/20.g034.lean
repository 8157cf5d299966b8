def CX6_dropLatest : eCo := [[some (.aload_n 0), some (.getfield 18), none, none, some (.ifCond .le 13), none, none, some (.aload_n 0), some (.dup), some (.getfield 18), none, none, some (.iconst 1), some (.isub), some (.putfield 18), none],
  [none, some (.return_)]]
theorem dcX6_dropLatest : eDec cX6_dropLatest CX6_dropLatest := eDec_of (by decide +kernel)
def rs_gu_dropLatest : List (Nat × eR) := [(18, (0, 6, 2, 0))]
noncomputable def cs_gu_dropLatest : List (eF (eW)) := []
noncomputable def f_gu_dropLatest (w : eW) : Option (eW) := (if (w.1 35 2) ≤ 0 then (some w) else (some (eU1 w 35 2 ((w.1 35 2) - (1 : Int32)))))
noncomputable def K_gu_dropLatest {ρ : Type} : eF ρ := fun as w k => match as with
  | [.ref r0] => bif Nat.beq r0 35 then (f_gu_dropLatest w).bind (fun w => k none w) else none
  | _ => none
section
variable {p : Program} {l : Launch} {e : Env} {s : State} {m : MethodId} {args : Array Value} {below : List Frame} {meth : Method} {c : Code} {ad : Nat → Nat} {D : va_G} {cA : Nat → ClassId}
theorem lk_gu_dropLatest : ∀ q ∈ rs_gu_dropLatest, eLnk { frames := 0, cells := 0, slots := 0, locals := 0 } vwCl (eWd yX6_dropLatest cX6_dropLatest 1 none) SSc SHc.length RX6 q.1 q.2 := List.forall_mem_cons.mpr ⟨lkX6_18 eTb_wd, fun _ h => absurd h List.not_mem_nil⟩
theorem hc_gu_dropLatest {x : eW} : ∀ q ∈ rs_gu_dropLatest, eHc l { frames := 0, cells := 0, slots := 0, locals := 0 } ad D cA vwCl SHc SSc (eWd yX6_dropLatest cX6_dropLatest 1 none) RX6 cs_gu_dropLatest x q := List.forall_mem_cons.mpr ⟨trivial, fun _ h => absurd h List.not_mem_nil⟩
set_option maxRecDepth 100000 in
set_option maxHeartbeats 4000000 in
theorem go_gu_dropLatest (hcx : eCx p { frames := 0, cells := 0, slots := 0, locals := 0 } s m args meth c cX6_dropLatest RX6 1 ad D cA vwCl SHc SSc (eWd yX6_dropLatest cX6_dropLatest 1 none) (none)) (w : eW) (x : eW) (h : f_gu_dropLatest w = some x) : eGq p l e { frames := 0, cells := 0, slots := 0, locals := 0 } s m args below meth c 1 ad D cA vwCl SHc rV x 0 (eEnt [.ref 35]) [] w := by
  have h : eRun SHc SSc 1 rs_gu_dropLatest (eCs cs_gu_dropLatest) rV CX6_dropLatest [] (fun pc L st w => none) 12 true 0 [some (.ref 35)] [] w = some x := h
  refine eGo.wk (eRun_go hcx (eLnk_all lk_gu_dropLatest) (eHc_all hc_gu_dropLatest) rV_ok dcX6_dropLatest [] _ (fun pc L st w hK => ?_) 12 true 0 _ _ w h) (eLe_wk ⟨rfl, trivial⟩)
  cases hK
end
set_option maxRecDepth 100000 in
set_option maxHeartbeats 4000000 in
theorem ok_gu_dropLatest {l : Launch} {ad : Nat → Nat} {D : va_G} {cA : Nat → ClassId} {ρ : Type} (as : List Value) (w : eW) (k : Option Value → eW → Option ρ) (x : ρ) (h : K_gu_dropLatest as w k = some x) : ∃ (v : Option Value) (w2 : eW), k v w2 = some x ∧ eMet l ad D cA vwCl SHc SSc yX6_dropLatest (eWd yX6_dropLatest cX6_dropLatest 1 none) { frames := 0, cells := 0, slots := 0, locals := 0 } as w v w2 := by
  unfold K_gu_dropLatest at h
  split at h
  · rename_i r0
    obtain ⟨h1, h5⟩ := eBif h
    clear h
    have h := h5
    clear h5
    have h1 := Nat.eq_of_beq_eq_true h1
    subst h1
    obtain ⟨q, h2, h3⟩ := Option.bind_eq_some_iff.mp h
    exact ⟨_, _, h3, eMet_of (by decide +kernel) rfl (by simp [eCat, Value.category]) rV_ret (fun p e s m args below meth c hcx => go_gu_dropLatest hcx w q h2)⟩
  · cases h
def CX11_undo : eCo := [[some (.aload_n 0), some (.getfield 70), none, none, some (.getfield 104), none, none, some (.ifCond .ne 5), none, none, some (.iconst 0), some (.ireturn), some (.aload_n 0), some (.getfield 70), none, none],
  [some (.iconst 1), some (.invokevirtual 326), none, none, some (.istore_n 1), some (.aload_n 0), some (.getfield 70), none, none, some (.iconst 2), some (.invokevirtual 326), none, none, some (.istore_n 2), some (.aload_n 0), some (.getfield 70)],
  [none, none, some (.iconst 0), some (.invokevirtual 326), none, none, some (.tableswitch 78 0 3 #[30, 44, 54, 67]), none, none, none, none, none, none, none, none, none],
  [none, none, none, none, none, none, none, none, none, none, none, none, none, none, none, none],
  [none, none, none, none, some (.aload_n 0), some (.getfield 70), none, none, some (.aload_n 0), some (.getfield 56), none, none, some (.invokevirtual 329), none, none, some (.goto 47)],
  [none, none, some (.aload_n 0), some (.getfield 63), none, none, some (.invokevirtual 332), none, none, some (.goto 37), none, none, some (.aload_n 0), some (.getfield 28), none, none],
  [some (.iload_n 1), some (.iconst 1), some (.iload_n 2), some (.invokevirtual 195), none, none, some (.goto 24), none, none, some (.aload_n 0), some (.getfield 28), none, none, some (.iload_n 2), some (.putfield 115), none],
  [none, some (.goto 13), none, none, some (.aload_n 0), some (.getfield 28), none, none, some (.iload_n 1), some (.iconst 3), some (.iload_n 2), some (.invokevirtual 195), none, none, some (.aload_n 0), some (.getfield 70)],
  [none, none, some (.invokevirtual 335), none, none, some (.iconst 1), some (.ireturn)]]
theorem dcX11_undo : eDec cX11_undo CX11_undo := eDec_of (by decide +kernel)
def rs_xx_undo : List (Nat × eR) := [(28, (0, 10, 2, 2)), (56, (0, 10, 6, 2)), (63, (0, 10, 7, 2)), (70, (0, 10, 8, 2)), (104, (0, 0, 2, 0)), (115, (0, 4, 2, 0)), (195, (1, 4, 3, 4)), (326, (1, 0, 1, 0)), (329, (1, 1, 1, 0)), (332, (1, 3, 0, 6)), (335, (1, 2, 0, 0))]
noncomputable def cs_xx_undo : List (eF (Int32 × eW)) := [K_ac_latest, K_ac_giveBackSale, K_ac_dropLatest, K_gu_dropLatest, K_fi_put]
noncomputable def f_xx_undo (w : eW) : Option (Int32 × eW) := (if ¬ (w.1 37 2) = 0 then ((f_ac_latest (1 : Int32) w).bind fun p1 => ((f_ac_latest (2 : Int32) p1.2).bind fun p2 => ((f_ac_latest (0 : Int32) p2.2).bind fun p3 => (if p3.1 = (0 : Int32) then ((f_ac_giveBackSale p3.2).bind fun w4 => ((f_ac_dropLatest w4).bind fun w5 => (some ((1 : Int32), w5)))) else (if p3.1 = (1 : Int32) then ((f_gu_dropLatest p3.2).bind fun w6 => ((f_ac_dropLatest w6).bind fun w7 => (some ((1 : Int32), w7)))) else (if p3.1 = (2 : Int32) then ((f_fi_put p1.1 (1 : Int32) p2.1 p3.2).bind fun w8 => ((f_ac_dropLatest w8).bind fun w9 => (some ((1 : Int32), w9)))) else (if p3.1 = (3 : Int32) then ((f_ac_dropLatest (eU1 p3.2 8 2 p2.1)).bind fun w10 => (some ((1 : Int32), w10))) else ((f_fi_put p1.1 (3 : Int32) p2.1 p3.2).bind fun w11 => ((f_ac_dropLatest w11).bind fun w12 => (some ((1 : Int32), w12))))))))))) else (some ((0 : Int32), w)))
noncomputable def K_xx_undo {ρ : Type} : eF ρ := fun as w k => match as with
  | [.ref r0] => bif Nat.beq r0 38 then (f_xx_undo w).bind (fun p => k (some (.int p.1)) p.2) else none
  | _ => none
section
variable {p : Program} {l : Launch} {e : Env} {s : State} {m : MethodId} {args : Array Value} {below : List Frame} {meth : Method} {c : Code} {ad : Nat → Nat} {D : va_G} {cA : Nat → ClassId}
theorem lk_xx_undo : ∀ q ∈ rs_xx_undo, eLnk { frames := 2, cells := 0, slots := 0, locals := 80 } vwCl (eWd yX11_undo cX11_undo 3 (some .boolean)) SSc SHc.length RX11 q.1 q.2 := List.forall_mem_cons.mpr ⟨lkX11_28 eTb_wd, List.forall_mem_cons.mpr ⟨lkX11_56 eTb_wd, List.forall_mem_cons.mpr ⟨lkX11_63 eTb_wd, List.forall_mem_cons.mpr ⟨lkX11_70 eTb_wd, List.forall_mem_cons.mpr ⟨lkX11_104 eTb_wd, List.forall_mem_cons.mpr ⟨lkX11_115 eTb_wd, List.forall_mem_cons.mpr ⟨trivial, List.forall_mem_cons.mpr ⟨trivial, List.forall_mem_cons.mpr ⟨trivial, List.forall_mem_cons.mpr ⟨trivial, List.forall_mem_cons.mpr ⟨trivial, fun _ h => absurd h List.not_mem_nil⟩⟩⟩⟩⟩⟩⟩⟩⟩⟩⟩
theorem hc_xx_undo {x : Int32 × eW} : ∀ q ∈ rs_xx_undo, eHc l { frames := 2, cells := 0, slots := 0, locals := 80 } ad D cA vwCl SHc SSc (eWd yX11_undo cX11_undo 3 (some .boolean)) RX11 cs_xx_undo x q := List.forall_mem_cons.mpr ⟨trivial, List.forall_mem_cons.mpr ⟨trivial, List.forall_mem_cons.mpr ⟨trivial, List.forall_mem_cons.mpr ⟨trivial, List.forall_mem_cons.mpr ⟨trivial, List.forall_mem_cons.mpr ⟨trivial, List.forall_mem_cons.mpr ⟨(fun as w k h => let ⟨v, w2, h1, h2⟩ := ok_fi_put as w k x h; ⟨v, w2, h1, eCal_of h2 ⟨rfl, rfl⟩ hdX4_put (gvX11_195 eTb_wd)⟩), List.forall_mem_cons.mpr ⟨(fun as w k h => let ⟨v, w2, h1, h2⟩ := ok_ac_latest as w k x h; ⟨v, w2, h1, eCal_of h2 ⟨rfl, rfl⟩ hdX0_latest (gvX11_326 eTb_wd)⟩), List.forall_mem_cons.mpr ⟨(fun as w k h => let ⟨v, w2, h1, h2⟩ := ok_ac_giveBackSale as w k x h; ⟨v, w2, h1, eCal_of h2 ⟨rfl, rfl⟩ hdX0_giveBackSale (gvX11_329 eTb_wd)⟩), List.forall_mem_cons.mpr ⟨(fun as w k h => let ⟨v, w2, h1, h2⟩ := ok_gu_dropLatest as w k x h; ⟨v, w2, h1, eCal_of h2 ⟨rfl, rfl⟩ hdX6_dropLatest (gvX11_332 eTb_wd)⟩), List.forall_mem_cons.mpr ⟨(fun as w k h => let ⟨v, w2, h1, h2⟩ := ok_ac_dropLatest as w k x h; ⟨v, w2, h1, eCal_of h2 ⟨rfl, rfl⟩ hdX0_dropLatest (gvX11_335 eTb_wd)⟩), fun _ h => absurd h List.not_mem_nil⟩⟩⟩⟩⟩⟩⟩⟩⟩⟩⟩
set_option maxRecDepth 100000 in
set_option maxHeartbeats 4000000 in
theorem go_xx_undo (hcx : eCx p { frames := 2, cells := 0, slots := 0, locals := 80 } s m args meth c cX11_undo RX11 3 ad D cA vwCl SHc SSc (eWd yX11_undo cX11_undo 3 (some .boolean)) (some .boolean)) (w : eW) (x : Int32 × eW) (h : f_xx_undo w = some x) : eGq p l e { frames := 2, cells := 0, slots := 0, locals := 80 } s m args below meth c 3 ad D cA vwCl SHc rZ x 0 (eEnt [.ref 38]) [] w := by
  have h : eRun SHc SSc 3 rs_xx_undo (eCs cs_xx_undo) rZ CX11_undo [] (fun pc L st w => none) 33 true 0 [some (.ref 38), none, none] [] w = some x := h
  refine eGo.wk (eRun_go hcx (eLnk_all lk_xx_undo) (eHc_all hc_xx_undo) rZ_ok dcX11_undo [] _ (fun pc L st w hK => ?_) 33 true 0 _ _ w h) (eLe_wk ⟨rfl, trivial⟩)
  cases hK
end
set_option maxRecDepth 100000 in
set_option maxHeartbeats 4000000 in
theorem ok_xx_undo {l : Launch} {ad : Nat → Nat} {D : va_G} {cA : Nat → ClassId} {ρ : Type} (as : List Value) (w : eW) (k : Option Value → eW → Option ρ) (x : ρ) (h : K_xx_undo as w k = some x) : ∃ (v : Option Value) (w2 : eW), k v w2 = some x ∧ eMet l ad D cA vwCl SHc SSc yX11_undo (eWd yX11_undo cX11_undo 3 (some .boolean)) { frames := 2, cells := 0, slots := 0, locals := 80 } as w v w2 := by
  unfold K_xx_undo at h
  split at h
  · rename_i r0
    obtain ⟨h1, h5⟩ := eBif h
    clear h
    have h := h5
    clear h5
    have h1 := Nat.eq_of_beq_eq_true h1
    subst h1
    obtain ⟨q, h2, h3⟩ := Option.bind_eq_some_iff.mp h
    exact ⟨_, _, h3, eMet_of (by decide +kernel) rfl (by simp [eCat, Value.category]) rZ_ret (fun p e s m args below meth c hcx => go_xx_undo hcx w q h2)⟩
  · cases h
def CX12_four : eCo := [[some (.bipush 24), none, some (.istore_n 2), some (.iload_n 2), some (.ifCond .lt 35), none, none, some (.aload_n 0), some (.getfield 43), none, none, some (.aload_n 0), some (.getfield 124), none, none, some (.iload_n 1)],
  [some (.iload_n 2), some (.ishr), some (.sipush 255), none, none, some (.iand), some (.iastore), some (.aload_n 0), some (.dup), some (.getfield 124), none, none, some (.iconst 1), some (.iadd), some (.putfield 124), none],
  [none, some (.iinc 2 (-8)), none, none, some (.goto (-33)), none, none, some (.return_)]]
theorem dcX12_four : eDec cX12_four CX12_four := eDec_of (by decide +kernel)
def rs_mm_four : List (Nat × eR) := [(43, (0, 11, 17, 2)), (124, (0, 11, 18, 0))]
noncomputable def cs_mm_four : List (eF (eW)) := []
noncomputable def f_mm_four_L3 : Nat → Int32 → Int32 → eW → Option (eW)
  | 0, _, _, _ => none
  | n + 1, a1, a2, w => (if a2 < 0 then (some w) else (eChk (w.1 24 18) 700 (f_mm_four_L3 n a1 (a2 + (-8 : Int32)) (eU1 (eU1 w 11 (Int32.toNatClampNeg (w.1 24 18)) ((a1 >>> (a2 &&& 31)) &&& (255 : Int32))) 24 18 ((w.1 24 18) + (1 : Int32))))))
noncomputable def f_mm_four (a1 : Int32) (w : eW) : Option (eW) := (f_mm_four_L3 eFu a1 (24 : Int32) w)
noncomputable def K_mm_four {ρ : Type} : eF ρ := fun as w k => match as with
  | [.ref r0, .int a1] => bif Nat.beq r0 24 then (f_mm_four a1 w).bind (fun w => k none w) else none
  | _ => none
section
variable {p : Program} {l : Launch} {e : Env} {s : State} {m : MethodId} {args : Array Value} {below : List Frame} {meth : Method} {c : Code} {ad : Nat → Nat} {D : va_G} {cA : Nat → ClassId}
theorem lk_mm_four : ∀ q ∈ rs_mm_four, eLnk { frames := 0, cells := 0, slots := 0, locals := 0 } vwCl (eWd yX12_four cX12_four 3 none) SSm SHm.length RX12 q.1 q.2 := List.forall_mem_cons.mpr ⟨lkX12_43 eTb_wd, List.forall_mem_cons.mpr ⟨lkX12_124 eTb_wd, fun _ h => absurd h List.not_mem_nil⟩⟩
theorem hc_mm_four {x : eW} : ∀ q ∈ rs_mm_four, eHc l { frames := 0, cells := 0, slots := 0, locals := 0 } ad D cA vwCl SHm SSm (eWd yX12_four cX12_four 3 none) RX12 cs_mm_four x q := List.forall_mem_cons.mpr ⟨trivial, List.forall_mem_cons.mpr ⟨trivial, fun _ h => absurd h List.not_mem_nil⟩⟩
noncomputable def kk_mm_four_3 (n : Nat) : eK (eW) := fun pc L st w => bif Nat.beq pc 3 then (lR L 0 24 ((lI L 1).bind fun a1 => (lI L 2).bind fun a2 => sE st (f_mm_four_L3 n a1 a2 w))) else none
set_option maxRecDepth 100000 in
set_option maxHeartbeats 4000000 in
theorem go_mm_four_L3 (hcx : eCx p { frames := 0, cells := 0, slots := 0, locals := 0 } s m args meth c cX12_four RX12 3 ad D cA vwCl SHm SSm (eWd yX12_four cX12_four 3 none) (none)) {x : eW} : ∀ (n : Nat) (a1 : Int32) (a2 : Int32) (w : eW), f_mm_four_L3  n a1 a2 w = some x → eGq p l e { frames := 0, cells := 0, slots := 0, locals := 0 } s m args below meth c 3 ad D cA vwCl SHm rV x 3 [some (.ref 24), some (.int a1), some (.int a2)] [] w := by
  intro n
  induction n with
  | zero => intro a1 a2 w h; exact nomatch (show (none : Option (eW)) = some x from h)
  | succ n ih =>
    intro a1 a2 w h
    have h : eRun SHm SSm 3 rs_mm_four (eCs cs_mm_four) rV CX12_four [3] (kk_mm_four_3  n) 23 true 3 [some (.ref 24), some (.int a1), some (.int a2)] [] w = some x := h
    refine eRun_go hcx (eLnk_all lk_mm_four) (eHc_all hc_mm_four) rV_ok dcX12_four [3] _ (fun pc L st w hK => ?_) 23 true 3 _ _ w h
    unfold kk_mm_four_3 at hK
    rcases eCut hK with ⟨hpc, hK⟩ | hK
    · subst hpc
      obtain ⟨e0, hK_1⟩ := lR_some hK
      obtain ⟨a1, e1, hK_2⟩ := lI_some hK_1
      obtain ⟨a2, e2, hK_3⟩ := lI_some hK_2
      obtain ⟨hst9, hK_4⟩ := sE_some hK_3
      subst hst9
      exact eGo.wk (ih a1 a2 w hK_4) (eLe_wk ⟨e0, e1, e2, trivial⟩)
    cases hK
set_option maxRecDepth 100000 in
set_option maxHeartbeats 4000000 in
theorem go_mm_four (hcx : eCx p { frames := 0, cells := 0, slots := 0, locals := 0 } s m args meth c cX12_four RX12 3 ad D cA vwCl SHm SSm (eWd yX12_four cX12_four 3 none) (none)) (a1 : Int32) (w : eW) (x : eW) (h : f_mm_four a1 w = some x) : eGq p l e { frames := 0, cells := 0, slots := 0, locals := 0 } s m args below meth c 3 ad D cA vwCl SHm rV x 0 (eEnt [.ref 24, .int a1]) [] w := by
  have h : eRun SHm SSm 3 rs_mm_four (eCs cs_mm_four) rV CX12_four [3] (fun pc L st w => bif Nat.beq pc 3 then (lR L 0 24 ((lI L 1).bind fun a1 => (lI L 2).bind fun a2 => sE st (f_mm_four_L3 eFu a1 a2 w))) else none) 5 true 0 [some (.ref 24), some (.int a1), none] [] w = some x := h
  refine eGo.wk (eRun_go hcx (eLnk_all lk_mm_four) (eHc_all hc_mm_four) rV_ok dcX12_four [3] _ (fun pc L st w hK => ?_) 5 true 0 _ _ w h) (eLe_wk ⟨rfl, rfl, trivial⟩)
  rcases eCut hK with ⟨hpc, hK⟩ | hK
  · subst hpc
    obtain ⟨e0, hK_1⟩ := lR_some hK
    obtain ⟨a1, e1, hK_2⟩ := lI_some hK_1
    obtain ⟨a2, e2, hK_3⟩ := lI_some hK_2
    obtain ⟨hst9, hK_4⟩ := sE_some hK_3
    subst hst9
    exact eGo.wk (go_mm_four_L3 hcx  eFu a1 a2 w hK_4) (eLe_wk ⟨e0, e1, e2, trivial⟩)
  cases hK
end
set_option maxRecDepth 100000 in
set_option maxHeartbeats 4000000 in
theorem ok_mm_four {l : Launch} {ad : Nat → Nat} {D : va_G} {cA : Nat → ClassId} {ρ : Type} (as : List Value) (w : eW) (k : Option Value → eW → Option ρ) (x : ρ) (h : K_mm_four as w k = some x) : ∃ (v : Option Value) (w2 : eW), k v w2 = some x ∧ eMet l ad D cA vwCl SHm SSm yX12_four (eWd yX12_four cX12_four 3 none) { frames := 0, cells := 0, slots := 0, locals := 0 } as w v w2 := by
  unfold K_mm_four at h
  split at h
  · rename_i r0 a1
    obtain ⟨h1, h5⟩ := eBif h
    clear h
    have h := h5
    clear h5
    have h1 := Nat.eq_of_beq_eq_true h1
    subst h1
    obtain ⟨q, h2, h3⟩ := Option.bind_eq_some_iff.mp h
    exact ⟨_, _, h3, eMet_of (by decide +kernel) rfl (by simp [eCat, Value.category]) rV_ret (fun p e s m args below meth c hcx => go_mm_four hcx a1 w q h2)⟩
  · cases h
def CX12_feed : eCo := [[some (.aload_n 0), some (.iconst 0), some (.putfield 95), none, none, some (.aload_n 0), some (.getfield 124), none, none, some (.bipush 20), none, some (.iadd), some (.sipush 700), none, none, some (.if_icmp .le 5)],
  [none, none, some (.iconst (-1)), some (.ireturn), some (.aload_n 0), some (.iload_n 1), some (.invokevirtual 127), none, none, some (.aload_n 0), some (.iload_n 2), some (.invokevirtual 127), none, none, some (.aload_n 0), some (.iload_n 3)],
  [some (.invokevirtual 127), none, none, some (.aload_n 0), some (.iload 4), none, some (.invokevirtual 127), none, none, some (.aload_n 0), some (.iload 5), none, some (.invokevirtual 127), none, none, some (.aload_n 0)],
  [some (.getfield 124), none, none, some (.ireturn)]]
theorem dcX12_feed : eDec cX12_feed CX12_feed := eDec_of (by decide +kernel)
def rs_mm_feed : List (Nat × eR) := [(95, (0, 11, 0, 0)), (124, (0, 11, 18, 0)), (127, (1, 0, 1, 11))]
noncomputable def cs_mm_feed : List (eF (Int32 × eW)) := [K_mm_four]
noncomputable def f_mm_feed (a1 : Int32) (a2 : Int32) (a3 : Int32) (a4 : Int32) (a5 : Int32) (w : eW) : Option (Int32 × eW) := (if ((w.1 24 18) + (20 : Int32)) ≤ (700 : Int32) then ((f_mm_four a1 (eU1 w 24 0 (0 : Int32))).bind fun w1 => ((f_mm_four a2 w1).bind fun w2 => ((f_mm_four a3 w2).bind fun w3 => ((f_mm_four a4 w3).bind fun w4 => ((f_mm_four a5 w4).bind fun w5 => (some ((w5.1 24 18), w5))))))) else (some ((-1 : Int32), (eU1 w 24 0 (0 : Int32)))))
noncomputable def K_mm_feed {ρ : Type} : eF ρ := fun as w k => match as with
  | [.ref r0, .int a1, .int a2, .int a3, .int a4, .int a5] => bif Nat.beq r0 24 then (f_mm_feed a1 a2 a3 a4 a5 w).bind (fun p => k (some (.int p.1)) p.2) else none
  | _ => none
section
variable {p : Program} {l : Launch} {e : Env} {s : State} {m : MethodId} {args : Array Value} {below : List Frame} {meth : Method} {c : Code} {ad : Nat → Nat} {D : va_G} {cA : Nat → ClassId}
theorem lk_mm_feed : ∀ q ∈ rs_mm_feed, eLnk { frames := 1, cells := 0, slots := 0, locals := 22 } vwCl (eWd yX12_feed cX12_feed 6 (some .int)) SSm SHm.length RX12 q.1 q.2 := List.forall_mem_cons.mpr ⟨lkX12_95 eTb_wd, List.forall_mem_cons.mpr ⟨lkX12_124 eTb_wd, List.forall_mem_cons.mpr ⟨trivial, fun _ h => absurd h List.not_mem_nil⟩⟩⟩
theorem hc_mm_feed {x : Int32 × eW} : ∀ q ∈ rs_mm_feed, eHc l { frames := 1, cells := 0, slots := 0, locals := 22 } ad D cA vwCl SHm SSm (eWd yX12_feed cX12_feed 6 (some .int)) RX12 cs_mm_feed x q := List.forall_mem_cons.mpr ⟨trivial, List.forall_mem_cons.mpr ⟨trivial, List.forall_mem_cons.mpr ⟨(fun as w k h => let ⟨v, w2, h1, h2⟩ := ok_mm_four as w k x h; ⟨v, w2, h1, eCal_of h2 ⟨rfl, rfl⟩ hdX12_four (gvX12_127 eTb_wd)⟩), fun _ h => absurd h List.not_mem_nil⟩⟩⟩
set_option maxRecDepth 100000 in
set_option maxHeartbeats 4000000 in
theorem go_mm_feed (hcx : eCx p { frames := 1, cells := 0, slots := 0, locals := 22 } s m args meth c cX12_feed RX12 6 ad D cA vwCl SHm SSm (eWd yX12_feed cX12_feed 6 (some .int)) (some .int)) (a1 : Int32) (a2 : Int32) (a3 : Int32) (a4 : Int32) (a5 : Int32) (w : eW) (x : Int32 × eW) (h : f_mm_feed a1 a2 a3 a4 a5 w = some x) : eGq p l e { frames := 1, cells := 0, slots := 0, locals := 22 } s m args below meth c 6 ad D cA vwCl SHm rI x 0 (eEnt [.ref 24, .int a1, .int a2, .int a3, .int a4, .int a5]) [] w := by
  have h : eRun SHm SSm 6 rs_mm_feed (eCs cs_mm_feed) rI CX12_feed [] (fun pc L st w => none) 29 true 0 [some (.ref 24), some (.int a1), some (.int a2), some (.int a3), some (.int a4), some (.int a5)] [] w = some x := h
  refine eGo.wk (eRun_go hcx (eLnk_all lk_mm_feed) (eHc_all hc_mm_feed) rI_ok dcX12_feed [] _ (fun pc L st w hK => ?_) 29 true 0 _ _ w h) (eLe_wk ⟨rfl, rfl, rfl, rfl, rfl, rfl, trivial⟩)
  cases hK
end
set_option maxRecDepth 100000 in
set_option maxHeartbeats 4000000 in
theorem ok_mm_feed {l : Launch} {ad : Nat → Nat} {D : va_G} {cA : Nat → ClassId} {ρ : Type} (as : List Value) (w : eW) (k : Option Value → eW → Option ρ) (x : ρ) (h : K_mm_feed as w k = some x) : ∃ (v : Option Value) (w2 : eW), k v w2 = some x ∧ eMet l ad D cA vwCl SHm SSm yX12_feed (eWd yX12_feed cX12_feed 6 (some .int)) { frames := 1, cells := 0, slots := 0, locals := 22 } as w v w2 := by
  unfold K_mm_feed at h
  split at h
  · rename_i r0 a1 a2 a3 a4 a5
    obtain ⟨h1, h5⟩ := eBif h
    clear h
    have h := h5
    clear h5
    have h1 := Nat.eq_of_beq_eq_true h1
    subst h1
    obtain ⟨q, h2, h3⟩ := Option.bind_eq_some_iff.mp h
    exact ⟨_, _, h3, eMet_of (by decide +kernel) rfl (by simp [eCat, Value.category]) rI_ret (fun p e s m args below meth c hcx => go_mm_feed hcx a1 a2 a3 a4 a5 w q h2)⟩
  · cases h
def CX12_in : eCo := [[some (.iload_n 0), some (.iload_n 1), some (.if_icmp .lt 12), none, none, some (.iload_n 0), some (.iload_n 2), some (.if_icmp .gt 7), none, none, some (.iconst 1), some (.goto 4), none, none, some (.iconst 0), some (.ireturn)]]
theorem dcX12_in : eDec cX12_in CX12_in := eDec_of (by decide +kernel)
def rs_mm_in : List (Nat × eR) := []
noncomputable def cs_mm_in : List (eF (Int32 × eW)) := []
noncomputable def f_mm_in (a0 : Int32) (a1 : Int32) (a2 : Int32) (w : eW) : Option (Int32 × eW) := (if a0 < a1 then (some ((0 : Int32), w)) else (if a2 < a0 then (some ((0 : Int32), w)) else (some ((1 : Int32), w))))
noncomputable def K_mm_in {ρ : Type} : eF ρ := fun as w k => match as with
  | [.int a0, .int a1, .int a2] => (f_mm_in a0 a1 a2 w).bind (fun p => k (some (.int p.1)) p.2)
  | _ => none
section
variable {p : Program} {l : Launch} {e : Env} {s : State} {m : MethodId} {args : Array Value} {below : List Frame} {meth : Method} {c : Code} {ad : Nat → Nat} {D : va_G} {cA : Nat → ClassId}
theorem lk_mm_in : ∀ q ∈ rs_mm_in, eLnk { frames := 0, cells := 0, slots := 0, locals := 0 } vwCl (eWd yX12_in cX12_in 3 (some .boolean)) SSm SHm.length RX12 q.1 q.2 := fun _ h => absurd h List.not_mem_nil
theorem hc_mm_in {x : Int32 × eW} : ∀ q ∈ rs_mm_in, eHc l { frames := 0, cells := 0, slots := 0, locals := 0 } ad D cA vwCl SHm SSm (eWd yX12_in cX12_in 3 (some .boolean)) RX12 cs_mm_in x q := fun _ h => absurd h List.not_mem_nil
set_option maxRecDepth 100000 in
set_option maxHeartbeats 4000000 in
theorem go_mm_in (hcx : eCx p { frames := 0, cells := 0, slots := 0, locals := 0 } s m args meth c cX12_in RX12 3 ad D cA vwCl SHm SSm (eWd yX12_in cX12_in 3 (some .boolean)) (some .boolean)) (a0 : Int32) (a1 : Int32) (a2 : Int32) (w : eW) (x : Int32 × eW) (h : f_mm_in a0 a1 a2 w = some x) : eGq p l e { frames := 0, cells := 0, slots := 0, locals := 0 } s m args below meth c 3 ad D cA vwCl SHm rZ x 0 (eEnt [.int a0, .int a1, .int a2]) [] w := by
  have h : eRun SHm SSm 3 rs_mm_in (eCs cs_mm_in) rZ CX12_in [] (fun pc L st w => none) 11 true 0 [some (.int a0), some (.int a1), some (.int a2)] [] w = some x := h
  refine eGo.wk (eRun_go hcx (eLnk_all lk_mm_in) (eHc_all hc_mm_in) rZ_ok dcX12_in [] _ (fun pc L st w hK => ?_) 11 true 0 _ _ w h) (eLe_wk ⟨rfl, rfl, rfl, trivial⟩)
  cases hK
end
set_option maxRecDepth 100000 in
set_option maxHeartbeats 4000000 in
theorem ok_mm_in {l : Launch} {ad : Nat → Nat} {D : va_G} {cA : Nat → ClassId} {ρ : Type} (as : List Value) (w : eW) (k : Option Value → eW → Option ρ) (x : ρ) (h : K_mm_in as w k = some x) : ∃ (v : Option Value) (w2 : eW), k v w2 = some x ∧ eMet l ad D cA vwCl SHm SSm yX12_in (eWd yX12_in cX12_in 3 (some .boolean)) { frames := 0, cells := 0, slots := 0, locals := 0 } as w v w2 := by
  unfold K_mm_in at h
  split at h
  · rename_i a0 a1 a2
    obtain ⟨q, h2, h3⟩ := Option.bind_eq_some_iff.mp h
    exact ⟨_, _, h3, eMet_of (by decide +kernel) rfl (by simp [eCat, Value.category]) rZ_ret (fun p e s m args below meth c hcx => go_mm_in hcx a0 a1 a2 w q h2)⟩
  · cases h
