def CX11_text : eCo := [[some (.aload_n 0), some (.getfield 21), none, none, some (.invokevirtual 86), none, none, some (.istore_n 1), some (.aload_n 0), some (.getfield 10), none, none, some (.iconst 0), some (.invokevirtual 82), none, none],
  [some (.pop), some (.iload_n 1), some (.ifCond .ne 5), none, none, some (.iconst (-1)), some (.ireturn), some (.aload_n 0), some (.getfield 28), none, none, some (.aload_n 0), some (.getfield 21), none, none, some (.getfield 90)],
  [none, none, some (.invokevirtual 93), none, none, some (.aload_n 0), some (.getfield 56), none, none, some (.iconst 0), some (.putfield 97), none, none, some (.aload_n 0), some (.getfield 63), none],
  [none, some (.iconst 0), some (.putfield 101), none, none, some (.aload_n 0), some (.getfield 70), none, none, some (.iconst 0), some (.putfield 104), none, none, some (.aload_n 0), some (.getfield 28), none],
  [none, some (.getfield 105), none, none, some (.ireturn)]]
theorem dcX11_text : eDec cX11_text CX11_text := eDec_of (by decide +kernel)
def rs_xx_text : List (Nat × eR) := [(10, (0, 10, 0, 2)), (21, (0, 10, 1, 2)), (28, (0, 10, 2, 2)), (56, (0, 10, 6, 2)), (63, (0, 10, 7, 2)), (70, (0, 10, 8, 2)), (82, (1, 1, 1, 9)), (86, (1, 0, 0, 7)), (90, (0, 7, 4, 2)), (93, (1, 2, 1, 4)), (97, (0, 8, 0, 3)), (101, (0, 6, 2, 0)), (104, (0, 0, 2, 0)), (105, (0, 4, 0, 0))]
noncomputable def cs_xx_text : List (eF (Int32 × eW)) := [K_re_readAll, K_ta_cut, K_fi_become]
noncomputable def f_xx_text (w : eW) : Option (Int32 × eW) := ((f_re_readAll w).bind fun p1 => ((f_ta_cut (0 : Int32) p1.2).bind fun p2 => (if ¬ p1.1 = 0 then ((f_fi_become p2.2).bind fun w3 => (some ((w3.1 8 0), (eU1 (eU1 (eU1 w3 32 0 (0 : Int32)) 35 2 (0 : Int32)) 37 2 (0 : Int32))))) else (some ((-1 : Int32), p2.2)))))
noncomputable def K_xx_text {ρ : Type} : eF ρ := fun as w k => match as with
  | [.ref r0] => bif Nat.beq r0 38 then (f_xx_text w).bind (fun p => k (some (.int p.1)) p.2) else none
  | _ => none
section
variable {p : Program} {l : Launch} {e : Env} {s : State} {m : MethodId} {args : Array Value} {below : List Frame} {meth : Method} {c : Code} {ad : Nat → Nat} {D : va_G} {cA : Nat → ClassId}
theorem lk_xx_text : ∀ q ∈ rs_xx_text, eLnk { frames := 6, cells := 0, slots := 0, locals := 134 } vwCl (eWd yX11_text cX11_text 2 (some .int)) SSc SHc.length RX11 q.1 q.2 := List.forall_mem_cons.mpr ⟨lkX11_10 eTb_wd, List.forall_mem_cons.mpr ⟨lkX11_21 eTb_wd, List.forall_mem_cons.mpr ⟨lkX11_28 eTb_wd, List.forall_mem_cons.mpr ⟨lkX11_56 eTb_wd, List.forall_mem_cons.mpr ⟨lkX11_63 eTb_wd, List.forall_mem_cons.mpr ⟨lkX11_70 eTb_wd, List.forall_mem_cons.mpr ⟨trivial, List.forall_mem_cons.mpr ⟨trivial, List.forall_mem_cons.mpr ⟨lkX11_90 eTb_wd, List.forall_mem_cons.mpr ⟨trivial, List.forall_mem_cons.mpr ⟨lkX11_97 eTb_wd, List.forall_mem_cons.mpr ⟨lkX11_101 eTb_wd, List.forall_mem_cons.mpr ⟨lkX11_104 eTb_wd, List.forall_mem_cons.mpr ⟨lkX11_105 eTb_wd, fun _ h => absurd h List.not_mem_nil⟩⟩⟩⟩⟩⟩⟩⟩⟩⟩⟩⟩⟩⟩
theorem hc_xx_text {x : Int32 × eW} : ∀ q ∈ rs_xx_text, eHc l { frames := 6, cells := 0, slots := 0, locals := 134 } ad D cA vwCl SHc SSc (eWd yX11_text cX11_text 2 (some .int)) RX11 cs_xx_text x q := List.forall_mem_cons.mpr ⟨trivial, List.forall_mem_cons.mpr ⟨trivial, List.forall_mem_cons.mpr ⟨trivial, List.forall_mem_cons.mpr ⟨trivial, List.forall_mem_cons.mpr ⟨trivial, List.forall_mem_cons.mpr ⟨trivial, List.forall_mem_cons.mpr ⟨(fun as w k h => let ⟨v, w2, h1, h2⟩ := ok_ta_cut as w k x h; ⟨v, w2, h1, eCal_of h2 ⟨rfl, rfl⟩ hdX10_cut (gvX11_82 eTb_wd)⟩), List.forall_mem_cons.mpr ⟨(fun as w k h => let ⟨v, w2, h1, h2⟩ := ok_re_readAll as w k x h; ⟨v, w2, h1, eCal_of h2 ⟨rfl, rfl⟩ hdX8_readAll (gvX11_86 eTb_wd)⟩), List.forall_mem_cons.mpr ⟨trivial, List.forall_mem_cons.mpr ⟨(fun as w k h => let ⟨v, w2, h1, h2⟩ := ok_fi_become as w k x h; ⟨v, w2, h1, eCal_of h2 ⟨rfl, rfl⟩ hdX4_become (gvX11_93 eTb_wd)⟩), List.forall_mem_cons.mpr ⟨trivial, List.forall_mem_cons.mpr ⟨trivial, List.forall_mem_cons.mpr ⟨trivial, List.forall_mem_cons.mpr ⟨trivial, fun _ h => absurd h List.not_mem_nil⟩⟩⟩⟩⟩⟩⟩⟩⟩⟩⟩⟩⟩⟩
set_option maxRecDepth 100000 in
set_option maxHeartbeats 4000000 in
theorem go_xx_text (hcx : eCx p { frames := 6, cells := 0, slots := 0, locals := 134 } s m args meth c cX11_text RX11 2 ad D cA vwCl SHc SSc (eWd yX11_text cX11_text 2 (some .int)) (some .int)) (w : eW) (x : Int32 × eW) (h : f_xx_text w = some x) : eGq p l e { frames := 6, cells := 0, slots := 0, locals := 134 } s m args below meth c 2 ad D cA vwCl SHc rI x 0 (eEnt [.ref 38]) [] w := by
  have h : eRun SHc SSc 2 rs_xx_text (eCs cs_xx_text) rI CX11_text [] (fun pc L st w => none) 35 true 0 [some (.ref 38), none] [] w = some x := h
  refine eGo.wk (eRun_go hcx (eLnk_all lk_xx_text) (eHc_all hc_xx_text) rI_ok dcX11_text [] _ (fun pc L st w hK => ?_) 35 true 0 _ _ w h) (eLe_wk ⟨rfl, trivial⟩)
  cases hK
end
set_option maxRecDepth 100000 in
set_option maxHeartbeats 4000000 in
theorem ok_xx_text {l : Launch} {ad : Nat → Nat} {D : va_G} {cA : Nat → ClassId} {ρ : Type} (as : List Value) (w : eW) (k : Option Value → eW → Option ρ) (x : ρ) (h : K_xx_text as w k = some x) : ∃ (v : Option Value) (w2 : eW), k v w2 = some x ∧ eMet l ad D cA vwCl SHc SSc yX11_text (eWd yX11_text cX11_text 2 (some .int)) { frames := 6, cells := 0, slots := 0, locals := 134 } as w v w2 := by
  unfold K_xx_text at h
  split at h
  · rename_i r0
    obtain ⟨h1, h5⟩ := eBif h
    clear h
    have h := h5
    clear h5
    have h1 := Nat.eq_of_beq_eq_true h1
    subst h1
    obtain ⟨q, h2, h3⟩ := Option.bind_eq_some_iff.mp h
    exact ⟨_, _, h3, eMet_of (by decide +kernel) rfl (by simp [eCat, Value.category]) rI_ret (fun p e s m args below meth c hcx => go_xx_text hcx w q h2)⟩
  · cases h
def CX11_fault : eCo := [[some (.iload_n 1), some (.ifCond .ne 11), none, none, some (.aload_n 0), some (.getfield 21), none, none, some (.getfield 106), none, none, some (.ireturn), some (.iload_n 1), some (.iconst 1), some (.if_icmp .ne 13), none],
  [none, some (.aload_n 0), some (.getfield 21), none, none, some (.getfield 109), none, none, some (.goto 4), none, none, some (.iconst (-1)), some (.ireturn)]]
theorem dcX11_fault : eDec cX11_fault CX11_fault := eDec_of (by decide +kernel)
def rs_xx_fault : List (Nat × eR) := [(21, (0, 10, 1, 2)), (106, (0, 7, 5, 0)), (109, (0, 7, 6, 0))]
noncomputable def cs_xx_fault : List (eF (Int32 × eW)) := []
noncomputable def f_xx_fault (a1 : Int32) (w : eW) : Option (Int32 × eW) := (if ¬ a1 = 0 then (if ¬ a1 = (1 : Int32) then (some ((-1 : Int32), w)) else (some ((w.1 6 6), w))) else (some ((w.1 6 5), w)))
noncomputable def K_xx_fault {ρ : Type} : eF ρ := fun as w k => match as with
  | [.ref r0, .int a1] => bif Nat.beq r0 38 then (f_xx_fault a1 w).bind (fun p => k (some (.int p.1)) p.2) else none
  | _ => none
section
variable {p : Program} {l : Launch} {e : Env} {s : State} {m : MethodId} {args : Array Value} {below : List Frame} {meth : Method} {c : Code} {ad : Nat → Nat} {D : va_G} {cA : Nat → ClassId}
theorem lk_xx_fault : ∀ q ∈ rs_xx_fault, eLnk { frames := 0, cells := 0, slots := 0, locals := 0 } vwCl (eWd yX11_fault cX11_fault 2 (some .int)) SSc SHc.length RX11 q.1 q.2 := List.forall_mem_cons.mpr ⟨lkX11_21 eTb_wd, List.forall_mem_cons.mpr ⟨lkX11_106 eTb_wd, List.forall_mem_cons.mpr ⟨lkX11_109 eTb_wd, fun _ h => absurd h List.not_mem_nil⟩⟩⟩
theorem hc_xx_fault {x : Int32 × eW} : ∀ q ∈ rs_xx_fault, eHc l { frames := 0, cells := 0, slots := 0, locals := 0 } ad D cA vwCl SHc SSc (eWd yX11_fault cX11_fault 2 (some .int)) RX11 cs_xx_fault x q := List.forall_mem_cons.mpr ⟨trivial, List.forall_mem_cons.mpr ⟨trivial, List.forall_mem_cons.mpr ⟨trivial, fun _ h => absurd h List.not_mem_nil⟩⟩⟩
set_option maxRecDepth 100000 in
set_option maxHeartbeats 4000000 in
theorem go_xx_fault (hcx : eCx p { frames := 0, cells := 0, slots := 0, locals := 0 } s m args meth c cX11_fault RX11 2 ad D cA vwCl SHc SSc (eWd yX11_fault cX11_fault 2 (some .int)) (some .int)) (a1 : Int32) (w : eW) (x : Int32 × eW) (h : f_xx_fault a1 w = some x) : eGq p l e { frames := 0, cells := 0, slots := 0, locals := 0 } s m args below meth c 2 ad D cA vwCl SHc rI x 0 (eEnt [.ref 38, .int a1]) [] w := by
  have h : eRun SHc SSc 2 rs_xx_fault (eCs cs_xx_fault) rI CX11_fault [] (fun pc L st w => none) 12 true 0 [some (.ref 38), some (.int a1)] [] w = some x := h
  refine eGo.wk (eRun_go hcx (eLnk_all lk_xx_fault) (eHc_all hc_xx_fault) rI_ok dcX11_fault [] _ (fun pc L st w hK => ?_) 12 true 0 _ _ w h) (eLe_wk ⟨rfl, rfl, trivial⟩)
  cases hK
end
set_option maxRecDepth 100000 in
set_option maxHeartbeats 4000000 in
theorem ok_xx_fault {l : Launch} {ad : Nat → Nat} {D : va_G} {cA : Nat → ClassId} {ρ : Type} (as : List Value) (w : eW) (k : Option Value → eW → Option ρ) (x : ρ) (h : K_xx_fault as w k = some x) : ∃ (v : Option Value) (w2 : eW), k v w2 = some x ∧ eMet l ad D cA vwCl SHc SSc yX11_fault (eWd yX11_fault cX11_fault 2 (some .int)) { frames := 0, cells := 0, slots := 0, locals := 0 } as w v w2 := by
  unfold K_xx_fault at h
  split at h
  · rename_i r0 a1
    obtain ⟨h1, h5⟩ := eBif h
    clear h
    have h := h5
    clear h5
    have h1 := Nat.eq_of_beq_eq_true h1
    subst h1
    obtain ⟨q, h2, h3⟩ := Option.bind_eq_some_iff.mp h
    exact ⟨_, _, h3, eMet_of (by decide +kernel) rfl (by simp [eCat, Value.category]) rI_ret (fun p e s m args below meth c hcx => go_xx_fault hcx a1 w q h2)⟩
  · cases h
def CX11_about : eCo := [[some (.iload_n 1), some (.tableswitch 87 0 5 #[39, 47, 55, 63, 71, 79]), none, none, none, none, none, none, none, none, none, none, none, none, none, none],
  [none, none, none, none, none, none, none, none, none, none, none, none, none, none, none, none],
  [none, none, none, none, none, none, none, none, some (.aload_n 0), some (.getfield 28), none, none, some (.getfield 105), none, none, some (.ireturn)],
  [some (.aload_n 0), some (.getfield 28), none, none, some (.getfield 112), none, none, some (.ireturn), some (.aload_n 0), some (.getfield 70), none, none, some (.getfield 104), none, none, some (.ireturn)],
  [some (.aload_n 0), some (.getfield 10), none, none, some (.getfield 74), none, none, some (.ireturn), some (.aload_n 0), some (.getfield 63), none, none, some (.getfield 101), none, none, some (.ireturn)],
  [some (.aload_n 0), some (.getfield 28), none, none, some (.getfield 115), none, none, some (.ireturn), some (.iconst (-1)), some (.ireturn)]]
theorem dcX11_about : eDec cX11_about CX11_about := eDec_of (by decide +kernel)
def rs_xx_about : List (Nat × eR) := [(10, (0, 10, 0, 2)), (28, (0, 10, 2, 2)), (63, (0, 10, 7, 2)), (70, (0, 10, 8, 2)), (74, (0, 9, 1, 0)), (101, (0, 6, 2, 0)), (104, (0, 0, 2, 0)), (105, (0, 4, 0, 0)), (112, (0, 4, 1, 0)), (115, (0, 4, 2, 0))]
noncomputable def cs_xx_about : List (eF (Int32 × eW)) := []
noncomputable def f_xx_about (a1 : Int32) (w : eW) : Option (Int32 × eW) := (if a1 = (0 : Int32) then (some ((w.1 8 0), w)) else (if a1 = (1 : Int32) then (some ((w.1 8 1), w)) else (if a1 = (2 : Int32) then (some ((w.1 37 2), w)) else (if a1 = (3 : Int32) then (some ((w.1 1 1), w)) else (if a1 = (4 : Int32) then (some ((w.1 35 2), w)) else (if a1 = (5 : Int32) then (some ((w.1 8 2), w)) else (some ((-1 : Int32), w))))))))
noncomputable def K_xx_about {ρ : Type} : eF ρ := fun as w k => match as with
  | [.ref r0, .int a1] => bif Nat.beq r0 38 then (f_xx_about a1 w).bind (fun p => k (some (.int p.1)) p.2) else none
  | _ => none
section
variable {p : Program} {l : Launch} {e : Env} {s : State} {m : MethodId} {args : Array Value} {below : List Frame} {meth : Method} {c : Code} {ad : Nat → Nat} {D : va_G} {cA : Nat → ClassId}
theorem lk_xx_about : ∀ q ∈ rs_xx_about, eLnk { frames := 0, cells := 0, slots := 0, locals := 0 } vwCl (eWd yX11_about cX11_about 2 (some .int)) SSc SHc.length RX11 q.1 q.2 := List.forall_mem_cons.mpr ⟨lkX11_10 eTb_wd, List.forall_mem_cons.mpr ⟨lkX11_28 eTb_wd, List.forall_mem_cons.mpr ⟨lkX11_63 eTb_wd, List.forall_mem_cons.mpr ⟨lkX11_70 eTb_wd, List.forall_mem_cons.mpr ⟨lkX11_74 eTb_wd, List.forall_mem_cons.mpr ⟨lkX11_101 eTb_wd, List.forall_mem_cons.mpr ⟨lkX11_104 eTb_wd, List.forall_mem_cons.mpr ⟨lkX11_105 eTb_wd, List.forall_mem_cons.mpr ⟨lkX11_112 eTb_wd, List.forall_mem_cons.mpr ⟨lkX11_115 eTb_wd, fun _ h => absurd h List.not_mem_nil⟩⟩⟩⟩⟩⟩⟩⟩⟩⟩
theorem hc_xx_about {x : Int32 × eW} : ∀ q ∈ rs_xx_about, eHc l { frames := 0, cells := 0, slots := 0, locals := 0 } ad D cA vwCl SHc SSc (eWd yX11_about cX11_about 2 (some .int)) RX11 cs_xx_about x q := List.forall_mem_cons.mpr ⟨trivial, List.forall_mem_cons.mpr ⟨trivial, List.forall_mem_cons.mpr ⟨trivial, List.forall_mem_cons.mpr ⟨trivial, List.forall_mem_cons.mpr ⟨trivial, List.forall_mem_cons.mpr ⟨trivial, List.forall_mem_cons.mpr ⟨trivial, List.forall_mem_cons.mpr ⟨trivial, List.forall_mem_cons.mpr ⟨trivial, List.forall_mem_cons.mpr ⟨trivial, fun _ h => absurd h List.not_mem_nil⟩⟩⟩⟩⟩⟩⟩⟩⟩⟩
set_option maxRecDepth 100000 in
set_option maxHeartbeats 4000000 in
theorem go_xx_about (hcx : eCx p { frames := 0, cells := 0, slots := 0, locals := 0 } s m args meth c cX11_about RX11 2 ad D cA vwCl SHc SSc (eWd yX11_about cX11_about 2 (some .int)) (some .int)) (a1 : Int32) (w : eW) (x : Int32 × eW) (h : f_xx_about a1 w = some x) : eGq p l e { frames := 0, cells := 0, slots := 0, locals := 0 } s m args below meth c 2 ad D cA vwCl SHc rI x 0 (eEnt [.ref 38, .int a1]) [] w := by
  have h : eRun SHc SSc 2 rs_xx_about (eCs cs_xx_about) rI CX11_about [] (fun pc L st w => none) 8 true 0 [some (.ref 38), some (.int a1)] [] w = some x := h
  refine eGo.wk (eRun_go hcx (eLnk_all lk_xx_about) (eHc_all hc_xx_about) rI_ok dcX11_about [] _ (fun pc L st w hK => ?_) 8 true 0 _ _ w h) (eLe_wk ⟨rfl, rfl, trivial⟩)
  cases hK
end
set_option maxRecDepth 100000 in
set_option maxHeartbeats 4000000 in
theorem ok_xx_about {l : Launch} {ad : Nat → Nat} {D : va_G} {cA : Nat → ClassId} {ρ : Type} (as : List Value) (w : eW) (k : Option Value → eW → Option ρ) (x : ρ) (h : K_xx_about as w k = some x) : ∃ (v : Option Value) (w2 : eW), k v w2 = some x ∧ eMet l ad D cA vwCl SHc SSc yX11_about (eWd yX11_about cX11_about 2 (some .int)) { frames := 0, cells := 0, slots := 0, locals := 0 } as w v w2 := by
  unfold K_xx_about at h
  split at h
  · rename_i r0 a1
    obtain ⟨h1, h5⟩ := eBif h
    clear h
    have h := h5
    clear h5
    have h1 := Nat.eq_of_beq_eq_true h1
    subst h1
    obtain ⟨q, h2, h3⟩ := Option.bind_eq_some_iff.mp h
    exact ⟨_, _, h3, eMet_of (by decide +kernel) rfl (by simp [eCat, Value.category]) rI_ret (fun p e s m args below meth c hcx => go_xx_about hcx a1 w q h2)⟩
  · cases h
def rs_fi_isHolder : List (Nat × eR) := [(15, (0, 4, 0, 0))]
noncomputable def cs_fi_isHolder : List (eF (Int32 × eW)) := []
noncomputable def f_fi_isHolder (a1 : Int32) (w : eW) : Option (Int32 × eW) := (if a1 < 0 then (some ((0 : Int32), w)) else (if (w.1 8 0) ≤ a1 then (some ((0 : Int32), w)) else (some ((1 : Int32), w))))
noncomputable def K_fi_isHolder {ρ : Type} : eF ρ := fun as w k => match as with
  | [.ref r0, .int a1] => bif Nat.beq r0 8 then (f_fi_isHolder a1 w).bind (fun p => k (some (.int p.1)) p.2) else none
  | _ => none
section
variable {p : Program} {l : Launch} {e : Env} {s : State} {m : MethodId} {args : Array Value} {below : List Frame} {meth : Method} {c : Code} {ad : Nat → Nat} {D : va_G} {cA : Nat → ClassId}
theorem lk_fi_isHolder : ∀ q ∈ rs_fi_isHolder, eLnk { frames := 0, cells := 0, slots := 0, locals := 0 } vwCl (eWd yX4_isHolder cX4_isHolder 2 (some .boolean)) SSc SHc.length RX4 q.1 q.2 := List.forall_mem_cons.mpr ⟨lkX4_15 eTb_wd, fun _ h => absurd h List.not_mem_nil⟩
theorem hc_fi_isHolder {x : Int32 × eW} : ∀ q ∈ rs_fi_isHolder, eHc l { frames := 0, cells := 0, slots := 0, locals := 0 } ad D cA vwCl SHc SSc (eWd yX4_isHolder cX4_isHolder 2 (some .boolean)) RX4 cs_fi_isHolder x q := List.forall_mem_cons.mpr ⟨trivial, fun _ h => absurd h List.not_mem_nil⟩
set_option maxRecDepth 100000 in
set_option maxHeartbeats 4000000 in
theorem go_fi_isHolder (hcx : eCx p { frames := 0, cells := 0, slots := 0, locals := 0 } s m args meth c cX4_isHolder RX4 2 ad D cA vwCl SHc SSc (eWd yX4_isHolder cX4_isHolder 2 (some .boolean)) (some .boolean)) (a1 : Int32) (w : eW) (x : Int32 × eW) (h : f_fi_isHolder a1 w = some x) : eGq p l e { frames := 0, cells := 0, slots := 0, locals := 0 } s m args below meth c 2 ad D cA vwCl SHc rZ x 0 (eEnt [.ref 8, .int a1]) [] w := by
  have h : eRun SHc SSc 2 rs_fi_isHolder (eCs cs_fi_isHolder) rZ CX4_isHolder [] (fun pc L st w => none) 11 true 0 [some (.ref 8), some (.int a1)] [] w = some x := h
  refine eGo.wk (eRun_go hcx (eLnk_all lk_fi_isHolder) (eHc_all hc_fi_isHolder) rZ_ok dcX4_isHolder [] _ (fun pc L st w hK => ?_) 11 true 0 _ _ w h) (eLe_wk ⟨rfl, rfl, trivial⟩)
  cases hK
end
set_option maxRecDepth 100000 in
set_option maxHeartbeats 4000000 in
theorem ok_fi_isHolder {l : Launch} {ad : Nat → Nat} {D : va_G} {cA : Nat → ClassId} {ρ : Type} (as : List Value) (w : eW) (k : Option Value → eW → Option ρ) (x : ρ) (h : K_fi_isHolder as w k = some x) : ∃ (v : Option Value) (w2 : eW), k v w2 = some x ∧ eMet l ad D cA vwCl SHc SSc yX4_isHolder (eWd yX4_isHolder cX4_isHolder 2 (some .boolean)) { frames := 0, cells := 0, slots := 0, locals := 0 } as w v w2 := by
  unfold K_fi_isHolder at h
  split at h
  · rename_i r0 a1
    obtain ⟨h1, h5⟩ := eBif h
    clear h
    have h := h5
    clear h5
    have h1 := Nat.eq_of_beq_eq_true h1
    subst h1
    obtain ⟨q, h2, h3⟩ := Option.bind_eq_some_iff.mp h
    exact ⟨_, _, h3, eMet_of (by decide +kernel) rfl (by simp [eCat, Value.category]) rZ_ret (fun p e s m args below meth c hcx => go_fi_isHolder hcx a1 w q h2)⟩
  · cases h
def rs_fi_fact : List (Nat × eR) := [(9, (0, 4, 3, 2)), (15, (0, 4, 0, 0))]
noncomputable def cs_fi_fact : List (eF (Int32 × eW)) := []
noncomputable def f_fi_fact (a1 : Int32) (a2 : Int32) (w : eW) : Option (Int32 × eW) := (if a1 < 0 then (some ((0 : Int32), w)) else (if (w.1 8 0) ≤ a1 then (some ((0 : Int32), w)) else (if a2 < 0 then (some ((0 : Int32), w)) else (if (10 : Int32) ≤ a2 then (some ((0 : Int32), w)) else (eChk ((a1 * (10 : Int32)) + a2) 120 (some ((w.1 7 (Int32.toNatClampNeg ((a1 * (10 : Int32)) + a2))), w)))))))
noncomputable def K_fi_fact {ρ : Type} : eF ρ := fun as w k => match as with
  | [.ref r0, .int a1, .int a2] => bif Nat.beq r0 8 then (f_fi_fact a1 a2 w).bind (fun p => k (some (.int p.1)) p.2) else none
  | _ => none
section
variable {p : Program} {l : Launch} {e : Env} {s : State} {m : MethodId} {args : Array Value} {below : List Frame} {meth : Method} {c : Code} {ad : Nat → Nat} {D : va_G} {cA : Nat → ClassId}
theorem lk_fi_fact : ∀ q ∈ rs_fi_fact, eLnk { frames := 0, cells := 0, slots := 0, locals := 0 } vwCl (eWd yX4_fact cX4_fact 3 (some .int)) SSc SHc.length RX4 q.1 q.2 := List.forall_mem_cons.mpr ⟨lkX4_9 eTb_wd, List.forall_mem_cons.mpr ⟨lkX4_15 eTb_wd, fun _ h => absurd h List.not_mem_nil⟩⟩
theorem hc_fi_fact {x : Int32 × eW} : ∀ q ∈ rs_fi_fact, eHc l { frames := 0, cells := 0, slots := 0, locals := 0 } ad D cA vwCl SHc SSc (eWd yX4_fact cX4_fact 3 (some .int)) RX4 cs_fi_fact x q := List.forall_mem_cons.mpr ⟨trivial, List.forall_mem_cons.mpr ⟨trivial, fun _ h => absurd h List.not_mem_nil⟩⟩
set_option maxRecDepth 100000 in
set_option maxHeartbeats 4000000 in
theorem go_fi_fact (hcx : eCx p { frames := 0, cells := 0, slots := 0, locals := 0 } s m args meth c cX4_fact RX4 3 ad D cA vwCl SHc SSc (eWd yX4_fact cX4_fact 3 (some .int)) (some .int)) (a1 : Int32) (a2 : Int32) (w : eW) (x : Int32 × eW) (h : f_fi_fact a1 a2 w = some x) : eGq p l e { frames := 0, cells := 0, slots := 0, locals := 0 } s m args below meth c 3 ad D cA vwCl SHc rI x 0 (eEnt [.ref 8, .int a1, .int a2]) [] w := by
  have h : eRun SHc SSc 3 rs_fi_fact (eCs cs_fi_fact) rI CX4_fact [] (fun pc L st w => none) 23 true 0 [some (.ref 8), some (.int a1), some (.int a2)] [] w = some x := h
  refine eGo.wk (eRun_go hcx (eLnk_all lk_fi_fact) (eHc_all hc_fi_fact) rI_ok dcX4_fact [] _ (fun pc L st w hK => ?_) 23 true 0 _ _ w h) (eLe_wk ⟨rfl, rfl, rfl, trivial⟩)
  cases hK
end
set_option maxRecDepth 100000 in
set_option maxHeartbeats 4000000 in
theorem ok_fi_fact {l : Launch} {ad : Nat → Nat} {D : va_G} {cA : Nat → ClassId} {ρ : Type} (as : List Value) (w : eW) (k : Option Value → eW → Option ρ) (x : ρ) (h : K_fi_fact as w k = some x) : ∃ (v : Option Value) (w2 : eW), k v w2 = some x ∧ eMet l ad D cA vwCl SHc SSc yX4_fact (eWd yX4_fact cX4_fact 3 (some .int)) { frames := 0, cells := 0, slots := 0, locals := 0 } as w v w2 := by
  unfold K_fi_fact at h
  split at h
  · rename_i r0 a1 a2
    obtain ⟨h1, h5⟩ := eBif h
    clear h
    have h := h5
    clear h5
    have h1 := Nat.eq_of_beq_eq_true h1
    subst h1
    obtain ⟨q, h2, h3⟩ := Option.bind_eq_some_iff.mp h
    exact ⟨_, _, h3, eMet_of (by decide +kernel) rfl (by simp [eCat, Value.category]) rI_ret (fun p e s m args below meth c hcx => go_fi_fact hcx a1 a2 w q h2)⟩
  · cases h
def CX4_isClass : eCo := [[some (.iload_n 1), some (.ifCond .lt 30), none, none, some (.iload_n 1), some (.aload_n 0), some (.getfield 15), none, none, some (.if_icmp .ge 22), none, none, some (.aload_n 0), some (.getfield 9), none, none],
  [some (.iload_n 1), some (.bipush 10), none, some (.imul), some (.iconst 0), some (.iadd), some (.iaload), some (.iconst 2), some (.if_icmp .ne 7), none, none, some (.iconst 1), some (.goto 4), none, none, some (.iconst 0)],
  [some (.ireturn)]]
theorem dcX4_isClass : eDec cX4_isClass CX4_isClass := eDec_of (by decide +kernel)
def rs_fi_isClass : List (Nat × eR) := [(9, (0, 4, 3, 2)), (15, (0, 4, 0, 0))]
noncomputable def cs_fi_isClass : List (eF (Int32 × eW)) := []
noncomputable def f_fi_isClass (a1 : Int32) (w : eW) : Option (Int32 × eW) := (if a1 < 0 then (some ((0 : Int32), w)) else (if (w.1 8 0) ≤ a1 then (some ((0 : Int32), w)) else (eChk ((a1 * (10 : Int32)) + (0 : Int32)) 120 (if ¬ (w.1 7 (Int32.toNatClampNeg ((a1 * (10 : Int32)) + (0 : Int32)))) = (2 : Int32) then (some ((0 : Int32), w)) else (some ((1 : Int32), w))))))
noncomputable def K_fi_isClass {ρ : Type} : eF ρ := fun as w k => match as with
  | [.ref r0, .int a1] => bif Nat.beq r0 8 then (f_fi_isClass a1 w).bind (fun p => k (some (.int p.1)) p.2) else none
  | _ => none
section
variable {p : Program} {l : Launch} {e : Env} {s : State} {m : MethodId} {args : Array Value} {below : List Frame} {meth : Method} {c : Code} {ad : Nat → Nat} {D : va_G} {cA : Nat → ClassId}
theorem lk_fi_isClass : ∀ q ∈ rs_fi_isClass, eLnk { frames := 0, cells := 0, slots := 0, locals := 0 } vwCl (eWd yX4_isClass cX4_isClass 2 (some .boolean)) SSc SHc.length RX4 q.1 q.2 := List.forall_mem_cons.mpr ⟨lkX4_9 eTb_wd, List.forall_mem_cons.mpr ⟨lkX4_15 eTb_wd, fun _ h => absurd h List.not_mem_nil⟩⟩
theorem hc_fi_isClass {x : Int32 × eW} : ∀ q ∈ rs_fi_isClass, eHc l { frames := 0, cells := 0, slots := 0, locals := 0 } ad D cA vwCl SHc SSc (eWd yX4_isClass cX4_isClass 2 (some .boolean)) RX4 cs_fi_isClass x q := List.forall_mem_cons.mpr ⟨trivial, List.forall_mem_cons.mpr ⟨trivial, fun _ h => absurd h List.not_mem_nil⟩⟩
set_option maxRecDepth 100000 in
set_option maxHeartbeats 4000000 in
theorem go_fi_isClass (hcx : eCx p { frames := 0, cells := 0, slots := 0, locals := 0 } s m args meth c cX4_isClass RX4 2 ad D cA vwCl SHc SSc (eWd yX4_isClass cX4_isClass 2 (some .boolean)) (some .boolean)) (a1 : Int32) (w : eW) (x : Int32 × eW) (h : f_fi_isClass a1 w = some x) : eGq p l e { frames := 0, cells := 0, slots := 0, locals := 0 } s m args below meth c 2 ad D cA vwCl SHc rZ x 0 (eEnt [.ref 8, .int a1]) [] w := by
  have h : eRun SHc SSc 2 rs_fi_isClass (eCs cs_fi_isClass) rZ CX4_isClass [] (fun pc L st w => none) 21 true 0 [some (.ref 8), some (.int a1)] [] w = some x := h
  refine eGo.wk (eRun_go hcx (eLnk_all lk_fi_isClass) (eHc_all hc_fi_isClass) rZ_ok dcX4_isClass [] _ (fun pc L st w hK => ?_) 21 true 0 _ _ w h) (eLe_wk ⟨rfl, rfl, trivial⟩)
  cases hK
end
set_option maxRecDepth 100000 in
set_option maxHeartbeats 4000000 in
theorem ok_fi_isClass {l : Launch} {ad : Nat → Nat} {D : va_G} {cA : Nat → ClassId} {ρ : Type} (as : List Value) (w : eW) (k : Option Value → eW → Option ρ) (x : ρ) (h : K_fi_isClass as w k = some x) : ∃ (v : Option Value) (w2 : eW), k v w2 = some x ∧ eMet l ad D cA vwCl SHc SSc yX4_isClass (eWd yX4_isClass cX4_isClass 2 (some .boolean)) { frames := 0, cells := 0, slots := 0, locals := 0 } as w v w2 := by
  unfold K_fi_isClass at h
  split at h
  · rename_i r0 a1
    obtain ⟨h1, h5⟩ := eBif h
    clear h
    have h := h5
    clear h5
    have h1 := Nat.eq_of_beq_eq_true h1
    subst h1
    obtain ⟨q, h2, h3⟩ := Option.bind_eq_some_iff.mp h
    exact ⟨_, _, h3, eMet_of (by decide +kernel) rfl (by simp [eCat, Value.category]) rZ_ret (fun p e s m args below meth c hcx => go_fi_isClass hcx a1 w q h2)⟩
  · cases h
