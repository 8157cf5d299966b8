def CX11_release : eCo := [[some (.aload_n 0), some (.getfield 56), none, none, some (.getfield 97), none, none, some (.ifCond .eq 19), none, none, some (.iload_n 1), some (.iconst 1), some (.if_icmp .lt 14), none, none, some (.iload_n 1)],
  [some (.aload_n 0), some (.getfield 56), none, none, some (.getfield 271), none, none, some (.if_icmp .le 5), none, none, some (.iconst (-1)), some (.ireturn), some (.aload_n 0), some (.getfield 70), none, none],
  [some (.aload_n 0), some (.getfield 56), none, none, some (.invokevirtual 260), none, none, some (.aload_n 0), some (.getfield 56), none, none, some (.iload_n 1), some (.iload_n 2), some (.invokevirtual 274), none, none],
  [some (.aload_n 0), some (.getfield 56), none, none, some (.getfield 271), none, none, some (.ireturn)]]
theorem dcX11_release : eDec cX11_release CX11_release := eDec_of (by decide +kernel)
def rs_xx_release : List (Nat × eR) := [(56, (0, 10, 6, 2)), (70, (0, 10, 8, 2)), (97, (0, 8, 0, 3)), (260, (1, 0, 1, 0)), (271, (0, 8, 2, 0)), (274, (1, 1, 2, 8))]
noncomputable def cs_xx_release : List (eF (Int32 × eW)) := [K_ac_keepSale, K_sa_letGo]
noncomputable def f_xx_release (a1 : Int32) (a2 : Int32) (w : eW) : Option (Int32 × eW) := (if (w.1 32 0) = 0 then (some ((-1 : Int32), w)) else (if a1 < (1 : Int32) then (some ((-1 : Int32), w)) else (if a1 ≤ (w.1 32 2) then ((f_ac_keepSale w).bind fun w1 => ((f_sa_letGo a1 a2 w1).bind fun w2 => (some ((w2.1 32 2), w2)))) else (some ((-1 : Int32), w)))))
noncomputable def K_xx_release {ρ : Type} : eF ρ := fun as w k => match as with
  | [.ref r0, .int a1, .int a2] => bif Nat.beq r0 38 then (f_xx_release a1 a2 w).bind (fun p => k (some (.int p.1)) p.2) else none
  | _ => none
section
variable {p : Program} {l : Launch} {e : Env} {s : State} {m : MethodId} {args : Array Value} {below : List Frame} {meth : Method} {c : Code} {ad : Nat → Nat} {D : va_G} {cA : Nat → ClassId}
theorem lk_xx_release : ∀ q ∈ rs_xx_release, eLnk { frames := 3, cells := 0, slots := 0, locals := 104 } vwCl (eWd yX11_release cX11_release 3 (some .int)) SSc SHc.length RX11 q.1 q.2 := List.forall_mem_cons.mpr ⟨lkX11_56 eTb_wd, List.forall_mem_cons.mpr ⟨lkX11_70 eTb_wd, List.forall_mem_cons.mpr ⟨lkX11_97 eTb_wd, List.forall_mem_cons.mpr ⟨trivial, List.forall_mem_cons.mpr ⟨lkX11_271 eTb_wd, List.forall_mem_cons.mpr ⟨trivial, fun _ h => absurd h List.not_mem_nil⟩⟩⟩⟩⟩⟩
theorem hc_xx_release {x : Int32 × eW} : ∀ q ∈ rs_xx_release, eHc l { frames := 3, cells := 0, slots := 0, locals := 104 } ad D cA vwCl SHc SSc (eWd yX11_release cX11_release 3 (some .int)) RX11 cs_xx_release x q := List.forall_mem_cons.mpr ⟨trivial, List.forall_mem_cons.mpr ⟨trivial, List.forall_mem_cons.mpr ⟨trivial, List.forall_mem_cons.mpr ⟨(fun as w k h => let ⟨v, w2, h1, h2⟩ := ok_ac_keepSale as w k x h; ⟨v, w2, h1, eCal_of h2 ⟨rfl, rfl⟩ hdX0_keepSale (gvX11_260 eTb_wd)⟩), List.forall_mem_cons.mpr ⟨trivial, List.forall_mem_cons.mpr ⟨(fun as w k h => let ⟨v, w2, h1, h2⟩ := ok_sa_letGo as w k x h; ⟨v, w2, h1, eCal_of h2 ⟨rfl, rfl⟩ hdX9_letGo (gvX11_274 eTb_wd)⟩), fun _ h => absurd h List.not_mem_nil⟩⟩⟩⟩⟩⟩
set_option maxRecDepth 100000 in
set_option maxHeartbeats 4000000 in
theorem go_xx_release (hcx : eCx p { frames := 3, cells := 0, slots := 0, locals := 104 } s m args meth c cX11_release RX11 3 ad D cA vwCl SHc SSc (eWd yX11_release cX11_release 3 (some .int)) (some .int)) (a1 : Int32) (a2 : Int32) (w : eW) (x : Int32 × eW) (h : f_xx_release a1 a2 w = some x) : eGq p l e { frames := 3, cells := 0, slots := 0, locals := 104 } s m args below meth c 3 ad D cA vwCl SHc rI x 0 (eEnt [.ref 38, .int a1, .int a2]) [] w := by
  have h : eRun SHc SSc 3 rs_xx_release (eCs cs_xx_release) rI CX11_release [] (fun pc L st w => none) 28 true 0 [some (.ref 38), some (.int a1), some (.int a2)] [] w = some x := h
  refine eGo.wk (eRun_go hcx (eLnk_all lk_xx_release) (eHc_all hc_xx_release) rI_ok dcX11_release [] _ (fun pc L st w hK => ?_) 28 true 0 _ _ w h) (eLe_wk ⟨rfl, rfl, rfl, trivial⟩)
  cases hK
end
set_option maxRecDepth 100000 in
set_option maxHeartbeats 4000000 in
theorem ok_xx_release {l : Launch} {ad : Nat → Nat} {D : va_G} {cA : Nat → ClassId} {ρ : Type} (as : List Value) (w : eW) (k : Option Value → eW → Option ρ) (x : ρ) (h : K_xx_release as w k = some x) : ∃ (v : Option Value) (w2 : eW), k v w2 = some x ∧ eMet l ad D cA vwCl SHc SSc yX11_release (eWd yX11_release cX11_release 3 (some .int)) { frames := 3, cells := 0, slots := 0, locals := 104 } as w v w2 := by
  unfold K_xx_release at h
  split at h
  · rename_i r0 a1 a2
    obtain ⟨h1, h5⟩ := eBif h
    clear h
    have h := h5
    clear h5
    have h1 := Nat.eq_of_beq_eq_true h1
    subst h1
    obtain ⟨q, h2, h3⟩ := Option.bind_eq_some_iff.mp h
    exact ⟨_, _, h3, eMet_of (by decide +kernel) rfl (by simp [eCat, Value.category]) rI_ret (fun p e s m args below meth c hcx => go_xx_release hcx a1 a2 w q h2)⟩
  · cases h
def CX11_saleOf : eCo := [[some (.iload_n 1), some (.bipush 10), none, some (.if_icmp .lt 33), none, none, some (.iload_n 1), some (.bipush 10), none, some (.aload_n 0), some (.getfield 28), none, none, some (.getfield 105), none, none],
  [some (.iadd), some (.if_icmp .ge 19), none, none, some (.aload_n 0), some (.iload_n 1), some (.bipush 10), none, some (.isub), some (.aload_n 0), some (.getfield 56), none, none, some (.getfield 268), none, none],
  [some (.invokevirtual 159), none, none, some (.ireturn), some (.iload_n 1), some (.bipush 100), none, some (.if_icmp .lt 56), none, none, some (.iload_n 1), some (.bipush 100), none, some (.aload_n 0), some (.getfield 28), none],
  [none, some (.getfield 105), none, none, some (.iadd), some (.if_icmp .ge 42), none, none, some (.iload_n 1), some (.bipush 100), none, some (.isub), some (.istore_n 2), some (.aload_n 0), some (.iload_n 2), some (.aload_n 0)],
  [some (.getfield 56), none, none, some (.getfield 268), none, none, some (.aload_n 0), some (.getfield 56), none, none, some (.getfield 271), none, none, some (.iadd), some (.invokevirtual 159), none],
  [none, some (.aload_n 0), some (.iload_n 2), some (.aload_n 0), some (.getfield 56), none, none, some (.getfield 268), none, none, some (.invokevirtual 159), none, none, some (.isub), some (.ireturn), some (.bipush (-2))],
  [none, some (.ireturn)]]
theorem dcX11_saleOf : eDec cX11_saleOf CX11_saleOf := eDec_of (by decide +kernel)
def rs_xx_saleOf : List (Nat × eR) := [(28, (0, 10, 2, 2)), (56, (0, 10, 6, 2)), (105, (0, 4, 0, 0)), (159, (1, 0, 2, 10)), (268, (0, 8, 3, 0)), (271, (0, 8, 2, 0))]
noncomputable def cs_xx_saleOf : List (eF (Int32 × eW)) := [K_xx_unitsFor]
noncomputable def f_xx_saleOf_J36 (a1 : Int32) (w : eW) : Option (Int32 × eW) := (if a1 < (100 : Int32) then (some ((-2 : Int32), w)) else (if ((100 : Int32) + (w.1 8 0)) ≤ a1 then (some ((-2 : Int32), w)) else ((f_xx_unitsFor (a1 - (100 : Int32)) ((w.1 32 3) + (w.1 32 2)) w).bind fun p2 => ((f_xx_unitsFor (a1 - (100 : Int32)) (p2.2.1 32 3) p2.2).bind fun p3 => (some ((p2.1 - p3.1), p3.2))))))
noncomputable def f_xx_saleOf (a1 : Int32) (w : eW) : Option (Int32 × eW) := (if a1 < (10 : Int32) then (f_xx_saleOf_J36 a1 w) else (if ((10 : Int32) + (w.1 8 0)) ≤ a1 then (f_xx_saleOf_J36 a1 w) else ((f_xx_unitsFor (a1 - (10 : Int32)) (w.1 32 3) w).bind fun p1 => (some (p1.1, p1.2)))))
noncomputable def K_xx_saleOf {ρ : Type} : eF ρ := fun as w k => match as with
  | [.ref r0, .int a1] => bif Nat.beq r0 38 then (f_xx_saleOf a1 w).bind (fun p => k (some (.int p.1)) p.2) else none
  | _ => none
section
variable {p : Program} {l : Launch} {e : Env} {s : State} {m : MethodId} {args : Array Value} {below : List Frame} {meth : Method} {c : Code} {ad : Nat → Nat} {D : va_G} {cA : Nat → ClassId}
theorem lk_xx_saleOf : ∀ q ∈ rs_xx_saleOf, eLnk { frames := 6, cells := 0, slots := 0, locals := 181 } vwCl (eWd yX11_saleOf cX11_saleOf 3 (some .int)) SSc SHc.length RX11 q.1 q.2 := List.forall_mem_cons.mpr ⟨lkX11_28 eTb_wd, List.forall_mem_cons.mpr ⟨lkX11_56 eTb_wd, List.forall_mem_cons.mpr ⟨lkX11_105 eTb_wd, List.forall_mem_cons.mpr ⟨trivial, List.forall_mem_cons.mpr ⟨lkX11_268 eTb_wd, List.forall_mem_cons.mpr ⟨lkX11_271 eTb_wd, fun _ h => absurd h List.not_mem_nil⟩⟩⟩⟩⟩⟩
theorem hc_xx_saleOf {x : Int32 × eW} : ∀ q ∈ rs_xx_saleOf, eHc l { frames := 6, cells := 0, slots := 0, locals := 181 } ad D cA vwCl SHc SSc (eWd yX11_saleOf cX11_saleOf 3 (some .int)) RX11 cs_xx_saleOf x q := List.forall_mem_cons.mpr ⟨trivial, List.forall_mem_cons.mpr ⟨trivial, List.forall_mem_cons.mpr ⟨trivial, List.forall_mem_cons.mpr ⟨(fun as w k h => let ⟨v, w2, h1, h2⟩ := ok_xx_unitsFor as w k x h; ⟨v, w2, h1, eCal_of h2 ⟨rfl, rfl⟩ hdX11_unitsFor (gvX11_159 eTb_wd)⟩), List.forall_mem_cons.mpr ⟨trivial, List.forall_mem_cons.mpr ⟨trivial, fun _ h => absurd h List.not_mem_nil⟩⟩⟩⟩⟩⟩
noncomputable def kk_xx_saleOf_36 : eK (Int32 × eW) := fun pc L st w => none
set_option maxRecDepth 100000 in
set_option maxHeartbeats 4000000 in
theorem go_xx_saleOf_J36 (hcx : eCx p { frames := 6, cells := 0, slots := 0, locals := 181 } s m args meth c cX11_saleOf RX11 3 ad D cA vwCl SHc SSc (eWd yX11_saleOf cX11_saleOf 3 (some .int)) (some .int)) {x : Int32 × eW} : ∀ (a1 : Int32) (w : eW), f_xx_saleOf_J36  a1 w = some x → eGq p l e { frames := 6, cells := 0, slots := 0, locals := 181 } s m args below meth c 3 ad D cA vwCl SHc rI x 36 [some (.ref 38), some (.int a1), none] [] w := by
  intro a1 w h
  have h : eRun SHc SSc 3 rs_xx_saleOf (eCs cs_xx_saleOf) rI CX11_saleOf [36] (kk_xx_saleOf_36 ) 34 true 36 [some (.ref 38), some (.int a1), none] [] w = some x := h
  refine eRun_go hcx (eLnk_all lk_xx_saleOf) (eHc_all hc_xx_saleOf) rI_ok dcX11_saleOf [36] _ (fun pc L st w hK => ?_) 34 true 36 _ _ w h
  unfold kk_xx_saleOf_36 at hK
  cases hK
set_option maxRecDepth 100000 in
set_option maxHeartbeats 4000000 in
theorem go_xx_saleOf (hcx : eCx p { frames := 6, cells := 0, slots := 0, locals := 181 } s m args meth c cX11_saleOf RX11 3 ad D cA vwCl SHc SSc (eWd yX11_saleOf cX11_saleOf 3 (some .int)) (some .int)) (a1 : Int32) (w : eW) (x : Int32 × eW) (h : f_xx_saleOf a1 w = some x) : eGq p l e { frames := 6, cells := 0, slots := 0, locals := 181 } s m args below meth c 3 ad D cA vwCl SHc rI x 0 (eEnt [.ref 38, .int a1]) [] w := by
  have h : eRun SHc SSc 3 rs_xx_saleOf (eCs cs_xx_saleOf) rI CX11_saleOf [36] (fun pc L st w => bif Nat.beq pc 36 then (lR L 0 38 ((lI L 1).bind fun a1 => sE st (f_xx_saleOf_J36 a1 w))) else none) 21 true 0 [some (.ref 38), some (.int a1), none] [] w = some x := h
  refine eGo.wk (eRun_go hcx (eLnk_all lk_xx_saleOf) (eHc_all hc_xx_saleOf) rI_ok dcX11_saleOf [36] _ (fun pc L st w hK => ?_) 21 true 0 _ _ w h) (eLe_wk ⟨rfl, rfl, trivial⟩)
  rcases eCut hK with ⟨hpc, hK⟩ | hK
  · subst hpc
    obtain ⟨e0, hK_1⟩ := lR_some hK
    obtain ⟨a1, e1, hK_2⟩ := lI_some hK_1
    obtain ⟨hst9, hK_3⟩ := sE_some hK_2
    subst hst9
    exact eGo.wk (go_xx_saleOf_J36 hcx  a1 w hK_3) (eLe_wk ⟨e0, e1, trivial⟩)
  cases hK
end
set_option maxRecDepth 100000 in
set_option maxHeartbeats 4000000 in
theorem ok_xx_saleOf {l : Launch} {ad : Nat → Nat} {D : va_G} {cA : Nat → ClassId} {ρ : Type} (as : List Value) (w : eW) (k : Option Value → eW → Option ρ) (x : ρ) (h : K_xx_saleOf as w k = some x) : ∃ (v : Option Value) (w2 : eW), k v w2 = some x ∧ eMet l ad D cA vwCl SHc SSc yX11_saleOf (eWd yX11_saleOf cX11_saleOf 3 (some .int)) { frames := 6, cells := 0, slots := 0, locals := 181 } as w v w2 := by
  unfold K_xx_saleOf at h
  split at h
  · rename_i r0 a1
    obtain ⟨h1, h5⟩ := eBif h
    clear h
    have h := h5
    clear h5
    have h1 := Nat.eq_of_beq_eq_true h1
    subst h1
    obtain ⟨q, h2, h3⟩ := Option.bind_eq_some_iff.mp h
    exact ⟨_, _, h3, eMet_of (by decide +kernel) rfl (by simp [eCat, Value.category]) rI_ret (fun p e s m args below meth c hcx => go_xx_saleOf hcx a1 w q h2)⟩
  · cases h
def CX11_sale : eCo := [[some (.aload_n 0), some (.getfield 56), none, none, some (.getfield 97), none, none, some (.ifCond .ne 6), none, none, some (.bipush (-2)), none, some (.ireturn), some (.iload_n 1), some (.tableswitch 62 0 3 #[30, 38, 46, 54]), none],
  [none, none, none, none, none, none, none, none, none, none, none, none, none, none, none, none],
  [none, none, none, none, none, none, none, none, none, none, none, none, some (.aload_n 0), some (.getfield 56), none, none],
  [some (.getfield 278), none, none, some (.ireturn), some (.aload_n 0), some (.getfield 56), none, none, some (.getfield 271), none, none, some (.ireturn), some (.aload_n 0), some (.getfield 56), none, none],
  [some (.getfield 268), none, none, some (.ireturn), some (.aload_n 0), some (.getfield 56), none, none, some (.getfield 281), none, none, some (.ireturn), some (.aload_n 0), some (.iload_n 1), some (.invokevirtual 284), none],
  [none, some (.ireturn)]]
theorem dcX11_sale : eDec cX11_sale CX11_sale := eDec_of (by decide +kernel)
def rs_xx_sale : List (Nat × eR) := [(56, (0, 10, 6, 2)), (97, (0, 8, 0, 3)), (268, (0, 8, 3, 0)), (271, (0, 8, 2, 0)), (278, (0, 8, 1, 0)), (281, (0, 8, 4, 0)), (284, (1, 0, 1, 10))]
noncomputable def cs_xx_sale : List (eF (Int32 × eW)) := [K_xx_saleOf]
noncomputable def f_xx_sale (a1 : Int32) (w : eW) : Option (Int32 × eW) := (if ¬ (w.1 32 0) = 0 then (if a1 = (0 : Int32) then (some ((w.1 32 1), w)) else (if a1 = (1 : Int32) then (some ((w.1 32 2), w)) else (if a1 = (2 : Int32) then (some ((w.1 32 3), w)) else (if a1 = (3 : Int32) then (some ((w.1 32 4), w)) else ((f_xx_saleOf a1 w).bind fun p1 => (some (p1.1, p1.2))))))) else (some ((-2 : Int32), w)))
noncomputable def K_xx_sale {ρ : Type} : eF ρ := fun as w k => match as with
  | [.ref r0, .int a1] => bif Nat.beq r0 38 then (f_xx_sale a1 w).bind (fun p => k (some (.int p.1)) p.2) else none
  | _ => none
section
variable {p : Program} {l : Launch} {e : Env} {s : State} {m : MethodId} {args : Array Value} {below : List Frame} {meth : Method} {c : Code} {ad : Nat → Nat} {D : va_G} {cA : Nat → ClassId}
theorem lk_xx_sale : ∀ q ∈ rs_xx_sale, eLnk { frames := 7, cells := 0, slots := 0, locals := 203 } vwCl (eWd yX11_sale cX11_sale 2 (some .int)) SSc SHc.length RX11 q.1 q.2 := List.forall_mem_cons.mpr ⟨lkX11_56 eTb_wd, List.forall_mem_cons.mpr ⟨lkX11_97 eTb_wd, List.forall_mem_cons.mpr ⟨lkX11_268 eTb_wd, List.forall_mem_cons.mpr ⟨lkX11_271 eTb_wd, List.forall_mem_cons.mpr ⟨lkX11_278 eTb_wd, List.forall_mem_cons.mpr ⟨lkX11_281 eTb_wd, List.forall_mem_cons.mpr ⟨trivial, fun _ h => absurd h List.not_mem_nil⟩⟩⟩⟩⟩⟩⟩
theorem hc_xx_sale {x : Int32 × eW} : ∀ q ∈ rs_xx_sale, eHc l { frames := 7, cells := 0, slots := 0, locals := 203 } ad D cA vwCl SHc SSc (eWd yX11_sale cX11_sale 2 (some .int)) RX11 cs_xx_sale x q := List.forall_mem_cons.mpr ⟨trivial, List.forall_mem_cons.mpr ⟨trivial, List.forall_mem_cons.mpr ⟨trivial, List.forall_mem_cons.mpr ⟨trivial, List.forall_mem_cons.mpr ⟨trivial, List.forall_mem_cons.mpr ⟨trivial, List.forall_mem_cons.mpr ⟨(fun as w k h => let ⟨v, w2, h1, h2⟩ := ok_xx_saleOf as w k x h; ⟨v, w2, h1, eCal_of h2 ⟨rfl, rfl⟩ hdX11_saleOf (gvX11_284 eTb_wd)⟩), fun _ h => absurd h List.not_mem_nil⟩⟩⟩⟩⟩⟩⟩
set_option maxRecDepth 100000 in
set_option maxHeartbeats 4000000 in
theorem go_xx_sale (hcx : eCx p { frames := 7, cells := 0, slots := 0, locals := 203 } s m args meth c cX11_sale RX11 2 ad D cA vwCl SHc SSc (eWd yX11_sale cX11_sale 2 (some .int)) (some .int)) (a1 : Int32) (w : eW) (x : Int32 × eW) (h : f_xx_sale a1 w = some x) : eGq p l e { frames := 7, cells := 0, slots := 0, locals := 203 } s m args below meth c 2 ad D cA vwCl SHc rI x 0 (eEnt [.ref 38, .int a1]) [] w := by
  have h : eRun SHc SSc 2 rs_xx_sale (eCs cs_xx_sale) rI CX11_sale [] (fun pc L st w => none) 12 true 0 [some (.ref 38), some (.int a1)] [] w = some x := h
  refine eGo.wk (eRun_go hcx (eLnk_all lk_xx_sale) (eHc_all hc_xx_sale) rI_ok dcX11_sale [] _ (fun pc L st w hK => ?_) 12 true 0 _ _ w h) (eLe_wk ⟨rfl, rfl, trivial⟩)
  cases hK
end
set_option maxRecDepth 100000 in
set_option maxHeartbeats 4000000 in
theorem ok_xx_sale {l : Launch} {ad : Nat → Nat} {D : va_G} {cA : Nat → ClassId} {ρ : Type} (as : List Value) (w : eW) (k : Option Value → eW → Option ρ) (x : ρ) (h : K_xx_sale as w k = some x) : ∃ (v : Option Value) (w2 : eW), k v w2 = some x ∧ eMet l ad D cA vwCl SHc SSc yX11_sale (eWd yX11_sale cX11_sale 2 (some .int)) { frames := 7, cells := 0, slots := 0, locals := 203 } as w v w2 := by
  unfold K_xx_sale at h
  split at h
  · rename_i r0 a1
    obtain ⟨h1, h5⟩ := eBif h
    clear h
    have h := h5
    clear h5
    have h1 := Nat.eq_of_beq_eq_true h1
    subst h1
    obtain ⟨q, h2, h3⟩ := Option.bind_eq_some_iff.mp h
    exact ⟨_, _, h3, eMet_of (by decide +kernel) rfl (by simp [eCat, Value.category]) rI_ret (fun p e s m args below meth c hcx => go_xx_sale hcx a1 w q h2)⟩
  · cases h
def CX6_add : eCo := [[some (.aload_n 0), some (.getfield 18), none, none, some (.bipush 8), none, some (.if_icmp .ge 33), none, none, some (.aload_n 0), some (.getfield 9), none, none, some (.aload_n 0), some (.getfield 18), none],
  [none, some (.iload_n 1), some (.iastore), some (.aload_n 0), some (.getfield 15), none, none, some (.aload_n 0), some (.getfield 18), none, none, some (.iload_n 2), some (.iastore), some (.aload_n 0), some (.dup), some (.getfield 18)],
  [none, none, some (.iconst 1), some (.iadd), some (.putfield 18), none, none, some (.return_)]]
theorem dcX6_add : eDec cX6_add CX6_add := eDec_of (by decide +kernel)
def rs_gu_add : List (Nat × eR) := [(9, (0, 6, 0, 2)), (15, (0, 6, 1, 2)), (18, (0, 6, 2, 0))]
noncomputable def cs_gu_add : List (eF (eW)) := []
noncomputable def f_gu_add (a1 : Int32) (a2 : Int32) (w : eW) : Option (eW) := (if (8 : Int32) ≤ (w.1 35 2) then (some w) else (eChk (w.1 35 2) 8 (eChk (w.1 35 2) 8 (some (eU1 (eU1 (eU1 w 33 (Int32.toNatClampNeg (w.1 35 2)) a1) 34 (Int32.toNatClampNeg (w.1 35 2)) a2) 35 2 ((w.1 35 2) + (1 : Int32)))))))
noncomputable def K_gu_add {ρ : Type} : eF ρ := fun as w k => match as with
  | [.ref r0, .int a1, .int a2] => bif Nat.beq r0 35 then (f_gu_add a1 a2 w).bind (fun w => k none w) else none
  | _ => none
section
variable {p : Program} {l : Launch} {e : Env} {s : State} {m : MethodId} {args : Array Value} {below : List Frame} {meth : Method} {c : Code} {ad : Nat → Nat} {D : va_G} {cA : Nat → ClassId}
theorem lk_gu_add : ∀ q ∈ rs_gu_add, eLnk { frames := 0, cells := 0, slots := 0, locals := 0 } vwCl (eWd yX6_add cX6_add 3 none) SSc SHc.length RX6 q.1 q.2 := List.forall_mem_cons.mpr ⟨lkX6_9 eTb_wd, List.forall_mem_cons.mpr ⟨lkX6_15 eTb_wd, List.forall_mem_cons.mpr ⟨lkX6_18 eTb_wd, fun _ h => absurd h List.not_mem_nil⟩⟩⟩
theorem hc_gu_add {x : eW} : ∀ q ∈ rs_gu_add, eHc l { frames := 0, cells := 0, slots := 0, locals := 0 } ad D cA vwCl SHc SSc (eWd yX6_add cX6_add 3 none) RX6 cs_gu_add x q := List.forall_mem_cons.mpr ⟨trivial, List.forall_mem_cons.mpr ⟨trivial, List.forall_mem_cons.mpr ⟨trivial, fun _ h => absurd h List.not_mem_nil⟩⟩⟩
set_option maxRecDepth 100000 in
set_option maxHeartbeats 4000000 in
theorem go_gu_add (hcx : eCx p { frames := 0, cells := 0, slots := 0, locals := 0 } s m args meth c cX6_add RX6 3 ad D cA vwCl SHc SSc (eWd yX6_add cX6_add 3 none) (none)) (a1 : Int32) (a2 : Int32) (w : eW) (x : eW) (h : f_gu_add a1 a2 w = some x) : eGq p l e { frames := 0, cells := 0, slots := 0, locals := 0 } s m args below meth c 3 ad D cA vwCl SHc rV x 0 (eEnt [.ref 35, .int a1, .int a2]) [] w := by
  have h : eRun SHc SSc 3 rs_gu_add (eCs cs_gu_add) rV CX6_add [] (fun pc L st w => none) 25 true 0 [some (.ref 35), some (.int a1), some (.int a2)] [] w = some x := h
  refine eGo.wk (eRun_go hcx (eLnk_all lk_gu_add) (eHc_all hc_gu_add) rV_ok dcX6_add [] _ (fun pc L st w hK => ?_) 25 true 0 _ _ w h) (eLe_wk ⟨rfl, rfl, rfl, trivial⟩)
  cases hK
end
set_option maxRecDepth 100000 in
set_option maxHeartbeats 4000000 in
theorem ok_gu_add {l : Launch} {ad : Nat → Nat} {D : va_G} {cA : Nat → ClassId} {ρ : Type} (as : List Value) (w : eW) (k : Option Value → eW → Option ρ) (x : ρ) (h : K_gu_add as w k = some x) : ∃ (v : Option Value) (w2 : eW), k v w2 = some x ∧ eMet l ad D cA vwCl SHc SSc yX6_add (eWd yX6_add cX6_add 3 none) { frames := 0, cells := 0, slots := 0, locals := 0 } as w v w2 := by
  unfold K_gu_add at h
  split at h
  · rename_i r0 a1 a2
    obtain ⟨h1, h5⟩ := eBif h
    clear h
    have h := h5
    clear h5
    have h1 := Nat.eq_of_beq_eq_true h1
    subst h1
    obtain ⟨q, h2, h3⟩ := Option.bind_eq_some_iff.mp h
    exact ⟨_, _, h3, eMet_of (by decide +kernel) rfl (by simp [eCat, Value.category]) rV_ret (fun p e s m args below meth c hcx => go_gu_add hcx a1 a2 w q h2)⟩
  · cases h
def CX11_guess : eCo := [[some (.iload_n 1), some (.invokestatic 162), none, none, some (.ifCond .eq 27), none, none, some (.iload_n 2), some (.iconst 1), some (.if_icmp .lt 22), none, none, some (.iload_n 2), some (.sipush 1000), none, none],
  [some (.if_icmp .gt 15), none, none, some (.aload_n 0), some (.getfield 63), none, none, some (.getfield 101), none, none, some (.bipush 8), none, some (.if_icmp .lt 5), none, none, some (.iconst (-1))],
  [some (.ireturn), some (.aload_n 0), some (.getfield 70), none, none, some (.iconst 1), some (.iconst 0), some (.iconst 0), some (.invokevirtual 287), none, none, some (.aload_n 0), some (.getfield 63), none, none, some (.iload_n 1)],
  [some (.iload_n 2), some (.invokevirtual 290), none, none, some (.aload_n 0), some (.getfield 63), none, none, some (.getfield 101), none, none, some (.ireturn)]]
theorem dcX11_guess : eDec cX11_guess CX11_guess := eDec_of (by decide +kernel)
def rs_xx_guess : List (Nat × eR) := [(63, (0, 10, 7, 2)), (70, (0, 10, 8, 2)), (101, (0, 6, 2, 0)), (162, (1, 0, 1, -1)), (287, (1, 1, 3, 0)), (290, (1, 2, 2, 6))]
noncomputable def cs_xx_guess : List (eF (Int32 × eW)) := [K_xx_isAmount, K_ac_keep, K_gu_add]
noncomputable def f_xx_guess (a1 : Int32) (a2 : Int32) (w : eW) : Option (Int32 × eW) := ((f_xx_isAmount a1 w).bind fun p1 => (if p1.1 = 0 then (some ((-1 : Int32), p1.2)) else (if a2 < (1 : Int32) then (some ((-1 : Int32), p1.2)) else (if (1000 : Int32) < a2 then (some ((-1 : Int32), p1.2)) else (if (p1.2.1 35 2) < (8 : Int32) then ((f_ac_keep (1 : Int32) (0 : Int32) (0 : Int32) p1.2).bind fun w2 => ((f_gu_add a1 a2 w2).bind fun w3 => (some ((w3.1 35 2), w3)))) else (some ((-1 : Int32), p1.2)))))))
noncomputable def K_xx_guess {ρ : Type} : eF ρ := fun as w k => match as with
  | [.ref r0, .int a1, .int a2] => bif Nat.beq r0 38 then (f_xx_guess a1 a2 w).bind (fun p => k (some (.int p.1)) p.2) else none
  | _ => none
section
variable {p : Program} {l : Launch} {e : Env} {s : State} {m : MethodId} {args : Array Value} {below : List Frame} {meth : Method} {c : Code} {ad : Nat → Nat} {D : va_G} {cA : Nat → ClassId}
theorem lk_xx_guess : ∀ q ∈ rs_xx_guess, eLnk { frames := 2, cells := 0, slots := 0, locals := 83 } vwCl (eWd yX11_guess cX11_guess 3 (some .int)) SSc SHc.length RX11 q.1 q.2 := List.forall_mem_cons.mpr ⟨lkX11_63 eTb_wd, List.forall_mem_cons.mpr ⟨lkX11_70 eTb_wd, List.forall_mem_cons.mpr ⟨lkX11_101 eTb_wd, List.forall_mem_cons.mpr ⟨trivial, List.forall_mem_cons.mpr ⟨trivial, List.forall_mem_cons.mpr ⟨trivial, fun _ h => absurd h List.not_mem_nil⟩⟩⟩⟩⟩⟩
theorem hc_xx_guess {x : Int32 × eW} : ∀ q ∈ rs_xx_guess, eHc l { frames := 2, cells := 0, slots := 0, locals := 83 } ad D cA vwCl SHc SSc (eWd yX11_guess cX11_guess 3 (some .int)) RX11 cs_xx_guess x q := List.forall_mem_cons.mpr ⟨trivial, List.forall_mem_cons.mpr ⟨trivial, List.forall_mem_cons.mpr ⟨trivial, List.forall_mem_cons.mpr ⟨(fun as w k h => let ⟨v, w2, h1, h2⟩ := ok_xx_isAmount as w k x h; ⟨v, w2, h1, eCal_of h2 ⟨rfl, rfl⟩ hdX11_isAmount (gvX11_162 eTb_wd)⟩), List.forall_mem_cons.mpr ⟨(fun as w k h => let ⟨v, w2, h1, h2⟩ := ok_ac_keep as w k x h; ⟨v, w2, h1, eCal_of h2 ⟨rfl, rfl⟩ hdX0_keep (gvX11_287 eTb_wd)⟩), List.forall_mem_cons.mpr ⟨(fun as w k h => let ⟨v, w2, h1, h2⟩ := ok_gu_add as w k x h; ⟨v, w2, h1, eCal_of h2 ⟨rfl, rfl⟩ hdX6_add (gvX11_290 eTb_wd)⟩), fun _ h => absurd h List.not_mem_nil⟩⟩⟩⟩⟩⟩
set_option maxRecDepth 100000 in
set_option maxHeartbeats 4000000 in
theorem go_xx_guess (hcx : eCx p { frames := 2, cells := 0, slots := 0, locals := 83 } s m args meth c cX11_guess RX11 3 ad D cA vwCl SHc SSc (eWd yX11_guess cX11_guess 3 (some .int)) (some .int)) (a1 : Int32) (a2 : Int32) (w : eW) (x : Int32 × eW) (h : f_xx_guess a1 a2 w = some x) : eGq p l e { frames := 2, cells := 0, slots := 0, locals := 83 } s m args below meth c 3 ad D cA vwCl SHc rI x 0 (eEnt [.ref 38, .int a1, .int a2]) [] w := by
  have h : eRun SHc SSc 3 rs_xx_guess (eCs cs_xx_guess) rI CX11_guess [] (fun pc L st w => none) 31 true 0 [some (.ref 38), some (.int a1), some (.int a2)] [] w = some x := h
  refine eGo.wk (eRun_go hcx (eLnk_all lk_xx_guess) (eHc_all hc_xx_guess) rI_ok dcX11_guess [] _ (fun pc L st w hK => ?_) 31 true 0 _ _ w h) (eLe_wk ⟨rfl, rfl, rfl, trivial⟩)
  cases hK
end
set_option maxRecDepth 100000 in
set_option maxHeartbeats 4000000 in
theorem ok_xx_guess {l : Launch} {ad : Nat → Nat} {D : va_G} {cA : Nat → ClassId} {ρ : Type} (as : List Value) (w : eW) (k : Option Value → eW → Option ρ) (x : ρ) (h : K_xx_guess as w k = some x) : ∃ (v : Option Value) (w2 : eW), k v w2 = some x ∧ eMet l ad D cA vwCl SHc SSc yX11_guess (eWd yX11_guess cX11_guess 3 (some .int)) { frames := 2, cells := 0, slots := 0, locals := 83 } as w v w2 := by
  unfold K_xx_guess at h
  split at h
  · rename_i r0 a1 a2
    obtain ⟨h1, h5⟩ := eBif h
    clear h
    have h := h5
    clear h5
    have h1 := Nat.eq_of_beq_eq_true h1
    subst h1
    obtain ⟨q, h2, h3⟩ := Option.bind_eq_some_iff.mp h
    exact ⟨_, _, h3, eMet_of (by decide +kernel) rfl (by simp [eCat, Value.category]) rI_ret (fun p e s m args below meth c hcx => go_xx_guess hcx a1 a2 w q h2)⟩
  · cases h
