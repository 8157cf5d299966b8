def CX11_waive : eCo := [[some (.aload_n 0), some (.getfield 28), none, none, some (.iload_n 1), some (.invokevirtual 192), none, none, some (.ifCond .eq 15), none, none, some (.aload_n 0), some (.getfield 28), none, none, some (.iload_n 1)],
  [some (.invokevirtual 323), none, none, some (.iload_n 2), some (.if_icmp .ne 5), none, none, some (.iconst 0), some (.ireturn), some (.aload_n 0), some (.getfield 70), none, none, some (.iconst 3), some (.iload_n 1), some (.aload_n 0)],
  [some (.getfield 28), none, none, some (.getfield 115), none, none, some (.invokevirtual 287), none, none, some (.aload_n 0), some (.getfield 28), none, none, some (.dup), some (.getfield 115), none],
  [none, some (.iconst 1), some (.iload_n 1), some (.ishl), some (.ixor), some (.putfield 115), none, none, some (.iconst 1), some (.ireturn)]]
theorem dcX11_waive : eDec cX11_waive CX11_waive := eDec_of (by decide +kernel)
def rs_xx_waive : List (Nat × eR) := [(28, (0, 10, 2, 2)), (70, (0, 10, 8, 2)), (115, (0, 4, 2, 0)), (192, (1, 0, 1, 4)), (287, (1, 2, 3, 0)), (323, (1, 1, 1, 4))]
noncomputable def cs_xx_waive : List (eF (Int32 × eW)) := [K_fi_isClass, K_fi_isWaived, K_ac_keep]
noncomputable def f_xx_waive (a1 : Int32) (a2 : Int32) (w : eW) : Option (Int32 × eW) := ((f_fi_isClass a1 w).bind fun p1 => (if p1.1 = 0 then (some ((0 : Int32), p1.2)) else ((f_fi_isWaived a1 p1.2).bind fun p2 => (if ¬ p2.1 = a2 then ((f_ac_keep (3 : Int32) a1 (p2.2.1 8 2) p2.2).bind fun w3 => (some ((1 : Int32), (eU1 w3 8 2 ((w3.1 8 2) ^^^ ((1 : Int32) <<< (a1 &&& 31))))))) else (some ((0 : Int32), p2.2))))))
noncomputable def K_xx_waive {ρ : Type} : eF ρ := fun as w k => match as with
  | [.ref r0, .int a1, .int a2] => bif Nat.beq r0 38 then (f_xx_waive a1 a2 w).bind (fun p => k (some (.int p.1)) p.2) else none
  | _ => none
section
variable {p : Program} {l : Launch} {e : Env} {s : State} {m : MethodId} {args : Array Value} {below : List Frame} {meth : Method} {c : Code} {ad : Nat → Nat} {D : va_G} {cA : Nat → ClassId}
theorem lk_xx_waive : ∀ q ∈ rs_xx_waive, eLnk { frames := 2, cells := 0, slots := 0, locals := 83 } vwCl (eWd yX11_waive cX11_waive 3 (some .boolean)) SSc SHc.length RX11 q.1 q.2 := List.forall_mem_cons.mpr ⟨lkX11_28 eTb_wd, List.forall_mem_cons.mpr ⟨lkX11_70 eTb_wd, List.forall_mem_cons.mpr ⟨lkX11_115 eTb_wd, List.forall_mem_cons.mpr ⟨trivial, List.forall_mem_cons.mpr ⟨trivial, List.forall_mem_cons.mpr ⟨trivial, fun _ h => absurd h List.not_mem_nil⟩⟩⟩⟩⟩⟩
theorem hc_xx_waive {x : Int32 × eW} : ∀ q ∈ rs_xx_waive, eHc l { frames := 2, cells := 0, slots := 0, locals := 83 } ad D cA vwCl SHc SSc (eWd yX11_waive cX11_waive 3 (some .boolean)) RX11 cs_xx_waive x q := List.forall_mem_cons.mpr ⟨trivial, List.forall_mem_cons.mpr ⟨trivial, List.forall_mem_cons.mpr ⟨trivial, List.forall_mem_cons.mpr ⟨(fun as w k h => let ⟨v, w2, h1, h2⟩ := ok_fi_isClass as w k x h; ⟨v, w2, h1, eCal_of h2 ⟨rfl, rfl⟩ hdX4_isClass (gvX11_192 eTb_wd)⟩), List.forall_mem_cons.mpr ⟨(fun as w k h => let ⟨v, w2, h1, h2⟩ := ok_ac_keep as w k x h; ⟨v, w2, h1, eCal_of h2 ⟨rfl, rfl⟩ hdX0_keep (gvX11_287 eTb_wd)⟩), List.forall_mem_cons.mpr ⟨(fun as w k h => let ⟨v, w2, h1, h2⟩ := ok_fi_isWaived as w k x h; ⟨v, w2, h1, eCal_of h2 ⟨rfl, rfl⟩ hdX4_isWaived (gvX11_323 eTb_wd)⟩), fun _ h => absurd h List.not_mem_nil⟩⟩⟩⟩⟩⟩
set_option maxRecDepth 100000 in
set_option maxHeartbeats 4000000 in
theorem go_xx_waive (hcx : eCx p { frames := 2, cells := 0, slots := 0, locals := 83 } s m args meth c cX11_waive RX11 3 ad D cA vwCl SHc SSc (eWd yX11_waive cX11_waive 3 (some .boolean)) (some .boolean)) (a1 : Int32) (a2 : Int32) (w : eW) (x : Int32 × eW) (h : f_xx_waive a1 a2 w = some x) : eGq p l e { frames := 2, cells := 0, slots := 0, locals := 83 } s m args below meth c 3 ad D cA vwCl SHc rZ x 0 (eEnt [.ref 38, .int a1, .int a2]) [] w := by
  have h : eRun SHc SSc 3 rs_xx_waive (eCs cs_xx_waive) rZ CX11_waive [] (fun pc L st w => none) 32 true 0 [some (.ref 38), some (.int a1), some (.int a2)] [] w = some x := h
  refine eGo.wk (eRun_go hcx (eLnk_all lk_xx_waive) (eHc_all hc_xx_waive) rZ_ok dcX11_waive [] _ (fun pc L st w hK => ?_) 32 true 0 _ _ w h) (eLe_wk ⟨rfl, rfl, rfl, trivial⟩)
  cases hK
end
set_option maxRecDepth 100000 in
set_option maxHeartbeats 4000000 in
theorem ok_xx_waive {l : Launch} {ad : Nat → Nat} {D : va_G} {cA : Nat → ClassId} {ρ : Type} (as : List Value) (w : eW) (k : Option Value → eW → Option ρ) (x : ρ) (h : K_xx_waive as w k = some x) : ∃ (v : Option Value) (w2 : eW), k v w2 = some x ∧ eMet l ad D cA vwCl SHc SSc yX11_waive (eWd yX11_waive cX11_waive 3 (some .boolean)) { frames := 2, cells := 0, slots := 0, locals := 83 } as w v w2 := by
  unfold K_xx_waive at h
  split at h
  · rename_i r0 a1 a2
    obtain ⟨h1, h5⟩ := eBif h
    clear h
    have h := h5
    clear h5
    have h1 := Nat.eq_of_beq_eq_true h1
    subst h1
    obtain ⟨q, h2, h3⟩ := Option.bind_eq_some_iff.mp h
    exact ⟨_, _, h3, eMet_of (by decide +kernel) rfl (by simp [eCat, Value.category]) rZ_ret (fun p e s m args below meth c hcx => go_xx_waive hcx a1 a2 w q h2)⟩
  · cases h
def CX11_rank : eCo := [[some (.aload_n 0), some (.getfield 28), none, none, some (.iload_n 1), some (.invokevirtual 192), none, none, some (.ifCond .eq 25), none, none, some (.iload_n 2), some (.ifCond .lt 21), none, none, some (.iload_n 2)],
  [some (.iconst 5), some (.if_icmp .gt 16), none, none, some (.aload_n 0), some (.getfield 28), none, none, some (.iload_n 1), some (.iconst 3), some (.invokevirtual 121), none, none, some (.iload_n 2), some (.if_icmp .ne 5), none],
  [none, some (.iconst (-1)), some (.ireturn), some (.aload_n 0), some (.getfield 28), none, none, some (.iload_n 1), some (.iconst 3), some (.invokevirtual 121), none, none, some (.istore_n 3), some (.aload_n 0), some (.getfield 70), none],
  [none, some (.iconst 4), some (.iload_n 1), some (.iload_n 3), some (.invokevirtual 287), none, none, some (.aload_n 0), some (.getfield 28), none, none, some (.iload_n 1), some (.iconst 3), some (.iload_n 2), some (.invokevirtual 195), none],
  [none, some (.iload_n 3), some (.ireturn)]]
theorem dcX11_rank : eDec cX11_rank CX11_rank := eDec_of (by decide +kernel)
def rs_xx_rank : List (Nat × eR) := [(28, (0, 10, 2, 2)), (70, (0, 10, 8, 2)), (121, (1, 1, 2, 4)), (192, (1, 0, 1, 4)), (195, (1, 3, 3, 4)), (287, (1, 2, 3, 0))]
noncomputable def cs_xx_rank : List (eF (Int32 × eW)) := [K_fi_isClass, K_fi_fact, K_ac_keep, K_fi_put]
noncomputable def f_xx_rank (a1 : Int32) (a2 : Int32) (w : eW) : Option (Int32 × eW) := ((f_fi_isClass a1 w).bind fun p1 => (if p1.1 = 0 then (some ((-1 : Int32), p1.2)) else (if a2 < 0 then (some ((-1 : Int32), p1.2)) else (if (5 : Int32) < a2 then (some ((-1 : Int32), p1.2)) else ((f_fi_fact a1 (3 : Int32) p1.2).bind fun p2 => (if ¬ p2.1 = a2 then ((f_fi_fact a1 (3 : Int32) p2.2).bind fun p3 => ((f_ac_keep (4 : Int32) a1 p3.1 p3.2).bind fun w4 => ((f_fi_put a1 (3 : Int32) a2 w4).bind fun w5 => (some (p3.1, w5))))) else (some ((-1 : Int32), p2.2))))))))
noncomputable def K_xx_rank {ρ : Type} : eF ρ := fun as w k => match as with
  | [.ref r0, .int a1, .int a2] => bif Nat.beq r0 38 then (f_xx_rank a1 a2 w).bind (fun p => k (some (.int p.1)) p.2) else none
  | _ => none
section
variable {p : Program} {l : Launch} {e : Env} {s : State} {m : MethodId} {args : Array Value} {below : List Frame} {meth : Method} {c : Code} {ad : Nat → Nat} {D : va_G} {cA : Nat → ClassId}
theorem lk_xx_rank : ∀ q ∈ rs_xx_rank, eLnk { frames := 2, cells := 0, slots := 0, locals := 83 } vwCl (eWd yX11_rank cX11_rank 4 (some .int)) SSc SHc.length RX11 q.1 q.2 := List.forall_mem_cons.mpr ⟨lkX11_28 eTb_wd, List.forall_mem_cons.mpr ⟨lkX11_70 eTb_wd, List.forall_mem_cons.mpr ⟨trivial, List.forall_mem_cons.mpr ⟨trivial, List.forall_mem_cons.mpr ⟨trivial, List.forall_mem_cons.mpr ⟨trivial, fun _ h => absurd h List.not_mem_nil⟩⟩⟩⟩⟩⟩
theorem hc_xx_rank {x : Int32 × eW} : ∀ q ∈ rs_xx_rank, eHc l { frames := 2, cells := 0, slots := 0, locals := 83 } ad D cA vwCl SHc SSc (eWd yX11_rank cX11_rank 4 (some .int)) RX11 cs_xx_rank x q := List.forall_mem_cons.mpr ⟨trivial, List.forall_mem_cons.mpr ⟨trivial, List.forall_mem_cons.mpr ⟨(fun as w k h => let ⟨v, w2, h1, h2⟩ := ok_fi_fact as w k x h; ⟨v, w2, h1, eCal_of h2 ⟨rfl, rfl⟩ hdX4_fact (gvX11_121 eTb_wd)⟩), List.forall_mem_cons.mpr ⟨(fun as w k h => let ⟨v, w2, h1, h2⟩ := ok_fi_isClass as w k x h; ⟨v, w2, h1, eCal_of h2 ⟨rfl, rfl⟩ hdX4_isClass (gvX11_192 eTb_wd)⟩), List.forall_mem_cons.mpr ⟨(fun as w k h => let ⟨v, w2, h1, h2⟩ := ok_fi_put as w k x h; ⟨v, w2, h1, eCal_of h2 ⟨rfl, rfl⟩ hdX4_put (gvX11_195 eTb_wd)⟩), List.forall_mem_cons.mpr ⟨(fun as w k h => let ⟨v, w2, h1, h2⟩ := ok_ac_keep as w k x h; ⟨v, w2, h1, eCal_of h2 ⟨rfl, rfl⟩ hdX0_keep (gvX11_287 eTb_wd)⟩), fun _ h => absurd h List.not_mem_nil⟩⟩⟩⟩⟩⟩
set_option maxRecDepth 100000 in
set_option maxHeartbeats 4000000 in
theorem go_xx_rank (hcx : eCx p { frames := 2, cells := 0, slots := 0, locals := 83 } s m args meth c cX11_rank RX11 4 ad D cA vwCl SHc SSc (eWd yX11_rank cX11_rank 4 (some .int)) (some .int)) (a1 : Int32) (a2 : Int32) (w : eW) (x : Int32 × eW) (h : f_xx_rank a1 a2 w = some x) : eGq p l e { frames := 2, cells := 0, slots := 0, locals := 83 } s m args below meth c 4 ad D cA vwCl SHc rI x 0 (eEnt [.ref 38, .int a1, .int a2]) [] w := by
  have h : eRun SHc SSc 4 rs_xx_rank (eCs cs_xx_rank) rI CX11_rank [] (fun pc L st w => none) 39 true 0 [some (.ref 38), some (.int a1), some (.int a2), none] [] w = some x := h
  refine eGo.wk (eRun_go hcx (eLnk_all lk_xx_rank) (eHc_all hc_xx_rank) rI_ok dcX11_rank [] _ (fun pc L st w hK => ?_) 39 true 0 _ _ w h) (eLe_wk ⟨rfl, rfl, rfl, trivial⟩)
  cases hK
end
set_option maxRecDepth 100000 in
set_option maxHeartbeats 4000000 in
theorem ok_xx_rank {l : Launch} {ad : Nat → Nat} {D : va_G} {cA : Nat → ClassId} {ρ : Type} (as : List Value) (w : eW) (k : Option Value → eW → Option ρ) (x : ρ) (h : K_xx_rank as w k = some x) : ∃ (v : Option Value) (w2 : eW), k v w2 = some x ∧ eMet l ad D cA vwCl SHc SSc yX11_rank (eWd yX11_rank cX11_rank 4 (some .int)) { frames := 2, cells := 0, slots := 0, locals := 83 } as w v w2 := by
  unfold K_xx_rank at h
  split at h
  · rename_i r0 a1 a2
    obtain ⟨h1, h5⟩ := eBif h
    clear h
    have h := h5
    clear h5
    have h1 := Nat.eq_of_beq_eq_true h1
    subst h1
    obtain ⟨q, h2, h3⟩ := Option.bind_eq_some_iff.mp h
    exact ⟨_, _, h3, eMet_of (by decide +kernel) rfl (by simp [eCat, Value.category]) rI_ret (fun p e s m args below meth c hcx => go_xx_rank hcx a1 a2 w q h2)⟩
  · cases h
def CX0_latest : eCo := [[some (.aload_n 0), some (.getfield 15), none, none, some (.bipush 8), none, some (.imul), some (.iload_n 1), some (.iadd), some (.istore_n 2), some (.iload_n 2), some (.ifCond .lt 21), none, none, some (.iload_n 2), some (.aload_n 0)],
  [some (.getfield 11), none, none, some (.arraylength), some (.if_icmp .ge 12), none, none, some (.aload_n 0), some (.getfield 11), none, none, some (.iload_n 2), some (.iaload), some (.goto 4), none, none],
  [some (.iconst 0), some (.ireturn)]]
theorem dcX0_latest : eDec cX0_latest CX0_latest := eDec_of (by decide +kernel)
def rs_ac_latest : List (Nat × eR) := [(11, (0, 0, 0, 2)), (15, (0, 0, 1, 0))]
noncomputable def cs_ac_latest : List (eF (Int32 × eW)) := []
noncomputable def f_ac_latest (a1 : Int32) (w : eW) : Option (Int32 × eW) := (if (((w.1 37 1) * (8 : Int32)) + a1) < 0 then (some ((0 : Int32), w)) else (if (96 : Int32) ≤ (((w.1 37 1) * (8 : Int32)) + a1) then (some ((0 : Int32), w)) else (eChk (((w.1 37 1) * (8 : Int32)) + a1) 96 (some ((w.1 36 (Int32.toNatClampNeg (((w.1 37 1) * (8 : Int32)) + a1))), w)))))
noncomputable def K_ac_latest {ρ : Type} : eF ρ := fun as w k => match as with
  | [.ref r0, .int a1] => bif Nat.beq r0 37 then (f_ac_latest a1 w).bind (fun p => k (some (.int p.1)) p.2) else none
  | _ => none
section
variable {p : Program} {l : Launch} {e : Env} {s : State} {m : MethodId} {args : Array Value} {below : List Frame} {meth : Method} {c : Code} {ad : Nat → Nat} {D : va_G} {cA : Nat → ClassId}
theorem lk_ac_latest : ∀ q ∈ rs_ac_latest, eLnk { frames := 0, cells := 0, slots := 0, locals := 0 } vwCl (eWd yX0_latest cX0_latest 3 (some .int)) SSc SHc.length RX0 q.1 q.2 := List.forall_mem_cons.mpr ⟨lkX0_11 eTb_wd, List.forall_mem_cons.mpr ⟨lkX0_15 eTb_wd, fun _ h => absurd h List.not_mem_nil⟩⟩
theorem hc_ac_latest {x : Int32 × eW} : ∀ q ∈ rs_ac_latest, eHc l { frames := 0, cells := 0, slots := 0, locals := 0 } ad D cA vwCl SHc SSc (eWd yX0_latest cX0_latest 3 (some .int)) RX0 cs_ac_latest x q := List.forall_mem_cons.mpr ⟨trivial, List.forall_mem_cons.mpr ⟨trivial, fun _ h => absurd h List.not_mem_nil⟩⟩
set_option maxRecDepth 100000 in
set_option maxHeartbeats 4000000 in
theorem go_ac_latest (hcx : eCx p { frames := 0, cells := 0, slots := 0, locals := 0 } s m args meth c cX0_latest RX0 3 ad D cA vwCl SHc SSc (eWd yX0_latest cX0_latest 3 (some .int)) (some .int)) (a1 : Int32) (w : eW) (x : Int32 × eW) (h : f_ac_latest a1 w = some x) : eGq p l e { frames := 0, cells := 0, slots := 0, locals := 0 } s m args below meth c 3 ad D cA vwCl SHc rI x 0 (eEnt [.ref 37, .int a1]) [] w := by
  have h : eRun SHc SSc 3 rs_ac_latest (eCs cs_ac_latest) rI CX0_latest [] (fun pc L st w => none) 22 true 0 [some (.ref 37), some (.int a1), none] [] w = some x := h
  refine eGo.wk (eRun_go hcx (eLnk_all lk_ac_latest) (eHc_all hc_ac_latest) rI_ok dcX0_latest [] _ (fun pc L st w hK => ?_) 22 true 0 _ _ w h) (eLe_wk ⟨rfl, rfl, trivial⟩)
  cases hK
end
set_option maxRecDepth 100000 in
set_option maxHeartbeats 4000000 in
theorem ok_ac_latest {l : Launch} {ad : Nat → Nat} {D : va_G} {cA : Nat → ClassId} {ρ : Type} (as : List Value) (w : eW) (k : Option Value → eW → Option ρ) (x : ρ) (h : K_ac_latest as w k = some x) : ∃ (v : Option Value) (w2 : eW), k v w2 = some x ∧ eMet l ad D cA vwCl SHc SSc yX0_latest (eWd yX0_latest cX0_latest 3 (some .int)) { frames := 0, cells := 0, slots := 0, locals := 0 } as w v w2 := by
  unfold K_ac_latest at h
  split at h
  · rename_i r0 a1
    obtain ⟨h1, h5⟩ := eBif h
    clear h
    have h := h5
    clear h5
    have h1 := Nat.eq_of_beq_eq_true h1
    subst h1
    obtain ⟨q, h2, h3⟩ := Option.bind_eq_some_iff.mp h
    exact ⟨_, _, h3, eMet_of (by decide +kernel) rfl (by simp [eCat, Value.category]) rI_ret (fun p e s m args below meth c hcx => go_ac_latest hcx a1 w q h2)⟩
  · cases h
def CX0_giveBackSale : eCo := [[some (.aload_n 1), some (.aload_n 0), some (.iconst 3), some (.invokevirtual 54), none, none, some (.iconst 1), some (.if_icmp .ne 7), none, none, some (.iconst 1), some (.goto 4), none, none, some (.iconst 0), some (.putfield 36)],
  [none, none, some (.aload_n 1), some (.aload_n 0), some (.iconst 4), some (.invokevirtual 54), none, none, some (.putfield 42), none, none, some (.aload_n 1), some (.aload_n 0), some (.iconst 5), some (.invokevirtual 54), none],
  [none, some (.putfield 45), none, none, some (.aload_n 1), some (.aload_n 0), some (.bipush 6), none, some (.invokevirtual 54), none, none, some (.putfield 48), none, none, some (.aload_n 1), some (.aload_n 0)],
  [some (.bipush 7), none, some (.invokevirtual 54), none, none, some (.putfield 51), none, none, some (.return_)]]
theorem dcX0_giveBackSale : eDec cX0_giveBackSale CX0_giveBackSale := eDec_of (by decide +kernel)
def rs_ac_giveBackSale : List (Nat × eR) := [(36, (0, 8, 0, 3)), (42, (0, 8, 1, 0)), (45, (0, 8, 2, 0)), (48, (0, 8, 3, 0)), (51, (0, 8, 4, 0)), (54, (1, 0, 1, 0))]
noncomputable def cs_ac_giveBackSale : List (eF (eW)) := [K_ac_latest]
noncomputable def f_ac_giveBackSale (w : eW) : Option (eW) := ((f_ac_latest (3 : Int32) w).bind fun p1 => (if ¬ p1.1 = (1 : Int32) then ((f_ac_latest (4 : Int32) (eU1 p1.2 32 0 (0 : Int32))).bind fun p2 => ((f_ac_latest (5 : Int32) (eU1 p2.2 32 1 p2.1)).bind fun p3 => ((f_ac_latest (6 : Int32) (eU1 p3.2 32 2 p3.1)).bind fun p4 => ((f_ac_latest (7 : Int32) (eU1 p4.2 32 3 p4.1)).bind fun p5 => (some (eU1 p5.2 32 4 p5.1)))))) else ((f_ac_latest (4 : Int32) (eU1 p1.2 32 0 (1 : Int32))).bind fun p6 => ((f_ac_latest (5 : Int32) (eU1 p6.2 32 1 p6.1)).bind fun p7 => ((f_ac_latest (6 : Int32) (eU1 p7.2 32 2 p7.1)).bind fun p8 => ((f_ac_latest (7 : Int32) (eU1 p8.2 32 3 p8.1)).bind fun p9 => (some (eU1 p9.2 32 4 p9.1))))))))
noncomputable def K_ac_giveBackSale {ρ : Type} : eF ρ := fun as w k => match as with
  | [.ref r0, .ref r1] => bif Nat.beq r0 37 then (bif Nat.beq r1 32 then (f_ac_giveBackSale w).bind (fun w => k none w) else none) else none
  | _ => none
section
variable {p : Program} {l : Launch} {e : Env} {s : State} {m : MethodId} {args : Array Value} {below : List Frame} {meth : Method} {c : Code} {ad : Nat → Nat} {D : va_G} {cA : Nat → ClassId}
theorem lk_ac_giveBackSale : ∀ q ∈ rs_ac_giveBackSale, eLnk { frames := 1, cells := 0, slots := 0, locals := 22 } vwCl (eWd yX0_giveBackSale cX0_giveBackSale 2 none) SSc SHc.length RX0 q.1 q.2 := List.forall_mem_cons.mpr ⟨lkX0_36 eTb_wd, List.forall_mem_cons.mpr ⟨lkX0_42 eTb_wd, List.forall_mem_cons.mpr ⟨lkX0_45 eTb_wd, List.forall_mem_cons.mpr ⟨lkX0_48 eTb_wd, List.forall_mem_cons.mpr ⟨lkX0_51 eTb_wd, List.forall_mem_cons.mpr ⟨trivial, fun _ h => absurd h List.not_mem_nil⟩⟩⟩⟩⟩⟩
theorem hc_ac_giveBackSale {x : eW} : ∀ q ∈ rs_ac_giveBackSale, eHc l { frames := 1, cells := 0, slots := 0, locals := 22 } ad D cA vwCl SHc SSc (eWd yX0_giveBackSale cX0_giveBackSale 2 none) RX0 cs_ac_giveBackSale x q := List.forall_mem_cons.mpr ⟨trivial, List.forall_mem_cons.mpr ⟨trivial, List.forall_mem_cons.mpr ⟨trivial, List.forall_mem_cons.mpr ⟨trivial, List.forall_mem_cons.mpr ⟨trivial, List.forall_mem_cons.mpr ⟨(fun as w k h => let ⟨v, w2, h1, h2⟩ := ok_ac_latest as w k x h; ⟨v, w2, h1, eCal_of h2 ⟨rfl, rfl⟩ hdX0_latest (gvX0_54 eTb_wd)⟩), fun _ h => absurd h List.not_mem_nil⟩⟩⟩⟩⟩⟩
set_option maxRecDepth 100000 in
set_option maxHeartbeats 4000000 in
theorem go_ac_giveBackSale (hcx : eCx p { frames := 1, cells := 0, slots := 0, locals := 22 } s m args meth c cX0_giveBackSale RX0 2 ad D cA vwCl SHc SSc (eWd yX0_giveBackSale cX0_giveBackSale 2 none) (none)) (w : eW) (x : eW) (h : f_ac_giveBackSale w = some x) : eGq p l e { frames := 1, cells := 0, slots := 0, locals := 22 } s m args below meth c 2 ad D cA vwCl SHc rV x 0 (eEnt [.ref 37, .ref 32]) [] w := by
  have h : eRun SHc SSc 2 rs_ac_giveBackSale (eCs cs_ac_giveBackSale) rV CX0_giveBackSale [] (fun pc L st w => none) 32 true 0 [some (.ref 37), some (.ref 32)] [] w = some x := h
  refine eGo.wk (eRun_go hcx (eLnk_all lk_ac_giveBackSale) (eHc_all hc_ac_giveBackSale) rV_ok dcX0_giveBackSale [] _ (fun pc L st w hK => ?_) 32 true 0 _ _ w h) (eLe_wk ⟨rfl, rfl, trivial⟩)
  cases hK
end
set_option maxRecDepth 100000 in
set_option maxHeartbeats 4000000 in
theorem ok_ac_giveBackSale {l : Launch} {ad : Nat → Nat} {D : va_G} {cA : Nat → ClassId} {ρ : Type} (as : List Value) (w : eW) (k : Option Value → eW → Option ρ) (x : ρ) (h : K_ac_giveBackSale as w k = some x) : ∃ (v : Option Value) (w2 : eW), k v w2 = some x ∧ eMet l ad D cA vwCl SHc SSc yX0_giveBackSale (eWd yX0_giveBackSale cX0_giveBackSale 2 none) { frames := 1, cells := 0, slots := 0, locals := 22 } as w v w2 := by
  unfold K_ac_giveBackSale at h
  split at h
  · rename_i r0 r1
    obtain ⟨h1, h5⟩ := eBif h
    clear h
    have h := h5
    clear h5
    have h1 := Nat.eq_of_beq_eq_true h1
    subst h1
    obtain ⟨h1, h5⟩ := eBif h
    clear h
    have h := h5
    clear h5
    have h1 := Nat.eq_of_beq_eq_true h1
    subst h1
    obtain ⟨q, h2, h3⟩ := Option.bind_eq_some_iff.mp h
    exact ⟨_, _, h3, eMet_of (by decide +kernel) rfl (by simp [eCat, Value.category]) rV_ret (fun p e s m args below meth c hcx => go_ac_giveBackSale hcx w q h2)⟩
  · cases h
def CX0_dropLatest : eCo := [[some (.aload_n 0), some (.aload_n 0), some (.getfield 15), none, none, some (.bipush 12), none, some (.iadd), some (.iconst 1), some (.isub), some (.bipush 12), none, some (.irem), some (.putfield 15), none, none],
  [some (.aload_n 0), some (.aload_n 0), some (.getfield 19), none, none, some (.iconst 1), some (.isub), some (.iconst 0), some (.invokestatic 58), none, none, some (.putfield 19), none, none, some (.return_)]]
theorem dcX0_dropLatest : eDec cX0_dropLatest CX0_dropLatest := eDec_of (by decide +kernel)
def rs_ac_dropLatest : List (Nat × eR) := [(15, (0, 0, 1, 0)), (19, (0, 0, 2, 0)), (58, (6, 0, 0, 0))]
noncomputable def cs_ac_dropLatest : List (eF (eW)) := []
noncomputable def f_ac_dropLatest (w : eW) : Option (eW) := (some (eU1 (eU1 w 37 1 ((((w.1 37 1) + (12 : Int32)) - (1 : Int32)) - (((w.1 37 1) + (12 : Int32)) - (1 : Int32)) / (12 : Int32) * (12 : Int32))) 37 2 (if ((w.1 37 2) - (1 : Int32)) < (0 : Int32) then (0 : Int32) else ((w.1 37 2) - (1 : Int32)))))
noncomputable def K_ac_dropLatest {ρ : Type} : eF ρ := fun as w k => match as with
  | [.ref r0] => bif Nat.beq r0 37 then (f_ac_dropLatest w).bind (fun w => k none w) else none
  | _ => none
section
variable {p : Program} {l : Launch} {e : Env} {s : State} {m : MethodId} {args : Array Value} {below : List Frame} {meth : Method} {c : Code} {ad : Nat → Nat} {D : va_G} {cA : Nat → ClassId}
theorem lk_ac_dropLatest : ∀ q ∈ rs_ac_dropLatest, eLnk { frames := 1, cells := 0, slots := 0, locals := 60 } vwCl (eWd yX0_dropLatest cX0_dropLatest 1 none) SSc SHc.length RX0 q.1 q.2 := List.forall_mem_cons.mpr ⟨lkX0_15 eTb_wd, List.forall_mem_cons.mpr ⟨lkX0_19 eTb_wd, List.forall_mem_cons.mpr ⟨lkX0_58 ⟨by decide, by decide⟩ eTb_wd, fun _ h => absurd h List.not_mem_nil⟩⟩⟩
theorem hc_ac_dropLatest {x : eW} : ∀ q ∈ rs_ac_dropLatest, eHc l { frames := 1, cells := 0, slots := 0, locals := 60 } ad D cA vwCl SHc SSc (eWd yX0_dropLatest cX0_dropLatest 1 none) RX0 cs_ac_dropLatest x q := List.forall_mem_cons.mpr ⟨trivial, List.forall_mem_cons.mpr ⟨trivial, List.forall_mem_cons.mpr ⟨trivial, fun _ h => absurd h List.not_mem_nil⟩⟩⟩
set_option maxRecDepth 100000 in
set_option maxHeartbeats 4000000 in
theorem go_ac_dropLatest (hcx : eCx p { frames := 1, cells := 0, slots := 0, locals := 60 } s m args meth c cX0_dropLatest RX0 1 ad D cA vwCl SHc SSc (eWd yX0_dropLatest cX0_dropLatest 1 none) (none)) (w : eW) (x : eW) (h : f_ac_dropLatest w = some x) : eGq p l e { frames := 1, cells := 0, slots := 0, locals := 60 } s m args below meth c 1 ad D cA vwCl SHc rV x 0 (eEnt [.ref 37]) [] w := by
  have h : eRun SHc SSc 1 rs_ac_dropLatest (eCs cs_ac_dropLatest) rV CX0_dropLatest [] (fun pc L st w => none) 21 true 0 [some (.ref 37)] [] w = some x := h
  refine eGo.wk (eRun_go hcx (eLnk_all lk_ac_dropLatest) (eHc_all hc_ac_dropLatest) rV_ok dcX0_dropLatest [] _ (fun pc L st w hK => ?_) 21 true 0 _ _ w h) (eLe_wk ⟨rfl, trivial⟩)
  cases hK
end
set_option maxRecDepth 100000 in
set_option maxHeartbeats 4000000 in
theorem ok_ac_dropLatest {l : Launch} {ad : Nat → Nat} {D : va_G} {cA : Nat → ClassId} {ρ : Type} (as : List Value) (w : eW) (k : Option Value → eW → Option ρ) (x : ρ) (h : K_ac_dropLatest as w k = some x) : ∃ (v : Option Value) (w2 : eW), k v w2 = some x ∧ eMet l ad D cA vwCl SHc SSc yX0_dropLatest (eWd yX0_dropLatest cX0_dropLatest 1 none) { frames := 1, cells := 0, slots := 0, locals := 60 } as w v w2 := by
  unfold K_ac_dropLatest at h
  split at h
  · rename_i r0
    obtain ⟨h1, h5⟩ := eBif h
    clear h
    have h := h5
    clear h5
    have h1 := Nat.eq_of_beq_eq_true h1
    subst h1
    obtain ⟨q, h2, h3⟩ := Option.bind_eq_some_iff.mp h
    exact ⟨_, _, h3, eMet_of (by decide +kernel) rfl (by simp [eCat, Value.category]) rV_ret (fun p e s m args below meth c hcx => go_ac_dropLatest hcx w q h2)⟩
  · cases h
