def CX0_keep : eCo := [[some (.aload_n 0), some (.aload_n 0), some (.getfield 15), none, none, some (.iconst 1), some (.iadd), some (.bipush 12), none, some (.irem), some (.putfield 15), none, none, some (.aload_n 0), some (.aload_n 0), some (.getfield 19)],
  [none, none, some (.iconst 1), some (.iadd), some (.bipush 12), none, some (.invokestatic 22), none, none, some (.putfield 19), none, none, some (.aload_n 0), some (.iconst 0), some (.iload_n 1), some (.invokevirtual 28)],
  [none, none, some (.aload_n 0), some (.iconst 1), some (.iload_n 2), some (.invokevirtual 28), none, none, some (.aload_n 0), some (.iconst 2), some (.iload_n 3), some (.invokevirtual 28), none, none, some (.return_)]]
theorem dcX0_keep : eDec cX0_keep CX0_keep := eDec_of (by decide +kernel)
def rs_ac_keep : List (Nat × eR) := [(15, (0, 0, 1, 0)), (19, (0, 0, 2, 0)), (22, (6, 1, 0, 0)), (28, (1, 0, 2, 0))]
noncomputable def cs_ac_keep : List (eF (eW)) := [K_ac_put]
noncomputable def f_ac_keep (a1 : Int32) (a2 : Int32) (a3 : Int32) (w : eW) : Option (eW) := ((f_ac_put (0 : Int32) a1 (eU1 (eU1 w 37 1 (((w.1 37 1) + (1 : Int32)) - ((w.1 37 1) + (1 : Int32)) / (12 : Int32) * (12 : Int32))) 37 2 (if (12 : Int32) < ((w.1 37 2) + (1 : Int32)) then (12 : Int32) else ((w.1 37 2) + (1 : Int32))))).bind fun w1 => ((f_ac_put (1 : Int32) a2 w1).bind fun w2 => ((f_ac_put (2 : Int32) a3 w2).bind fun w3 => (some w3))))
noncomputable def K_ac_keep {ρ : Type} : eF ρ := fun as w k => match as with
  | [.ref r0, .int a1, .int a2, .int a3] => bif Nat.beq r0 37 then (f_ac_keep a1 a2 a3 w).bind (fun w => k none w) else none
  | _ => none
section
variable {p : Program} {l : Launch} {e : Env} {s : State} {m : MethodId} {args : Array Value} {below : List Frame} {meth : Method} {c : Code} {ad : Nat → Nat} {D : va_G} {cA : Nat → ClassId}
theorem lk_ac_keep : ∀ q ∈ rs_ac_keep, eLnk { frames := 1, cells := 0, slots := 0, locals := 60 } vwCl (eWd yX0_keep cX0_keep 4 none) SSc SHc.length RX0 q.1 q.2 := List.forall_mem_cons.mpr ⟨lkX0_15 eTb_wd, List.forall_mem_cons.mpr ⟨lkX0_19 eTb_wd, List.forall_mem_cons.mpr ⟨lkX0_22 ⟨by decide, by decide⟩ eTb_wd, List.forall_mem_cons.mpr ⟨trivial, fun _ h => absurd h List.not_mem_nil⟩⟩⟩⟩
theorem hc_ac_keep {x : eW} : ∀ q ∈ rs_ac_keep, eHc l { frames := 1, cells := 0, slots := 0, locals := 60 } ad D cA vwCl SHc SSc (eWd yX0_keep cX0_keep 4 none) RX0 cs_ac_keep x q := List.forall_mem_cons.mpr ⟨trivial, List.forall_mem_cons.mpr ⟨trivial, List.forall_mem_cons.mpr ⟨trivial, List.forall_mem_cons.mpr ⟨(fun as w k h => let ⟨v, w2, h1, h2⟩ := ok_ac_put as w k x h; ⟨v, w2, h1, eCal_of h2 ⟨rfl, rfl⟩ hdX0_put (gvX0_28 eTb_wd)⟩), fun _ h => absurd h List.not_mem_nil⟩⟩⟩⟩
set_option maxRecDepth 100000 in
set_option maxHeartbeats 4000000 in
theorem go_ac_keep (hcx : eCx p { frames := 1, cells := 0, slots := 0, locals := 60 } s m args meth c cX0_keep RX0 4 ad D cA vwCl SHc SSc (eWd yX0_keep cX0_keep 4 none) (none)) (a1 : Int32) (a2 : Int32) (a3 : Int32) (w : eW) (x : eW) (h : f_ac_keep a1 a2 a3 w = some x) : eGq p l e { frames := 1, cells := 0, slots := 0, locals := 60 } s m args below meth c 4 ad D cA vwCl SHc rV x 0 (eEnt [.ref 37, .int a1, .int a2, .int a3]) [] w := by
  have h : eRun SHc SSc 4 rs_ac_keep (eCs cs_ac_keep) rV CX0_keep [] (fun pc L st w => none) 31 true 0 [some (.ref 37), some (.int a1), some (.int a2), some (.int a3)] [] w = some x := h
  refine eGo.wk (eRun_go hcx (eLnk_all lk_ac_keep) (eHc_all hc_ac_keep) rV_ok dcX0_keep [] _ (fun pc L st w hK => ?_) 31 true 0 _ _ w h) (eLe_wk ⟨rfl, rfl, rfl, rfl, trivial⟩)
  cases hK
end
set_option maxRecDepth 100000 in
set_option maxHeartbeats 4000000 in
theorem ok_ac_keep {l : Launch} {ad : Nat → Nat} {D : va_G} {cA : Nat → ClassId} {ρ : Type} (as : List Value) (w : eW) (k : Option Value → eW → Option ρ) (x : ρ) (h : K_ac_keep as w k = some x) : ∃ (v : Option Value) (w2 : eW), k v w2 = some x ∧ eMet l ad D cA vwCl SHc SSc yX0_keep (eWd yX0_keep cX0_keep 4 none) { frames := 1, cells := 0, slots := 0, locals := 60 } as w v w2 := by
  unfold K_ac_keep at h
  split at h
  · rename_i r0 a1 a2 a3
    obtain ⟨h1, h5⟩ := eBif h
    clear h
    have h := h5
    clear h5
    have h1 := Nat.eq_of_beq_eq_true h1
    subst h1
    obtain ⟨q, h2, h3⟩ := Option.bind_eq_some_iff.mp h
    exact ⟨_, _, h3, eMet_of (by decide +kernel) rfl (by simp [eCat, Value.category]) rV_ret (fun p e s m args below meth c hcx => go_ac_keep hcx a1 a2 a3 w q h2)⟩
  · cases h
def CX0_keepSale : eCo := [[some (.aload_n 0), some (.iconst 0), some (.iconst 0), some (.iconst 0), some (.invokevirtual 32), none, none, some (.aload_n 0), some (.iconst 3), some (.aload_n 1), some (.getfield 36), none, none, some (.ifCond .eq 7), none, none],
  [some (.iconst 1), some (.goto 4), none, none, some (.iconst 0), some (.invokevirtual 28), none, none, some (.aload_n 0), some (.iconst 4), some (.aload_n 1), some (.getfield 42), none, none, some (.invokevirtual 28), none],
  [none, some (.aload_n 0), some (.iconst 5), some (.aload_n 1), some (.getfield 45), none, none, some (.invokevirtual 28), none, none, some (.aload_n 0), some (.bipush 6), none, some (.aload_n 1), some (.getfield 48), none],
  [none, some (.invokevirtual 28), none, none, some (.aload_n 0), some (.bipush 7), none, some (.aload_n 1), some (.getfield 51), none, none, some (.invokevirtual 28), none, none, some (.return_)]]
theorem dcX0_keepSale : eDec cX0_keepSale CX0_keepSale := eDec_of (by decide +kernel)
def rs_ac_keepSale : List (Nat × eR) := [(28, (1, 1, 2, 0)), (32, (1, 0, 3, 0)), (36, (0, 8, 0, 3)), (42, (0, 8, 1, 0)), (45, (0, 8, 2, 0)), (48, (0, 8, 3, 0)), (51, (0, 8, 4, 0))]
noncomputable def cs_ac_keepSale : List (eF (eW)) := [K_ac_keep, K_ac_put]
noncomputable def f_ac_keepSale (w : eW) : Option (eW) := ((f_ac_keep (0 : Int32) (0 : Int32) (0 : Int32) w).bind fun w1 => (if (w1.1 32 0) = 0 then ((f_ac_put (3 : Int32) (0 : Int32) w1).bind fun w2 => ((f_ac_put (4 : Int32) (w2.1 32 1) w2).bind fun w3 => ((f_ac_put (5 : Int32) (w3.1 32 2) w3).bind fun w4 => ((f_ac_put (6 : Int32) (w4.1 32 3) w4).bind fun w5 => ((f_ac_put (7 : Int32) (w5.1 32 4) w5).bind fun w6 => (some w6)))))) else ((f_ac_put (3 : Int32) (1 : Int32) w1).bind fun w7 => ((f_ac_put (4 : Int32) (w7.1 32 1) w7).bind fun w8 => ((f_ac_put (5 : Int32) (w8.1 32 2) w8).bind fun w9 => ((f_ac_put (6 : Int32) (w9.1 32 3) w9).bind fun w10 => ((f_ac_put (7 : Int32) (w10.1 32 4) w10).bind fun w11 => (some w11))))))))
noncomputable def K_ac_keepSale {ρ : Type} : eF ρ := fun as w k => match as with
  | [.ref r0, .ref r1] => bif Nat.beq r0 37 then (bif Nat.beq r1 32 then (f_ac_keepSale w).bind (fun w => k none w) else none) else none
  | _ => none
section
variable {p : Program} {l : Launch} {e : Env} {s : State} {m : MethodId} {args : Array Value} {below : List Frame} {meth : Method} {c : Code} {ad : Nat → Nat} {D : va_G} {cA : Nat → ClassId}
theorem lk_ac_keepSale : ∀ q ∈ rs_ac_keepSale, eLnk { frames := 2, cells := 0, slots := 0, locals := 83 } vwCl (eWd yX0_keepSale cX0_keepSale 2 none) SSc SHc.length RX0 q.1 q.2 := List.forall_mem_cons.mpr ⟨trivial, List.forall_mem_cons.mpr ⟨trivial, List.forall_mem_cons.mpr ⟨lkX0_36 eTb_wd, List.forall_mem_cons.mpr ⟨lkX0_42 eTb_wd, List.forall_mem_cons.mpr ⟨lkX0_45 eTb_wd, List.forall_mem_cons.mpr ⟨lkX0_48 eTb_wd, List.forall_mem_cons.mpr ⟨lkX0_51 eTb_wd, fun _ h => absurd h List.not_mem_nil⟩⟩⟩⟩⟩⟩⟩
theorem hc_ac_keepSale {x : eW} : ∀ q ∈ rs_ac_keepSale, eHc l { frames := 2, cells := 0, slots := 0, locals := 83 } ad D cA vwCl SHc SSc (eWd yX0_keepSale cX0_keepSale 2 none) RX0 cs_ac_keepSale x q := List.forall_mem_cons.mpr ⟨(fun as w k h => let ⟨v, w2, h1, h2⟩ := ok_ac_put as w k x h; ⟨v, w2, h1, eCal_of h2 ⟨rfl, rfl⟩ hdX0_put (gvX0_28 eTb_wd)⟩), List.forall_mem_cons.mpr ⟨(fun as w k h => let ⟨v, w2, h1, h2⟩ := ok_ac_keep as w k x h; ⟨v, w2, h1, eCal_of h2 ⟨rfl, rfl⟩ hdX0_keep (gvX0_32 eTb_wd)⟩), List.forall_mem_cons.mpr ⟨trivial, List.forall_mem_cons.mpr ⟨trivial, List.forall_mem_cons.mpr ⟨trivial, List.forall_mem_cons.mpr ⟨trivial, List.forall_mem_cons.mpr ⟨trivial, fun _ h => absurd h List.not_mem_nil⟩⟩⟩⟩⟩⟩⟩
set_option maxRecDepth 100000 in
set_option maxHeartbeats 4000000 in
theorem go_ac_keepSale (hcx : eCx p { frames := 2, cells := 0, slots := 0, locals := 83 } s m args meth c cX0_keepSale RX0 2 ad D cA vwCl SHc SSc (eWd yX0_keepSale cX0_keepSale 2 none) (none)) (w : eW) (x : eW) (h : f_ac_keepSale w = some x) : eGq p l e { frames := 2, cells := 0, slots := 0, locals := 83 } s m args below meth c 2 ad D cA vwCl SHc rV x 0 (eEnt [.ref 37, .ref 32]) [] w := by
  have h : eRun SHc SSc 2 rs_ac_keepSale (eCs cs_ac_keepSale) rV CX0_keepSale [] (fun pc L st w => none) 36 true 0 [some (.ref 37), some (.ref 32)] [] w = some x := h
  refine eGo.wk (eRun_go hcx (eLnk_all lk_ac_keepSale) (eHc_all hc_ac_keepSale) rV_ok dcX0_keepSale [] _ (fun pc L st w hK => ?_) 36 true 0 _ _ w h) (eLe_wk ⟨rfl, rfl, trivial⟩)
  cases hK
end
set_option maxRecDepth 100000 in
set_option maxHeartbeats 4000000 in
theorem ok_ac_keepSale {l : Launch} {ad : Nat → Nat} {D : va_G} {cA : Nat → ClassId} {ρ : Type} (as : List Value) (w : eW) (k : Option Value → eW → Option ρ) (x : ρ) (h : K_ac_keepSale as w k = some x) : ∃ (v : Option Value) (w2 : eW), k v w2 = some x ∧ eMet l ad D cA vwCl SHc SSc yX0_keepSale (eWd yX0_keepSale cX0_keepSale 2 none) { frames := 2, cells := 0, slots := 0, locals := 83 } as w v w2 := by
  unfold K_ac_keepSale at h
  split at h
  · rename_i r0 r1
    obtain ⟨h1, h5⟩ := eBif h
    clear h
    have h := h5
    clear h5
    have h1 := Nat.eq_of_beq_eq_true h1
    subst h1
    obtain ⟨h1, h5⟩ := eBif h
    clear h
    have h := h5
    clear h5
    have h1 := Nat.eq_of_beq_eq_true h1
    subst h1
    obtain ⟨q, h2, h3⟩ := Option.bind_eq_some_iff.mp h
    exact ⟨_, _, h3, eMet_of (by decide +kernel) rfl (by simp [eCat, Value.category]) rV_ret (fun p e s m args below meth c hcx => go_ac_keepSale hcx w q h2)⟩
  · cases h
def CX9_closeBy : eCo := [[some (.aload_n 0), some (.iconst 1), some (.putfield 7), none, none, some (.aload_n 0), some (.iload_n 1), some (.putfield 13), none, none, some (.aload_n 0), some (.iload_n 1), some (.i2l), some (.iload_n 2), some (.i2l), some (.lmul)],
  [some (.ldc2_w 17), none, none, some (.ldiv), some (.l2i), some (.putfield 19), none, none, some (.aload_n 0), some (.iload_n 1), some (.aload_n 0), some (.getfield 19), none, none, some (.isub), some (.putfield 22)],
  [none, none, some (.aload_n 0), some (.iconst 0), some (.putfield 25), none, none, some (.return_)]]
theorem dcX9_closeBy : eDec cX9_closeBy CX9_closeBy := eDec_of (by decide +kernel)
def rs_sa_closeBy : List (Nat × eR) := [(7, (0, 8, 0, 3)), (13, (0, 8, 1, 0)), (17, (3, 0, 0, 100)), (19, (0, 8, 2, 0)), (22, (0, 8, 3, 0)), (25, (0, 8, 4, 0))]
noncomputable def cs_sa_closeBy : List (eF (eW)) := []
noncomputable def f_sa_closeBy (a1 : Int32) (a2 : Int32) (w : eW) : Option (eW) := (some (eU1 (eU1 (eU1 (eU1 (eU1 w 32 0 (1 : Int32)) 32 1 a1) 32 2 ((((((a1).toInt64) * ((a2).toInt64)) / (100 : Int64))).toInt32)) 32 3 (a1 - ((((((a1).toInt64) * ((a2).toInt64)) / (100 : Int64))).toInt32))) 32 4 (0 : Int32)))
noncomputable def K_sa_closeBy {ρ : Type} : eF ρ := fun as w k => match as with
  | [.ref r0, .int a1, .int a2] => bif Nat.beq r0 32 then (f_sa_closeBy a1 a2 w).bind (fun w => k none w) else none
  | _ => none
section
variable {p : Program} {l : Launch} {e : Env} {s : State} {m : MethodId} {args : Array Value} {below : List Frame} {meth : Method} {c : Code} {ad : Nat → Nat} {D : va_G} {cA : Nat → ClassId}
theorem lk_sa_closeBy : ∀ q ∈ rs_sa_closeBy, eLnk { frames := 0, cells := 0, slots := 0, locals := 0 } vwCl (eWd yX9_closeBy cX9_closeBy 3 none) SSc SHc.length RX9 q.1 q.2 := List.forall_mem_cons.mpr ⟨lkX9_7 eTb_wd, List.forall_mem_cons.mpr ⟨lkX9_13 eTb_wd, List.forall_mem_cons.mpr ⟨lkX9_17 eTb_wd, List.forall_mem_cons.mpr ⟨lkX9_19 eTb_wd, List.forall_mem_cons.mpr ⟨lkX9_22 eTb_wd, List.forall_mem_cons.mpr ⟨lkX9_25 eTb_wd, fun _ h => absurd h List.not_mem_nil⟩⟩⟩⟩⟩⟩
theorem hc_sa_closeBy {x : eW} : ∀ q ∈ rs_sa_closeBy, eHc l { frames := 0, cells := 0, slots := 0, locals := 0 } ad D cA vwCl SHc SSc (eWd yX9_closeBy cX9_closeBy 3 none) RX9 cs_sa_closeBy x q := List.forall_mem_cons.mpr ⟨trivial, List.forall_mem_cons.mpr ⟨trivial, List.forall_mem_cons.mpr ⟨trivial, List.forall_mem_cons.mpr ⟨trivial, List.forall_mem_cons.mpr ⟨trivial, List.forall_mem_cons.mpr ⟨trivial, fun _ h => absurd h List.not_mem_nil⟩⟩⟩⟩⟩⟩
set_option maxRecDepth 100000 in
set_option maxHeartbeats 4000000 in
theorem go_sa_closeBy (hcx : eCx p { frames := 0, cells := 0, slots := 0, locals := 0 } s m args meth c cX9_closeBy RX9 3 ad D cA vwCl SHc SSc (eWd yX9_closeBy cX9_closeBy 3 none) (none)) (a1 : Int32) (a2 : Int32) (w : eW) (x : eW) (h : f_sa_closeBy a1 a2 w = some x) : eGq p l e { frames := 0, cells := 0, slots := 0, locals := 0 } s m args below meth c 3 ad D cA vwCl SHc rV x 0 (eEnt [.ref 32, .int a1, .int a2]) [] w := by
  have h : eRun SHc SSc 3 rs_sa_closeBy (eCs cs_sa_closeBy) rV CX9_closeBy [] (fun pc L st w => none) 28 true 0 [some (.ref 32), some (.int a1), some (.int a2)] [] w = some x := h
  refine eGo.wk (eRun_go hcx (eLnk_all lk_sa_closeBy) (eHc_all hc_sa_closeBy) rV_ok dcX9_closeBy [] _ (fun pc L st w hK => ?_) 28 true 0 _ _ w h) (eLe_wk ⟨rfl, rfl, rfl, trivial⟩)
  cases hK
end
set_option maxRecDepth 100000 in
set_option maxHeartbeats 4000000 in
theorem ok_sa_closeBy {l : Launch} {ad : Nat → Nat} {D : va_G} {cA : Nat → ClassId} {ρ : Type} (as : List Value) (w : eW) (k : Option Value → eW → Option ρ) (x : ρ) (h : K_sa_closeBy as w k = some x) : ∃ (v : Option Value) (w2 : eW), k v w2 = some x ∧ eMet l ad D cA vwCl SHc SSc yX9_closeBy (eWd yX9_closeBy cX9_closeBy 3 none) { frames := 0, cells := 0, slots := 0, locals := 0 } as w v w2 := by
  unfold K_sa_closeBy at h
  split at h
  · rename_i r0 a1 a2
    obtain ⟨h1, h5⟩ := eBif h
    clear h
    have h := h5
    clear h5
    have h1 := Nat.eq_of_beq_eq_true h1
    subst h1
    obtain ⟨q, h2, h3⟩ := Option.bind_eq_some_iff.mp h
    exact ⟨_, _, h3, eMet_of (by decide +kernel) rfl (by simp [eCat, Value.category]) rV_ret (fun p e s m args below meth c hcx => go_sa_closeBy hcx a1 a2 w q h2)⟩
  · cases h
def CX11_close : eCo := [[some (.iload_n 1), some (.invokestatic 162), none, none, some (.ifCond .eq 13), none, none, some (.iload_n 2), some (.ifCond .lt 9), none, none, some (.iload_n 2), some (.bipush 100), none, some (.if_icmp .le 5), none],
  [none, some (.iconst (-1)), some (.ireturn), some (.aload_n 0), some (.getfield 70), none, none, some (.aload_n 0), some (.getfield 56), none, none, some (.invokevirtual 260), none, none, some (.aload_n 0), some (.getfield 56)],
  [none, none, some (.iload_n 1), some (.iload_n 2), some (.invokevirtual 264), none, none, some (.aload_n 0), some (.getfield 56), none, none, some (.getfield 268), none, none, some (.ireturn)]]
theorem dcX11_close : eDec cX11_close CX11_close := eDec_of (by decide +kernel)
def rs_xx_close : List (Nat × eR) := [(56, (0, 10, 6, 2)), (70, (0, 10, 8, 2)), (162, (1, 0, 1, -1)), (260, (1, 1, 1, 0)), (264, (1, 2, 2, 8)), (268, (0, 8, 3, 0))]
noncomputable def cs_xx_close : List (eF (Int32 × eW)) := [K_xx_isAmount, K_ac_keepSale, K_sa_closeBy]
noncomputable def f_xx_close (a1 : Int32) (a2 : Int32) (w : eW) : Option (Int32 × eW) := ((f_xx_isAmount a1 w).bind fun p1 => (if p1.1 = 0 then (some ((-1 : Int32), p1.2)) else (if a2 < 0 then (some ((-1 : Int32), p1.2)) else (if a2 ≤ (100 : Int32) then ((f_ac_keepSale p1.2).bind fun w2 => ((f_sa_closeBy a1 a2 w2).bind fun w3 => (some ((w3.1 32 3), w3)))) else (some ((-1 : Int32), p1.2))))))
noncomputable def K_xx_close {ρ : Type} : eF ρ := fun as w k => match as with
  | [.ref r0, .int a1, .int a2] => bif Nat.beq r0 38 then (f_xx_close a1 a2 w).bind (fun p => k (some (.int p.1)) p.2) else none
  | _ => none
section
variable {p : Program} {l : Launch} {e : Env} {s : State} {m : MethodId} {args : Array Value} {below : List Frame} {meth : Method} {c : Code} {ad : Nat → Nat} {D : va_G} {cA : Nat → ClassId}
theorem lk_xx_close : ∀ q ∈ rs_xx_close, eLnk { frames := 3, cells := 0, slots := 0, locals := 104 } vwCl (eWd yX11_close cX11_close 3 (some .int)) SSc SHc.length RX11 q.1 q.2 := List.forall_mem_cons.mpr ⟨lkX11_56 eTb_wd, List.forall_mem_cons.mpr ⟨lkX11_70 eTb_wd, List.forall_mem_cons.mpr ⟨trivial, List.forall_mem_cons.mpr ⟨trivial, List.forall_mem_cons.mpr ⟨trivial, List.forall_mem_cons.mpr ⟨lkX11_268 eTb_wd, fun _ h => absurd h List.not_mem_nil⟩⟩⟩⟩⟩⟩
theorem hc_xx_close {x : Int32 × eW} : ∀ q ∈ rs_xx_close, eHc l { frames := 3, cells := 0, slots := 0, locals := 104 } ad D cA vwCl SHc SSc (eWd yX11_close cX11_close 3 (some .int)) RX11 cs_xx_close x q := List.forall_mem_cons.mpr ⟨trivial, List.forall_mem_cons.mpr ⟨trivial, List.forall_mem_cons.mpr ⟨(fun as w k h => let ⟨v, w2, h1, h2⟩ := ok_xx_isAmount as w k x h; ⟨v, w2, h1, eCal_of h2 ⟨rfl, rfl⟩ hdX11_isAmount (gvX11_162 eTb_wd)⟩), List.forall_mem_cons.mpr ⟨(fun as w k h => let ⟨v, w2, h1, h2⟩ := ok_ac_keepSale as w k x h; ⟨v, w2, h1, eCal_of h2 ⟨rfl, rfl⟩ hdX0_keepSale (gvX11_260 eTb_wd)⟩), List.forall_mem_cons.mpr ⟨(fun as w k h => let ⟨v, w2, h1, h2⟩ := ok_sa_closeBy as w k x h; ⟨v, w2, h1, eCal_of h2 ⟨rfl, rfl⟩ hdX9_closeBy (gvX11_264 eTb_wd)⟩), List.forall_mem_cons.mpr ⟨trivial, fun _ h => absurd h List.not_mem_nil⟩⟩⟩⟩⟩⟩
set_option maxRecDepth 100000 in
set_option maxHeartbeats 4000000 in
theorem go_xx_close (hcx : eCx p { frames := 3, cells := 0, slots := 0, locals := 104 } s m args meth c cX11_close RX11 3 ad D cA vwCl SHc SSc (eWd yX11_close cX11_close 3 (some .int)) (some .int)) (a1 : Int32) (a2 : Int32) (w : eW) (x : Int32 × eW) (h : f_xx_close a1 a2 w = some x) : eGq p l e { frames := 3, cells := 0, slots := 0, locals := 104 } s m args below meth c 3 ad D cA vwCl SHc rI x 0 (eEnt [.ref 38, .int a1, .int a2]) [] w := by
  have h : eRun SHc SSc 3 rs_xx_close (eCs cs_xx_close) rI CX11_close [] (fun pc L st w => none) 24 true 0 [some (.ref 38), some (.int a1), some (.int a2)] [] w = some x := h
  refine eGo.wk (eRun_go hcx (eLnk_all lk_xx_close) (eHc_all hc_xx_close) rI_ok dcX11_close [] _ (fun pc L st w hK => ?_) 24 true 0 _ _ w h) (eLe_wk ⟨rfl, rfl, rfl, trivial⟩)
  cases hK
end
set_option maxRecDepth 100000 in
set_option maxHeartbeats 4000000 in
theorem ok_xx_close {l : Launch} {ad : Nat → Nat} {D : va_G} {cA : Nat → ClassId} {ρ : Type} (as : List Value) (w : eW) (k : Option Value → eW → Option ρ) (x : ρ) (h : K_xx_close as w k = some x) : ∃ (v : Option Value) (w2 : eW), k v w2 = some x ∧ eMet l ad D cA vwCl SHc SSc yX11_close (eWd yX11_close cX11_close 3 (some .int)) { frames := 3, cells := 0, slots := 0, locals := 104 } as w v w2 := by
  unfold K_xx_close at h
  split at h
  · rename_i r0 a1 a2
    obtain ⟨h1, h5⟩ := eBif h
    clear h
    have h := h5
    clear h5
    have h1 := Nat.eq_of_beq_eq_true h1
    subst h1
    obtain ⟨q, h2, h3⟩ := Option.bind_eq_some_iff.mp h
    exact ⟨_, _, h3, eMet_of (by decide +kernel) rfl (by simp [eCat, Value.category]) rI_ret (fun p e s m args below meth c hcx => go_xx_close hcx a1 a2 w q h2)⟩
  · cases h
def CX9_letGo : eCo := [[some (.aload_n 0), some (.dup), some (.getfield 19), none, none, some (.iload_n 1), some (.isub), some (.putfield 19), none, none, some (.iload_n 2), some (.ifCond .eq 16), none, none, some (.aload_n 0), some (.dup)],
  [some (.getfield 25), none, none, some (.iload_n 1), some (.iadd), some (.putfield 25), none, none, some (.goto 13), none, none, some (.aload_n 0), some (.dup), some (.getfield 22), none, none],
  [some (.iload_n 1), some (.iadd), some (.putfield 22), none, none, some (.return_)]]
theorem dcX9_letGo : eDec cX9_letGo CX9_letGo := eDec_of (by decide +kernel)
def rs_sa_letGo : List (Nat × eR) := [(19, (0, 8, 2, 0)), (22, (0, 8, 3, 0)), (25, (0, 8, 4, 0))]
noncomputable def cs_sa_letGo : List (eF (eW)) := []
noncomputable def f_sa_letGo (a1 : Int32) (a2 : Int32) (w : eW) : Option (eW) := (if a2 = 0 then (some (eU1 (eU1 w 32 2 ((w.1 32 2) - a1)) 32 3 ((w.1 32 3) + a1))) else (some (eU1 (eU1 w 32 2 ((w.1 32 2) - a1)) 32 4 ((w.1 32 4) + a1))))
noncomputable def K_sa_letGo {ρ : Type} : eF ρ := fun as w k => match as with
  | [.ref r0, .int a1, .int a2] => bif Nat.beq r0 32 then (f_sa_letGo a1 a2 w).bind (fun w => k none w) else none
  | _ => none
section
variable {p : Program} {l : Launch} {e : Env} {s : State} {m : MethodId} {args : Array Value} {below : List Frame} {meth : Method} {c : Code} {ad : Nat → Nat} {D : va_G} {cA : Nat → ClassId}
theorem lk_sa_letGo : ∀ q ∈ rs_sa_letGo, eLnk { frames := 0, cells := 0, slots := 0, locals := 0 } vwCl (eWd yX9_letGo cX9_letGo 3 none) SSc SHc.length RX9 q.1 q.2 := List.forall_mem_cons.mpr ⟨lkX9_19 eTb_wd, List.forall_mem_cons.mpr ⟨lkX9_22 eTb_wd, List.forall_mem_cons.mpr ⟨lkX9_25 eTb_wd, fun _ h => absurd h List.not_mem_nil⟩⟩⟩
theorem hc_sa_letGo {x : eW} : ∀ q ∈ rs_sa_letGo, eHc l { frames := 0, cells := 0, slots := 0, locals := 0 } ad D cA vwCl SHc SSc (eWd yX9_letGo cX9_letGo 3 none) RX9 cs_sa_letGo x q := List.forall_mem_cons.mpr ⟨trivial, List.forall_mem_cons.mpr ⟨trivial, List.forall_mem_cons.mpr ⟨trivial, fun _ h => absurd h List.not_mem_nil⟩⟩⟩
set_option maxRecDepth 100000 in
set_option maxHeartbeats 4000000 in
theorem go_sa_letGo (hcx : eCx p { frames := 0, cells := 0, slots := 0, locals := 0 } s m args meth c cX9_letGo RX9 3 ad D cA vwCl SHc SSc (eWd yX9_letGo cX9_letGo 3 none) (none)) (a1 : Int32) (a2 : Int32) (w : eW) (x : eW) (h : f_sa_letGo a1 a2 w = some x) : eGq p l e { frames := 0, cells := 0, slots := 0, locals := 0 } s m args below meth c 3 ad D cA vwCl SHc rV x 0 (eEnt [.ref 32, .int a1, .int a2]) [] w := by
  have h : eRun SHc SSc 3 rs_sa_letGo (eCs cs_sa_letGo) rV CX9_letGo [] (fun pc L st w => none) 18 true 0 [some (.ref 32), some (.int a1), some (.int a2)] [] w = some x := h
  refine eGo.wk (eRun_go hcx (eLnk_all lk_sa_letGo) (eHc_all hc_sa_letGo) rV_ok dcX9_letGo [] _ (fun pc L st w hK => ?_) 18 true 0 _ _ w h) (eLe_wk ⟨rfl, rfl, rfl, trivial⟩)
  cases hK
end
set_option maxRecDepth 100000 in
set_option maxHeartbeats 4000000 in
theorem ok_sa_letGo {l : Launch} {ad : Nat → Nat} {D : va_G} {cA : Nat → ClassId} {ρ : Type} (as : List Value) (w : eW) (k : Option Value → eW → Option ρ) (x : ρ) (h : K_sa_letGo as w k = some x) : ∃ (v : Option Value) (w2 : eW), k v w2 = some x ∧ eMet l ad D cA vwCl SHc SSc yX9_letGo (eWd yX9_letGo cX9_letGo 3 none) { frames := 0, cells := 0, slots := 0, locals := 0 } as w v w2 := by
  unfold K_sa_letGo at h
  split at h
  · rename_i r0 a1 a2
    obtain ⟨h1, h5⟩ := eBif h
    clear h
    have h := h5
    clear h5
    have h1 := Nat.eq_of_beq_eq_true h1
    subst h1
    obtain ⟨q, h2, h3⟩ := Option.bind_eq_some_iff.mp h
    exact ⟨_, _, h3, eMet_of (by decide +kernel) rfl (by simp [eCat, Value.category]) rV_ret (fun p e s m args below meth c hcx => go_sa_letGo hcx a1 a2 w q h2)⟩
  · cases h
