def CX12_release : eCo := [[some (.aload_n 0), some (.iconst 0), some (.putfield 95), none, none, some (.aload_n 0), some (.getfield 238), none, none, some (.ifCond .eq 15), none, none, some (.iload_n 1), some (.iconst 1), some (.aload_n 0), some (.getfield 396)],
  [none, none, some (.invokestatic 101), none, none, some (.ifCond .ne 5), none, none, some (.iconst (-1)), some (.ireturn), some (.aload_n 0), some (.invokevirtual 405), none, none, some (.aload_n 0), some (.dup)],
  [some (.getfield 396), none, none, some (.iload_n 1), some (.isub), some (.putfield 396), none, none, some (.aload_n 0), some (.dup), some (.getfield 402), none, none, some (.iload_n 2), some (.ifCond .eq 7), none],
  [none, some (.iload_n 1), some (.goto 4), none, none, some (.iconst 0), some (.iadd), some (.putfield 402), none, none, some (.aload_n 0), some (.dup), some (.getfield 399), none, none, some (.iload_n 2)],
  [some (.ifCond .eq 7), none, none, some (.iconst 0), some (.goto 4), none, none, some (.iload_n 1), some (.iadd), some (.putfield 399), none, none, some (.aload_n 0), some (.getfield 396), none, none],
  [some (.ireturn)]]
theorem dcX12_release : eDec cX12_release CX12_release := eDec_of (by decide +kernel)
def rs_mm_release : List (Nat × eR) := [(95, (0, 11, 0, 0)), (101, (1, 0, 3, -1)), (238, (0, 11, 59, 3)), (396, (0, 11, 56, 0)), (399, (0, 11, 57, 0)), (402, (0, 11, 58, 0)), (405, (1, 1, 0, 11))]
noncomputable def cs_mm_release : List (eF (Int32 × eW)) := [K_mm_in, K_mm_keep]
noncomputable def f_mm_release (a1 : Int32) (a2 : Int32) (w : eW) : Option (Int32 × eW) := (if (w.1 24 59) = 0 then (some ((-1 : Int32), (eU1 w 24 0 (0 : Int32)))) else ((f_mm_in a1 (1 : Int32) (w.1 24 56) (eU1 w 24 0 (0 : Int32))).bind fun p1 => (if ¬ p1.1 = 0 then ((f_mm_keep p1.2).bind fun w2 => (if a2 = 0 then (if a2 = 0 then (some (((w2.1 24 56) - a1), (eU1 (eU1 (eU1 w2 24 56 ((w2.1 24 56) - a1)) 24 58 ((w2.1 24 58) + (0 : Int32))) 24 57 ((w2.1 24 57) + a1)))) else (some (((w2.1 24 56) - a1), (eU1 (eU1 (eU1 w2 24 56 ((w2.1 24 56) - a1)) 24 58 ((w2.1 24 58) + (0 : Int32))) 24 57 ((w2.1 24 57) + (0 : Int32)))))) else (if a2 = 0 then (some (((w2.1 24 56) - a1), (eU1 (eU1 (eU1 w2 24 56 ((w2.1 24 56) - a1)) 24 58 ((w2.1 24 58) + a1)) 24 57 ((w2.1 24 57) + a1)))) else (some (((w2.1 24 56) - a1), (eU1 (eU1 (eU1 w2 24 56 ((w2.1 24 56) - a1)) 24 58 ((w2.1 24 58) + a1)) 24 57 ((w2.1 24 57) + (0 : Int32)))))))) else (some ((-1 : Int32), p1.2)))))
noncomputable def K_mm_release {ρ : Type} : eF ρ := fun as w k => match as with
  | [.ref r0, .int a1, .int a2] => bif Nat.beq r0 24 then (f_mm_release a1 a2 w).bind (fun p => k (some (.int p.1)) p.2) else none
  | _ => none
section
variable {p : Program} {l : Launch} {e : Env} {s : State} {m : MethodId} {args : Array Value} {below : List Frame} {meth : Method} {c : Code} {ad : Nat → Nat} {D : va_G} {cA : Nat → ClassId}
theorem lk_mm_release : ∀ q ∈ rs_mm_release, eLnk { frames := 1, cells := 0, slots := 0, locals := 22 } vwCl (eWd yX12_release cX12_release 3 (some .int)) SSm SHm.length RX12 q.1 q.2 := List.forall_mem_cons.mpr ⟨lkX12_95 eTb_wd, List.forall_mem_cons.mpr ⟨trivial, List.forall_mem_cons.mpr ⟨lkX12_238 eTb_wd, List.forall_mem_cons.mpr ⟨lkX12_396 eTb_wd, List.forall_mem_cons.mpr ⟨lkX12_399 eTb_wd, List.forall_mem_cons.mpr ⟨lkX12_402 eTb_wd, List.forall_mem_cons.mpr ⟨trivial, fun _ h => absurd h List.not_mem_nil⟩⟩⟩⟩⟩⟩⟩
theorem hc_mm_release {x : Int32 × eW} : ∀ q ∈ rs_mm_release, eHc l { frames := 1, cells := 0, slots := 0, locals := 22 } ad D cA vwCl SHm SSm (eWd yX12_release cX12_release 3 (some .int)) RX12 cs_mm_release x q := List.forall_mem_cons.mpr ⟨trivial, List.forall_mem_cons.mpr ⟨(fun as w k h => let ⟨v, w2, h1, h2⟩ := ok_mm_in as w k x h; ⟨v, w2, h1, eCal_of h2 ⟨rfl, rfl⟩ hdX12_in (gvX12_101 eTb_wd)⟩), List.forall_mem_cons.mpr ⟨trivial, List.forall_mem_cons.mpr ⟨trivial, List.forall_mem_cons.mpr ⟨trivial, List.forall_mem_cons.mpr ⟨trivial, List.forall_mem_cons.mpr ⟨(fun as w k h => let ⟨v, w2, h1, h2⟩ := ok_mm_keep as w k x h; ⟨v, w2, h1, eCal_of h2 ⟨rfl, rfl⟩ hdX12_keep (gvX12_405 eTb_wd)⟩), fun _ h => absurd h List.not_mem_nil⟩⟩⟩⟩⟩⟩⟩
set_option maxRecDepth 100000 in
set_option maxHeartbeats 4000000 in
theorem go_mm_release (hcx : eCx p { frames := 1, cells := 0, slots := 0, locals := 22 } s m args meth c cX12_release RX12 3 ad D cA vwCl SHm SSm (eWd yX12_release cX12_release 3 (some .int)) (some .int)) (a1 : Int32) (a2 : Int32) (w : eW) (x : Int32 × eW) (h : f_mm_release a1 a2 w = some x) : eGq p l e { frames := 1, cells := 0, slots := 0, locals := 22 } s m args below meth c 3 ad D cA vwCl SHm rI x 0 (eEnt [.ref 24, .int a1, .int a2]) [] w := by
  have h : eRun SHm SSm 3 rs_mm_release (eCs cs_mm_release) rI CX12_release [] (fun pc L st w => none) 43 true 0 [some (.ref 24), some (.int a1), some (.int a2)] [] w = some x := h
  refine eGo.wk (eRun_go hcx (eLnk_all lk_mm_release) (eHc_all hc_mm_release) rI_ok dcX12_release [] _ (fun pc L st w hK => ?_) 43 true 0 _ _ w h) (eLe_wk ⟨rfl, rfl, rfl, trivial⟩)
  cases hK
end
set_option maxRecDepth 100000 in
set_option maxHeartbeats 4000000 in
theorem ok_mm_release {l : Launch} {ad : Nat → Nat} {D : va_G} {cA : Nat → ClassId} {ρ : Type} (as : List Value) (w : eW) (k : Option Value → eW → Option ρ) (x : ρ) (h : K_mm_release as w k = some x) : ∃ (v : Option Value) (w2 : eW), k v w2 = some x ∧ eMet l ad D cA vwCl SHm SSm yX12_release (eWd yX12_release cX12_release 3 (some .int)) { frames := 1, cells := 0, slots := 0, locals := 22 } as w v w2 := by
  unfold K_mm_release at h
  split at h
  · rename_i r0 a1 a2
    obtain ⟨h1, h5⟩ := eBif h
    clear h
    have h := h5
    clear h5
    have h1 := Nat.eq_of_beq_eq_true h1
    subst h1
    obtain ⟨q, h2, h3⟩ := Option.bind_eq_some_iff.mp h
    exact ⟨_, _, h3, eMet_of (by decide +kernel) rfl (by simp [eCat, Value.category]) rI_ret (fun p e s m args below meth c hcx => go_mm_release hcx a1 a2 w q h2)⟩
  · cases h
def CX12_sale : eCo := [[some (.aload_n 0), some (.iconst 0), some (.putfield 95), none, none, some (.aload_n 0), some (.getfield 238), none, none, some (.ifCond .ne 6), none, none, some (.bipush (-2)), none, some (.ireturn), some (.iload_n 1)],
  [some (.bipush 10), none, some (.bipush 9), none, some (.aload_n 0), some (.getfield 98), none, none, some (.iadd), some (.invokestatic 101), none, none, some (.ifCond .eq 16), none, none, some (.aload_n 0)],
  [some (.iload_n 1), some (.bipush 10), none, some (.isub), some (.aload_n 0), some (.getfield 399), none, none, some (.invokevirtual 336), none, none, some (.ireturn), some (.iload_n 1), some (.bipush 100), none, some (.bipush 99)],
  [none, some (.aload_n 0), some (.getfield 98), none, none, some (.iadd), some (.invokestatic 101), none, none, some (.ifCond .eq 36), none, none, some (.aload_n 0), some (.iload_n 1), some (.bipush 100), none],
  [some (.isub), some (.aload_n 0), some (.getfield 399), none, none, some (.invokevirtual 336), none, none, some (.istore_n 2), some (.aload_n 0), some (.iload_n 1), some (.bipush 100), none, some (.isub), some (.aload_n 0), some (.getfield 399)],
  [none, none, some (.aload_n 0), some (.getfield 396), none, none, some (.iadd), some (.invokevirtual 336), none, none, some (.iload_n 2), some (.isub), some (.ireturn), some (.iload_n 1), some (.tableswitch 50 0 3 #[30, 35, 40, 45]), none],
  [none, none, none, none, none, none, none, none, none, none, none, none, none, none, none, none],
  [none, none, none, none, none, none, none, none, none, none, none, none, some (.aload_n 0), some (.getfield 393), none, none],
  [some (.ireturn), some (.aload_n 0), some (.getfield 396), none, none, some (.ireturn), some (.aload_n 0), some (.getfield 399), none, none, some (.ireturn), some (.aload_n 0), some (.getfield 402), none, none, some (.ireturn)],
  [some (.bipush (-2)), none, some (.ireturn)]]
theorem dcX12_sale : eDec cX12_sale CX12_sale := eDec_of (by decide +kernel)
def rs_mm_sale : List (Nat × eR) := [(95, (0, 11, 0, 0)), (98, (0, 11, 1, 0)), (101, (1, 0, 3, -1)), (238, (0, 11, 59, 3)), (336, (1, 1, 2, 11)), (393, (0, 11, 55, 0)), (396, (0, 11, 56, 0)), (399, (0, 11, 57, 0)), (402, (0, 11, 58, 0))]
noncomputable def cs_mm_sale : List (eF (Int32 × eW)) := [K_mm_in, K_mm_paidOf]
noncomputable def f_mm_sale (a1 : Int32) (w : eW) : Option (Int32 × eW) := (if ¬ (w.1 24 59) = 0 then ((f_mm_in a1 (10 : Int32) ((9 : Int32) + (w.1 24 1)) (eU1 w 24 0 (0 : Int32))).bind fun p1 => (if p1.1 = 0 then ((f_mm_in a1 (100 : Int32) ((99 : Int32) + (p1.2.1 24 1)) p1.2).bind fun p2 => (if p2.1 = 0 then (if a1 = (0 : Int32) then (some ((p2.2.1 24 55), p2.2)) else (if a1 = (1 : Int32) then (some ((p2.2.1 24 56), p2.2)) else (if a1 = (2 : Int32) then (some ((p2.2.1 24 57), p2.2)) else (if a1 = (3 : Int32) then (some ((p2.2.1 24 58), p2.2)) else (some ((-2 : Int32), p2.2)))))) else ((f_mm_paidOf (a1 - (100 : Int32)) (p2.2.1 24 57) p2.2).bind fun p3 => ((f_mm_paidOf (a1 - (100 : Int32)) ((p3.2.1 24 57) + (p3.2.1 24 56)) p3.2).bind fun p4 => (some ((p4.1 - p3.1), p4.2)))))) else ((f_mm_paidOf (a1 - (10 : Int32)) (p1.2.1 24 57) p1.2).bind fun p5 => (some (p5.1, p5.2))))) else (some ((-2 : Int32), (eU1 w 24 0 (0 : Int32)))))
noncomputable def K_mm_sale {ρ : Type} : eF ρ := fun as w k => match as with
  | [.ref r0, .int a1] => bif Nat.beq r0 24 then (f_mm_sale a1 w).bind (fun p => k (some (.int p.1)) p.2) else none
  | _ => none
section
variable {p : Program} {l : Launch} {e : Env} {s : State} {m : MethodId} {args : Array Value} {below : List Frame} {meth : Method} {c : Code} {ad : Nat → Nat} {D : va_G} {cA : Nat → ClassId}
theorem lk_mm_sale : ∀ q ∈ rs_mm_sale, eLnk { frames := 12, cells := 0, slots := 0, locals := 278 } vwCl (eWd yX12_sale cX12_sale 3 (some .int)) SSm SHm.length RX12 q.1 q.2 := List.forall_mem_cons.mpr ⟨lkX12_95 eTb_wd, List.forall_mem_cons.mpr ⟨lkX12_98 eTb_wd, List.forall_mem_cons.mpr ⟨trivial, List.forall_mem_cons.mpr ⟨lkX12_238 eTb_wd, List.forall_mem_cons.mpr ⟨trivial, List.forall_mem_cons.mpr ⟨lkX12_393 eTb_wd, List.forall_mem_cons.mpr ⟨lkX12_396 eTb_wd, List.forall_mem_cons.mpr ⟨lkX12_399 eTb_wd, List.forall_mem_cons.mpr ⟨lkX12_402 eTb_wd, fun _ h => absurd h List.not_mem_nil⟩⟩⟩⟩⟩⟩⟩⟩⟩
theorem hc_mm_sale {x : Int32 × eW} : ∀ q ∈ rs_mm_sale, eHc l { frames := 12, cells := 0, slots := 0, locals := 278 } ad D cA vwCl SHm SSm (eWd yX12_sale cX12_sale 3 (some .int)) RX12 cs_mm_sale x q := List.forall_mem_cons.mpr ⟨trivial, List.forall_mem_cons.mpr ⟨trivial, List.forall_mem_cons.mpr ⟨(fun as w k h => let ⟨v, w2, h1, h2⟩ := ok_mm_in as w k x h; ⟨v, w2, h1, eCal_of h2 ⟨rfl, rfl⟩ hdX12_in (gvX12_101 eTb_wd)⟩), List.forall_mem_cons.mpr ⟨trivial, List.forall_mem_cons.mpr ⟨(fun as w k h => let ⟨v, w2, h1, h2⟩ := ok_mm_paidOf as w k x h; ⟨v, w2, h1, eCal_of h2 ⟨rfl, rfl⟩ hdX12_paidOf (gvX12_336 eTb_wd)⟩), List.forall_mem_cons.mpr ⟨trivial, List.forall_mem_cons.mpr ⟨trivial, List.forall_mem_cons.mpr ⟨trivial, List.forall_mem_cons.mpr ⟨trivial, fun _ h => absurd h List.not_mem_nil⟩⟩⟩⟩⟩⟩⟩⟩⟩
set_option maxRecDepth 100000 in
set_option maxHeartbeats 4000000 in
theorem go_mm_sale (hcx : eCx p { frames := 12, cells := 0, slots := 0, locals := 278 } s m args meth c cX12_sale RX12 3 ad D cA vwCl SHm SSm (eWd yX12_sale cX12_sale 3 (some .int)) (some .int)) (a1 : Int32) (w : eW) (x : Int32 × eW) (h : f_mm_sale a1 w = some x) : eGq p l e { frames := 12, cells := 0, slots := 0, locals := 278 } s m args below meth c 3 ad D cA vwCl SHm rI x 0 (eEnt [.ref 24, .int a1]) [] w := by
  have h : eRun SHm SSm 3 rs_mm_sale (eCs cs_mm_sale) rI CX12_sale [] (fun pc L st w => none) 45 true 0 [some (.ref 24), some (.int a1), none] [] w = some x := h
  refine eGo.wk (eRun_go hcx (eLnk_all lk_mm_sale) (eHc_all hc_mm_sale) rI_ok dcX12_sale [] _ (fun pc L st w hK => ?_) 45 true 0 _ _ w h) (eLe_wk ⟨rfl, rfl, trivial⟩)
  cases hK
end
set_option maxRecDepth 100000 in
set_option maxHeartbeats 4000000 in
theorem ok_mm_sale {l : Launch} {ad : Nat → Nat} {D : va_G} {cA : Nat → ClassId} {ρ : Type} (as : List Value) (w : eW) (k : Option Value → eW → Option ρ) (x : ρ) (h : K_mm_sale as w k = some x) : ∃ (v : Option Value) (w2 : eW), k v w2 = some x ∧ eMet l ad D cA vwCl SHm SSm yX12_sale (eWd yX12_sale cX12_sale 3 (some .int)) { frames := 12, cells := 0, slots := 0, locals := 278 } as w v w2 := by
  unfold K_mm_sale at h
  split at h
  · rename_i r0 a1
    obtain ⟨h1, h5⟩ := eBif h
    clear h
    have h := h5
    clear h5
    have h1 := Nat.eq_of_beq_eq_true h1
    subst h1
    obtain ⟨q, h2, h3⟩ := Option.bind_eq_some_iff.mp h
    exact ⟨_, _, h3, eMet_of (by decide +kernel) rfl (by simp [eCat, Value.category]) rI_ret (fun p e s m args below meth c hcx => go_mm_sale hcx a1 w q h2)⟩
  · cases h
def CX12_guess : eCo := [[some (.aload_n 0), some (.iconst 0), some (.putfield 95), none, none, some (.iload_n 1), some (.invokestatic 318), none, none, some (.ifCond .eq 23), none, none, some (.iload_n 2), some (.iconst 1), some (.sipush 1000), none],
  [none, some (.invokestatic 101), none, none, some (.ifCond .eq 12), none, none, some (.aload_n 0), some (.getfield 235), none, none, some (.bipush 8), none, some (.if_icmp .ne 5), none, none],
  [some (.iconst (-1)), some (.ireturn), some (.aload_n 0), some (.invokevirtual 405), none, none, some (.aload_n 0), some (.getfield 89), none, none, some (.aload_n 0), some (.getfield 235), none, none, some (.iload_n 1), some (.iastore)],
  [some (.aload_n 0), some (.getfield 92), none, none, some (.aload_n 0), some (.getfield 235), none, none, some (.iload_n 2), some (.iastore), some (.aload_n 0), some (.dup), some (.getfield 235), none, none, some (.iconst 1)],
  [some (.iadd), some (.putfield 235), none, none, some (.aload_n 0), some (.getfield 235), none, none, some (.ireturn)]]
theorem dcX12_guess : eDec cX12_guess CX12_guess := eDec_of (by decide +kernel)
def rs_mm_guess : List (Nat × eR) := [(89, (0, 11, 51, 2)), (92, (0, 11, 52, 2)), (95, (0, 11, 0, 0)), (101, (1, 1, 3, -1)), (235, (0, 11, 54, 0)), (318, (1, 0, 1, -1)), (405, (1, 2, 0, 11))]
noncomputable def cs_mm_guess : List (eF (Int32 × eW)) := [K_mm_isAmount, K_mm_in, K_mm_keep]
noncomputable def f_mm_guess (a1 : Int32) (a2 : Int32) (w : eW) : Option (Int32 × eW) := ((f_mm_isAmount a1 (eU1 w 24 0 (0 : Int32))).bind fun p1 => (if p1.1 = 0 then (some ((-1 : Int32), p1.2)) else ((f_mm_in a2 (1 : Int32) (1000 : Int32) p1.2).bind fun p2 => (if p2.1 = 0 then (some ((-1 : Int32), p2.2)) else (if ¬ (p2.2.1 24 54) = (8 : Int32) then ((f_mm_keep p2.2).bind fun w3 => (eChk (w3.1 24 54) 8 (eChk (w3.1 24 54) 8 (some (((w3.1 24 54) + (1 : Int32)), (eU1 (eU1 (eU1 w3 22 (Int32.toNatClampNeg (w3.1 24 54)) a1) 23 (Int32.toNatClampNeg (w3.1 24 54)) a2) 24 54 ((w3.1 24 54) + (1 : Int32)))))))) else (some ((-1 : Int32), p2.2)))))))
noncomputable def K_mm_guess {ρ : Type} : eF ρ := fun as w k => match as with
  | [.ref r0, .int a1, .int a2] => bif Nat.beq r0 24 then (f_mm_guess a1 a2 w).bind (fun p => k (some (.int p.1)) p.2) else none
  | _ => none
section
variable {p : Program} {l : Launch} {e : Env} {s : State} {m : MethodId} {args : Array Value} {below : List Frame} {meth : Method} {c : Code} {ad : Nat → Nat} {D : va_G} {cA : Nat → ClassId}
theorem lk_mm_guess : ∀ q ∈ rs_mm_guess, eLnk { frames := 2, cells := 0, slots := 0, locals := 42 } vwCl (eWd yX12_guess cX12_guess 3 (some .int)) SSm SHm.length RX12 q.1 q.2 := List.forall_mem_cons.mpr ⟨lkX12_89 eTb_wd, List.forall_mem_cons.mpr ⟨lkX12_92 eTb_wd, List.forall_mem_cons.mpr ⟨lkX12_95 eTb_wd, List.forall_mem_cons.mpr ⟨trivial, List.forall_mem_cons.mpr ⟨lkX12_235 eTb_wd, List.forall_mem_cons.mpr ⟨trivial, List.forall_mem_cons.mpr ⟨trivial, fun _ h => absurd h List.not_mem_nil⟩⟩⟩⟩⟩⟩⟩
theorem hc_mm_guess {x : Int32 × eW} : ∀ q ∈ rs_mm_guess, eHc l { frames := 2, cells := 0, slots := 0, locals := 42 } ad D cA vwCl SHm SSm (eWd yX12_guess cX12_guess 3 (some .int)) RX12 cs_mm_guess x q := List.forall_mem_cons.mpr ⟨trivial, List.forall_mem_cons.mpr ⟨trivial, List.forall_mem_cons.mpr ⟨trivial, List.forall_mem_cons.mpr ⟨(fun as w k h => let ⟨v, w2, h1, h2⟩ := ok_mm_in as w k x h; ⟨v, w2, h1, eCal_of h2 ⟨rfl, rfl⟩ hdX12_in (gvX12_101 eTb_wd)⟩), List.forall_mem_cons.mpr ⟨trivial, List.forall_mem_cons.mpr ⟨(fun as w k h => let ⟨v, w2, h1, h2⟩ := ok_mm_isAmount as w k x h; ⟨v, w2, h1, eCal_of h2 ⟨rfl, rfl⟩ hdX12_isAmount (gvX12_318 eTb_wd)⟩), List.forall_mem_cons.mpr ⟨(fun as w k h => let ⟨v, w2, h1, h2⟩ := ok_mm_keep as w k x h; ⟨v, w2, h1, eCal_of h2 ⟨rfl, rfl⟩ hdX12_keep (gvX12_405 eTb_wd)⟩), fun _ h => absurd h List.not_mem_nil⟩⟩⟩⟩⟩⟩⟩
set_option maxRecDepth 100000 in
set_option maxHeartbeats 4000000 in
theorem go_mm_guess (hcx : eCx p { frames := 2, cells := 0, slots := 0, locals := 42 } s m args meth c cX12_guess RX12 3 ad D cA vwCl SHm SSm (eWd yX12_guess cX12_guess 3 (some .int)) (some .int)) (a1 : Int32) (a2 : Int32) (w : eW) (x : Int32 × eW) (h : f_mm_guess a1 a2 w = some x) : eGq p l e { frames := 2, cells := 0, slots := 0, locals := 42 } s m args below meth c 3 ad D cA vwCl SHm rI x 0 (eEnt [.ref 24, .int a1, .int a2]) [] w := by
  have h : eRun SHm SSm 3 rs_mm_guess (eCs cs_mm_guess) rI CX12_guess [] (fun pc L st w => none) 40 true 0 [some (.ref 24), some (.int a1), some (.int a2)] [] w = some x := h
  refine eGo.wk (eRun_go hcx (eLnk_all lk_mm_guess) (eHc_all hc_mm_guess) rI_ok dcX12_guess [] _ (fun pc L st w hK => ?_) 40 true 0 _ _ w h) (eLe_wk ⟨rfl, rfl, rfl, trivial⟩)
  cases hK
end
set_option maxRecDepth 100000 in
set_option maxHeartbeats 4000000 in
theorem ok_mm_guess {l : Launch} {ad : Nat → Nat} {D : va_G} {cA : Nat → ClassId} {ρ : Type} (as : List Value) (w : eW) (k : Option Value → eW → Option ρ) (x : ρ) (h : K_mm_guess as w k = some x) : ∃ (v : Option Value) (w2 : eW), k v w2 = some x ∧ eMet l ad D cA vwCl SHm SSm yX12_guess (eWd yX12_guess cX12_guess 3 (some .int)) { frames := 2, cells := 0, slots := 0, locals := 42 } as w v w2 := by
  unfold K_mm_guess at h
  split at h
  · rename_i r0 a1 a2
    obtain ⟨h1, h5⟩ := eBif h
    clear h
    have h := h5
    clear h5
    have h1 := Nat.eq_of_beq_eq_true h1
    subst h1
    obtain ⟨q, h2, h3⟩ := Option.bind_eq_some_iff.mp h
    exact ⟨_, _, h3, eMet_of (by decide +kernel) rfl (by simp [eCat, Value.category]) rI_ret (fun p e s m args below meth c hcx => go_mm_guess hcx a1 a2 w q h2)⟩
  · cases h
def CX12_bitsOf : eCo := [[some (.dload_n 0), some (.dconst 0), some (.dcmp .l), some (.ifCond .ne 5), none, none, some (.lconst 0), some (.lreturn), some (.dload_n 0), some (.dstore_n 2), some (.ldc2_w 408), none, none, some (.lstore 4), none, some (.dload_n 2)],
  [some (.ldc2_w 410), none, none, some (.dcmp .l), some (.ifCond .lt 18), none, none, some (.dload_n 2), some (.ldc2_w 410), none, none, some (.ddiv), some (.dstore_n 2), some (.lload 4), none, some (.lconst 1)],
  [some (.ladd), some (.lstore 4), none, some (.goto (-20)), none, none, some (.dload_n 2), some (.dconst 1), some (.dcmp .g), some (.ifCond .ge 18), none, none, some (.dload_n 2), some (.ldc2_w 410), none, none],
  [some (.dmul), some (.dstore_n 2), some (.lload 4), none, some (.lconst 1), some (.lsub), some (.lstore 4), none, some (.goto (-18)), none, none, some (.lload 4), none, some (.bipush 52), none, some (.lshl)],
  [some (.dload_n 2), some (.dconst 1), some (.dsub), some (.ldc2_w 412), none, none, some (.dmul), some (.d2l), some (.lor), some (.lreturn)]]
theorem dcX12_bitsOf : eDec cX12_bitsOf CX12_bitsOf := eDec_of (by decide +kernel)
def rs_mm_bitsOf : List (Nat × eR) := [(408, (3, 0, 0, 1023)), (410, (4, 4611686018427387904, 0, 0)), (412, (4, 4841369599423283200, 0, 0))]
noncomputable def cs_mm_bitsOf : List (eF (Int64 × eW)) := []
noncomputable def f_mm_bitsOf_L38 : Nat → UInt64 → Int64 → eW → Option (Int64 × eW)
  | 0, _, _, _ => none
  | n + 1, a2, a4, w => (if 0 ≤ (Op.cmpValue (FP.dcmp a2 FP.dconst1) CmpOp.g) then (if (FP.dsub a2 FP.dconst1) &&& 0x7fffffffffffffff ≤ 0x7ff0000000000000 then (if (FP.dmul (FP.dsub a2 FP.dconst1) (4841369599423283200 : UInt64)) &&& 0x7fffffffffffffff ≤ 0x7ff0000000000000 then (some (((a4 <<< (((52 : Int32)).toInt64 &&& 63)) ||| (FP.d2l (FP.dmul (FP.dsub a2 FP.dconst1) (4841369599423283200 : UInt64)))), w)) else none) else none) else (if (FP.dmul a2 (4611686018427387904 : UInt64)) &&& 0x7fffffffffffffff ≤ 0x7ff0000000000000 then (f_mm_bitsOf_L38 n (FP.dmul a2 (4611686018427387904 : UInt64)) (a4 - (1 : Int64)) w) else none))
noncomputable def f_mm_bitsOf_L15 : Nat → UInt64 → Int64 → eW → Option (Int64 × eW)
  | 0, _, _, _ => none
  | n + 1, a2, a4, w => (if (Op.cmpValue (FP.dcmp a2 (4611686018427387904 : UInt64)) CmpOp.l) < 0 then (f_mm_bitsOf_L38 eFu a2 a4 w) else (if (FP.ddiv a2 (4611686018427387904 : UInt64)) &&& 0x7fffffffffffffff ≤ 0x7ff0000000000000 then (f_mm_bitsOf_L15 n (FP.ddiv a2 (4611686018427387904 : UInt64)) (a4 + (1 : Int64)) w) else none))
noncomputable def f_mm_bitsOf (a0 : UInt64) (w : eW) : Option (Int64 × eW) := (if ¬ (Op.cmpValue (FP.dcmp a0 FP.dconst0) CmpOp.l) = 0 then (f_mm_bitsOf_L15 eFu a0 (1023 : Int64) w) else (some ((0 : Int64), w)))
noncomputable def K_mm_bitsOf {ρ : Type} : eF ρ := fun as w k => match as with
  | [.double a0] => (f_mm_bitsOf a0 w).bind (fun p => k (some (.long p.1)) p.2)
  | _ => none
section
variable {p : Program} {l : Launch} {e : Env} {s : State} {m : MethodId} {args : Array Value} {below : List Frame} {meth : Method} {c : Code} {ad : Nat → Nat} {D : va_G} {cA : Nat → ClassId}
theorem lk_mm_bitsOf : ∀ q ∈ rs_mm_bitsOf, eLnk { frames := 0, cells := 0, slots := 0, locals := 0 } vwCl (eWd yX12_bitsOf cX12_bitsOf 6 (some .long)) SSm SHm.length RX12 q.1 q.2 := List.forall_mem_cons.mpr ⟨lkX12_408 eTb_wd, List.forall_mem_cons.mpr ⟨lkX12_410 eTb_wd, List.forall_mem_cons.mpr ⟨lkX12_412 eTb_wd, fun _ h => absurd h List.not_mem_nil⟩⟩⟩
theorem hc_mm_bitsOf {x : Int64 × eW} : ∀ q ∈ rs_mm_bitsOf, eHc l { frames := 0, cells := 0, slots := 0, locals := 0 } ad D cA vwCl SHm SSm (eWd yX12_bitsOf cX12_bitsOf 6 (some .long)) RX12 cs_mm_bitsOf x q := List.forall_mem_cons.mpr ⟨trivial, List.forall_mem_cons.mpr ⟨trivial, List.forall_mem_cons.mpr ⟨trivial, fun _ h => absurd h List.not_mem_nil⟩⟩⟩
noncomputable def kk_mm_bitsOf_38 (n : Nat) : eK (Int64 × eW) := fun pc L st w => bif Nat.beq pc 38 then ((lD L 2).bind fun a2 => (lJ L 4).bind fun a4 => sE st (f_mm_bitsOf_L38 n a2 a4 w)) else none
set_option maxRecDepth 100000 in
set_option maxHeartbeats 4000000 in
theorem go_mm_bitsOf_L38 (hcx : eCx p { frames := 0, cells := 0, slots := 0, locals := 0 } s m args meth c cX12_bitsOf RX12 6 ad D cA vwCl SHm SSm (eWd yX12_bitsOf cX12_bitsOf 6 (some .long)) (some .long)) {x : Int64 × eW} : ∀ (n : Nat) (a2 : UInt64) (a4 : Int64) (w : eW), f_mm_bitsOf_L38  n a2 a4 w = some x → eGq p l e { frames := 0, cells := 0, slots := 0, locals := 0 } s m args below meth c 6 ad D cA vwCl SHm rJ x 38 [none, none, some (.double a2), none, some (.long a4), none] [] w := by
  intro n
  induction n with
  | zero => intro a2 a4 w h; exact nomatch (show (none : Option (Int64 × eW)) = some x from h)
  | succ n ih =>
    intro a2 a4 w h
    have h : eRun SHm SSm 6 rs_mm_bitsOf (eCs cs_mm_bitsOf) rJ CX12_bitsOf [15, 38] (kk_mm_bitsOf_38  n) 17 true 38 [none, none, some (.double a2), none, some (.long a4), none] [] w = some x := h
    refine eRun_go hcx (eLnk_all lk_mm_bitsOf) (eHc_all hc_mm_bitsOf) rJ_ok dcX12_bitsOf [15, 38] _ (fun pc L st w hK => ?_) 17 true 38 _ _ w h
    unfold kk_mm_bitsOf_38 at hK
    rcases eCut hK with ⟨hpc, hK⟩ | hK
    · subst hpc
      obtain ⟨a2, e2, hK_1⟩ := lD_some hK
      obtain ⟨a4, e4, hK_2⟩ := lJ_some hK_1
      obtain ⟨hst9, hK_3⟩ := sE_some hK_2
      subst hst9
      exact eGo.wk (ih a2 a4 w hK_3) (eLe_wk ⟨e2, e4, trivial⟩)
    cases hK
noncomputable def kk_mm_bitsOf_15 (n : Nat) : eK (Int64 × eW) := fun pc L st w => bif Nat.beq pc 38 then ((lD L 2).bind fun a2 => (lJ L 4).bind fun a4 => sE st (f_mm_bitsOf_L38 eFu a2 a4 w)) else (bif Nat.beq pc 15 then ((lD L 2).bind fun a2 => (lJ L 4).bind fun a4 => sE st (f_mm_bitsOf_L15 n a2 a4 w)) else none)
set_option maxRecDepth 100000 in
set_option maxHeartbeats 4000000 in
theorem go_mm_bitsOf_L15 (hcx : eCx p { frames := 0, cells := 0, slots := 0, locals := 0 } s m args meth c cX12_bitsOf RX12 6 ad D cA vwCl SHm SSm (eWd yX12_bitsOf cX12_bitsOf 6 (some .long)) (some .long)) {x : Int64 × eW} : ∀ (n : Nat) (a2 : UInt64) (a4 : Int64) (w : eW), f_mm_bitsOf_L15  n a2 a4 w = some x → eGq p l e { frames := 0, cells := 0, slots := 0, locals := 0 } s m args below meth c 6 ad D cA vwCl SHm rJ x 15 [none, none, some (.double a2), none, some (.long a4), none] [] w := by
  intro n
  induction n with
  | zero => intro a2 a4 w h; exact nomatch (show (none : Option (Int64 × eW)) = some x from h)
  | succ n ih =>
    intro a2 a4 w h
    have h : eRun SHm SSm 6 rs_mm_bitsOf (eCs cs_mm_bitsOf) rJ CX12_bitsOf [15, 38] (kk_mm_bitsOf_15  n) 16 true 15 [none, none, some (.double a2), none, some (.long a4), none] [] w = some x := h
    refine eRun_go hcx (eLnk_all lk_mm_bitsOf) (eHc_all hc_mm_bitsOf) rJ_ok dcX12_bitsOf [15, 38] _ (fun pc L st w hK => ?_) 16 true 15 _ _ w h
    unfold kk_mm_bitsOf_15 at hK
    rcases eCut hK with ⟨hpc, hK⟩ | hK
    · subst hpc
      obtain ⟨a2, e2, hK_1⟩ := lD_some hK
      obtain ⟨a4, e4, hK_2⟩ := lJ_some hK_1
      obtain ⟨hst9, hK_3⟩ := sE_some hK_2
      subst hst9
      exact eGo.wk (go_mm_bitsOf_L38 hcx  eFu a2 a4 w hK_3) (eLe_wk ⟨e2, e4, trivial⟩)
    rcases eCut hK with ⟨hpc, hK⟩ | hK
    · subst hpc
      obtain ⟨a2, e2, hK_1⟩ := lD_some hK
      obtain ⟨a4, e4, hK_2⟩ := lJ_some hK_1
      obtain ⟨hst9, hK_3⟩ := sE_some hK_2
      subst hst9
      exact eGo.wk (ih a2 a4 w hK_3) (eLe_wk ⟨e2, e4, trivial⟩)
    cases hK
set_option maxRecDepth 100000 in
set_option maxHeartbeats 4000000 in
theorem go_mm_bitsOf (hcx : eCx p { frames := 0, cells := 0, slots := 0, locals := 0 } s m args meth c cX12_bitsOf RX12 6 ad D cA vwCl SHm SSm (eWd yX12_bitsOf cX12_bitsOf 6 (some .long)) (some .long)) (a0 : UInt64) (w : eW) (x : Int64 × eW) (h : f_mm_bitsOf a0 w = some x) : eGq p l e { frames := 0, cells := 0, slots := 0, locals := 0 } s m args below meth c 6 ad D cA vwCl SHm rJ x 0 (eEnt [.double a0]) [] w := by
  have h : eRun SHm SSm 6 rs_mm_bitsOf (eCs cs_mm_bitsOf) rJ CX12_bitsOf [15, 38] (fun pc L st w => bif Nat.beq pc 15 then ((lD L 2).bind fun a2 => (lJ L 4).bind fun a4 => sE st (f_mm_bitsOf_L15 eFu a2 a4 w)) else none) 11 true 0 [some (.double a0), none, none, none, none, none] [] w = some x := h
  refine eGo.wk (eRun_go hcx (eLnk_all lk_mm_bitsOf) (eHc_all hc_mm_bitsOf) rJ_ok dcX12_bitsOf [15, 38] _ (fun pc L st w hK => ?_) 11 true 0 _ _ w h) (eLe_wk ⟨rfl, trivial⟩)
  rcases eCut hK with ⟨hpc, hK⟩ | hK
  · subst hpc
    obtain ⟨a2, e2, hK_1⟩ := lD_some hK
    obtain ⟨a4, e4, hK_2⟩ := lJ_some hK_1
    obtain ⟨hst9, hK_3⟩ := sE_some hK_2
    subst hst9
    exact eGo.wk (go_mm_bitsOf_L15 hcx  eFu a2 a4 w hK_3) (eLe_wk ⟨e2, e4, trivial⟩)
  cases hK
end
set_option maxRecDepth 100000 in
set_option maxHeartbeats 4000000 in
theorem ok_mm_bitsOf {l : Launch} {ad : Nat → Nat} {D : va_G} {cA : Nat → ClassId} {ρ : Type} (as : List Value) (w : eW) (k : Option Value → eW → Option ρ) (x : ρ) (h : K_mm_bitsOf as w k = some x) : ∃ (v : Option Value) (w2 : eW), k v w2 = some x ∧ eMet l ad D cA vwCl SHm SSm yX12_bitsOf (eWd yX12_bitsOf cX12_bitsOf 6 (some .long)) { frames := 0, cells := 0, slots := 0, locals := 0 } as w v w2 := by
  unfold K_mm_bitsOf at h
  split at h
  · rename_i a0
    obtain ⟨q, h2, h3⟩ := Option.bind_eq_some_iff.mp h
    exact ⟨_, _, h3, eMet_of (by decide +kernel) rfl (by simp [eCat, Value.category]) rJ_ret (fun p e s m args below meth c hcx => go_mm_bitsOf hcx a0 w q h2)⟩
  · cases h
