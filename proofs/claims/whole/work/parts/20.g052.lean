def CX12_passes : eCo := [[some (.aload_n 0), some (.iconst 0), some (.putfield 95), none, none, some (.iload_n 1), some (.invokestatic 318), none, none, some (.ifCond .eq 10), none, none, some (.iload_n 2), some (.invokestatic 318), none, none],
  [some (.ifCond .ne 6), none, none, some (.bipush (-2)), none, some (.ireturn), some (.aload_n 0), some (.iload_n 1), some (.iload_n 2), some (.invokevirtual 356), none, none, some (.istore_n 3), some (.aload_n 0), some (.iload_n 3), some (.invokevirtual 359)],
  [none, none, some (.aload_n 0), some (.iload_n 3), some (.iconst (-1)), some (.ixor), some (.invokevirtual 359), none, none, some (.if_icmp .le 7), none, none, some (.iconst 1), some (.goto 4), none, none],
  [some (.iconst 0), some (.ireturn)]]
theorem dcX12_passes : eDec cX12_passes CX12_passes := eDec_of (by decide +kernel)
def rs_mm_passes : List (Nat × eR) := [(95, (0, 11, 0, 0)), (318, (1, 0, 1, -1)), (356, (1, 1, 2, 11)), (359, (1, 2, 1, 11))]
noncomputable def cs_mm_passes : List (eF (Int32 × eW)) := [K_mm_isAmount, K_mm_prefersOf, K_mm_votesOf]
noncomputable def f_mm_passes (a1 : Int32) (a2 : Int32) (w : eW) : Option (Int32 × eW) := ((f_mm_isAmount a1 (eU1 w 24 0 (0 : Int32))).bind fun p1 => (if p1.1 = 0 then (some ((-2 : Int32), p1.2)) else ((f_mm_isAmount a2 p1.2).bind fun p2 => (if ¬ p2.1 = 0 then ((f_mm_prefersOf a1 a2 p2.2).bind fun p3 => ((f_mm_votesOf p3.1 p3.2).bind fun p4 => ((f_mm_votesOf (p3.1 ^^^ (-1 : Int32)) p4.2).bind fun p5 => (if p4.1 ≤ p5.1 then (some ((0 : Int32), p5.2)) else (some ((1 : Int32), p5.2)))))) else (some ((-2 : Int32), p2.2))))))
noncomputable def K_mm_passes {ρ : Type} : eF ρ := fun as w k => match as with
  | [.ref r0, .int a1, .int a2] => bif Nat.beq r0 24 then (f_mm_passes a1 a2 w).bind (fun p => k (some (.int p.1)) p.2) else none
  | _ => none
section
variable {p : Program} {l : Launch} {e : Env} {s : State} {m : MethodId} {args : Array Value} {below : List Frame} {meth : Method} {c : Code} {ad : Nat → Nat} {D : va_G} {cA : Nat → ClassId}
theorem lk_mm_passes : ∀ q ∈ rs_mm_passes, eLnk { frames := 12, cells := 0, slots := 0, locals := 276 } vwCl (eWd yX12_passes cX12_passes 4 (some .int)) SSm SHm.length RX12 q.1 q.2 := List.forall_mem_cons.mpr ⟨lkX12_95 eTb_wd, List.forall_mem_cons.mpr ⟨trivial, List.forall_mem_cons.mpr ⟨trivial, List.forall_mem_cons.mpr ⟨trivial, fun _ h => absurd h List.not_mem_nil⟩⟩⟩⟩
theorem hc_mm_passes {x : Int32 × eW} : ∀ q ∈ rs_mm_passes, eHc l { frames := 12, cells := 0, slots := 0, locals := 276 } ad D cA vwCl SHm SSm (eWd yX12_passes cX12_passes 4 (some .int)) RX12 cs_mm_passes x q := List.forall_mem_cons.mpr ⟨trivial, List.forall_mem_cons.mpr ⟨(fun as w k h => let ⟨v, w2, h1, h2⟩ := ok_mm_isAmount as w k x h; ⟨v, w2, h1, eCal_of h2 ⟨rfl, rfl⟩ hdX12_isAmount (gvX12_318 eTb_wd)⟩), List.forall_mem_cons.mpr ⟨(fun as w k h => let ⟨v, w2, h1, h2⟩ := ok_mm_prefersOf as w k x h; ⟨v, w2, h1, eCal_of h2 ⟨rfl, rfl⟩ hdX12_prefersOf (gvX12_356 eTb_wd)⟩), List.forall_mem_cons.mpr ⟨(fun as w k h => let ⟨v, w2, h1, h2⟩ := ok_mm_votesOf as w k x h; ⟨v, w2, h1, eCal_of h2 ⟨rfl, rfl⟩ hdX12_votesOf (gvX12_359 eTb_wd)⟩), fun _ h => absurd h List.not_mem_nil⟩⟩⟩⟩
set_option maxRecDepth 100000 in
set_option maxHeartbeats 4000000 in
theorem go_mm_passes (hcx : eCx p { frames := 12, cells := 0, slots := 0, locals := 276 } s m args meth c cX12_passes RX12 4 ad D cA vwCl SHm SSm (eWd yX12_passes cX12_passes 4 (some .int)) (some .int)) (a1 : Int32) (a2 : Int32) (w : eW) (x : Int32 × eW) (h : f_mm_passes a1 a2 w = some x) : eGq p l e { frames := 12, cells := 0, slots := 0, locals := 276 } s m args below meth c 4 ad D cA vwCl SHm rI x 0 (eEnt [.ref 24, .int a1, .int a2]) [] w := by
  have h : eRun SHm SSm 4 rs_mm_passes (eCs cs_mm_passes) rI CX12_passes [] (fun pc L st w => none) 28 true 0 [some (.ref 24), some (.int a1), some (.int a2), none] [] w = some x := h
  refine eGo.wk (eRun_go hcx (eLnk_all lk_mm_passes) (eHc_all hc_mm_passes) rI_ok dcX12_passes [] _ (fun pc L st w hK => ?_) 28 true 0 _ _ w h) (eLe_wk ⟨rfl, rfl, rfl, trivial⟩)
  cases hK
end
set_option maxRecDepth 100000 in
set_option maxHeartbeats 4000000 in
theorem ok_mm_passes {l : Launch} {ad : Nat → Nat} {D : va_G} {cA : Nat → ClassId} {ρ : Type} (as : List Value) (w : eW) (k : Option Value → eW → Option ρ) (x : ρ) (h : K_mm_passes as w k = some x) : ∃ (v : Option Value) (w2 : eW), k v w2 = some x ∧ eMet l ad D cA vwCl SHm SSm yX12_passes (eWd yX12_passes cX12_passes 4 (some .int)) { frames := 12, cells := 0, slots := 0, locals := 276 } as w v w2 := by
  unfold K_mm_passes at h
  split at h
  · rename_i r0 a1 a2
    obtain ⟨h1, h5⟩ := eBif h
    clear h
    have h := h5
    clear h5
    have h1 := Nat.eq_of_beq_eq_true h1
    subst h1
    obtain ⟨q, h2, h3⟩ := Option.bind_eq_some_iff.mp h
    exact ⟨_, _, h3, eMet_of (by decide +kernel) rfl (by simp [eCat, Value.category]) rI_ret (fun p e s m args below meth c hcx => go_mm_passes hcx a1 a2 w q h2)⟩
  · cases h
def CX12_against : eCo := [[some (.lload_n 0), some (.lload_n 2), some (.ldiv), some (.lstore 8), none, some (.lload 4), none, some (.lload 6), none, some (.ldiv), some (.lstore 10), none, some (.lload 8), none, some (.lload 10), none],
  [some (.lcmp), some (.ifCond .eq 17), none, none, some (.lload 8), none, some (.lload 10), none, some (.lcmp), some (.ifCond .ge 7), none, none, some (.iconst (-1)), some (.goto 4), none, none],
  [some (.iconst 1), some (.ireturn), some (.lload_n 0), some (.lload_n 2), some (.lrem), some (.lload 6), none, some (.lmul), some (.lstore 12), none, some (.lload 4), none, some (.lload 6), none, some (.lrem), some (.lload_n 2)],
  [some (.lmul), some (.lstore 14), none, some (.lload 12), none, some (.lload 14), none, some (.lcmp), some (.ifCond .ge 7), none, none, some (.iconst (-1)), some (.goto 16), none, none, some (.lload 12)],
  [none, some (.lload 14), none, some (.lcmp), some (.ifCond .le 7), none, none, some (.iconst 1), some (.goto 4), none, none, some (.iconst 0), some (.ireturn)]]
theorem dcX12_against : eDec cX12_against CX12_against := eDec_of (by decide +kernel)
def rs_mm_against : List (Nat × eR) := []
noncomputable def cs_mm_against : List (eF (Int32 × eW)) := []
noncomputable def f_mm_against (a0 : Int64) (a2 : Int64) (a4 : Int64) (a6 : Int64) (w : eW) : Option (Int32 × eW) := (if a2 = 0 then none else (if a6 = 0 then none else (if (lg_cmp (a0 / a2) (a4 / a6)) = 0 then (if a2 = 0 then none else (if a6 = 0 then none else (if 0 ≤ (lg_cmp ((a0 - a0 / a2 * a2) * a6) ((a4 - a4 / a6 * a6) * a2)) then (if (lg_cmp ((a0 - a0 / a2 * a2) * a6) ((a4 - a4 / a6 * a6) * a2)) ≤ 0 then (some ((0 : Int32), w)) else (some ((1 : Int32), w))) else (some ((-1 : Int32), w))))) else (if 0 ≤ (lg_cmp (a0 / a2) (a4 / a6)) then (some ((1 : Int32), w)) else (some ((-1 : Int32), w))))))
noncomputable def K_mm_against {ρ : Type} : eF ρ := fun as w k => match as with
  | [.long a0, .long a2, .long a4, .long a6] => (f_mm_against a0 a2 a4 a6 w).bind (fun p => k (some (.int p.1)) p.2)
  | _ => none
section
variable {p : Program} {l : Launch} {e : Env} {s : State} {m : MethodId} {args : Array Value} {below : List Frame} {meth : Method} {c : Code} {ad : Nat → Nat} {D : va_G} {cA : Nat → ClassId}
theorem lk_mm_against : ∀ q ∈ rs_mm_against, eLnk { frames := 0, cells := 0, slots := 0, locals := 0 } vwCl (eWd yX12_against cX12_against 16 (some .int)) SSm SHm.length RX12 q.1 q.2 := fun _ h => absurd h List.not_mem_nil
theorem hc_mm_against {x : Int32 × eW} : ∀ q ∈ rs_mm_against, eHc l { frames := 0, cells := 0, slots := 0, locals := 0 } ad D cA vwCl SHm SSm (eWd yX12_against cX12_against 16 (some .int)) RX12 cs_mm_against x q := fun _ h => absurd h List.not_mem_nil
set_option maxRecDepth 100000 in
set_option maxHeartbeats 4000000 in
theorem go_mm_against (hcx : eCx p { frames := 0, cells := 0, slots := 0, locals := 0 } s m args meth c cX12_against RX12 16 ad D cA vwCl SHm SSm (eWd yX12_against cX12_against 16 (some .int)) (some .int)) (a0 : Int64) (a2 : Int64) (a4 : Int64) (a6 : Int64) (w : eW) (x : Int32 × eW) (h : f_mm_against a0 a2 a4 a6 w = some x) : eGq p l e { frames := 0, cells := 0, slots := 0, locals := 0 } s m args below meth c 16 ad D cA vwCl SHm rI x 0 (eEnt [.long a0, .long a2, .long a4, .long a6]) [] w := by
  have h : eRun SHm SSm 16 rs_mm_against (eCs cs_mm_against) rI CX12_against [] (fun pc L st w => none) 37 true 0 [some (.long a0), none, some (.long a2), none, some (.long a4), none, some (.long a6), none, none, none, none, none, none, none, none, none] [] w = some x := h
  refine eGo.wk (eRun_go hcx (eLnk_all lk_mm_against) (eHc_all hc_mm_against) rI_ok dcX12_against [] _ (fun pc L st w hK => ?_) 37 true 0 _ _ w h) (eLe_wk ⟨rfl, rfl, rfl, rfl, trivial⟩)
  cases hK
end
set_option maxRecDepth 100000 in
set_option maxHeartbeats 4000000 in
theorem ok_mm_against {l : Launch} {ad : Nat → Nat} {D : va_G} {cA : Nat → ClassId} {ρ : Type} (as : List Value) (w : eW) (k : Option Value → eW → Option ρ) (x : ρ) (h : K_mm_against as w k = some x) : ∃ (v : Option Value) (w2 : eW), k v w2 = some x ∧ eMet l ad D cA vwCl SHm SSm yX12_against (eWd yX12_against cX12_against 16 (some .int)) { frames := 0, cells := 0, slots := 0, locals := 0 } as w v w2 := by
  unfold K_mm_against at h
  split at h
  · rename_i a0 a2 a4 a6
    obtain ⟨q, h2, h3⟩ := Option.bind_eq_some_iff.mp h
    exact ⟨_, _, h3, eMet_of (by decide +kernel) rfl (by simp [eCat, Value.category]) rI_ret (fun p e s m args below meth c hcx => go_mm_against hcx a0 a2 a4 a6 w q h2)⟩
  · cases h
def CX12_puts : eCo := [[some (.lload_n 1), some (.lconst 0), some (.lcmp), some (.ifCond .ne 4), none, none, some (.return_), some (.lload_n 1), some (.lload_n 3), some (.invokestatic 307), none, none, some (.lstore 5), none, some (.iconst 0), some (.istore 7)],
  [none, some (.iload 7), none, some (.aload_n 0), some (.getfield 362), none, none, some (.if_icmp .ge 31), none, none, some (.aload_n 0), some (.getfield 80), none, none, some (.iload 7), none],
  [some (.laload), some (.aload_n 0), some (.getfield 83), none, none, some (.iload 7), none, some (.laload), some (.lload_n 1), some (.lload_n 3), some (.invokestatic 365), none, none, some (.ifCond .ge 9), none, none],
  [some (.iinc 7 1), none, none, some (.goto (-34)), none, none, some (.iload 7), none, some (.aload_n 0), some (.getfield 362), none, none, some (.if_icmp .ge 26), none, none, some (.aload_n 0)],
  [some (.getfield 80), none, none, some (.iload 7), none, some (.laload), some (.aload_n 0), some (.getfield 83), none, none, some (.iload 7), none, some (.laload), some (.lload_n 1), some (.lload_n 3), some (.invokestatic 365)],
  [none, none, some (.ifCond .ne 4), none, none, some (.return_), some (.aload_n 0), some (.getfield 362), none, none, some (.istore 8), none, some (.iload 8), none, some (.iload 7), none],
  [some (.if_icmp .le 41), none, none, some (.aload_n 0), some (.getfield 80), none, none, some (.iload 8), none, some (.aload_n 0), some (.getfield 80), none, none, some (.iload 8), none, some (.iconst 1)],
  [some (.isub), some (.laload), some (.lastore), some (.aload_n 0), some (.getfield 83), none, none, some (.iload 8), none, some (.aload_n 0), some (.getfield 83), none, none, some (.iload 8), none, some (.iconst 1)],
  [some (.isub), some (.laload), some (.lastore), some (.iinc 8 (-1)), none, none, some (.goto (-42)), none, none, some (.aload_n 0), some (.getfield 80), none, none, some (.iload 7), none, some (.lload_n 1)],
  [some (.lload 5), none, some (.ldiv), some (.lastore), some (.aload_n 0), some (.getfield 83), none, none, some (.iload 7), none, some (.lload_n 3), some (.lload 5), none, some (.ldiv), some (.lastore), some (.aload_n 0)],
  [some (.dup), some (.getfield 362), none, none, some (.iconst 1), some (.iadd), some (.putfield 362), none, none, some (.return_)]]
theorem dcX12_puts : eDec cX12_puts CX12_puts := eDec_of (by decide +kernel)
def rs_mm_puts : List (Nat × eR) := [(80, (0, 11, 45, 2)), (83, (0, 11, 46, 2)), (307, (1, 0, 2, -1)), (362, (0, 11, 47, 0)), (365, (1, 1, 4, -1))]
noncomputable def cs_mm_puts : List (eF (eW)) := [K_mm_common, K_mm_against]
noncomputable def f_mm_puts_L92 : Nat → Int64 → Int64 → Int64 → Int32 → Int32 → eW → Option (eW)
  | 0, _, _, _, _, _, _ => none
  | n + 1, a1, a3, a5, a7, a8, w => (if a8 ≤ a7 then (if a5 = 0 then none else (eChk a7 48 (if a5 = 0 then none else (eChk a7 48 (some (eU1 (eU2 (eU2 w 19 (Int32.toNatClampNeg a7) (a1 / a5)) 20 (Int32.toNatClampNeg a7) (a3 / a5)) 24 47 ((w.1 24 47) + (1 : Int32)))))))) else (eChk (a8 - (1 : Int32)) 48 (eChk a8 48 (eChk (a8 - (1 : Int32)) 48 (eChk a8 48 (f_mm_puts_L92 n a1 a3 a5 a7 (a8 + (-1 : Int32)) (eU2 (eU2 w 19 (Int32.toNatClampNeg a8) (w.2 19 (Int32.toNatClampNeg (a8 - (1 : Int32))))) 20 (Int32.toNatClampNeg a8) (w.2 20 (Int32.toNatClampNeg (a8 - (1 : Int32)))))))))))
noncomputable def f_mm_puts_L17 : Nat → Int64 → Int64 → Int64 → Int32 → eW → Option (eW)
  | 0, _, _, _, _, _ => none
  | n + 1, a1, a3, a5, a7, w => (if (w.1 24 47) ≤ a7 then (if (w.1 24 47) ≤ a7 then (f_mm_puts_L92 eFu a1 a3 a5 a7 (w.1 24 47) w) else (eChk a7 48 (eChk a7 48 ((f_mm_against (w.2 19 (Int32.toNatClampNeg a7)) (w.2 20 (Int32.toNatClampNeg a7)) a1 a3 w).bind fun p2 => (if ¬ p2.1 = 0 then (f_mm_puts_L92 eFu a1 a3 a5 a7 (p2.2.1 24 47) p2.2) else (some p2.2)))))) else (eChk a7 48 (eChk a7 48 ((f_mm_against (w.2 19 (Int32.toNatClampNeg a7)) (w.2 20 (Int32.toNatClampNeg a7)) a1 a3 w).bind fun p3 => (if 0 ≤ p3.1 then (if (p3.2.1 24 47) ≤ a7 then (f_mm_puts_L92 eFu a1 a3 a5 a7 (p3.2.1 24 47) p3.2) else (eChk a7 48 (eChk a7 48 ((f_mm_against (p3.2.2 19 (Int32.toNatClampNeg a7)) (p3.2.2 20 (Int32.toNatClampNeg a7)) a1 a3 p3.2).bind fun p4 => (if ¬ p4.1 = 0 then (f_mm_puts_L92 eFu a1 a3 a5 a7 (p4.2.1 24 47) p4.2) else (some p4.2)))))) else (f_mm_puts_L17 n a1 a3 a5 (a7 + (1 : Int32)) p3.2))))))
noncomputable def f_mm_puts (a1 : Int64) (a3 : Int64) (w : eW) : Option (eW) := (if ¬ (lg_cmp a1 (0 : Int64)) = 0 then ((f_mm_common a1 a3 w).bind fun p1 => (f_mm_puts_L17 eFu a1 a3 p1.1 (0 : Int32) p1.2)) else (some w))
noncomputable def K_mm_puts {ρ : Type} : eF ρ := fun as w k => match as with
  | [.ref r0, .long a1, .long a3] => bif Nat.beq r0 24 then (f_mm_puts a1 a3 w).bind (fun w => k none w) else none
  | _ => none
section
variable {p : Program} {l : Launch} {e : Env} {s : State} {m : MethodId} {args : Array Value} {below : List Frame} {meth : Method} {c : Code} {ad : Nat → Nat} {D : va_G} {cA : Nat → ClassId}
theorem lk_mm_puts : ∀ q ∈ rs_mm_puts, eLnk { frames := 1, cells := 0, slots := 0, locals := 35 } vwCl (eWd yX12_puts cX12_puts 9 none) SSm SHm.length RX12 q.1 q.2 := List.forall_mem_cons.mpr ⟨lkX12_80 eTb_wd, List.forall_mem_cons.mpr ⟨lkX12_83 eTb_wd, List.forall_mem_cons.mpr ⟨trivial, List.forall_mem_cons.mpr ⟨lkX12_362 eTb_wd, List.forall_mem_cons.mpr ⟨trivial, fun _ h => absurd h List.not_mem_nil⟩⟩⟩⟩⟩
theorem hc_mm_puts {x : eW} : ∀ q ∈ rs_mm_puts, eHc l { frames := 1, cells := 0, slots := 0, locals := 35 } ad D cA vwCl SHm SSm (eWd yX12_puts cX12_puts 9 none) RX12 cs_mm_puts x q := List.forall_mem_cons.mpr ⟨trivial, List.forall_mem_cons.mpr ⟨trivial, List.forall_mem_cons.mpr ⟨(fun as w k h => let ⟨v, w2, h1, h2⟩ := ok_mm_common as w k x h; ⟨v, w2, h1, eCal_of h2 ⟨rfl, rfl⟩ hdX12_common (gvX12_307 eTb_wd)⟩), List.forall_mem_cons.mpr ⟨trivial, List.forall_mem_cons.mpr ⟨(fun as w k h => let ⟨v, w2, h1, h2⟩ := ok_mm_against as w k x h; ⟨v, w2, h1, eCal_of h2 ⟨rfl, rfl⟩ hdX12_against (gvX12_365 eTb_wd)⟩), fun _ h => absurd h List.not_mem_nil⟩⟩⟩⟩⟩
noncomputable def kk_mm_puts_92 (n : Nat) : eK (eW) := fun pc L st w => bif Nat.beq pc 92 then (lR L 0 24 ((lJ L 1).bind fun a1 => (lJ L 3).bind fun a3 => (lJ L 5).bind fun a5 => (lI L 7).bind fun a7 => (lI L 8).bind fun a8 => sE st (f_mm_puts_L92 n a1 a3 a5 a7 a8 w))) else none
set_option maxRecDepth 100000 in
set_option maxHeartbeats 4000000 in
theorem go_mm_puts_L92 (hcx : eCx p { frames := 1, cells := 0, slots := 0, locals := 35 } s m args meth c cX12_puts RX12 9 ad D cA vwCl SHm SSm (eWd yX12_puts cX12_puts 9 none) (none)) {x : eW} : ∀ (n : Nat) (a1 : Int64) (a3 : Int64) (a5 : Int64) (a7 : Int32) (a8 : Int32) (w : eW), f_mm_puts_L92  n a1 a3 a5 a7 a8 w = some x → eGq p l e { frames := 1, cells := 0, slots := 0, locals := 35 } s m args below meth c 9 ad D cA vwCl SHm rV x 92 [some (.ref 24), some (.long a1), none, some (.long a3), none, some (.long a5), none, some (.int a7), some (.int a8)] [] w := by
  intro n
  induction n with
  | zero => intro a1 a3 a5 a7 a8 w h; exact nomatch (show (none : Option (eW)) = some x from h)
  | succ n ih =>
    intro a1 a3 a5 a7 a8 w h
    have h : eRun SHm SSm 9 rs_mm_puts (eCs cs_mm_puts) rV CX12_puts [17, 92] (kk_mm_puts_92  n) 28 true 92 [some (.ref 24), some (.long a1), none, some (.long a3), none, some (.long a5), none, some (.int a7), some (.int a8)] [] w = some x := h
    refine eRun_go hcx (eLnk_all lk_mm_puts) (eHc_all hc_mm_puts) rV_ok dcX12_puts [17, 92] _ (fun pc L st w hK => ?_) 28 true 92 _ _ w h
    unfold kk_mm_puts_92 at hK
    rcases eCut hK with ⟨hpc, hK⟩ | hK
    · subst hpc
      obtain ⟨e0, hK_1⟩ := lR_some hK
      obtain ⟨a1, e1, hK_2⟩ := lJ_some hK_1
      obtain ⟨a3, e3, hK_3⟩ := lJ_some hK_2
      obtain ⟨a5, e5, hK_4⟩ := lJ_some hK_3
      obtain ⟨a7, e7, hK_5⟩ := lI_some hK_4
      obtain ⟨a8, e8, hK_6⟩ := lI_some hK_5
      obtain ⟨hst9, hK_7⟩ := sE_some hK_6
      subst hst9
      exact eGo.wk (ih a1 a3 a5 a7 a8 w hK_7) (eLe_wk ⟨e0, e1, e3, e5, e7, e8, trivial⟩)
    cases hK
noncomputable def kk_mm_puts_17 (n : Nat) : eK (eW) := fun pc L st w => bif Nat.beq pc 92 then (lR L 0 24 ((lJ L 1).bind fun a1 => (lJ L 3).bind fun a3 => (lJ L 5).bind fun a5 => (lI L 7).bind fun a7 => (lI L 8).bind fun a8 => sE st (f_mm_puts_L92 eFu a1 a3 a5 a7 a8 w))) else (bif Nat.beq pc 17 then (lR L 0 24 ((lJ L 1).bind fun a1 => (lJ L 3).bind fun a3 => (lJ L 5).bind fun a5 => (lI L 7).bind fun a7 => sE st (f_mm_puts_L17 n a1 a3 a5 a7 w))) else none)
set_option maxRecDepth 100000 in
set_option maxHeartbeats 4000000 in
theorem go_mm_puts_L17 (hcx : eCx p { frames := 1, cells := 0, slots := 0, locals := 35 } s m args meth c cX12_puts RX12 9 ad D cA vwCl SHm SSm (eWd yX12_puts cX12_puts 9 none) (none)) {x : eW} : ∀ (n : Nat) (a1 : Int64) (a3 : Int64) (a5 : Int64) (a7 : Int32) (w : eW), f_mm_puts_L17  n a1 a3 a5 a7 w = some x → eGq p l e { frames := 1, cells := 0, slots := 0, locals := 35 } s m args below meth c 9 ad D cA vwCl SHm rV x 17 [some (.ref 24), some (.long a1), none, some (.long a3), none, some (.long a5), none, some (.int a7), none] [] w := by
  intro n
  induction n with
  | zero => intro a1 a3 a5 a7 w h; exact nomatch (show (none : Option (eW)) = some x from h)
  | succ n ih =>
    intro a1 a3 a5 a7 w h
    have h : eRun SHm SSm 9 rs_mm_puts (eCs cs_mm_puts) rV CX12_puts [17, 92] (kk_mm_puts_17  n) 38 true 17 [some (.ref 24), some (.long a1), none, some (.long a3), none, some (.long a5), none, some (.int a7), none] [] w = some x := h
    refine eRun_go hcx (eLnk_all lk_mm_puts) (eHc_all hc_mm_puts) rV_ok dcX12_puts [17, 92] _ (fun pc L st w hK => ?_) 38 true 17 _ _ w h
    unfold kk_mm_puts_17 at hK
    rcases eCut hK with ⟨hpc, hK⟩ | hK
    · subst hpc
      obtain ⟨e0, hK_1⟩ := lR_some hK
      obtain ⟨a1, e1, hK_2⟩ := lJ_some hK_1
      obtain ⟨a3, e3, hK_3⟩ := lJ_some hK_2
      obtain ⟨a5, e5, hK_4⟩ := lJ_some hK_3
      obtain ⟨a7, e7, hK_5⟩ := lI_some hK_4
      obtain ⟨a8, e8, hK_6⟩ := lI_some hK_5
      obtain ⟨hst9, hK_7⟩ := sE_some hK_6
      subst hst9
      exact eGo.wk (go_mm_puts_L92 hcx  eFu a1 a3 a5 a7 a8 w hK_7) (eLe_wk ⟨e0, e1, e3, e5, e7, e8, trivial⟩)
    rcases eCut hK with ⟨hpc, hK⟩ | hK
    · subst hpc
      obtain ⟨e0, hK_1⟩ := lR_some hK
      obtain ⟨a1, e1, hK_2⟩ := lJ_some hK_1
      obtain ⟨a3, e3, hK_3⟩ := lJ_some hK_2
      obtain ⟨a5, e5, hK_4⟩ := lJ_some hK_3
      obtain ⟨a7, e7, hK_5⟩ := lI_some hK_4
      obtain ⟨hst9, hK_6⟩ := sE_some hK_5
      subst hst9
      exact eGo.wk (ih a1 a3 a5 a7 w hK_6) (eLe_wk ⟨e0, e1, e3, e5, e7, trivial⟩)
    cases hK
set_option maxRecDepth 100000 in
set_option maxHeartbeats 4000000 in
theorem go_mm_puts (hcx : eCx p { frames := 1, cells := 0, slots := 0, locals := 35 } s m args meth c cX12_puts RX12 9 ad D cA vwCl SHm SSm (eWd yX12_puts cX12_puts 9 none) (none)) (a1 : Int64) (a3 : Int64) (w : eW) (x : eW) (h : f_mm_puts a1 a3 w = some x) : eGq p l e { frames := 1, cells := 0, slots := 0, locals := 35 } s m args below meth c 9 ad D cA vwCl SHm rV x 0 (eEnt [.ref 24, .long a1, .long a3]) [] w := by
  have h : eRun SHm SSm 9 rs_mm_puts (eCs cs_mm_puts) rV CX12_puts [17, 92] (fun pc L st w => bif Nat.beq pc 17 then (lR L 0 24 ((lJ L 1).bind fun a1 => (lJ L 3).bind fun a3 => (lJ L 5).bind fun a5 => (lI L 7).bind fun a7 => sE st (f_mm_puts_L17 eFu a1 a3 a5 a7 w))) else none) 13 true 0 [some (.ref 24), some (.long a1), none, some (.long a3), none, none, none, none, none] [] w = some x := h
  refine eGo.wk (eRun_go hcx (eLnk_all lk_mm_puts) (eHc_all hc_mm_puts) rV_ok dcX12_puts [17, 92] _ (fun pc L st w hK => ?_) 13 true 0 _ _ w h) (eLe_wk ⟨rfl, rfl, rfl, trivial⟩)
  rcases eCut hK with ⟨hpc, hK⟩ | hK
  · subst hpc
    obtain ⟨e0, hK_1⟩ := lR_some hK
    obtain ⟨a1, e1, hK_2⟩ := lJ_some hK_1
    obtain ⟨a3, e3, hK_3⟩ := lJ_some hK_2
    obtain ⟨a5, e5, hK_4⟩ := lJ_some hK_3
    obtain ⟨a7, e7, hK_5⟩ := lI_some hK_4
    obtain ⟨hst9, hK_6⟩ := sE_some hK_5
    subst hst9
    exact eGo.wk (go_mm_puts_L17 hcx  eFu a1 a3 a5 a7 w hK_6) (eLe_wk ⟨e0, e1, e3, e5, e7, trivial⟩)
  cases hK
end
set_option maxRecDepth 100000 in
set_option maxHeartbeats 4000000 in
theorem ok_mm_puts {l : Launch} {ad : Nat → Nat} {D : va_G} {cA : Nat → ClassId} {ρ : Type} (as : List Value) (w : eW) (k : Option Value → eW → Option ρ) (x : ρ) (h : K_mm_puts as w k = some x) : ∃ (v : Option Value) (w2 : eW), k v w2 = some x ∧ eMet l ad D cA vwCl SHm SSm yX12_puts (eWd yX12_puts cX12_puts 9 none) { frames := 1, cells := 0, slots := 0, locals := 35 } as w v w2 := by
  unfold K_mm_puts at h
  split at h
  · rename_i r0 a1 a3
    obtain ⟨h1, h5⟩ := eBif h
    clear h
    have h := h5
    clear h5
    have h1 := Nat.eq_of_beq_eq_true h1
    subst h1
    obtain ⟨q, h2, h3⟩ := Option.bind_eq_some_iff.mp h
    exact ⟨_, _, h3, eMet_of (by decide +kernel) rfl (by simp [eCat, Value.category]) rV_ret (fun p e s m args below meth c hcx => go_mm_puts hcx a1 a3 w q h2)⟩
  · cases h
