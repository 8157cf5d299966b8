def CX3_pour : eCo := [[some (.aload_n 0), some (.lconst 0), some (.putfield 94), none, none, some (.aload_n 0), some (.lconst 1), some (.putfield 33), none, none, some (.lload_n 1), some (.aload_n 0), some (.getfield 45), none, none, some (.lcmp)],
  [some (.ifCond .gt 11), none, none, some (.aload_n 0), some (.lload_n 1), some (.invokevirtual 97), none, none, some (.goto 8), none, none, some (.aload_n 0), some (.lload_n 1), some (.invokevirtual 101), none, none],
  [some (.return_)]]
theorem dcX3_pour : eDec cX3_pour CX3_pour := eDec_of (by decide +kernel)
def rs_fa_pour : List (Nat × eR) := [(33, (0, 3, 7, 1)), (45, (0, 3, 3, 1)), (94, (0, 3, 6, 1)), (97, (1, 1, 1, 3)), (101, (1, 0, 1, 3))]
noncomputable def cs_fa_pour : List (eF (eW)) := [K_fa_pourByLevel, K_fa_pourByRanks]
noncomputable def f_fa_pour (a1 : Int64) (w : eW) : Option (eW) := (if 0 < (lg_cmp a1 (w.2 24 3)) then ((f_fa_pourByLevel a1 (eU2 (eU2 w 24 6 (0 : Int64)) 24 7 (1 : Int64))).bind fun w1 => (some w1)) else ((f_fa_pourByRanks a1 (eU2 (eU2 w 24 6 (0 : Int64)) 24 7 (1 : Int64))).bind fun w2 => (some w2)))
noncomputable def K_fa_pour {ρ : Type} : eF ρ := fun as w k => match as with
  | [.ref r0, .long a1] => bif Nat.beq r0 24 then (f_fa_pour a1 w).bind (fun w => k none w) else none
  | _ => none
section
variable {p : Program} {l : Launch} {e : Env} {s : State} {m : MethodId} {args : Array Value} {below : List Frame} {meth : Method} {c : Code} {ad : Nat → Nat} {D : va_G} {cA : Nat → ClassId}
theorem lk_fa_pour : ∀ q ∈ rs_fa_pour, eLnk { frames := 3, cells := 0, slots := 0, locals := 79 } vwCl (eWd yX3_pour cX3_pour 3 none) SSc SHc.length RX3 q.1 q.2 := List.forall_mem_cons.mpr ⟨lkX3_33 eTb_wd, List.forall_mem_cons.mpr ⟨lkX3_45 eTb_wd, List.forall_mem_cons.mpr ⟨lkX3_94 eTb_wd, List.forall_mem_cons.mpr ⟨trivial, List.forall_mem_cons.mpr ⟨trivial, fun _ h => absurd h List.not_mem_nil⟩⟩⟩⟩⟩
theorem hc_fa_pour {x : eW} : ∀ q ∈ rs_fa_pour, eHc l { frames := 3, cells := 0, slots := 0, locals := 79 } ad D cA vwCl SHc SSc (eWd yX3_pour cX3_pour 3 none) RX3 cs_fa_pour x q := List.forall_mem_cons.mpr ⟨trivial, List.forall_mem_cons.mpr ⟨trivial, List.forall_mem_cons.mpr ⟨trivial, List.forall_mem_cons.mpr ⟨(fun as w k h => let ⟨v, w2, h1, h2⟩ := ok_fa_pourByRanks as w k x h; ⟨v, w2, h1, eCal_of h2 ⟨rfl, rfl⟩ hdX3_pourByRanks (gvX3_97 eTb_wd)⟩), List.forall_mem_cons.mpr ⟨(fun as w k h => let ⟨v, w2, h1, h2⟩ := ok_fa_pourByLevel as w k x h; ⟨v, w2, h1, eCal_of h2 ⟨rfl, rfl⟩ hdX3_pourByLevel (gvX3_101 eTb_wd)⟩), fun _ h => absurd h List.not_mem_nil⟩⟩⟩⟩⟩
set_option maxRecDepth 100000 in
set_option maxHeartbeats 4000000 in
theorem go_fa_pour (hcx : eCx p { frames := 3, cells := 0, slots := 0, locals := 79 } s m args meth c cX3_pour RX3 3 ad D cA vwCl SHc SSc (eWd yX3_pour cX3_pour 3 none) (none)) (a1 : Int64) (w : eW) (x : eW) (h : f_fa_pour a1 w = some x) : eGq p l e { frames := 3, cells := 0, slots := 0, locals := 79 } s m args below meth c 3 ad D cA vwCl SHc rV x 0 (eEnt [.ref 24, .long a1]) [] w := by
  have h : eRun SHc SSc 3 rs_fa_pour (eCs cs_fa_pour) rV CX3_pour [] (fun pc L st w => none) 18 true 0 [some (.ref 24), some (.long a1), none] [] w = some x := h
  refine eGo.wk (eRun_go hcx (eLnk_all lk_fa_pour) (eHc_all hc_fa_pour) rV_ok dcX3_pour [] _ (fun pc L st w hK => ?_) 18 true 0 _ _ w h) (eLe_wk ⟨rfl, rfl, trivial⟩)
  cases hK
end
set_option maxRecDepth 100000 in
set_option maxHeartbeats 4000000 in
theorem ok_fa_pour {l : Launch} {ad : Nat → Nat} {D : va_G} {cA : Nat → ClassId} {ρ : Type} (as : List Value) (w : eW) (k : Option Value → eW → Option ρ) (x : ρ) (h : K_fa_pour as w k = some x) : ∃ (v : Option Value) (w2 : eW), k v w2 = some x ∧ eMet l ad D cA vwCl SHc SSc yX3_pour (eWd yX3_pour cX3_pour 3 none) { frames := 3, cells := 0, slots := 0, locals := 79 } as w v w2 := by
  unfold K_fa_pour at h
  split at h
  · rename_i r0 a1
    obtain ⟨h1, h5⟩ := eBif h
    clear h
    have h := h5
    clear h5
    have h1 := Nat.eq_of_beq_eq_true h1
    subst h1
    obtain ⟨q, h2, h3⟩ := Option.bind_eq_some_iff.mp h
    exact ⟨_, _, h3, eMet_of (by decide +kernel) rfl (by simp [eCat, Value.category]) rV_ret (fun p e s m args below meth c hcx => go_fa_pour hcx a1 w q h2)⟩
  · cases h
def CX11_pour : eCo := [[some (.aload_n 0), some (.getfield 35), none, none, some (.aload_n 0), some (.getfield 28), none, none, some (.iconst 0), some (.iconst 0), some (.invokevirtual 181), none, none, some (.aload_n 0), some (.getfield 35), none],
  [none, some (.aload_n 0), some (.getfield 28), none, none, some (.iload_n 1), some (.invokevirtual 185), none, none, some (.i2l), some (.ldc2_w 174), none, none, some (.lmul), some (.invokevirtual 233), none],
  [none, some (.return_)]]
theorem dcX11_pour : eDec cX11_pour CX11_pour := eDec_of (by decide +kernel)
def rs_xx_pour : List (Nat × eR) := [(28, (0, 10, 2, 2)), (35, (0, 10, 3, 2)), (174, (3, 0, 0, 100)), (181, (1, 0, 3, 3)), (185, (1, 1, 1, 4)), (233, (1, 2, 1, 3))]
noncomputable def cs_xx_pour : List (eF (eW)) := [K_fa_arrange, K_fi_fallsOf, K_fa_pour]
noncomputable def f_xx_pour (a1 : Int32) (w : eW) : Option (eW) := ((f_fa_arrange (0 : Int32) (0 : Int32) w).bind fun w1 => ((f_fi_fallsOf a1 w1).bind fun p2 => ((f_fa_pour (((p2.1).toInt64) * (100 : Int64)) p2.2).bind fun w3 => (some w3))))
noncomputable def K_xx_pour {ρ : Type} : eF ρ := fun as w k => match as with
  | [.ref r0, .int a1] => bif Nat.beq r0 38 then (f_xx_pour a1 w).bind (fun w => k none w) else none
  | _ => none
section
variable {p : Program} {l : Launch} {e : Env} {s : State} {m : MethodId} {args : Array Value} {below : List Frame} {meth : Method} {c : Code} {ad : Nat → Nat} {D : va_G} {cA : Nat → ClassId}
theorem lk_xx_pour : ∀ q ∈ rs_xx_pour, eLnk { frames := 4, cells := 0, slots := 0, locals := 138 } vwCl (eWd yX11_pour cX11_pour 2 none) SSc SHc.length RX11 q.1 q.2 := List.forall_mem_cons.mpr ⟨lkX11_28 eTb_wd, List.forall_mem_cons.mpr ⟨lkX11_35 eTb_wd, List.forall_mem_cons.mpr ⟨lkX11_174 eTb_wd, List.forall_mem_cons.mpr ⟨trivial, List.forall_mem_cons.mpr ⟨trivial, List.forall_mem_cons.mpr ⟨trivial, fun _ h => absurd h List.not_mem_nil⟩⟩⟩⟩⟩⟩
theorem hc_xx_pour {x : eW} : ∀ q ∈ rs_xx_pour, eHc l { frames := 4, cells := 0, slots := 0, locals := 138 } ad D cA vwCl SHc SSc (eWd yX11_pour cX11_pour 2 none) RX11 cs_xx_pour x q := List.forall_mem_cons.mpr ⟨trivial, List.forall_mem_cons.mpr ⟨trivial, List.forall_mem_cons.mpr ⟨trivial, List.forall_mem_cons.mpr ⟨(fun as w k h => let ⟨v, w2, h1, h2⟩ := ok_fa_arrange as w k x h; ⟨v, w2, h1, eCal_of h2 ⟨rfl, rfl⟩ hdX3_arrange (gvX11_181 eTb_wd)⟩), List.forall_mem_cons.mpr ⟨(fun as w k h => let ⟨v, w2, h1, h2⟩ := ok_fi_fallsOf as w k x h; ⟨v, w2, h1, eCal_of h2 ⟨rfl, rfl⟩ hdX4_fallsOf (gvX11_185 eTb_wd)⟩), List.forall_mem_cons.mpr ⟨(fun as w k h => let ⟨v, w2, h1, h2⟩ := ok_fa_pour as w k x h; ⟨v, w2, h1, eCal_of h2 ⟨rfl, rfl⟩ hdX3_pour (gvX11_233 eTb_wd)⟩), fun _ h => absurd h List.not_mem_nil⟩⟩⟩⟩⟩⟩
set_option maxRecDepth 100000 in
set_option maxHeartbeats 4000000 in
theorem go_xx_pour (hcx : eCx p { frames := 4, cells := 0, slots := 0, locals := 138 } s m args meth c cX11_pour RX11 2 ad D cA vwCl SHc SSc (eWd yX11_pour cX11_pour 2 none) (none)) (a1 : Int32) (w : eW) (x : eW) (h : f_xx_pour a1 w = some x) : eGq p l e { frames := 4, cells := 0, slots := 0, locals := 138 } s m args below meth c 2 ad D cA vwCl SHc rV x 0 (eEnt [.ref 38, .int a1]) [] w := by
  have h : eRun SHc SSc 2 rs_xx_pour (eCs cs_xx_pour) rV CX11_pour [] (fun pc L st w => none) 20 true 0 [some (.ref 38), some (.int a1)] [] w = some x := h
  refine eGo.wk (eRun_go hcx (eLnk_all lk_xx_pour) (eHc_all hc_xx_pour) rV_ok dcX11_pour [] _ (fun pc L st w hK => ?_) 20 true 0 _ _ w h) (eLe_wk ⟨rfl, rfl, trivial⟩)
  cases hK
end
set_option maxRecDepth 100000 in
set_option maxHeartbeats 4000000 in
theorem ok_xx_pour {l : Launch} {ad : Nat → Nat} {D : va_G} {cA : Nat → ClassId} {ρ : Type} (as : List Value) (w : eW) (k : Option Value → eW → Option ρ) (x : ρ) (h : K_xx_pour as w k = some x) : ∃ (v : Option Value) (w2 : eW), k v w2 = some x ∧ eMet l ad D cA vwCl SHc SSc yX11_pour (eWd yX11_pour cX11_pour 2 none) { frames := 4, cells := 0, slots := 0, locals := 138 } as w v w2 := by
  unfold K_xx_pour at h
  split at h
  · rename_i r0 a1
    obtain ⟨h1, h5⟩ := eBif h
    clear h
    have h := h5
    clear h5
    have h1 := Nat.eq_of_beq_eq_true h1
    subst h1
    obtain ⟨q, h2, h3⟩ := Option.bind_eq_some_iff.mp h
    exact ⟨_, _, h3, eMet_of (by decide +kernel) rfl (by simp [eCat, Value.category]) rV_ret (fun p e s m args below meth c hcx => go_xx_pour hcx a1 w q h2)⟩
  · cases h
def CX3_aboveOf : eCo := [[some (.iload_n 1), some (.ifCond .lt 23), none, none, some (.iload_n 1), some (.aload_n 0), some (.getfield 12), none, none, some (.getfield 108), none, none, some (.if_icmp .ge 12), none, none, some (.aload_n 0)],
  [some (.getfield 26), none, none, some (.iload_n 1), some (.laload), some (.goto 4), none, none, some (.lconst 0), some (.lreturn)]]
theorem dcX3_aboveOf : eDec cX3_aboveOf CX3_aboveOf := eDec_of (by decide +kernel)
def rs_fa_aboveOf : List (Nat × eR) := [(12, (0, 3, 0, 2)), (26, (0, 3, 4, 2)), (108, (0, 2, 0, 0))]
noncomputable def cs_fa_aboveOf : List (eF (Int64 × eW)) := []
noncomputable def f_fa_aboveOf (a1 : Int32) (w : eW) : Option (Int64 × eW) := (if a1 < 0 then (some ((0 : Int64), w)) else (if (w.1 19 0) ≤ a1 then (some ((0 : Int64), w)) else (eChk a1 12 (some ((w.2 22 (Int32.toNatClampNeg a1)), w)))))
noncomputable def K_fa_aboveOf {ρ : Type} : eF ρ := fun as w k => match as with
  | [.ref r0, .int a1] => bif Nat.beq r0 24 then (f_fa_aboveOf a1 w).bind (fun p => k (some (.long p.1)) p.2) else none
  | _ => none
section
variable {p : Program} {l : Launch} {e : Env} {s : State} {m : MethodId} {args : Array Value} {below : List Frame} {meth : Method} {c : Code} {ad : Nat → Nat} {D : va_G} {cA : Nat → ClassId}
theorem lk_fa_aboveOf : ∀ q ∈ rs_fa_aboveOf, eLnk { frames := 0, cells := 0, slots := 0, locals := 0 } vwCl (eWd yX3_aboveOf cX3_aboveOf 2 (some .long)) SSc SHc.length RX3 q.1 q.2 := List.forall_mem_cons.mpr ⟨lkX3_12 eTb_wd, List.forall_mem_cons.mpr ⟨lkX3_26 eTb_wd, List.forall_mem_cons.mpr ⟨lkX3_108 eTb_wd, fun _ h => absurd h List.not_mem_nil⟩⟩⟩
theorem hc_fa_aboveOf {x : Int64 × eW} : ∀ q ∈ rs_fa_aboveOf, eHc l { frames := 0, cells := 0, slots := 0, locals := 0 } ad D cA vwCl SHc SSc (eWd yX3_aboveOf cX3_aboveOf 2 (some .long)) RX3 cs_fa_aboveOf x q := List.forall_mem_cons.mpr ⟨trivial, List.forall_mem_cons.mpr ⟨trivial, List.forall_mem_cons.mpr ⟨trivial, fun _ h => absurd h List.not_mem_nil⟩⟩⟩
set_option maxRecDepth 100000 in
set_option maxHeartbeats 4000000 in
theorem go_fa_aboveOf (hcx : eCx p { frames := 0, cells := 0, slots := 0, locals := 0 } s m args meth c cX3_aboveOf RX3 2 ad D cA vwCl SHc SSc (eWd yX3_aboveOf cX3_aboveOf 2 (some .long)) (some .long)) (a1 : Int32) (w : eW) (x : Int64 × eW) (h : f_fa_aboveOf a1 w = some x) : eGq p l e { frames := 0, cells := 0, slots := 0, locals := 0 } s m args below meth c 2 ad D cA vwCl SHc rJ x 0 (eEnt [.ref 24, .int a1]) [] w := by
  have h : eRun SHc SSc 2 rs_fa_aboveOf (eCs cs_fa_aboveOf) rJ CX3_aboveOf [] (fun pc L st w => none) 15 true 0 [some (.ref 24), some (.int a1)] [] w = some x := h
  refine eGo.wk (eRun_go hcx (eLnk_all lk_fa_aboveOf) (eHc_all hc_fa_aboveOf) rJ_ok dcX3_aboveOf [] _ (fun pc L st w hK => ?_) 15 true 0 _ _ w h) (eLe_wk ⟨rfl, rfl, trivial⟩)
  cases hK
end
set_option maxRecDepth 100000 in
set_option maxHeartbeats 4000000 in
theorem ok_fa_aboveOf {l : Launch} {ad : Nat → Nat} {D : va_G} {cA : Nat → ClassId} {ρ : Type} (as : List Value) (w : eW) (k : Option Value → eW → Option ρ) (x : ρ) (h : K_fa_aboveOf as w k = some x) : ∃ (v : Option Value) (w2 : eW), k v w2 = some x ∧ eMet l ad D cA vwCl SHc SSc yX3_aboveOf (eWd yX3_aboveOf cX3_aboveOf 2 (some .long)) { frames := 0, cells := 0, slots := 0, locals := 0 } as w v w2 := by
  unfold K_fa_aboveOf at h
  split at h
  · rename_i r0 a1
    obtain ⟨h1, h5⟩ := eBif h
    clear h
    have h := h5
    clear h5
    have h1 := Nat.eq_of_beq_eq_true h1
    subst h1
    obtain ⟨q, h2, h3⟩ := Option.bind_eq_some_iff.mp h
    exact ⟨_, _, h3, eMet_of (by decide +kernel) rfl (by simp [eCat, Value.category]) rJ_ret (fun p e s m args below meth c hcx => go_fa_aboveOf hcx a1 w q h2)⟩
  · cases h
def CX7_commonDivisor : eCo := [[some (.lload_n 0), some (.lstore 4), none, some (.lload_n 2), some (.lstore 6), none, some (.iconst 0), some (.istore 8), none, some (.iload 8), none, some (.sipush 1000), none, none, some (.if_icmp .ge 31), none],
  [none, some (.lload 6), none, some (.lconst 0), some (.lcmp), some (.ifCond .eq 24), none, none, some (.lload 4), none, some (.lload 6), none, some (.lrem), some (.lstore 9), none, some (.lload 6)],
  [none, some (.lstore 4), none, some (.lload 9), none, some (.lstore 6), none, some (.iinc 8 1), none, none, some (.goto (-33)), none, none, some (.lload 4), none, some (.lconst 1)],
  [some (.invokestatic 11), none, none, some (.lreturn)]]
theorem dcX7_commonDivisor : eDec cX7_commonDivisor CX7_commonDivisor := eDec_of (by decide +kernel)
def rs_nu_commonDivisor : List (Nat × eR) := [(11, (6, 2, 0, 0))]
noncomputable def cs_nu_commonDivisor : List (eF (Int64 × eW)) := []
noncomputable def f_nu_commonDivisor_L9 : Nat → Int64 → Int64 → Int32 → eW → Option (Int64 × eW)
  | 0, _, _, _, _ => none
  | n + 1, a4, a6, a8, w => (if (1000 : Int32) ≤ a8 then (some ((if (1 : Int64) < a4 then a4 else (1 : Int64)), w)) else (if (lg_cmp a6 (0 : Int64)) = 0 then (some ((if (1 : Int64) < a4 then a4 else (1 : Int64)), w)) else (if a6 = 0 then none else (f_nu_commonDivisor_L9 n a6 (a4 - a4 / a6 * a6) (a8 + (1 : Int32)) w))))
noncomputable def f_nu_commonDivisor (a0 : Int64) (a2 : Int64) (w : eW) : Option (Int64 × eW) := (f_nu_commonDivisor_L9 eFu a0 a2 (0 : Int32) w)
noncomputable def K_nu_commonDivisor {ρ : Type} : eF ρ := fun as w k => match as with
  | [.long a0, .long a2] => (f_nu_commonDivisor a0 a2 w).bind (fun p => k (some (.long p.1)) p.2)
  | _ => none
section
variable {p : Program} {l : Launch} {e : Env} {s : State} {m : MethodId} {args : Array Value} {below : List Frame} {meth : Method} {c : Code} {ad : Nat → Nat} {D : va_G} {cA : Nat → ClassId}
theorem lk_nu_commonDivisor : ∀ q ∈ rs_nu_commonDivisor, eLnk { frames := 1, cells := 0, slots := 0, locals := 60 } vwCl (eWd yX7_commonDivisor cX7_commonDivisor 11 (some .long)) SSc SHc.length RX7 q.1 q.2 := List.forall_mem_cons.mpr ⟨lkX7_11 ⟨by decide, by decide⟩ eTb_wd, fun _ h => absurd h List.not_mem_nil⟩
theorem hc_nu_commonDivisor {x : Int64 × eW} : ∀ q ∈ rs_nu_commonDivisor, eHc l { frames := 1, cells := 0, slots := 0, locals := 60 } ad D cA vwCl SHc SSc (eWd yX7_commonDivisor cX7_commonDivisor 11 (some .long)) RX7 cs_nu_commonDivisor x q := List.forall_mem_cons.mpr ⟨trivial, fun _ h => absurd h List.not_mem_nil⟩
noncomputable def kk_nu_commonDivisor_9 (n : Nat) : eK (Int64 × eW) := fun pc L st w => bif Nat.beq pc 9 then ((lJ L 4).bind fun a4 => (lJ L 6).bind fun a6 => (lI L 8).bind fun a8 => sE st (f_nu_commonDivisor_L9 n a4 a6 a8 w)) else none
set_option maxRecDepth 100000 in
set_option maxHeartbeats 4000000 in
theorem go_nu_commonDivisor_L9 (hcx : eCx p { frames := 1, cells := 0, slots := 0, locals := 60 } s m args meth c cX7_commonDivisor RX7 11 ad D cA vwCl SHc SSc (eWd yX7_commonDivisor cX7_commonDivisor 11 (some .long)) (some .long)) {x : Int64 × eW} : ∀ (n : Nat) (a4 : Int64) (a6 : Int64) (a8 : Int32) (w : eW), f_nu_commonDivisor_L9  n a4 a6 a8 w = some x → eGq p l e { frames := 1, cells := 0, slots := 0, locals := 60 } s m args below meth c 11 ad D cA vwCl SHc rJ x 9 [none, none, none, none, some (.long a4), none, some (.long a6), none, some (.int a8), none, none] [] w := by
  intro n
  induction n with
  | zero => intro a4 a6 a8 w h; exact nomatch (show (none : Option (Int64 × eW)) = some x from h)
  | succ n ih =>
    intro a4 a6 a8 w h
    have h : eRun SHc SSc 11 rs_nu_commonDivisor (eCs cs_nu_commonDivisor) rJ CX7_commonDivisor [9] (kk_nu_commonDivisor_9  n) 20 true 9 [none, none, none, none, some (.long a4), none, some (.long a6), none, some (.int a8), none, none] [] w = some x := h
    refine eRun_go hcx (eLnk_all lk_nu_commonDivisor) (eHc_all hc_nu_commonDivisor) rJ_ok dcX7_commonDivisor [9] _ (fun pc L st w hK => ?_) 20 true 9 _ _ w h
    unfold kk_nu_commonDivisor_9 at hK
    rcases eCut hK with ⟨hpc, hK⟩ | hK
    · subst hpc
      obtain ⟨a4, e4, hK_1⟩ := lJ_some hK
      obtain ⟨a6, e6, hK_2⟩ := lJ_some hK_1
      obtain ⟨a8, e8, hK_3⟩ := lI_some hK_2
      obtain ⟨hst9, hK_4⟩ := sE_some hK_3
      subst hst9
      exact eGo.wk (ih a4 a6 a8 w hK_4) (eLe_wk ⟨e4, e6, e8, trivial⟩)
    cases hK
set_option maxRecDepth 100000 in
set_option maxHeartbeats 4000000 in
theorem go_nu_commonDivisor (hcx : eCx p { frames := 1, cells := 0, slots := 0, locals := 60 } s m args meth c cX7_commonDivisor RX7 11 ad D cA vwCl SHc SSc (eWd yX7_commonDivisor cX7_commonDivisor 11 (some .long)) (some .long)) (a0 : Int64) (a2 : Int64) (w : eW) (x : Int64 × eW) (h : f_nu_commonDivisor a0 a2 w = some x) : eGq p l e { frames := 1, cells := 0, slots := 0, locals := 60 } s m args below meth c 11 ad D cA vwCl SHc rJ x 0 (eEnt [.long a0, .long a2]) [] w := by
  have h : eRun SHc SSc 11 rs_nu_commonDivisor (eCs cs_nu_commonDivisor) rJ CX7_commonDivisor [9] (fun pc L st w => bif Nat.beq pc 9 then ((lJ L 4).bind fun a4 => (lJ L 6).bind fun a6 => (lI L 8).bind fun a8 => sE st (f_nu_commonDivisor_L9 eFu a4 a6 a8 w)) else none) 9 true 0 [some (.long a0), none, some (.long a2), none, none, none, none, none, none, none, none] [] w = some x := h
  refine eGo.wk (eRun_go hcx (eLnk_all lk_nu_commonDivisor) (eHc_all hc_nu_commonDivisor) rJ_ok dcX7_commonDivisor [9] _ (fun pc L st w hK => ?_) 9 true 0 _ _ w h) (eLe_wk ⟨rfl, rfl, trivial⟩)
  rcases eCut hK with ⟨hpc, hK⟩ | hK
  · subst hpc
    obtain ⟨a4, e4, hK_1⟩ := lJ_some hK
    obtain ⟨a6, e6, hK_2⟩ := lJ_some hK_1
    obtain ⟨a8, e8, hK_3⟩ := lI_some hK_2
    obtain ⟨hst9, hK_4⟩ := sE_some hK_3
    subst hst9
    exact eGo.wk (go_nu_commonDivisor_L9 hcx  eFu a4 a6 a8 w hK_4) (eLe_wk ⟨e4, e6, e8, trivial⟩)
  cases hK
end
set_option maxRecDepth 100000 in
set_option maxHeartbeats 4000000 in
theorem ok_nu_commonDivisor {l : Launch} {ad : Nat → Nat} {D : va_G} {cA : Nat → ClassId} {ρ : Type} (as : List Value) (w : eW) (k : Option Value → eW → Option ρ) (x : ρ) (h : K_nu_commonDivisor as w k = some x) : ∃ (v : Option Value) (w2 : eW), k v w2 = some x ∧ eMet l ad D cA vwCl SHc SSc yX7_commonDivisor (eWd yX7_commonDivisor cX7_commonDivisor 11 (some .long)) { frames := 1, cells := 0, slots := 0, locals := 60 } as w v w2 := by
  unfold K_nu_commonDivisor at h
  split at h
  · rename_i a0 a2
    obtain ⟨q, h2, h3⟩ := Option.bind_eq_some_iff.mp h
    exact ⟨_, _, h3, eMet_of (by decide +kernel) rfl (by simp [eCat, Value.category]) rJ_ret (fun p e s m args below meth c hcx => go_nu_commonDivisor hcx a0 a2 w q h2)⟩
  · cases h
def CX7_lowest : eCo := [[some (.lload_n 0), some (.lload_n 2), some (.invokestatic 17), none, none, some (.lstore 5), none, some (.lload 5), none, some (.lconst 0), some (.lcmp), some (.ifCond .gt 7), none, none, some (.ldc2_w 20), none],
  [none, some (.lreturn), some (.iload 4), none, some (.ifCond .ne 7), none, none, some (.lload_n 0), some (.goto 4), none, none, some (.lload_n 2), some (.lload 5), none, some (.ldiv), some (.lreturn)]]
theorem dcX7_lowest : eDec cX7_lowest CX7_lowest := eDec_of (by decide +kernel)
def rs_nu_lowest : List (Nat × eR) := [(17, (1, 0, 2, -1)), (20, (3, 0, 0, -2))]
noncomputable def cs_nu_lowest : List (eF (Int64 × eW)) := [K_nu_commonDivisor]
noncomputable def f_nu_lowest (a0 : Int64) (a2 : Int64) (a4 : Int32) (w : eW) : Option (Int64 × eW) := ((f_nu_commonDivisor a0 a2 w).bind fun p1 => (if 0 < (lg_cmp p1.1 (0 : Int64)) then (if ¬ a4 = 0 then (if p1.1 = 0 then none else (some ((a2 / p1.1), p1.2))) else (if p1.1 = 0 then none else (some ((a0 / p1.1), p1.2)))) else (some ((-2 : Int64), p1.2))))
noncomputable def K_nu_lowest {ρ : Type} : eF ρ := fun as w k => match as with
  | [.long a0, .long a2, .int a4] => (f_nu_lowest a0 a2 a4 w).bind (fun p => k (some (.long p.1)) p.2)
  | _ => none
section
variable {p : Program} {l : Launch} {e : Env} {s : State} {m : MethodId} {args : Array Value} {below : List Frame} {meth : Method} {c : Code} {ad : Nat → Nat} {D : va_G} {cA : Nat → ClassId}
theorem lk_nu_lowest : ∀ q ∈ rs_nu_lowest, eLnk { frames := 2, cells := 0, slots := 0, locals := 90 } vwCl (eWd yX7_lowest cX7_lowest 7 (some .long)) SSc SHc.length RX7 q.1 q.2 := List.forall_mem_cons.mpr ⟨trivial, List.forall_mem_cons.mpr ⟨lkX7_20 eTb_wd, fun _ h => absurd h List.not_mem_nil⟩⟩
theorem hc_nu_lowest {x : Int64 × eW} : ∀ q ∈ rs_nu_lowest, eHc l { frames := 2, cells := 0, slots := 0, locals := 90 } ad D cA vwCl SHc SSc (eWd yX7_lowest cX7_lowest 7 (some .long)) RX7 cs_nu_lowest x q := List.forall_mem_cons.mpr ⟨(fun as w k h => let ⟨v, w2, h1, h2⟩ := ok_nu_commonDivisor as w k x h; ⟨v, w2, h1, eCal_of h2 ⟨rfl, rfl⟩ hdX7_commonDivisor (gvX7_17 eTb_wd)⟩), List.forall_mem_cons.mpr ⟨trivial, fun _ h => absurd h List.not_mem_nil⟩⟩
set_option maxRecDepth 100000 in
set_option maxHeartbeats 4000000 in
theorem go_nu_lowest (hcx : eCx p { frames := 2, cells := 0, slots := 0, locals := 90 } s m args meth c cX7_lowest RX7 7 ad D cA vwCl SHc SSc (eWd yX7_lowest cX7_lowest 7 (some .long)) (some .long)) (a0 : Int64) (a2 : Int64) (a4 : Int32) (w : eW) (x : Int64 × eW) (h : f_nu_lowest a0 a2 a4 w = some x) : eGq p l e { frames := 2, cells := 0, slots := 0, locals := 90 } s m args below meth c 7 ad D cA vwCl SHc rJ x 0 (eEnt [.long a0, .long a2, .int a4]) [] w := by
  have h : eRun SHc SSc 7 rs_nu_lowest (eCs cs_nu_lowest) rJ CX7_lowest [] (fun pc L st w => none) 17 true 0 [some (.long a0), none, some (.long a2), none, some (.int a4), none, none] [] w = some x := h
  refine eGo.wk (eRun_go hcx (eLnk_all lk_nu_lowest) (eHc_all hc_nu_lowest) rJ_ok dcX7_lowest [] _ (fun pc L st w hK => ?_) 17 true 0 _ _ w h) (eLe_wk ⟨rfl, rfl, rfl, trivial⟩)
  cases hK
end
set_option maxRecDepth 100000 in
set_option maxHeartbeats 4000000 in
theorem ok_nu_lowest {l : Launch} {ad : Nat → Nat} {D : va_G} {cA : Nat → ClassId} {ρ : Type} (as : List Value) (w : eW) (k : Option Value → eW → Option ρ) (x : ρ) (h : K_nu_lowest as w k = some x) : ∃ (v : Option Value) (w2 : eW), k v w2 = some x ∧ eMet l ad D cA vwCl SHc SSc yX7_lowest (eWd yX7_lowest cX7_lowest 7 (some .long)) { frames := 2, cells := 0, slots := 0, locals := 90 } as w v w2 := by
  unfold K_nu_lowest at h
  split at h
  · rename_i a0 a2 a4
    obtain ⟨q, h2, h3⟩ := Option.bind_eq_some_iff.mp h
    exact ⟨_, _, h3, eMet_of (by decide +kernel) rfl (by simp [eCat, Value.category]) rJ_ret (fun p e s m args below meth c hcx => go_nu_lowest hcx a0 a2 a4 w q h2)⟩
  · cases h
