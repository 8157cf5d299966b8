def CX11_unpaid : eCo := [[some (.iload_n 1), some (.invokestatic 162), none, none, some (.ifCond .ne 6), none, none, some (.bipush (-2)), none, some (.ireturn), some (.aload_n 0), some (.getfield 35), none, none, some (.aload_n 0), some (.getfield 28)],
  [none, none, some (.iconst 0), some (.iconst 0), some (.invokevirtual 181), none, none, some (.aload_n 0), some (.getfield 35), none, none, some (.aload_n 0), some (.getfield 28), none, none, some (.iload_n 1)],
  [some (.invokevirtual 185), none, none, some (.i2l), some (.ldc2_w 174), none, none, some (.lmul), some (.invokevirtual 188), none, none, some (.istore_n 2), some (.iload_n 2), some (.iconst 5), some (.if_icmp .gt 7), none],
  [none, some (.iload_n 2), some (.goto 4), none, none, some (.iconst (-1)), some (.ireturn)]]
theorem dcX11_unpaid : eDec cX11_unpaid CX11_unpaid := eDec_of (by decide +kernel)
def rs_xx_unpaid : List (Nat × eR) := [(28, (0, 10, 2, 2)), (35, (0, 10, 3, 2)), (162, (1, 0, 1, -1)), (174, (3, 0, 0, 100)), (181, (1, 1, 3, 3)), (185, (1, 2, 1, 4)), (188, (1, 3, 1, 3))]
noncomputable def cs_xx_unpaid : List (eF (Int32 × eW)) := [K_xx_isAmount, K_fa_arrange, K_fi_fallsOf, K_fa_firstUnpaid]
noncomputable def f_xx_unpaid (a1 : Int32) (w : eW) : Option (Int32 × eW) := ((f_xx_isAmount a1 w).bind fun p1 => (if ¬ p1.1 = 0 then ((f_fa_arrange (0 : Int32) (0 : Int32) p1.2).bind fun w2 => ((f_fi_fallsOf a1 w2).bind fun p3 => ((f_fa_firstUnpaid (((p3.1).toInt64) * (100 : Int64)) p3.2).bind fun p4 => (if (5 : Int32) < p4.1 then (some ((-1 : Int32), p4.2)) else (some (p4.1, p4.2)))))) else (some ((-2 : Int32), p1.2))))
noncomputable def K_xx_unpaid {ρ : Type} : eF ρ := fun as w k => match as with
  | [.ref r0, .int a1] => bif Nat.beq r0 38 then (f_xx_unpaid a1 w).bind (fun p => k (some (.int p.1)) p.2) else none
  | _ => none
section
variable {p : Program} {l : Launch} {e : Env} {s : State} {m : MethodId} {args : Array Value} {below : List Frame} {meth : Method} {c : Code} {ad : Nat → Nat} {D : va_G} {cA : Nat → ClassId}
theorem lk_xx_unpaid : ∀ q ∈ rs_xx_unpaid, eLnk { frames := 4, cells := 0, slots := 0, locals := 138 } vwCl (eWd yX11_unpaid cX11_unpaid 3 (some .int)) SSc SHc.length RX11 q.1 q.2 := List.forall_mem_cons.mpr ⟨lkX11_28 eTb_wd, List.forall_mem_cons.mpr ⟨lkX11_35 eTb_wd, List.forall_mem_cons.mpr ⟨trivial, List.forall_mem_cons.mpr ⟨lkX11_174 eTb_wd, List.forall_mem_cons.mpr ⟨trivial, List.forall_mem_cons.mpr ⟨trivial, List.forall_mem_cons.mpr ⟨trivial, fun _ h => absurd h List.not_mem_nil⟩⟩⟩⟩⟩⟩⟩
theorem hc_xx_unpaid {x : Int32 × eW} : ∀ q ∈ rs_xx_unpaid, eHc l { frames := 4, cells := 0, slots := 0, locals := 138 } ad D cA vwCl SHc SSc (eWd yX11_unpaid cX11_unpaid 3 (some .int)) RX11 cs_xx_unpaid x q := List.forall_mem_cons.mpr ⟨trivial, List.forall_mem_cons.mpr ⟨trivial, List.forall_mem_cons.mpr ⟨(fun as w k h => let ⟨v, w2, h1, h2⟩ := ok_xx_isAmount as w k x h; ⟨v, w2, h1, eCal_of h2 ⟨rfl, rfl⟩ hdX11_isAmount (gvX11_162 eTb_wd)⟩), List.forall_mem_cons.mpr ⟨trivial, List.forall_mem_cons.mpr ⟨(fun as w k h => let ⟨v, w2, h1, h2⟩ := ok_fa_arrange as w k x h; ⟨v, w2, h1, eCal_of h2 ⟨rfl, rfl⟩ hdX3_arrange (gvX11_181 eTb_wd)⟩), List.forall_mem_cons.mpr ⟨(fun as w k h => let ⟨v, w2, h1, h2⟩ := ok_fi_fallsOf as w k x h; ⟨v, w2, h1, eCal_of h2 ⟨rfl, rfl⟩ hdX4_fallsOf (gvX11_185 eTb_wd)⟩), List.forall_mem_cons.mpr ⟨(fun as w k h => let ⟨v, w2, h1, h2⟩ := ok_fa_firstUnpaid as w k x h; ⟨v, w2, h1, eCal_of h2 ⟨rfl, rfl⟩ hdX3_firstUnpaid (gvX11_188 eTb_wd)⟩), fun _ h => absurd h List.not_mem_nil⟩⟩⟩⟩⟩⟩⟩
set_option maxRecDepth 100000 in
set_option maxHeartbeats 4000000 in
theorem go_xx_unpaid (hcx : eCx p { frames := 4, cells := 0, slots := 0, locals := 138 } s m args meth c cX11_unpaid RX11 3 ad D cA vwCl SHc SSc (eWd yX11_unpaid cX11_unpaid 3 (some .int)) (some .int)) (a1 : Int32) (w : eW) (x : Int32 × eW) (h : f_xx_unpaid a1 w = some x) : eGq p l e { frames := 4, cells := 0, slots := 0, locals := 138 } s m args below meth c 3 ad D cA vwCl SHc rI x 0 (eEnt [.ref 38, .int a1]) [] w := by
  have h : eRun SHc SSc 3 rs_xx_unpaid (eCs cs_xx_unpaid) rI CX11_unpaid [] (fun pc L st w => none) 29 true 0 [some (.ref 38), some (.int a1), none] [] w = some x := h
  refine eGo.wk (eRun_go hcx (eLnk_all lk_xx_unpaid) (eHc_all hc_xx_unpaid) rI_ok dcX11_unpaid [] _ (fun pc L st w hK => ?_) 29 true 0 _ _ w h) (eLe_wk ⟨rfl, rfl, trivial⟩)
  cases hK
end
set_option maxRecDepth 100000 in
set_option maxHeartbeats 4000000 in
theorem ok_xx_unpaid {l : Launch} {ad : Nat → Nat} {D : va_G} {cA : Nat → ClassId} {ρ : Type} (as : List Value) (w : eW) (k : Option Value → eW → Option ρ) (x : ρ) (h : K_xx_unpaid as w k = some x) : ∃ (v : Option Value) (w2 : eW), k v w2 = some x ∧ eMet l ad D cA vwCl SHc SSc yX11_unpaid (eWd yX11_unpaid cX11_unpaid 3 (some .int)) { frames := 4, cells := 0, slots := 0, locals := 138 } as w v w2 := by
  unfold K_xx_unpaid at h
  split at h
  · rename_i r0 a1
    obtain ⟨h1, h5⟩ := eBif h
    clear h
    have h := h5
    clear h5
    have h1 := Nat.eq_of_beq_eq_true h1
    subst h1
    obtain ⟨q, h2, h3⟩ := Option.bind_eq_some_iff.mp h
    exact ⟨_, _, h3, eMet_of (by decide +kernel) rfl (by simp [eCat, Value.category]) rI_ret (fun p e s m args below meth c hcx => go_xx_unpaid hcx a1 w q h2)⟩
  · cases h
def rs_fi_put : List (Nat × eR) := [(9, (0, 4, 3, 2)), (35, (1, 0, 1, 4))]
noncomputable def cs_fi_put : List (eF (eW)) := [K_fi_isHolder]
noncomputable def f_fi_put (a1 : Int32) (a2 : Int32) (a3 : Int32) (w : eW) : Option (eW) := ((f_fi_isHolder a1 w).bind fun p1 => (if p1.1 = 0 then (some p1.2) else (if a2 < 0 then (some p1.2) else (if (10 : Int32) ≤ a2 then (some p1.2) else (eChk ((a1 * (10 : Int32)) + a2) 120 (some (eU1 p1.2 7 (Int32.toNatClampNeg ((a1 * (10 : Int32)) + a2)) a3)))))))
noncomputable def K_fi_put {ρ : Type} : eF ρ := fun as w k => match as with
  | [.ref r0, .int a1, .int a2, .int a3] => bif Nat.beq r0 8 then (f_fi_put a1 a2 a3 w).bind (fun w => k none w) else none
  | _ => none
section
variable {p : Program} {l : Launch} {e : Env} {s : State} {m : MethodId} {args : Array Value} {below : List Frame} {meth : Method} {c : Code} {ad : Nat → Nat} {D : va_G} {cA : Nat → ClassId}
theorem lk_fi_put : ∀ q ∈ rs_fi_put, eLnk { frames := 1, cells := 0, slots := 0, locals := 21 } vwCl (eWd yX4_put cX4_put 4 none) SSc SHc.length RX4 q.1 q.2 := List.forall_mem_cons.mpr ⟨lkX4_9 eTb_wd, List.forall_mem_cons.mpr ⟨trivial, fun _ h => absurd h List.not_mem_nil⟩⟩
theorem hc_fi_put {x : eW} : ∀ q ∈ rs_fi_put, eHc l { frames := 1, cells := 0, slots := 0, locals := 21 } ad D cA vwCl SHc SSc (eWd yX4_put cX4_put 4 none) RX4 cs_fi_put x q := List.forall_mem_cons.mpr ⟨trivial, List.forall_mem_cons.mpr ⟨(fun as w k h => let ⟨v, w2, h1, h2⟩ := ok_fi_isHolder as w k x h; ⟨v, w2, h1, eCal_of h2 ⟨rfl, rfl⟩ hdX4_isHolder (gvX4_35 eTb_wd)⟩), fun _ h => absurd h List.not_mem_nil⟩⟩
set_option maxRecDepth 100000 in
set_option maxHeartbeats 4000000 in
theorem go_fi_put (hcx : eCx p { frames := 1, cells := 0, slots := 0, locals := 21 } s m args meth c cX4_put RX4 4 ad D cA vwCl SHc SSc (eWd yX4_put cX4_put 4 none) (none)) (a1 : Int32) (a2 : Int32) (a3 : Int32) (w : eW) (x : eW) (h : f_fi_put a1 a2 a3 w = some x) : eGq p l e { frames := 1, cells := 0, slots := 0, locals := 21 } s m args below meth c 4 ad D cA vwCl SHc rV x 0 (eEnt [.ref 8, .int a1, .int a2, .int a3]) [] w := by
  have h : eRun SHc SSc 4 rs_fi_put (eCs cs_fi_put) rV CX4_put [] (fun pc L st w => none) 21 true 0 [some (.ref 8), some (.int a1), some (.int a2), some (.int a3)] [] w = some x := h
  refine eGo.wk (eRun_go hcx (eLnk_all lk_fi_put) (eHc_all hc_fi_put) rV_ok dcX4_put [] _ (fun pc L st w hK => ?_) 21 true 0 _ _ w h) (eLe_wk ⟨rfl, rfl, rfl, rfl, trivial⟩)
  cases hK
end
set_option maxRecDepth 100000 in
set_option maxHeartbeats 4000000 in
theorem ok_fi_put {l : Launch} {ad : Nat → Nat} {D : va_G} {cA : Nat → ClassId} {ρ : Type} (as : List Value) (w : eW) (k : Option Value → eW → Option ρ) (x : ρ) (h : K_fi_put as w k = some x) : ∃ (v : Option Value) (w2 : eW), k v w2 = some x ∧ eMet l ad D cA vwCl SHc SSc yX4_put (eWd yX4_put cX4_put 4 none) { frames := 1, cells := 0, slots := 0, locals := 21 } as w v w2 := by
  unfold K_fi_put at h
  split at h
  · rename_i r0 a1 a2 a3
    obtain ⟨h1, h5⟩ := eBif h
    clear h
    have h := h5
    clear h5
    have h1 := Nat.eq_of_beq_eq_true h1
    subst h1
    obtain ⟨q, h2, h3⟩ := Option.bind_eq_some_iff.mp h
    exact ⟨_, _, h3, eMet_of (by decide +kernel) rfl (by simp [eCat, Value.category]) rV_ret (fun p e s m args below meth c hcx => go_fi_put hcx a1 a2 a3 w q h2)⟩
  · cases h
def CX11_wants : eCo := [[some (.aload_n 0), some (.iload_n 1), some (.iload_n 2), some (.invokevirtual 129), none, none, some (.ifCond .eq 21), none, none, some (.aload_n 0), some (.getfield 28), none, none, some (.iload_n 1), some (.invokevirtual 192), none],
  [none, some (.ifCond .eq 10), none, none, some (.iload_n 3), some (.invokestatic 171), none, none, some (.ifCond .ne 6), none, none, some (.bipush (-2)), none, some (.ireturn), some (.aload_n 0), some (.getfield 28)],
  [none, none, some (.iload_n 1), some (.iconst 4), some (.invokevirtual 121), none, none, some (.istore 4), none, some (.iconst 0), some (.istore 5), none, some (.sipush 401), none, none, some (.istore 6)],
  [none, some (.iconst 0), some (.istore 7), none, some (.iload 7), none, some (.bipush 32), none, some (.if_icmp .ge 73), none, none, some (.iload 5), none, some (.iload 6), none, some (.if_icmp .ge 66)],
  [none, none, some (.iload 5), none, some (.iload 6), none, some (.iadd), some (.iconst 2), some (.idiv), some (.istore 8), none, some (.aload_n 0), some (.getfield 28), none, none, some (.iload_n 1)],
  [some (.iconst 4), some (.iload 8), none, some (.invokevirtual 195), none, none, some (.aload_n 0), some (.iload_n 2), some (.invokevirtual 138), none, none, some (.aload_n 0), some (.getfield 35), none, none, some (.iload_n 1)],
  [some (.iload_n 3), some (.i2l), some (.ldc2_w 174), none, none, some (.lmul), some (.lconst 1), some (.iconst 0), some (.invokevirtual 198), none, none, some (.ifCond .eq 10), none, none, some (.iload 8), none],
  [some (.istore 6), none, some (.goto 9), none, none, some (.iload 8), none, some (.iconst 1), some (.iadd), some (.istore 5), none, some (.iinc 7 1), none, none, some (.goto (-74)), none],
  [none, some (.aload_n 0), some (.getfield 28), none, none, some (.iload_n 1), some (.iconst 4), some (.iload 4), none, some (.invokevirtual 195), none, none, some (.iload 5), none, some (.sipush 400), none],
  [none, some (.if_icmp .gt 8), none, none, some (.iload 5), none, some (.goto 4), none, none, some (.iconst (-1)), some (.ireturn)]]
theorem dcX11_wants : eDec cX11_wants CX11_wants := eDec_of (by decide +kernel)
def rs_xx_wants : List (Nat × eR) := [(28, (0, 10, 2, 2)), (35, (0, 10, 3, 2)), (121, (1, 3, 2, 4)), (129, (1, 0, 2, 10)), (138, (1, 5, 1, 10)), (171, (1, 2, 1, -1)), (174, (3, 0, 0, 100)), (192, (1, 1, 1, 4)), (195, (1, 4, 3, 4)), (198, (1, 6, 4, 3))]
noncomputable def cs_xx_wants : List (eF (Int32 × eW)) := [K_xx_isAsked, K_fi_isClass, K_xx_isUnits, K_fi_fact, K_fi_put, K_xx_pour, K_fa_reaches]
noncomputable def f_xx_wants_L52 : Nat → Int32 → Int32 → Int32 → Int32 → Int32 → Int32 → Int32 → eW → Option (Int32 × eW)
  | 0, _, _, _, _, _, _, _, _ => none
  | n + 1, a1, a2, a3, a4, a5, a6, a7, w => (if (32 : Int32) ≤ a7 then ((f_fi_put a1 (4 : Int32) a4 w).bind fun w5 => (if (400 : Int32) < a5 then (some ((-1 : Int32), w5)) else (some (a5, w5)))) else (if a6 ≤ a5 then ((f_fi_put a1 (4 : Int32) a4 w).bind fun w6 => (if (400 : Int32) < a5 then (some ((-1 : Int32), w6)) else (some (a5, w6)))) else ((f_fi_put a1 (4 : Int32) ((a5 + a6) / (2 : Int32)) w).bind fun w7 => ((f_xx_pour a2 w7).bind fun w8 => ((f_fa_reaches a1 (((a3).toInt64) * (100 : Int64)) (1 : Int64) (0 : Int32) w8).bind fun p9 => (if p9.1 = 0 then (f_xx_wants_L52 n a1 a2 a3 a4 (((a5 + a6) / (2 : Int32)) + (1 : Int32)) a6 (a7 + (1 : Int32)) p9.2) else (f_xx_wants_L52 n a1 a2 a3 a4 a5 ((a5 + a6) / (2 : Int32)) (a7 + (1 : Int32)) p9.2)))))))
noncomputable def f_xx_wants (a1 : Int32) (a2 : Int32) (a3 : Int32) (w : eW) : Option (Int32 × eW) := ((f_xx_isAsked a1 a2 w).bind fun p1 => (if p1.1 = 0 then (some ((-2 : Int32), p1.2)) else ((f_fi_isClass a1 p1.2).bind fun p2 => (if p2.1 = 0 then (some ((-2 : Int32), p2.2)) else ((f_xx_isUnits a3 p2.2).bind fun p3 => (if ¬ p3.1 = 0 then ((f_fi_fact a1 (4 : Int32) p3.2).bind fun p4 => (f_xx_wants_L52 eFu a1 a2 a3 p4.1 (0 : Int32) (401 : Int32) (0 : Int32) p4.2)) else (some ((-2 : Int32), p3.2))))))))
noncomputable def K_xx_wants {ρ : Type} : eF ρ := fun as w k => match as with
  | [.ref r0, .int a1, .int a2, .int a3] => bif Nat.beq r0 38 then (f_xx_wants a1 a2 a3 w).bind (fun p => k (some (.int p.1)) p.2) else none
  | _ => none
section
variable {p : Program} {l : Launch} {e : Env} {s : State} {m : MethodId} {args : Array Value} {below : List Frame} {meth : Method} {c : Code} {ad : Nat → Nat} {D : va_G} {cA : Nat → ClassId}
theorem lk_xx_wants : ∀ q ∈ rs_xx_wants, eLnk { frames := 5, cells := 0, slots := 0, locals := 159 } vwCl (eWd yX11_wants cX11_wants 9 (some .int)) SSc SHc.length RX11 q.1 q.2 := List.forall_mem_cons.mpr ⟨lkX11_28 eTb_wd, List.forall_mem_cons.mpr ⟨lkX11_35 eTb_wd, List.forall_mem_cons.mpr ⟨trivial, List.forall_mem_cons.mpr ⟨trivial, List.forall_mem_cons.mpr ⟨trivial, List.forall_mem_cons.mpr ⟨trivial, List.forall_mem_cons.mpr ⟨lkX11_174 eTb_wd, List.forall_mem_cons.mpr ⟨trivial, List.forall_mem_cons.mpr ⟨trivial, List.forall_mem_cons.mpr ⟨trivial, fun _ h => absurd h List.not_mem_nil⟩⟩⟩⟩⟩⟩⟩⟩⟩⟩
theorem hc_xx_wants {x : Int32 × eW} : ∀ q ∈ rs_xx_wants, eHc l { frames := 5, cells := 0, slots := 0, locals := 159 } ad D cA vwCl SHc SSc (eWd yX11_wants cX11_wants 9 (some .int)) RX11 cs_xx_wants x q := List.forall_mem_cons.mpr ⟨trivial, List.forall_mem_cons.mpr ⟨trivial, List.forall_mem_cons.mpr ⟨(fun as w k h => let ⟨v, w2, h1, h2⟩ := ok_fi_fact as w k x h; ⟨v, w2, h1, eCal_of h2 ⟨rfl, rfl⟩ hdX4_fact (gvX11_121 eTb_wd)⟩), List.forall_mem_cons.mpr ⟨(fun as w k h => let ⟨v, w2, h1, h2⟩ := ok_xx_isAsked as w k x h; ⟨v, w2, h1, eCal_of h2 ⟨rfl, rfl⟩ hdX11_isAsked (gvX11_129 eTb_wd)⟩), List.forall_mem_cons.mpr ⟨(fun as w k h => let ⟨v, w2, h1, h2⟩ := ok_xx_pour as w k x h; ⟨v, w2, h1, eCal_of h2 ⟨rfl, rfl⟩ hdX11_pour (gvX11_138 eTb_wd)⟩), List.forall_mem_cons.mpr ⟨(fun as w k h => let ⟨v, w2, h1, h2⟩ := ok_xx_isUnits as w k x h; ⟨v, w2, h1, eCal_of h2 ⟨rfl, rfl⟩ hdX11_isUnits (gvX11_171 eTb_wd)⟩), List.forall_mem_cons.mpr ⟨trivial, List.forall_mem_cons.mpr ⟨(fun as w k h => let ⟨v, w2, h1, h2⟩ := ok_fi_isClass as w k x h; ⟨v, w2, h1, eCal_of h2 ⟨rfl, rfl⟩ hdX4_isClass (gvX11_192 eTb_wd)⟩), List.forall_mem_cons.mpr ⟨(fun as w k h => let ⟨v, w2, h1, h2⟩ := ok_fi_put as w k x h; ⟨v, w2, h1, eCal_of h2 ⟨rfl, rfl⟩ hdX4_put (gvX11_195 eTb_wd)⟩), List.forall_mem_cons.mpr ⟨(fun as w k h => let ⟨v, w2, h1, h2⟩ := ok_fa_reaches as w k x h; ⟨v, w2, h1, eCal_of h2 ⟨rfl, rfl⟩ hdX3_reaches (gvX11_198 eTb_wd)⟩), fun _ h => absurd h List.not_mem_nil⟩⟩⟩⟩⟩⟩⟩⟩⟩⟩
noncomputable def kk_xx_wants_52 (n : Nat) : eK (Int32 × eW) := fun pc L st w => bif Nat.beq pc 52 then (lR L 0 38 ((lI L 1).bind fun a1 => (lI L 2).bind fun a2 => (lI L 3).bind fun a3 => (lI L 4).bind fun a4 => (lI L 5).bind fun a5 => (lI L 6).bind fun a6 => (lI L 7).bind fun a7 => sE st (f_xx_wants_L52 n a1 a2 a3 a4 a5 a6 a7 w))) else none
set_option maxRecDepth 100000 in
set_option maxHeartbeats 4000000 in
theorem go_xx_wants_L52 (hcx : eCx p { frames := 5, cells := 0, slots := 0, locals := 159 } s m args meth c cX11_wants RX11 9 ad D cA vwCl SHc SSc (eWd yX11_wants cX11_wants 9 (some .int)) (some .int)) {x : Int32 × eW} : ∀ (n : Nat) (a1 : Int32) (a2 : Int32) (a3 : Int32) (a4 : Int32) (a5 : Int32) (a6 : Int32) (a7 : Int32) (w : eW), f_xx_wants_L52  n a1 a2 a3 a4 a5 a6 a7 w = some x → eGq p l e { frames := 5, cells := 0, slots := 0, locals := 159 } s m args below meth c 9 ad D cA vwCl SHc rI x 52 [some (.ref 38), some (.int a1), some (.int a2), some (.int a3), some (.int a4), some (.int a5), some (.int a6), some (.int a7), none] [] w := by
  intro n
  induction n with
  | zero => intro a1 a2 a3 a4 a5 a6 a7 w h; exact nomatch (show (none : Option (Int32 × eW)) = some x from h)
  | succ n ih =>
    intro a1 a2 a3 a4 a5 a6 a7 w h
    have h : eRun SHc SSc 9 rs_xx_wants (eCs cs_xx_wants) rI CX11_wants [52] (kk_xx_wants_52  n) 41 true 52 [some (.ref 38), some (.int a1), some (.int a2), some (.int a3), some (.int a4), some (.int a5), some (.int a6), some (.int a7), none] [] w = some x := h
    refine eRun_go hcx (eLnk_all lk_xx_wants) (eHc_all hc_xx_wants) rI_ok dcX11_wants [52] _ (fun pc L st w hK => ?_) 41 true 52 _ _ w h
    unfold kk_xx_wants_52 at hK
    rcases eCut hK with ⟨hpc, hK⟩ | hK
    · subst hpc
      obtain ⟨e0, hK_1⟩ := lR_some hK
      obtain ⟨a1, e1, hK_2⟩ := lI_some hK_1
      obtain ⟨a2, e2, hK_3⟩ := lI_some hK_2
      obtain ⟨a3, e3, hK_4⟩ := lI_some hK_3
      obtain ⟨a4, e4, hK_5⟩ := lI_some hK_4
      obtain ⟨a5, e5, hK_6⟩ := lI_some hK_5
      obtain ⟨a6, e6, hK_7⟩ := lI_some hK_6
      obtain ⟨a7, e7, hK_8⟩ := lI_some hK_7
      obtain ⟨hst9, hK_9⟩ := sE_some hK_8
      subst hst9
      exact eGo.wk (ih a1 a2 a3 a4 a5 a6 a7 w hK_9) (eLe_wk ⟨e0, e1, e2, e3, e4, e5, e6, e7, trivial⟩)
    cases hK
set_option maxRecDepth 100000 in
set_option maxHeartbeats 4000000 in
theorem go_xx_wants (hcx : eCx p { frames := 5, cells := 0, slots := 0, locals := 159 } s m args meth c cX11_wants RX11 9 ad D cA vwCl SHc SSc (eWd yX11_wants cX11_wants 9 (some .int)) (some .int)) (a1 : Int32) (a2 : Int32) (a3 : Int32) (w : eW) (x : Int32 × eW) (h : f_xx_wants a1 a2 a3 w = some x) : eGq p l e { frames := 5, cells := 0, slots := 0, locals := 159 } s m args below meth c 9 ad D cA vwCl SHc rI x 0 (eEnt [.ref 38, .int a1, .int a2, .int a3]) [] w := by
  have h : eRun SHc SSc 9 rs_xx_wants (eCs cs_xx_wants) rI CX11_wants [52] (fun pc L st w => bif Nat.beq pc 52 then (lR L 0 38 ((lI L 1).bind fun a1 => (lI L 2).bind fun a2 => (lI L 3).bind fun a3 => (lI L 4).bind fun a4 => (lI L 5).bind fun a5 => (lI L 6).bind fun a6 => (lI L 7).bind fun a7 => sE st (f_xx_wants_L52 eFu a1 a2 a3 a4 a5 a6 a7 w))) else none) 28 true 0 [some (.ref 38), some (.int a1), some (.int a2), some (.int a3), none, none, none, none, none] [] w = some x := h
  refine eGo.wk (eRun_go hcx (eLnk_all lk_xx_wants) (eHc_all hc_xx_wants) rI_ok dcX11_wants [52] _ (fun pc L st w hK => ?_) 28 true 0 _ _ w h) (eLe_wk ⟨rfl, rfl, rfl, rfl, trivial⟩)
  rcases eCut hK with ⟨hpc, hK⟩ | hK
  · subst hpc
    obtain ⟨e0, hK_1⟩ := lR_some hK
    obtain ⟨a1, e1, hK_2⟩ := lI_some hK_1
    obtain ⟨a2, e2, hK_3⟩ := lI_some hK_2
    obtain ⟨a3, e3, hK_4⟩ := lI_some hK_3
    obtain ⟨a4, e4, hK_5⟩ := lI_some hK_4
    obtain ⟨a5, e5, hK_6⟩ := lI_some hK_5
    obtain ⟨a6, e6, hK_7⟩ := lI_some hK_6
    obtain ⟨a7, e7, hK_8⟩ := lI_some hK_7
    obtain ⟨hst9, hK_9⟩ := sE_some hK_8
    subst hst9
    exact eGo.wk (go_xx_wants_L52 hcx  eFu a1 a2 a3 a4 a5 a6 a7 w hK_9) (eLe_wk ⟨e0, e1, e2, e3, e4, e5, e6, e7, trivial⟩)
  cases hK
end
set_option maxRecDepth 100000 in
set_option maxHeartbeats 4000000 in
theorem ok_xx_wants {l : Launch} {ad : Nat → Nat} {D : va_G} {cA : Nat → ClassId} {ρ : Type} (as : List Value) (w : eW) (k : Option Value → eW → Option ρ) (x : ρ) (h : K_xx_wants as w k = some x) : ∃ (v : Option Value) (w2 : eW), k v w2 = some x ∧ eMet l ad D cA vwCl SHc SSc yX11_wants (eWd yX11_wants cX11_wants 9 (some .int)) { frames := 5, cells := 0, slots := 0, locals := 159 } as w v w2 := by
  unfold K_xx_wants at h
  split at h
  · rename_i r0 a1 a2 a3
    obtain ⟨h1, h5⟩ := eBif h
    clear h
    have h := h5
    clear h5
    have h1 := Nat.eq_of_beq_eq_true h1
    subst h1
    obtain ⟨q, h2, h3⟩ := Option.bind_eq_some_iff.mp h
    exact ⟨_, _, h3, eMet_of (by decide +kernel) rfl (by simp [eCat, Value.category]) rI_ret (fun p e s m args below meth c hcx => go_xx_wants hcx a1 a2 a3 w q h2)⟩
  · cases h
def CX4_takesShares : eCo := [[some (.aload_n 0), some (.iload_n 1), some (.invokevirtual 35), none, none, some (.ifCond .eq 26), none, none, some (.iload_n 2), some (.iconst 1), some (.if_icmp .lt 21), none, none, some (.iload_n 2), some (.sipush 9999), none],
  [none, some (.aload_n 0), some (.iload_n 1), some (.iconst 1), some (.invokevirtual 39), none, none, some (.isub), some (.if_icmp .gt 7), none, none, some (.iconst 1), some (.goto 4), none, none, some (.iconst 0)],
  [some (.ireturn)]]
theorem dcX4_takesShares : eDec cX4_takesShares CX4_takesShares := eDec_of (by decide +kernel)
def rs_fi_takesShares : List (Nat × eR) := [(35, (1, 0, 1, 4)), (39, (1, 1, 2, 4))]
noncomputable def cs_fi_takesShares : List (eF (Int32 × eW)) := [K_fi_isHolder, K_fi_fact]
noncomputable def f_fi_takesShares (a1 : Int32) (a2 : Int32) (w : eW) : Option (Int32 × eW) := ((f_fi_isHolder a1 w).bind fun p1 => (if p1.1 = 0 then (some ((0 : Int32), p1.2)) else (if a2 < (1 : Int32) then (some ((0 : Int32), p1.2)) else ((f_fi_fact a1 (1 : Int32) p1.2).bind fun p2 => (if ((9999 : Int32) - p2.1) < a2 then (some ((0 : Int32), p2.2)) else (some ((1 : Int32), p2.2)))))))
noncomputable def K_fi_takesShares {ρ : Type} : eF ρ := fun as w k => match as with
  | [.ref r0, .int a1, .int a2] => bif Nat.beq r0 8 then (f_fi_takesShares a1 a2 w).bind (fun p => k (some (.int p.1)) p.2) else none
  | _ => none
section
variable {p : Program} {l : Launch} {e : Env} {s : State} {m : MethodId} {args : Array Value} {below : List Frame} {meth : Method} {c : Code} {ad : Nat → Nat} {D : va_G} {cA : Nat → ClassId}
theorem lk_fi_takesShares : ∀ q ∈ rs_fi_takesShares, eLnk { frames := 1, cells := 0, slots := 0, locals := 22 } vwCl (eWd yX4_takesShares cX4_takesShares 3 (some .boolean)) SSc SHc.length RX4 q.1 q.2 := List.forall_mem_cons.mpr ⟨trivial, List.forall_mem_cons.mpr ⟨trivial, fun _ h => absurd h List.not_mem_nil⟩⟩
theorem hc_fi_takesShares {x : Int32 × eW} : ∀ q ∈ rs_fi_takesShares, eHc l { frames := 1, cells := 0, slots := 0, locals := 22 } ad D cA vwCl SHc SSc (eWd yX4_takesShares cX4_takesShares 3 (some .boolean)) RX4 cs_fi_takesShares x q := List.forall_mem_cons.mpr ⟨(fun as w k h => let ⟨v, w2, h1, h2⟩ := ok_fi_isHolder as w k x h; ⟨v, w2, h1, eCal_of h2 ⟨rfl, rfl⟩ hdX4_isHolder (gvX4_35 eTb_wd)⟩), List.forall_mem_cons.mpr ⟨(fun as w k h => let ⟨v, w2, h1, h2⟩ := ok_fi_fact as w k x h; ⟨v, w2, h1, eCal_of h2 ⟨rfl, rfl⟩ hdX4_fact (gvX4_39 eTb_wd)⟩), fun _ h => absurd h List.not_mem_nil⟩⟩
set_option maxRecDepth 100000 in
set_option maxHeartbeats 4000000 in
theorem go_fi_takesShares (hcx : eCx p { frames := 1, cells := 0, slots := 0, locals := 22 } s m args meth c cX4_takesShares RX4 3 ad D cA vwCl SHc SSc (eWd yX4_takesShares cX4_takesShares 3 (some .boolean)) (some .boolean)) (a1 : Int32) (a2 : Int32) (w : eW) (x : Int32 × eW) (h : f_fi_takesShares a1 a2 w = some x) : eGq p l e { frames := 1, cells := 0, slots := 0, locals := 22 } s m args below meth c 3 ad D cA vwCl SHc rZ x 0 (eEnt [.ref 8, .int a1, .int a2]) [] w := by
  have h : eRun SHc SSc 3 rs_fi_takesShares (eCs cs_fi_takesShares) rZ CX4_takesShares [] (fun pc L st w => none) 20 true 0 [some (.ref 8), some (.int a1), some (.int a2)] [] w = some x := h
  refine eGo.wk (eRun_go hcx (eLnk_all lk_fi_takesShares) (eHc_all hc_fi_takesShares) rZ_ok dcX4_takesShares [] _ (fun pc L st w hK => ?_) 20 true 0 _ _ w h) (eLe_wk ⟨rfl, rfl, rfl, trivial⟩)
  cases hK
end
set_option maxRecDepth 100000 in
set_option maxHeartbeats 4000000 in
theorem ok_fi_takesShares {l : Launch} {ad : Nat → Nat} {D : va_G} {cA : Nat → ClassId} {ρ : Type} (as : List Value) (w : eW) (k : Option Value → eW → Option ρ) (x : ρ) (h : K_fi_takesShares as w k = some x) : ∃ (v : Option Value) (w2 : eW), k v w2 = some x ∧ eMet l ad D cA vwCl SHc SSc yX4_takesShares (eWd yX4_takesShares cX4_takesShares 3 (some .boolean)) { frames := 1, cells := 0, slots := 0, locals := 22 } as w v w2 := by
  unfold K_fi_takesShares at h
  split at h
  · rename_i r0 a1 a2
    obtain ⟨h1, h5⟩ := eBif h
    clear h
    have h := h5
    clear h5
    have h1 := Nat.eq_of_beq_eq_true h1
    subst h1
    obtain ⟨q, h2, h3⟩ := Option.bind_eq_some_iff.mp h
    exact ⟨_, _, h3, eMet_of (by decide +kernel) rfl (by simp [eCat, Value.category]) rZ_ret (fun p e s m args below meth c hcx => go_fi_takesShares hcx a1 a2 w q h2)⟩
  · cases h
