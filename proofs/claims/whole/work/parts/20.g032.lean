def CX7_grown : eCo := [[some (.dload_n 0), some (.dstore 4), none, some (.iconst 0), some (.istore 6), none, some (.iload 6), none, some (.iload_n 3), some (.if_icmp .ge 22), none, none, some (.dload 4), none, some (.dconst 1), some (.iload_n 2)],
  [some (.i2d), some (.ldc2_w 32), none, none, some (.ddiv), some (.dadd), some (.dmul), some (.dstore 4), none, some (.iinc 6 1), none, none, some (.goto (-22)), none, none, some (.dload 4)],
  [none, some (.dreturn)]]
theorem dcX7_grown : eDec cX7_grown CX7_grown := eDec_of (by decide +kernel)
def rs_nu_grown : List (Nat × eR) := [(32, (4, 4636737291354636288, 0, 0))]
noncomputable def cs_nu_grown : List (eF (UInt64 × eW)) := []
noncomputable def f_nu_grown_L6 : Nat → Int32 → Int32 → UInt64 → Int32 → eW → Option (UInt64 × eW)
  | 0, _, _, _, _, _ => none
  | n + 1, a2, a3, a4, a6, w => (if a3 ≤ a6 then (some (a4, w)) else (if (FP.ddiv (FP.i2d a2) (4636737291354636288 : UInt64)) &&& 0x7fffffffffffffff ≤ 0x7ff0000000000000 then (if (FP.dadd FP.dconst1 (FP.ddiv (FP.i2d a2) (4636737291354636288 : UInt64))) &&& 0x7fffffffffffffff ≤ 0x7ff0000000000000 then (if (FP.dmul a4 (FP.dadd FP.dconst1 (FP.ddiv (FP.i2d a2) (4636737291354636288 : UInt64)))) &&& 0x7fffffffffffffff ≤ 0x7ff0000000000000 then (f_nu_grown_L6 n a2 a3 (FP.dmul a4 (FP.dadd FP.dconst1 (FP.ddiv (FP.i2d a2) (4636737291354636288 : UInt64)))) (a6 + (1 : Int32)) w) else none) else none) else none))
noncomputable def f_nu_grown (a0 : UInt64) (a2 : Int32) (a3 : Int32) (w : eW) : Option (UInt64 × eW) := (f_nu_grown_L6 eFu a2 a3 a0 (0 : Int32) w)
noncomputable def K_nu_grown {ρ : Type} : eF ρ := fun as w k => match as with
  | [.double a0, .int a2, .int a3] => (f_nu_grown a0 a2 a3 w).bind (fun p => k (some (.double p.1)) p.2)
  | _ => none
section
variable {p : Program} {l : Launch} {e : Env} {s : State} {m : MethodId} {args : Array Value} {below : List Frame} {meth : Method} {c : Code} {ad : Nat → Nat} {D : va_G} {cA : Nat → ClassId}
theorem lk_nu_grown : ∀ q ∈ rs_nu_grown, eLnk { frames := 0, cells := 0, slots := 0, locals := 0 } vwCl (eWd yX7_grown cX7_grown 7 (some .double)) SSc SHc.length RX7 q.1 q.2 := List.forall_mem_cons.mpr ⟨lkX7_32 eTb_wd, fun _ h => absurd h List.not_mem_nil⟩
theorem hc_nu_grown {x : UInt64 × eW} : ∀ q ∈ rs_nu_grown, eHc l { frames := 0, cells := 0, slots := 0, locals := 0 } ad D cA vwCl SHc SSc (eWd yX7_grown cX7_grown 7 (some .double)) RX7 cs_nu_grown x q := List.forall_mem_cons.mpr ⟨trivial, fun _ h => absurd h List.not_mem_nil⟩
noncomputable def kk_nu_grown_6 (n : Nat) : eK (UInt64 × eW) := fun pc L st w => bif Nat.beq pc 6 then ((lI L 2).bind fun a2 => (lI L 3).bind fun a3 => (lD L 4).bind fun a4 => (lI L 6).bind fun a6 => sE st (f_nu_grown_L6 n a2 a3 a4 a6 w)) else none
set_option maxRecDepth 100000 in
set_option maxHeartbeats 4000000 in
theorem go_nu_grown_L6 (hcx : eCx p { frames := 0, cells := 0, slots := 0, locals := 0 } s m args meth c cX7_grown RX7 7 ad D cA vwCl SHc SSc (eWd yX7_grown cX7_grown 7 (some .double)) (some .double)) {x : UInt64 × eW} : ∀ (n : Nat) (a2 : Int32) (a3 : Int32) (a4 : UInt64) (a6 : Int32) (w : eW), f_nu_grown_L6  n a2 a3 a4 a6 w = some x → eGq p l e { frames := 0, cells := 0, slots := 0, locals := 0 } s m args below meth c 7 ad D cA vwCl SHc rD x 6 [none, none, some (.int a2), some (.int a3), some (.double a4), none, some (.int a6)] [] w := by
  intro n
  induction n with
  | zero => intro a2 a3 a4 a6 w h; exact nomatch (show (none : Option (UInt64 × eW)) = some x from h)
  | succ n ih =>
    intro a2 a3 a4 a6 w h
    have h : eRun SHc SSc 7 rs_nu_grown (eCs cs_nu_grown) rD CX7_grown [6] (kk_nu_grown_6  n) 17 true 6 [none, none, some (.int a2), some (.int a3), some (.double a4), none, some (.int a6)] [] w = some x := h
    refine eRun_go hcx (eLnk_all lk_nu_grown) (eHc_all hc_nu_grown) rD_ok dcX7_grown [6] _ (fun pc L st w hK => ?_) 17 true 6 _ _ w h
    unfold kk_nu_grown_6 at hK
    rcases eCut hK with ⟨hpc, hK⟩ | hK
    · subst hpc
      obtain ⟨a2, e2, hK_1⟩ := lI_some hK
      obtain ⟨a3, e3, hK_2⟩ := lI_some hK_1
      obtain ⟨a4, e4, hK_3⟩ := lD_some hK_2
      obtain ⟨a6, e6, hK_4⟩ := lI_some hK_3
      obtain ⟨hst9, hK_5⟩ := sE_some hK_4
      subst hst9
      exact eGo.wk (ih a2 a3 a4 a6 w hK_5) (eLe_wk ⟨e2, e3, e4, e6, trivial⟩)
    cases hK
set_option maxRecDepth 100000 in
set_option maxHeartbeats 4000000 in
theorem go_nu_grown (hcx : eCx p { frames := 0, cells := 0, slots := 0, locals := 0 } s m args meth c cX7_grown RX7 7 ad D cA vwCl SHc SSc (eWd yX7_grown cX7_grown 7 (some .double)) (some .double)) (a0 : UInt64) (a2 : Int32) (a3 : Int32) (w : eW) (x : UInt64 × eW) (h : f_nu_grown a0 a2 a3 w = some x) : eGq p l e { frames := 0, cells := 0, slots := 0, locals := 0 } s m args below meth c 7 ad D cA vwCl SHc rD x 0 (eEnt [.double a0, .int a2, .int a3]) [] w := by
  have h : eRun SHc SSc 7 rs_nu_grown (eCs cs_nu_grown) rD CX7_grown [6] (fun pc L st w => bif Nat.beq pc 6 then ((lI L 2).bind fun a2 => (lI L 3).bind fun a3 => (lD L 4).bind fun a4 => (lI L 6).bind fun a6 => sE st (f_nu_grown_L6 eFu a2 a3 a4 a6 w)) else none) 7 true 0 [some (.double a0), none, some (.int a2), some (.int a3), none, none, none] [] w = some x := h
  refine eGo.wk (eRun_go hcx (eLnk_all lk_nu_grown) (eHc_all hc_nu_grown) rD_ok dcX7_grown [6] _ (fun pc L st w hK => ?_) 7 true 0 _ _ w h) (eLe_wk ⟨rfl, rfl, rfl, trivial⟩)
  rcases eCut hK with ⟨hpc, hK⟩ | hK
  · subst hpc
    obtain ⟨a2, e2, hK_1⟩ := lI_some hK
    obtain ⟨a3, e3, hK_2⟩ := lI_some hK_1
    obtain ⟨a4, e4, hK_3⟩ := lD_some hK_2
    obtain ⟨a6, e6, hK_4⟩ := lI_some hK_3
    obtain ⟨hst9, hK_5⟩ := sE_some hK_4
    subst hst9
    exact eGo.wk (go_nu_grown_L6 hcx  eFu a2 a3 a4 a6 w hK_5) (eLe_wk ⟨e2, e3, e4, e6, trivial⟩)
  cases hK
end
set_option maxRecDepth 100000 in
set_option maxHeartbeats 4000000 in
theorem ok_nu_grown {l : Launch} {ad : Nat → Nat} {D : va_G} {cA : Nat → ClassId} {ρ : Type} (as : List Value) (w : eW) (k : Option Value → eW → Option ρ) (x : ρ) (h : K_nu_grown as w k = some x) : ∃ (v : Option Value) (w2 : eW), k v w2 = some x ∧ eMet l ad D cA vwCl SHc SSc yX7_grown (eWd yX7_grown cX7_grown 7 (some .double)) { frames := 0, cells := 0, slots := 0, locals := 0 } as w v w2 := by
  unfold K_nu_grown at h
  split at h
  · rename_i a0 a2 a3
    obtain ⟨q, h2, h3⟩ := Option.bind_eq_some_iff.mp h
    exact ⟨_, _, h3, eMet_of (by decide +kernel) rfl (by simp [eCat, Value.category]) rD_ret (fun p e s m args below meth c hcx => go_nu_grown hcx a0 a2 a3 w q h2)⟩
  · cases h
def CX11_yields : eCo := [[some (.aload_n 0), some (.iload_n 1), some (.iload_n 2), some (.invokevirtual 129), none, none, some (.ifCond .eq 25), none, none, some (.aload_n 0), some (.getfield 28), none, none, some (.iload_n 1), some (.invokevirtual 192), none],
  [none, some (.ifCond .eq 14), none, none, some (.iload_n 3), some (.iconst 1), some (.if_icmp .lt 9), none, none, some (.iload_n 3), some (.bipush 20), none, some (.if_icmp .le 6), none, none, some (.bipush (-2))],
  [none, some (.ireturn), some (.aload_n 0), some (.iload_n 2), some (.invokevirtual 138), none, none, some (.aload_n 0), some (.getfield 35), none, none, some (.iload_n 1), some (.invokevirtual 141), none, none, some (.aload_n 0)],
  [some (.getfield 35), none, none, some (.getfield 145), none, none, some (.invokestatic 300), none, none, some (.dstore 4), none, some (.aload_n 0), some (.getfield 28), none, none, some (.iload_n 1)],
  [some (.invokevirtual 312), none, none, some (.i2d), some (.dstore 6), none, some (.iconst (-1)), some (.istore 8), none, some (.sipush 999), none, none, some (.istore 9), none, some (.iconst 0), some (.istore 10)],
  [none, some (.iload 10), none, some (.bipush 32), none, some (.if_icmp .ge 57), none, none, some (.iload 8), none, some (.iload 9), none, some (.if_icmp .ge 50), none, none, some (.iload 8)],
  [none, some (.iload 9), none, some (.iload 8), none, some (.isub), some (.iconst 1), some (.iadd), some (.iconst 2), some (.idiv), some (.iadd), some (.istore 11), none, some (.dload 6), none, some (.iload 11)],
  [none, some (.iload_n 3), some (.invokestatic 319), none, none, some (.dload 4), none, some (.dcmp .g), some (.ifCond .gt 10), none, none, some (.iload 11), none, some (.istore 8), none, some (.goto 9)],
  [none, none, some (.iload 11), none, some (.iconst 1), some (.isub), some (.istore 9), none, some (.iinc 10 1), none, none, some (.goto (-58)), none, none, some (.iload 8), none],
  [some (.ireturn)]]
theorem dcX11_yields : eDec cX11_yields CX11_yields := eDec_of (by decide +kernel)
def rs_xx_yields : List (Nat × eR) := [(28, (0, 10, 2, 2)), (35, (0, 10, 3, 2)), (129, (1, 0, 2, 10)), (138, (1, 2, 1, 10)), (141, (1, 3, 1, 3)), (145, (0, 3, 5, 1)), (192, (1, 1, 1, 4)), (300, (1, 4, 2, -1)), (312, (1, 5, 1, 4)), (319, (1, 6, 3, -1))]
noncomputable def cs_xx_yields : List (eF (Int32 × eW)) := [K_xx_isAsked, K_fi_isClass, K_xx_pour, K_fa_aboveOf, K_nu_asDouble, K_fi_costOf, K_nu_grown]
noncomputable def f_xx_yields_L81 : Nat → Int32 → UInt64 → UInt64 → Int32 → Int32 → Int32 → eW → Option (Int32 × eW)
  | 0, _, _, _, _, _, _, _ => none
  | n + 1, a3, a4, a6, a8, a9, a10, w => (if (32 : Int32) ≤ a10 then (some (a8, w)) else (if a9 ≤ a8 then (some (a8, w)) else ((f_nu_grown a6 (a8 + (((a9 - a8) + (1 : Int32)) / (2 : Int32))) a3 w).bind fun p7 => (if 0 < (Op.cmpValue (FP.dcmp p7.1 a4) CmpOp.g) then (f_xx_yields_L81 n a3 a4 a6 a8 ((a8 + (((a9 - a8) + (1 : Int32)) / (2 : Int32))) - (1 : Int32)) (a10 + (1 : Int32)) p7.2) else (f_xx_yields_L81 n a3 a4 a6 (a8 + (((a9 - a8) + (1 : Int32)) / (2 : Int32))) a9 (a10 + (1 : Int32)) p7.2)))))
noncomputable def f_xx_yields (a1 : Int32) (a2 : Int32) (a3 : Int32) (w : eW) : Option (Int32 × eW) := ((f_xx_isAsked a1 a2 w).bind fun p1 => (if p1.1 = 0 then (some ((-2 : Int32), p1.2)) else ((f_fi_isClass a1 p1.2).bind fun p2 => (if p2.1 = 0 then (some ((-2 : Int32), p2.2)) else (if a3 < (1 : Int32) then (some ((-2 : Int32), p2.2)) else (if a3 ≤ (20 : Int32) then ((f_xx_pour a2 p2.2).bind fun w3 => ((f_fa_aboveOf a1 w3).bind fun p4 => ((f_nu_asDouble p4.1 (p4.2.2 24 5) p4.2).bind fun p5 => ((f_fi_costOf a1 p5.2).bind fun p6 => (f_xx_yields_L81 eFu a3 p5.1 (FP.i2d p6.1) (-1 : Int32) (999 : Int32) (0 : Int32) p6.2))))) else (some ((-2 : Int32), p2.2))))))))
noncomputable def K_xx_yields {ρ : Type} : eF ρ := fun as w k => match as with
  | [.ref r0, .int a1, .int a2, .int a3] => bif Nat.beq r0 38 then (f_xx_yields a1 a2 a3 w).bind (fun p => k (some (.int p.1)) p.2) else none
  | _ => none
section
variable {p : Program} {l : Launch} {e : Env} {s : State} {m : MethodId} {args : Array Value} {below : List Frame} {meth : Method} {c : Code} {ad : Nat → Nat} {D : va_G} {cA : Nat → ClassId}
theorem lk_xx_yields : ∀ q ∈ rs_xx_yields, eLnk { frames := 5, cells := 0, slots := 0, locals := 159 } vwCl (eWd yX11_yields cX11_yields 12 (some .int)) SSc SHc.length RX11 q.1 q.2 := List.forall_mem_cons.mpr ⟨lkX11_28 eTb_wd, List.forall_mem_cons.mpr ⟨lkX11_35 eTb_wd, List.forall_mem_cons.mpr ⟨trivial, List.forall_mem_cons.mpr ⟨trivial, List.forall_mem_cons.mpr ⟨trivial, List.forall_mem_cons.mpr ⟨lkX11_145 eTb_wd, List.forall_mem_cons.mpr ⟨trivial, List.forall_mem_cons.mpr ⟨trivial, List.forall_mem_cons.mpr ⟨trivial, List.forall_mem_cons.mpr ⟨trivial, fun _ h => absurd h List.not_mem_nil⟩⟩⟩⟩⟩⟩⟩⟩⟩⟩
theorem hc_xx_yields {x : Int32 × eW} : ∀ q ∈ rs_xx_yields, eHc l { frames := 5, cells := 0, slots := 0, locals := 159 } ad D cA vwCl SHc SSc (eWd yX11_yields cX11_yields 12 (some .int)) RX11 cs_xx_yields x q := List.forall_mem_cons.mpr ⟨trivial, List.forall_mem_cons.mpr ⟨trivial, List.forall_mem_cons.mpr ⟨(fun as w k h => let ⟨v, w2, h1, h2⟩ := ok_xx_isAsked as w k x h; ⟨v, w2, h1, eCal_of h2 ⟨rfl, rfl⟩ hdX11_isAsked (gvX11_129 eTb_wd)⟩), List.forall_mem_cons.mpr ⟨(fun as w k h => let ⟨v, w2, h1, h2⟩ := ok_xx_pour as w k x h; ⟨v, w2, h1, eCal_of h2 ⟨rfl, rfl⟩ hdX11_pour (gvX11_138 eTb_wd)⟩), List.forall_mem_cons.mpr ⟨(fun as w k h => let ⟨v, w2, h1, h2⟩ := ok_fa_aboveOf as w k x h; ⟨v, w2, h1, eCal_of h2 ⟨rfl, rfl⟩ hdX3_aboveOf (gvX11_141 eTb_wd)⟩), List.forall_mem_cons.mpr ⟨trivial, List.forall_mem_cons.mpr ⟨(fun as w k h => let ⟨v, w2, h1, h2⟩ := ok_fi_isClass as w k x h; ⟨v, w2, h1, eCal_of h2 ⟨rfl, rfl⟩ hdX4_isClass (gvX11_192 eTb_wd)⟩), List.forall_mem_cons.mpr ⟨(fun as w k h => let ⟨v, w2, h1, h2⟩ := ok_nu_asDouble as w k x h; ⟨v, w2, h1, eCal_of h2 ⟨rfl, rfl⟩ hdX7_asDouble (gvX11_300 eTb_wd)⟩), List.forall_mem_cons.mpr ⟨(fun as w k h => let ⟨v, w2, h1, h2⟩ := ok_fi_costOf as w k x h; ⟨v, w2, h1, eCal_of h2 ⟨rfl, rfl⟩ hdX4_costOf (gvX11_312 eTb_wd)⟩), List.forall_mem_cons.mpr ⟨(fun as w k h => let ⟨v, w2, h1, h2⟩ := ok_nu_grown as w k x h; ⟨v, w2, h1, eCal_of h2 ⟨rfl, rfl⟩ hdX7_grown (gvX11_319 eTb_wd)⟩), fun _ h => absurd h List.not_mem_nil⟩⟩⟩⟩⟩⟩⟩⟩⟩⟩
noncomputable def kk_xx_yields_81 (n : Nat) : eK (Int32 × eW) := fun pc L st w => bif Nat.beq pc 81 then ((lI L 3).bind fun a3 => (lD L 4).bind fun a4 => (lD L 6).bind fun a6 => (lI L 8).bind fun a8 => (lI L 9).bind fun a9 => (lI L 10).bind fun a10 => sE st (f_xx_yields_L81 n a3 a4 a6 a8 a9 a10 w)) else none
set_option maxRecDepth 100000 in
set_option maxHeartbeats 4000000 in
theorem go_xx_yields_L81 (hcx : eCx p { frames := 5, cells := 0, slots := 0, locals := 159 } s m args meth c cX11_yields RX11 12 ad D cA vwCl SHc SSc (eWd yX11_yields cX11_yields 12 (some .int)) (some .int)) {x : Int32 × eW} : ∀ (n : Nat) (a3 : Int32) (a4 : UInt64) (a6 : UInt64) (a8 : Int32) (a9 : Int32) (a10 : Int32) (w : eW), f_xx_yields_L81  n a3 a4 a6 a8 a9 a10 w = some x → eGq p l e { frames := 5, cells := 0, slots := 0, locals := 159 } s m args below meth c 12 ad D cA vwCl SHc rI x 81 [none, none, none, some (.int a3), some (.double a4), none, some (.double a6), none, some (.int a8), some (.int a9), some (.int a10), none] [] w := by
  intro n
  induction n with
  | zero => intro a3 a4 a6 a8 a9 a10 w h; exact nomatch (show (none : Option (Int32 × eW)) = some x from h)
  | succ n ih =>
    intro a3 a4 a6 a8 a9 a10 w h
    have h : eRun SHc SSc 12 rs_xx_yields (eCs cs_xx_yields) rI CX11_yields [81] (kk_xx_yields_81  n) 32 true 81 [none, none, none, some (.int a3), some (.double a4), none, some (.double a6), none, some (.int a8), some (.int a9), some (.int a10), none] [] w = some x := h
    refine eRun_go hcx (eLnk_all lk_xx_yields) (eHc_all hc_xx_yields) rI_ok dcX11_yields [81] _ (fun pc L st w hK => ?_) 32 true 81 _ _ w h
    unfold kk_xx_yields_81 at hK
    rcases eCut hK with ⟨hpc, hK⟩ | hK
    · subst hpc
      obtain ⟨a3, e3, hK_1⟩ := lI_some hK
      obtain ⟨a4, e4, hK_2⟩ := lD_some hK_1
      obtain ⟨a6, e6, hK_3⟩ := lD_some hK_2
      obtain ⟨a8, e8, hK_4⟩ := lI_some hK_3
      obtain ⟨a9, e9, hK_5⟩ := lI_some hK_4
      obtain ⟨a10, e10, hK_6⟩ := lI_some hK_5
      obtain ⟨hst9, hK_7⟩ := sE_some hK_6
      subst hst9
      exact eGo.wk (ih a3 a4 a6 a8 a9 a10 w hK_7) (eLe_wk ⟨e3, e4, e6, e8, e9, e10, trivial⟩)
    cases hK
set_option maxRecDepth 100000 in
set_option maxHeartbeats 4000000 in
theorem go_xx_yields (hcx : eCx p { frames := 5, cells := 0, slots := 0, locals := 159 } s m args meth c cX11_yields RX11 12 ad D cA vwCl SHc SSc (eWd yX11_yields cX11_yields 12 (some .int)) (some .int)) (a1 : Int32) (a2 : Int32) (a3 : Int32) (w : eW) (x : Int32 × eW) (h : f_xx_yields a1 a2 a3 w = some x) : eGq p l e { frames := 5, cells := 0, slots := 0, locals := 159 } s m args below meth c 12 ad D cA vwCl SHc rI x 0 (eEnt [.ref 38, .int a1, .int a2, .int a3]) [] w := by
  have h : eRun SHc SSc 12 rs_xx_yields (eCs cs_xx_yields) rI CX11_yields [81] (fun pc L st w => bif Nat.beq pc 81 then ((lI L 3).bind fun a3 => (lD L 4).bind fun a4 => (lD L 6).bind fun a6 => (lI L 8).bind fun a8 => (lI L 9).bind fun a9 => (lI L 10).bind fun a10 => sE st (f_xx_yields_L81 eFu a3 a4 a6 a8 a9 a10 w)) else none) 43 true 0 [some (.ref 38), some (.int a1), some (.int a2), some (.int a3), none, none, none, none, none, none, none, none] [] w = some x := h
  refine eGo.wk (eRun_go hcx (eLnk_all lk_xx_yields) (eHc_all hc_xx_yields) rI_ok dcX11_yields [81] _ (fun pc L st w hK => ?_) 43 true 0 _ _ w h) (eLe_wk ⟨rfl, rfl, rfl, rfl, trivial⟩)
  rcases eCut hK with ⟨hpc, hK⟩ | hK
  · subst hpc
    obtain ⟨a3, e3, hK_1⟩ := lI_some hK
    obtain ⟨a4, e4, hK_2⟩ := lD_some hK_1
    obtain ⟨a6, e6, hK_3⟩ := lD_some hK_2
    obtain ⟨a8, e8, hK_4⟩ := lI_some hK_3
    obtain ⟨a9, e9, hK_5⟩ := lI_some hK_4
    obtain ⟨a10, e10, hK_6⟩ := lI_some hK_5
    obtain ⟨hst9, hK_7⟩ := sE_some hK_6
    subst hst9
    exact eGo.wk (go_xx_yields_L81 hcx  eFu a3 a4 a6 a8 a9 a10 w hK_7) (eLe_wk ⟨e3, e4, e6, e8, e9, e10, trivial⟩)
  cases hK
end
set_option maxRecDepth 100000 in
set_option maxHeartbeats 4000000 in
theorem ok_xx_yields {l : Launch} {ad : Nat → Nat} {D : va_G} {cA : Nat → ClassId} {ρ : Type} (as : List Value) (w : eW) (k : Option Value → eW → Option ρ) (x : ρ) (h : K_xx_yields as w k = some x) : ∃ (v : Option Value) (w2 : eW), k v w2 = some x ∧ eMet l ad D cA vwCl SHc SSc yX11_yields (eWd yX11_yields cX11_yields 12 (some .int)) { frames := 5, cells := 0, slots := 0, locals := 159 } as w v w2 := by
  unfold K_xx_yields at h
  split at h
  · rename_i r0 a1 a2 a3
    obtain ⟨h1, h5⟩ := eBif h
    clear h
    have h := h5
    clear h5
    have h1 := Nat.eq_of_beq_eq_true h1
    subst h1
    obtain ⟨q, h2, h3⟩ := Option.bind_eq_some_iff.mp h
    exact ⟨_, _, h3, eMet_of (by decide +kernel) rfl (by simp [eCat, Value.category]) rI_ret (fun p e s m args below meth c hcx => go_xx_yields hcx a1 a2 a3 w q h2)⟩
  · cases h
def CX11_grant : eCo := [[some (.aload_n 0), some (.getfield 28), none, none, some (.iload_n 1), some (.iload_n 2), some (.invokevirtual 202), none, none, some (.ifCond .ne 5), none, none, some (.iconst (-1)), some (.ireturn), some (.aload_n 0), some (.getfield 28)],
  [none, none, some (.iload_n 1), some (.iconst 1), some (.invokevirtual 121), none, none, some (.istore_n 3), some (.aload_n 0), some (.getfield 70), none, none, some (.iconst 2), some (.iload_n 1), some (.iload_n 3), some (.invokevirtual 287)],
  [none, none, some (.aload_n 0), some (.getfield 28), none, none, some (.iload_n 1), some (.iconst 1), some (.iload_n 3), some (.iload_n 2), some (.iadd), some (.invokevirtual 195), none, none, some (.iload_n 3), some (.iload_n 2)],
  [some (.iadd), some (.ireturn)]]
theorem dcX11_grant : eDec cX11_grant CX11_grant := eDec_of (by decide +kernel)
def rs_xx_grant : List (Nat × eR) := [(28, (0, 10, 2, 2)), (70, (0, 10, 8, 2)), (121, (1, 1, 2, 4)), (195, (1, 3, 3, 4)), (202, (1, 0, 2, 4)), (287, (1, 2, 3, 0))]
noncomputable def cs_xx_grant : List (eF (Int32 × eW)) := [K_fi_takesShares, K_fi_fact, K_ac_keep, K_fi_put]
noncomputable def f_xx_grant (a1 : Int32) (a2 : Int32) (w : eW) : Option (Int32 × eW) := ((f_fi_takesShares a1 a2 w).bind fun p1 => (if ¬ p1.1 = 0 then ((f_fi_fact a1 (1 : Int32) p1.2).bind fun p2 => ((f_ac_keep (2 : Int32) a1 p2.1 p2.2).bind fun w3 => ((f_fi_put a1 (1 : Int32) (p2.1 + a2) w3).bind fun w4 => (some ((p2.1 + a2), w4))))) else (some ((-1 : Int32), p1.2))))
noncomputable def K_xx_grant {ρ : Type} : eF ρ := fun as w k => match as with
  | [.ref r0, .int a1, .int a2] => bif Nat.beq r0 38 then (f_xx_grant a1 a2 w).bind (fun p => k (some (.int p.1)) p.2) else none
  | _ => none
section
variable {p : Program} {l : Launch} {e : Env} {s : State} {m : MethodId} {args : Array Value} {below : List Frame} {meth : Method} {c : Code} {ad : Nat → Nat} {D : va_G} {cA : Nat → ClassId}
theorem lk_xx_grant : ∀ q ∈ rs_xx_grant, eLnk { frames := 2, cells := 0, slots := 0, locals := 83 } vwCl (eWd yX11_grant cX11_grant 4 (some .int)) SSc SHc.length RX11 q.1 q.2 := List.forall_mem_cons.mpr ⟨lkX11_28 eTb_wd, List.forall_mem_cons.mpr ⟨lkX11_70 eTb_wd, List.forall_mem_cons.mpr ⟨trivial, List.forall_mem_cons.mpr ⟨trivial, List.forall_mem_cons.mpr ⟨trivial, List.forall_mem_cons.mpr ⟨trivial, fun _ h => absurd h List.not_mem_nil⟩⟩⟩⟩⟩⟩
theorem hc_xx_grant {x : Int32 × eW} : ∀ q ∈ rs_xx_grant, eHc l { frames := 2, cells := 0, slots := 0, locals := 83 } ad D cA vwCl SHc SSc (eWd yX11_grant cX11_grant 4 (some .int)) RX11 cs_xx_grant x q := List.forall_mem_cons.mpr ⟨trivial, List.forall_mem_cons.mpr ⟨trivial, List.forall_mem_cons.mpr ⟨(fun as w k h => let ⟨v, w2, h1, h2⟩ := ok_fi_fact as w k x h; ⟨v, w2, h1, eCal_of h2 ⟨rfl, rfl⟩ hdX4_fact (gvX11_121 eTb_wd)⟩), List.forall_mem_cons.mpr ⟨(fun as w k h => let ⟨v, w2, h1, h2⟩ := ok_fi_put as w k x h; ⟨v, w2, h1, eCal_of h2 ⟨rfl, rfl⟩ hdX4_put (gvX11_195 eTb_wd)⟩), List.forall_mem_cons.mpr ⟨(fun as w k h => let ⟨v, w2, h1, h2⟩ := ok_fi_takesShares as w k x h; ⟨v, w2, h1, eCal_of h2 ⟨rfl, rfl⟩ hdX4_takesShares (gvX11_202 eTb_wd)⟩), List.forall_mem_cons.mpr ⟨(fun as w k h => let ⟨v, w2, h1, h2⟩ := ok_ac_keep as w k x h; ⟨v, w2, h1, eCal_of h2 ⟨rfl, rfl⟩ hdX0_keep (gvX11_287 eTb_wd)⟩), fun _ h => absurd h List.not_mem_nil⟩⟩⟩⟩⟩⟩
set_option maxRecDepth 100000 in
set_option maxHeartbeats 4000000 in
theorem go_xx_grant (hcx : eCx p { frames := 2, cells := 0, slots := 0, locals := 83 } s m args meth c cX11_grant RX11 4 ad D cA vwCl SHc SSc (eWd yX11_grant cX11_grant 4 (some .int)) (some .int)) (a1 : Int32) (a2 : Int32) (w : eW) (x : Int32 × eW) (h : f_xx_grant a1 a2 w = some x) : eGq p l e { frames := 2, cells := 0, slots := 0, locals := 83 } s m args below meth c 4 ad D cA vwCl SHc rI x 0 (eEnt [.ref 38, .int a1, .int a2]) [] w := by
  have h : eRun SHc SSc 4 rs_xx_grant (eCs cs_xx_grant) rI CX11_grant [] (fun pc L st w => none) 32 true 0 [some (.ref 38), some (.int a1), some (.int a2), none] [] w = some x := h
  refine eGo.wk (eRun_go hcx (eLnk_all lk_xx_grant) (eHc_all hc_xx_grant) rI_ok dcX11_grant [] _ (fun pc L st w hK => ?_) 32 true 0 _ _ w h) (eLe_wk ⟨rfl, rfl, rfl, trivial⟩)
  cases hK
end
set_option maxRecDepth 100000 in
set_option maxHeartbeats 4000000 in
theorem ok_xx_grant {l : Launch} {ad : Nat → Nat} {D : va_G} {cA : Nat → ClassId} {ρ : Type} (as : List Value) (w : eW) (k : Option Value → eW → Option ρ) (x : ρ) (h : K_xx_grant as w k = some x) : ∃ (v : Option Value) (w2 : eW), k v w2 = some x ∧ eMet l ad D cA vwCl SHc SSc yX11_grant (eWd yX11_grant cX11_grant 4 (some .int)) { frames := 2, cells := 0, slots := 0, locals := 83 } as w v w2 := by
  unfold K_xx_grant at h
  split at h
  · rename_i r0 a1 a2
    obtain ⟨h1, h5⟩ := eBif h
    clear h
    have h := h5
    clear h5
    have h1 := Nat.eq_of_beq_eq_true h1
    subst h1
    obtain ⟨q, h2, h3⟩ := Option.bind_eq_some_iff.mp h
    exact ⟨_, _, h3, eMet_of (by decide +kernel) rfl (by simp [eCat, Value.category]) rI_ret (fun p e s m args below meth c hcx => go_xx_grant hcx a1 a2 w q h2)⟩
  · cases h
