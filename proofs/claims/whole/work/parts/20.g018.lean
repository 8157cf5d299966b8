def CX3_reaches : eCo := [[some (.aload_n 0), some (.iload_n 1), some (.invokevirtual 128), none, none, some (.aload_n 0), some (.getfield 29), none, none, some (.lload_n 2), some (.lload 4), none, some (.invokestatic 132), none, none, some (.istore 7)],
  [none, some (.iload 7), none, some (.ifCond .gt 13), none, none, some (.iload 7), none, some (.ifCond .ne 12), none, none, some (.iload 6), none, some (.ifCond .ne 7), none, none],
  [some (.iconst 1), some (.goto 4), none, none, some (.iconst 0), some (.ireturn)]]
theorem dcX3_reaches : eDec cX3_reaches CX3_reaches := eDec_of (by decide +kernel)
def rs_fa_reaches : List (Nat × eR) := [(29, (0, 3, 5, 1)), (128, (1, 0, 1, 3)), (132, (1, 1, 4, -1))]
noncomputable def cs_fa_reaches : List (eF (Int32 × eW)) := [K_fa_aboveOf, K_nu_compareFractions]
noncomputable def f_fa_reaches (a1 : Int32) (a2 : Int64) (a4 : Int64) (a6 : Int32) (w : eW) : Option (Int32 × eW) := ((f_fa_aboveOf a1 w).bind fun p1 => ((f_nu_compareFractions p1.1 (p1.2.2 24 5) a2 a4 p1.2).bind fun p2 => (if 0 < p2.1 then (some ((1 : Int32), p2.2)) else (if ¬ p2.1 = 0 then (some ((0 : Int32), p2.2)) else (if ¬ a6 = 0 then (some ((0 : Int32), p2.2)) else (some ((1 : Int32), p2.2)))))))
noncomputable def K_fa_reaches {ρ : Type} : eF ρ := fun as w k => match as with
  | [.ref r0, .int a1, .long a2, .long a4, .int a6] => bif Nat.beq r0 24 then (f_fa_reaches a1 a2 a4 a6 w).bind (fun p => k (some (.int p.1)) p.2) else none
  | _ => none
section
variable {p : Program} {l : Launch} {e : Env} {s : State} {m : MethodId} {args : Array Value} {below : List Frame} {meth : Method} {c : Code} {ad : Nat → Nat} {D : va_G} {cA : Nat → ClassId}
theorem lk_fa_reaches : ∀ q ∈ rs_fa_reaches, eLnk { frames := 2, cells := 0, slots := 0, locals := 64 } vwCl (eWd yX3_reaches cX3_reaches 8 (some .boolean)) SSc SHc.length RX3 q.1 q.2 := List.forall_mem_cons.mpr ⟨lkX3_29 eTb_wd, List.forall_mem_cons.mpr ⟨trivial, List.forall_mem_cons.mpr ⟨trivial, fun _ h => absurd h List.not_mem_nil⟩⟩⟩
theorem hc_fa_reaches {x : Int32 × eW} : ∀ q ∈ rs_fa_reaches, eHc l { frames := 2, cells := 0, slots := 0, locals := 64 } ad D cA vwCl SHc SSc (eWd yX3_reaches cX3_reaches 8 (some .boolean)) RX3 cs_fa_reaches x q := List.forall_mem_cons.mpr ⟨trivial, List.forall_mem_cons.mpr ⟨(fun as w k h => let ⟨v, w2, h1, h2⟩ := ok_fa_aboveOf as w k x h; ⟨v, w2, h1, eCal_of h2 ⟨rfl, rfl⟩ hdX3_aboveOf (gvX3_128 eTb_wd)⟩), List.forall_mem_cons.mpr ⟨(fun as w k h => let ⟨v, w2, h1, h2⟩ := ok_nu_compareFractions as w k x h; ⟨v, w2, h1, eCal_of h2 ⟨rfl, rfl⟩ hdX7_compareFractions (gvX3_132 eTb_wd)⟩), fun _ h => absurd h List.not_mem_nil⟩⟩⟩
set_option maxRecDepth 100000 in
set_option maxHeartbeats 4000000 in
theorem go_fa_reaches (hcx : eCx p { frames := 2, cells := 0, slots := 0, locals := 64 } s m args meth c cX3_reaches RX3 8 ad D cA vwCl SHc SSc (eWd yX3_reaches cX3_reaches 8 (some .boolean)) (some .boolean)) (a1 : Int32) (a2 : Int64) (a4 : Int64) (a6 : Int32) (w : eW) (x : Int32 × eW) (h : f_fa_reaches a1 a2 a4 a6 w = some x) : eGq p l e { frames := 2, cells := 0, slots := 0, locals := 64 } s m args below meth c 8 ad D cA vwCl SHc rZ x 0 (eEnt [.ref 24, .int a1, .long a2, .long a4, .int a6]) [] w := by
  have h : eRun SHc SSc 8 rs_fa_reaches (eCs cs_fa_reaches) rZ CX3_reaches [] (fun pc L st w => none) 20 true 0 [some (.ref 24), some (.int a1), some (.long a2), none, some (.long a4), none, some (.int a6), none] [] w = some x := h
  refine eGo.wk (eRun_go hcx (eLnk_all lk_fa_reaches) (eHc_all hc_fa_reaches) rZ_ok dcX3_reaches [] _ (fun pc L st w hK => ?_) 20 true 0 _ _ w h) (eLe_wk ⟨rfl, rfl, rfl, rfl, rfl, trivial⟩)
  cases hK
end
set_option maxRecDepth 100000 in
set_option maxHeartbeats 4000000 in
theorem ok_fa_reaches {l : Launch} {ad : Nat → Nat} {D : va_G} {cA : Nat → ClassId} {ρ : Type} (as : List Value) (w : eW) (k : Option Value → eW → Option ρ) (x : ρ) (h : K_fa_reaches as w k = some x) : ∃ (v : Option Value) (w2 : eW), k v w2 = some x ∧ eMet l ad D cA vwCl SHc SSc yX3_reaches (eWd yX3_reaches cX3_reaches 8 (some .boolean)) { frames := 2, cells := 0, slots := 0, locals := 64 } as w v w2 := by
  unfold K_fa_reaches at h
  split at h
  · rename_i r0 a1 a2 a4 a6
    obtain ⟨h1, h5⟩ := eBif h
    clear h
    have h := h5
    clear h5
    have h1 := Nat.eq_of_beq_eq_true h1
    subst h1
    obtain ⟨q, h2, h3⟩ := Option.bind_eq_some_iff.mp h
    exact ⟨_, _, h3, eMet_of (by decide +kernel) rfl (by simp [eCat, Value.category]) rZ_ret (fun p e s m args below meth c hcx => go_fa_reaches hcx a1 a2 a4 a6 w q h2)⟩
  · cases h
def CX11_firstAmount : eCo := [[some (.aload_n 0), some (.getfield 35), none, none, some (.aload_n 0), some (.getfield 28), none, none, some (.iconst 0), some (.iconst 0), some (.invokevirtual 181), none, none, some (.iconst 0), some (.istore 7), none],
  [some (.ldc_w 339), none, none, some (.istore 8), none, some (.iconst 0), some (.istore 9), none, some (.iload 9), none, some (.bipush 32), none, some (.if_icmp .ge 75), none, none, some (.iload 7)],
  [none, some (.iload 8), none, some (.if_icmp .ge 68), none, none, some (.iload 7), none, some (.iload 8), none, some (.iadd), some (.iconst 2), some (.idiv), some (.istore 10), none, some (.aload_n 0)],
  [some (.getfield 35), none, none, some (.aload_n 0), some (.getfield 28), none, none, some (.iload 10), none, some (.invokevirtual 185), none, none, some (.i2l), some (.ldc2_w 174), none, none],
  [some (.lmul), some (.invokevirtual 233), none, none, some (.aload_n 0), some (.getfield 35), none, none, some (.iload_n 1), some (.lload_n 2), some (.lload 4), none, some (.iload 6), none, some (.invokevirtual 198), none],
  [none, some (.ifCond .eq 10), none, none, some (.iload 10), none, some (.istore 8), none, some (.goto 9), none, none, some (.iload 10), none, some (.iconst 1), some (.iadd), some (.istore 7)],
  [none, some (.iinc 9 1), none, none, some (.goto (-76)), none, none, some (.iload 7), none, some (.ireturn)]]
theorem dcX11_firstAmount : eDec cX11_firstAmount CX11_firstAmount := eDec_of (by decide +kernel)
def rs_xx_firstAmount : List (Nat × eR) := [(28, (0, 10, 2, 2)), (35, (0, 10, 3, 2)), (174, (3, 0, 0, 100)), (181, (1, 0, 3, 3)), (185, (1, 1, 1, 4)), (198, (1, 3, 4, 3)), (233, (1, 2, 1, 3)), (339, (2, 0, 0, 10000000))]
noncomputable def cs_xx_firstAmount : List (eF (Int32 × eW)) := [K_fa_arrange, K_fi_fallsOf, K_fa_pour, K_fa_reaches]
noncomputable def f_xx_firstAmount_L24 : Nat → Int32 → Int64 → Int64 → Int32 → Int32 → Int32 → Int32 → eW → Option (Int32 × eW)
  | 0, _, _, _, _, _, _, _, _ => none
  | n + 1, a1, a2, a4, a6, a7, a8, a9, w => (if (32 : Int32) ≤ a9 then (some (a7, w)) else (if a8 ≤ a7 then (some (a7, w)) else ((f_fi_fallsOf ((a7 + a8) / (2 : Int32)) w).bind fun p2 => ((f_fa_pour (((p2.1).toInt64) * (100 : Int64)) p2.2).bind fun w3 => ((f_fa_reaches a1 a2 a4 a6 w3).bind fun p4 => (if p4.1 = 0 then (f_xx_firstAmount_L24 n a1 a2 a4 a6 (((a7 + a8) / (2 : Int32)) + (1 : Int32)) a8 (a9 + (1 : Int32)) p4.2) else (f_xx_firstAmount_L24 n a1 a2 a4 a6 a7 ((a7 + a8) / (2 : Int32)) (a9 + (1 : Int32)) p4.2)))))))
noncomputable def f_xx_firstAmount (a1 : Int32) (a2 : Int64) (a4 : Int64) (a6 : Int32) (w : eW) : Option (Int32 × eW) := ((f_fa_arrange (0 : Int32) (0 : Int32) w).bind fun w1 => (f_xx_firstAmount_L24 eFu a1 a2 a4 a6 (0 : Int32) (10000000 : Int32) (0 : Int32) w1))
noncomputable def K_xx_firstAmount {ρ : Type} : eF ρ := fun as w k => match as with
  | [.ref r0, .int a1, .long a2, .long a4, .int a6] => bif Nat.beq r0 38 then (f_xx_firstAmount a1 a2 a4 a6 w).bind (fun p => k (some (.int p.1)) p.2) else none
  | _ => none
section
variable {p : Program} {l : Launch} {e : Env} {s : State} {m : MethodId} {args : Array Value} {below : List Frame} {meth : Method} {c : Code} {ad : Nat → Nat} {D : va_G} {cA : Nat → ClassId}
theorem lk_xx_firstAmount : ∀ q ∈ rs_xx_firstAmount, eLnk { frames := 4, cells := 0, slots := 0, locals := 138 } vwCl (eWd yX11_firstAmount cX11_firstAmount 11 (some .int)) SSc SHc.length RX11 q.1 q.2 := List.forall_mem_cons.mpr ⟨lkX11_28 eTb_wd, List.forall_mem_cons.mpr ⟨lkX11_35 eTb_wd, List.forall_mem_cons.mpr ⟨lkX11_174 eTb_wd, List.forall_mem_cons.mpr ⟨trivial, List.forall_mem_cons.mpr ⟨trivial, List.forall_mem_cons.mpr ⟨trivial, List.forall_mem_cons.mpr ⟨trivial, List.forall_mem_cons.mpr ⟨lkX11_339 eTb_wd, fun _ h => absurd h List.not_mem_nil⟩⟩⟩⟩⟩⟩⟩⟩
theorem hc_xx_firstAmount {x : Int32 × eW} : ∀ q ∈ rs_xx_firstAmount, eHc l { frames := 4, cells := 0, slots := 0, locals := 138 } ad D cA vwCl SHc SSc (eWd yX11_firstAmount cX11_firstAmount 11 (some .int)) RX11 cs_xx_firstAmount x q := List.forall_mem_cons.mpr ⟨trivial, List.forall_mem_cons.mpr ⟨trivial, List.forall_mem_cons.mpr ⟨trivial, List.forall_mem_cons.mpr ⟨(fun as w k h => let ⟨v, w2, h1, h2⟩ := ok_fa_arrange as w k x h; ⟨v, w2, h1, eCal_of h2 ⟨rfl, rfl⟩ hdX3_arrange (gvX11_181 eTb_wd)⟩), List.forall_mem_cons.mpr ⟨(fun as w k h => let ⟨v, w2, h1, h2⟩ := ok_fi_fallsOf as w k x h; ⟨v, w2, h1, eCal_of h2 ⟨rfl, rfl⟩ hdX4_fallsOf (gvX11_185 eTb_wd)⟩), List.forall_mem_cons.mpr ⟨(fun as w k h => let ⟨v, w2, h1, h2⟩ := ok_fa_reaches as w k x h; ⟨v, w2, h1, eCal_of h2 ⟨rfl, rfl⟩ hdX3_reaches (gvX11_198 eTb_wd)⟩), List.forall_mem_cons.mpr ⟨(fun as w k h => let ⟨v, w2, h1, h2⟩ := ok_fa_pour as w k x h; ⟨v, w2, h1, eCal_of h2 ⟨rfl, rfl⟩ hdX3_pour (gvX11_233 eTb_wd)⟩), List.forall_mem_cons.mpr ⟨trivial, fun _ h => absurd h List.not_mem_nil⟩⟩⟩⟩⟩⟩⟩⟩
noncomputable def kk_xx_firstAmount_24 (n : Nat) : eK (Int32 × eW) := fun pc L st w => bif Nat.beq pc 24 then (lR L 0 38 ((lI L 1).bind fun a1 => (lJ L 2).bind fun a2 => (lJ L 4).bind fun a4 => (lI L 6).bind fun a6 => (lI L 7).bind fun a7 => (lI L 8).bind fun a8 => (lI L 9).bind fun a9 => sE st (f_xx_firstAmount_L24 n a1 a2 a4 a6 a7 a8 a9 w))) else none
set_option maxRecDepth 100000 in
set_option maxHeartbeats 4000000 in
theorem go_xx_firstAmount_L24 (hcx : eCx p { frames := 4, cells := 0, slots := 0, locals := 138 } s m args meth c cX11_firstAmount RX11 11 ad D cA vwCl SHc SSc (eWd yX11_firstAmount cX11_firstAmount 11 (some .int)) (some .int)) {x : Int32 × eW} : ∀ (n : Nat) (a1 : Int32) (a2 : Int64) (a4 : Int64) (a6 : Int32) (a7 : Int32) (a8 : Int32) (a9 : Int32) (w : eW), f_xx_firstAmount_L24  n a1 a2 a4 a6 a7 a8 a9 w = some x → eGq p l e { frames := 4, cells := 0, slots := 0, locals := 138 } s m args below meth c 11 ad D cA vwCl SHc rI x 24 [some (.ref 38), some (.int a1), some (.long a2), none, some (.long a4), none, some (.int a6), some (.int a7), some (.int a8), some (.int a9), none] [] w := by
  intro n
  induction n with
  | zero => intro a1 a2 a4 a6 a7 a8 a9 w h; exact nomatch (show (none : Option (Int32 × eW)) = some x from h)
  | succ n ih =>
    intro a1 a2 a4 a6 a7 a8 a9 w h
    have h : eRun SHc SSc 11 rs_xx_firstAmount (eCs cs_xx_firstAmount) rI CX11_firstAmount [24] (kk_xx_firstAmount_24  n) 39 true 24 [some (.ref 38), some (.int a1), some (.long a2), none, some (.long a4), none, some (.int a6), some (.int a7), some (.int a8), some (.int a9), none] [] w = some x := h
    refine eRun_go hcx (eLnk_all lk_xx_firstAmount) (eHc_all hc_xx_firstAmount) rI_ok dcX11_firstAmount [24] _ (fun pc L st w hK => ?_) 39 true 24 _ _ w h
    unfold kk_xx_firstAmount_24 at hK
    rcases eCut hK with ⟨hpc, hK⟩ | hK
    · subst hpc
      obtain ⟨e0, hK_1⟩ := lR_some hK
      obtain ⟨a1, e1, hK_2⟩ := lI_some hK_1
      obtain ⟨a2, e2, hK_3⟩ := lJ_some hK_2
      obtain ⟨a4, e4, hK_4⟩ := lJ_some hK_3
      obtain ⟨a6, e6, hK_5⟩ := lI_some hK_4
      obtain ⟨a7, e7, hK_6⟩ := lI_some hK_5
      obtain ⟨a8, e8, hK_7⟩ := lI_some hK_6
      obtain ⟨a9, e9, hK_8⟩ := lI_some hK_7
      obtain ⟨hst9, hK_9⟩ := sE_some hK_8
      subst hst9
      exact eGo.wk (ih a1 a2 a4 a6 a7 a8 a9 w hK_9) (eLe_wk ⟨e0, e1, e2, e4, e6, e7, e8, e9, trivial⟩)
    cases hK
set_option maxRecDepth 100000 in
set_option maxHeartbeats 4000000 in
theorem go_xx_firstAmount (hcx : eCx p { frames := 4, cells := 0, slots := 0, locals := 138 } s m args meth c cX11_firstAmount RX11 11 ad D cA vwCl SHc SSc (eWd yX11_firstAmount cX11_firstAmount 11 (some .int)) (some .int)) (a1 : Int32) (a2 : Int64) (a4 : Int64) (a6 : Int32) (w : eW) (x : Int32 × eW) (h : f_xx_firstAmount a1 a2 a4 a6 w = some x) : eGq p l e { frames := 4, cells := 0, slots := 0, locals := 138 } s m args below meth c 11 ad D cA vwCl SHc rI x 0 (eEnt [.ref 38, .int a1, .long a2, .long a4, .int a6]) [] w := by
  have h : eRun SHc SSc 11 rs_xx_firstAmount (eCs cs_xx_firstAmount) rI CX11_firstAmount [24] (fun pc L st w => bif Nat.beq pc 24 then (lR L 0 38 ((lI L 1).bind fun a1 => (lJ L 2).bind fun a2 => (lJ L 4).bind fun a4 => (lI L 6).bind fun a6 => (lI L 7).bind fun a7 => (lI L 8).bind fun a8 => (lI L 9).bind fun a9 => sE st (f_xx_firstAmount_L24 eFu a1 a2 a4 a6 a7 a8 a9 w))) else none) 16 true 0 [some (.ref 38), some (.int a1), some (.long a2), none, some (.long a4), none, some (.int a6), none, none, none, none] [] w = some x := h
  refine eGo.wk (eRun_go hcx (eLnk_all lk_xx_firstAmount) (eHc_all hc_xx_firstAmount) rI_ok dcX11_firstAmount [24] _ (fun pc L st w hK => ?_) 16 true 0 _ _ w h) (eLe_wk ⟨rfl, rfl, rfl, rfl, rfl, trivial⟩)
  rcases eCut hK with ⟨hpc, hK⟩ | hK
  · subst hpc
    obtain ⟨e0, hK_1⟩ := lR_some hK
    obtain ⟨a1, e1, hK_2⟩ := lI_some hK_1
    obtain ⟨a2, e2, hK_3⟩ := lJ_some hK_2
    obtain ⟨a4, e4, hK_4⟩ := lJ_some hK_3
    obtain ⟨a6, e6, hK_5⟩ := lI_some hK_4
    obtain ⟨a7, e7, hK_6⟩ := lI_some hK_5
    obtain ⟨a8, e8, hK_7⟩ := lI_some hK_6
    obtain ⟨a9, e9, hK_8⟩ := lI_some hK_7
    obtain ⟨hst9, hK_9⟩ := sE_some hK_8
    subst hst9
    exact eGo.wk (go_xx_firstAmount_L24 hcx  eFu a1 a2 a4 a6 a7 a8 a9 w hK_9) (eLe_wk ⟨e0, e1, e2, e4, e6, e7, e8, e9, trivial⟩)
  cases hK
end
set_option maxRecDepth 100000 in
set_option maxHeartbeats 4000000 in
theorem ok_xx_firstAmount {l : Launch} {ad : Nat → Nat} {D : va_G} {cA : Nat → ClassId} {ρ : Type} (as : List Value) (w : eW) (k : Option Value → eW → Option ρ) (x : ρ) (h : K_xx_firstAmount as w k = some x) : ∃ (v : Option Value) (w2 : eW), k v w2 = some x ∧ eMet l ad D cA vwCl SHc SSc yX11_firstAmount (eWd yX11_firstAmount cX11_firstAmount 11 (some .int)) { frames := 4, cells := 0, slots := 0, locals := 138 } as w v w2 := by
  unfold K_xx_firstAmount at h
  split at h
  · rename_i r0 a1 a2 a4 a6
    obtain ⟨h1, h5⟩ := eBif h
    clear h
    have h := h5
    clear h5
    have h1 := Nat.eq_of_beq_eq_true h1
    subst h1
    obtain ⟨q, h2, h3⟩ := Option.bind_eq_some_iff.mp h
    exact ⟨_, _, h3, eMet_of (by decide +kernel) rfl (by simp [eCat, Value.category]) rI_ret (fun p e s m args below meth c hcx => go_xx_firstAmount hcx a1 a2 a4 a6 w q h2)⟩
  · cases h
def CX11_least : eCo := [[some (.aload_n 0), some (.getfield 28), none, none, some (.iload_n 1), some (.invokevirtual 118), none, none, some (.ifCond .eq 10), none, none, some (.iload_n 2), some (.invokestatic 171), none, none, some (.ifCond .ne 6)],
  [none, none, some (.bipush (-2)), none, some (.ireturn), some (.aload_n 0), some (.iload_n 1), some (.iload_n 2), some (.i2l), some (.ldc2_w 174), none, none, some (.lmul), some (.lconst 1), some (.iconst 0), some (.invokevirtual 176)],
  [none, none, some (.istore_n 3), some (.iload_n 3), some (.ldc 180), none, some (.if_icmp .gt 7), none, none, some (.iload_n 3), some (.goto 4), none, none, some (.iconst (-1)), some (.ireturn)]]
theorem dcX11_least : eDec cX11_least CX11_least := eDec_of (by decide +kernel)
def rs_xx_least : List (Nat × eR) := [(28, (0, 10, 2, 2)), (118, (1, 0, 1, 4)), (171, (1, 1, 1, -1)), (174, (3, 0, 0, 100)), (176, (1, 2, 4, 10)), (180, (2, 0, 0, 9999999))]
noncomputable def cs_xx_least : List (eF (Int32 × eW)) := [K_fi_isHolder, K_xx_isUnits, K_xx_firstAmount]
noncomputable def f_xx_least (a1 : Int32) (a2 : Int32) (w : eW) : Option (Int32 × eW) := ((f_fi_isHolder a1 w).bind fun p1 => (if p1.1 = 0 then (some ((-2 : Int32), p1.2)) else ((f_xx_isUnits a2 p1.2).bind fun p2 => (if ¬ p2.1 = 0 then ((f_xx_firstAmount a1 (((a2).toInt64) * (100 : Int64)) (1 : Int64) (0 : Int32) p2.2).bind fun p3 => (if (9999999 : Int32) < p3.1 then (some ((-1 : Int32), p3.2)) else (some (p3.1, p3.2)))) else (some ((-2 : Int32), p2.2))))))
noncomputable def K_xx_least {ρ : Type} : eF ρ := fun as w k => match as with
  | [.ref r0, .int a1, .int a2] => bif Nat.beq r0 38 then (f_xx_least a1 a2 w).bind (fun p => k (some (.int p.1)) p.2) else none
  | _ => none
section
variable {p : Program} {l : Launch} {e : Env} {s : State} {m : MethodId} {args : Array Value} {below : List Frame} {meth : Method} {c : Code} {ad : Nat → Nat} {D : va_G} {cA : Nat → ClassId}
theorem lk_xx_least : ∀ q ∈ rs_xx_least, eLnk { frames := 5, cells := 0, slots := 0, locals := 168 } vwCl (eWd yX11_least cX11_least 4 (some .int)) SSc SHc.length RX11 q.1 q.2 := List.forall_mem_cons.mpr ⟨lkX11_28 eTb_wd, List.forall_mem_cons.mpr ⟨trivial, List.forall_mem_cons.mpr ⟨trivial, List.forall_mem_cons.mpr ⟨lkX11_174 eTb_wd, List.forall_mem_cons.mpr ⟨trivial, List.forall_mem_cons.mpr ⟨lkX11_180 eTb_wd, fun _ h => absurd h List.not_mem_nil⟩⟩⟩⟩⟩⟩
theorem hc_xx_least {x : Int32 × eW} : ∀ q ∈ rs_xx_least, eHc l { frames := 5, cells := 0, slots := 0, locals := 168 } ad D cA vwCl SHc SSc (eWd yX11_least cX11_least 4 (some .int)) RX11 cs_xx_least x q := List.forall_mem_cons.mpr ⟨trivial, List.forall_mem_cons.mpr ⟨(fun as w k h => let ⟨v, w2, h1, h2⟩ := ok_fi_isHolder as w k x h; ⟨v, w2, h1, eCal_of h2 ⟨rfl, rfl⟩ hdX4_isHolder (gvX11_118 eTb_wd)⟩), List.forall_mem_cons.mpr ⟨(fun as w k h => let ⟨v, w2, h1, h2⟩ := ok_xx_isUnits as w k x h; ⟨v, w2, h1, eCal_of h2 ⟨rfl, rfl⟩ hdX11_isUnits (gvX11_171 eTb_wd)⟩), List.forall_mem_cons.mpr ⟨trivial, List.forall_mem_cons.mpr ⟨(fun as w k h => let ⟨v, w2, h1, h2⟩ := ok_xx_firstAmount as w k x h; ⟨v, w2, h1, eCal_of h2 ⟨rfl, rfl⟩ hdX11_firstAmount (gvX11_176 eTb_wd)⟩), List.forall_mem_cons.mpr ⟨trivial, fun _ h => absurd h List.not_mem_nil⟩⟩⟩⟩⟩⟩
set_option maxRecDepth 100000 in
set_option maxHeartbeats 4000000 in
theorem go_xx_least (hcx : eCx p { frames := 5, cells := 0, slots := 0, locals := 168 } s m args meth c cX11_least RX11 4 ad D cA vwCl SHc SSc (eWd yX11_least cX11_least 4 (some .int)) (some .int)) (a1 : Int32) (a2 : Int32) (w : eW) (x : Int32 × eW) (h : f_xx_least a1 a2 w = some x) : eGq p l e { frames := 5, cells := 0, slots := 0, locals := 168 } s m args below meth c 4 ad D cA vwCl SHc rI x 0 (eEnt [.ref 38, .int a1, .int a2]) [] w := by
  have h : eRun SHc SSc 4 rs_xx_least (eCs cs_xx_least) rI CX11_least [] (fun pc L st w => none) 26 true 0 [some (.ref 38), some (.int a1), some (.int a2), none] [] w = some x := h
  refine eGo.wk (eRun_go hcx (eLnk_all lk_xx_least) (eHc_all hc_xx_least) rI_ok dcX11_least [] _ (fun pc L st w hK => ?_) 26 true 0 _ _ w h) (eLe_wk ⟨rfl, rfl, rfl, trivial⟩)
  cases hK
end
set_option maxRecDepth 100000 in
set_option maxHeartbeats 4000000 in
theorem ok_xx_least {l : Launch} {ad : Nat → Nat} {D : va_G} {cA : Nat → ClassId} {ρ : Type} (as : List Value) (w : eW) (k : Option Value → eW → Option ρ) (x : ρ) (h : K_xx_least as w k = some x) : ∃ (v : Option Value) (w2 : eW), k v w2 = some x ∧ eMet l ad D cA vwCl SHc SSc yX11_least (eWd yX11_least cX11_least 4 (some .int)) { frames := 5, cells := 0, slots := 0, locals := 168 } as w v w2 := by
  unfold K_xx_least at h
  split at h
  · rename_i r0 a1 a2
    obtain ⟨h1, h5⟩ := eBif h
    clear h
    have h := h5
    clear h5
    have h1 := Nat.eq_of_beq_eq_true h1
    subst h1
    obtain ⟨q, h2, h3⟩ := Option.bind_eq_some_iff.mp h
    exact ⟨_, _, h3, eMet_of (by decide +kernel) rfl (by simp [eCat, Value.category]) rI_ret (fun p e s m args below meth c hcx => go_xx_least hcx a1 a2 w q h2)⟩
  · cases h
def CX11_flat : eCo := [[some (.aload_n 0), some (.iload_n 1), some (.iload_n 2), some (.invokevirtual 129), none, none, some (.ifCond .eq 10), none, none, some (.iload_n 3), some (.invokestatic 133), none, none, some (.ifCond .ne 6), none, none],
  [some (.bipush (-2)), none, some (.ireturn), some (.aload_n 0), some (.iload_n 2), some (.invokevirtual 138), none, none, some (.aload_n 0), some (.getfield 35), none, none, some (.iload_n 1), some (.invokevirtual 141), none, none],
  [some (.lstore 4), none, some (.aload_n 0), some (.getfield 35), none, none, some (.getfield 145), none, none, some (.lstore 6), none, some (.iload_n 3), some (.ifCond .ne 16), none, none, some (.aload_n 0)],
  [some (.iload_n 1), some (.lload 4), none, some (.lload 6), none, some (.iconst 0), some (.invokevirtual 176), none, none, some (.goto 15), none, none, some (.aload_n 0), some (.iload_n 1), some (.lload 4), none],
  [some (.lload 6), none, some (.iconst 1), some (.invokevirtual 176), none, none, some (.iconst 1), some (.isub), some (.ireturn)]]
theorem dcX11_flat : eDec cX11_flat CX11_flat := eDec_of (by decide +kernel)
def rs_xx_flat : List (Nat × eR) := [(35, (0, 10, 3, 2)), (129, (1, 0, 2, 10)), (133, (1, 1, 1, -1)), (138, (1, 2, 1, 10)), (141, (1, 3, 1, 3)), (145, (0, 3, 5, 1)), (176, (1, 4, 4, 10))]
noncomputable def cs_xx_flat : List (eF (Int32 × eW)) := [K_xx_isAsked, K_xx_isAboveOrBelow, K_xx_pour, K_fa_aboveOf, K_xx_firstAmount]
noncomputable def f_xx_flat (a1 : Int32) (a2 : Int32) (a3 : Int32) (w : eW) : Option (Int32 × eW) := ((f_xx_isAsked a1 a2 w).bind fun p1 => (if p1.1 = 0 then (some ((-2 : Int32), p1.2)) else ((f_xx_isAboveOrBelow a3 p1.2).bind fun p2 => (if ¬ p2.1 = 0 then ((f_xx_pour a2 p2.2).bind fun w3 => ((f_fa_aboveOf a1 w3).bind fun p4 => (if ¬ a3 = 0 then ((f_xx_firstAmount a1 p4.1 (p4.2.2 24 5) (1 : Int32) p4.2).bind fun p5 => (some ((p5.1 - (1 : Int32)), p5.2))) else ((f_xx_firstAmount a1 p4.1 (p4.2.2 24 5) (0 : Int32) p4.2).bind fun p6 => (some (p6.1, p6.2)))))) else (some ((-2 : Int32), p2.2))))))
noncomputable def K_xx_flat {ρ : Type} : eF ρ := fun as w k => match as with
  | [.ref r0, .int a1, .int a2, .int a3] => bif Nat.beq r0 38 then (f_xx_flat a1 a2 a3 w).bind (fun p => k (some (.int p.1)) p.2) else none
  | _ => none
section
variable {p : Program} {l : Launch} {e : Env} {s : State} {m : MethodId} {args : Array Value} {below : List Frame} {meth : Method} {c : Code} {ad : Nat → Nat} {D : va_G} {cA : Nat → ClassId}
theorem lk_xx_flat : ∀ q ∈ rs_xx_flat, eLnk { frames := 5, cells := 0, slots := 0, locals := 168 } vwCl (eWd yX11_flat cX11_flat 8 (some .int)) SSc SHc.length RX11 q.1 q.2 := List.forall_mem_cons.mpr ⟨lkX11_35 eTb_wd, List.forall_mem_cons.mpr ⟨trivial, List.forall_mem_cons.mpr ⟨trivial, List.forall_mem_cons.mpr ⟨trivial, List.forall_mem_cons.mpr ⟨trivial, List.forall_mem_cons.mpr ⟨lkX11_145 eTb_wd, List.forall_mem_cons.mpr ⟨trivial, fun _ h => absurd h List.not_mem_nil⟩⟩⟩⟩⟩⟩⟩
theorem hc_xx_flat {x : Int32 × eW} : ∀ q ∈ rs_xx_flat, eHc l { frames := 5, cells := 0, slots := 0, locals := 168 } ad D cA vwCl SHc SSc (eWd yX11_flat cX11_flat 8 (some .int)) RX11 cs_xx_flat x q := List.forall_mem_cons.mpr ⟨trivial, List.forall_mem_cons.mpr ⟨(fun as w k h => let ⟨v, w2, h1, h2⟩ := ok_xx_isAsked as w k x h; ⟨v, w2, h1, eCal_of h2 ⟨rfl, rfl⟩ hdX11_isAsked (gvX11_129 eTb_wd)⟩), List.forall_mem_cons.mpr ⟨(fun as w k h => let ⟨v, w2, h1, h2⟩ := ok_xx_isAboveOrBelow as w k x h; ⟨v, w2, h1, eCal_of h2 ⟨rfl, rfl⟩ hdX11_isAboveOrBelow (gvX11_133 eTb_wd)⟩), List.forall_mem_cons.mpr ⟨(fun as w k h => let ⟨v, w2, h1, h2⟩ := ok_xx_pour as w k x h; ⟨v, w2, h1, eCal_of h2 ⟨rfl, rfl⟩ hdX11_pour (gvX11_138 eTb_wd)⟩), List.forall_mem_cons.mpr ⟨(fun as w k h => let ⟨v, w2, h1, h2⟩ := ok_fa_aboveOf as w k x h; ⟨v, w2, h1, eCal_of h2 ⟨rfl, rfl⟩ hdX3_aboveOf (gvX11_141 eTb_wd)⟩), List.forall_mem_cons.mpr ⟨trivial, List.forall_mem_cons.mpr ⟨(fun as w k h => let ⟨v, w2, h1, h2⟩ := ok_xx_firstAmount as w k x h; ⟨v, w2, h1, eCal_of h2 ⟨rfl, rfl⟩ hdX11_firstAmount (gvX11_176 eTb_wd)⟩), fun _ h => absurd h List.not_mem_nil⟩⟩⟩⟩⟩⟩⟩
set_option maxRecDepth 100000 in
set_option maxHeartbeats 4000000 in
theorem go_xx_flat (hcx : eCx p { frames := 5, cells := 0, slots := 0, locals := 168 } s m args meth c cX11_flat RX11 8 ad D cA vwCl SHc SSc (eWd yX11_flat cX11_flat 8 (some .int)) (some .int)) (a1 : Int32) (a2 : Int32) (a3 : Int32) (w : eW) (x : Int32 × eW) (h : f_xx_flat a1 a2 a3 w = some x) : eGq p l e { frames := 5, cells := 0, slots := 0, locals := 168 } s m args below meth c 8 ad D cA vwCl SHc rI x 0 (eEnt [.ref 38, .int a1, .int a2, .int a3]) [] w := by
  have h : eRun SHc SSc 8 rs_xx_flat (eCs cs_xx_flat) rI CX11_flat [] (fun pc L st w => none) 33 true 0 [some (.ref 38), some (.int a1), some (.int a2), some (.int a3), none, none, none, none] [] w = some x := h
  refine eGo.wk (eRun_go hcx (eLnk_all lk_xx_flat) (eHc_all hc_xx_flat) rI_ok dcX11_flat [] _ (fun pc L st w hK => ?_) 33 true 0 _ _ w h) (eLe_wk ⟨rfl, rfl, rfl, rfl, trivial⟩)
  cases hK
end
set_option maxRecDepth 100000 in
set_option maxHeartbeats 4000000 in
theorem ok_xx_flat {l : Launch} {ad : Nat → Nat} {D : va_G} {cA : Nat → ClassId} {ρ : Type} (as : List Value) (w : eW) (k : Option Value → eW → Option ρ) (x : ρ) (h : K_xx_flat as w k = some x) : ∃ (v : Option Value) (w2 : eW), k v w2 = some x ∧ eMet l ad D cA vwCl SHc SSc yX11_flat (eWd yX11_flat cX11_flat 8 (some .int)) { frames := 5, cells := 0, slots := 0, locals := 168 } as w v w2 := by
  unfold K_xx_flat at h
  split at h
  · rename_i r0 a1 a2 a3
    obtain ⟨h1, h5⟩ := eBif h
    clear h
    have h := h5
    clear h5
    have h1 := Nat.eq_of_beq_eq_true h1
    subst h1
    obtain ⟨q, h2, h3⟩ := Option.bind_eq_some_iff.mp h
    exact ⟨_, _, h3, eMet_of (by decide +kernel) rfl (by simp [eCat, Value.category]) rI_ret (fun p e s m args below meth c hcx => go_xx_flat hcx a1 a2 a3 w q h2)⟩
  · cases h
