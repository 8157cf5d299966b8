def CX5_gains : eCo := [[some (.iload_n 1), some (.ifCond .lt 23), none, none, some (.iload_n 1), some (.bipush 64), none, some (.if_icmp .ge 17), none, none, some (.iload_n 2), some (.ifCond .lt 13), none, none, some (.iload_n 2), some (.bipush 64)],
  [none, some (.if_icmp .ge 7), none, none, some (.iconst 1), some (.goto 4), none, none, some (.iconst 0), some (.istore 4), none, some (.iload 4), none, some (.ifCond .eq 13), none, none],
  [some (.iload_n 3), some (.ifCond .lt 9), none, none, some (.iload_n 3), some (.bipush 6), none, some (.if_icmp .lt 5), none, none, some (.iconst 0), some (.ireturn), some (.aload_n 0), some (.getfield 15), none, none],
  [some (.iload_n 1), some (.bipush 6), none, some (.imul), some (.iload_n 3), some (.iadd), some (.laload), some (.lstore 5), none, some (.aload_n 0), some (.getfield 15), none, none, some (.iload_n 2), some (.bipush 6), none],
  [some (.imul), some (.iload_n 3), some (.iadd), some (.laload), some (.lstore 7), none, some (.lload 7), none, some (.aload_n 0), some (.getfield 19), none, none, some (.iload_n 2), some (.laload), some (.lload 5), none],
  [some (.aload_n 0), some (.getfield 19), none, none, some (.iload_n 1), some (.laload), some (.invokestatic 62), none, none, some (.ifCond .le 7), none, none, some (.iconst 1), some (.goto 4), none, none],
  [some (.iconst 0), some (.ireturn)]]
theorem dcX5_gains : eDec cX5_gains CX5_gains := eDec_of (by decide +kernel)
def rs_ga_gains : List (Nat × eR) := [(15, (0, 5, 2, 2)), (19, (0, 5, 3, 2)), (62, (1, 0, 4, -1))]
noncomputable def cs_ga_gains : List (eF (Int32 × eW)) := [K_nu_compareFractions]
noncomputable def f_ga_gains_J25 (a1 : Int32) (a2 : Int32) (a3 : Int32) (s0 : Int32) (w : eW) : Option (Int32 × eW) := (if s0 = 0 then (some ((0 : Int32), w)) else (if a3 < 0 then (some ((0 : Int32), w)) else (if a3 < (6 : Int32) then (eChk ((a1 * (6 : Int32)) + a3) 384 (eChk ((a2 * (6 : Int32)) + a3) 384 (eChk a2 64 (eChk a1 64 ((f_nu_compareFractions (w.2 29 (Int32.toNatClampNeg ((a2 * (6 : Int32)) + a3))) (w.2 30 (Int32.toNatClampNeg a2)) (w.2 29 (Int32.toNatClampNeg ((a1 * (6 : Int32)) + a3))) (w.2 30 (Int32.toNatClampNeg a1)) w).bind fun p1 => (if p1.1 ≤ 0 then (some ((0 : Int32), p1.2)) else (some ((1 : Int32), p1.2)))))))) else (some ((0 : Int32), w)))))
noncomputable def f_ga_gains (a1 : Int32) (a2 : Int32) (a3 : Int32) (w : eW) : Option (Int32 × eW) := (if a1 < 0 then (f_ga_gains_J25 a1 a2 a3 (0 : Int32) w) else (if (64 : Int32) ≤ a1 then (f_ga_gains_J25 a1 a2 a3 (0 : Int32) w) else (if a2 < 0 then (f_ga_gains_J25 a1 a2 a3 (0 : Int32) w) else (if (64 : Int32) ≤ a2 then (f_ga_gains_J25 a1 a2 a3 (0 : Int32) w) else (f_ga_gains_J25 a1 a2 a3 (1 : Int32) w)))))
noncomputable def K_ga_gains {ρ : Type} : eF ρ := fun as w k => match as with
  | [.ref r0, .int a1, .int a2, .int a3] => bif Nat.beq r0 31 then (f_ga_gains a1 a2 a3 w).bind (fun p => k (some (.int p.1)) p.2) else none
  | _ => none
section
variable {p : Program} {l : Launch} {e : Env} {s : State} {m : MethodId} {args : Array Value} {below : List Frame} {meth : Method} {c : Code} {ad : Nat → Nat} {D : va_G} {cA : Nat → ClassId}
theorem lk_ga_gains : ∀ q ∈ rs_ga_gains, eLnk { frames := 2, cells := 0, slots := 0, locals := 64 } vwCl (eWd yX5_gains cX5_gains 9 (some .boolean)) SSc SHc.length RX5 q.1 q.2 := List.forall_mem_cons.mpr ⟨lkX5_15 eTb_wd, List.forall_mem_cons.mpr ⟨lkX5_19 eTb_wd, List.forall_mem_cons.mpr ⟨trivial, fun _ h => absurd h List.not_mem_nil⟩⟩⟩
theorem hc_ga_gains {x : Int32 × eW} : ∀ q ∈ rs_ga_gains, eHc l { frames := 2, cells := 0, slots := 0, locals := 64 } ad D cA vwCl SHc SSc (eWd yX5_gains cX5_gains 9 (some .boolean)) RX5 cs_ga_gains x q := List.forall_mem_cons.mpr ⟨trivial, List.forall_mem_cons.mpr ⟨trivial, List.forall_mem_cons.mpr ⟨(fun as w k h => let ⟨v, w2, h1, h2⟩ := ok_nu_compareFractions as w k x h; ⟨v, w2, h1, eCal_of h2 ⟨rfl, rfl⟩ hdX7_compareFractions (gvX5_62 eTb_wd)⟩), fun _ h => absurd h List.not_mem_nil⟩⟩⟩
noncomputable def kk_ga_gains_25 : eK (Int32 × eW) := fun pc L st w => none
set_option maxRecDepth 100000 in
set_option maxHeartbeats 4000000 in
theorem go_ga_gains_J25 (hcx : eCx p { frames := 2, cells := 0, slots := 0, locals := 64 } s m args meth c cX5_gains RX5 9 ad D cA vwCl SHc SSc (eWd yX5_gains cX5_gains 9 (some .boolean)) (some .boolean)) {x : Int32 × eW} : ∀ (a1 : Int32) (a2 : Int32) (a3 : Int32) (s0 : Int32) (w : eW), f_ga_gains_J25  a1 a2 a3 s0 w = some x → eGq p l e { frames := 2, cells := 0, slots := 0, locals := 64 } s m args below meth c 9 ad D cA vwCl SHc rZ x 25 [some (.ref 31), some (.int a1), some (.int a2), some (.int a3), none, none, none, none, none] [.int s0] w := by
  intro a1 a2 a3 s0 w h
  have h : eRun SHc SSc 9 rs_ga_gains (eCs cs_ga_gains) rZ CX5_gains [25] (kk_ga_gains_25 ) 43 true 25 [some (.ref 31), some (.int a1), some (.int a2), some (.int a3), none, none, none, none, none] [.int s0] w = some x := h
  refine eRun_go hcx (eLnk_all lk_ga_gains) (eHc_all hc_ga_gains) rZ_ok dcX5_gains [25] _ (fun pc L st w hK => ?_) 43 true 25 _ _ w h
  unfold kk_ga_gains_25 at hK
  cases hK
set_option maxRecDepth 100000 in
set_option maxHeartbeats 4000000 in
theorem go_ga_gains (hcx : eCx p { frames := 2, cells := 0, slots := 0, locals := 64 } s m args meth c cX5_gains RX5 9 ad D cA vwCl SHc SSc (eWd yX5_gains cX5_gains 9 (some .boolean)) (some .boolean)) (a1 : Int32) (a2 : Int32) (a3 : Int32) (w : eW) (x : Int32 × eW) (h : f_ga_gains a1 a2 a3 w = some x) : eGq p l e { frames := 2, cells := 0, slots := 0, locals := 64 } s m args below meth c 9 ad D cA vwCl SHc rZ x 0 (eEnt [.ref 31, .int a1, .int a2, .int a3]) [] w := by
  have h : eRun SHc SSc 9 rs_ga_gains (eCs cs_ga_gains) rZ CX5_gains [25] (fun pc L st w => bif Nat.beq pc 25 then (lR L 0 31 ((lI L 1).bind fun a1 => (lI L 2).bind fun a2 => (lI L 3).bind fun a3 => sI st (fun s0 st1 => sE st1 (f_ga_gains_J25 a1 a2 a3 s0 w)))) else none) 15 true 0 [some (.ref 31), some (.int a1), some (.int a2), some (.int a3), none, none, none, none, none] [] w = some x := h
  refine eGo.wk (eRun_go hcx (eLnk_all lk_ga_gains) (eHc_all hc_ga_gains) rZ_ok dcX5_gains [25] _ (fun pc L st w hK => ?_) 15 true 0 _ _ w h) (eLe_wk ⟨rfl, rfl, rfl, rfl, trivial⟩)
  rcases eCut hK with ⟨hpc, hK⟩ | hK
  · subst hpc
    obtain ⟨e0, hK_1⟩ := lR_some hK
    obtain ⟨a1, e1, hK_2⟩ := lI_some hK_1
    obtain ⟨a2, e2, hK_3⟩ := lI_some hK_2
    obtain ⟨a3, e3, hK_4⟩ := lI_some hK_3
    obtain ⟨s0, st1, hst0, hK_5⟩ := sI_some hK_4
    subst hst0
    obtain ⟨hst9, hK_6⟩ := sE_some hK_5
    subst hst9
    exact eGo.wk (go_ga_gains_J25 hcx  a1 a2 a3 s0 w hK_6) (eLe_wk ⟨e0, e1, e2, e3, trivial⟩)
  cases hK
end
set_option maxRecDepth 100000 in
set_option maxHeartbeats 4000000 in
theorem ok_ga_gains {l : Launch} {ad : Nat → Nat} {D : va_G} {cA : Nat → ClassId} {ρ : Type} (as : List Value) (w : eW) (k : Option Value → eW → Option ρ) (x : ρ) (h : K_ga_gains as w k = some x) : ∃ (v : Option Value) (w2 : eW), k v w2 = some x ∧ eMet l ad D cA vwCl SHc SSc yX5_gains (eWd yX5_gains cX5_gains 9 (some .boolean)) { frames := 2, cells := 0, slots := 0, locals := 64 } as w v w2 := by
  unfold K_ga_gains at h
  split at h
  · rename_i r0 a1 a2 a3
    obtain ⟨h1, h5⟩ := eBif h
    clear h
    have h := h5
    clear h5
    have h1 := Nat.eq_of_beq_eq_true h1
    subst h1
    obtain ⟨q, h2, h3⟩ := Option.bind_eq_some_iff.mp h
    exact ⟨_, _, h3, eMet_of (by decide +kernel) rfl (by simp [eCat, Value.category]) rZ_ret (fun p e s m args below meth c hcx => go_ga_gains hcx a1 a2 a3 w q h2)⟩
  · cases h
def CX5_isSteady : eCo := [[some (.iconst 0), some (.istore_n 2), some (.iload_n 2), some (.aload_n 0), some (.getfield 22), none, none, some (.if_icmp .ge 25), none, none, some (.aload_n 0), some (.iload_n 1), some (.iload_n 1), some (.iconst 1), some (.iload_n 2), some (.ishl)],
  [some (.ixor), some (.iload_n 2), some (.invokevirtual 58), none, none, some (.ifCond .eq 5), none, none, some (.iconst 0), some (.ireturn), some (.iinc 2 1), none, none, some (.goto (-27)), none, none],
  [some (.iconst 1), some (.ireturn)]]
theorem dcX5_isSteady : eDec cX5_isSteady CX5_isSteady := eDec_of (by decide +kernel)
def rs_ga_isSteady : List (Nat × eR) := [(22, (0, 5, 1, 0)), (58, (1, 0, 3, 5))]
noncomputable def cs_ga_isSteady : List (eF (Int32 × eW)) := [K_ga_gains]
noncomputable def f_ga_isSteady_L2 : Nat → Int32 → Int32 → eW → Option (Int32 × eW)
  | 0, _, _, _ => none
  | n + 1, a1, a2, w => (if (w.1 31 1) ≤ a2 then (some ((1 : Int32), w)) else ((f_ga_gains a1 (a1 ^^^ ((1 : Int32) <<< (a2 &&& 31))) a2 w).bind fun p1 => (if p1.1 = 0 then (f_ga_isSteady_L2 n a1 (a2 + (1 : Int32)) p1.2) else (some ((0 : Int32), p1.2)))))
noncomputable def f_ga_isSteady (a1 : Int32) (w : eW) : Option (Int32 × eW) := (f_ga_isSteady_L2 eFu a1 (0 : Int32) w)
noncomputable def K_ga_isSteady {ρ : Type} : eF ρ := fun as w k => match as with
  | [.ref r0, .int a1] => bif Nat.beq r0 31 then (f_ga_isSteady a1 w).bind (fun p => k (some (.int p.1)) p.2) else none
  | _ => none
section
variable {p : Program} {l : Launch} {e : Env} {s : State} {m : MethodId} {args : Array Value} {below : List Frame} {meth : Method} {c : Code} {ad : Nat → Nat} {D : va_G} {cA : Nat → ClassId}
theorem lk_ga_isSteady : ∀ q ∈ rs_ga_isSteady, eLnk { frames := 3, cells := 0, slots := 0, locals := 92 } vwCl (eWd yX5_isSteady cX5_isSteady 3 (some .boolean)) SSc SHc.length RX5 q.1 q.2 := List.forall_mem_cons.mpr ⟨lkX5_22 eTb_wd, List.forall_mem_cons.mpr ⟨trivial, fun _ h => absurd h List.not_mem_nil⟩⟩
theorem hc_ga_isSteady {x : Int32 × eW} : ∀ q ∈ rs_ga_isSteady, eHc l { frames := 3, cells := 0, slots := 0, locals := 92 } ad D cA vwCl SHc SSc (eWd yX5_isSteady cX5_isSteady 3 (some .boolean)) RX5 cs_ga_isSteady x q := List.forall_mem_cons.mpr ⟨trivial, List.forall_mem_cons.mpr ⟨(fun as w k h => let ⟨v, w2, h1, h2⟩ := ok_ga_gains as w k x h; ⟨v, w2, h1, eCal_of h2 ⟨rfl, rfl⟩ hdX5_gains (gvX5_58 eTb_wd)⟩), fun _ h => absurd h List.not_mem_nil⟩⟩
noncomputable def kk_ga_isSteady_2 (n : Nat) : eK (Int32 × eW) := fun pc L st w => bif Nat.beq pc 2 then (lR L 0 31 ((lI L 1).bind fun a1 => (lI L 2).bind fun a2 => sE st (f_ga_isSteady_L2 n a1 a2 w))) else none
set_option maxRecDepth 100000 in
set_option maxHeartbeats 4000000 in
theorem go_ga_isSteady_L2 (hcx : eCx p { frames := 3, cells := 0, slots := 0, locals := 92 } s m args meth c cX5_isSteady RX5 3 ad D cA vwCl SHc SSc (eWd yX5_isSteady cX5_isSteady 3 (some .boolean)) (some .boolean)) {x : Int32 × eW} : ∀ (n : Nat) (a1 : Int32) (a2 : Int32) (w : eW), f_ga_isSteady_L2  n a1 a2 w = some x → eGq p l e { frames := 3, cells := 0, slots := 0, locals := 92 } s m args below meth c 3 ad D cA vwCl SHc rZ x 2 [some (.ref 31), some (.int a1), some (.int a2)] [] w := by
  intro n
  induction n with
  | zero => intro a1 a2 w h; exact nomatch (show (none : Option (Int32 × eW)) = some x from h)
  | succ n ih =>
    intro a1 a2 w h
    have h : eRun SHc SSc 3 rs_ga_isSteady (eCs cs_ga_isSteady) rZ CX5_isSteady [2] (kk_ga_isSteady_2  n) 19 true 2 [some (.ref 31), some (.int a1), some (.int a2)] [] w = some x := h
    refine eRun_go hcx (eLnk_all lk_ga_isSteady) (eHc_all hc_ga_isSteady) rZ_ok dcX5_isSteady [2] _ (fun pc L st w hK => ?_) 19 true 2 _ _ w h
    unfold kk_ga_isSteady_2 at hK
    rcases eCut hK with ⟨hpc, hK⟩ | hK
    · subst hpc
      obtain ⟨e0, hK_1⟩ := lR_some hK
      obtain ⟨a1, e1, hK_2⟩ := lI_some hK_1
      obtain ⟨a2, e2, hK_3⟩ := lI_some hK_2
      obtain ⟨hst9, hK_4⟩ := sE_some hK_3
      subst hst9
      exact eGo.wk (ih a1 a2 w hK_4) (eLe_wk ⟨e0, e1, e2, trivial⟩)
    cases hK
set_option maxRecDepth 100000 in
set_option maxHeartbeats 4000000 in
theorem go_ga_isSteady (hcx : eCx p { frames := 3, cells := 0, slots := 0, locals := 92 } s m args meth c cX5_isSteady RX5 3 ad D cA vwCl SHc SSc (eWd yX5_isSteady cX5_isSteady 3 (some .boolean)) (some .boolean)) (a1 : Int32) (w : eW) (x : Int32 × eW) (h : f_ga_isSteady a1 w = some x) : eGq p l e { frames := 3, cells := 0, slots := 0, locals := 92 } s m args below meth c 3 ad D cA vwCl SHc rZ x 0 (eEnt [.ref 31, .int a1]) [] w := by
  have h : eRun SHc SSc 3 rs_ga_isSteady (eCs cs_ga_isSteady) rZ CX5_isSteady [2] (fun pc L st w => bif Nat.beq pc 2 then (lR L 0 31 ((lI L 1).bind fun a1 => (lI L 2).bind fun a2 => sE st (f_ga_isSteady_L2 eFu a1 a2 w))) else none) 5 true 0 [some (.ref 31), some (.int a1), none] [] w = some x := h
  refine eGo.wk (eRun_go hcx (eLnk_all lk_ga_isSteady) (eHc_all hc_ga_isSteady) rZ_ok dcX5_isSteady [2] _ (fun pc L st w hK => ?_) 5 true 0 _ _ w h) (eLe_wk ⟨rfl, rfl, trivial⟩)
  rcases eCut hK with ⟨hpc, hK⟩ | hK
  · subst hpc
    obtain ⟨e0, hK_1⟩ := lR_some hK
    obtain ⟨a1, e1, hK_2⟩ := lI_some hK_1
    obtain ⟨a2, e2, hK_3⟩ := lI_some hK_2
    obtain ⟨hst9, hK_4⟩ := sE_some hK_3
    subst hst9
    exact eGo.wk (go_ga_isSteady_L2 hcx  eFu a1 a2 w hK_4) (eLe_wk ⟨e0, e1, e2, trivial⟩)
  cases hK
end
set_option maxRecDepth 100000 in
set_option maxHeartbeats 4000000 in
theorem ok_ga_isSteady {l : Launch} {ad : Nat → Nat} {D : va_G} {cA : Nat → ClassId} {ρ : Type} (as : List Value) (w : eW) (k : Option Value → eW → Option ρ) (x : ρ) (h : K_ga_isSteady as w k = some x) : ∃ (v : Option Value) (w2 : eW), k v w2 = some x ∧ eMet l ad D cA vwCl SHc SSc yX5_isSteady (eWd yX5_isSteady cX5_isSteady 3 (some .boolean)) { frames := 3, cells := 0, slots := 0, locals := 92 } as w v w2 := by
  unfold K_ga_isSteady at h
  split at h
  · rename_i r0 a1
    obtain ⟨h1, h5⟩ := eBif h
    clear h
    have h := h5
    clear h5
    have h1 := Nat.eq_of_beq_eq_true h1
    subst h1
    obtain ⟨q, h2, h3⟩ := Option.bind_eq_some_iff.mp h
    exact ⟨_, _, h3, eMet_of (by decide +kernel) rfl (by simp [eCat, Value.category]) rZ_ret (fun p e s m args below meth c hcx => go_ga_isSteady hcx a1 w q h2)⟩
  · cases h
def CX11_steady : eCo := [[some (.iload_n 2), some (.invokestatic 162), none, none, some (.ifCond .ne 6), none, none, some (.bipush (-2)), none, some (.ireturn), some (.aload_n 0), some (.getfield 49), none, none, some (.aload_n 0), some (.getfield 28)],
  [none, none, some (.invokevirtual 236), none, none, some (.aload_n 0), some (.getfield 49), none, none, some (.iload_n 1), some (.invokevirtual 239), none, none, some (.istore_n 3), some (.aload_n 0), some (.getfield 49)],
  [none, none, some (.aload_n 0), some (.getfield 28), none, none, some (.aload_n 0), some (.getfield 35), none, none, some (.iload_n 3), some (.aload_n 0), some (.getfield 28), none, none, some (.iload_n 2)],
  [some (.invokevirtual 185), none, none, some (.i2l), some (.ldc2_w 174), none, none, some (.lmul), some (.invokevirtual 242), none, none, some (.aload_n 0), some (.getfield 49), none, none, some (.iload_n 3)],
  [some (.invokevirtual 246), none, none, some (.ifCond .eq 7), none, none, some (.iconst 1), some (.goto 4), none, none, some (.iconst 0), some (.ireturn)]]
theorem dcX11_steady : eDec cX11_steady CX11_steady := eDec_of (by decide +kernel)
def rs_xx_steady : List (Nat × eR) := [(28, (0, 10, 2, 2)), (35, (0, 10, 3, 2)), (49, (0, 10, 5, 2)), (162, (1, 0, 1, -1)), (174, (3, 0, 0, 100)), (185, (1, 3, 1, 4)), (236, (1, 1, 1, 5)), (239, (1, 2, 1, 5)), (242, (1, 4, 4, 5)), (246, (1, 5, 1, 5))]
noncomputable def cs_xx_steady : List (eF (Int32 × eW)) := [K_xx_isAmount, K_ga_gather, K_ga_rowOf, K_fi_fallsOf, K_ga_playRound, K_ga_isSteady]
noncomputable def f_xx_steady (a1 : Int32) (a2 : Int32) (w : eW) : Option (Int32 × eW) := ((f_xx_isAmount a2 w).bind fun p1 => (if ¬ p1.1 = 0 then ((f_ga_gather p1.2).bind fun w2 => ((f_ga_rowOf a1 w2).bind fun p3 => ((f_fi_fallsOf a2 p3.2).bind fun p4 => ((f_ga_playRound p3.1 (((p4.1).toInt64) * (100 : Int64)) p4.2).bind fun w5 => ((f_ga_isSteady p3.1 w5).bind fun p6 => (if p6.1 = 0 then (some ((0 : Int32), p6.2)) else (some ((1 : Int32), p6.2)))))))) else (some ((-2 : Int32), p1.2))))
noncomputable def K_xx_steady {ρ : Type} : eF ρ := fun as w k => match as with
  | [.ref r0, .int a1, .int a2] => bif Nat.beq r0 38 then (f_xx_steady a1 a2 w).bind (fun p => k (some (.int p.1)) p.2) else none
  | _ => none
section
variable {p : Program} {l : Launch} {e : Env} {s : State} {m : MethodId} {args : Array Value} {below : List Frame} {meth : Method} {c : Code} {ad : Nat → Nat} {D : va_G} {cA : Nat → ClassId}
theorem lk_xx_steady : ∀ q ∈ rs_xx_steady, eLnk { frames := 6, cells := 0, slots := 0, locals := 190 } vwCl (eWd yX11_steady cX11_steady 4 (some .int)) SSc SHc.length RX11 q.1 q.2 := List.forall_mem_cons.mpr ⟨lkX11_28 eTb_wd, List.forall_mem_cons.mpr ⟨lkX11_35 eTb_wd, List.forall_mem_cons.mpr ⟨lkX11_49 eTb_wd, List.forall_mem_cons.mpr ⟨trivial, List.forall_mem_cons.mpr ⟨lkX11_174 eTb_wd, List.forall_mem_cons.mpr ⟨trivial, List.forall_mem_cons.mpr ⟨trivial, List.forall_mem_cons.mpr ⟨trivial, List.forall_mem_cons.mpr ⟨trivial, List.forall_mem_cons.mpr ⟨trivial, fun _ h => absurd h List.not_mem_nil⟩⟩⟩⟩⟩⟩⟩⟩⟩⟩
theorem hc_xx_steady {x : Int32 × eW} : ∀ q ∈ rs_xx_steady, eHc l { frames := 6, cells := 0, slots := 0, locals := 190 } ad D cA vwCl SHc SSc (eWd yX11_steady cX11_steady 4 (some .int)) RX11 cs_xx_steady x q := List.forall_mem_cons.mpr ⟨trivial, List.forall_mem_cons.mpr ⟨trivial, List.forall_mem_cons.mpr ⟨trivial, List.forall_mem_cons.mpr ⟨(fun as w k h => let ⟨v, w2, h1, h2⟩ := ok_xx_isAmount as w k x h; ⟨v, w2, h1, eCal_of h2 ⟨rfl, rfl⟩ hdX11_isAmount (gvX11_162 eTb_wd)⟩), List.forall_mem_cons.mpr ⟨trivial, List.forall_mem_cons.mpr ⟨(fun as w k h => let ⟨v, w2, h1, h2⟩ := ok_fi_fallsOf as w k x h; ⟨v, w2, h1, eCal_of h2 ⟨rfl, rfl⟩ hdX4_fallsOf (gvX11_185 eTb_wd)⟩), List.forall_mem_cons.mpr ⟨(fun as w k h => let ⟨v, w2, h1, h2⟩ := ok_ga_gather as w k x h; ⟨v, w2, h1, eCal_of h2 ⟨rfl, rfl⟩ hdX5_gather (gvX11_236 eTb_wd)⟩), List.forall_mem_cons.mpr ⟨(fun as w k h => let ⟨v, w2, h1, h2⟩ := ok_ga_rowOf as w k x h; ⟨v, w2, h1, eCal_of h2 ⟨rfl, rfl⟩ hdX5_rowOf (gvX11_239 eTb_wd)⟩), List.forall_mem_cons.mpr ⟨(fun as w k h => let ⟨v, w2, h1, h2⟩ := ok_ga_playRound as w k x h; ⟨v, w2, h1, eCal_of h2 ⟨rfl, rfl⟩ hdX5_playRound (gvX11_242 eTb_wd)⟩), List.forall_mem_cons.mpr ⟨(fun as w k h => let ⟨v, w2, h1, h2⟩ := ok_ga_isSteady as w k x h; ⟨v, w2, h1, eCal_of h2 ⟨rfl, rfl⟩ hdX5_isSteady (gvX11_246 eTb_wd)⟩), fun _ h => absurd h List.not_mem_nil⟩⟩⟩⟩⟩⟩⟩⟩⟩⟩
set_option maxRecDepth 100000 in
set_option maxHeartbeats 4000000 in
theorem go_xx_steady (hcx : eCx p { frames := 6, cells := 0, slots := 0, locals := 190 } s m args meth c cX11_steady RX11 4 ad D cA vwCl SHc SSc (eWd yX11_steady cX11_steady 4 (some .int)) (some .int)) (a1 : Int32) (a2 : Int32) (w : eW) (x : Int32 × eW) (h : f_xx_steady a1 a2 w = some x) : eGq p l e { frames := 6, cells := 0, slots := 0, locals := 190 } s m args below meth c 4 ad D cA vwCl SHc rI x 0 (eEnt [.ref 38, .int a1, .int a2]) [] w := by
  have h : eRun SHc SSc 4 rs_xx_steady (eCs cs_xx_steady) rI CX11_steady [] (fun pc L st w => none) 38 true 0 [some (.ref 38), some (.int a1), some (.int a2), none] [] w = some x := h
  refine eGo.wk (eRun_go hcx (eLnk_all lk_xx_steady) (eHc_all hc_xx_steady) rI_ok dcX11_steady [] _ (fun pc L st w hK => ?_) 38 true 0 _ _ w h) (eLe_wk ⟨rfl, rfl, rfl, trivial⟩)
  cases hK
end
set_option maxRecDepth 100000 in
set_option maxHeartbeats 4000000 in
theorem ok_xx_steady {l : Launch} {ad : Nat → Nat} {D : va_G} {cA : Nat → ClassId} {ρ : Type} (as : List Value) (w : eW) (k : Option Value → eW → Option ρ) (x : ρ) (h : K_xx_steady as w k = some x) : ∃ (v : Option Value) (w2 : eW), k v w2 = some x ∧ eMet l ad D cA vwCl SHc SSc yX11_steady (eWd yX11_steady cX11_steady 4 (some .int)) { frames := 6, cells := 0, slots := 0, locals := 190 } as w v w2 := by
  unfold K_xx_steady at h
  split at h
  · rename_i r0 a1 a2
    obtain ⟨h1, h5⟩ := eBif h
    clear h
    have h := h5
    clear h5
    have h1 := Nat.eq_of_beq_eq_true h1
    subst h1
    obtain ⟨q, h2, h3⟩ := Option.bind_eq_some_iff.mp h
    exact ⟨_, _, h3, eMet_of (by decide +kernel) rfl (by simp [eCat, Value.category]) rI_ret (fun p e s m args below meth c hcx => go_xx_steady hcx a1 a2 w q h2)⟩
  · cases h
def CX5_playAll : eCo := [[some (.iconst 0), some (.istore 5), none, some (.iload 5), none, some (.iconst 1), some (.aload_n 0), some (.getfield 22), none, none, some (.ishl), some (.if_icmp .ge 18), none, none, some (.aload_n 0), some (.aload_n 1)],
  [some (.aload_n 2), some (.iload 5), none, some (.lload_n 3), some (.invokevirtual 33), none, none, some (.iinc 5 1), none, none, some (.goto (-23)), none, none, some (.return_)]]
theorem dcX5_playAll : eDec cX5_playAll CX5_playAll := eDec_of (by decide +kernel)
def rs_ga_playAll : List (Nat × eR) := [(22, (0, 5, 1, 0)), (33, (1, 0, 4, 5))]
noncomputable def cs_ga_playAll : List (eF (eW)) := [K_ga_play]
noncomputable def f_ga_playAll_L3 : Nat → Int64 → Int32 → eW → Option (eW)
  | 0, _, _, _ => none
  | n + 1, a3, a5, w => (if ((1 : Int32) <<< ((w.1 31 1) &&& 31)) ≤ a5 then (some w) else ((f_ga_play a5 a3 w).bind fun w1 => (f_ga_playAll_L3 n a3 (a5 + (1 : Int32)) w1)))
noncomputable def f_ga_playAll (a3 : Int64) (w : eW) : Option (eW) := (f_ga_playAll_L3 eFu a3 (0 : Int32) w)
noncomputable def K_ga_playAll {ρ : Type} : eF ρ := fun as w k => match as with
  | [.ref r0, .ref r1, .ref r2, .long a3] => bif Nat.beq r0 31 then (bif Nat.beq r1 8 then (bif Nat.beq r2 24 then (f_ga_playAll a3 w).bind (fun w => k none w) else none) else none) else none
  | _ => none
section
variable {p : Program} {l : Launch} {e : Env} {s : State} {m : MethodId} {args : Array Value} {below : List Frame} {meth : Method} {c : Code} {ad : Nat → Nat} {D : va_G} {cA : Nat → ClassId}
theorem lk_ga_playAll : ∀ q ∈ rs_ga_playAll, eLnk { frames := 5, cells := 0, slots := 0, locals := 164 } vwCl (eWd yX5_playAll cX5_playAll 6 none) SSc SHc.length RX5 q.1 q.2 := List.forall_mem_cons.mpr ⟨lkX5_22 eTb_wd, List.forall_mem_cons.mpr ⟨trivial, fun _ h => absurd h List.not_mem_nil⟩⟩
theorem hc_ga_playAll {x : eW} : ∀ q ∈ rs_ga_playAll, eHc l { frames := 5, cells := 0, slots := 0, locals := 164 } ad D cA vwCl SHc SSc (eWd yX5_playAll cX5_playAll 6 none) RX5 cs_ga_playAll x q := List.forall_mem_cons.mpr ⟨trivial, List.forall_mem_cons.mpr ⟨(fun as w k h => let ⟨v, w2, h1, h2⟩ := ok_ga_play as w k x h; ⟨v, w2, h1, eCal_of h2 ⟨rfl, rfl⟩ hdX5_play (gvX5_33 eTb_wd)⟩), fun _ h => absurd h List.not_mem_nil⟩⟩
noncomputable def kk_ga_playAll_3 (n : Nat) : eK (eW) := fun pc L st w => bif Nat.beq pc 3 then (lR L 0 31 (lR L 1 8 (lR L 2 24 ((lJ L 3).bind fun a3 => (lI L 5).bind fun a5 => sE st (f_ga_playAll_L3 n a3 a5 w))))) else none
set_option maxRecDepth 100000 in
set_option maxHeartbeats 4000000 in
theorem go_ga_playAll_L3 (hcx : eCx p { frames := 5, cells := 0, slots := 0, locals := 164 } s m args meth c cX5_playAll RX5 6 ad D cA vwCl SHc SSc (eWd yX5_playAll cX5_playAll 6 none) (none)) {x : eW} : ∀ (n : Nat) (a3 : Int64) (a5 : Int32) (w : eW), f_ga_playAll_L3  n a3 a5 w = some x → eGq p l e { frames := 5, cells := 0, slots := 0, locals := 164 } s m args below meth c 6 ad D cA vwCl SHc rV x 3 [some (.ref 31), some (.ref 8), some (.ref 24), some (.long a3), none, some (.int a5)] [] w := by
  intro n
  induction n with
  | zero => intro a3 a5 w h; exact nomatch (show (none : Option (eW)) = some x from h)
  | succ n ih =>
    intro a3 a5 w h
    have h : eRun SHc SSc 6 rs_ga_playAll (eCs cs_ga_playAll) rV CX5_playAll [3] (kk_ga_playAll_3  n) 17 true 3 [some (.ref 31), some (.ref 8), some (.ref 24), some (.long a3), none, some (.int a5)] [] w = some x := h
    refine eRun_go hcx (eLnk_all lk_ga_playAll) (eHc_all hc_ga_playAll) rV_ok dcX5_playAll [3] _ (fun pc L st w hK => ?_) 17 true 3 _ _ w h
    unfold kk_ga_playAll_3 at hK
    rcases eCut hK with ⟨hpc, hK⟩ | hK
    · subst hpc
      obtain ⟨e0, hK_1⟩ := lR_some hK
      obtain ⟨e1, hK_2⟩ := lR_some hK_1
      obtain ⟨e2, hK_3⟩ := lR_some hK_2
      obtain ⟨a3, e3, hK_4⟩ := lJ_some hK_3
      obtain ⟨a5, e5, hK_5⟩ := lI_some hK_4
      obtain ⟨hst9, hK_6⟩ := sE_some hK_5
      subst hst9
      exact eGo.wk (ih a3 a5 w hK_6) (eLe_wk ⟨e0, e1, e2, e3, e5, trivial⟩)
    cases hK
set_option maxRecDepth 100000 in
set_option maxHeartbeats 4000000 in
theorem go_ga_playAll (hcx : eCx p { frames := 5, cells := 0, slots := 0, locals := 164 } s m args meth c cX5_playAll RX5 6 ad D cA vwCl SHc SSc (eWd yX5_playAll cX5_playAll 6 none) (none)) (a3 : Int64) (w : eW) (x : eW) (h : f_ga_playAll a3 w = some x) : eGq p l e { frames := 5, cells := 0, slots := 0, locals := 164 } s m args below meth c 6 ad D cA vwCl SHc rV x 0 (eEnt [.ref 31, .ref 8, .ref 24, .long a3]) [] w := by
  have h : eRun SHc SSc 6 rs_ga_playAll (eCs cs_ga_playAll) rV CX5_playAll [3] (fun pc L st w => bif Nat.beq pc 3 then (lR L 0 31 (lR L 1 8 (lR L 2 24 ((lJ L 3).bind fun a3 => (lI L 5).bind fun a5 => sE st (f_ga_playAll_L3 eFu a3 a5 w))))) else none) 5 true 0 [some (.ref 31), some (.ref 8), some (.ref 24), some (.long a3), none, none] [] w = some x := h
  refine eGo.wk (eRun_go hcx (eLnk_all lk_ga_playAll) (eHc_all hc_ga_playAll) rV_ok dcX5_playAll [3] _ (fun pc L st w hK => ?_) 5 true 0 _ _ w h) (eLe_wk ⟨rfl, rfl, rfl, rfl, trivial⟩)
  rcases eCut hK with ⟨hpc, hK⟩ | hK
  · subst hpc
    obtain ⟨e0, hK_1⟩ := lR_some hK
    obtain ⟨e1, hK_2⟩ := lR_some hK_1
    obtain ⟨e2, hK_3⟩ := lR_some hK_2
    obtain ⟨a3, e3, hK_4⟩ := lJ_some hK_3
    obtain ⟨a5, e5, hK_5⟩ := lI_some hK_4
    obtain ⟨hst9, hK_6⟩ := sE_some hK_5
    subst hst9
    exact eGo.wk (go_ga_playAll_L3 hcx  eFu a3 a5 w hK_6) (eLe_wk ⟨e0, e1, e2, e3, e5, trivial⟩)
  cases hK
end
set_option maxRecDepth 100000 in
set_option maxHeartbeats 4000000 in
theorem ok_ga_playAll {l : Launch} {ad : Nat → Nat} {D : va_G} {cA : Nat → ClassId} {ρ : Type} (as : List Value) (w : eW) (k : Option Value → eW → Option ρ) (x : ρ) (h : K_ga_playAll as w k = some x) : ∃ (v : Option Value) (w2 : eW), k v w2 = some x ∧ eMet l ad D cA vwCl SHc SSc yX5_playAll (eWd yX5_playAll cX5_playAll 6 none) { frames := 5, cells := 0, slots := 0, locals := 164 } as w v w2 := by
  unfold K_ga_playAll at h
  split at h
  · rename_i r0 r1 r2 a3
    obtain ⟨h1, h5⟩ := eBif h
    clear h
    have h := h5
    clear h5
    have h1 := Nat.eq_of_beq_eq_true h1
    subst h1
    obtain ⟨h1, h5⟩ := eBif h
    clear h
    have h := h5
    clear h5
    have h1 := Nat.eq_of_beq_eq_true h1
    subst h1
    obtain ⟨h1, h5⟩ := eBif h
    clear h
    have h := h5
    clear h5
    have h1 := Nat.eq_of_beq_eq_true h1
    subst h1
    obtain ⟨q, h2, h3⟩ := Option.bind_eq_some_iff.mp h
    exact ⟨_, _, h3, eMet_of (by decide +kernel) rfl (by simp [eCat, Value.category]) rV_ret (fun p e s m args below meth c hcx => go_ga_playAll hcx a3 w q h2)⟩
  · cases h
