def CX12_layPaid : eCo := [[some (.aload_n 0), some (.iload_n 1), some (.invokevirtual 323), none, none, some (.ldc2_w 263), none, none, some (.aload_n 0), some (.getfield 66), none, none, some (.lmul), some (.lstore_n 2), some (.iload_n 1), some (.aload_n 0)],
  [some (.getfield 232), none, none, some (.invokestatic 311), none, none, some (.ldc2_w 263), none, none, some (.ldiv), some (.l2i), some (.istore 4), none, some (.iconst 0), some (.istore 5), none],
  [some (.iload 5), none, some (.aload_n 0), some (.getfield 98), none, none, some (.if_icmp .ge 46), none, none, some (.aload_n 0), some (.getfield 73), none, none, some (.iload 5), none, some (.aload_n 0)],
  [some (.getfield 63), none, none, some (.iload 5), none, some (.laload), some (.lload_n 2), some (.ldiv), some (.l2i), some (.iastore), some (.iload 4), none, some (.aload_n 0), some (.getfield 73), none, none],
  [some (.iload 5), none, some (.iaload), some (.isub), some (.istore 4), none, some (.aload_n 0), some (.getfield 76), none, none, some (.iload 5), none, some (.iconst 0), some (.bastore), some (.iinc 5 1), none],
  [none, some (.goto (-49)), none, none, some (.iload 4), none, some (.ifCond .le 97), none, none, some (.aload_n 0), some (.getfield 98), none, none, some (.ifCond .le 90), none, none],
  [some (.iconst (-1)), some (.istore 5), none, some (.iconst 0), some (.istore 6), none, some (.iload 6), none, some (.aload_n 0), some (.getfield 98), none, none, some (.if_icmp .ge 50), none, none, some (.aload_n 0)],
  [some (.getfield 76), none, none, some (.iload 6), none, some (.baload), some (.ifCond .ne 34), none, none, some (.iload 5), none, some (.ifCond .lt 25), none, none, some (.aload_n 0), some (.getfield 63)],
  [none, none, some (.iload 6), none, some (.laload), some (.lload_n 2), some (.lrem), some (.aload_n 0), some (.getfield 63), none, none, some (.iload 5), none, some (.laload), some (.lload_n 2), some (.lrem)],
  [some (.lcmp), some (.ifCond .le 7), none, none, some (.iload 6), none, some (.istore 5), none, some (.iinc 6 1), none, none, some (.goto (-53)), none, none, some (.aload_n 0), some (.getfield 76)],
  [none, none, some (.iload 5), none, some (.iconst 1), some (.bastore), some (.aload_n 0), some (.getfield 73), none, none, some (.iload 5), none, some (.dup2), some (.iaload), some (.iconst 1), some (.iadd)],
  [some (.iastore), some (.iinc 4 (-1)), none, none, some (.goto (-96)), none, none, some (.return_)]]
theorem dcX12_layPaid : eDec cX12_layPaid CX12_layPaid := eDec_of (by decide +kernel)
def rs_mm_layPaid : List (Nat × eR) := [(63, (0, 11, 37, 2)), (66, (0, 11, 38, 1)), (73, (0, 11, 41, 2)), (76, (0, 11, 42, 2)), (98, (0, 11, 1, 0)), (232, (0, 11, 2, 0)), (263, (3, 0, 0, 100)), (311, (1, 1, 2, -1)), (323, (1, 0, 1, 11))]
noncomputable def cs_mm_layPaid : List (eF (eW)) := [K_mm_layBy, K_mm_fallsBy]
noncomputable def f_mm_layPaid_L102 (k84 : Int64 → Int32 → eW → Option (eW)) : Nat → Int64 → Int32 → Int32 → Int32 → eW → Option (eW)
  | 0, _, _, _, _, _ => none
  | n + 1, a2, a4, a5, a6, w => (if (w.1 24 1) ≤ a6 then (eChk a5 12 (eChk a5 12 (eChk a5 12 (k84 a2 (a4 + (-1 : Int32)) (eU1 (eU1 w 18 (Int32.toNatClampNeg a5) (vp_nar .boolean (1 : Int32))) 17 (Int32.toNatClampNeg a5) ((w.1 17 (Int32.toNatClampNeg a5)) + (1 : Int32))))))) else (eChk a6 12 (if ¬ (w.1 18 (Int32.toNatClampNeg a6)) = 0 then (f_mm_layPaid_L102 k84 n a2 a4 a5 (a6 + (1 : Int32)) w) else (if a5 < 0 then (f_mm_layPaid_L102 k84 n a2 a4 a6 (a6 + (1 : Int32)) w) else (eChk a6 12 (if a2 = 0 then none else (eChk a5 12 (if a2 = 0 then none else (if (lg_cmp ((w.2 16 (Int32.toNatClampNeg a6)) - (w.2 16 (Int32.toNatClampNeg a6)) / a2 * a2) ((w.2 16 (Int32.toNatClampNeg a5)) - (w.2 16 (Int32.toNatClampNeg a5)) / a2 * a2)) ≤ 0 then (f_mm_layPaid_L102 k84 n a2 a4 a5 (a6 + (1 : Int32)) w) else (f_mm_layPaid_L102 k84 n a2 a4 a6 (a6 + (1 : Int32)) w))))))))))
noncomputable def f_mm_layPaid_L84 : Nat → Int64 → Int32 → eW → Option (eW)
  | 0, _, _, _ => none
  | n + 1, a2, a4, w => (if a4 ≤ 0 then (some w) else (if (w.1 24 1) ≤ 0 then (some w) else (f_mm_layPaid_L102 (f_mm_layPaid_L84 n) eFu a2 a4 (-1 : Int32) (0 : Int32) w)))
noncomputable def f_mm_layPaid_L32 : Nat → Int64 → Int32 → Int32 → eW → Option (eW)
  | 0, _, _, _, _ => none
  | n + 1, a2, a4, a5, w => (if (w.1 24 1) ≤ a5 then (f_mm_layPaid_L84 eFu a2 a4 w) else (eChk a5 12 (if a2 = 0 then none else (eChk a5 12 (eChk a5 12 (eChk a5 12 (f_mm_layPaid_L32 n a2 (a4 - ((eU1 w 17 (Int32.toNatClampNeg a5) ((((w.2 16 (Int32.toNatClampNeg a5)) / a2)).toInt32)).1 17 (Int32.toNatClampNeg a5))) (a5 + (1 : Int32)) (eU1 (eU1 w 17 (Int32.toNatClampNeg a5) ((((w.2 16 (Int32.toNatClampNeg a5)) / a2)).toInt32)) 18 (Int32.toNatClampNeg a5) (vp_nar .boolean (0 : Int32))))))))))
noncomputable def f_mm_layPaid (a1 : Int32) (w : eW) : Option (eW) := ((f_mm_layBy a1 w).bind fun w1 => ((f_mm_fallsBy a1 (w1.1 24 2) w1).bind fun p2 => (f_mm_layPaid_L32 eFu ((100 : Int64) * (w1.2 24 38)) (((p2.1 / (100 : Int64))).toInt32) (0 : Int32) p2.2)))
noncomputable def K_mm_layPaid {ρ : Type} : eF ρ := fun as w k => match as with
  | [.ref r0, .int a1] => bif Nat.beq r0 24 then (f_mm_layPaid a1 w).bind (fun w => k none w) else none
  | _ => none
section
variable {p : Program} {l : Launch} {e : Env} {s : State} {m : MethodId} {args : Array Value} {below : List Frame} {meth : Method} {c : Code} {ad : Nat → Nat} {D : va_G} {cA : Nat → ClassId}
theorem lk_mm_layPaid : ∀ q ∈ rs_mm_layPaid, eLnk { frames := 10, cells := 0, slots := 0, locals := 230 } vwCl (eWd yX12_layPaid cX12_layPaid 7 none) SSm SHm.length RX12 q.1 q.2 := List.forall_mem_cons.mpr ⟨lkX12_63 eTb_wd, List.forall_mem_cons.mpr ⟨lkX12_66 eTb_wd, List.forall_mem_cons.mpr ⟨lkX12_73 eTb_wd, List.forall_mem_cons.mpr ⟨lkX12_76 eTb_wd, List.forall_mem_cons.mpr ⟨lkX12_98 eTb_wd, List.forall_mem_cons.mpr ⟨lkX12_232 eTb_wd, List.forall_mem_cons.mpr ⟨lkX12_263 eTb_wd, List.forall_mem_cons.mpr ⟨trivial, List.forall_mem_cons.mpr ⟨trivial, fun _ h => absurd h List.not_mem_nil⟩⟩⟩⟩⟩⟩⟩⟩⟩
theorem hc_mm_layPaid {x : eW} : ∀ q ∈ rs_mm_layPaid, eHc l { frames := 10, cells := 0, slots := 0, locals := 230 } ad D cA vwCl SHm SSm (eWd yX12_layPaid cX12_layPaid 7 none) RX12 cs_mm_layPaid x q := List.forall_mem_cons.mpr ⟨trivial, List.forall_mem_cons.mpr ⟨trivial, List.forall_mem_cons.mpr ⟨trivial, List.forall_mem_cons.mpr ⟨trivial, List.forall_mem_cons.mpr ⟨trivial, List.forall_mem_cons.mpr ⟨trivial, List.forall_mem_cons.mpr ⟨trivial, List.forall_mem_cons.mpr ⟨(fun as w k h => let ⟨v, w2, h1, h2⟩ := ok_mm_fallsBy as w k x h; ⟨v, w2, h1, eCal_of h2 ⟨rfl, rfl⟩ hdX12_fallsBy (gvX12_311 eTb_wd)⟩), List.forall_mem_cons.mpr ⟨(fun as w k h => let ⟨v, w2, h1, h2⟩ := ok_mm_layBy as w k x h; ⟨v, w2, h1, eCal_of h2 ⟨rfl, rfl⟩ hdX12_layBy (gvX12_323 eTb_wd)⟩), fun _ h => absurd h List.not_mem_nil⟩⟩⟩⟩⟩⟩⟩⟩⟩
noncomputable def kk_mm_layPaid_102 (k84 : Int64 → Int32 → eW → Option (eW)) (n : Nat) : eK (eW) := fun pc L st w => bif Nat.beq pc 84 then (lR L 0 24 ((lJ L 2).bind fun a2 => (lI L 4).bind fun a4 => sE st (k84 a2 a4 w))) else (bif Nat.beq pc 102 then (lR L 0 24 ((lJ L 2).bind fun a2 => (lI L 4).bind fun a4 => (lI L 5).bind fun a5 => (lI L 6).bind fun a6 => sE st (f_mm_layPaid_L102 k84 n a2 a4 a5 a6 w))) else none)
set_option maxRecDepth 100000 in
set_option maxHeartbeats 4000000 in
theorem go_mm_layPaid_L102 (hcx : eCx p { frames := 10, cells := 0, slots := 0, locals := 230 } s m args meth c cX12_layPaid RX12 7 ad D cA vwCl SHm SSm (eWd yX12_layPaid cX12_layPaid 7 none) (none)) {x : eW} (k84 : Int64 → Int32 → eW → Option (eW)) (hk84 : ∀ (a2 : Int64) (a4 : Int32) (w : eW), k84 a2 a4 w = some x → eGq p l e { frames := 10, cells := 0, slots := 0, locals := 230 } s m args below meth c 7 ad D cA vwCl SHm rV x 84 [some (.ref 24), none, some (.long a2), none, some (.int a4), none, none] [] w) : ∀ (n : Nat) (a2 : Int64) (a4 : Int32) (a5 : Int32) (a6 : Int32) (w : eW), f_mm_layPaid_L102 k84 n a2 a4 a5 a6 w = some x → eGq p l e { frames := 10, cells := 0, slots := 0, locals := 230 } s m args below meth c 7 ad D cA vwCl SHm rV x 102 [some (.ref 24), none, some (.long a2), none, some (.int a4), some (.int a5), some (.int a6)] [] w := by
  intro n
  induction n with
  | zero => intro a2 a4 a5 a6 w h; exact nomatch (show (none : Option (eW)) = some x from h)
  | succ n ih =>
    intro a2 a4 a5 a6 w h
    have h : eRun SHm SSm 7 rs_mm_layPaid (eCs cs_mm_layPaid) rV CX12_layPaid [32, 84, 102] (kk_mm_layPaid_102 k84 n) 32 true 102 [some (.ref 24), none, some (.long a2), none, some (.int a4), some (.int a5), some (.int a6)] [] w = some x := h
    refine eRun_go hcx (eLnk_all lk_mm_layPaid) (eHc_all hc_mm_layPaid) rV_ok dcX12_layPaid [32, 84, 102] _ (fun pc L st w hK => ?_) 32 true 102 _ _ w h
    unfold kk_mm_layPaid_102 at hK
    rcases eCut hK with ⟨hpc, hK⟩ | hK
    · subst hpc
      obtain ⟨e0, hK_1⟩ := lR_some hK
      obtain ⟨a2, e2, hK_2⟩ := lJ_some hK_1
      obtain ⟨a4, e4, hK_3⟩ := lI_some hK_2
      obtain ⟨hst9, hK_4⟩ := sE_some hK_3
      subst hst9
      exact eGo.wk (hk84 a2 a4 w hK_4) (eLe_wk ⟨e0, e2, e4, trivial⟩)
    rcases eCut hK with ⟨hpc, hK⟩ | hK
    · subst hpc
      obtain ⟨e0, hK_1⟩ := lR_some hK
      obtain ⟨a2, e2, hK_2⟩ := lJ_some hK_1
      obtain ⟨a4, e4, hK_3⟩ := lI_some hK_2
      obtain ⟨a5, e5, hK_4⟩ := lI_some hK_3
      obtain ⟨a6, e6, hK_5⟩ := lI_some hK_4
      obtain ⟨hst9, hK_6⟩ := sE_some hK_5
      subst hst9
      exact eGo.wk (ih a2 a4 a5 a6 w hK_6) (eLe_wk ⟨e0, e2, e4, e5, e6, trivial⟩)
    cases hK
noncomputable def kk_mm_layPaid_84 (n : Nat) : eK (eW) := fun pc L st w => bif Nat.beq pc 102 then (lR L 0 24 ((lJ L 2).bind fun a2 => (lI L 4).bind fun a4 => (lI L 5).bind fun a5 => (lI L 6).bind fun a6 => sE st (f_mm_layPaid_L102 (f_mm_layPaid_L84 n) eFu a2 a4 a5 a6 w))) else none
set_option maxRecDepth 100000 in
set_option maxHeartbeats 4000000 in
theorem go_mm_layPaid_L84 (hcx : eCx p { frames := 10, cells := 0, slots := 0, locals := 230 } s m args meth c cX12_layPaid RX12 7 ad D cA vwCl SHm SSm (eWd yX12_layPaid cX12_layPaid 7 none) (none)) {x : eW} : ∀ (n : Nat) (a2 : Int64) (a4 : Int32) (w : eW), f_mm_layPaid_L84  n a2 a4 w = some x → eGq p l e { frames := 10, cells := 0, slots := 0, locals := 230 } s m args below meth c 7 ad D cA vwCl SHm rV x 84 [some (.ref 24), none, some (.long a2), none, some (.int a4), none, none] [] w := by
  intro n
  induction n with
  | zero => intro a2 a4 w h; exact nomatch (show (none : Option (eW)) = some x from h)
  | succ n ih =>
    intro a2 a4 w h
    have h : eRun SHm SSm 7 rs_mm_layPaid (eCs cs_mm_layPaid) rV CX12_layPaid [32, 84, 102] (kk_mm_layPaid_84  n) 12 true 84 [some (.ref 24), none, some (.long a2), none, some (.int a4), none, none] [] w = some x := h
    refine eRun_go hcx (eLnk_all lk_mm_layPaid) (eHc_all hc_mm_layPaid) rV_ok dcX12_layPaid [32, 84, 102] _ (fun pc L st w hK => ?_) 12 true 84 _ _ w h
    unfold kk_mm_layPaid_84 at hK
    rcases eCut hK with ⟨hpc, hK⟩ | hK
    · subst hpc
      obtain ⟨e0, hK_1⟩ := lR_some hK
      obtain ⟨a2, e2, hK_2⟩ := lJ_some hK_1
      obtain ⟨a4, e4, hK_3⟩ := lI_some hK_2
      obtain ⟨a5, e5, hK_4⟩ := lI_some hK_3
      obtain ⟨a6, e6, hK_5⟩ := lI_some hK_4
      obtain ⟨hst9, hK_6⟩ := sE_some hK_5
      subst hst9
      exact eGo.wk (go_mm_layPaid_L102 hcx (f_mm_layPaid_L84 n) ih eFu a2 a4 a5 a6 w hK_6) (eLe_wk ⟨e0, e2, e4, e5, e6, trivial⟩)
    cases hK
noncomputable def kk_mm_layPaid_32 (n : Nat) : eK (eW) := fun pc L st w => bif Nat.beq pc 84 then (lR L 0 24 ((lJ L 2).bind fun a2 => (lI L 4).bind fun a4 => sE st (f_mm_layPaid_L84 eFu a2 a4 w))) else (bif Nat.beq pc 32 then (lR L 0 24 ((lJ L 2).bind fun a2 => (lI L 4).bind fun a4 => (lI L 5).bind fun a5 => sE st (f_mm_layPaid_L32 n a2 a4 a5 w))) else none)
set_option maxRecDepth 100000 in
set_option maxHeartbeats 4000000 in
theorem go_mm_layPaid_L32 (hcx : eCx p { frames := 10, cells := 0, slots := 0, locals := 230 } s m args meth c cX12_layPaid RX12 7 ad D cA vwCl SHm SSm (eWd yX12_layPaid cX12_layPaid 7 none) (none)) {x : eW} : ∀ (n : Nat) (a2 : Int64) (a4 : Int32) (a5 : Int32) (w : eW), f_mm_layPaid_L32  n a2 a4 a5 w = some x → eGq p l e { frames := 10, cells := 0, slots := 0, locals := 230 } s m args below meth c 7 ad D cA vwCl SHm rV x 32 [some (.ref 24), none, some (.long a2), none, some (.int a4), some (.int a5), none] [] w := by
  intro n
  induction n with
  | zero => intro a2 a4 a5 w h; exact nomatch (show (none : Option (eW)) = some x from h)
  | succ n ih =>
    intro a2 a4 a5 w h
    have h : eRun SHm SSm 7 rs_mm_layPaid (eCs cs_mm_layPaid) rV CX12_layPaid [32, 84, 102] (kk_mm_layPaid_32  n) 32 true 32 [some (.ref 24), none, some (.long a2), none, some (.int a4), some (.int a5), none] [] w = some x := h
    refine eRun_go hcx (eLnk_all lk_mm_layPaid) (eHc_all hc_mm_layPaid) rV_ok dcX12_layPaid [32, 84, 102] _ (fun pc L st w hK => ?_) 32 true 32 _ _ w h
    unfold kk_mm_layPaid_32 at hK
    rcases eCut hK with ⟨hpc, hK⟩ | hK
    · subst hpc
      obtain ⟨e0, hK_1⟩ := lR_some hK
      obtain ⟨a2, e2, hK_2⟩ := lJ_some hK_1
      obtain ⟨a4, e4, hK_3⟩ := lI_some hK_2
      obtain ⟨hst9, hK_4⟩ := sE_some hK_3
      subst hst9
      exact eGo.wk (go_mm_layPaid_L84 hcx  eFu a2 a4 w hK_4) (eLe_wk ⟨e0, e2, e4, trivial⟩)
    rcases eCut hK with ⟨hpc, hK⟩ | hK
    · subst hpc
      obtain ⟨e0, hK_1⟩ := lR_some hK
      obtain ⟨a2, e2, hK_2⟩ := lJ_some hK_1
      obtain ⟨a4, e4, hK_3⟩ := lI_some hK_2
      obtain ⟨a5, e5, hK_4⟩ := lI_some hK_3
      obtain ⟨hst9, hK_5⟩ := sE_some hK_4
      subst hst9
      exact eGo.wk (ih a2 a4 a5 w hK_5) (eLe_wk ⟨e0, e2, e4, e5, trivial⟩)
    cases hK
set_option maxRecDepth 100000 in
set_option maxHeartbeats 4000000 in
theorem go_mm_layPaid (hcx : eCx p { frames := 10, cells := 0, slots := 0, locals := 230 } s m args meth c cX12_layPaid RX12 7 ad D cA vwCl SHm SSm (eWd yX12_layPaid cX12_layPaid 7 none) (none)) (a1 : Int32) (w : eW) (x : eW) (h : f_mm_layPaid a1 w = some x) : eGq p l e { frames := 10, cells := 0, slots := 0, locals := 230 } s m args below meth c 7 ad D cA vwCl SHm rV x 0 (eEnt [.ref 24, .int a1]) [] w := by
  have h : eRun SHm SSm 7 rs_mm_layPaid (eCs cs_mm_layPaid) rV CX12_layPaid [32, 84, 102] (fun pc L st w => bif Nat.beq pc 32 then (lR L 0 24 ((lJ L 2).bind fun a2 => (lI L 4).bind fun a4 => (lI L 5).bind fun a5 => sE st (f_mm_layPaid_L32 eFu a2 a4 a5 w))) else none) 21 true 0 [some (.ref 24), some (.int a1), none, none, none, none, none] [] w = some x := h
  refine eGo.wk (eRun_go hcx (eLnk_all lk_mm_layPaid) (eHc_all hc_mm_layPaid) rV_ok dcX12_layPaid [32, 84, 102] _ (fun pc L st w hK => ?_) 21 true 0 _ _ w h) (eLe_wk ⟨rfl, rfl, trivial⟩)
  rcases eCut hK with ⟨hpc, hK⟩ | hK
  · subst hpc
    obtain ⟨e0, hK_1⟩ := lR_some hK
    obtain ⟨a2, e2, hK_2⟩ := lJ_some hK_1
    obtain ⟨a4, e4, hK_3⟩ := lI_some hK_2
    obtain ⟨a5, e5, hK_4⟩ := lI_some hK_3
    obtain ⟨hst9, hK_5⟩ := sE_some hK_4
    subst hst9
    exact eGo.wk (go_mm_layPaid_L32 hcx  eFu a2 a4 a5 w hK_5) (eLe_wk ⟨e0, e2, e4, e5, trivial⟩)
  cases hK
end
set_option maxRecDepth 100000 in
set_option maxHeartbeats 4000000 in
theorem ok_mm_layPaid {l : Launch} {ad : Nat → Nat} {D : va_G} {cA : Nat → ClassId} {ρ : Type} (as : List Value) (w : eW) (k : Option Value → eW → Option ρ) (x : ρ) (h : K_mm_layPaid as w k = some x) : ∃ (v : Option Value) (w2 : eW), k v w2 = some x ∧ eMet l ad D cA vwCl SHm SSm yX12_layPaid (eWd yX12_layPaid cX12_layPaid 7 none) { frames := 10, cells := 0, slots := 0, locals := 230 } as w v w2 := by
  unfold K_mm_layPaid at h
  split at h
  · rename_i r0 a1
    obtain ⟨h1, h5⟩ := eBif h
    clear h
    have h := h5
    clear h5
    have h1 := Nat.eq_of_beq_eq_true h1
    subst h1
    obtain ⟨q, h2, h3⟩ := Option.bind_eq_some_iff.mp h
    exact ⟨_, _, h3, eMet_of (by decide +kernel) rfl (by simp [eCat, Value.category]) rV_ret (fun p e s m args below meth c hcx => go_mm_layPaid hcx a1 w q h2)⟩
  · cases h
def CX12_paidOf : eCo := [[some (.aload_n 0), some (.iload_n 2), some (.invokevirtual 333), none, none, some (.aload_n 0), some (.getfield 73), none, none, some (.iload_n 1), some (.iaload), some (.ireturn)]]
theorem dcX12_paidOf : eDec cX12_paidOf CX12_paidOf := eDec_of (by decide +kernel)
def rs_mm_paidOf : List (Nat × eR) := [(73, (0, 11, 41, 2)), (333, (1, 0, 1, 11))]
noncomputable def cs_mm_paidOf : List (eF (Int32 × eW)) := [K_mm_layPaid]
noncomputable def f_mm_paidOf (a1 : Int32) (a2 : Int32) (w : eW) : Option (Int32 × eW) := ((f_mm_layPaid a2 w).bind fun w1 => (eChk a1 12 (some ((w1.1 17 (Int32.toNatClampNeg a1)), w1))))
noncomputable def K_mm_paidOf {ρ : Type} : eF ρ := fun as w k => match as with
  | [.ref r0, .int a1, .int a2] => bif Nat.beq r0 24 then (f_mm_paidOf a1 a2 w).bind (fun p => k (some (.int p.1)) p.2) else none
  | _ => none
section
variable {p : Program} {l : Launch} {e : Env} {s : State} {m : MethodId} {args : Array Value} {below : List Frame} {meth : Method} {c : Code} {ad : Nat → Nat} {D : va_G} {cA : Nat → ClassId}
theorem lk_mm_paidOf : ∀ q ∈ rs_mm_paidOf, eLnk { frames := 11, cells := 0, slots := 0, locals := 256 } vwCl (eWd yX12_paidOf cX12_paidOf 3 (some .int)) SSm SHm.length RX12 q.1 q.2 := List.forall_mem_cons.mpr ⟨lkX12_73 eTb_wd, List.forall_mem_cons.mpr ⟨trivial, fun _ h => absurd h List.not_mem_nil⟩⟩
theorem hc_mm_paidOf {x : Int32 × eW} : ∀ q ∈ rs_mm_paidOf, eHc l { frames := 11, cells := 0, slots := 0, locals := 256 } ad D cA vwCl SHm SSm (eWd yX12_paidOf cX12_paidOf 3 (some .int)) RX12 cs_mm_paidOf x q := List.forall_mem_cons.mpr ⟨trivial, List.forall_mem_cons.mpr ⟨(fun as w k h => let ⟨v, w2, h1, h2⟩ := ok_mm_layPaid as w k x h; ⟨v, w2, h1, eCal_of h2 ⟨rfl, rfl⟩ hdX12_layPaid (gvX12_333 eTb_wd)⟩), fun _ h => absurd h List.not_mem_nil⟩⟩
set_option maxRecDepth 100000 in
set_option maxHeartbeats 4000000 in
theorem go_mm_paidOf (hcx : eCx p { frames := 11, cells := 0, slots := 0, locals := 256 } s m args meth c cX12_paidOf RX12 3 ad D cA vwCl SHm SSm (eWd yX12_paidOf cX12_paidOf 3 (some .int)) (some .int)) (a1 : Int32) (a2 : Int32) (w : eW) (x : Int32 × eW) (h : f_mm_paidOf a1 a2 w = some x) : eGq p l e { frames := 11, cells := 0, slots := 0, locals := 256 } s m args below meth c 3 ad D cA vwCl SHm rI x 0 (eEnt [.ref 24, .int a1, .int a2]) [] w := by
  have h : eRun SHm SSm 3 rs_mm_paidOf (eCs cs_mm_paidOf) rI CX12_paidOf [] (fun pc L st w => none) 10 true 0 [some (.ref 24), some (.int a1), some (.int a2)] [] w = some x := h
  refine eGo.wk (eRun_go hcx (eLnk_all lk_mm_paidOf) (eHc_all hc_mm_paidOf) rI_ok dcX12_paidOf [] _ (fun pc L st w hK => ?_) 10 true 0 _ _ w h) (eLe_wk ⟨rfl, rfl, rfl, trivial⟩)
  cases hK
end
set_option maxRecDepth 100000 in
set_option maxHeartbeats 4000000 in
theorem ok_mm_paidOf {l : Launch} {ad : Nat → Nat} {D : va_G} {cA : Nat → ClassId} {ρ : Type} (as : List Value) (w : eW) (k : Option Value → eW → Option ρ) (x : ρ) (h : K_mm_paidOf as w k = some x) : ∃ (v : Option Value) (w2 : eW), k v w2 = some x ∧ eMet l ad D cA vwCl SHm SSm yX12_paidOf (eWd yX12_paidOf cX12_paidOf 3 (some .int)) { frames := 11, cells := 0, slots := 0, locals := 256 } as w v w2 := by
  unfold K_mm_paidOf at h
  split at h
  · rename_i r0 a1 a2
    obtain ⟨h1, h5⟩ := eBif h
    clear h
    have h := h5
    clear h5
    have h1 := Nat.eq_of_beq_eq_true h1
    subst h1
    obtain ⟨q, h2, h3⟩ := Option.bind_eq_some_iff.mp h
    exact ⟨_, _, h3, eMet_of (by decide +kernel) rfl (by simp [eCat, Value.category]) rI_ret (fun p e s m args below meth c hcx => go_mm_paidOf hcx a1 a2 w q h2)⟩
  · cases h
def CX12_paid : eCo := [[some (.aload_n 0), some (.iconst 0), some (.putfield 95), none, none, some (.aload_n 0), some (.iload_n 1), some (.invokevirtual 105), none, none, some (.ifCond .eq 19), none, none, some (.iload_n 2), some (.invokestatic 318), none],
  [none, some (.ifCond .eq 12), none, none, some (.aload_n 0), some (.iload_n 1), some (.iload_n 2), some (.invokevirtual 336), none, none, some (.goto 5), none, none, some (.bipush (-2)), none, some (.ireturn)]]
theorem dcX12_paid : eDec cX12_paid CX12_paid := eDec_of (by decide +kernel)
def rs_mm_paid : List (Nat × eR) := [(95, (0, 11, 0, 0)), (105, (1, 0, 1, 11)), (318, (1, 1, 1, -1)), (336, (1, 2, 2, 11))]
noncomputable def cs_mm_paid : List (eF (Int32 × eW)) := [K_mm_isHolder, K_mm_isAmount, K_mm_paidOf]
noncomputable def f_mm_paid (a1 : Int32) (a2 : Int32) (w : eW) : Option (Int32 × eW) := ((f_mm_isHolder a1 (eU1 w 24 0 (0 : Int32))).bind fun p1 => (if p1.1 = 0 then (some ((-2 : Int32), p1.2)) else ((f_mm_isAmount a2 p1.2).bind fun p2 => (if p2.1 = 0 then (some ((-2 : Int32), p2.2)) else ((f_mm_paidOf a1 a2 p2.2).bind fun p3 => (some (p3.1, p3.2)))))))
noncomputable def K_mm_paid {ρ : Type} : eF ρ := fun as w k => match as with
  | [.ref r0, .int a1, .int a2] => bif Nat.beq r0 24 then (f_mm_paid a1 a2 w).bind (fun p => k (some (.int p.1)) p.2) else none
  | _ => none
section
variable {p : Program} {l : Launch} {e : Env} {s : State} {m : MethodId} {args : Array Value} {below : List Frame} {meth : Method} {c : Code} {ad : Nat → Nat} {D : va_G} {cA : Nat → ClassId}
theorem lk_mm_paid : ∀ q ∈ rs_mm_paid, eLnk { frames := 12, cells := 0, slots := 0, locals := 278 } vwCl (eWd yX12_paid cX12_paid 3 (some .int)) SSm SHm.length RX12 q.1 q.2 := List.forall_mem_cons.mpr ⟨lkX12_95 eTb_wd, List.forall_mem_cons.mpr ⟨trivial, List.forall_mem_cons.mpr ⟨trivial, List.forall_mem_cons.mpr ⟨trivial, fun _ h => absurd h List.not_mem_nil⟩⟩⟩⟩
theorem hc_mm_paid {x : Int32 × eW} : ∀ q ∈ rs_mm_paid, eHc l { frames := 12, cells := 0, slots := 0, locals := 278 } ad D cA vwCl SHm SSm (eWd yX12_paid cX12_paid 3 (some .int)) RX12 cs_mm_paid x q := List.forall_mem_cons.mpr ⟨trivial, List.forall_mem_cons.mpr ⟨(fun as w k h => let ⟨v, w2, h1, h2⟩ := ok_mm_isHolder as w k x h; ⟨v, w2, h1, eCal_of h2 ⟨rfl, rfl⟩ hdX12_isHolder (gvX12_105 eTb_wd)⟩), List.forall_mem_cons.mpr ⟨(fun as w k h => let ⟨v, w2, h1, h2⟩ := ok_mm_isAmount as w k x h; ⟨v, w2, h1, eCal_of h2 ⟨rfl, rfl⟩ hdX12_isAmount (gvX12_318 eTb_wd)⟩), List.forall_mem_cons.mpr ⟨(fun as w k h => let ⟨v, w2, h1, h2⟩ := ok_mm_paidOf as w k x h; ⟨v, w2, h1, eCal_of h2 ⟨rfl, rfl⟩ hdX12_paidOf (gvX12_336 eTb_wd)⟩), fun _ h => absurd h List.not_mem_nil⟩⟩⟩⟩
set_option maxRecDepth 100000 in
set_option maxHeartbeats 4000000 in
theorem go_mm_paid (hcx : eCx p { frames := 12, cells := 0, slots := 0, locals := 278 } s m args meth c cX12_paid RX12 3 ad D cA vwCl SHm SSm (eWd yX12_paid cX12_paid 3 (some .int)) (some .int)) (a1 : Int32) (a2 : Int32) (w : eW) (x : Int32 × eW) (h : f_mm_paid a1 a2 w = some x) : eGq p l e { frames := 12, cells := 0, slots := 0, locals := 278 } s m args below meth c 3 ad D cA vwCl SHm rI x 0 (eEnt [.ref 24, .int a1, .int a2]) [] w := by
  have h : eRun SHm SSm 3 rs_mm_paid (eCs cs_mm_paid) rI CX12_paid [] (fun pc L st w => none) 18 true 0 [some (.ref 24), some (.int a1), some (.int a2)] [] w = some x := h
  refine eGo.wk (eRun_go hcx (eLnk_all lk_mm_paid) (eHc_all hc_mm_paid) rI_ok dcX12_paid [] _ (fun pc L st w hK => ?_) 18 true 0 _ _ w h) (eLe_wk ⟨rfl, rfl, rfl, trivial⟩)
  cases hK
end
set_option maxRecDepth 100000 in
set_option maxHeartbeats 4000000 in
theorem ok_mm_paid {l : Launch} {ad : Nat → Nat} {D : va_G} {cA : Nat → ClassId} {ρ : Type} (as : List Value) (w : eW) (k : Option Value → eW → Option ρ) (x : ρ) (h : K_mm_paid as w k = some x) : ∃ (v : Option Value) (w2 : eW), k v w2 = some x ∧ eMet l ad D cA vwCl SHm SSm yX12_paid (eWd yX12_paid cX12_paid 3 (some .int)) { frames := 12, cells := 0, slots := 0, locals := 278 } as w v w2 := by
  unfold K_mm_paid at h
  split at h
  · rename_i r0 a1 a2
    obtain ⟨h1, h5⟩ := eBif h
    clear h
    have h := h5
    clear h5
    have h1 := Nat.eq_of_beq_eq_true h1
    subst h1
    obtain ⟨q, h2, h3⟩ := Option.bind_eq_some_iff.mp h
    exact ⟨_, _, h3, eMet_of (by decide +kernel) rfl (by simp [eCat, Value.category]) rI_ret (fun p e s m args below meth c hcx => go_mm_paid hcx a1 a2 w q h2)⟩
  · cases h
