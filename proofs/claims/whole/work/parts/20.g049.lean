def CX12_hasUnits : eCo := [[some (.aload_n 0), some (.iload_n 2), some (.invokevirtual 323), none, none, some (.aload_n 0), some (.getfield 63), none, none, some (.iload_n 1), some (.laload), some (.aload_n 0), some (.getfield 66), none, none, some (.ldiv)],
  [some (.ldc2_w 263), none, none, some (.iload_n 3), some (.i2l), some (.lmul), some (.lcmp), some (.ifCond .lt 7), none, none, some (.iconst 1), some (.goto 4), none, none, some (.iconst 0), some (.ireturn)]]
theorem dcX12_hasUnits : eDec cX12_hasUnits CX12_hasUnits := eDec_of (by decide +kernel)
def rs_mm_hasUnits : List (Nat × eR) := [(63, (0, 11, 37, 2)), (66, (0, 11, 38, 1)), (263, (3, 0, 0, 100)), (323, (1, 0, 1, 11))]
noncomputable def cs_mm_hasUnits : List (eF (Int32 × eW)) := [K_mm_layBy]
noncomputable def f_mm_hasUnits (a1 : Int32) (a2 : Int32) (a3 : Int32) (w : eW) : Option (Int32 × eW) := ((f_mm_layBy a2 w).bind fun w1 => (eChk a1 12 (if (w1.2 24 38) = 0 then none else (if (lg_cmp ((w1.2 16 (Int32.toNatClampNeg a1)) / (w1.2 24 38)) ((100 : Int64) * ((a3).toInt64))) < 0 then (some ((0 : Int32), w1)) else (some ((1 : Int32), w1))))))
noncomputable def K_mm_hasUnits {ρ : Type} : eF ρ := fun as w k => match as with
  | [.ref r0, .int a1, .int a2, .int a3] => bif Nat.beq r0 24 then (f_mm_hasUnits a1 a2 a3 w).bind (fun p => k (some (.int p.1)) p.2) else none
  | _ => none
section
variable {p : Program} {l : Launch} {e : Env} {s : State} {m : MethodId} {args : Array Value} {below : List Frame} {meth : Method} {c : Code} {ad : Nat → Nat} {D : va_G} {cA : Nat → ClassId}
theorem lk_mm_hasUnits : ∀ q ∈ rs_mm_hasUnits, eLnk { frames := 10, cells := 0, slots := 0, locals := 230 } vwCl (eWd yX12_hasUnits cX12_hasUnits 4 (some .boolean)) SSm SHm.length RX12 q.1 q.2 := List.forall_mem_cons.mpr ⟨lkX12_63 eTb_wd, List.forall_mem_cons.mpr ⟨lkX12_66 eTb_wd, List.forall_mem_cons.mpr ⟨lkX12_263 eTb_wd, List.forall_mem_cons.mpr ⟨trivial, fun _ h => absurd h List.not_mem_nil⟩⟩⟩⟩
theorem hc_mm_hasUnits {x : Int32 × eW} : ∀ q ∈ rs_mm_hasUnits, eHc l { frames := 10, cells := 0, slots := 0, locals := 230 } ad D cA vwCl SHm SSm (eWd yX12_hasUnits cX12_hasUnits 4 (some .boolean)) RX12 cs_mm_hasUnits x q := List.forall_mem_cons.mpr ⟨trivial, List.forall_mem_cons.mpr ⟨trivial, List.forall_mem_cons.mpr ⟨trivial, List.forall_mem_cons.mpr ⟨(fun as w k h => let ⟨v, w2, h1, h2⟩ := ok_mm_layBy as w k x h; ⟨v, w2, h1, eCal_of h2 ⟨rfl, rfl⟩ hdX12_layBy (gvX12_323 eTb_wd)⟩), fun _ h => absurd h List.not_mem_nil⟩⟩⟩⟩
set_option maxRecDepth 100000 in
set_option maxHeartbeats 4000000 in
theorem go_mm_hasUnits (hcx : eCx p { frames := 10, cells := 0, slots := 0, locals := 230 } s m args meth c cX12_hasUnits RX12 4 ad D cA vwCl SHm SSm (eWd yX12_hasUnits cX12_hasUnits 4 (some .boolean)) (some .boolean)) (a1 : Int32) (a2 : Int32) (a3 : Int32) (w : eW) (x : Int32 × eW) (h : f_mm_hasUnits a1 a2 a3 w = some x) : eGq p l e { frames := 10, cells := 0, slots := 0, locals := 230 } s m args below meth c 4 ad D cA vwCl SHm rZ x 0 (eEnt [.ref 24, .int a1, .int a2, .int a3]) [] w := by
  have h : eRun SHm SSm 4 rs_mm_hasUnits (eCs cs_mm_hasUnits) rZ CX12_hasUnits [] (fun pc L st w => none) 21 true 0 [some (.ref 24), some (.int a1), some (.int a2), some (.int a3)] [] w = some x := h
  refine eGo.wk (eRun_go hcx (eLnk_all lk_mm_hasUnits) (eHc_all hc_mm_hasUnits) rZ_ok dcX12_hasUnits [] _ (fun pc L st w hK => ?_) 21 true 0 _ _ w h) (eLe_wk ⟨rfl, rfl, rfl, rfl, trivial⟩)
  cases hK
end
set_option maxRecDepth 100000 in
set_option maxHeartbeats 4000000 in
theorem ok_mm_hasUnits {l : Launch} {ad : Nat → Nat} {D : va_G} {cA : Nat → ClassId} {ρ : Type} (as : List Value) (w : eW) (k : Option Value → eW → Option ρ) (x : ρ) (h : K_mm_hasUnits as w k = some x) : ∃ (v : Option Value) (w2 : eW), k v w2 = some x ∧ eMet l ad D cA vwCl SHm SSm yX12_hasUnits (eWd yX12_hasUnits cX12_hasUnits 4 (some .boolean)) { frames := 10, cells := 0, slots := 0, locals := 230 } as w v w2 := by
  unfold K_mm_hasUnits at h
  split at h
  · rename_i r0 a1 a2 a3
    obtain ⟨h1, h5⟩ := eBif h
    clear h
    have h := h5
    clear h5
    have h1 := Nat.eq_of_beq_eq_true h1
    subst h1
    obtain ⟨q, h2, h3⟩ := Option.bind_eq_some_iff.mp h
    exact ⟨_, _, h3, eMet_of (by decide +kernel) rfl (by simp [eCat, Value.category]) rZ_ret (fun p e s m args below meth c hcx => go_mm_hasUnits hcx a1 a2 a3 w q h2)⟩
  · cases h
def CX12_least : eCo := [[some (.aload_n 0), some (.iconst 0), some (.putfield 95), none, none, some (.aload_n 0), some (.iload_n 1), some (.invokevirtual 105), none, none, some (.ifCond .eq 13), none, none, some (.iload_n 2), some (.iconst 1), some (.ldc 109)],
  [none, some (.invokestatic 101), none, none, some (.ifCond .ne 6), none, none, some (.bipush (-2)), none, some (.ireturn), some (.aload_n 0), some (.iload_n 1), some (.ldc 109), none, some (.iload_n 2), some (.invokevirtual 339)],
  [none, none, some (.ifCond .ne 5), none, none, some (.iconst (-1)), some (.ireturn), some (.iconst 0), some (.istore_n 3), some (.ldc 109), none, some (.istore 4), none, some (.iload_n 3), some (.iload 4), none],
  [some (.if_icmp .ge 37), none, none, some (.iload_n 3), some (.iload 4), none, some (.iadd), some (.iconst 2), some (.idiv), some (.istore 5), none, some (.aload_n 0), some (.iload_n 1), some (.iload 5), none, some (.iload_n 2)],
  [some (.invokevirtual 339), none, none, some (.ifCond .eq 10), none, none, some (.iload 5), none, some (.istore 4), none, some (.goto 8), none, none, some (.iload 5), none, some (.iconst 1)],
  [some (.iadd), some (.istore_n 3), some (.goto (-37)), none, none, some (.iload_n 3), some (.ireturn)]]
theorem dcX12_least : eDec cX12_least CX12_least := eDec_of (by decide +kernel)
def rs_mm_least : List (Nat × eR) := [(95, (0, 11, 0, 0)), (101, (1, 1, 3, -1)), (105, (1, 0, 1, 11)), (109, (2, 0, 0, 9999999)), (339, (1, 2, 3, 11))]
noncomputable def cs_mm_least : List (eF (Int32 × eW)) := [K_mm_isHolder, K_mm_in, K_mm_hasUnits]
noncomputable def f_mm_least_L45 : Nat → Int32 → Int32 → Int32 → Int32 → eW → Option (Int32 × eW)
  | 0, _, _, _, _, _ => none
  | n + 1, a1, a2, a3, a4, w => (if a4 ≤ a3 then (some (a3, w)) else ((f_mm_hasUnits a1 ((a3 + a4) / (2 : Int32)) a2 w).bind fun p4 => (if p4.1 = 0 then (f_mm_least_L45 n a1 a2 (((a3 + a4) / (2 : Int32)) + (1 : Int32)) a4 p4.2) else (f_mm_least_L45 n a1 a2 a3 ((a3 + a4) / (2 : Int32)) p4.2))))
noncomputable def f_mm_least (a1 : Int32) (a2 : Int32) (w : eW) : Option (Int32 × eW) := ((f_mm_isHolder a1 (eU1 w 24 0 (0 : Int32))).bind fun p1 => (if p1.1 = 0 then (some ((-2 : Int32), p1.2)) else ((f_mm_in a2 (1 : Int32) (9999999 : Int32) p1.2).bind fun p2 => (if ¬ p2.1 = 0 then ((f_mm_hasUnits a1 (9999999 : Int32) a2 p2.2).bind fun p3 => (if ¬ p3.1 = 0 then (f_mm_least_L45 eFu a1 a2 (0 : Int32) (9999999 : Int32) p3.2) else (some ((-1 : Int32), p3.2)))) else (some ((-2 : Int32), p2.2))))))
noncomputable def K_mm_least {ρ : Type} : eF ρ := fun as w k => match as with
  | [.ref r0, .int a1, .int a2] => bif Nat.beq r0 24 then (f_mm_least a1 a2 w).bind (fun p => k (some (.int p.1)) p.2) else none
  | _ => none
section
variable {p : Program} {l : Launch} {e : Env} {s : State} {m : MethodId} {args : Array Value} {below : List Frame} {meth : Method} {c : Code} {ad : Nat → Nat} {D : va_G} {cA : Nat → ClassId}
theorem lk_mm_least : ∀ q ∈ rs_mm_least, eLnk { frames := 11, cells := 0, slots := 0, locals := 253 } vwCl (eWd yX12_least cX12_least 6 (some .int)) SSm SHm.length RX12 q.1 q.2 := List.forall_mem_cons.mpr ⟨lkX12_95 eTb_wd, List.forall_mem_cons.mpr ⟨trivial, List.forall_mem_cons.mpr ⟨trivial, List.forall_mem_cons.mpr ⟨lkX12_109 eTb_wd, List.forall_mem_cons.mpr ⟨trivial, fun _ h => absurd h List.not_mem_nil⟩⟩⟩⟩⟩
theorem hc_mm_least {x : Int32 × eW} : ∀ q ∈ rs_mm_least, eHc l { frames := 11, cells := 0, slots := 0, locals := 253 } ad D cA vwCl SHm SSm (eWd yX12_least cX12_least 6 (some .int)) RX12 cs_mm_least x q := List.forall_mem_cons.mpr ⟨trivial, List.forall_mem_cons.mpr ⟨(fun as w k h => let ⟨v, w2, h1, h2⟩ := ok_mm_in as w k x h; ⟨v, w2, h1, eCal_of h2 ⟨rfl, rfl⟩ hdX12_in (gvX12_101 eTb_wd)⟩), List.forall_mem_cons.mpr ⟨(fun as w k h => let ⟨v, w2, h1, h2⟩ := ok_mm_isHolder as w k x h; ⟨v, w2, h1, eCal_of h2 ⟨rfl, rfl⟩ hdX12_isHolder (gvX12_105 eTb_wd)⟩), List.forall_mem_cons.mpr ⟨trivial, List.forall_mem_cons.mpr ⟨(fun as w k h => let ⟨v, w2, h1, h2⟩ := ok_mm_hasUnits as w k x h; ⟨v, w2, h1, eCal_of h2 ⟨rfl, rfl⟩ hdX12_hasUnits (gvX12_339 eTb_wd)⟩), fun _ h => absurd h List.not_mem_nil⟩⟩⟩⟩⟩
noncomputable def kk_mm_least_45 (n : Nat) : eK (Int32 × eW) := fun pc L st w => bif Nat.beq pc 45 then (lR L 0 24 ((lI L 1).bind fun a1 => (lI L 2).bind fun a2 => (lI L 3).bind fun a3 => (lI L 4).bind fun a4 => sE st (f_mm_least_L45 n a1 a2 a3 a4 w))) else none
set_option maxRecDepth 100000 in
set_option maxHeartbeats 4000000 in
theorem go_mm_least_L45 (hcx : eCx p { frames := 11, cells := 0, slots := 0, locals := 253 } s m args meth c cX12_least RX12 6 ad D cA vwCl SHm SSm (eWd yX12_least cX12_least 6 (some .int)) (some .int)) {x : Int32 × eW} : ∀ (n : Nat) (a1 : Int32) (a2 : Int32) (a3 : Int32) (a4 : Int32) (w : eW), f_mm_least_L45  n a1 a2 a3 a4 w = some x → eGq p l e { frames := 11, cells := 0, slots := 0, locals := 253 } s m args below meth c 6 ad D cA vwCl SHm rI x 45 [some (.ref 24), some (.int a1), some (.int a2), some (.int a3), some (.int a4), none] [] w := by
  intro n
  induction n with
  | zero => intro a1 a2 a3 a4 w h; exact nomatch (show (none : Option (Int32 × eW)) = some x from h)
  | succ n ih =>
    intro a1 a2 a3 a4 w h
    have h : eRun SHm SSm 6 rs_mm_least (eCs cs_mm_least) rI CX12_least [45] (kk_mm_least_45  n) 23 true 45 [some (.ref 24), some (.int a1), some (.int a2), some (.int a3), some (.int a4), none] [] w = some x := h
    refine eRun_go hcx (eLnk_all lk_mm_least) (eHc_all hc_mm_least) rI_ok dcX12_least [45] _ (fun pc L st w hK => ?_) 23 true 45 _ _ w h
    unfold kk_mm_least_45 at hK
    rcases eCut hK with ⟨hpc, hK⟩ | hK
    · subst hpc
      obtain ⟨e0, hK_1⟩ := lR_some hK
      obtain ⟨a1, e1, hK_2⟩ := lI_some hK_1
      obtain ⟨a2, e2, hK_3⟩ := lI_some hK_2
      obtain ⟨a3, e3, hK_4⟩ := lI_some hK_3
      obtain ⟨a4, e4, hK_5⟩ := lI_some hK_4
      obtain ⟨hst9, hK_6⟩ := sE_some hK_5
      subst hst9
      exact eGo.wk (ih a1 a2 a3 a4 w hK_6) (eLe_wk ⟨e0, e1, e2, e3, e4, trivial⟩)
    cases hK
set_option maxRecDepth 100000 in
set_option maxHeartbeats 4000000 in
theorem go_mm_least (hcx : eCx p { frames := 11, cells := 0, slots := 0, locals := 253 } s m args meth c cX12_least RX12 6 ad D cA vwCl SHm SSm (eWd yX12_least cX12_least 6 (some .int)) (some .int)) (a1 : Int32) (a2 : Int32) (w : eW) (x : Int32 × eW) (h : f_mm_least a1 a2 w = some x) : eGq p l e { frames := 11, cells := 0, slots := 0, locals := 253 } s m args below meth c 6 ad D cA vwCl SHm rI x 0 (eEnt [.ref 24, .int a1, .int a2]) [] w := by
  have h : eRun SHm SSm 6 rs_mm_least (eCs cs_mm_least) rI CX12_least [45] (fun pc L st w => bif Nat.beq pc 45 then (lR L 0 24 ((lI L 1).bind fun a1 => (lI L 2).bind fun a2 => (lI L 3).bind fun a3 => (lI L 4).bind fun a4 => sE st (f_mm_least_L45 eFu a1 a2 a3 a4 w))) else none) 25 true 0 [some (.ref 24), some (.int a1), some (.int a2), none, none, none] [] w = some x := h
  refine eGo.wk (eRun_go hcx (eLnk_all lk_mm_least) (eHc_all hc_mm_least) rI_ok dcX12_least [45] _ (fun pc L st w hK => ?_) 25 true 0 _ _ w h) (eLe_wk ⟨rfl, rfl, rfl, trivial⟩)
  rcases eCut hK with ⟨hpc, hK⟩ | hK
  · subst hpc
    obtain ⟨e0, hK_1⟩ := lR_some hK
    obtain ⟨a1, e1, hK_2⟩ := lI_some hK_1
    obtain ⟨a2, e2, hK_3⟩ := lI_some hK_2
    obtain ⟨a3, e3, hK_4⟩ := lI_some hK_3
    obtain ⟨a4, e4, hK_5⟩ := lI_some hK_4
    obtain ⟨hst9, hK_6⟩ := sE_some hK_5
    subst hst9
    exact eGo.wk (go_mm_least_L45 hcx  eFu a1 a2 a3 a4 w hK_6) (eLe_wk ⟨e0, e1, e2, e3, e4, trivial⟩)
  cases hK
end
set_option maxRecDepth 100000 in
set_option maxHeartbeats 4000000 in
theorem ok_mm_least {l : Launch} {ad : Nat → Nat} {D : va_G} {cA : Nat → ClassId} {ρ : Type} (as : List Value) (w : eW) (k : Option Value → eW → Option ρ) (x : ρ) (h : K_mm_least as w k = some x) : ∃ (v : Option Value) (w2 : eW), k v w2 = some x ∧ eMet l ad D cA vwCl SHm SSm yX12_least (eWd yX12_least cX12_least 6 (some .int)) { frames := 11, cells := 0, slots := 0, locals := 253 } as w v w2 := by
  unfold K_mm_least at h
  split at h
  · rename_i r0 a1 a2
    obtain ⟨h1, h5⟩ := eBif h
    clear h
    have h := h5
    clear h5
    have h1 := Nat.eq_of_beq_eq_true h1
    subst h1
    obtain ⟨q, h2, h3⟩ := Option.bind_eq_some_iff.mp h
    exact ⟨_, _, h3, eMet_of (by decide +kernel) rfl (by simp [eCat, Value.category]) rI_ret (fun p e s m args below meth c hcx => go_mm_least hcx a1 a2 w q h2)⟩
  · cases h
def CX12_asksFor : eCo := [[some (.aload_n 0), some (.iload_n 2), some (.invokevirtual 323), none, none, some (.aload_n 0), some (.aload_n 0), some (.iload_n 1), some (.iconst 0), some (.invokevirtual 326), none, none, some (.putfield 342), none, none, some (.aload_n 0)],
  [some (.aload_n 0), some (.iload_n 1), some (.iconst 1), some (.invokevirtual 326), none, none, some (.putfield 345), none, none, some (.return_)]]
theorem dcX12_asksFor : eDec cX12_asksFor CX12_asksFor := eDec_of (by decide +kernel)
def rs_mm_asksFor : List (Nat × eR) := [(323, (1, 0, 1, 11)), (326, (1, 1, 2, 11)), (342, (0, 11, 43, 1)), (345, (0, 11, 44, 1))]
noncomputable def cs_mm_asksFor : List (eF (eW)) := [K_mm_layBy, K_mm_lowest]
noncomputable def f_mm_asksFor (a1 : Int32) (a2 : Int32) (w : eW) : Option (eW) := ((f_mm_layBy a2 w).bind fun w1 => ((f_mm_lowest a1 (0 : Int32) w1).bind fun p2 => ((f_mm_lowest a1 (1 : Int32) (eU2 p2.2 24 43 p2.1)).bind fun p3 => (some (eU2 p3.2 24 44 p3.1)))))
noncomputable def K_mm_asksFor {ρ : Type} : eF ρ := fun as w k => match as with
  | [.ref r0, .int a1, .int a2] => bif Nat.beq r0 24 then (f_mm_asksFor a1 a2 w).bind (fun w => k none w) else none
  | _ => none
section
variable {p : Program} {l : Launch} {e : Env} {s : State} {m : MethodId} {args : Array Value} {below : List Frame} {meth : Method} {c : Code} {ad : Nat → Nat} {D : va_G} {cA : Nat → ClassId}
theorem lk_mm_asksFor : ∀ q ∈ rs_mm_asksFor, eLnk { frames := 10, cells := 0, slots := 0, locals := 230 } vwCl (eWd yX12_asksFor cX12_asksFor 3 none) SSm SHm.length RX12 q.1 q.2 := List.forall_mem_cons.mpr ⟨trivial, List.forall_mem_cons.mpr ⟨trivial, List.forall_mem_cons.mpr ⟨lkX12_342 eTb_wd, List.forall_mem_cons.mpr ⟨lkX12_345 eTb_wd, fun _ h => absurd h List.not_mem_nil⟩⟩⟩⟩
theorem hc_mm_asksFor {x : eW} : ∀ q ∈ rs_mm_asksFor, eHc l { frames := 10, cells := 0, slots := 0, locals := 230 } ad D cA vwCl SHm SSm (eWd yX12_asksFor cX12_asksFor 3 none) RX12 cs_mm_asksFor x q := List.forall_mem_cons.mpr ⟨(fun as w k h => let ⟨v, w2, h1, h2⟩ := ok_mm_layBy as w k x h; ⟨v, w2, h1, eCal_of h2 ⟨rfl, rfl⟩ hdX12_layBy (gvX12_323 eTb_wd)⟩), List.forall_mem_cons.mpr ⟨(fun as w k h => let ⟨v, w2, h1, h2⟩ := ok_mm_lowest as w k x h; ⟨v, w2, h1, eCal_of h2 ⟨rfl, rfl⟩ hdX12_lowest (gvX12_326 eTb_wd)⟩), List.forall_mem_cons.mpr ⟨trivial, List.forall_mem_cons.mpr ⟨trivial, fun _ h => absurd h List.not_mem_nil⟩⟩⟩⟩
set_option maxRecDepth 100000 in
set_option maxHeartbeats 4000000 in
theorem go_mm_asksFor (hcx : eCx p { frames := 10, cells := 0, slots := 0, locals := 230 } s m args meth c cX12_asksFor RX12 3 ad D cA vwCl SHm SSm (eWd yX12_asksFor cX12_asksFor 3 none) (none)) (a1 : Int32) (a2 : Int32) (w : eW) (x : eW) (h : f_mm_asksFor a1 a2 w = some x) : eGq p l e { frames := 10, cells := 0, slots := 0, locals := 230 } s m args below meth c 3 ad D cA vwCl SHm rV x 0 (eEnt [.ref 24, .int a1, .int a2]) [] w := by
  have h : eRun SHm SSm 3 rs_mm_asksFor (eCs cs_mm_asksFor) rV CX12_asksFor [] (fun pc L st w => none) 18 true 0 [some (.ref 24), some (.int a1), some (.int a2)] [] w = some x := h
  refine eGo.wk (eRun_go hcx (eLnk_all lk_mm_asksFor) (eHc_all hc_mm_asksFor) rV_ok dcX12_asksFor [] _ (fun pc L st w hK => ?_) 18 true 0 _ _ w h) (eLe_wk ⟨rfl, rfl, rfl, trivial⟩)
  cases hK
end
set_option maxRecDepth 100000 in
set_option maxHeartbeats 4000000 in
theorem ok_mm_asksFor {l : Launch} {ad : Nat → Nat} {D : va_G} {cA : Nat → ClassId} {ρ : Type} (as : List Value) (w : eW) (k : Option Value → eW → Option ρ) (x : ρ) (h : K_mm_asksFor as w k = some x) : ∃ (v : Option Value) (w2 : eW), k v w2 = some x ∧ eMet l ad D cA vwCl SHm SSm yX12_asksFor (eWd yX12_asksFor cX12_asksFor 3 none) { frames := 10, cells := 0, slots := 0, locals := 230 } as w v w2 := by
  unfold K_mm_asksFor at h
  split at h
  · rename_i r0 a1 a2
    obtain ⟨h1, h5⟩ := eBif h
    clear h
    have h := h5
    clear h5
    have h1 := Nat.eq_of_beq_eq_true h1
    subst h1
    obtain ⟨q, h2, h3⟩ := Option.bind_eq_some_iff.mp h
    exact ⟨_, _, h3, eMet_of (by decide +kernel) rfl (by simp [eCat, Value.category]) rV_ret (fun p e s m args below meth c hcx => go_mm_asksFor hcx a1 a2 w q h2)⟩
  · cases h
def CX12_isLike : eCo := [[some (.aload_n 0), some (.iload_n 2), some (.invokevirtual 323), none, none, some (.aload_n 0), some (.iload_n 1), some (.iconst 0), some (.invokevirtual 326), none, none, some (.aload_n 0), some (.getfield 342), none, none, some (.lcmp)],
  [some (.ifCond .ne 21), none, none, some (.aload_n 0), some (.iload_n 1), some (.iconst 1), some (.invokevirtual 326), none, none, some (.aload_n 0), some (.getfield 345), none, none, some (.lcmp), some (.ifCond .ne 7), none],
  [none, some (.iconst 1), some (.goto 4), none, none, some (.iconst 0), some (.ireturn)]]
theorem dcX12_isLike : eDec cX12_isLike CX12_isLike := eDec_of (by decide +kernel)
def rs_mm_isLike : List (Nat × eR) := [(323, (1, 0, 1, 11)), (326, (1, 1, 2, 11)), (342, (0, 11, 43, 1)), (345, (0, 11, 44, 1))]
noncomputable def cs_mm_isLike : List (eF (Int32 × eW)) := [K_mm_layBy, K_mm_lowest]
noncomputable def f_mm_isLike (a1 : Int32) (a2 : Int32) (w : eW) : Option (Int32 × eW) := ((f_mm_layBy a2 w).bind fun w1 => ((f_mm_lowest a1 (0 : Int32) w1).bind fun p2 => (if ¬ (lg_cmp p2.1 (p2.2.2 24 43)) = 0 then (some ((0 : Int32), p2.2)) else ((f_mm_lowest a1 (1 : Int32) p2.2).bind fun p3 => (if ¬ (lg_cmp p3.1 (p3.2.2 24 44)) = 0 then (some ((0 : Int32), p3.2)) else (some ((1 : Int32), p3.2)))))))
noncomputable def K_mm_isLike {ρ : Type} : eF ρ := fun as w k => match as with
  | [.ref r0, .int a1, .int a2] => bif Nat.beq r0 24 then (f_mm_isLike a1 a2 w).bind (fun p => k (some (.int p.1)) p.2) else none
  | _ => none
section
variable {p : Program} {l : Launch} {e : Env} {s : State} {m : MethodId} {args : Array Value} {below : List Frame} {meth : Method} {c : Code} {ad : Nat → Nat} {D : va_G} {cA : Nat → ClassId}
theorem lk_mm_isLike : ∀ q ∈ rs_mm_isLike, eLnk { frames := 10, cells := 0, slots := 0, locals := 230 } vwCl (eWd yX12_isLike cX12_isLike 3 (some .boolean)) SSm SHm.length RX12 q.1 q.2 := List.forall_mem_cons.mpr ⟨trivial, List.forall_mem_cons.mpr ⟨trivial, List.forall_mem_cons.mpr ⟨lkX12_342 eTb_wd, List.forall_mem_cons.mpr ⟨lkX12_345 eTb_wd, fun _ h => absurd h List.not_mem_nil⟩⟩⟩⟩
theorem hc_mm_isLike {x : Int32 × eW} : ∀ q ∈ rs_mm_isLike, eHc l { frames := 10, cells := 0, slots := 0, locals := 230 } ad D cA vwCl SHm SSm (eWd yX12_isLike cX12_isLike 3 (some .boolean)) RX12 cs_mm_isLike x q := List.forall_mem_cons.mpr ⟨(fun as w k h => let ⟨v, w2, h1, h2⟩ := ok_mm_layBy as w k x h; ⟨v, w2, h1, eCal_of h2 ⟨rfl, rfl⟩ hdX12_layBy (gvX12_323 eTb_wd)⟩), List.forall_mem_cons.mpr ⟨(fun as w k h => let ⟨v, w2, h1, h2⟩ := ok_mm_lowest as w k x h; ⟨v, w2, h1, eCal_of h2 ⟨rfl, rfl⟩ hdX12_lowest (gvX12_326 eTb_wd)⟩), List.forall_mem_cons.mpr ⟨trivial, List.forall_mem_cons.mpr ⟨trivial, fun _ h => absurd h List.not_mem_nil⟩⟩⟩⟩
set_option maxRecDepth 100000 in
set_option maxHeartbeats 4000000 in
theorem go_mm_isLike (hcx : eCx p { frames := 10, cells := 0, slots := 0, locals := 230 } s m args meth c cX12_isLike RX12 3 ad D cA vwCl SHm SSm (eWd yX12_isLike cX12_isLike 3 (some .boolean)) (some .boolean)) (a1 : Int32) (a2 : Int32) (w : eW) (x : Int32 × eW) (h : f_mm_isLike a1 a2 w = some x) : eGq p l e { frames := 10, cells := 0, slots := 0, locals := 230 } s m args below meth c 3 ad D cA vwCl SHm rZ x 0 (eEnt [.ref 24, .int a1, .int a2]) [] w := by
  have h : eRun SHm SSm 3 rs_mm_isLike (eCs cs_mm_isLike) rZ CX12_isLike [] (fun pc L st w => none) 24 true 0 [some (.ref 24), some (.int a1), some (.int a2)] [] w = some x := h
  refine eGo.wk (eRun_go hcx (eLnk_all lk_mm_isLike) (eHc_all hc_mm_isLike) rZ_ok dcX12_isLike [] _ (fun pc L st w hK => ?_) 24 true 0 _ _ w h) (eLe_wk ⟨rfl, rfl, rfl, trivial⟩)
  cases hK
end
set_option maxRecDepth 100000 in
set_option maxHeartbeats 4000000 in
theorem ok_mm_isLike {l : Launch} {ad : Nat → Nat} {D : va_G} {cA : Nat → ClassId} {ρ : Type} (as : List Value) (w : eW) (k : Option Value → eW → Option ρ) (x : ρ) (h : K_mm_isLike as w k = some x) : ∃ (v : Option Value) (w2 : eW), k v w2 = some x ∧ eMet l ad D cA vwCl SHm SSm yX12_isLike (eWd yX12_isLike cX12_isLike 3 (some .boolean)) { frames := 10, cells := 0, slots := 0, locals := 230 } as w v w2 := by
  unfold K_mm_isLike at h
  split at h
  · rename_i r0 a1 a2
    obtain ⟨h1, h5⟩ := eBif h
    clear h
    have h := h5
    clear h5
    have h1 := Nat.eq_of_beq_eq_true h1
    subst h1
    obtain ⟨q, h2, h3⟩ := Option.bind_eq_some_iff.mp h
    exact ⟨_, _, h3, eMet_of (by decide +kernel) rfl (by simp [eCat, Value.category]) rZ_ret (fun p e s m args below meth c hcx => go_mm_isLike hcx a1 a2 w q h2)⟩
  · cases h
def CX12_flat : eCo := [[some (.aload_n 0), some (.iconst 0), some (.putfield 95), none, none, some (.aload_n 0), some (.iload_n 1), some (.invokevirtual 105), none, none, some (.ifCond .eq 19), none, none, some (.iload_n 2), some (.invokestatic 318), none],
  [none, some (.ifCond .eq 12), none, none, some (.iload_n 3), some (.iconst 0), some (.iconst 1), some (.invokestatic 101), none, none, some (.ifCond .ne 6), none, none, some (.bipush (-2)), none, some (.ireturn)],
  [some (.aload_n 0), some (.iload_n 1), some (.iload_n 2), some (.invokevirtual 348), none, none, some (.iload_n 2), some (.istore 4), none, some (.iload_n 3), some (.ifCond .ne 7), none, none, some (.iconst (-1)), some (.goto 6), none],
  [none, some (.ldc_w 351), none, none, some (.istore 5), none, some (.iload 4), none, some (.iload 5), none, some (.isub), some (.iconst 1), some (.if_icmp .gt 12), none, none, some (.iload 5)],
  [none, some (.iload 4), none, some (.isub), some (.iconst 1), some (.if_icmp .le 41), none, none, some (.iload 4), none, some (.iload 5), none, some (.iadd), some (.iconst 2), some (.idiv), some (.istore 6)],
  [none, some (.iload 6), none, some (.ifCond .lt 20), none, none, some (.aload_n 0), some (.iload_n 1), some (.iload 6), none, some (.invokevirtual 352), none, none, some (.ifCond .eq 10), none, none],
  [some (.iload 6), none, some (.istore 4), none, some (.goto 7), none, none, some (.iload 6), none, some (.istore 5), none, some (.goto (-53)), none, none, some (.iload 4), none],
  [some (.ireturn)]]
theorem dcX12_flat : eDec cX12_flat CX12_flat := eDec_of (by decide +kernel)
def rs_mm_flat : List (Nat × eR) := [(95, (0, 11, 0, 0)), (101, (1, 2, 3, -1)), (105, (1, 0, 1, 11)), (318, (1, 1, 1, -1)), (348, (1, 3, 2, 11)), (351, (2, 0, 0, 10000000)), (352, (1, 4, 2, 11))]
noncomputable def cs_mm_flat : List (eF (Int32 × eW)) := [K_mm_isHolder, K_mm_isAmount, K_mm_in, K_mm_asksFor, K_mm_isLike]
noncomputable def f_mm_flat_L54 : Nat → Int32 → Int32 → Int32 → eW → Option (Int32 × eW)
  | 0, _, _, _, _ => none
  | n + 1, a1, a4, a5, w => (if (1 : Int32) < (a4 - a5) then (if ((a4 + a5) / (2 : Int32)) < 0 then (f_mm_flat_L54 n a1 a4 ((a4 + a5) / (2 : Int32)) w) else ((f_mm_isLike a1 ((a4 + a5) / (2 : Int32)) w).bind fun p5 => (if p5.1 = 0 then (f_mm_flat_L54 n a1 a4 ((a4 + a5) / (2 : Int32)) p5.2) else (f_mm_flat_L54 n a1 ((a4 + a5) / (2 : Int32)) a5 p5.2)))) else (if (a5 - a4) ≤ (1 : Int32) then (some (a4, w)) else (if ((a4 + a5) / (2 : Int32)) < 0 then (f_mm_flat_L54 n a1 a4 ((a4 + a5) / (2 : Int32)) w) else ((f_mm_isLike a1 ((a4 + a5) / (2 : Int32)) w).bind fun p6 => (if p6.1 = 0 then (f_mm_flat_L54 n a1 a4 ((a4 + a5) / (2 : Int32)) p6.2) else (f_mm_flat_L54 n a1 ((a4 + a5) / (2 : Int32)) a5 p6.2))))))
noncomputable def f_mm_flat (a1 : Int32) (a2 : Int32) (a3 : Int32) (w : eW) : Option (Int32 × eW) := ((f_mm_isHolder a1 (eU1 w 24 0 (0 : Int32))).bind fun p1 => (if p1.1 = 0 then (some ((-2 : Int32), p1.2)) else ((f_mm_isAmount a2 p1.2).bind fun p2 => (if p2.1 = 0 then (some ((-2 : Int32), p2.2)) else ((f_mm_in a3 (0 : Int32) (1 : Int32) p2.2).bind fun p3 => (if ¬ p3.1 = 0 then ((f_mm_asksFor a1 a2 p3.2).bind fun w4 => (if ¬ a3 = 0 then (f_mm_flat_L54 eFu a1 a2 (10000000 : Int32) w4) else (f_mm_flat_L54 eFu a1 a2 (-1 : Int32) w4))) else (some ((-2 : Int32), p3.2))))))))
noncomputable def K_mm_flat {ρ : Type} : eF ρ := fun as w k => match as with
  | [.ref r0, .int a1, .int a2, .int a3] => bif Nat.beq r0 24 then (f_mm_flat a1 a2 a3 w).bind (fun p => k (some (.int p.1)) p.2) else none
  | _ => none
section
variable {p : Program} {l : Launch} {e : Env} {s : State} {m : MethodId} {args : Array Value} {below : List Frame} {meth : Method} {c : Code} {ad : Nat → Nat} {D : va_G} {cA : Nat → ClassId}
theorem lk_mm_flat : ∀ q ∈ rs_mm_flat, eLnk { frames := 11, cells := 0, slots := 0, locals := 252 } vwCl (eWd yX12_flat cX12_flat 7 (some .int)) SSm SHm.length RX12 q.1 q.2 := List.forall_mem_cons.mpr ⟨lkX12_95 eTb_wd, List.forall_mem_cons.mpr ⟨trivial, List.forall_mem_cons.mpr ⟨trivial, List.forall_mem_cons.mpr ⟨trivial, List.forall_mem_cons.mpr ⟨trivial, List.forall_mem_cons.mpr ⟨lkX12_351 eTb_wd, List.forall_mem_cons.mpr ⟨trivial, fun _ h => absurd h List.not_mem_nil⟩⟩⟩⟩⟩⟩⟩
theorem hc_mm_flat {x : Int32 × eW} : ∀ q ∈ rs_mm_flat, eHc l { frames := 11, cells := 0, slots := 0, locals := 252 } ad D cA vwCl SHm SSm (eWd yX12_flat cX12_flat 7 (some .int)) RX12 cs_mm_flat x q := List.forall_mem_cons.mpr ⟨trivial, List.forall_mem_cons.mpr ⟨(fun as w k h => let ⟨v, w2, h1, h2⟩ := ok_mm_in as w k x h; ⟨v, w2, h1, eCal_of h2 ⟨rfl, rfl⟩ hdX12_in (gvX12_101 eTb_wd)⟩), List.forall_mem_cons.mpr ⟨(fun as w k h => let ⟨v, w2, h1, h2⟩ := ok_mm_isHolder as w k x h; ⟨v, w2, h1, eCal_of h2 ⟨rfl, rfl⟩ hdX12_isHolder (gvX12_105 eTb_wd)⟩), List.forall_mem_cons.mpr ⟨(fun as w k h => let ⟨v, w2, h1, h2⟩ := ok_mm_isAmount as w k x h; ⟨v, w2, h1, eCal_of h2 ⟨rfl, rfl⟩ hdX12_isAmount (gvX12_318 eTb_wd)⟩), List.forall_mem_cons.mpr ⟨(fun as w k h => let ⟨v, w2, h1, h2⟩ := ok_mm_asksFor as w k x h; ⟨v, w2, h1, eCal_of h2 ⟨rfl, rfl⟩ hdX12_asksFor (gvX12_348 eTb_wd)⟩), List.forall_mem_cons.mpr ⟨trivial, List.forall_mem_cons.mpr ⟨(fun as w k h => let ⟨v, w2, h1, h2⟩ := ok_mm_isLike as w k x h; ⟨v, w2, h1, eCal_of h2 ⟨rfl, rfl⟩ hdX12_isLike (gvX12_352 eTb_wd)⟩), fun _ h => absurd h List.not_mem_nil⟩⟩⟩⟩⟩⟩⟩
noncomputable def kk_mm_flat_54 (n : Nat) : eK (Int32 × eW) := fun pc L st w => bif Nat.beq pc 54 then (lR L 0 24 ((lI L 1).bind fun a1 => (lI L 4).bind fun a4 => (lI L 5).bind fun a5 => sE st (f_mm_flat_L54 n a1 a4 a5 w))) else none
set_option maxRecDepth 100000 in
set_option maxHeartbeats 4000000 in
theorem go_mm_flat_L54 (hcx : eCx p { frames := 11, cells := 0, slots := 0, locals := 252 } s m args meth c cX12_flat RX12 7 ad D cA vwCl SHm SSm (eWd yX12_flat cX12_flat 7 (some .int)) (some .int)) {x : Int32 × eW} : ∀ (n : Nat) (a1 : Int32) (a4 : Int32) (a5 : Int32) (w : eW), f_mm_flat_L54  n a1 a4 a5 w = some x → eGq p l e { frames := 11, cells := 0, slots := 0, locals := 252 } s m args below meth c 7 ad D cA vwCl SHm rI x 54 [some (.ref 24), some (.int a1), none, none, some (.int a4), some (.int a5), none] [] w := by
  intro n
  induction n with
  | zero => intro a1 a4 a5 w h; exact nomatch (show (none : Option (Int32 × eW)) = some x from h)
  | succ n ih =>
    intro a1 a4 a5 w h
    have h : eRun SHm SSm 7 rs_mm_flat (eCs cs_mm_flat) rI CX12_flat [54] (kk_mm_flat_54  n) 30 true 54 [some (.ref 24), some (.int a1), none, none, some (.int a4), some (.int a5), none] [] w = some x := h
    refine eRun_go hcx (eLnk_all lk_mm_flat) (eHc_all hc_mm_flat) rI_ok dcX12_flat [54] _ (fun pc L st w hK => ?_) 30 true 54 _ _ w h
    unfold kk_mm_flat_54 at hK
    rcases eCut hK with ⟨hpc, hK⟩ | hK
    · subst hpc
      obtain ⟨e0, hK_1⟩ := lR_some hK
      obtain ⟨a1, e1, hK_2⟩ := lI_some hK_1
      obtain ⟨a4, e4, hK_3⟩ := lI_some hK_2
      obtain ⟨a5, e5, hK_4⟩ := lI_some hK_3
      obtain ⟨hst9, hK_5⟩ := sE_some hK_4
      subst hst9
      exact eGo.wk (ih a1 a4 a5 w hK_5) (eLe_wk ⟨e0, e1, e4, e5, trivial⟩)
    cases hK
set_option maxRecDepth 100000 in
set_option maxHeartbeats 4000000 in
theorem go_mm_flat (hcx : eCx p { frames := 11, cells := 0, slots := 0, locals := 252 } s m args meth c cX12_flat RX12 7 ad D cA vwCl SHm SSm (eWd yX12_flat cX12_flat 7 (some .int)) (some .int)) (a1 : Int32) (a2 : Int32) (a3 : Int32) (w : eW) (x : Int32 × eW) (h : f_mm_flat a1 a2 a3 w = some x) : eGq p l e { frames := 11, cells := 0, slots := 0, locals := 252 } s m args below meth c 7 ad D cA vwCl SHm rI x 0 (eEnt [.ref 24, .int a1, .int a2, .int a3]) [] w := by
  have h : eRun SHm SSm 7 rs_mm_flat (eCs cs_mm_flat) rI CX12_flat [54] (fun pc L st w => bif Nat.beq pc 54 then (lR L 0 24 ((lI L 1).bind fun a1 => (lI L 4).bind fun a4 => (lI L 5).bind fun a5 => sE st (f_mm_flat_L54 eFu a1 a4 a5 w))) else none) 29 true 0 [some (.ref 24), some (.int a1), some (.int a2), some (.int a3), none, none, none] [] w = some x := h
  refine eGo.wk (eRun_go hcx (eLnk_all lk_mm_flat) (eHc_all hc_mm_flat) rI_ok dcX12_flat [54] _ (fun pc L st w hK => ?_) 29 true 0 _ _ w h) (eLe_wk ⟨rfl, rfl, rfl, rfl, trivial⟩)
  rcases eCut hK with ⟨hpc, hK⟩ | hK
  · subst hpc
    obtain ⟨e0, hK_1⟩ := lR_some hK
    obtain ⟨a1, e1, hK_2⟩ := lI_some hK_1
    obtain ⟨a4, e4, hK_3⟩ := lI_some hK_2
    obtain ⟨a5, e5, hK_4⟩ := lI_some hK_3
    obtain ⟨hst9, hK_5⟩ := sE_some hK_4
    subst hst9
    exact eGo.wk (go_mm_flat_L54 hcx  eFu a1 a4 a5 w hK_5) (eLe_wk ⟨e0, e1, e4, e5, trivial⟩)
  cases hK
end
set_option maxRecDepth 100000 in
set_option maxHeartbeats 4000000 in
theorem ok_mm_flat {l : Launch} {ad : Nat → Nat} {D : va_G} {cA : Nat → ClassId} {ρ : Type} (as : List Value) (w : eW) (k : Option Value → eW → Option ρ) (x : ρ) (h : K_mm_flat as w k = some x) : ∃ (v : Option Value) (w2 : eW), k v w2 = some x ∧ eMet l ad D cA vwCl SHm SSm yX12_flat (eWd yX12_flat cX12_flat 7 (some .int)) { frames := 11, cells := 0, slots := 0, locals := 252 } as w v w2 := by
  unfold K_mm_flat at h
  split at h
  · rename_i r0 a1 a2 a3
    obtain ⟨h1, h5⟩ := eBif h
    clear h
    have h := h5
    clear h5
    have h1 := Nat.eq_of_beq_eq_true h1
    subst h1
    obtain ⟨q, h2, h3⟩ := Option.bind_eq_some_iff.mp h
    exact ⟨_, _, h3, eMet_of (by decide +kernel) rfl (by simp [eCat, Value.category]) rI_ret (fun p e s m args below meth c hcx => go_mm_flat hcx a1 a2 a3 w q h2)⟩
  · cases h
