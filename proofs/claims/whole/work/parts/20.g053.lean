def CX12_allAt : eCo := [[some (.aload_n 0), some (.aload_n 0), some (.getfield 50), none, none, some (.iload_n 1), some (.laload), some (.aload_n 0), some (.getfield 54), none, none, some (.iload_n 1), some (.laload), some (.invokevirtual 295), none, none],
  [some (.aload_n 0), some (.invokevirtual 301), none, none, some (.ldc2_w 263), none, none, some (.lmul), some (.aload_n 0), some (.getfield 54), none, none, some (.iload_n 1), some (.laload), some (.lmul), some (.aload_n 0)],
  [some (.invokevirtual 298), none, none, some (.aload_n 0), some (.getfield 50), none, none, some (.iload_n 1), some (.laload), some (.lmul), some (.ladd), some (.lreturn)]]
theorem dcX12_allAt : eDec cX12_allAt CX12_allAt := eDec_of (by decide +kernel)
def rs_mm_allAt : List (Nat × eR) := [(50, (0, 11, 30, 2)), (54, (0, 11, 31, 2)), (263, (3, 0, 0, 100)), (295, (1, 0, 2, 11)), (298, (1, 2, 0, 11)), (301, (1, 1, 0, 11))]
noncomputable def cs_mm_allAt : List (eF (Int64 × eW)) := [K_mm_layFrom, K_mm_allFixed, K_mm_allGoes]
noncomputable def f_mm_allAt (a1 : Int32) (w : eW) : Option (Int64 × eW) := (eChk a1 30 (eChk a1 30 ((f_mm_layFrom (w.2 12 (Int32.toNatClampNeg a1)) (w.2 13 (Int32.toNatClampNeg a1)) w).bind fun w1 => ((f_mm_allFixed w1).bind fun p2 => (eChk a1 30 ((f_mm_allGoes p2.2).bind fun p3 => (eChk a1 30 (some ((((p2.1 * (100 : Int64)) * (p2.2.2 13 (Int32.toNatClampNeg a1))) + (p3.1 * (p3.2.2 12 (Int32.toNatClampNeg a1)))), p3.2)))))))))
noncomputable def K_mm_allAt {ρ : Type} : eF ρ := fun as w k => match as with
  | [.ref r0, .int a1] => bif Nat.beq r0 24 then (f_mm_allAt a1 w).bind (fun p => k (some (.long p.1)) p.2) else none
  | _ => none
section
variable {p : Program} {l : Launch} {e : Env} {s : State} {m : MethodId} {args : Array Value} {below : List Frame} {meth : Method} {c : Code} {ad : Nat → Nat} {D : va_G} {cA : Nat → ClassId}
theorem lk_mm_allAt : ∀ q ∈ rs_mm_allAt, eLnk { frames := 7, cells := 0, slots := 0, locals := 160 } vwCl (eWd yX12_allAt cX12_allAt 2 (some .long)) SSm SHm.length RX12 q.1 q.2 := List.forall_mem_cons.mpr ⟨lkX12_50 eTb_wd, List.forall_mem_cons.mpr ⟨lkX12_54 eTb_wd, List.forall_mem_cons.mpr ⟨lkX12_263 eTb_wd, List.forall_mem_cons.mpr ⟨trivial, List.forall_mem_cons.mpr ⟨trivial, List.forall_mem_cons.mpr ⟨trivial, fun _ h => absurd h List.not_mem_nil⟩⟩⟩⟩⟩⟩
theorem hc_mm_allAt {x : Int64 × eW} : ∀ q ∈ rs_mm_allAt, eHc l { frames := 7, cells := 0, slots := 0, locals := 160 } ad D cA vwCl SHm SSm (eWd yX12_allAt cX12_allAt 2 (some .long)) RX12 cs_mm_allAt x q := List.forall_mem_cons.mpr ⟨trivial, List.forall_mem_cons.mpr ⟨trivial, List.forall_mem_cons.mpr ⟨trivial, List.forall_mem_cons.mpr ⟨(fun as w k h => let ⟨v, w2, h1, h2⟩ := ok_mm_layFrom as w k x h; ⟨v, w2, h1, eCal_of h2 ⟨rfl, rfl⟩ hdX12_layFrom (gvX12_295 eTb_wd)⟩), List.forall_mem_cons.mpr ⟨(fun as w k h => let ⟨v, w2, h1, h2⟩ := ok_mm_allGoes as w k x h; ⟨v, w2, h1, eCal_of h2 ⟨rfl, rfl⟩ hdX12_allGoes (gvX12_298 eTb_wd)⟩), List.forall_mem_cons.mpr ⟨(fun as w k h => let ⟨v, w2, h1, h2⟩ := ok_mm_allFixed as w k x h; ⟨v, w2, h1, eCal_of h2 ⟨rfl, rfl⟩ hdX12_allFixed (gvX12_301 eTb_wd)⟩), fun _ h => absurd h List.not_mem_nil⟩⟩⟩⟩⟩⟩
set_option maxRecDepth 100000 in
set_option maxHeartbeats 4000000 in
theorem go_mm_allAt (hcx : eCx p { frames := 7, cells := 0, slots := 0, locals := 160 } s m args meth c cX12_allAt RX12 2 ad D cA vwCl SHm SSm (eWd yX12_allAt cX12_allAt 2 (some .long)) (some .long)) (a1 : Int32) (w : eW) (x : Int64 × eW) (h : f_mm_allAt a1 w = some x) : eGq p l e { frames := 7, cells := 0, slots := 0, locals := 160 } s m args below meth c 2 ad D cA vwCl SHm rJ x 0 (eEnt [.ref 24, .int a1]) [] w := by
  have h : eRun SHm SSm 2 rs_mm_allAt (eCs cs_mm_allAt) rJ CX12_allAt [] (fun pc L st w => none) 30 true 0 [some (.ref 24), some (.int a1)] [] w = some x := h
  refine eGo.wk (eRun_go hcx (eLnk_all lk_mm_allAt) (eHc_all hc_mm_allAt) rJ_ok dcX12_allAt [] _ (fun pc L st w hK => ?_) 30 true 0 _ _ w h) (eLe_wk ⟨rfl, rfl, trivial⟩)
  cases hK
end
set_option maxRecDepth 100000 in
set_option maxHeartbeats 4000000 in
theorem ok_mm_allAt {l : Launch} {ad : Nat → Nat} {D : va_G} {cA : Nat → ClassId} {ρ : Type} (as : List Value) (w : eW) (k : Option Value → eW → Option ρ) (x : ρ) (h : K_mm_allAt as w k = some x) : ∃ (v : Option Value) (w2 : eW), k v w2 = some x ∧ eMet l ad D cA vwCl SHm SSm yX12_allAt (eWd yX12_allAt cX12_allAt 2 (some .long)) { frames := 7, cells := 0, slots := 0, locals := 160 } as w v w2 := by
  unfold K_mm_allAt at h
  split at h
  · rename_i r0 a1
    obtain ⟨h1, h5⟩ := eBif h
    clear h
    have h := h5
    clear h5
    have h1 := Nat.eq_of_beq_eq_true h1
    subst h1
    obtain ⟨q, h2, h3⟩ := Option.bind_eq_some_iff.mp h
    exact ⟨_, _, h3, eMet_of (by decide +kernel) rfl (by simp [eCat, Value.category]) rJ_ret (fun p e s m args below meth c hcx => go_mm_allAt hcx a1 w q h2)⟩
  · cases h
def CX12_layBreaks : eCo := [[some (.aload_n 0), some (.iconst 0), some (.putfield 244), none, none, some (.aload_n 0), some (.iconst 0), some (.putfield 362), none, none, some (.lconst 0), some (.lstore_n 1), some (.iconst 0), some (.istore_n 3), some (.iload_n 3), some (.bipush 6)],
  [none, some (.if_icmp .ge 23), none, none, some (.lload_n 1), some (.aload_n 0), some (.iload_n 3), some (.invokevirtual 278), none, none, some (.ladd), some (.lstore_n 1), some (.aload_n 0), some (.lload_n 1), some (.lconst 1), some (.invokevirtual 369)],
  [none, none, some (.iinc 3 1), none, none, some (.goto (-23)), none, none, some (.aload_n 0), some (.invokevirtual 292), none, none, some (.iconst 0), some (.istore_n 3), some (.iload_n 3), some (.aload_n 0)],
  [some (.getfield 256), none, none, some (.if_icmp .ge 28), none, none, some (.aload_n 0), some (.aload_n 0), some (.iload_n 3), some (.invokevirtual 372), none, none, some (.ldc2_w 263), none, none, some (.aload_n 0)],
  [some (.getfield 54), none, none, some (.iload_n 3), some (.laload), some (.lmul), some (.invokevirtual 369), none, none, some (.iinc 3 1), none, none, some (.goto (-30)), none, none, some (.return_)]]
theorem dcX12_layBreaks : eDec cX12_layBreaks CX12_layBreaks := eDec_of (by decide +kernel)
def rs_mm_layBreaks : List (Nat × eR) := [(54, (0, 11, 31, 2)), (244, (0, 11, 36, 3)), (256, (0, 11, 34, 0)), (263, (3, 0, 0, 100)), (278, (1, 1, 1, 11)), (292, (1, 0, 0, 11)), (362, (0, 11, 47, 0)), (369, (1, 2, 2, 11)), (372, (1, 3, 1, 11))]
noncomputable def cs_mm_layBreaks : List (eF (eW)) := [K_mm_layEdges, K_mm_firstsOf, K_mm_puts, K_mm_allAt]
noncomputable def f_mm_layBreaks_L46 : Nat → Int32 → eW → Option (eW)
  | 0, _, _ => none
  | n + 1, a3, w => (if (w.1 24 34) ≤ a3 then (some w) else ((f_mm_allAt a3 w).bind fun p4 => (eChk a3 30 ((f_mm_puts p4.1 ((100 : Int64) * (p4.2.2 13 (Int32.toNatClampNeg a3))) p4.2).bind fun w5 => (f_mm_layBreaks_L46 n (a3 + (1 : Int32)) w5)))))
noncomputable def f_mm_layBreaks_L14 : Nat → Int64 → Int32 → eW → Option (eW)
  | 0, _, _, _ => none
  | n + 1, a1, a3, w => (if (6 : Int32) ≤ a3 then ((f_mm_layEdges w).bind fun w1 => (f_mm_layBreaks_L46 eFu (0 : Int32) w1)) else ((f_mm_firstsOf a3 w).bind fun p2 => ((f_mm_puts (a1 + p2.1) (1 : Int64) p2.2).bind fun w3 => (f_mm_layBreaks_L14 n (a1 + p2.1) (a3 + (1 : Int32)) w3))))
noncomputable def f_mm_layBreaks (w : eW) : Option (eW) := (f_mm_layBreaks_L14 eFu (0 : Int64) (0 : Int32) (eU1 (eU1 w 24 36 (0 : Int32)) 24 47 (0 : Int32)))
noncomputable def K_mm_layBreaks {ρ : Type} : eF ρ := fun as w k => match as with
  | [.ref r0] => bif Nat.beq r0 24 then (f_mm_layBreaks w).bind (fun w => k none w) else none
  | _ => none
section
variable {p : Program} {l : Launch} {e : Env} {s : State} {m : MethodId} {args : Array Value} {below : List Frame} {meth : Method} {c : Code} {ad : Nat → Nat} {D : va_G} {cA : Nat → ClassId}
theorem lk_mm_layBreaks : ∀ q ∈ rs_mm_layBreaks, eLnk { frames := 8, cells := 0, slots := 0, locals := 181 } vwCl (eWd yX12_layBreaks cX12_layBreaks 4 none) SSm SHm.length RX12 q.1 q.2 := List.forall_mem_cons.mpr ⟨lkX12_54 eTb_wd, List.forall_mem_cons.mpr ⟨lkX12_244 eTb_wd, List.forall_mem_cons.mpr ⟨lkX12_256 eTb_wd, List.forall_mem_cons.mpr ⟨lkX12_263 eTb_wd, List.forall_mem_cons.mpr ⟨trivial, List.forall_mem_cons.mpr ⟨trivial, List.forall_mem_cons.mpr ⟨lkX12_362 eTb_wd, List.forall_mem_cons.mpr ⟨trivial, List.forall_mem_cons.mpr ⟨trivial, fun _ h => absurd h List.not_mem_nil⟩⟩⟩⟩⟩⟩⟩⟩⟩
theorem hc_mm_layBreaks {x : eW} : ∀ q ∈ rs_mm_layBreaks, eHc l { frames := 8, cells := 0, slots := 0, locals := 181 } ad D cA vwCl SHm SSm (eWd yX12_layBreaks cX12_layBreaks 4 none) RX12 cs_mm_layBreaks x q := List.forall_mem_cons.mpr ⟨trivial, List.forall_mem_cons.mpr ⟨trivial, List.forall_mem_cons.mpr ⟨trivial, List.forall_mem_cons.mpr ⟨trivial, List.forall_mem_cons.mpr ⟨(fun as w k h => let ⟨v, w2, h1, h2⟩ := ok_mm_firstsOf as w k x h; ⟨v, w2, h1, eCal_of h2 ⟨rfl, rfl⟩ hdX12_firstsOf (gvX12_278 eTb_wd)⟩), List.forall_mem_cons.mpr ⟨(fun as w k h => let ⟨v, w2, h1, h2⟩ := ok_mm_layEdges as w k x h; ⟨v, w2, h1, eCal_of h2 ⟨rfl, rfl⟩ hdX12_layEdges (gvX12_292 eTb_wd)⟩), List.forall_mem_cons.mpr ⟨trivial, List.forall_mem_cons.mpr ⟨(fun as w k h => let ⟨v, w2, h1, h2⟩ := ok_mm_puts as w k x h; ⟨v, w2, h1, eCal_of h2 ⟨rfl, rfl⟩ hdX12_puts (gvX12_369 eTb_wd)⟩), List.forall_mem_cons.mpr ⟨(fun as w k h => let ⟨v, w2, h1, h2⟩ := ok_mm_allAt as w k x h; ⟨v, w2, h1, eCal_of h2 ⟨rfl, rfl⟩ hdX12_allAt (gvX12_372 eTb_wd)⟩), fun _ h => absurd h List.not_mem_nil⟩⟩⟩⟩⟩⟩⟩⟩⟩
noncomputable def kk_mm_layBreaks_46 (n : Nat) : eK (eW) := fun pc L st w => bif Nat.beq pc 46 then (lR L 0 24 ((lI L 3).bind fun a3 => sE st (f_mm_layBreaks_L46 n a3 w))) else none
set_option maxRecDepth 100000 in
set_option maxHeartbeats 4000000 in
theorem go_mm_layBreaks_L46 (hcx : eCx p { frames := 8, cells := 0, slots := 0, locals := 181 } s m args meth c cX12_layBreaks RX12 4 ad D cA vwCl SHm SSm (eWd yX12_layBreaks cX12_layBreaks 4 none) (none)) {x : eW} : ∀ (n : Nat) (a3 : Int32) (w : eW), f_mm_layBreaks_L46  n a3 w = some x → eGq p l e { frames := 8, cells := 0, slots := 0, locals := 181 } s m args below meth c 4 ad D cA vwCl SHm rV x 46 [some (.ref 24), none, none, some (.int a3)] [] w := by
  intro n
  induction n with
  | zero => intro a3 w h; exact nomatch (show (none : Option (eW)) = some x from h)
  | succ n ih =>
    intro a3 w h
    have h : eRun SHm SSm 4 rs_mm_layBreaks (eCs cs_mm_layBreaks) rV CX12_layBreaks [14, 46] (kk_mm_layBreaks_46  n) 20 true 46 [some (.ref 24), none, none, some (.int a3)] [] w = some x := h
    refine eRun_go hcx (eLnk_all lk_mm_layBreaks) (eHc_all hc_mm_layBreaks) rV_ok dcX12_layBreaks [14, 46] _ (fun pc L st w hK => ?_) 20 true 46 _ _ w h
    unfold kk_mm_layBreaks_46 at hK
    rcases eCut hK with ⟨hpc, hK⟩ | hK
    · subst hpc
      obtain ⟨e0, hK_1⟩ := lR_some hK
      obtain ⟨a3, e3, hK_2⟩ := lI_some hK_1
      obtain ⟨hst9, hK_3⟩ := sE_some hK_2
      subst hst9
      exact eGo.wk (ih a3 w hK_3) (eLe_wk ⟨e0, e3, trivial⟩)
    cases hK
noncomputable def kk_mm_layBreaks_14 (n : Nat) : eK (eW) := fun pc L st w => bif Nat.beq pc 46 then (lR L 0 24 ((lI L 3).bind fun a3 => sE st (f_mm_layBreaks_L46 eFu a3 w))) else (bif Nat.beq pc 14 then (lR L 0 24 ((lJ L 1).bind fun a1 => (lI L 3).bind fun a3 => sE st (f_mm_layBreaks_L14 n a1 a3 w))) else none)
set_option maxRecDepth 100000 in
set_option maxHeartbeats 4000000 in
theorem go_mm_layBreaks_L14 (hcx : eCx p { frames := 8, cells := 0, slots := 0, locals := 181 } s m args meth c cX12_layBreaks RX12 4 ad D cA vwCl SHm SSm (eWd yX12_layBreaks cX12_layBreaks 4 none) (none)) {x : eW} : ∀ (n : Nat) (a1 : Int64) (a3 : Int32) (w : eW), f_mm_layBreaks_L14  n a1 a3 w = some x → eGq p l e { frames := 8, cells := 0, slots := 0, locals := 181 } s m args below meth c 4 ad D cA vwCl SHm rV x 14 [some (.ref 24), some (.long a1), none, some (.int a3)] [] w := by
  intro n
  induction n with
  | zero => intro a1 a3 w h; exact nomatch (show (none : Option (eW)) = some x from h)
  | succ n ih =>
    intro a1 a3 w h
    have h : eRun SHm SSm 4 rs_mm_layBreaks (eCs cs_mm_layBreaks) rV CX12_layBreaks [14, 46] (kk_mm_layBreaks_14  n) 18 true 14 [some (.ref 24), some (.long a1), none, some (.int a3)] [] w = some x := h
    refine eRun_go hcx (eLnk_all lk_mm_layBreaks) (eHc_all hc_mm_layBreaks) rV_ok dcX12_layBreaks [14, 46] _ (fun pc L st w hK => ?_) 18 true 14 _ _ w h
    unfold kk_mm_layBreaks_14 at hK
    rcases eCut hK with ⟨hpc, hK⟩ | hK
    · subst hpc
      obtain ⟨e0, hK_1⟩ := lR_some hK
      obtain ⟨a3, e3, hK_2⟩ := lI_some hK_1
      obtain ⟨hst9, hK_3⟩ := sE_some hK_2
      subst hst9
      exact eGo.wk (go_mm_layBreaks_L46 hcx  eFu a3 w hK_3) (eLe_wk ⟨e0, e3, trivial⟩)
    rcases eCut hK with ⟨hpc, hK⟩ | hK
    · subst hpc
      obtain ⟨e0, hK_1⟩ := lR_some hK
      obtain ⟨a1, e1, hK_2⟩ := lJ_some hK_1
      obtain ⟨a3, e3, hK_3⟩ := lI_some hK_2
      obtain ⟨hst9, hK_4⟩ := sE_some hK_3
      subst hst9
      exact eGo.wk (ih a1 a3 w hK_4) (eLe_wk ⟨e0, e1, e3, trivial⟩)
    cases hK
set_option maxRecDepth 100000 in
set_option maxHeartbeats 4000000 in
theorem go_mm_layBreaks (hcx : eCx p { frames := 8, cells := 0, slots := 0, locals := 181 } s m args meth c cX12_layBreaks RX12 4 ad D cA vwCl SHm SSm (eWd yX12_layBreaks cX12_layBreaks 4 none) (none)) (w : eW) (x : eW) (h : f_mm_layBreaks w = some x) : eGq p l e { frames := 8, cells := 0, slots := 0, locals := 181 } s m args below meth c 4 ad D cA vwCl SHm rV x 0 (eEnt [.ref 24]) [] w := by
  have h : eRun SHm SSm 4 rs_mm_layBreaks (eCs cs_mm_layBreaks) rV CX12_layBreaks [14, 46] (fun pc L st w => bif Nat.beq pc 14 then (lR L 0 24 ((lJ L 1).bind fun a1 => (lI L 3).bind fun a3 => sE st (f_mm_layBreaks_L14 eFu a1 a3 w))) else none) 13 true 0 [some (.ref 24), none, none, none] [] w = some x := h
  refine eGo.wk (eRun_go hcx (eLnk_all lk_mm_layBreaks) (eHc_all hc_mm_layBreaks) rV_ok dcX12_layBreaks [14, 46] _ (fun pc L st w hK => ?_) 13 true 0 _ _ w h) (eLe_wk ⟨rfl, trivial⟩)
  rcases eCut hK with ⟨hpc, hK⟩ | hK
  · subst hpc
    obtain ⟨e0, hK_1⟩ := lR_some hK
    obtain ⟨a1, e1, hK_2⟩ := lJ_some hK_1
    obtain ⟨a3, e3, hK_3⟩ := lI_some hK_2
    obtain ⟨hst9, hK_4⟩ := sE_some hK_3
    subst hst9
    exact eGo.wk (go_mm_layBreaks_L14 hcx  eFu a1 a3 w hK_4) (eLe_wk ⟨e0, e1, e3, trivial⟩)
  cases hK
end
set_option maxRecDepth 100000 in
set_option maxHeartbeats 4000000 in
theorem ok_mm_layBreaks {l : Launch} {ad : Nat → Nat} {D : va_G} {cA : Nat → ClassId} {ρ : Type} (as : List Value) (w : eW) (k : Option Value → eW → Option ρ) (x : ρ) (h : K_mm_layBreaks as w k = some x) : ∃ (v : Option Value) (w2 : eW), k v w2 = some x ∧ eMet l ad D cA vwCl SHm SSm yX12_layBreaks (eWd yX12_layBreaks cX12_layBreaks 4 none) { frames := 8, cells := 0, slots := 0, locals := 181 } as w v w2 := by
  unfold K_mm_layBreaks at h
  split at h
  · rename_i r0
    obtain ⟨h1, h5⟩ := eBif h
    clear h
    have h := h5
    clear h5
    have h1 := Nat.eq_of_beq_eq_true h1
    subst h1
    obtain ⟨q, h2, h3⟩ := Option.bind_eq_some_iff.mp h
    exact ⟨_, _, h3, eMet_of (by decide +kernel) rfl (by simp [eCat, Value.category]) rV_ret (fun p e s m args below meth c hcx => go_mm_layBreaks hcx w q h2)⟩
  · cases h
def CX12_breaks : eCo := [[some (.aload_n 0), some (.iconst 0), some (.putfield 95), none, none, some (.aload_n 0), some (.invokevirtual 375), none, none, some (.iload_n 1), some (.iconst (-1)), some (.if_icmp .ne 9), none, none, some (.aload_n 0), some (.getfield 362)],
  [none, none, some (.i2l), some (.lreturn), some (.iload_n 1), some (.iconst 0), some (.aload_n 0), some (.getfield 362), none, none, some (.iconst 1), some (.isub), some (.invokestatic 101), none, none, some (.ifCond .eq 12)],
  [none, none, some (.iload_n 2), some (.iconst 0), some (.iconst 1), some (.invokestatic 101), none, none, some (.ifCond .ne 9), none, none, some (.ldc2_w 321), none, none, some (.goto 22), none],
  [none, some (.iload_n 2), some (.ifCond .ne 12), none, none, some (.aload_n 0), some (.getfield 80), none, none, some (.iload_n 1), some (.laload), some (.goto 9), none, none, some (.aload_n 0), some (.getfield 83)],
  [none, none, some (.iload_n 1), some (.laload), some (.lreturn)]]
theorem dcX12_breaks : eDec cX12_breaks CX12_breaks := eDec_of (by decide +kernel)
def rs_mm_breaks : List (Nat × eR) := [(80, (0, 11, 45, 2)), (83, (0, 11, 46, 2)), (95, (0, 11, 0, 0)), (101, (1, 1, 3, -1)), (321, (3, 0, 0, -2)), (362, (0, 11, 47, 0)), (375, (1, 0, 0, 11))]
noncomputable def cs_mm_breaks : List (eF (Int64 × eW)) := [K_mm_layBreaks, K_mm_in]
noncomputable def f_mm_breaks (a1 : Int32) (a2 : Int32) (w : eW) : Option (Int64 × eW) := ((f_mm_layBreaks (eU1 w 24 0 (0 : Int32))).bind fun w1 => (if ¬ a1 = (-1 : Int32) then ((f_mm_in a1 (0 : Int32) ((w1.1 24 47) - (1 : Int32)) w1).bind fun p2 => (if p2.1 = 0 then (some ((-2 : Int64), p2.2)) else ((f_mm_in a2 (0 : Int32) (1 : Int32) p2.2).bind fun p3 => (if ¬ p3.1 = 0 then (if ¬ a2 = 0 then (eChk a1 48 (some ((p3.2.2 20 (Int32.toNatClampNeg a1)), p3.2))) else (eChk a1 48 (some ((p3.2.2 19 (Int32.toNatClampNeg a1)), p3.2)))) else (some ((-2 : Int64), p3.2)))))) else (some ((((w1.1 24 47)).toInt64), w1))))
noncomputable def K_mm_breaks {ρ : Type} : eF ρ := fun as w k => match as with
  | [.ref r0, .int a1, .int a2] => bif Nat.beq r0 24 then (f_mm_breaks a1 a2 w).bind (fun p => k (some (.long p.1)) p.2) else none
  | _ => none
section
variable {p : Program} {l : Launch} {e : Env} {s : State} {m : MethodId} {args : Array Value} {below : List Frame} {meth : Method} {c : Code} {ad : Nat → Nat} {D : va_G} {cA : Nat → ClassId}
theorem lk_mm_breaks : ∀ q ∈ rs_mm_breaks, eLnk { frames := 9, cells := 0, slots := 0, locals := 204 } vwCl (eWd yX12_breaks cX12_breaks 3 (some .long)) SSm SHm.length RX12 q.1 q.2 := List.forall_mem_cons.mpr ⟨lkX12_80 eTb_wd, List.forall_mem_cons.mpr ⟨lkX12_83 eTb_wd, List.forall_mem_cons.mpr ⟨lkX12_95 eTb_wd, List.forall_mem_cons.mpr ⟨trivial, List.forall_mem_cons.mpr ⟨lkX12_321 eTb_wd, List.forall_mem_cons.mpr ⟨lkX12_362 eTb_wd, List.forall_mem_cons.mpr ⟨trivial, fun _ h => absurd h List.not_mem_nil⟩⟩⟩⟩⟩⟩⟩
theorem hc_mm_breaks {x : Int64 × eW} : ∀ q ∈ rs_mm_breaks, eHc l { frames := 9, cells := 0, slots := 0, locals := 204 } ad D cA vwCl SHm SSm (eWd yX12_breaks cX12_breaks 3 (some .long)) RX12 cs_mm_breaks x q := List.forall_mem_cons.mpr ⟨trivial, List.forall_mem_cons.mpr ⟨trivial, List.forall_mem_cons.mpr ⟨trivial, List.forall_mem_cons.mpr ⟨(fun as w k h => let ⟨v, w2, h1, h2⟩ := ok_mm_in as w k x h; ⟨v, w2, h1, eCal_of h2 ⟨rfl, rfl⟩ hdX12_in (gvX12_101 eTb_wd)⟩), List.forall_mem_cons.mpr ⟨trivial, List.forall_mem_cons.mpr ⟨trivial, List.forall_mem_cons.mpr ⟨(fun as w k h => let ⟨v, w2, h1, h2⟩ := ok_mm_layBreaks as w k x h; ⟨v, w2, h1, eCal_of h2 ⟨rfl, rfl⟩ hdX12_layBreaks (gvX12_375 eTb_wd)⟩), fun _ h => absurd h List.not_mem_nil⟩⟩⟩⟩⟩⟩⟩
set_option maxRecDepth 100000 in
set_option maxHeartbeats 4000000 in
theorem go_mm_breaks (hcx : eCx p { frames := 9, cells := 0, slots := 0, locals := 204 } s m args meth c cX12_breaks RX12 3 ad D cA vwCl SHm SSm (eWd yX12_breaks cX12_breaks 3 (some .long)) (some .long)) (a1 : Int32) (a2 : Int32) (w : eW) (x : Int64 × eW) (h : f_mm_breaks a1 a2 w = some x) : eGq p l e { frames := 9, cells := 0, slots := 0, locals := 204 } s m args below meth c 3 ad D cA vwCl SHm rJ x 0 (eEnt [.ref 24, .int a1, .int a2]) [] w := by
  have h : eRun SHm SSm 3 rs_mm_breaks (eCs cs_mm_breaks) rJ CX12_breaks [] (fun pc L st w => none) 31 true 0 [some (.ref 24), some (.int a1), some (.int a2)] [] w = some x := h
  refine eGo.wk (eRun_go hcx (eLnk_all lk_mm_breaks) (eHc_all hc_mm_breaks) rJ_ok dcX12_breaks [] _ (fun pc L st w hK => ?_) 31 true 0 _ _ w h) (eLe_wk ⟨rfl, rfl, rfl, trivial⟩)
  cases hK
end
set_option maxRecDepth 100000 in
set_option maxHeartbeats 4000000 in
theorem ok_mm_breaks {l : Launch} {ad : Nat → Nat} {D : va_G} {cA : Nat → ClassId} {ρ : Type} (as : List Value) (w : eW) (k : Option Value → eW → Option ρ) (x : ρ) (h : K_mm_breaks as w k = some x) : ∃ (v : Option Value) (w2 : eW), k v w2 = some x ∧ eMet l ad D cA vwCl SHm SSm yX12_breaks (eWd yX12_breaks cX12_breaks 3 (some .long)) { frames := 9, cells := 0, slots := 0, locals := 204 } as w v w2 := by
  unfold K_mm_breaks at h
  split at h
  · rename_i r0 a1 a2
    obtain ⟨h1, h5⟩ := eBif h
    clear h
    have h := h5
    clear h5
    have h1 := Nat.eq_of_beq_eq_true h1
    subst h1
    obtain ⟨q, h2, h3⟩ := Option.bind_eq_some_iff.mp h
    exact ⟨_, _, h3, eMet_of (by decide +kernel) rfl (by simp [eCat, Value.category]) rJ_ret (fun p e s m args below meth c hcx => go_mm_breaks hcx a1 a2 w q h2)⟩
  · cases h
def CX12_layPart : eCo := [[some (.aload_n 0), some (.lconst 0), some (.putfield 378), none, none, some (.aload_n 0), some (.lconst 1), some (.putfield 381), none, none, some (.lconst 0), some (.lstore 6), none, some (.iconst 0), some (.istore 8), none],
  [some (.iload 8), none, some (.bipush 6), none, some (.if_icmp .ge 92), none, none, some (.aload_n 0), some (.iload 8), none, some (.invokevirtual 278), none, none, some (.lstore 9), none, some (.lload 9)],
  [none, some (.lconst 0), some (.lcmp), some (.ifCond .le 64), none, none, some (.lload_n 2), some (.lload 4), none, some (.lload 6), none, some (.lconst 1), some (.invokestatic 365), none, none, some (.ifCond .ne 52)],
  [none, none, some (.aload_n 0), some (.aload_n 0), some (.getfield 7), none, none, some (.iload_n 1), some (.iaload), some (.iconst 2), some (.if_icmp .ne 30), none, none, some (.aload_n 0), some (.getfield 19), none],
  [none, some (.iload_n 1), some (.iaload), some (.iload 8), none, some (.if_icmp .ne 19), none, none, some (.aload_n 0), some (.getfield 13), none, none, some (.iload_n 1), some (.iaload), some (.i2l), some (.aload_n 0)],
  [some (.iload_n 1), some (.invokevirtual 268), none, none, some (.lmul), some (.goto 4), none, none, some (.lconst 0), some (.putfield 378), none, none, some (.aload_n 0), some (.lload 9), none, some (.putfield 381)],
  [none, none, some (.return_), some (.lload 6), none, some (.lload 9), none, some (.ladd), some (.lstore 6), none, some (.iinc 8 1), none, none, some (.goto (-93)), none, none],
  [some (.iconst 0), some (.istore 8), none, some (.iload 8), none, some (.aload_n 0), some (.getfield 256), none, none, some (.if_icmp .ge 75), none, none, some (.aload_n 0), some (.iload 8), none, some (.invokevirtual 372)],
  [none, none, some (.lstore 9), none, some (.aload_n 0), some (.invokevirtual 298), none, none, some (.lconst 0), some (.lcmp), some (.ifCond .le 52), none, none, some (.lload 9), none, some (.ldc2_w 263)],
  [none, none, some (.aload_n 0), some (.getfield 54), none, none, some (.iload 8), none, some (.laload), some (.lmul), some (.lload_n 2), some (.lload 4), none, some (.invokestatic 365), none, none],
  [some (.ifCond .ne 30), none, none, some (.aload_n 0), some (.aload_n 0), some (.getfield 13), none, none, some (.iload_n 1), some (.iaload), some (.i2l), some (.aload_n 0), some (.getfield 60), none, none, some (.iload_n 1)],
  [some (.laload), some (.lmul), some (.putfield 378), none, none, some (.aload_n 0), some (.aload_n 0), some (.invokevirtual 298), none, none, some (.putfield 381), none, none, some (.return_), some (.iinc 8 1), none],
  [none, some (.goto (-78)), none, none, some (.return_)]]
theorem dcX12_layPart : eDec cX12_layPart CX12_layPart := eDec_of (by decide +kernel)
def rs_mm_layPart : List (Nat × eR) := [(7, (0, 11, 5, 2)), (13, (0, 11, 6, 2)), (19, (0, 11, 8, 2)), (54, (0, 11, 31, 2)), (60, (0, 11, 33, 2)), (256, (0, 11, 34, 0)), (263, (3, 0, 0, 100)), (268, (1, 2, 1, 11)), (278, (1, 0, 1, 11)), (298, (1, 4, 0, 11)), (365, (1, 1, 4, -1)), (372, (1, 3, 1, 11)), (378, (0, 11, 48, 1)), (381, (0, 11, 49, 1))]
noncomputable def cs_mm_layPart : List (eF (eW)) := [K_mm_firstsOf, K_mm_against, K_mm_firstOf, K_mm_allAt, K_mm_allGoes]
noncomputable def f_mm_layPart_L115 : Nat → Int32 → Int64 → Int64 → Int32 → eW → Option (eW)
  | 0, _, _, _, _, _ => none
  | n + 1, a1, a2, a4, a8, w => (if (w.1 24 34) ≤ a8 then (some w) else ((f_mm_allAt a8 w).bind fun p4 => ((f_mm_allGoes p4.2).bind fun p5 => (if (lg_cmp p5.1 (0 : Int64)) ≤ 0 then (f_mm_layPart_L115 n a1 a2 a4 (a8 + (1 : Int32)) p5.2) else (eChk a8 30 ((f_mm_against p4.1 ((100 : Int64) * (p5.2.2 13 (Int32.toNatClampNeg a8))) a2 a4 p5.2).bind fun p6 => (if ¬ p6.1 = 0 then (f_mm_layPart_L115 n a1 a2 a4 (a8 + (1 : Int32)) p6.2) else (eChk a1 24 (eChk a1 12 ((f_mm_allGoes (eU2 p6.2 24 48 ((((p6.2.1 1 (Int32.toNatClampNeg a1))).toInt64) * (p6.2.2 15 (Int32.toNatClampNeg a1))))).bind fun p7 => (some (eU2 p7.2 24 49 p7.1))))))))))))
noncomputable def f_mm_layPart_L16 : Nat → Int32 → Int64 → Int64 → Int64 → Int32 → eW → Option (eW)
  | 0, _, _, _, _, _, _ => none
  | n + 1, a1, a2, a4, a6, a8, w => (if (6 : Int32) ≤ a8 then (f_mm_layPart_L115 eFu a1 a2 a4 (0 : Int32) w) else ((f_mm_firstsOf a8 w).bind fun p1 => (if (lg_cmp p1.1 (0 : Int64)) ≤ 0 then (f_mm_layPart_L16 n a1 a2 a4 (a6 + p1.1) (a8 + (1 : Int32)) p1.2) else ((f_mm_against a2 a4 a6 (1 : Int64) p1.2).bind fun p2 => (if ¬ p2.1 = 0 then (f_mm_layPart_L16 n a1 a2 a4 (a6 + p1.1) (a8 + (1 : Int32)) p2.2) else (eChk a1 24 (if ¬ (p2.2.1 0 (Int32.toNatClampNeg a1)) = (2 : Int32) then (some (eU2 (eU2 p2.2 24 48 (0 : Int64)) 24 49 p1.1)) else (eChk a1 24 (if ¬ (p2.2.1 3 (Int32.toNatClampNeg a1)) = a8 then (some (eU2 (eU2 p2.2 24 48 (0 : Int64)) 24 49 p1.1)) else (eChk a1 24 ((f_mm_firstOf a1 p2.2).bind fun p3 => (some (eU2 (eU2 p3.2 24 48 ((((p2.2.1 1 (Int32.toNatClampNeg a1))).toInt64) * p3.1)) 24 49 p1.1)))))))))))))
noncomputable def f_mm_layPart (a1 : Int32) (a2 : Int64) (a4 : Int64) (w : eW) : Option (eW) := (f_mm_layPart_L16 eFu a1 a2 a4 (0 : Int64) (0 : Int32) (eU2 (eU2 w 24 48 (0 : Int64)) 24 49 (1 : Int64)))
noncomputable def K_mm_layPart {ρ : Type} : eF ρ := fun as w k => match as with
  | [.ref r0, .int a1, .long a2, .long a4] => bif Nat.beq r0 24 then (f_mm_layPart a1 a2 a4 w).bind (fun w => k none w) else none
  | _ => none
section
variable {p : Program} {l : Launch} {e : Env} {s : State} {m : MethodId} {args : Array Value} {below : List Frame} {meth : Method} {c : Code} {ad : Nat → Nat} {D : va_G} {cA : Nat → ClassId}
theorem lk_mm_layPart : ∀ q ∈ rs_mm_layPart, eLnk { frames := 8, cells := 0, slots := 0, locals := 181 } vwCl (eWd yX12_layPart cX12_layPart 11 none) SSm SHm.length RX12 q.1 q.2 := List.forall_mem_cons.mpr ⟨lkX12_7 eTb_wd, List.forall_mem_cons.mpr ⟨lkX12_13 eTb_wd, List.forall_mem_cons.mpr ⟨lkX12_19 eTb_wd, List.forall_mem_cons.mpr ⟨lkX12_54 eTb_wd, List.forall_mem_cons.mpr ⟨lkX12_60 eTb_wd, List.forall_mem_cons.mpr ⟨lkX12_256 eTb_wd, List.forall_mem_cons.mpr ⟨lkX12_263 eTb_wd, List.forall_mem_cons.mpr ⟨trivial, List.forall_mem_cons.mpr ⟨trivial, List.forall_mem_cons.mpr ⟨trivial, List.forall_mem_cons.mpr ⟨trivial, List.forall_mem_cons.mpr ⟨trivial, List.forall_mem_cons.mpr ⟨lkX12_378 eTb_wd, List.forall_mem_cons.mpr ⟨lkX12_381 eTb_wd, fun _ h => absurd h List.not_mem_nil⟩⟩⟩⟩⟩⟩⟩⟩⟩⟩⟩⟩⟩⟩
theorem hc_mm_layPart {x : eW} : ∀ q ∈ rs_mm_layPart, eHc l { frames := 8, cells := 0, slots := 0, locals := 181 } ad D cA vwCl SHm SSm (eWd yX12_layPart cX12_layPart 11 none) RX12 cs_mm_layPart x q := List.forall_mem_cons.mpr ⟨trivial, List.forall_mem_cons.mpr ⟨trivial, List.forall_mem_cons.mpr ⟨trivial, List.forall_mem_cons.mpr ⟨trivial, List.forall_mem_cons.mpr ⟨trivial, List.forall_mem_cons.mpr ⟨trivial, List.forall_mem_cons.mpr ⟨trivial, List.forall_mem_cons.mpr ⟨(fun as w k h => let ⟨v, w2, h1, h2⟩ := ok_mm_firstOf as w k x h; ⟨v, w2, h1, eCal_of h2 ⟨rfl, rfl⟩ hdX12_firstOf (gvX12_268 eTb_wd)⟩), List.forall_mem_cons.mpr ⟨(fun as w k h => let ⟨v, w2, h1, h2⟩ := ok_mm_firstsOf as w k x h; ⟨v, w2, h1, eCal_of h2 ⟨rfl, rfl⟩ hdX12_firstsOf (gvX12_278 eTb_wd)⟩), List.forall_mem_cons.mpr ⟨(fun as w k h => let ⟨v, w2, h1, h2⟩ := ok_mm_allGoes as w k x h; ⟨v, w2, h1, eCal_of h2 ⟨rfl, rfl⟩ hdX12_allGoes (gvX12_298 eTb_wd)⟩), List.forall_mem_cons.mpr ⟨(fun as w k h => let ⟨v, w2, h1, h2⟩ := ok_mm_against as w k x h; ⟨v, w2, h1, eCal_of h2 ⟨rfl, rfl⟩ hdX12_against (gvX12_365 eTb_wd)⟩), List.forall_mem_cons.mpr ⟨(fun as w k h => let ⟨v, w2, h1, h2⟩ := ok_mm_allAt as w k x h; ⟨v, w2, h1, eCal_of h2 ⟨rfl, rfl⟩ hdX12_allAt (gvX12_372 eTb_wd)⟩), List.forall_mem_cons.mpr ⟨trivial, List.forall_mem_cons.mpr ⟨trivial, fun _ h => absurd h List.not_mem_nil⟩⟩⟩⟩⟩⟩⟩⟩⟩⟩⟩⟩⟩⟩
noncomputable def kk_mm_layPart_115 (n : Nat) : eK (eW) := fun pc L st w => bif Nat.beq pc 115 then (lR L 0 24 ((lI L 1).bind fun a1 => (lJ L 2).bind fun a2 => (lJ L 4).bind fun a4 => (lI L 8).bind fun a8 => sE st (f_mm_layPart_L115 n a1 a2 a4 a8 w))) else none
set_option maxRecDepth 100000 in
set_option maxHeartbeats 4000000 in
theorem go_mm_layPart_L115 (hcx : eCx p { frames := 8, cells := 0, slots := 0, locals := 181 } s m args meth c cX12_layPart RX12 11 ad D cA vwCl SHm SSm (eWd yX12_layPart cX12_layPart 11 none) (none)) {x : eW} : ∀ (n : Nat) (a1 : Int32) (a2 : Int64) (a4 : Int64) (a8 : Int32) (w : eW), f_mm_layPart_L115  n a1 a2 a4 a8 w = some x → eGq p l e { frames := 8, cells := 0, slots := 0, locals := 181 } s m args below meth c 11 ad D cA vwCl SHm rV x 115 [some (.ref 24), some (.int a1), some (.long a2), none, some (.long a4), none, none, none, some (.int a8), none, none] [] w := by
  intro n
  induction n with
  | zero => intro a1 a2 a4 a8 w h; exact nomatch (show (none : Option (eW)) = some x from h)
  | succ n ih =>
    intro a1 a2 a4 a8 w h
    have h : eRun SHm SSm 11 rs_mm_layPart (eCs cs_mm_layPart) rV CX12_layPart [16, 115] (kk_mm_layPart_115  n) 43 true 115 [some (.ref 24), some (.int a1), some (.long a2), none, some (.long a4), none, none, none, some (.int a8), none, none] [] w = some x := h
    refine eRun_go hcx (eLnk_all lk_mm_layPart) (eHc_all hc_mm_layPart) rV_ok dcX12_layPart [16, 115] _ (fun pc L st w hK => ?_) 43 true 115 _ _ w h
    unfold kk_mm_layPart_115 at hK
    rcases eCut hK with ⟨hpc, hK⟩ | hK
    · subst hpc
      obtain ⟨e0, hK_1⟩ := lR_some hK
      obtain ⟨a1, e1, hK_2⟩ := lI_some hK_1
      obtain ⟨a2, e2, hK_3⟩ := lJ_some hK_2
      obtain ⟨a4, e4, hK_4⟩ := lJ_some hK_3
      obtain ⟨a8, e8, hK_5⟩ := lI_some hK_4
      obtain ⟨hst9, hK_6⟩ := sE_some hK_5
      subst hst9
      exact eGo.wk (ih a1 a2 a4 a8 w hK_6) (eLe_wk ⟨e0, e1, e2, e4, e8, trivial⟩)
    cases hK
noncomputable def kk_mm_layPart_16 (n : Nat) : eK (eW) := fun pc L st w => bif Nat.beq pc 115 then (lR L 0 24 ((lI L 1).bind fun a1 => (lJ L 2).bind fun a2 => (lJ L 4).bind fun a4 => (lI L 8).bind fun a8 => sE st (f_mm_layPart_L115 eFu a1 a2 a4 a8 w))) else (bif Nat.beq pc 16 then (lR L 0 24 ((lI L 1).bind fun a1 => (lJ L 2).bind fun a2 => (lJ L 4).bind fun a4 => (lJ L 6).bind fun a6 => (lI L 8).bind fun a8 => sE st (f_mm_layPart_L16 n a1 a2 a4 a6 a8 w))) else none)
set_option maxRecDepth 100000 in
set_option maxHeartbeats 4000000 in
theorem go_mm_layPart_L16 (hcx : eCx p { frames := 8, cells := 0, slots := 0, locals := 181 } s m args meth c cX12_layPart RX12 11 ad D cA vwCl SHm SSm (eWd yX12_layPart cX12_layPart 11 none) (none)) {x : eW} : ∀ (n : Nat) (a1 : Int32) (a2 : Int64) (a4 : Int64) (a6 : Int64) (a8 : Int32) (w : eW), f_mm_layPart_L16  n a1 a2 a4 a6 a8 w = some x → eGq p l e { frames := 8, cells := 0, slots := 0, locals := 181 } s m args below meth c 11 ad D cA vwCl SHm rV x 16 [some (.ref 24), some (.int a1), some (.long a2), none, some (.long a4), none, some (.long a6), none, some (.int a8), none, none] [] w := by
  intro n
  induction n with
  | zero => intro a1 a2 a4 a6 a8 w h; exact nomatch (show (none : Option (eW)) = some x from h)
  | succ n ih =>
    intro a1 a2 a4 a6 a8 w h
    have h : eRun SHm SSm 11 rs_mm_layPart (eCs cs_mm_layPart) rV CX12_layPart [16, 115] (kk_mm_layPart_16  n) 47 true 16 [some (.ref 24), some (.int a1), some (.long a2), none, some (.long a4), none, some (.long a6), none, some (.int a8), none, none] [] w = some x := h
    refine eRun_go hcx (eLnk_all lk_mm_layPart) (eHc_all hc_mm_layPart) rV_ok dcX12_layPart [16, 115] _ (fun pc L st w hK => ?_) 47 true 16 _ _ w h
    unfold kk_mm_layPart_16 at hK
    rcases eCut hK with ⟨hpc, hK⟩ | hK
    · subst hpc
      obtain ⟨e0, hK_1⟩ := lR_some hK
      obtain ⟨a1, e1, hK_2⟩ := lI_some hK_1
      obtain ⟨a2, e2, hK_3⟩ := lJ_some hK_2
      obtain ⟨a4, e4, hK_4⟩ := lJ_some hK_3
      obtain ⟨a8, e8, hK_5⟩ := lI_some hK_4
      obtain ⟨hst9, hK_6⟩ := sE_some hK_5
      subst hst9
      exact eGo.wk (go_mm_layPart_L115 hcx  eFu a1 a2 a4 a8 w hK_6) (eLe_wk ⟨e0, e1, e2, e4, e8, trivial⟩)
    rcases eCut hK with ⟨hpc, hK⟩ | hK
    · subst hpc
      obtain ⟨e0, hK_1⟩ := lR_some hK
      obtain ⟨a1, e1, hK_2⟩ := lI_some hK_1
      obtain ⟨a2, e2, hK_3⟩ := lJ_some hK_2
      obtain ⟨a4, e4, hK_4⟩ := lJ_some hK_3
      obtain ⟨a6, e6, hK_5⟩ := lJ_some hK_4
      obtain ⟨a8, e8, hK_6⟩ := lI_some hK_5
      obtain ⟨hst9, hK_7⟩ := sE_some hK_6
      subst hst9
      exact eGo.wk (ih a1 a2 a4 a6 a8 w hK_7) (eLe_wk ⟨e0, e1, e2, e4, e6, e8, trivial⟩)
    cases hK
set_option maxRecDepth 100000 in
set_option maxHeartbeats 4000000 in
theorem go_mm_layPart (hcx : eCx p { frames := 8, cells := 0, slots := 0, locals := 181 } s m args meth c cX12_layPart RX12 11 ad D cA vwCl SHm SSm (eWd yX12_layPart cX12_layPart 11 none) (none)) (a1 : Int32) (a2 : Int64) (a4 : Int64) (w : eW) (x : eW) (h : f_mm_layPart a1 a2 a4 w = some x) : eGq p l e { frames := 8, cells := 0, slots := 0, locals := 181 } s m args below meth c 11 ad D cA vwCl SHm rV x 0 (eEnt [.ref 24, .int a1, .long a2, .long a4]) [] w := by
  have h : eRun SHm SSm 11 rs_mm_layPart (eCs cs_mm_layPart) rV CX12_layPart [16, 115] (fun pc L st w => bif Nat.beq pc 16 then (lR L 0 24 ((lI L 1).bind fun a1 => (lJ L 2).bind fun a2 => (lJ L 4).bind fun a4 => (lJ L 6).bind fun a6 => (lI L 8).bind fun a8 => sE st (f_mm_layPart_L16 eFu a1 a2 a4 a6 a8 w))) else none) 13 true 0 [some (.ref 24), some (.int a1), some (.long a2), none, some (.long a4), none, none, none, none, none, none] [] w = some x := h
  refine eGo.wk (eRun_go hcx (eLnk_all lk_mm_layPart) (eHc_all hc_mm_layPart) rV_ok dcX12_layPart [16, 115] _ (fun pc L st w hK => ?_) 13 true 0 _ _ w h) (eLe_wk ⟨rfl, rfl, rfl, rfl, trivial⟩)
  rcases eCut hK with ⟨hpc, hK⟩ | hK
  · subst hpc
    obtain ⟨e0, hK_1⟩ := lR_some hK
    obtain ⟨a1, e1, hK_2⟩ := lI_some hK_1
    obtain ⟨a2, e2, hK_3⟩ := lJ_some hK_2
    obtain ⟨a4, e4, hK_4⟩ := lJ_some hK_3
    obtain ⟨a6, e6, hK_5⟩ := lJ_some hK_4
    obtain ⟨a8, e8, hK_6⟩ := lI_some hK_5
    obtain ⟨hst9, hK_7⟩ := sE_some hK_6
    subst hst9
    exact eGo.wk (go_mm_layPart_L16 hcx  eFu a1 a2 a4 a6 a8 w hK_7) (eLe_wk ⟨e0, e1, e2, e4, e6, e8, trivial⟩)
  cases hK
end
set_option maxRecDepth 100000 in
set_option maxHeartbeats 4000000 in
theorem ok_mm_layPart {l : Launch} {ad : Nat → Nat} {D : va_G} {cA : Nat → ClassId} {ρ : Type} (as : List Value) (w : eW) (k : Option Value → eW → Option ρ) (x : ρ) (h : K_mm_layPart as w k = some x) : ∃ (v : Option Value) (w2 : eW), k v w2 = some x ∧ eMet l ad D cA vwCl SHm SSm yX12_layPart (eWd yX12_layPart cX12_layPart 11 none) { frames := 8, cells := 0, slots := 0, locals := 181 } as w v w2 := by
  unfold K_mm_layPart at h
  split at h
  · rename_i r0 a1 a2 a4
    obtain ⟨h1, h5⟩ := eBif h
    clear h
    have h := h5
    clear h5
    have h1 := Nat.eq_of_beq_eq_true h1
    subst h1
    obtain ⟨q, h2, h3⟩ := Option.bind_eq_some_iff.mp h
    exact ⟨_, _, h3, eMet_of (by decide +kernel) rfl (by simp [eCat, Value.category]) rV_ret (fun p e s m args below meth c hcx => go_mm_layPart hcx a1 a2 a4 w q h2)⟩
  · cases h
