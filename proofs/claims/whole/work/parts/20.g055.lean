def CX12_steady : eCo := [[some (.aload_n 0), some (.iconst 0), some (.putfield 95), none, none, some (.iload_n 2), some (.invokestatic 318), none, none, some (.ifCond .ne 8), none, none, some (.bipush (-2)), none, some (.goto 17), none],
  [none, some (.aload_n 0), some (.iload_n 1), some (.iload_n 2), some (.invokevirtual 390), none, none, some (.ifCond .eq 7), none, none, some (.iconst 1), some (.goto 4), none, none, some (.iconst 0), some (.ireturn)]]
theorem dcX12_steady : eDec cX12_steady CX12_steady := eDec_of (by decide +kernel)
def rs_mm_steady : List (Nat × eR) := [(95, (0, 11, 0, 0)), (318, (1, 0, 1, -1)), (390, (1, 1, 2, 11))]
noncomputable def cs_mm_steady : List (eF (Int32 × eW)) := [K_mm_isAmount, K_mm_isSteady]
noncomputable def f_mm_steady (a1 : Int32) (a2 : Int32) (w : eW) : Option (Int32 × eW) := ((f_mm_isAmount a2 (eU1 w 24 0 (0 : Int32))).bind fun p1 => (if ¬ p1.1 = 0 then ((f_mm_isSteady a1 a2 p1.2).bind fun p2 => (if p2.1 = 0 then (some ((0 : Int32), p2.2)) else (some ((1 : Int32), p2.2)))) else (some ((-2 : Int32), p1.2))))
noncomputable def K_mm_steady {ρ : Type} : eF ρ := fun as w k => match as with
  | [.ref r0, .int a1, .int a2] => bif Nat.beq r0 24 then (f_mm_steady a1 a2 w).bind (fun p => k (some (.int p.1)) p.2) else none
  | _ => none
section
variable {p : Program} {l : Launch} {e : Env} {s : State} {m : MethodId} {args : Array Value} {below : List Frame} {meth : Method} {c : Code} {ad : Nat → Nat} {D : va_G} {cA : Nat → ClassId}
theorem lk_mm_steady : ∀ q ∈ rs_mm_steady, eLnk { frames := 11, cells := 0, slots := 0, locals := 258 } vwCl (eWd yX12_steady cX12_steady 3 (some .int)) SSm SHm.length RX12 q.1 q.2 := List.forall_mem_cons.mpr ⟨lkX12_95 eTb_wd, List.forall_mem_cons.mpr ⟨trivial, List.forall_mem_cons.mpr ⟨trivial, fun _ h => absurd h List.not_mem_nil⟩⟩⟩
theorem hc_mm_steady {x : Int32 × eW} : ∀ q ∈ rs_mm_steady, eHc l { frames := 11, cells := 0, slots := 0, locals := 258 } ad D cA vwCl SHm SSm (eWd yX12_steady cX12_steady 3 (some .int)) RX12 cs_mm_steady x q := List.forall_mem_cons.mpr ⟨trivial, List.forall_mem_cons.mpr ⟨(fun as w k h => let ⟨v, w2, h1, h2⟩ := ok_mm_isAmount as w k x h; ⟨v, w2, h1, eCal_of h2 ⟨rfl, rfl⟩ hdX12_isAmount (gvX12_318 eTb_wd)⟩), List.forall_mem_cons.mpr ⟨(fun as w k h => let ⟨v, w2, h1, h2⟩ := ok_mm_isSteady as w k x h; ⟨v, w2, h1, eCal_of h2 ⟨rfl, rfl⟩ hdX12_isSteady (gvX12_390 eTb_wd)⟩), fun _ h => absurd h List.not_mem_nil⟩⟩⟩
set_option maxRecDepth 100000 in
set_option maxHeartbeats 4000000 in
theorem go_mm_steady (hcx : eCx p { frames := 11, cells := 0, slots := 0, locals := 258 } s m args meth c cX12_steady RX12 3 ad D cA vwCl SHm SSm (eWd yX12_steady cX12_steady 3 (some .int)) (some .int)) (a1 : Int32) (a2 : Int32) (w : eW) (x : Int32 × eW) (h : f_mm_steady a1 a2 w = some x) : eGq p l e { frames := 11, cells := 0, slots := 0, locals := 258 } s m args below meth c 3 ad D cA vwCl SHm rI x 0 (eEnt [.ref 24, .int a1, .int a2]) [] w := by
  have h : eRun SHm SSm 3 rs_mm_steady (eCs cs_mm_steady) rI CX12_steady [] (fun pc L st w => none) 16 true 0 [some (.ref 24), some (.int a1), some (.int a2)] [] w = some x := h
  refine eGo.wk (eRun_go hcx (eLnk_all lk_mm_steady) (eHc_all hc_mm_steady) rI_ok dcX12_steady [] _ (fun pc L st w hK => ?_) 16 true 0 _ _ w h) (eLe_wk ⟨rfl, rfl, rfl, trivial⟩)
  cases hK
end
set_option maxRecDepth 100000 in
set_option maxHeartbeats 4000000 in
theorem ok_mm_steady {l : Launch} {ad : Nat → Nat} {D : va_G} {cA : Nat → ClassId} {ρ : Type} (as : List Value) (w : eW) (k : Option Value → eW → Option ρ) (x : ρ) (h : K_mm_steady as w k = some x) : ∃ (v : Option Value) (w2 : eW), k v w2 = some x ∧ eMet l ad D cA vwCl SHm SSm yX12_steady (eWd yX12_steady cX12_steady 3 (some .int)) { frames := 11, cells := 0, slots := 0, locals := 258 } as w v w2 := by
  unfold K_mm_steady at h
  split at h
  · rename_i r0 a1 a2
    obtain ⟨h1, h5⟩ := eBif h
    clear h
    have h := h5
    clear h5
    have h1 := Nat.eq_of_beq_eq_true h1
    subst h1
    obtain ⟨q, h2, h3⟩ := Option.bind_eq_some_iff.mp h
    exact ⟨_, _, h3, eMet_of (by decide +kernel) rfl (by simp [eCat, Value.category]) rI_ret (fun p e s m args below meth c hcx => go_mm_steady hcx a1 a2 w q h2)⟩
  · cases h
def CX12_steadies : eCo := [[some (.aload_n 0), some (.iconst 0), some (.putfield 95), none, none, some (.iload_n 1), some (.invokestatic 318), none, none, some (.ifCond .ne 6), none, none, some (.bipush (-2)), none, some (.ireturn), some (.iconst 0)],
  [some (.istore_n 3), some (.iconst 0), some (.istore 4), none, some (.iload 4), none, some (.aload_n 0), some (.getfield 98), none, none, some (.if_icmp .ge 29), none, none, some (.iload_n 3), some (.aload_n 0), some (.iload 4)],
  [none, some (.invokevirtual 250), none, none, some (.ifCond .eq 10), none, none, some (.iconst 1), some (.iload 4), none, some (.ishl), some (.goto 4), none, none, some (.iconst 0), some (.ior)],
  [some (.istore_n 3), some (.iinc 4 1), none, none, some (.goto (-32)), none, none, some (.iconst 0), some (.istore 4), none, some (.iconst 0), some (.istore 5), none, some (.iload 5), none, some (.iconst 1)],
  [some (.aload_n 0), some (.getfield 98), none, none, some (.ishl), some (.if_icmp .ge 43), none, none, some (.iload 5), none, some (.iload_n 3), some (.iconst (-1)), some (.ixor), some (.iand), some (.ifCond .ne 28), none],
  [none, some (.aload_n 0), some (.iload 5), none, some (.iload_n 1), some (.invokevirtual 390), none, none, some (.ifCond .ne 6), none, none, some (.goto 15), none, none, some (.iload 4), none],
  [some (.iload_n 2), some (.if_icmp .ne 6), none, none, some (.iload 5), none, some (.ireturn), some (.iinc 4 1), none, none, some (.iinc 5 1), none, none, some (.goto (-48)), none, none],
  [some (.iload_n 2), some (.iconst (-1)), some (.if_icmp .ne 8), none, none, some (.iload 4), none, some (.goto 4), none, none, some (.iconst (-1)), some (.ireturn)]]
theorem dcX12_steadies : eDec cX12_steadies CX12_steadies := eDec_of (by decide +kernel)
def rs_mm_steadies : List (Nat × eR) := [(95, (0, 11, 0, 0)), (98, (0, 11, 1, 0)), (250, (1, 1, 1, 11)), (318, (1, 0, 1, -1)), (390, (1, 2, 2, 11))]
noncomputable def cs_mm_steadies : List (eF (Int32 × eW)) := [K_mm_isAmount, K_mm_canTurn, K_mm_isSteady]
noncomputable def f_mm_steadies_L61 : Nat → Int32 → Int32 → Int32 → Int32 → Int32 → eW → Option (Int32 × eW)
  | 0, _, _, _, _, _, _ => none
  | n + 1, a1, a2, a3, a4, a5, w => (if ((1 : Int32) <<< ((w.1 24 1) &&& 31)) ≤ a5 then (if ¬ a2 = (-1 : Int32) then (some ((-1 : Int32), w)) else (some (a4, w))) else (if ¬ (a5 &&& (a3 ^^^ (-1 : Int32))) = 0 then (f_mm_steadies_L61 n a1 a2 a3 a4 (a5 + (1 : Int32)) w) else ((f_mm_isSteady a5 a1 w).bind fun p3 => (if ¬ p3.1 = 0 then (if ¬ a4 = a2 then (f_mm_steadies_L61 n a1 a2 a3 (a4 + (1 : Int32)) (a5 + (1 : Int32)) p3.2) else (some (a5, p3.2))) else (f_mm_steadies_L61 n a1 a2 a3 a4 (a5 + (1 : Int32)) p3.2)))))
noncomputable def f_mm_steadies_L20 : Nat → Int32 → Int32 → Int32 → Int32 → eW → Option (Int32 × eW)
  | 0, _, _, _, _, _ => none
  | n + 1, a1, a2, a3, a4, w => (if (w.1 24 1) ≤ a4 then (f_mm_steadies_L61 eFu a1 a2 a3 (0 : Int32) (0 : Int32) w) else ((f_mm_canTurn a4 w).bind fun p2 => (if p2.1 = 0 then (f_mm_steadies_L20 n a1 a2 (a3 ||| (0 : Int32)) (a4 + (1 : Int32)) p2.2) else (f_mm_steadies_L20 n a1 a2 (a3 ||| ((1 : Int32) <<< (a4 &&& 31))) (a4 + (1 : Int32)) p2.2))))
noncomputable def f_mm_steadies (a1 : Int32) (a2 : Int32) (w : eW) : Option (Int32 × eW) := ((f_mm_isAmount a1 (eU1 w 24 0 (0 : Int32))).bind fun p1 => (if ¬ p1.1 = 0 then (f_mm_steadies_L20 eFu a1 a2 (0 : Int32) (0 : Int32) p1.2) else (some ((-2 : Int32), p1.2))))
noncomputable def K_mm_steadies {ρ : Type} : eF ρ := fun as w k => match as with
  | [.ref r0, .int a1, .int a2] => bif Nat.beq r0 24 then (f_mm_steadies a1 a2 w).bind (fun p => k (some (.int p.1)) p.2) else none
  | _ => none
section
variable {p : Program} {l : Launch} {e : Env} {s : State} {m : MethodId} {args : Array Value} {below : List Frame} {meth : Method} {c : Code} {ad : Nat → Nat} {D : va_G} {cA : Nat → ClassId}
theorem lk_mm_steadies : ∀ q ∈ rs_mm_steadies, eLnk { frames := 11, cells := 0, slots := 0, locals := 258 } vwCl (eWd yX12_steadies cX12_steadies 6 (some .int)) SSm SHm.length RX12 q.1 q.2 := List.forall_mem_cons.mpr ⟨lkX12_95 eTb_wd, List.forall_mem_cons.mpr ⟨lkX12_98 eTb_wd, List.forall_mem_cons.mpr ⟨trivial, List.forall_mem_cons.mpr ⟨trivial, List.forall_mem_cons.mpr ⟨trivial, fun _ h => absurd h List.not_mem_nil⟩⟩⟩⟩⟩
theorem hc_mm_steadies {x : Int32 × eW} : ∀ q ∈ rs_mm_steadies, eHc l { frames := 11, cells := 0, slots := 0, locals := 258 } ad D cA vwCl SHm SSm (eWd yX12_steadies cX12_steadies 6 (some .int)) RX12 cs_mm_steadies x q := List.forall_mem_cons.mpr ⟨trivial, List.forall_mem_cons.mpr ⟨trivial, List.forall_mem_cons.mpr ⟨(fun as w k h => let ⟨v, w2, h1, h2⟩ := ok_mm_canTurn as w k x h; ⟨v, w2, h1, eCal_of h2 ⟨rfl, rfl⟩ hdX12_canTurn (gvX12_250 eTb_wd)⟩), List.forall_mem_cons.mpr ⟨(fun as w k h => let ⟨v, w2, h1, h2⟩ := ok_mm_isAmount as w k x h; ⟨v, w2, h1, eCal_of h2 ⟨rfl, rfl⟩ hdX12_isAmount (gvX12_318 eTb_wd)⟩), List.forall_mem_cons.mpr ⟨(fun as w k h => let ⟨v, w2, h1, h2⟩ := ok_mm_isSteady as w k x h; ⟨v, w2, h1, eCal_of h2 ⟨rfl, rfl⟩ hdX12_isSteady (gvX12_390 eTb_wd)⟩), fun _ h => absurd h List.not_mem_nil⟩⟩⟩⟩⟩
noncomputable def kk_mm_steadies_61 (n : Nat) : eK (Int32 × eW) := fun pc L st w => bif Nat.beq pc 61 then (lR L 0 24 ((lI L 1).bind fun a1 => (lI L 2).bind fun a2 => (lI L 3).bind fun a3 => (lI L 4).bind fun a4 => (lI L 5).bind fun a5 => sE st (f_mm_steadies_L61 n a1 a2 a3 a4 a5 w))) else none
set_option maxRecDepth 100000 in
set_option maxHeartbeats 4000000 in
theorem go_mm_steadies_L61 (hcx : eCx p { frames := 11, cells := 0, slots := 0, locals := 258 } s m args meth c cX12_steadies RX12 6 ad D cA vwCl SHm SSm (eWd yX12_steadies cX12_steadies 6 (some .int)) (some .int)) {x : Int32 × eW} : ∀ (n : Nat) (a1 : Int32) (a2 : Int32) (a3 : Int32) (a4 : Int32) (a5 : Int32) (w : eW), f_mm_steadies_L61  n a1 a2 a3 a4 a5 w = some x → eGq p l e { frames := 11, cells := 0, slots := 0, locals := 258 } s m args below meth c 6 ad D cA vwCl SHm rI x 61 [some (.ref 24), some (.int a1), some (.int a2), some (.int a3), some (.int a4), some (.int a5)] [] w := by
  intro n
  induction n with
  | zero => intro a1 a2 a3 a4 a5 w h; exact nomatch (show (none : Option (Int32 × eW)) = some x from h)
  | succ n ih =>
    intro a1 a2 a3 a4 a5 w h
    have h : eRun SHm SSm 6 rs_mm_steadies (eCs cs_mm_steadies) rI CX12_steadies [20, 61] (kk_mm_steadies_61  n) 26 true 61 [some (.ref 24), some (.int a1), some (.int a2), some (.int a3), some (.int a4), some (.int a5)] [] w = some x := h
    refine eRun_go hcx (eLnk_all lk_mm_steadies) (eHc_all hc_mm_steadies) rI_ok dcX12_steadies [20, 61] _ (fun pc L st w hK => ?_) 26 true 61 _ _ w h
    unfold kk_mm_steadies_61 at hK
    rcases eCut hK with ⟨hpc, hK⟩ | hK
    · subst hpc
      obtain ⟨e0, hK_1⟩ := lR_some hK
      obtain ⟨a1, e1, hK_2⟩ := lI_some hK_1
      obtain ⟨a2, e2, hK_3⟩ := lI_some hK_2
      obtain ⟨a3, e3, hK_4⟩ := lI_some hK_3
      obtain ⟨a4, e4, hK_5⟩ := lI_some hK_4
      obtain ⟨a5, e5, hK_6⟩ := lI_some hK_5
      obtain ⟨hst9, hK_7⟩ := sE_some hK_6
      subst hst9
      exact eGo.wk (ih a1 a2 a3 a4 a5 w hK_7) (eLe_wk ⟨e0, e1, e2, e3, e4, e5, trivial⟩)
    cases hK
noncomputable def kk_mm_steadies_20 (n : Nat) : eK (Int32 × eW) := fun pc L st w => bif Nat.beq pc 61 then (lR L 0 24 ((lI L 1).bind fun a1 => (lI L 2).bind fun a2 => (lI L 3).bind fun a3 => (lI L 4).bind fun a4 => (lI L 5).bind fun a5 => sE st (f_mm_steadies_L61 eFu a1 a2 a3 a4 a5 w))) else (bif Nat.beq pc 20 then (lR L 0 24 ((lI L 1).bind fun a1 => (lI L 2).bind fun a2 => (lI L 3).bind fun a3 => (lI L 4).bind fun a4 => sE st (f_mm_steadies_L20 n a1 a2 a3 a4 w))) else none)
set_option maxRecDepth 100000 in
set_option maxHeartbeats 4000000 in
theorem go_mm_steadies_L20 (hcx : eCx p { frames := 11, cells := 0, slots := 0, locals := 258 } s m args meth c cX12_steadies RX12 6 ad D cA vwCl SHm SSm (eWd yX12_steadies cX12_steadies 6 (some .int)) (some .int)) {x : Int32 × eW} : ∀ (n : Nat) (a1 : Int32) (a2 : Int32) (a3 : Int32) (a4 : Int32) (w : eW), f_mm_steadies_L20  n a1 a2 a3 a4 w = some x → eGq p l e { frames := 11, cells := 0, slots := 0, locals := 258 } s m args below meth c 6 ad D cA vwCl SHm rI x 20 [some (.ref 24), some (.int a1), some (.int a2), some (.int a3), some (.int a4), none] [] w := by
  intro n
  induction n with
  | zero => intro a1 a2 a3 a4 w h; exact nomatch (show (none : Option (Int32 × eW)) = some x from h)
  | succ n ih =>
    intro a1 a2 a3 a4 w h
    have h : eRun SHm SSm 6 rs_mm_steadies (eCs cs_mm_steadies) rI CX12_steadies [20, 61] (kk_mm_steadies_20  n) 20 true 20 [some (.ref 24), some (.int a1), some (.int a2), some (.int a3), some (.int a4), none] [] w = some x := h
    refine eRun_go hcx (eLnk_all lk_mm_steadies) (eHc_all hc_mm_steadies) rI_ok dcX12_steadies [20, 61] _ (fun pc L st w hK => ?_) 20 true 20 _ _ w h
    unfold kk_mm_steadies_20 at hK
    rcases eCut hK with ⟨hpc, hK⟩ | hK
    · subst hpc
      obtain ⟨e0, hK_1⟩ := lR_some hK
      obtain ⟨a1, e1, hK_2⟩ := lI_some hK_1
      obtain ⟨a2, e2, hK_3⟩ := lI_some hK_2
      obtain ⟨a3, e3, hK_4⟩ := lI_some hK_3
      obtain ⟨a4, e4, hK_5⟩ := lI_some hK_4
      obtain ⟨a5, e5, hK_6⟩ := lI_some hK_5
      obtain ⟨hst9, hK_7⟩ := sE_some hK_6
      subst hst9
      exact eGo.wk (go_mm_steadies_L61 hcx  eFu a1 a2 a3 a4 a5 w hK_7) (eLe_wk ⟨e0, e1, e2, e3, e4, e5, trivial⟩)
    rcases eCut hK with ⟨hpc, hK⟩ | hK
    · subst hpc
      obtain ⟨e0, hK_1⟩ := lR_some hK
      obtain ⟨a1, e1, hK_2⟩ := lI_some hK_1
      obtain ⟨a2, e2, hK_3⟩ := lI_some hK_2
      obtain ⟨a3, e3, hK_4⟩ := lI_some hK_3
      obtain ⟨a4, e4, hK_5⟩ := lI_some hK_4
      obtain ⟨hst9, hK_6⟩ := sE_some hK_5
      subst hst9
      exact eGo.wk (ih a1 a2 a3 a4 w hK_6) (eLe_wk ⟨e0, e1, e2, e3, e4, trivial⟩)
    cases hK
set_option maxRecDepth 100000 in
set_option maxHeartbeats 4000000 in
theorem go_mm_steadies (hcx : eCx p { frames := 11, cells := 0, slots := 0, locals := 258 } s m args meth c cX12_steadies RX12 6 ad D cA vwCl SHm SSm (eWd yX12_steadies cX12_steadies 6 (some .int)) (some .int)) (a1 : Int32) (a2 : Int32) (w : eW) (x : Int32 × eW) (h : f_mm_steadies a1 a2 w = some x) : eGq p l e { frames := 11, cells := 0, slots := 0, locals := 258 } s m args below meth c 6 ad D cA vwCl SHm rI x 0 (eEnt [.ref 24, .int a1, .int a2]) [] w := by
  have h : eRun SHm SSm 6 rs_mm_steadies (eCs cs_mm_steadies) rI CX12_steadies [20, 61] (fun pc L st w => bif Nat.beq pc 20 then (lR L 0 24 ((lI L 1).bind fun a1 => (lI L 2).bind fun a2 => (lI L 3).bind fun a3 => (lI L 4).bind fun a4 => sE st (f_mm_steadies_L20 eFu a1 a2 a3 a4 w))) else none) 13 true 0 [some (.ref 24), some (.int a1), some (.int a2), none, none, none] [] w = some x := h
  refine eGo.wk (eRun_go hcx (eLnk_all lk_mm_steadies) (eHc_all hc_mm_steadies) rI_ok dcX12_steadies [20, 61] _ (fun pc L st w hK => ?_) 13 true 0 _ _ w h) (eLe_wk ⟨rfl, rfl, rfl, trivial⟩)
  rcases eCut hK with ⟨hpc, hK⟩ | hK
  · subst hpc
    obtain ⟨e0, hK_1⟩ := lR_some hK
    obtain ⟨a1, e1, hK_2⟩ := lI_some hK_1
    obtain ⟨a2, e2, hK_3⟩ := lI_some hK_2
    obtain ⟨a3, e3, hK_4⟩ := lI_some hK_3
    obtain ⟨a4, e4, hK_5⟩ := lI_some hK_4
    obtain ⟨hst9, hK_6⟩ := sE_some hK_5
    subst hst9
    exact eGo.wk (go_mm_steadies_L20 hcx  eFu a1 a2 a3 a4 w hK_6) (eLe_wk ⟨e0, e1, e2, e3, e4, trivial⟩)
  cases hK
end
set_option maxRecDepth 100000 in
set_option maxHeartbeats 4000000 in
theorem ok_mm_steadies {l : Launch} {ad : Nat → Nat} {D : va_G} {cA : Nat → ClassId} {ρ : Type} (as : List Value) (w : eW) (k : Option Value → eW → Option ρ) (x : ρ) (h : K_mm_steadies as w k = some x) : ∃ (v : Option Value) (w2 : eW), k v w2 = some x ∧ eMet l ad D cA vwCl SHm SSm yX12_steadies (eWd yX12_steadies cX12_steadies 6 (some .int)) { frames := 11, cells := 0, slots := 0, locals := 258 } as w v w2 := by
  unfold K_mm_steadies at h
  split at h
  · rename_i r0 a1 a2
    obtain ⟨h1, h5⟩ := eBif h
    clear h
    have h := h5
    clear h5
    have h1 := Nat.eq_of_beq_eq_true h1
    subst h1
    obtain ⟨q, h2, h3⟩ := Option.bind_eq_some_iff.mp h
    exact ⟨_, _, h3, eMet_of (by decide +kernel) rfl (by simp [eCat, Value.category]) rI_ret (fun p e s m args below meth c hcx => go_mm_steadies hcx a1 a2 w q h2)⟩
  · cases h
def CX12_undo : eCo := [[some (.aload_n 0), some (.iconst 0), some (.putfield 95), none, none, some (.aload_n 0), some (.getfield 241), none, none, some (.ifCond .ne 5), none, none, some (.iconst 0), some (.ireturn), some (.aload_n 0), some (.dup)],
  [some (.getfield 241), none, none, some (.iconst 1), some (.isub), some (.putfield 241), none, none, some (.bipush 48), none, some (.aload_n 0), some (.getfield 241), none, none, some (.imul), some (.istore_n 1)],
  [some (.iconst 0), some (.istore_n 2), some (.iload_n 2), some (.bipush 12), none, some (.if_icmp .ge 40), none, none, some (.aload_n 0), some (.getfield 13), none, none, some (.iload_n 2), some (.aload_n 0), some (.getfield 86), none],
  [none, some (.iload_n 1), some (.iload_n 2), some (.iadd), some (.iaload), some (.iastore), some (.aload_n 0), some (.getfield 19), none, none, some (.iload_n 2), some (.aload_n 0), some (.getfield 86), none, none, some (.iload_n 1)],
  [some (.bipush 12), none, some (.iadd), some (.iload_n 2), some (.iadd), some (.iaload), some (.iastore), some (.iinc 2 1), none, none, some (.goto (-40)), none, none, some (.iconst 0), some (.istore_n 2), some (.iload_n 2)],
  [some (.bipush 8), none, some (.if_icmp .ge 43), none, none, some (.aload_n 0), some (.getfield 89), none, none, some (.iload_n 2), some (.aload_n 0), some (.getfield 86), none, none, some (.iload_n 1), some (.bipush 24)],
  [none, some (.iadd), some (.iload_n 2), some (.iadd), some (.iaload), some (.iastore), some (.aload_n 0), some (.getfield 92), none, none, some (.iload_n 2), some (.aload_n 0), some (.getfield 86), none, none, some (.iload_n 1)],
  [some (.bipush 32), none, some (.iadd), some (.iload_n 2), some (.iadd), some (.iaload), some (.iastore), some (.iinc 2 1), none, none, some (.goto (-43)), none, none, some (.aload_n 0), some (.aload_n 0), some (.getfield 86)],
  [none, none, some (.iload_n 1), some (.bipush 40), none, some (.iadd), some (.iaload), some (.putfield 235), none, none, some (.aload_n 0), some (.aload_n 0), some (.getfield 86), none, none, some (.iload_n 1)],
  [some (.bipush 41), none, some (.iadd), some (.iaload), some (.putfield 113), none, none, some (.aload_n 0), some (.aload_n 0), some (.getfield 86), none, none, some (.iload_n 1), some (.bipush 42), none, some (.iadd)],
  [some (.iaload), some (.iconst 1), some (.if_icmp .ne 7), none, none, some (.iconst 1), some (.goto 4), none, none, some (.iconst 0), some (.putfield 238), none, none, some (.aload_n 0), some (.aload_n 0), some (.getfield 86)],
  [none, none, some (.iload_n 1), some (.bipush 43), none, some (.iadd), some (.iaload), some (.putfield 393), none, none, some (.aload_n 0), some (.aload_n 0), some (.getfield 86), none, none, some (.iload_n 1)],
  [some (.bipush 44), none, some (.iadd), some (.iaload), some (.putfield 396), none, none, some (.aload_n 0), some (.aload_n 0), some (.getfield 86), none, none, some (.iload_n 1), some (.bipush 45), none, some (.iadd)],
  [some (.iaload), some (.putfield 399), none, none, some (.aload_n 0), some (.aload_n 0), some (.getfield 86), none, none, some (.iload_n 1), some (.bipush 46), none, some (.iadd), some (.iaload), some (.putfield 402), none],
  [none, some (.iconst 1), some (.ireturn)]]
theorem dcX12_undo : eDec cX12_undo CX12_undo := eDec_of (by decide +kernel)
def rs_mm_undo : List (Nat × eR) := [(13, (0, 11, 6, 2)), (19, (0, 11, 8, 2)), (86, (0, 11, 50, 2)), (89, (0, 11, 51, 2)), (92, (0, 11, 52, 2)), (95, (0, 11, 0, 0)), (113, (0, 11, 16, 0)), (235, (0, 11, 54, 0)), (238, (0, 11, 59, 3)), (241, (0, 11, 53, 0)), (393, (0, 11, 55, 0)), (396, (0, 11, 56, 0)), (399, (0, 11, 57, 0)), (402, (0, 11, 58, 0))]
noncomputable def cs_mm_undo : List (eF (Int32 × eW)) := []
noncomputable def f_mm_undo_J170 (a1 : Int32) (s0 : Int32) (w : eW) : Option (Int32 × eW) := (if s0 = 0 ∨ s0 = 1 then (eChk (a1 + (43 : Int32)) 576 (eChk (a1 + (44 : Int32)) 576 (eChk (a1 + (45 : Int32)) 576 (eChk (a1 + (46 : Int32)) 576 (some ((1 : Int32), (eU1 (eU1 (eU1 (eU1 (eU1 w 24 59 s0) 24 55 (w.1 21 (Int32.toNatClampNeg (a1 + (43 : Int32))))) 24 56 (w.1 21 (Int32.toNatClampNeg (a1 + (44 : Int32))))) 24 57 (w.1 21 (Int32.toNatClampNeg (a1 + (45 : Int32))))) 24 58 (w.1 21 (Int32.toNatClampNeg (a1 + (46 : Int32))))))))))) else none)
noncomputable def f_mm_undo_L79 : Nat → Int32 → Int32 → eW → Option (Int32 × eW)
  | 0, _, _, _ => none
  | n + 1, a1, a2, w => (if (8 : Int32) ≤ a2 then (eChk (a1 + (40 : Int32)) 576 (eChk (a1 + (41 : Int32)) 576 (eChk (a1 + (42 : Int32)) 576 (if ¬ (w.1 21 (Int32.toNatClampNeg (a1 + (42 : Int32)))) = (1 : Int32) then (f_mm_undo_J170 a1 (0 : Int32) (eU1 (eU1 w 24 54 (w.1 21 (Int32.toNatClampNeg (a1 + (40 : Int32))))) 24 16 (w.1 21 (Int32.toNatClampNeg (a1 + (41 : Int32)))))) else (f_mm_undo_J170 a1 (1 : Int32) (eU1 (eU1 w 24 54 (w.1 21 (Int32.toNatClampNeg (a1 + (40 : Int32))))) 24 16 (w.1 21 (Int32.toNatClampNeg (a1 + (41 : Int32)))))))))) else (eChk ((a1 + (24 : Int32)) + a2) 576 (eChk a2 8 (eChk ((a1 + (32 : Int32)) + a2) 576 (eChk a2 8 (f_mm_undo_L79 n a1 (a2 + (1 : Int32)) (eU1 (eU1 w 22 (Int32.toNatClampNeg a2) (w.1 21 (Int32.toNatClampNeg ((a1 + (24 : Int32)) + a2)))) 23 (Int32.toNatClampNeg a2) (w.1 21 (Int32.toNatClampNeg ((a1 + (32 : Int32)) + a2))))))))))
noncomputable def f_mm_undo_L34 : Nat → Int32 → Int32 → eW → Option (Int32 × eW)
  | 0, _, _, _ => none
  | n + 1, a1, a2, w => (if (12 : Int32) ≤ a2 then (f_mm_undo_L79 eFu a1 (0 : Int32) w) else (eChk (a1 + a2) 576 (eChk a2 24 (eChk ((a1 + (12 : Int32)) + a2) 576 (eChk a2 24 (f_mm_undo_L34 n a1 (a2 + (1 : Int32)) (eU1 (eU1 w 1 (Int32.toNatClampNeg a2) (w.1 21 (Int32.toNatClampNeg (a1 + a2)))) 3 (Int32.toNatClampNeg a2) (w.1 21 (Int32.toNatClampNeg ((a1 + (12 : Int32)) + a2))))))))))
noncomputable def f_mm_undo (w : eW) : Option (Int32 × eW) := (if ¬ (w.1 24 53) = 0 then (f_mm_undo_L34 eFu ((48 : Int32) * ((w.1 24 53) - (1 : Int32))) (0 : Int32) (eU1 (eU1 w 24 0 (0 : Int32)) 24 53 ((w.1 24 53) - (1 : Int32)))) else (some ((0 : Int32), (eU1 w 24 0 (0 : Int32)))))
noncomputable def K_mm_undo {ρ : Type} : eF ρ := fun as w k => match as with
  | [.ref r0] => bif Nat.beq r0 24 then (f_mm_undo w).bind (fun p => k (some (.int p.1)) p.2) else none
  | _ => none
section
variable {p : Program} {l : Launch} {e : Env} {s : State} {m : MethodId} {args : Array Value} {below : List Frame} {meth : Method} {c : Code} {ad : Nat → Nat} {D : va_G} {cA : Nat → ClassId}
theorem lk_mm_undo : ∀ q ∈ rs_mm_undo, eLnk { frames := 0, cells := 0, slots := 0, locals := 0 } vwCl (eWd yX12_undo cX12_undo 3 (some .boolean)) SSm SHm.length RX12 q.1 q.2 := List.forall_mem_cons.mpr ⟨lkX12_13 eTb_wd, List.forall_mem_cons.mpr ⟨lkX12_19 eTb_wd, List.forall_mem_cons.mpr ⟨lkX12_86 eTb_wd, List.forall_mem_cons.mpr ⟨lkX12_89 eTb_wd, List.forall_mem_cons.mpr ⟨lkX12_92 eTb_wd, List.forall_mem_cons.mpr ⟨lkX12_95 eTb_wd, List.forall_mem_cons.mpr ⟨lkX12_113 eTb_wd, List.forall_mem_cons.mpr ⟨lkX12_235 eTb_wd, List.forall_mem_cons.mpr ⟨lkX12_238 eTb_wd, List.forall_mem_cons.mpr ⟨lkX12_241 eTb_wd, List.forall_mem_cons.mpr ⟨lkX12_393 eTb_wd, List.forall_mem_cons.mpr ⟨lkX12_396 eTb_wd, List.forall_mem_cons.mpr ⟨lkX12_399 eTb_wd, List.forall_mem_cons.mpr ⟨lkX12_402 eTb_wd, fun _ h => absurd h List.not_mem_nil⟩⟩⟩⟩⟩⟩⟩⟩⟩⟩⟩⟩⟩⟩
theorem hc_mm_undo {x : Int32 × eW} : ∀ q ∈ rs_mm_undo, eHc l { frames := 0, cells := 0, slots := 0, locals := 0 } ad D cA vwCl SHm SSm (eWd yX12_undo cX12_undo 3 (some .boolean)) RX12 cs_mm_undo x q := List.forall_mem_cons.mpr ⟨trivial, List.forall_mem_cons.mpr ⟨trivial, List.forall_mem_cons.mpr ⟨trivial, List.forall_mem_cons.mpr ⟨trivial, List.forall_mem_cons.mpr ⟨trivial, List.forall_mem_cons.mpr ⟨trivial, List.forall_mem_cons.mpr ⟨trivial, List.forall_mem_cons.mpr ⟨trivial, List.forall_mem_cons.mpr ⟨trivial, List.forall_mem_cons.mpr ⟨trivial, List.forall_mem_cons.mpr ⟨trivial, List.forall_mem_cons.mpr ⟨trivial, List.forall_mem_cons.mpr ⟨trivial, List.forall_mem_cons.mpr ⟨trivial, fun _ h => absurd h List.not_mem_nil⟩⟩⟩⟩⟩⟩⟩⟩⟩⟩⟩⟩⟩⟩
noncomputable def kk_mm_undo_170 : eK (Int32 × eW) := fun pc L st w => none
set_option maxRecDepth 100000 in
set_option maxHeartbeats 4000000 in
theorem go_mm_undo_J170 (hcx : eCx p { frames := 0, cells := 0, slots := 0, locals := 0 } s m args meth c cX12_undo RX12 3 ad D cA vwCl SHm SSm (eWd yX12_undo cX12_undo 3 (some .boolean)) (some .boolean)) {x : Int32 × eW} : ∀ (a1 : Int32) (s0 : Int32) (w : eW), f_mm_undo_J170  a1 s0 w = some x → eGq p l e { frames := 0, cells := 0, slots := 0, locals := 0 } s m args below meth c 3 ad D cA vwCl SHm rZ x 170 [some (.ref 24), some (.int a1), none] [.int s0, .ref 24] w := by
  intro a1 s0 w h
  have h : eRun SHm SSm 3 rs_mm_undo (eCs cs_mm_undo) rZ CX12_undo [34, 79, 170] (kk_mm_undo_170 ) 37 true 170 [some (.ref 24), some (.int a1), none] [.int s0, .ref 24] w = some x := h
  refine eRun_go hcx (eLnk_all lk_mm_undo) (eHc_all hc_mm_undo) rZ_ok dcX12_undo [34, 79, 170] _ (fun pc L st w hK => ?_) 37 true 170 _ _ w h
  unfold kk_mm_undo_170 at hK
  cases hK
noncomputable def kk_mm_undo_79 (n : Nat) : eK (Int32 × eW) := fun pc L st w => bif Nat.beq pc 170 then (lR L 0 24 ((lI L 1).bind fun a1 => sI st (fun s0 st1 => sR st1 24 (fun st2 => sE st2 (f_mm_undo_J170 a1 s0 w))))) else (bif Nat.beq pc 79 then (lR L 0 24 ((lI L 1).bind fun a1 => (lI L 2).bind fun a2 => sE st (f_mm_undo_L79 n a1 a2 w))) else none)
set_option maxRecDepth 100000 in
set_option maxHeartbeats 4000000 in
theorem go_mm_undo_L79 (hcx : eCx p { frames := 0, cells := 0, slots := 0, locals := 0 } s m args meth c cX12_undo RX12 3 ad D cA vwCl SHm SSm (eWd yX12_undo cX12_undo 3 (some .boolean)) (some .boolean)) {x : Int32 × eW} : ∀ (n : Nat) (a1 : Int32) (a2 : Int32) (w : eW), f_mm_undo_L79  n a1 a2 w = some x → eGq p l e { frames := 0, cells := 0, slots := 0, locals := 0 } s m args below meth c 3 ad D cA vwCl SHm rZ x 79 [some (.ref 24), some (.int a1), some (.int a2)] [] w := by
  intro n
  induction n with
  | zero => intro a1 a2 w h; exact nomatch (show (none : Option (Int32 × eW)) = some x from h)
  | succ n ih =>
    intro a1 a2 w h
    have h : eRun SHm SSm 3 rs_mm_undo (eCs cs_mm_undo) rZ CX12_undo [34, 79, 170] (kk_mm_undo_79  n) 33 true 79 [some (.ref 24), some (.int a1), some (.int a2)] [] w = some x := h
    refine eRun_go hcx (eLnk_all lk_mm_undo) (eHc_all hc_mm_undo) rZ_ok dcX12_undo [34, 79, 170] _ (fun pc L st w hK => ?_) 33 true 79 _ _ w h
    unfold kk_mm_undo_79 at hK
    rcases eCut hK with ⟨hpc, hK⟩ | hK
    · subst hpc
      obtain ⟨e0, hK_1⟩ := lR_some hK
      obtain ⟨a1, e1, hK_2⟩ := lI_some hK_1
      obtain ⟨s0, st1, hst0, hK_3⟩ := sI_some hK_2
      subst hst0
      obtain ⟨st2, hst1, hK_4⟩ := sR_some hK_3
      subst hst1
      obtain ⟨hst9, hK_5⟩ := sE_some hK_4
      subst hst9
      exact eGo.wk (go_mm_undo_J170 hcx  a1 s0 w hK_5) (eLe_wk ⟨e0, e1, trivial⟩)
    rcases eCut hK with ⟨hpc, hK⟩ | hK
    · subst hpc
      obtain ⟨e0, hK_1⟩ := lR_some hK
      obtain ⟨a1, e1, hK_2⟩ := lI_some hK_1
      obtain ⟨a2, e2, hK_3⟩ := lI_some hK_2
      obtain ⟨hst9, hK_4⟩ := sE_some hK_3
      subst hst9
      exact eGo.wk (ih a1 a2 w hK_4) (eLe_wk ⟨e0, e1, e2, trivial⟩)
    cases hK
noncomputable def kk_mm_undo_34 (n : Nat) : eK (Int32 × eW) := fun pc L st w => bif Nat.beq pc 79 then (lR L 0 24 ((lI L 1).bind fun a1 => (lI L 2).bind fun a2 => sE st (f_mm_undo_L79 eFu a1 a2 w))) else (bif Nat.beq pc 34 then (lR L 0 24 ((lI L 1).bind fun a1 => (lI L 2).bind fun a2 => sE st (f_mm_undo_L34 n a1 a2 w))) else none)
set_option maxRecDepth 100000 in
set_option maxHeartbeats 4000000 in
theorem go_mm_undo_L34 (hcx : eCx p { frames := 0, cells := 0, slots := 0, locals := 0 } s m args meth c cX12_undo RX12 3 ad D cA vwCl SHm SSm (eWd yX12_undo cX12_undo 3 (some .boolean)) (some .boolean)) {x : Int32 × eW} : ∀ (n : Nat) (a1 : Int32) (a2 : Int32) (w : eW), f_mm_undo_L34  n a1 a2 w = some x → eGq p l e { frames := 0, cells := 0, slots := 0, locals := 0 } s m args below meth c 3 ad D cA vwCl SHm rZ x 34 [some (.ref 24), some (.int a1), some (.int a2)] [] w := by
  intro n
  induction n with
  | zero => intro a1 a2 w h; exact nomatch (show (none : Option (Int32 × eW)) = some x from h)
  | succ n ih =>
    intro a1 a2 w h
    have h : eRun SHm SSm 3 rs_mm_undo (eCs cs_mm_undo) rZ CX12_undo [34, 79, 170] (kk_mm_undo_34  n) 30 true 34 [some (.ref 24), some (.int a1), some (.int a2)] [] w = some x := h
    refine eRun_go hcx (eLnk_all lk_mm_undo) (eHc_all hc_mm_undo) rZ_ok dcX12_undo [34, 79, 170] _ (fun pc L st w hK => ?_) 30 true 34 _ _ w h
    unfold kk_mm_undo_34 at hK
    rcases eCut hK with ⟨hpc, hK⟩ | hK
    · subst hpc
      obtain ⟨e0, hK_1⟩ := lR_some hK
      obtain ⟨a1, e1, hK_2⟩ := lI_some hK_1
      obtain ⟨a2, e2, hK_3⟩ := lI_some hK_2
      obtain ⟨hst9, hK_4⟩ := sE_some hK_3
      subst hst9
      exact eGo.wk (go_mm_undo_L79 hcx  eFu a1 a2 w hK_4) (eLe_wk ⟨e0, e1, e2, trivial⟩)
    rcases eCut hK with ⟨hpc, hK⟩ | hK
    · subst hpc
      obtain ⟨e0, hK_1⟩ := lR_some hK
      obtain ⟨a1, e1, hK_2⟩ := lI_some hK_1
      obtain ⟨a2, e2, hK_3⟩ := lI_some hK_2
      obtain ⟨hst9, hK_4⟩ := sE_some hK_3
      subst hst9
      exact eGo.wk (ih a1 a2 w hK_4) (eLe_wk ⟨e0, e1, e2, trivial⟩)
    cases hK
set_option maxRecDepth 100000 in
set_option maxHeartbeats 4000000 in
theorem go_mm_undo (hcx : eCx p { frames := 0, cells := 0, slots := 0, locals := 0 } s m args meth c cX12_undo RX12 3 ad D cA vwCl SHm SSm (eWd yX12_undo cX12_undo 3 (some .boolean)) (some .boolean)) (w : eW) (x : Int32 × eW) (h : f_mm_undo w = some x) : eGq p l e { frames := 0, cells := 0, slots := 0, locals := 0 } s m args below meth c 3 ad D cA vwCl SHm rZ x 0 (eEnt [.ref 24]) [] w := by
  have h : eRun SHm SSm 3 rs_mm_undo (eCs cs_mm_undo) rZ CX12_undo [34, 79, 170] (fun pc L st w => bif Nat.beq pc 34 then (lR L 0 24 ((lI L 1).bind fun a1 => (lI L 2).bind fun a2 => sE st (f_mm_undo_L34 eFu a1 a2 w))) else none) 22 true 0 [some (.ref 24), none, none] [] w = some x := h
  refine eGo.wk (eRun_go hcx (eLnk_all lk_mm_undo) (eHc_all hc_mm_undo) rZ_ok dcX12_undo [34, 79, 170] _ (fun pc L st w hK => ?_) 22 true 0 _ _ w h) (eLe_wk ⟨rfl, trivial⟩)
  rcases eCut hK with ⟨hpc, hK⟩ | hK
  · subst hpc
    obtain ⟨e0, hK_1⟩ := lR_some hK
    obtain ⟨a1, e1, hK_2⟩ := lI_some hK_1
    obtain ⟨a2, e2, hK_3⟩ := lI_some hK_2
    obtain ⟨hst9, hK_4⟩ := sE_some hK_3
    subst hst9
    exact eGo.wk (go_mm_undo_L34 hcx  eFu a1 a2 w hK_4) (eLe_wk ⟨e0, e1, e2, trivial⟩)
  cases hK
end
set_option maxRecDepth 100000 in
set_option maxHeartbeats 4000000 in
theorem ok_mm_undo {l : Launch} {ad : Nat → Nat} {D : va_G} {cA : Nat → ClassId} {ρ : Type} (as : List Value) (w : eW) (k : Option Value → eW → Option ρ) (x : ρ) (h : K_mm_undo as w k = some x) : ∃ (v : Option Value) (w2 : eW), k v w2 = some x ∧ eMet l ad D cA vwCl SHm SSm yX12_undo (eWd yX12_undo cX12_undo 3 (some .boolean)) { frames := 0, cells := 0, slots := 0, locals := 0 } as w v w2 := by
  unfold K_mm_undo at h
  split at h
  · rename_i r0
    obtain ⟨h1, h5⟩ := eBif h
    clear h
    have h := h5
    clear h5
    have h1 := Nat.eq_of_beq_eq_true h1
    subst h1
    obtain ⟨q, h2, h3⟩ := Option.bind_eq_some_iff.mp h
    exact ⟨_, _, h3, eMet_of (by decide +kernel) rfl (by simp [eCat, Value.category]) rZ_ret (fun p e s m args below meth c hcx => go_mm_undo hcx w q h2)⟩
  · cases h
