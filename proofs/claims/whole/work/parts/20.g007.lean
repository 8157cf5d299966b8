noncomputable def f_re_readItems (o : Nat) (w : eW) : Option (Int32 × eW) := bif Nat.beq o 39 then f_re_readItems_39 w else ( bif Nat.beq o 40 then f_re_readItems_40 w else ( bif Nat.beq o 41 then f_re_readItems_41 w else ( bif Nat.beq o 42 then f_re_readItems_42 w else ( none))))
noncomputable def K_re_readItems {ρ : Type} : eF ρ := fun as w k => match as with
  | [.ref r0, .ref o] => bif Nat.beq r0 6 then (f_re_readItems o w).bind (fun p => k (some (.int p.1)) p.2) else none
  | _ => none
set_option maxRecDepth 100000 in
set_option maxHeartbeats 4000000 in
theorem ok_re_readItems {l : Launch} {ad : Nat → Nat} {D : va_G} {cA : Nat → ClassId} {ρ : Type} (as : List Value) (w : eW) (k : Option Value → eW → Option ρ) (x : ρ) (h : K_re_readItems as w k = some x) : ∃ (v : Option Value) (w2 : eW), k v w2 = some x ∧ eMet l ad D cA vwCl SHc SSc yX8_readItems (eWd yX8_readItems cX8_readItems 6 (some .boolean)) { frames := 3, cells := 0, slots := 0, locals := 67 } as w v w2 := by
  unfold K_re_readItems at h
  split at h
  · rename_i r0 o
    obtain ⟨h1, h5⟩ := eBif h
    clear h
    have h := h5
    clear h5
    have h1 := Nat.eq_of_beq_eq_true h1
    subst h1
    obtain ⟨q, h2, h3⟩ := Option.bind_eq_some_iff.mp h
    unfold f_re_readItems at h2
    rcases eCut h2 with ⟨h4, h2⟩ | h2
    · subst h4
      exact ⟨_, _, h3, eMet_of (by decide +kernel) rfl (by decide) rZ_ret (fun p e s m args below meth c hcx => go_re_readItems_39 hcx w q h2)⟩
    rcases eCut h2 with ⟨h4, h2⟩ | h2
    · subst h4
      exact ⟨_, _, h3, eMet_of (by decide +kernel) rfl (by decide) rZ_ret (fun p e s m args below meth c hcx => go_re_readItems_40 hcx w q h2)⟩
    rcases eCut h2 with ⟨h4, h2⟩ | h2
    · subst h4
      exact ⟨_, _, h3, eMet_of (by decide +kernel) rfl (by decide) rZ_ret (fun p e s m args below meth c hcx => go_re_readItems_41 hcx w q h2)⟩
    rcases eCut h2 with ⟨h4, h2⟩ | h2
    · subst h4
      exact ⟨_, _, h3, eMet_of (by decide +kernel) rfl (by decide) rZ_ret (fun p e s m args below meth c hcx => go_re_readItems_42 hcx w q h2)⟩
    cases h2
  · cases h
def CX8_readLine : eCo := [[some (.aload_n 0), some (.invokevirtual 71), none, none, some (.istore_n 1), some (.iload_n 1), some (.iconst (-1)), some (.if_icmp .eq 20), none, none, some (.iload_n 1), some (.iconst 3), some (.if_icmp .gt 15), none, none, some (.iload_n 1)],
  [some (.iconst 3), some (.if_icmp .ne 16), none, none, some (.aload_n 0), some (.getfield 54), none, none, some (.ifCond .eq 9), none, none, some (.aload_n 0), some (.iconst 2), some (.invokevirtual 74), none, none],
  [some (.ireturn), some (.iload_n 1), some (.iconst 3), some (.if_icmp .ne 11), none, none, some (.aload_n 0), some (.iconst 1), some (.putfield 54), none, none, some (.goto 35), none, none, some (.aload_n 0), some (.getfield 21)],
  [none, none, some (.iload_n 1), some (.invokevirtual 78), none, none, some (.iload_n 1), some (.invokestatic 82), none, none, some (.if_icmp .ge 14), none, none, some (.aload_n 0), some (.getfield 21), none],
  [none, some (.iload_n 1), some (.invokevirtual 85), none, none, some (.ifCond .ne 9), none, none, some (.aload_n 0), some (.iconst 5), some (.invokevirtual 74), none, none, some (.ireturn), some (.aload_n 0), some (.getfield 29)],
  [none, none, some (.invokevirtual 88), none, none, some (.aload_n 0), some (.iload_n 1), some (.invokestatic 91), none, none, some (.invokevirtual 95), none, none, some (.ireturn)]]
theorem dcX8_readLine : eDec cX8_readLine CX8_readLine := eDec_of (by decide +kernel)
def rs_re_readLine : List (Nat × eR) := [(21, (0, 7, 4, 2)), (29, (0, 7, 0, 2)), (54, (0, 7, 3, 3)), (71, (1, 0, 0, 7)), (74, (1, 1, 1, 7)), (78, (1, 2, 1, 4)), (82, (1, 3, 1, -1)), (85, (1, 4, 1, 4)), (88, (1, 5, 0, 9)), (91, (1, 6, 1, -1)), (95, (1, 7, 1, 7))]
noncomputable def cs_re_readLine : List (eF (Int32 × eW)) := [K_re_keptWord, K_re_refuse, K_dr_countOf, K_re_mostOf, K_dr_add, K_ta_scan, K_re_lineOf, K_re_readItems]
noncomputable def f_re_readLine_J33 (a1 : Int32) (w : eW) : Option (Int32 × eW) := (if ¬ a1 = (3 : Int32) then ((f_dr_countOf a1 w).bind fun p5 => ((f_re_mostOf a1 p5.2).bind fun p6 => (if p6.1 ≤ p5.1 then ((f_re_refuse (5 : Int32) p6.2).bind fun p7 => (if p7.1 = 0 ∨ p7.1 = 1 then some (p7.1, p7.2) else none)) else ((f_dr_add a1 p6.2).bind fun p8 => (if ¬ p8.1 = 0 then ((f_ta_scan p8.2).bind fun w9 => ((f_re_lineOf a1 w9).bind fun p10 => ((f_re_readItems p10.1 p10.2).bind fun p11 => (if p11.1 = 0 ∨ p11.1 = 1 then some (p11.1, p11.2) else none)))) else ((f_re_refuse (5 : Int32) p8.2).bind fun p12 => (if p12.1 = 0 ∨ p12.1 = 1 then some (p12.1, p12.2) else none))))))) else ((f_ta_scan (eU1 w 6 3 (1 : Int32))).bind fun w13 => ((f_re_lineOf a1 w13).bind fun p14 => ((f_re_readItems p14.1 p14.2).bind fun p15 => (if p15.1 = 0 ∨ p15.1 = 1 then some (p15.1, p15.2) else none)))))
noncomputable def f_re_readLine (w : eW) : Option (Int32 × eW) := ((f_re_keptWord w).bind fun p1 => (if p1.1 = (-1 : Int32) then ((f_re_refuse (2 : Int32) p1.2).bind fun p2 => (if p2.1 = 0 ∨ p2.1 = 1 then some (p2.1, p2.2) else none)) else (if (3 : Int32) < p1.1 then ((f_re_refuse (2 : Int32) p1.2).bind fun p3 => (if p3.1 = 0 ∨ p3.1 = 1 then some (p3.1, p3.2) else none)) else (if ¬ p1.1 = (3 : Int32) then (f_re_readLine_J33 p1.1 p1.2) else (if (p1.2.1 6 3) = 0 then (f_re_readLine_J33 p1.1 p1.2) else ((f_re_refuse (2 : Int32) p1.2).bind fun p4 => (if p4.1 = 0 ∨ p4.1 = 1 then some (p4.1, p4.2) else none)))))))
noncomputable def K_re_readLine {ρ : Type} : eF ρ := fun as w k => match as with
  | [.ref r0] => bif Nat.beq r0 6 then (f_re_readLine w).bind (fun p => k (some (.int p.1)) p.2) else none
  | _ => none
section
variable {p : Program} {l : Launch} {e : Env} {s : State} {m : MethodId} {args : Array Value} {below : List Frame} {meth : Method} {c : Code} {ad : Nat → Nat} {D : va_G} {cA : Nat → ClassId}
theorem lk_re_readLine : ∀ q ∈ rs_re_readLine, eLnk { frames := 4, cells := 0, slots := 0, locals := 92 } vwCl (eWd yX8_readLine cX8_readLine 2 (some .boolean)) SSc SHc.length RX8 q.1 q.2 := List.forall_mem_cons.mpr ⟨lkX8_21 eTb_wd, List.forall_mem_cons.mpr ⟨lkX8_29 eTb_wd, List.forall_mem_cons.mpr ⟨lkX8_54 eTb_wd, List.forall_mem_cons.mpr ⟨trivial, List.forall_mem_cons.mpr ⟨trivial, List.forall_mem_cons.mpr ⟨trivial, List.forall_mem_cons.mpr ⟨trivial, List.forall_mem_cons.mpr ⟨trivial, List.forall_mem_cons.mpr ⟨trivial, List.forall_mem_cons.mpr ⟨trivial, List.forall_mem_cons.mpr ⟨trivial, fun _ h => absurd h List.not_mem_nil⟩⟩⟩⟩⟩⟩⟩⟩⟩⟩⟩
theorem hc_re_readLine {x : Int32 × eW} : ∀ q ∈ rs_re_readLine, eHc l { frames := 4, cells := 0, slots := 0, locals := 92 } ad D cA vwCl SHc SSc (eWd yX8_readLine cX8_readLine 2 (some .boolean)) RX8 cs_re_readLine x q := List.forall_mem_cons.mpr ⟨trivial, List.forall_mem_cons.mpr ⟨trivial, List.forall_mem_cons.mpr ⟨trivial, List.forall_mem_cons.mpr ⟨(fun as w k h => let ⟨v, w2, h1, h2⟩ := ok_re_keptWord as w k x h; ⟨v, w2, h1, eCal_of h2 ⟨rfl, rfl⟩ hdX8_keptWord (gvX8_71 eTb_wd)⟩), List.forall_mem_cons.mpr ⟨(fun as w k h => let ⟨v, w2, h1, h2⟩ := ok_re_refuse as w k x h; ⟨v, w2, h1, eCal_of h2 ⟨rfl, rfl⟩ hdX8_refuse (gvX8_74 eTb_wd)⟩), List.forall_mem_cons.mpr ⟨(fun as w k h => let ⟨v, w2, h1, h2⟩ := ok_dr_countOf as w k x h; ⟨v, w2, h1, eCal_of h2 ⟨rfl, rfl⟩ hdX4_countOf (gvX8_78 eTb_wd)⟩), List.forall_mem_cons.mpr ⟨(fun as w k h => let ⟨v, w2, h1, h2⟩ := ok_re_mostOf as w k x h; ⟨v, w2, h1, eCal_of h2 ⟨rfl, rfl⟩ hdX8_mostOf (gvX8_82 eTb_wd)⟩), List.forall_mem_cons.mpr ⟨(fun as w k h => let ⟨v, w2, h1, h2⟩ := ok_dr_add as w k x h; ⟨v, w2, h1, eCal_of h2 ⟨rfl, rfl⟩ hdX4_add (gvX8_85 eTb_wd)⟩), List.forall_mem_cons.mpr ⟨(fun as w k h => let ⟨v, w2, h1, h2⟩ := ok_ta_scan as w k x h; ⟨v, w2, h1, eCal_of h2 ⟨rfl, rfl⟩ hdX10_scan (gvX8_88 eTb_wd)⟩), List.forall_mem_cons.mpr ⟨(fun as w k h => let ⟨v, w2, h1, h2⟩ := ok_re_lineOf as w k x h; ⟨v, w2, h1, eCal_of h2 ⟨rfl, rfl⟩ hdX8_lineOf (gvX8_91 eTb_wd)⟩), List.forall_mem_cons.mpr ⟨(fun as w k h => let ⟨v, w2, h1, h2⟩ := ok_re_readItems as w k x h; ⟨v, w2, h1, eCal_of h2 ⟨rfl, rfl⟩ hdX8_readItems (gvX8_95 eTb_wd)⟩), fun _ h => absurd h List.not_mem_nil⟩⟩⟩⟩⟩⟩⟩⟩⟩⟩⟩
noncomputable def kk_re_readLine_33 : eK (Int32 × eW) := fun pc L st w => none
set_option maxRecDepth 100000 in
set_option maxHeartbeats 4000000 in
theorem go_re_readLine_J33 (hcx : eCx p { frames := 4, cells := 0, slots := 0, locals := 92 } s m args meth c cX8_readLine RX8 2 ad D cA vwCl SHc SSc (eWd yX8_readLine cX8_readLine 2 (some .boolean)) (some .boolean)) {x : Int32 × eW} : ∀ (a1 : Int32) (w : eW), f_re_readLine_J33  a1 w = some x → eGq p l e { frames := 4, cells := 0, slots := 0, locals := 92 } s m args below meth c 2 ad D cA vwCl SHc rZ x 33 [some (.ref 6), some (.int a1)] [] w := by
  intro a1 w h
  have h : eRun SHc SSc 2 rs_re_readLine (eCs cs_re_readLine) rZ CX8_readLine [33] (kk_re_readLine_33 ) 25 true 33 [some (.ref 6), some (.int a1)] [] w = some x := h
  refine eRun_go hcx (eLnk_all lk_re_readLine) (eHc_all hc_re_readLine) rZ_ok dcX8_readLine [33] _ (fun pc L st w hK => ?_) 25 true 33 _ _ w h
  unfold kk_re_readLine_33 at hK
  cases hK
set_option maxRecDepth 100000 in
set_option maxHeartbeats 4000000 in
theorem go_re_readLine (hcx : eCx p { frames := 4, cells := 0, slots := 0, locals := 92 } s m args meth c cX8_readLine RX8 2 ad D cA vwCl SHc SSc (eWd yX8_readLine cX8_readLine 2 (some .boolean)) (some .boolean)) (w : eW) (x : Int32 × eW) (h : f_re_readLine w = some x) : eGq p l e { frames := 4, cells := 0, slots := 0, locals := 92 } s m args below meth c 2 ad D cA vwCl SHc rZ x 0 (eEnt [.ref 6]) [] w := by
  have h : eRun SHc SSc 2 rs_re_readLine (eCs cs_re_readLine) rZ CX8_readLine [33] (fun pc L st w => bif Nat.beq pc 33 then (lR L 0 6 ((lI L 1).bind fun a1 => sE st (f_re_readLine_J33 a1 w))) else none) 21 true 0 [some (.ref 6), none] [] w = some x := h
  refine eGo.wk (eRun_go hcx (eLnk_all lk_re_readLine) (eHc_all hc_re_readLine) rZ_ok dcX8_readLine [33] _ (fun pc L st w hK => ?_) 21 true 0 _ _ w h) (eLe_wk ⟨rfl, trivial⟩)
  rcases eCut hK with ⟨hpc, hK⟩ | hK
  · subst hpc
    obtain ⟨e0, hK_1⟩ := lR_some hK
    obtain ⟨a1, e1, hK_2⟩ := lI_some hK_1
    obtain ⟨hst9, hK_3⟩ := sE_some hK_2
    subst hst9
    exact eGo.wk (go_re_readLine_J33 hcx  a1 w hK_3) (eLe_wk ⟨e0, e1, trivial⟩)
  cases hK
end
set_option maxRecDepth 100000 in
set_option maxHeartbeats 4000000 in
theorem ok_re_readLine {l : Launch} {ad : Nat → Nat} {D : va_G} {cA : Nat → ClassId} {ρ : Type} (as : List Value) (w : eW) (k : Option Value → eW → Option ρ) (x : ρ) (h : K_re_readLine as w k = some x) : ∃ (v : Option Value) (w2 : eW), k v w2 = some x ∧ eMet l ad D cA vwCl SHc SSc yX8_readLine (eWd yX8_readLine cX8_readLine 2 (some .boolean)) { frames := 4, cells := 0, slots := 0, locals := 92 } as w v w2 := by
  unfold K_re_readLine at h
  split at h
  · rename_i r0
    obtain ⟨h1, h5⟩ := eBif h
    clear h
    have h := h5
    clear h5
    have h1 := Nat.eq_of_beq_eq_true h1
    subst h1
    obtain ⟨q, h2, h3⟩ := Option.bind_eq_some_iff.mp h
    exact ⟨_, _, h3, eMet_of (by decide +kernel) rfl (by simp [eCat, Value.category]) rZ_ret (fun p e s m args below meth c hcx => go_re_readLine hcx w q h2)⟩
  · cases h
def CX8_readAll : eCo := [[some (.aload_n 0), some (.getfield 21), none, none, some (.invokevirtual 51), none, none, some (.aload_n 0), some (.iconst 0), some (.putfield 54), none, none, some (.aload_n 0), some (.iconst 0), some (.putfield 58), none],
  [none, some (.aload_n 0), some (.iconst (-1)), some (.putfield 25), none, none, some (.aload_n 0), some (.getfield 29), none, none, some (.invokevirtual 61), none, none, some (.iconst 0), some (.istore_n 1), some (.iload_n 1)],
  [some (.sipush 700), none, none, some (.if_icmp .ge 28), none, none, some (.aload_n 0), some (.getfield 29), none, none, some (.getfield 64), none, none, some (.ifCond .eq 18), none, none],
  [some (.aload_n 0), some (.invokevirtual 67), none, none, some (.ifCond .ne 5), none, none, some (.iconst 0), some (.ireturn), some (.iinc 1 1), none, none, some (.goto (-29)), none, none, some (.iconst 1)],
  [some (.ireturn)]]
theorem dcX8_readAll : eDec cX8_readAll CX8_readAll := eDec_of (by decide +kernel)
def rs_re_readAll : List (Nat × eR) := [(21, (0, 7, 4, 2)), (25, (0, 7, 6, 0)), (29, (0, 7, 0, 2)), (51, (1, 0, 0, 4)), (54, (0, 7, 3, 3)), (58, (0, 7, 5, 0)), (61, (1, 1, 0, 9)), (64, (0, 9, 4, 0)), (67, (1, 2, 0, 7))]
noncomputable def cs_re_readAll : List (eF (Int32 × eW)) := [K_dr_clear, K_ta_rewind, K_re_readLine]
noncomputable def f_re_readAll_L31 : Nat → Int32 → eW → Option (Int32 × eW)
  | 0, _, _ => none
  | n + 1, a1, w => (if (700 : Int32) ≤ a1 then (some ((1 : Int32), w)) else (if (w.1 1 4) = 0 then (some ((1 : Int32), w)) else ((f_re_readLine w).bind fun p3 => (if ¬ p3.1 = 0 then (f_re_readAll_L31 n (a1 + (1 : Int32)) p3.2) else (some ((0 : Int32), p3.2))))))
noncomputable def f_re_readAll (w : eW) : Option (Int32 × eW) := ((f_dr_clear w).bind fun w1 => ((f_ta_rewind (eU1 (eU1 (eU1 w1 6 3 (0 : Int32)) 6 5 (0 : Int32)) 6 6 (-1 : Int32))).bind fun w2 => (f_re_readAll_L31 eFu (0 : Int32) w2)))
noncomputable def K_re_readAll {ρ : Type} : eF ρ := fun as w k => match as with
  | [.ref r0] => bif Nat.beq r0 6 then (f_re_readAll w).bind (fun p => k (some (.int p.1)) p.2) else none
  | _ => none
section
variable {p : Program} {l : Launch} {e : Env} {s : State} {m : MethodId} {args : Array Value} {below : List Frame} {meth : Method} {c : Code} {ad : Nat → Nat} {D : va_G} {cA : Nat → ClassId}
theorem lk_re_readAll : ∀ q ∈ rs_re_readAll, eLnk { frames := 5, cells := 0, slots := 0, locals := 113 } vwCl (eWd yX8_readAll cX8_readAll 2 (some .boolean)) SSc SHc.length RX8 q.1 q.2 := List.forall_mem_cons.mpr ⟨lkX8_21 eTb_wd, List.forall_mem_cons.mpr ⟨lkX8_25 eTb_wd, List.forall_mem_cons.mpr ⟨lkX8_29 eTb_wd, List.forall_mem_cons.mpr ⟨trivial, List.forall_mem_cons.mpr ⟨lkX8_54 eTb_wd, List.forall_mem_cons.mpr ⟨lkX8_58 eTb_wd, List.forall_mem_cons.mpr ⟨trivial, List.forall_mem_cons.mpr ⟨lkX8_64 eTb_wd, List.forall_mem_cons.mpr ⟨trivial, fun _ h => absurd h List.not_mem_nil⟩⟩⟩⟩⟩⟩⟩⟩⟩
theorem hc_re_readAll {x : Int32 × eW} : ∀ q ∈ rs_re_readAll, eHc l { frames := 5, cells := 0, slots := 0, locals := 113 } ad D cA vwCl SHc SSc (eWd yX8_readAll cX8_readAll 2 (some .boolean)) RX8 cs_re_readAll x q := List.forall_mem_cons.mpr ⟨trivial, List.forall_mem_cons.mpr ⟨trivial, List.forall_mem_cons.mpr ⟨trivial, List.forall_mem_cons.mpr ⟨(fun as w k h => let ⟨v, w2, h1, h2⟩ := ok_dr_clear as w k x h; ⟨v, w2, h1, eCal_of h2 ⟨rfl, rfl⟩ hdX4_clear (gvX8_51 eTb_wd)⟩), List.forall_mem_cons.mpr ⟨trivial, List.forall_mem_cons.mpr ⟨trivial, List.forall_mem_cons.mpr ⟨(fun as w k h => let ⟨v, w2, h1, h2⟩ := ok_ta_rewind as w k x h; ⟨v, w2, h1, eCal_of h2 ⟨rfl, rfl⟩ hdX10_rewind (gvX8_61 eTb_wd)⟩), List.forall_mem_cons.mpr ⟨trivial, List.forall_mem_cons.mpr ⟨(fun as w k h => let ⟨v, w2, h1, h2⟩ := ok_re_readLine as w k x h; ⟨v, w2, h1, eCal_of h2 ⟨rfl, rfl⟩ hdX8_readLine (gvX8_67 eTb_wd)⟩), fun _ h => absurd h List.not_mem_nil⟩⟩⟩⟩⟩⟩⟩⟩⟩
noncomputable def kk_re_readAll_31 (n : Nat) : eK (Int32 × eW) := fun pc L st w => bif Nat.beq pc 31 then (lR L 0 6 ((lI L 1).bind fun a1 => sE st (f_re_readAll_L31 n a1 w))) else none
set_option maxRecDepth 100000 in
set_option maxHeartbeats 4000000 in
theorem go_re_readAll_L31 (hcx : eCx p { frames := 5, cells := 0, slots := 0, locals := 113 } s m args meth c cX8_readAll RX8 2 ad D cA vwCl SHc SSc (eWd yX8_readAll cX8_readAll 2 (some .boolean)) (some .boolean)) {x : Int32 × eW} : ∀ (n : Nat) (a1 : Int32) (w : eW), f_re_readAll_L31  n a1 w = some x → eGq p l e { frames := 5, cells := 0, slots := 0, locals := 113 } s m args below meth c 2 ad D cA vwCl SHc rZ x 31 [some (.ref 6), some (.int a1)] [] w := by
  intro n
  induction n with
  | zero => intro a1 w h; exact nomatch (show (none : Option (Int32 × eW)) = some x from h)
  | succ n ih =>
    intro a1 w h
    have h : eRun SHc SSc 2 rs_re_readAll (eCs cs_re_readAll) rZ CX8_readAll [31] (kk_re_readAll_31  n) 15 true 31 [some (.ref 6), some (.int a1)] [] w = some x := h
    refine eRun_go hcx (eLnk_all lk_re_readAll) (eHc_all hc_re_readAll) rZ_ok dcX8_readAll [31] _ (fun pc L st w hK => ?_) 15 true 31 _ _ w h
    unfold kk_re_readAll_31 at hK
    rcases eCut hK with ⟨hpc, hK⟩ | hK
    · subst hpc
      obtain ⟨e0, hK_1⟩ := lR_some hK
      obtain ⟨a1, e1, hK_2⟩ := lI_some hK_1
      obtain ⟨hst9, hK_3⟩ := sE_some hK_2
      subst hst9
      exact eGo.wk (ih a1 w hK_3) (eLe_wk ⟨e0, e1, trivial⟩)
    cases hK
set_option maxRecDepth 100000 in
set_option maxHeartbeats 4000000 in
theorem go_re_readAll (hcx : eCx p { frames := 5, cells := 0, slots := 0, locals := 113 } s m args meth c cX8_readAll RX8 2 ad D cA vwCl SHc SSc (eWd yX8_readAll cX8_readAll 2 (some .boolean)) (some .boolean)) (w : eW) (x : Int32 × eW) (h : f_re_readAll w = some x) : eGq p l e { frames := 5, cells := 0, slots := 0, locals := 113 } s m args below meth c 2 ad D cA vwCl SHc rZ x 0 (eEnt [.ref 6]) [] w := by
  have h : eRun SHc SSc 2 rs_re_readAll (eCs cs_re_readAll) rZ CX8_readAll [31] (fun pc L st w => bif Nat.beq pc 31 then (lR L 0 6 ((lI L 1).bind fun a1 => sE st (f_re_readAll_L31 eFu a1 w))) else none) 20 true 0 [some (.ref 6), none] [] w = some x := h
  refine eGo.wk (eRun_go hcx (eLnk_all lk_re_readAll) (eHc_all hc_re_readAll) rZ_ok dcX8_readAll [31] _ (fun pc L st w hK => ?_) 20 true 0 _ _ w h) (eLe_wk ⟨rfl, trivial⟩)
  rcases eCut hK with ⟨hpc, hK⟩ | hK
  · subst hpc
    obtain ⟨e0, hK_1⟩ := lR_some hK
    obtain ⟨a1, e1, hK_2⟩ := lI_some hK_1
    obtain ⟨hst9, hK_3⟩ := sE_some hK_2
    subst hst9
    exact eGo.wk (go_re_readAll_L31 hcx  eFu a1 w hK_3) (eLe_wk ⟨e0, e1, trivial⟩)
  cases hK
end
set_option maxRecDepth 100000 in
set_option maxHeartbeats 4000000 in
theorem ok_re_readAll {l : Launch} {ad : Nat → Nat} {D : va_G} {cA : Nat → ClassId} {ρ : Type} (as : List Value) (w : eW) (k : Option Value → eW → Option ρ) (x : ρ) (h : K_re_readAll as w k = some x) : ∃ (v : Option Value) (w2 : eW), k v w2 = some x ∧ eMet l ad D cA vwCl SHc SSc yX8_readAll (eWd yX8_readAll cX8_readAll 2 (some .boolean)) { frames := 5, cells := 0, slots := 0, locals := 113 } as w v w2 := by
  unfold K_re_readAll at h
  split at h
  · rename_i r0
    obtain ⟨h1, h5⟩ := eBif h
    clear h
    have h := h5
    clear h5
    have h1 := Nat.eq_of_beq_eq_true h1
    subst h1
    obtain ⟨q, h2, h3⟩ := Option.bind_eq_some_iff.mp h
    exact ⟨_, _, h3, eMet_of (by decide +kernel) rfl (by simp [eCat, Value.category]) rZ_ret (fun p e s m args below meth c hcx => go_re_readAll hcx w q h2)⟩
  · cases h
def CX4_become : eCo := [[some (.aload_n 0), some (.aload_n 1), some (.getfield 15), none, none, some (.putfield 15), none, none, some (.aload_n 0), some (.aload_n 1), some (.getfield 19), none, none, some (.putfield 19), none, none],
  [some (.aload_n 0), some (.aload_n 1), some (.getfield 22), none, none, some (.putfield 22), none, none, some (.aload_n 1), some (.getfield 9), none, none, some (.iconst 0), some (.aload_n 0), some (.getfield 9), none],
  [none, some (.iconst 0), some (.aload_n 0), some (.getfield 9), none, none, some (.arraylength), some (.invokestatic 25), none, none, some (.return_)]]
theorem dcX4_become : eDec cX4_become CX4_become := eDec_of (by decide +kernel)
def rs_fi_become : List (Nat × eR) := [(9, (0, 4, 3, 2)), (15, (0, 4, 0, 0)), (19, (0, 4, 1, 0)), (22, (0, 4, 2, 0)), (25, (6, 3, 0, 0))]
noncomputable def cs_fi_become : List (eF (eW)) := []
noncomputable def f_fi_become (w : eW) : Option (eW) := (if ¬ (0 : Int32) < 0 ∧ ¬ (0 : Int32) < 0 ∧ ¬ (120 : Int32) < 0 ∧ (Int32.toNatClampNeg (0 : Int32)) + (Int32.toNatClampNeg (120 : Int32)) ≤ 120 ∧ (Int32.toNatClampNeg (0 : Int32)) + (Int32.toNatClampNeg (120 : Int32)) ≤ 120 then (some (eCp1 (eU1 (eU1 (eU1 w 8 0 (w.1 3 0)) 8 1 (w.1 3 1)) 8 2 (w.1 3 2)) 7 2 (Int32.toNatClampNeg (0 : Int32)) (Int32.toNatClampNeg (0 : Int32)) (Int32.toNatClampNeg (120 : Int32)))) else none)
noncomputable def K_fi_become {ρ : Type} : eF ρ := fun as w k => match as with
  | [.ref r0, .ref r1] => bif Nat.beq r0 8 then (bif Nat.beq r1 3 then (f_fi_become w).bind (fun w => k none w) else none) else none
  | _ => none
section
variable {p : Program} {l : Launch} {e : Env} {s : State} {m : MethodId} {args : Array Value} {below : List Frame} {meth : Method} {c : Code} {ad : Nat → Nat} {D : va_G} {cA : Nat → ClassId}
theorem lk_fi_become : ∀ q ∈ rs_fi_become, eLnk { frames := 1, cells := 0, slots := 0, locals := 60 } vwCl (eWd yX4_become cX4_become 2 none) SSc SHc.length RX4 q.1 q.2 := List.forall_mem_cons.mpr ⟨lkX4_9 eTb_wd, List.forall_mem_cons.mpr ⟨lkX4_15 eTb_wd, List.forall_mem_cons.mpr ⟨lkX4_19 eTb_wd, List.forall_mem_cons.mpr ⟨lkX4_22 eTb_wd, List.forall_mem_cons.mpr ⟨lkX4_25 ⟨by decide, by decide⟩ eTb_wd, fun _ h => absurd h List.not_mem_nil⟩⟩⟩⟩⟩
theorem hc_fi_become {x : eW} : ∀ q ∈ rs_fi_become, eHc l { frames := 1, cells := 0, slots := 0, locals := 60 } ad D cA vwCl SHc SSc (eWd yX4_become cX4_become 2 none) RX4 cs_fi_become x q := List.forall_mem_cons.mpr ⟨trivial, List.forall_mem_cons.mpr ⟨trivial, List.forall_mem_cons.mpr ⟨trivial, List.forall_mem_cons.mpr ⟨trivial, List.forall_mem_cons.mpr ⟨trivial, fun _ h => absurd h List.not_mem_nil⟩⟩⟩⟩⟩
set_option maxRecDepth 100000 in
set_option maxHeartbeats 4000000 in
theorem go_fi_become (hcx : eCx p { frames := 1, cells := 0, slots := 0, locals := 60 } s m args meth c cX4_become RX4 2 ad D cA vwCl SHc SSc (eWd yX4_become cX4_become 2 none) (none)) (w : eW) (x : eW) (h : f_fi_become w = some x) : eGq p l e { frames := 1, cells := 0, slots := 0, locals := 60 } s m args below meth c 2 ad D cA vwCl SHc rV x 0 (eEnt [.ref 8, .ref 3]) [] w := by
  have h : eRun SHc SSc 2 rs_fi_become (eCs cs_fi_become) rV CX4_become [] (fun pc L st w => none) 25 true 0 [some (.ref 8), some (.ref 3)] [] w = some x := h
  refine eGo.wk (eRun_go hcx (eLnk_all lk_fi_become) (eHc_all hc_fi_become) rV_ok dcX4_become [] _ (fun pc L st w hK => ?_) 25 true 0 _ _ w h) (eLe_wk ⟨rfl, rfl, trivial⟩)
  cases hK
end
set_option maxRecDepth 100000 in
set_option maxHeartbeats 4000000 in
theorem ok_fi_become {l : Launch} {ad : Nat → Nat} {D : va_G} {cA : Nat → ClassId} {ρ : Type} (as : List Value) (w : eW) (k : Option Value → eW → Option ρ) (x : ρ) (h : K_fi_become as w k = some x) : ∃ (v : Option Value) (w2 : eW), k v w2 = some x ∧ eMet l ad D cA vwCl SHc SSc yX4_become (eWd yX4_become cX4_become 2 none) { frames := 1, cells := 0, slots := 0, locals := 60 } as w v w2 := by
  unfold K_fi_become at h
  split at h
  · rename_i r0 r1
    obtain ⟨h1, h5⟩ := eBif h
    clear h
    have h := h5
    clear h5
    have h1 := Nat.eq_of_beq_eq_true h1
    subst h1
    obtain ⟨h1, h5⟩ := eBif h
    clear h
    have h := h5
    clear h5
    have h1 := Nat.eq_of_beq_eq_true h1
    subst h1
    obtain ⟨q, h2, h3⟩ := Option.bind_eq_some_iff.mp h
    exact ⟨_, _, h3, eMet_of (by decide +kernel) rfl (by simp [eCat, Value.category]) rV_ret (fun p e s m args below meth c hcx => go_fi_become hcx w q h2)⟩
  · cases h
