def rs_re_readItems_41 : List (Nat × eR) := [(29, (0, 7, 0, 2)), (71, (1, 0, 0, 7)), (88, (1, 2, 0, 9)), (112, (1, 5, 3, 7)), (116, (1, 4, 0, 7)), (119, (1, 3, 1, 7)), (122, (1, 1, 0, 7))]
noncomputable def cs_re_readItems_41 : List (eF (Int32 × eW)) := [K_re_keptWord, K_re_readSign, K_ta_scan, K_re_readWord, K_re_readName, K_re_readNumber]
noncomputable def f_re_readItems_41_J68 (k4 : Int32 → eW → Option (Int32 × eW)) (a2 : Int32) (a3 : Int32) (a4 : Int32) (w : eW) : Option (Int32 × eW) := (eChk a3 68 (if ¬ (List.getD zCLASS_LINE (Int32.toNatClampNeg a3) 0) = (2 : Int32) then (eChk a3 68 (if ¬ (List.getD zCLASS_LINE (Int32.toNatClampNeg a3) 0) = (5 : Int32) then (if a4 = 0 then ((f_re_readSign w).bind fun p2 => (if ¬ p2.1 = 0 then ((f_ta_scan p2.2).bind fun w3 => (k4 a2 w3)) else (some ((0 : Int32), p2.2)))) else (eChk (a3 + (1 : Int32)) 68 ((f_re_readWord (List.getD zCLASS_LINE (Int32.toNatClampNeg (a3 + (1 : Int32))) 0) w).bind fun p4 => (if ¬ p4.1 = 0 then ((f_ta_scan p4.2).bind fun w5 => (k4 a2 w5)) else (some ((0 : Int32), p4.2)))))) else ((f_re_readName w).bind fun p6 => (if ¬ p6.1 = 0 then ((f_ta_scan p6.2).bind fun w7 => (k4 a2 w7)) else (some ((0 : Int32), p6.2)))))) else (eChk (a3 + (1 : Int32)) 68 (eChk (a3 + (2 : Int32)) 68 (eChk (a3 + (3 : Int32)) 68 ((f_re_readNumber (List.getD zCLASS_LINE (Int32.toNatClampNeg (a3 + (1 : Int32))) 0) (List.getD zCLASS_LINE (Int32.toNatClampNeg (a3 + (2 : Int32))) 0) (List.getD zCLASS_LINE (Int32.toNatClampNeg (a3 + (3 : Int32))) 0) w).bind fun p8 => (if ¬ p8.1 = 0 then ((f_ta_scan p8.2).bind fun w9 => (k4 a2 w9)) else (some ((0 : Int32), p8.2)))))))))
noncomputable def f_re_readItems_41_J28 (k4 : Int32 → eW → Option (Int32 × eW)) (a2 : Int32) (a3 : Int32) (s0 : Int32) (w : eW) : Option (Int32 × eW) := (if s0 = 0 then (f_re_readItems_41_J68 k4 a2 a3 s0 w) else (eChk (a3 + (2 : Int32)) 68 (if (List.getD zCLASS_LINE (Int32.toNatClampNeg (a3 + (2 : Int32))) 0) ≤ 0 then (f_re_readItems_41_J68 k4 a2 a3 s0 w) else ((f_re_keptWord w).bind fun p1 => (eChk (a3 + (1 : Int32)) 68 (if p1.1 = (List.getD zCLASS_LINE (Int32.toNatClampNeg (a3 + (1 : Int32))) 0) then (f_re_readItems_41_J68 k4 a2 a3 s0 p1.2) else (eChk (a3 + (2 : Int32)) 68 (k4 (a2 + ((List.getD zCLASS_LINE (Int32.toNatClampNeg (a3 + (2 : Int32))) 0) * (4 : Int32))) p1.2))))))))
noncomputable def f_re_readItems_41_L4 : Nat → Int32 → eW → Option (Int32 × eW)
  | 0, _, _ => none
  | n + 1, a3, w => (if (68 : Int32) < (a3 + (4 : Int32)) then (some ((1 : Int32), w)) else (eChk a3 68 (if ¬ (List.getD zCLASS_LINE (Int32.toNatClampNeg a3) 0) = (1 : Int32) then (f_re_readItems_41_J28 (f_re_readItems_41_L4 n) (a3 + (4 : Int32)) a3 (0 : Int32) w) else (f_re_readItems_41_J28 (f_re_readItems_41_L4 n) (a3 + (4 : Int32)) a3 (1 : Int32) w))))
noncomputable def f_re_readItems_41 (w : eW) : Option (Int32 × eW) := (f_re_readItems_41_L4 eFu (0 : Int32) w)
noncomputable def K_re_readItems_41 {ρ : Type} : eF ρ := fun as w k => match as with
  | [.ref r0, .ref r1] => bif Nat.beq r0 6 then (bif Nat.beq r1 41 then (f_re_readItems_41 w).bind (fun p => k (some (.int p.1)) p.2) else none) else none
  | _ => none
section
variable {p : Program} {l : Launch} {e : Env} {s : State} {m : MethodId} {args : Array Value} {below : List Frame} {meth : Method} {c : Code} {ad : Nat → Nat} {D : va_G} {cA : Nat → ClassId}
theorem lk_re_readItems_41 : ∀ q ∈ rs_re_readItems_41, eLnk { frames := 3, cells := 0, slots := 0, locals := 67 } vwCl (eWd yX8_readItems cX8_readItems 6 (some .boolean)) SSc SHc.length RX8 q.1 q.2 := List.forall_mem_cons.mpr ⟨lkX8_29 eTb_wd, List.forall_mem_cons.mpr ⟨trivial, List.forall_mem_cons.mpr ⟨trivial, List.forall_mem_cons.mpr ⟨trivial, List.forall_mem_cons.mpr ⟨trivial, List.forall_mem_cons.mpr ⟨trivial, List.forall_mem_cons.mpr ⟨trivial, fun _ h => absurd h List.not_mem_nil⟩⟩⟩⟩⟩⟩⟩
theorem hc_re_readItems_41 {x : Int32 × eW} : ∀ q ∈ rs_re_readItems_41, eHc l { frames := 3, cells := 0, slots := 0, locals := 67 } ad D cA vwCl SHc SSc (eWd yX8_readItems cX8_readItems 6 (some .boolean)) RX8 cs_re_readItems_41 x q := List.forall_mem_cons.mpr ⟨trivial, List.forall_mem_cons.mpr ⟨(fun as w k h => let ⟨v, w2, h1, h2⟩ := ok_re_keptWord as w k x h; ⟨v, w2, h1, eCal_of h2 ⟨rfl, rfl⟩ hdX8_keptWord (gvX8_71 eTb_wd)⟩), List.forall_mem_cons.mpr ⟨(fun as w k h => let ⟨v, w2, h1, h2⟩ := ok_ta_scan as w k x h; ⟨v, w2, h1, eCal_of h2 ⟨rfl, rfl⟩ hdX10_scan (gvX8_88 eTb_wd)⟩), List.forall_mem_cons.mpr ⟨(fun as w k h => let ⟨v, w2, h1, h2⟩ := ok_re_readNumber as w k x h; ⟨v, w2, h1, eCal_of h2 ⟨rfl, rfl⟩ hdX8_readNumber (gvX8_112 eTb_wd)⟩), List.forall_mem_cons.mpr ⟨(fun as w k h => let ⟨v, w2, h1, h2⟩ := ok_re_readName as w k x h; ⟨v, w2, h1, eCal_of h2 ⟨rfl, rfl⟩ hdX8_readName (gvX8_116 eTb_wd)⟩), List.forall_mem_cons.mpr ⟨(fun as w k h => let ⟨v, w2, h1, h2⟩ := ok_re_readWord as w k x h; ⟨v, w2, h1, eCal_of h2 ⟨rfl, rfl⟩ hdX8_readWord (gvX8_119 eTb_wd)⟩), List.forall_mem_cons.mpr ⟨(fun as w k h => let ⟨v, w2, h1, h2⟩ := ok_re_readSign as w k x h; ⟨v, w2, h1, eCal_of h2 ⟨rfl, rfl⟩ hdX8_readSign (gvX8_122 eTb_wd)⟩), fun _ h => absurd h List.not_mem_nil⟩⟩⟩⟩⟩⟩⟩
noncomputable def kk_re_readItems_41_68 (k4 : Int32 → eW → Option (Int32 × eW)) : eK (Int32 × eW) := fun pc L st w => bif Nat.beq pc 4 then (lR L 0 6 (lR L 1 41 ((lI L 3).bind fun a3 => sE st (k4 a3 w)))) else none
set_option maxRecDepth 100000 in
set_option maxHeartbeats 4000000 in
theorem go_re_readItems_41_J68 (hcx : eCx p { frames := 3, cells := 0, slots := 0, locals := 67 } s m args meth c cX8_readItems RX8 6 ad D cA vwCl SHc SSc (eWd yX8_readItems cX8_readItems 6 (some .boolean)) (some .boolean)) {x : Int32 × eW} (k4 : Int32 → eW → Option (Int32 × eW)) (hk4 : ∀ (a3 : Int32) (w : eW), k4 a3 w = some x → eGq p l e { frames := 3, cells := 0, slots := 0, locals := 67 } s m args below meth c 6 ad D cA vwCl SHc rZ x 4 [some (.ref 6), some (.ref 41), none, some (.int a3), none, none] [] w) : ∀ (a2 : Int32) (a3 : Int32) (a4 : Int32) (w : eW), f_re_readItems_41_J68 k4 a2 a3 a4 w = some x → eGq p l e { frames := 3, cells := 0, slots := 0, locals := 67 } s m args below meth c 6 ad D cA vwCl SHc rZ x 68 [some (.ref 6), some (.ref 41), some (.int a2), some (.int a3), some (.int a4), none] [] w := by
  intro a2 a3 a4 w h
  have h : eRun SHc SSc 6 rs_re_readItems_41 (eCs cs_re_readItems_41) rZ CX8_readItems [4, 28, 68] (kk_re_readItems_41_68 k4) 35 true 68 [some (.ref 6), some (.ref 41), some (.int a2), some (.int a3), some (.int a4), none] [] w = some x := h
  refine eRun_go hcx (eLnk_all lk_re_readItems_41) (eHc_all hc_re_readItems_41) rZ_ok dcX8_readItems [4, 28, 68] _ (fun pc L st w hK => ?_) 35 true 68 _ _ w h
  unfold kk_re_readItems_41_68 at hK
  rcases eCut hK with ⟨hpc, hK⟩ | hK
  · subst hpc
    obtain ⟨e0, hK_1⟩ := lR_some hK
    obtain ⟨e1, hK_2⟩ := lR_some hK_1
    obtain ⟨a3, e3, hK_3⟩ := lI_some hK_2
    obtain ⟨hst9, hK_4⟩ := sE_some hK_3
    subst hst9
    exact eGo.wk (hk4 a3 w hK_4) (eLe_wk ⟨e0, e1, e3, trivial⟩)
  cases hK
noncomputable def kk_re_readItems_41_28 (k4 : Int32 → eW → Option (Int32 × eW)) : eK (Int32 × eW) := fun pc L st w => bif Nat.beq pc 68 then (lR L 0 6 (lR L 1 41 ((lI L 2).bind fun a2 => (lI L 3).bind fun a3 => (lI L 4).bind fun a4 => sE st (f_re_readItems_41_J68 k4 a2 a3 a4 w)))) else (bif Nat.beq pc 4 then (lR L 0 6 (lR L 1 41 ((lI L 3).bind fun a3 => sE st (k4 a3 w)))) else none)
set_option maxRecDepth 100000 in
set_option maxHeartbeats 4000000 in
theorem go_re_readItems_41_J28 (hcx : eCx p { frames := 3, cells := 0, slots := 0, locals := 67 } s m args meth c cX8_readItems RX8 6 ad D cA vwCl SHc SSc (eWd yX8_readItems cX8_readItems 6 (some .boolean)) (some .boolean)) {x : Int32 × eW} (k4 : Int32 → eW → Option (Int32 × eW)) (hk4 : ∀ (a3 : Int32) (w : eW), k4 a3 w = some x → eGq p l e { frames := 3, cells := 0, slots := 0, locals := 67 } s m args below meth c 6 ad D cA vwCl SHc rZ x 4 [some (.ref 6), some (.ref 41), none, some (.int a3), none, none] [] w) : ∀ (a2 : Int32) (a3 : Int32) (s0 : Int32) (w : eW), f_re_readItems_41_J28 k4 a2 a3 s0 w = some x → eGq p l e { frames := 3, cells := 0, slots := 0, locals := 67 } s m args below meth c 6 ad D cA vwCl SHc rZ x 28 [some (.ref 6), some (.ref 41), some (.int a2), some (.int a3), none, none] [.int s0] w := by
  intro a2 a3 s0 w h
  have h : eRun SHc SSc 6 rs_re_readItems_41 (eCs cs_re_readItems_41) rZ CX8_readItems [4, 28, 68] (kk_re_readItems_41_28 k4) 34 true 28 [some (.ref 6), some (.ref 41), some (.int a2), some (.int a3), none, none] [.int s0] w = some x := h
  refine eRun_go hcx (eLnk_all lk_re_readItems_41) (eHc_all hc_re_readItems_41) rZ_ok dcX8_readItems [4, 28, 68] _ (fun pc L st w hK => ?_) 34 true 28 _ _ w h
  unfold kk_re_readItems_41_28 at hK
  rcases eCut hK with ⟨hpc, hK⟩ | hK
  · subst hpc
    obtain ⟨e0, hK_1⟩ := lR_some hK
    obtain ⟨e1, hK_2⟩ := lR_some hK_1
    obtain ⟨a2, e2, hK_3⟩ := lI_some hK_2
    obtain ⟨a3, e3, hK_4⟩ := lI_some hK_3
    obtain ⟨a4, e4, hK_5⟩ := lI_some hK_4
    obtain ⟨hst9, hK_6⟩ := sE_some hK_5
    subst hst9
    exact eGo.wk (go_re_readItems_41_J68 hcx k4 hk4 a2 a3 a4 w hK_6) (eLe_wk ⟨e0, e1, e2, e3, e4, trivial⟩)
  rcases eCut hK with ⟨hpc, hK⟩ | hK
  · subst hpc
    obtain ⟨e0, hK_1⟩ := lR_some hK
    obtain ⟨e1, hK_2⟩ := lR_some hK_1
    obtain ⟨a3, e3, hK_3⟩ := lI_some hK_2
    obtain ⟨hst9, hK_4⟩ := sE_some hK_3
    subst hst9
    exact eGo.wk (hk4 a3 w hK_4) (eLe_wk ⟨e0, e1, e3, trivial⟩)
  cases hK
noncomputable def kk_re_readItems_41_4 (n : Nat) : eK (Int32 × eW) := fun pc L st w => bif Nat.beq pc 28 then (lR L 0 6 (lR L 1 41 ((lI L 2).bind fun a2 => (lI L 3).bind fun a3 => sI st (fun s0 st1 => sE st1 (f_re_readItems_41_J28 (f_re_readItems_41_L4 n) a2 a3 s0 w))))) else none
set_option maxRecDepth 100000 in
set_option maxHeartbeats 4000000 in
theorem go_re_readItems_41_L4 (hcx : eCx p { frames := 3, cells := 0, slots := 0, locals := 67 } s m args meth c cX8_readItems RX8 6 ad D cA vwCl SHc SSc (eWd yX8_readItems cX8_readItems 6 (some .boolean)) (some .boolean)) {x : Int32 × eW} : ∀ (n : Nat) (a3 : Int32) (w : eW), f_re_readItems_41_L4  n a3 w = some x → eGq p l e { frames := 3, cells := 0, slots := 0, locals := 67 } s m args below meth c 6 ad D cA vwCl SHc rZ x 4 [some (.ref 6), some (.ref 41), none, some (.int a3), none, none] [] w := by
  intro n
  induction n with
  | zero => intro a3 w h; exact nomatch (show (none : Option (Int32 × eW)) = some x from h)
  | succ n ih =>
    intro a3 w h
    have h : eRun SHc SSc 6 rs_re_readItems_41 (eCs cs_re_readItems_41) rZ CX8_readItems [4, 28, 68] (kk_re_readItems_41_4  n) 20 true 4 [some (.ref 6), some (.ref 41), none, some (.int a3), none, none] [] w = some x := h
    refine eRun_go hcx (eLnk_all lk_re_readItems_41) (eHc_all hc_re_readItems_41) rZ_ok dcX8_readItems [4, 28, 68] _ (fun pc L st w hK => ?_) 20 true 4 _ _ w h
    unfold kk_re_readItems_41_4 at hK
    rcases eCut hK with ⟨hpc, hK⟩ | hK
    · subst hpc
      obtain ⟨e0, hK_1⟩ := lR_some hK
      obtain ⟨e1, hK_2⟩ := lR_some hK_1
      obtain ⟨a2, e2, hK_3⟩ := lI_some hK_2
      obtain ⟨a3, e3, hK_4⟩ := lI_some hK_3
      obtain ⟨s0, st1, hst0, hK_5⟩ := sI_some hK_4
      subst hst0
      obtain ⟨hst9, hK_6⟩ := sE_some hK_5
      subst hst9
      exact eGo.wk (go_re_readItems_41_J28 hcx (f_re_readItems_41_L4 n) ih a2 a3 s0 w hK_6) (eLe_wk ⟨e0, e1, e2, e3, trivial⟩)
    cases hK
set_option maxRecDepth 100000 in
set_option maxHeartbeats 4000000 in
theorem go_re_readItems_41 (hcx : eCx p { frames := 3, cells := 0, slots := 0, locals := 67 } s m args meth c cX8_readItems RX8 6 ad D cA vwCl SHc SSc (eWd yX8_readItems cX8_readItems 6 (some .boolean)) (some .boolean)) (w : eW) (x : Int32 × eW) (h : f_re_readItems_41 w = some x) : eGq p l e { frames := 3, cells := 0, slots := 0, locals := 67 } s m args below meth c 6 ad D cA vwCl SHc rZ x 0 (eEnt [.ref 6, .ref 41]) [] w := by
  have h : eRun SHc SSc 6 rs_re_readItems_41 (eCs cs_re_readItems_41) rZ CX8_readItems [4, 28, 68] (fun pc L st w => bif Nat.beq pc 4 then (lR L 0 6 (lR L 1 41 ((lI L 3).bind fun a3 => sE st (f_re_readItems_41_L4 eFu a3 w)))) else none) 7 true 0 [some (.ref 6), some (.ref 41), none, none, none, none] [] w = some x := h
  refine eGo.wk (eRun_go hcx (eLnk_all lk_re_readItems_41) (eHc_all hc_re_readItems_41) rZ_ok dcX8_readItems [4, 28, 68] _ (fun pc L st w hK => ?_) 7 true 0 _ _ w h) (eLe_wk ⟨rfl, rfl, trivial⟩)
  rcases eCut hK with ⟨hpc, hK⟩ | hK
  · subst hpc
    obtain ⟨e0, hK_1⟩ := lR_some hK
    obtain ⟨e1, hK_2⟩ := lR_some hK_1
    obtain ⟨a3, e3, hK_3⟩ := lI_some hK_2
    obtain ⟨hst9, hK_4⟩ := sE_some hK_3
    subst hst9
    exact eGo.wk (go_re_readItems_41_L4 hcx  eFu a3 w hK_4) (eLe_wk ⟨e0, e1, e3, trivial⟩)
  cases hK
end
set_option maxRecDepth 100000 in
set_option maxHeartbeats 4000000 in
theorem ok_re_readItems_41 {l : Launch} {ad : Nat → Nat} {D : va_G} {cA : Nat → ClassId} {ρ : Type} (as : List Value) (w : eW) (k : Option Value → eW → Option ρ) (x : ρ) (h : K_re_readItems_41 as w k = some x) : ∃ (v : Option Value) (w2 : eW), k v w2 = some x ∧ eMet l ad D cA vwCl SHc SSc yX8_readItems (eWd yX8_readItems cX8_readItems 6 (some .boolean)) { frames := 3, cells := 0, slots := 0, locals := 67 } as w v w2 := by
  unfold K_re_readItems_41 at h
  split at h
  · rename_i r0 r1
    obtain ⟨h1, h5⟩ := eBif h
    clear h
    have h := h5
    clear h5
    have h1 := Nat.eq_of_beq_eq_true h1
    subst h1
    obtain ⟨h1, h5⟩ := eBif h
    clear h
    have h := h5
    clear h5
    have h1 := Nat.eq_of_beq_eq_true h1
    subst h1
    obtain ⟨q, h2, h3⟩ := Option.bind_eq_some_iff.mp h
    exact ⟨_, _, h3, eMet_of (by decide +kernel) rfl (by simp [eCat, Value.category]) rZ_ret (fun p e s m args below meth c hcx => go_re_readItems_41 hcx w q h2)⟩
  · cases h
def rs_re_readItems_42 : List (Nat × eR) := [(29, (0, 7, 0, 2)), (71, (1, 0, 0, 7)), (88, (1, 2, 0, 9)), (112, (1, 5, 3, 7)), (116, (1, 4, 0, 7)), (119, (1, 3, 1, 7)), (122, (1, 1, 0, 7))]
noncomputable def cs_re_readItems_42 : List (eF (Int32 × eW)) := [K_re_keptWord, K_re_readSign, K_ta_scan, K_re_readWord, K_re_readName, K_re_readNumber]
noncomputable def f_re_readItems_42_J68 (k4 : Int32 → eW → Option (Int32 × eW)) (a2 : Int32) (a3 : Int32) (a4 : Int32) (w : eW) : Option (Int32 × eW) := (eChk a3 8 (if ¬ (List.getD zCARVE_LINE (Int32.toNatClampNeg a3) 0) = (2 : Int32) then (eChk a3 8 (if ¬ (List.getD zCARVE_LINE (Int32.toNatClampNeg a3) 0) = (5 : Int32) then (if a4 = 0 then ((f_re_readSign w).bind fun p2 => (if ¬ p2.1 = 0 then ((f_ta_scan p2.2).bind fun w3 => (k4 a2 w3)) else (some ((0 : Int32), p2.2)))) else (eChk (a3 + (1 : Int32)) 8 ((f_re_readWord (List.getD zCARVE_LINE (Int32.toNatClampNeg (a3 + (1 : Int32))) 0) w).bind fun p4 => (if ¬ p4.1 = 0 then ((f_ta_scan p4.2).bind fun w5 => (k4 a2 w5)) else (some ((0 : Int32), p4.2)))))) else ((f_re_readName w).bind fun p6 => (if ¬ p6.1 = 0 then ((f_ta_scan p6.2).bind fun w7 => (k4 a2 w7)) else (some ((0 : Int32), p6.2)))))) else (eChk (a3 + (1 : Int32)) 8 (eChk (a3 + (2 : Int32)) 8 (eChk (a3 + (3 : Int32)) 8 ((f_re_readNumber (List.getD zCARVE_LINE (Int32.toNatClampNeg (a3 + (1 : Int32))) 0) (List.getD zCARVE_LINE (Int32.toNatClampNeg (a3 + (2 : Int32))) 0) (List.getD zCARVE_LINE (Int32.toNatClampNeg (a3 + (3 : Int32))) 0) w).bind fun p8 => (if ¬ p8.1 = 0 then ((f_ta_scan p8.2).bind fun w9 => (k4 a2 w9)) else (some ((0 : Int32), p8.2)))))))))
noncomputable def f_re_readItems_42_J28 (k4 : Int32 → eW → Option (Int32 × eW)) (a2 : Int32) (a3 : Int32) (s0 : Int32) (w : eW) : Option (Int32 × eW) := (if s0 = 0 then (f_re_readItems_42_J68 k4 a2 a3 s0 w) else (eChk (a3 + (2 : Int32)) 8 (if (List.getD zCARVE_LINE (Int32.toNatClampNeg (a3 + (2 : Int32))) 0) ≤ 0 then (f_re_readItems_42_J68 k4 a2 a3 s0 w) else ((f_re_keptWord w).bind fun p1 => (eChk (a3 + (1 : Int32)) 8 (if p1.1 = (List.getD zCARVE_LINE (Int32.toNatClampNeg (a3 + (1 : Int32))) 0) then (f_re_readItems_42_J68 k4 a2 a3 s0 p1.2) else (eChk (a3 + (2 : Int32)) 8 (k4 (a2 + ((List.getD zCARVE_LINE (Int32.toNatClampNeg (a3 + (2 : Int32))) 0) * (4 : Int32))) p1.2))))))))
noncomputable def f_re_readItems_42_L4 : Nat → Int32 → eW → Option (Int32 × eW)
  | 0, _, _ => none
  | n + 1, a3, w => (if (8 : Int32) < (a3 + (4 : Int32)) then (some ((1 : Int32), w)) else (eChk a3 8 (if ¬ (List.getD zCARVE_LINE (Int32.toNatClampNeg a3) 0) = (1 : Int32) then (f_re_readItems_42_J28 (f_re_readItems_42_L4 n) (a3 + (4 : Int32)) a3 (0 : Int32) w) else (f_re_readItems_42_J28 (f_re_readItems_42_L4 n) (a3 + (4 : Int32)) a3 (1 : Int32) w))))
noncomputable def f_re_readItems_42 (w : eW) : Option (Int32 × eW) := (f_re_readItems_42_L4 eFu (0 : Int32) w)
noncomputable def K_re_readItems_42 {ρ : Type} : eF ρ := fun as w k => match as with
  | [.ref r0, .ref r1] => bif Nat.beq r0 6 then (bif Nat.beq r1 42 then (f_re_readItems_42 w).bind (fun p => k (some (.int p.1)) p.2) else none) else none
  | _ => none
section
variable {p : Program} {l : Launch} {e : Env} {s : State} {m : MethodId} {args : Array Value} {below : List Frame} {meth : Method} {c : Code} {ad : Nat → Nat} {D : va_G} {cA : Nat → ClassId}
theorem lk_re_readItems_42 : ∀ q ∈ rs_re_readItems_42, eLnk { frames := 3, cells := 0, slots := 0, locals := 67 } vwCl (eWd yX8_readItems cX8_readItems 6 (some .boolean)) SSc SHc.length RX8 q.1 q.2 := List.forall_mem_cons.mpr ⟨lkX8_29 eTb_wd, List.forall_mem_cons.mpr ⟨trivial, List.forall_mem_cons.mpr ⟨trivial, List.forall_mem_cons.mpr ⟨trivial, List.forall_mem_cons.mpr ⟨trivial, List.forall_mem_cons.mpr ⟨trivial, List.forall_mem_cons.mpr ⟨trivial, fun _ h => absurd h List.not_mem_nil⟩⟩⟩⟩⟩⟩⟩
theorem hc_re_readItems_42 {x : Int32 × eW} : ∀ q ∈ rs_re_readItems_42, eHc l { frames := 3, cells := 0, slots := 0, locals := 67 } ad D cA vwCl SHc SSc (eWd yX8_readItems cX8_readItems 6 (some .boolean)) RX8 cs_re_readItems_42 x q := List.forall_mem_cons.mpr ⟨trivial, List.forall_mem_cons.mpr ⟨(fun as w k h => let ⟨v, w2, h1, h2⟩ := ok_re_keptWord as w k x h; ⟨v, w2, h1, eCal_of h2 ⟨rfl, rfl⟩ hdX8_keptWord (gvX8_71 eTb_wd)⟩), List.forall_mem_cons.mpr ⟨(fun as w k h => let ⟨v, w2, h1, h2⟩ := ok_ta_scan as w k x h; ⟨v, w2, h1, eCal_of h2 ⟨rfl, rfl⟩ hdX10_scan (gvX8_88 eTb_wd)⟩), List.forall_mem_cons.mpr ⟨(fun as w k h => let ⟨v, w2, h1, h2⟩ := ok_re_readNumber as w k x h; ⟨v, w2, h1, eCal_of h2 ⟨rfl, rfl⟩ hdX8_readNumber (gvX8_112 eTb_wd)⟩), List.forall_mem_cons.mpr ⟨(fun as w k h => let ⟨v, w2, h1, h2⟩ := ok_re_readName as w k x h; ⟨v, w2, h1, eCal_of h2 ⟨rfl, rfl⟩ hdX8_readName (gvX8_116 eTb_wd)⟩), List.forall_mem_cons.mpr ⟨(fun as w k h => let ⟨v, w2, h1, h2⟩ := ok_re_readWord as w k x h; ⟨v, w2, h1, eCal_of h2 ⟨rfl, rfl⟩ hdX8_readWord (gvX8_119 eTb_wd)⟩), List.forall_mem_cons.mpr ⟨(fun as w k h => let ⟨v, w2, h1, h2⟩ := ok_re_readSign as w k x h; ⟨v, w2, h1, eCal_of h2 ⟨rfl, rfl⟩ hdX8_readSign (gvX8_122 eTb_wd)⟩), fun _ h => absurd h List.not_mem_nil⟩⟩⟩⟩⟩⟩⟩
noncomputable def kk_re_readItems_42_68 (k4 : Int32 → eW → Option (Int32 × eW)) : eK (Int32 × eW) := fun pc L st w => bif Nat.beq pc 4 then (lR L 0 6 (lR L 1 42 ((lI L 3).bind fun a3 => sE st (k4 a3 w)))) else none
set_option maxRecDepth 100000 in
set_option maxHeartbeats 4000000 in
theorem go_re_readItems_42_J68 (hcx : eCx p { frames := 3, cells := 0, slots := 0, locals := 67 } s m args meth c cX8_readItems RX8 6 ad D cA vwCl SHc SSc (eWd yX8_readItems cX8_readItems 6 (some .boolean)) (some .boolean)) {x : Int32 × eW} (k4 : Int32 → eW → Option (Int32 × eW)) (hk4 : ∀ (a3 : Int32) (w : eW), k4 a3 w = some x → eGq p l e { frames := 3, cells := 0, slots := 0, locals := 67 } s m args below meth c 6 ad D cA vwCl SHc rZ x 4 [some (.ref 6), some (.ref 42), none, some (.int a3), none, none] [] w) : ∀ (a2 : Int32) (a3 : Int32) (a4 : Int32) (w : eW), f_re_readItems_42_J68 k4 a2 a3 a4 w = some x → eGq p l e { frames := 3, cells := 0, slots := 0, locals := 67 } s m args below meth c 6 ad D cA vwCl SHc rZ x 68 [some (.ref 6), some (.ref 42), some (.int a2), some (.int a3), some (.int a4), none] [] w := by
  intro a2 a3 a4 w h
  have h : eRun SHc SSc 6 rs_re_readItems_42 (eCs cs_re_readItems_42) rZ CX8_readItems [4, 28, 68] (kk_re_readItems_42_68 k4) 35 true 68 [some (.ref 6), some (.ref 42), some (.int a2), some (.int a3), some (.int a4), none] [] w = some x := h
  refine eRun_go hcx (eLnk_all lk_re_readItems_42) (eHc_all hc_re_readItems_42) rZ_ok dcX8_readItems [4, 28, 68] _ (fun pc L st w hK => ?_) 35 true 68 _ _ w h
  unfold kk_re_readItems_42_68 at hK
  rcases eCut hK with ⟨hpc, hK⟩ | hK
  · subst hpc
    obtain ⟨e0, hK_1⟩ := lR_some hK
    obtain ⟨e1, hK_2⟩ := lR_some hK_1
    obtain ⟨a3, e3, hK_3⟩ := lI_some hK_2
    obtain ⟨hst9, hK_4⟩ := sE_some hK_3
    subst hst9
    exact eGo.wk (hk4 a3 w hK_4) (eLe_wk ⟨e0, e1, e3, trivial⟩)
  cases hK
noncomputable def kk_re_readItems_42_28 (k4 : Int32 → eW → Option (Int32 × eW)) : eK (Int32 × eW) := fun pc L st w => bif Nat.beq pc 68 then (lR L 0 6 (lR L 1 42 ((lI L 2).bind fun a2 => (lI L 3).bind fun a3 => (lI L 4).bind fun a4 => sE st (f_re_readItems_42_J68 k4 a2 a3 a4 w)))) else (bif Nat.beq pc 4 then (lR L 0 6 (lR L 1 42 ((lI L 3).bind fun a3 => sE st (k4 a3 w)))) else none)
set_option maxRecDepth 100000 in
set_option maxHeartbeats 4000000 in
theorem go_re_readItems_42_J28 (hcx : eCx p { frames := 3, cells := 0, slots := 0, locals := 67 } s m args meth c cX8_readItems RX8 6 ad D cA vwCl SHc SSc (eWd yX8_readItems cX8_readItems 6 (some .boolean)) (some .boolean)) {x : Int32 × eW} (k4 : Int32 → eW → Option (Int32 × eW)) (hk4 : ∀ (a3 : Int32) (w : eW), k4 a3 w = some x → eGq p l e { frames := 3, cells := 0, slots := 0, locals := 67 } s m args below meth c 6 ad D cA vwCl SHc rZ x 4 [some (.ref 6), some (.ref 42), none, some (.int a3), none, none] [] w) : ∀ (a2 : Int32) (a3 : Int32) (s0 : Int32) (w : eW), f_re_readItems_42_J28 k4 a2 a3 s0 w = some x → eGq p l e { frames := 3, cells := 0, slots := 0, locals := 67 } s m args below meth c 6 ad D cA vwCl SHc rZ x 28 [some (.ref 6), some (.ref 42), some (.int a2), some (.int a3), none, none] [.int s0] w := by
  intro a2 a3 s0 w h
  have h : eRun SHc SSc 6 rs_re_readItems_42 (eCs cs_re_readItems_42) rZ CX8_readItems [4, 28, 68] (kk_re_readItems_42_28 k4) 34 true 28 [some (.ref 6), some (.ref 42), some (.int a2), some (.int a3), none, none] [.int s0] w = some x := h
  refine eRun_go hcx (eLnk_all lk_re_readItems_42) (eHc_all hc_re_readItems_42) rZ_ok dcX8_readItems [4, 28, 68] _ (fun pc L st w hK => ?_) 34 true 28 _ _ w h
  unfold kk_re_readItems_42_28 at hK
  rcases eCut hK with ⟨hpc, hK⟩ | hK
  · subst hpc
    obtain ⟨e0, hK_1⟩ := lR_some hK
    obtain ⟨e1, hK_2⟩ := lR_some hK_1
    obtain ⟨a2, e2, hK_3⟩ := lI_some hK_2
    obtain ⟨a3, e3, hK_4⟩ := lI_some hK_3
    obtain ⟨a4, e4, hK_5⟩ := lI_some hK_4
    obtain ⟨hst9, hK_6⟩ := sE_some hK_5
    subst hst9
    exact eGo.wk (go_re_readItems_42_J68 hcx k4 hk4 a2 a3 a4 w hK_6) (eLe_wk ⟨e0, e1, e2, e3, e4, trivial⟩)
  rcases eCut hK with ⟨hpc, hK⟩ | hK
  · subst hpc
    obtain ⟨e0, hK_1⟩ := lR_some hK
    obtain ⟨e1, hK_2⟩ := lR_some hK_1
    obtain ⟨a3, e3, hK_3⟩ := lI_some hK_2
    obtain ⟨hst9, hK_4⟩ := sE_some hK_3
    subst hst9
    exact eGo.wk (hk4 a3 w hK_4) (eLe_wk ⟨e0, e1, e3, trivial⟩)
  cases hK
noncomputable def kk_re_readItems_42_4 (n : Nat) : eK (Int32 × eW) := fun pc L st w => bif Nat.beq pc 28 then (lR L 0 6 (lR L 1 42 ((lI L 2).bind fun a2 => (lI L 3).bind fun a3 => sI st (fun s0 st1 => sE st1 (f_re_readItems_42_J28 (f_re_readItems_42_L4 n) a2 a3 s0 w))))) else none
set_option maxRecDepth 100000 in
set_option maxHeartbeats 4000000 in
theorem go_re_readItems_42_L4 (hcx : eCx p { frames := 3, cells := 0, slots := 0, locals := 67 } s m args meth c cX8_readItems RX8 6 ad D cA vwCl SHc SSc (eWd yX8_readItems cX8_readItems 6 (some .boolean)) (some .boolean)) {x : Int32 × eW} : ∀ (n : Nat) (a3 : Int32) (w : eW), f_re_readItems_42_L4  n a3 w = some x → eGq p l e { frames := 3, cells := 0, slots := 0, locals := 67 } s m args below meth c 6 ad D cA vwCl SHc rZ x 4 [some (.ref 6), some (.ref 42), none, some (.int a3), none, none] [] w := by
  intro n
  induction n with
  | zero => intro a3 w h; exact nomatch (show (none : Option (Int32 × eW)) = some x from h)
  | succ n ih =>
    intro a3 w h
    have h : eRun SHc SSc 6 rs_re_readItems_42 (eCs cs_re_readItems_42) rZ CX8_readItems [4, 28, 68] (kk_re_readItems_42_4  n) 20 true 4 [some (.ref 6), some (.ref 42), none, some (.int a3), none, none] [] w = some x := h
    refine eRun_go hcx (eLnk_all lk_re_readItems_42) (eHc_all hc_re_readItems_42) rZ_ok dcX8_readItems [4, 28, 68] _ (fun pc L st w hK => ?_) 20 true 4 _ _ w h
    unfold kk_re_readItems_42_4 at hK
    rcases eCut hK with ⟨hpc, hK⟩ | hK
    · subst hpc
      obtain ⟨e0, hK_1⟩ := lR_some hK
      obtain ⟨e1, hK_2⟩ := lR_some hK_1
      obtain ⟨a2, e2, hK_3⟩ := lI_some hK_2
      obtain ⟨a3, e3, hK_4⟩ := lI_some hK_3
      obtain ⟨s0, st1, hst0, hK_5⟩ := sI_some hK_4
      subst hst0
      obtain ⟨hst9, hK_6⟩ := sE_some hK_5
      subst hst9
      exact eGo.wk (go_re_readItems_42_J28 hcx (f_re_readItems_42_L4 n) ih a2 a3 s0 w hK_6) (eLe_wk ⟨e0, e1, e2, e3, trivial⟩)
    cases hK
set_option maxRecDepth 100000 in
set_option maxHeartbeats 4000000 in
theorem go_re_readItems_42 (hcx : eCx p { frames := 3, cells := 0, slots := 0, locals := 67 } s m args meth c cX8_readItems RX8 6 ad D cA vwCl SHc SSc (eWd yX8_readItems cX8_readItems 6 (some .boolean)) (some .boolean)) (w : eW) (x : Int32 × eW) (h : f_re_readItems_42 w = some x) : eGq p l e { frames := 3, cells := 0, slots := 0, locals := 67 } s m args below meth c 6 ad D cA vwCl SHc rZ x 0 (eEnt [.ref 6, .ref 42]) [] w := by
  have h : eRun SHc SSc 6 rs_re_readItems_42 (eCs cs_re_readItems_42) rZ CX8_readItems [4, 28, 68] (fun pc L st w => bif Nat.beq pc 4 then (lR L 0 6 (lR L 1 42 ((lI L 3).bind fun a3 => sE st (f_re_readItems_42_L4 eFu a3 w)))) else none) 7 true 0 [some (.ref 6), some (.ref 42), none, none, none, none] [] w = some x := h
  refine eGo.wk (eRun_go hcx (eLnk_all lk_re_readItems_42) (eHc_all hc_re_readItems_42) rZ_ok dcX8_readItems [4, 28, 68] _ (fun pc L st w hK => ?_) 7 true 0 _ _ w h) (eLe_wk ⟨rfl, rfl, trivial⟩)
  rcases eCut hK with ⟨hpc, hK⟩ | hK
  · subst hpc
    obtain ⟨e0, hK_1⟩ := lR_some hK
    obtain ⟨e1, hK_2⟩ := lR_some hK_1
    obtain ⟨a3, e3, hK_3⟩ := lI_some hK_2
    obtain ⟨hst9, hK_4⟩ := sE_some hK_3
    subst hst9
    exact eGo.wk (go_re_readItems_42_L4 hcx  eFu a3 w hK_4) (eLe_wk ⟨e0, e1, e3, trivial⟩)
  cases hK
end
set_option maxRecDepth 100000 in
set_option maxHeartbeats 4000000 in
theorem ok_re_readItems_42 {l : Launch} {ad : Nat → Nat} {D : va_G} {cA : Nat → ClassId} {ρ : Type} (as : List Value) (w : eW) (k : Option Value → eW → Option ρ) (x : ρ) (h : K_re_readItems_42 as w k = some x) : ∃ (v : Option Value) (w2 : eW), k v w2 = some x ∧ eMet l ad D cA vwCl SHc SSc yX8_readItems (eWd yX8_readItems cX8_readItems 6 (some .boolean)) { frames := 3, cells := 0, slots := 0, locals := 67 } as w v w2 := by
  unfold K_re_readItems_42 at h
  split at h
  · rename_i r0 r1
    obtain ⟨h1, h5⟩ := eBif h
    clear h
    have h := h5
    clear h5
    have h1 := Nat.eq_of_beq_eq_true h1
    subst h1
    obtain ⟨h1, h5⟩ := eBif h
    clear h
    have h := h5
    clear h5
    have h1 := Nat.eq_of_beq_eq_true h1
    subst h1
    obtain ⟨q, h2, h3⟩ := Option.bind_eq_some_iff.mp h
    exact ⟨_, _, h3, eMet_of (by decide +kernel) rfl (by simp [eCat, Value.category]) rZ_ret (fun p e s m args below meth c hcx => go_re_readItems_42 hcx w q h2)⟩
  · cases h
