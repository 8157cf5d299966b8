def CX10_scan : eCo := [[some (.aload_n 0), some (.getfield 19), none, none, some (.aload_n 0), some (.getfield 15), none, none, some (.if_icmp .ge 31), none, none, some (.aload_n 0), some (.getfield 9), none, none, some (.aload_n 0)],
  [some (.getfield 19), none, none, some (.baload), some (.invokestatic 25), none, none, some (.ifCond .eq 16), none, none, some (.aload_n 0), some (.dup), some (.getfield 19), none, none, some (.iconst 1)],
  [some (.iadd), some (.putfield 19), none, none, some (.goto (-36)), none, none, some (.aload_n 0), some (.aload_n 0), some (.getfield 19), none, none, some (.putfield 29), none, none, some (.aload_n 0)],
  [some (.getfield 19), none, none, some (.aload_n 0), some (.getfield 15), none, none, some (.if_icmp .lt 11), none, none, some (.aload_n 0), some (.iconst 0), some (.putfield 32), none, none, some (.goto 80)],
  [none, none, some (.aload_n 0), some (.getfield 9), none, none, some (.aload_n 0), some (.getfield 19), none, none, some (.baload), some (.invokestatic 35), none, none, some (.ifCond .eq 10), none],
  [none, some (.aload_n 0), some (.invokevirtual 38), none, none, some (.goto 58), none, none, some (.aload_n 0), some (.getfield 9), none, none, some (.aload_n 0), some (.getfield 19), none, none],
  [some (.baload), some (.invokestatic 41), none, none, some (.ifCond .eq 10), none, none, some (.aload_n 0), some (.invokevirtual 44), none, none, some (.goto 36), none, none, some (.aload_n 0), some (.aload_n 0)],
  [some (.getfield 9), none, none, some (.aload_n 0), some (.getfield 19), none, none, some (.baload), some (.bipush 59), none, some (.if_icmp .ne 7), none, none, some (.iconst 3), some (.goto 4), none],
  [none, some (.iconst 4), some (.putfield 32), none, none, some (.aload_n 0), some (.dup), some (.getfield 19), none, none, some (.iconst 1), some (.iadd), some (.putfield 19), none, none, some (.return_)]]
theorem dcX10_scan : eDec cX10_scan CX10_scan := eDec_of (by decide +kernel)
def rs_ta_scan : List (Nat × eR) := [(9, (0, 9, 0, 2)), (15, (0, 9, 1, 0)), (19, (0, 9, 2, 0)), (25, (1, 0, 1, -1)), (29, (0, 9, 3, 0)), (32, (0, 9, 4, 0)), (35, (1, 1, 1, -1)), (38, (1, 4, 0, 9)), (41, (1, 2, 1, -1)), (44, (1, 3, 0, 9))]
noncomputable def cs_ta_scan : List (eF (eW)) := [K_ta_isBlank, K_ta_isLetter, K_ta_isDigit, K_ta_scanNumber, K_ta_scanWord]
noncomputable def f_ta_scan_J39 (w : eW) : Option (eW) := (if (w.1 1 2) < (w.1 1 1) then (eChk (w.1 1 2) 700 ((f_ta_isLetter (w.1 0 (Int32.toNatClampNeg (w.1 1 2))) (eU1 w 1 3 (w.1 1 2))).bind fun p2 => (if p2.1 = 0 then (eChk (p2.2.1 1 2) 700 ((f_ta_isDigit (p2.2.1 0 (Int32.toNatClampNeg (p2.2.1 1 2))) p2.2).bind fun p3 => (if p3.1 = 0 then (eChk (p3.2.1 1 2) 700 (if ¬ (p3.2.1 0 (Int32.toNatClampNeg (p3.2.1 1 2))) = (59 : Int32) then (some (eU1 (eU1 p3.2 1 4 (4 : Int32)) 1 2 ((p3.2.1 1 2) + (1 : Int32)))) else (some (eU1 (eU1 p3.2 1 4 (3 : Int32)) 1 2 ((p3.2.1 1 2) + (1 : Int32)))))) else ((f_ta_scanNumber p3.2).bind fun w4 => (some w4))))) else ((f_ta_scanWord p2.2).bind fun w5 => (some w5))))) else (some (eU1 (eU1 w 1 3 (w.1 1 2)) 1 4 (0 : Int32))))
noncomputable def f_ta_scan_L0 : Nat → eW → Option (eW)
  | 0, _ => none
  | n + 1, w => (if (w.1 1 1) ≤ (w.1 1 2) then (f_ta_scan_J39 w) else (eChk (w.1 1 2) 700 ((f_ta_isBlank (w.1 0 (Int32.toNatClampNeg (w.1 1 2))) w).bind fun p1 => (if p1.1 = 0 then (f_ta_scan_J39 p1.2) else (f_ta_scan_L0 n (eU1 p1.2 1 2 ((p1.2.1 1 2) + (1 : Int32))))))))
noncomputable def f_ta_scan (w : eW) : Option (eW) := (f_ta_scan_L0 eFu w)
noncomputable def K_ta_scan {ρ : Type} : eF ρ := fun as w k => match as with
  | [.ref r0] => bif Nat.beq r0 1 then (f_ta_scan w).bind (fun w => k none w) else none
  | _ => none
section
variable {p : Program} {l : Launch} {e : Env} {s : State} {m : MethodId} {args : Array Value} {below : List Frame} {meth : Method} {c : Code} {ad : Nat → Nat} {D : va_G} {cA : Nat → ClassId}
theorem lk_ta_scan : ∀ q ∈ rs_ta_scan, eLnk { frames := 2, cells := 0, slots := 0, locals := 42 } vwCl (eWd yX10_scan cX10_scan 1 none) SSc SHc.length RX10 q.1 q.2 := List.forall_mem_cons.mpr ⟨lkX10_9 eTb_wd, List.forall_mem_cons.mpr ⟨lkX10_15 eTb_wd, List.forall_mem_cons.mpr ⟨lkX10_19 eTb_wd, List.forall_mem_cons.mpr ⟨trivial, List.forall_mem_cons.mpr ⟨lkX10_29 eTb_wd, List.forall_mem_cons.mpr ⟨lkX10_32 eTb_wd, List.forall_mem_cons.mpr ⟨trivial, List.forall_mem_cons.mpr ⟨trivial, List.forall_mem_cons.mpr ⟨trivial, List.forall_mem_cons.mpr ⟨trivial, fun _ h => absurd h List.not_mem_nil⟩⟩⟩⟩⟩⟩⟩⟩⟩⟩
theorem hc_ta_scan {x : eW} : ∀ q ∈ rs_ta_scan, eHc l { frames := 2, cells := 0, slots := 0, locals := 42 } ad D cA vwCl SHc SSc (eWd yX10_scan cX10_scan 1 none) RX10 cs_ta_scan x q := List.forall_mem_cons.mpr ⟨trivial, List.forall_mem_cons.mpr ⟨trivial, List.forall_mem_cons.mpr ⟨trivial, List.forall_mem_cons.mpr ⟨(fun as w k h => let ⟨v, w2, h1, h2⟩ := ok_ta_isBlank as w k x h; ⟨v, w2, h1, eCal_of h2 ⟨rfl, rfl⟩ hdX10_isBlank (gvX10_25 eTb_wd)⟩), List.forall_mem_cons.mpr ⟨trivial, List.forall_mem_cons.mpr ⟨trivial, List.forall_mem_cons.mpr ⟨(fun as w k h => let ⟨v, w2, h1, h2⟩ := ok_ta_isLetter as w k x h; ⟨v, w2, h1, eCal_of h2 ⟨rfl, rfl⟩ hdX10_isLetter (gvX10_35 eTb_wd)⟩), List.forall_mem_cons.mpr ⟨(fun as w k h => let ⟨v, w2, h1, h2⟩ := ok_ta_scanWord as w k x h; ⟨v, w2, h1, eCal_of h2 ⟨rfl, rfl⟩ hdX10_scanWord (gvX10_38 eTb_wd)⟩), List.forall_mem_cons.mpr ⟨(fun as w k h => let ⟨v, w2, h1, h2⟩ := ok_ta_isDigit as w k x h; ⟨v, w2, h1, eCal_of h2 ⟨rfl, rfl⟩ hdX10_isDigit (gvX10_41 eTb_wd)⟩), List.forall_mem_cons.mpr ⟨(fun as w k h => let ⟨v, w2, h1, h2⟩ := ok_ta_scanNumber as w k x h; ⟨v, w2, h1, eCal_of h2 ⟨rfl, rfl⟩ hdX10_scanNumber (gvX10_44 eTb_wd)⟩), fun _ h => absurd h List.not_mem_nil⟩⟩⟩⟩⟩⟩⟩⟩⟩⟩
noncomputable def kk_ta_scan_39 : eK (eW) := fun pc L st w => none
set_option maxRecDepth 100000 in
set_option maxHeartbeats 4000000 in
theorem go_ta_scan_J39 (hcx : eCx p { frames := 2, cells := 0, slots := 0, locals := 42 } s m args meth c cX10_scan RX10 1 ad D cA vwCl SHc SSc (eWd yX10_scan cX10_scan 1 none) (none)) {x : eW} : ∀ (w : eW), f_ta_scan_J39  w = some x → eGq p l e { frames := 2, cells := 0, slots := 0, locals := 42 } s m args below meth c 1 ad D cA vwCl SHc rV x 39 [some (.ref 1)] [] w := by
  intro w h
  have h : eRun SHc SSc 1 rs_ta_scan (eCs cs_ta_scan) rV CX10_scan [0, 39] (kk_ta_scan_39 ) 43 true 39 [some (.ref 1)] [] w = some x := h
  refine eRun_go hcx (eLnk_all lk_ta_scan) (eHc_all hc_ta_scan) rV_ok dcX10_scan [0, 39] _ (fun pc L st w hK => ?_) 43 true 39 _ _ w h
  unfold kk_ta_scan_39 at hK
  cases hK
noncomputable def kk_ta_scan_0 (n : Nat) : eK (eW) := fun pc L st w => bif Nat.beq pc 39 then (lR L 0 1 (sE st (f_ta_scan_J39 w))) else (bif Nat.beq pc 0 then (lR L 0 1 (sE st (f_ta_scan_L0 n w))) else none)
set_option maxRecDepth 100000 in
set_option maxHeartbeats 4000000 in
theorem go_ta_scan_L0 (hcx : eCx p { frames := 2, cells := 0, slots := 0, locals := 42 } s m args meth c cX10_scan RX10 1 ad D cA vwCl SHc SSc (eWd yX10_scan cX10_scan 1 none) (none)) {x : eW} : ∀ (n : Nat) (w : eW), f_ta_scan_L0  n w = some x → eGq p l e { frames := 2, cells := 0, slots := 0, locals := 42 } s m args below meth c 1 ad D cA vwCl SHc rV x 0 [some (.ref 1)] [] w := by
  intro n
  induction n with
  | zero => intro w h; exact nomatch (show (none : Option (eW)) = some x from h)
  | succ n ih =>
    intro w h
    have h : eRun SHc SSc 1 rs_ta_scan (eCs cs_ta_scan) rV CX10_scan [0, 39] (kk_ta_scan_0  n) 22 true 0 [some (.ref 1)] [] w = some x := h
    refine eRun_go hcx (eLnk_all lk_ta_scan) (eHc_all hc_ta_scan) rV_ok dcX10_scan [0, 39] _ (fun pc L st w hK => ?_) 22 true 0 _ _ w h
    unfold kk_ta_scan_0 at hK
    rcases eCut hK with ⟨hpc, hK⟩ | hK
    · subst hpc
      obtain ⟨e0, hK_1⟩ := lR_some hK
      obtain ⟨hst9, hK_2⟩ := sE_some hK_1
      subst hst9
      exact eGo.wk (go_ta_scan_J39 hcx  w hK_2) (eLe_wk ⟨e0, trivial⟩)
    rcases eCut hK with ⟨hpc, hK⟩ | hK
    · subst hpc
      obtain ⟨e0, hK_1⟩ := lR_some hK
      obtain ⟨hst9, hK_2⟩ := sE_some hK_1
      subst hst9
      exact eGo.wk (ih w hK_2) (eLe_wk ⟨e0, trivial⟩)
    cases hK
set_option maxRecDepth 100000 in
set_option maxHeartbeats 4000000 in
theorem go_ta_scan (hcx : eCx p { frames := 2, cells := 0, slots := 0, locals := 42 } s m args meth c cX10_scan RX10 1 ad D cA vwCl SHc SSc (eWd yX10_scan cX10_scan 1 none) (none)) (w : eW) (x : eW) (h : f_ta_scan w = some x) : eGq p l e { frames := 2, cells := 0, slots := 0, locals := 42 } s m args below meth c 1 ad D cA vwCl SHc rV x 0 (eEnt [.ref 1]) [] w := by
  exact eGo.wk (go_ta_scan_L0 hcx eFu w h) (eLe_wk ⟨rfl, trivial⟩)
end
set_option maxRecDepth 100000 in
set_option maxHeartbeats 4000000 in
theorem ok_ta_scan {l : Launch} {ad : Nat → Nat} {D : va_G} {cA : Nat → ClassId} {ρ : Type} (as : List Value) (w : eW) (k : Option Value → eW → Option ρ) (x : ρ) (h : K_ta_scan as w k = some x) : ∃ (v : Option Value) (w2 : eW), k v w2 = some x ∧ eMet l ad D cA vwCl SHc SSc yX10_scan (eWd yX10_scan cX10_scan 1 none) { frames := 2, cells := 0, slots := 0, locals := 42 } as w v w2 := by
  unfold K_ta_scan at h
  split at h
  · rename_i r0
    obtain ⟨h1, h5⟩ := eBif h
    clear h
    have h := h5
    clear h5
    have h1 := Nat.eq_of_beq_eq_true h1
    subst h1
    obtain ⟨q, h2, h3⟩ := Option.bind_eq_some_iff.mp h
    exact ⟨_, _, h3, eMet_of (by decide +kernel) rfl (by simp [eCat, Value.category]) rV_ret (fun p e s m args below meth c hcx => go_ta_scan hcx w q h2)⟩
  · cases h
def CX10_rewind : eCo := [[some (.aload_n 0), some (.iconst 0), some (.putfield 19), none, none, some (.aload_n 0), some (.invokevirtual 22), none, none, some (.return_)]]
theorem dcX10_rewind : eDec cX10_rewind CX10_rewind := eDec_of (by decide +kernel)
def rs_ta_rewind : List (Nat × eR) := [(19, (0, 9, 2, 0)), (22, (1, 0, 0, 9))]
noncomputable def cs_ta_rewind : List (eF (eW)) := [K_ta_scan]
noncomputable def f_ta_rewind (w : eW) : Option (eW) := ((f_ta_scan (eU1 w 1 2 (0 : Int32))).bind fun w1 => (some w1))
noncomputable def K_ta_rewind {ρ : Type} : eF ρ := fun as w k => match as with
  | [.ref r0] => bif Nat.beq r0 1 then (f_ta_rewind w).bind (fun w => k none w) else none
  | _ => none
section
variable {p : Program} {l : Launch} {e : Env} {s : State} {m : MethodId} {args : Array Value} {below : List Frame} {meth : Method} {c : Code} {ad : Nat → Nat} {D : va_G} {cA : Nat → ClassId}
theorem lk_ta_rewind : ∀ q ∈ rs_ta_rewind, eLnk { frames := 3, cells := 0, slots := 0, locals := 62 } vwCl (eWd yX10_rewind cX10_rewind 1 none) SSc SHc.length RX10 q.1 q.2 := List.forall_mem_cons.mpr ⟨lkX10_19 eTb_wd, List.forall_mem_cons.mpr ⟨trivial, fun _ h => absurd h List.not_mem_nil⟩⟩
theorem hc_ta_rewind {x : eW} : ∀ q ∈ rs_ta_rewind, eHc l { frames := 3, cells := 0, slots := 0, locals := 62 } ad D cA vwCl SHc SSc (eWd yX10_rewind cX10_rewind 1 none) RX10 cs_ta_rewind x q := List.forall_mem_cons.mpr ⟨trivial, List.forall_mem_cons.mpr ⟨(fun as w k h => let ⟨v, w2, h1, h2⟩ := ok_ta_scan as w k x h; ⟨v, w2, h1, eCal_of h2 ⟨rfl, rfl⟩ hdX10_scan (gvX10_22 eTb_wd)⟩), fun _ h => absurd h List.not_mem_nil⟩⟩
set_option maxRecDepth 100000 in
set_option maxHeartbeats 4000000 in
theorem go_ta_rewind (hcx : eCx p { frames := 3, cells := 0, slots := 0, locals := 62 } s m args meth c cX10_rewind RX10 1 ad D cA vwCl SHc SSc (eWd yX10_rewind cX10_rewind 1 none) (none)) (w : eW) (x : eW) (h : f_ta_rewind w = some x) : eGq p l e { frames := 3, cells := 0, slots := 0, locals := 62 } s m args below meth c 1 ad D cA vwCl SHc rV x 0 (eEnt [.ref 1]) [] w := by
  have h : eRun SHc SSc 1 rs_ta_rewind (eCs cs_ta_rewind) rV CX10_rewind [] (fun pc L st w => none) 8 true 0 [some (.ref 1)] [] w = some x := h
  refine eGo.wk (eRun_go hcx (eLnk_all lk_ta_rewind) (eHc_all hc_ta_rewind) rV_ok dcX10_rewind [] _ (fun pc L st w hK => ?_) 8 true 0 _ _ w h) (eLe_wk ⟨rfl, trivial⟩)
  cases hK
end
set_option maxRecDepth 100000 in
set_option maxHeartbeats 4000000 in
theorem ok_ta_rewind {l : Launch} {ad : Nat → Nat} {D : va_G} {cA : Nat → ClassId} {ρ : Type} (as : List Value) (w : eW) (k : Option Value → eW → Option ρ) (x : ρ) (h : K_ta_rewind as w k = some x) : ∃ (v : Option Value) (w2 : eW), k v w2 = some x ∧ eMet l ad D cA vwCl SHc SSc yX10_rewind (eWd yX10_rewind cX10_rewind 1 none) { frames := 3, cells := 0, slots := 0, locals := 62 } as w v w2 := by
  unfold K_ta_rewind at h
  split at h
  · rename_i r0
    obtain ⟨h1, h5⟩ := eBif h
    clear h
    have h := h5
    clear h5
    have h1 := Nat.eq_of_beq_eq_true h1
    subst h1
    obtain ⟨q, h2, h3⟩ := Option.bind_eq_some_iff.mp h
    exact ⟨_, _, h3, eMet_of (by decide +kernel) rfl (by simp [eCat, Value.category]) rV_ret (fun p e s m args below meth c hcx => go_ta_rewind hcx w q h2)⟩
  · cases h
def CX8_keptWord : eCo := [[some (.iconst 0), some (.istore_n 1), some (.aload_n 0), some (.getfield 29), none, none, some (.getfield 64), none, none, some (.iconst 1), some (.if_icmp .ne 34), none, none, some (.iload_n 1), some (.bipush 11), none],
  [some (.if_icmp .ge 28), none, none, some (.aload_n 0), some (.getfield 11), none, none, some (.iload_n 1), some (.laload), some (.aload_n 0), some (.getfield 29), none, none, some (.getfield 128), none, none],
  [some (.lcmp), some (.ifCond .ne 5), none, none, some (.iload_n 1), some (.ireturn), some (.iinc 1 1), none, none, some (.goto (-39)), none, none, some (.iconst (-1)), some (.ireturn)]]
theorem dcX8_keptWord : eDec cX8_keptWord CX8_keptWord := eDec_of (by decide +kernel)
def rs_re_keptWord : List (Nat × eR) := [(11, (0, 7, 1, 2)), (29, (0, 7, 0, 2)), (64, (0, 9, 4, 0)), (128, (0, 9, 6, 1))]
noncomputable def cs_re_keptWord : List (eF (Int32 × eW)) := []
noncomputable def f_re_keptWord_L2 : Nat → Int32 → eW → Option (Int32 × eW)
  | 0, _, _ => none
  | n + 1, a1, w => (if ¬ (w.1 1 4) = (1 : Int32) then (some ((-1 : Int32), w)) else (if (11 : Int32) ≤ a1 then (some ((-1 : Int32), w)) else (eChk a1 11 (if ¬ (lg_cmp (w.2 4 (Int32.toNatClampNeg a1)) (w.2 1 6)) = 0 then (f_re_keptWord_L2 n (a1 + (1 : Int32)) w) else (some (a1, w))))))
noncomputable def f_re_keptWord (w : eW) : Option (Int32 × eW) := (f_re_keptWord_L2 eFu (0 : Int32) w)
noncomputable def K_re_keptWord {ρ : Type} : eF ρ := fun as w k => match as with
  | [.ref r0] => bif Nat.beq r0 6 then (f_re_keptWord w).bind (fun p => k (some (.int p.1)) p.2) else none
  | _ => none
section
variable {p : Program} {l : Launch} {e : Env} {s : State} {m : MethodId} {args : Array Value} {below : List Frame} {meth : Method} {c : Code} {ad : Nat → Nat} {D : va_G} {cA : Nat → ClassId}
theorem lk_re_keptWord : ∀ q ∈ rs_re_keptWord, eLnk { frames := 0, cells := 0, slots := 0, locals := 0 } vwCl (eWd yX8_keptWord cX8_keptWord 2 (some .int)) SSc SHc.length RX8 q.1 q.2 := List.forall_mem_cons.mpr ⟨lkX8_11 eTb_wd, List.forall_mem_cons.mpr ⟨lkX8_29 eTb_wd, List.forall_mem_cons.mpr ⟨lkX8_64 eTb_wd, List.forall_mem_cons.mpr ⟨lkX8_128 eTb_wd, fun _ h => absurd h List.not_mem_nil⟩⟩⟩⟩
theorem hc_re_keptWord {x : Int32 × eW} : ∀ q ∈ rs_re_keptWord, eHc l { frames := 0, cells := 0, slots := 0, locals := 0 } ad D cA vwCl SHc SSc (eWd yX8_keptWord cX8_keptWord 2 (some .int)) RX8 cs_re_keptWord x q := List.forall_mem_cons.mpr ⟨trivial, List.forall_mem_cons.mpr ⟨trivial, List.forall_mem_cons.mpr ⟨trivial, List.forall_mem_cons.mpr ⟨trivial, fun _ h => absurd h List.not_mem_nil⟩⟩⟩⟩
noncomputable def kk_re_keptWord_2 (n : Nat) : eK (Int32 × eW) := fun pc L st w => bif Nat.beq pc 2 then (lR L 0 6 ((lI L 1).bind fun a1 => sE st (f_re_keptWord_L2 n a1 w))) else none
set_option maxRecDepth 100000 in
set_option maxHeartbeats 4000000 in
theorem go_re_keptWord_L2 (hcx : eCx p { frames := 0, cells := 0, slots := 0, locals := 0 } s m args meth c cX8_keptWord RX8 2 ad D cA vwCl SHc SSc (eWd yX8_keptWord cX8_keptWord 2 (some .int)) (some .int)) {x : Int32 × eW} : ∀ (n : Nat) (a1 : Int32) (w : eW), f_re_keptWord_L2  n a1 w = some x → eGq p l e { frames := 0, cells := 0, slots := 0, locals := 0 } s m args below meth c 2 ad D cA vwCl SHc rI x 2 [some (.ref 6), some (.int a1)] [] w := by
  intro n
  induction n with
  | zero => intro a1 w h; exact nomatch (show (none : Option (Int32 × eW)) = some x from h)
  | succ n ih =>
    intro a1 w h
    have h : eRun SHc SSc 2 rs_re_keptWord (eCs cs_re_keptWord) rI CX8_keptWord [2] (kk_re_keptWord_2  n) 22 true 2 [some (.ref 6), some (.int a1)] [] w = some x := h
    refine eRun_go hcx (eLnk_all lk_re_keptWord) (eHc_all hc_re_keptWord) rI_ok dcX8_keptWord [2] _ (fun pc L st w hK => ?_) 22 true 2 _ _ w h
    unfold kk_re_keptWord_2 at hK
    rcases eCut hK with ⟨hpc, hK⟩ | hK
    · subst hpc
      obtain ⟨e0, hK_1⟩ := lR_some hK
      obtain ⟨a1, e1, hK_2⟩ := lI_some hK_1
      obtain ⟨hst9, hK_3⟩ := sE_some hK_2
      subst hst9
      exact eGo.wk (ih a1 w hK_3) (eLe_wk ⟨e0, e1, trivial⟩)
    cases hK
set_option maxRecDepth 100000 in
set_option maxHeartbeats 4000000 in
theorem go_re_keptWord (hcx : eCx p { frames := 0, cells := 0, slots := 0, locals := 0 } s m args meth c cX8_keptWord RX8 2 ad D cA vwCl SHc SSc (eWd yX8_keptWord cX8_keptWord 2 (some .int)) (some .int)) (w : eW) (x : Int32 × eW) (h : f_re_keptWord w = some x) : eGq p l e { frames := 0, cells := 0, slots := 0, locals := 0 } s m args below meth c 2 ad D cA vwCl SHc rI x 0 (eEnt [.ref 6]) [] w := by
  have h : eRun SHc SSc 2 rs_re_keptWord (eCs cs_re_keptWord) rI CX8_keptWord [2] (fun pc L st w => bif Nat.beq pc 2 then (lR L 0 6 ((lI L 1).bind fun a1 => sE st (f_re_keptWord_L2 eFu a1 w))) else none) 5 true 0 [some (.ref 6), none] [] w = some x := h
  refine eGo.wk (eRun_go hcx (eLnk_all lk_re_keptWord) (eHc_all hc_re_keptWord) rI_ok dcX8_keptWord [2] _ (fun pc L st w hK => ?_) 5 true 0 _ _ w h) (eLe_wk ⟨rfl, trivial⟩)
  rcases eCut hK with ⟨hpc, hK⟩ | hK
  · subst hpc
    obtain ⟨e0, hK_1⟩ := lR_some hK
    obtain ⟨a1, e1, hK_2⟩ := lI_some hK_1
    obtain ⟨hst9, hK_3⟩ := sE_some hK_2
    subst hst9
    exact eGo.wk (go_re_keptWord_L2 hcx  eFu a1 w hK_3) (eLe_wk ⟨e0, e1, trivial⟩)
  cases hK
end
set_option maxRecDepth 100000 in
set_option maxHeartbeats 4000000 in
theorem ok_re_keptWord {l : Launch} {ad : Nat → Nat} {D : va_G} {cA : Nat → ClassId} {ρ : Type} (as : List Value) (w : eW) (k : Option Value → eW → Option ρ) (x : ρ) (h : K_re_keptWord as w k = some x) : ∃ (v : Option Value) (w2 : eW), k v w2 = some x ∧ eMet l ad D cA vwCl SHc SSc yX8_keptWord (eWd yX8_keptWord cX8_keptWord 2 (some .int)) { frames := 0, cells := 0, slots := 0, locals := 0 } as w v w2 := by
  unfold K_re_keptWord at h
  split at h
  · rename_i r0
    obtain ⟨h1, h5⟩ := eBif h
    clear h
    have h := h5
    clear h5
    have h1 := Nat.eq_of_beq_eq_true h1
    subst h1
    obtain ⟨q, h2, h3⟩ := Option.bind_eq_some_iff.mp h
    exact ⟨_, _, h3, eMet_of (by decide +kernel) rfl (by simp [eCat, Value.category]) rI_ret (fun p e s m args below meth c hcx => go_re_keptWord hcx w q h2)⟩
  · cases h
def CX8_refuse : eCo := [[some (.aload_n 0), some (.aload_n 0), some (.getfield 29), none, none, some (.getfield 64), none, none, some (.iconst 4), some (.if_icmp .ne 7), none, none, some (.iconst 1), some (.goto 4), none, none],
  [some (.iload_n 1), some (.putfield 58), none, none, some (.aload_n 0), some (.aload_n 0), some (.getfield 29), none, none, some (.getfield 142), none, none, some (.putfield 25), none, none, some (.iconst 0)],
  [some (.ireturn)]]
theorem dcX8_refuse : eDec cX8_refuse CX8_refuse := eDec_of (by decide +kernel)
def rs_re_refuse : List (Nat × eR) := [(25, (0, 7, 6, 0)), (29, (0, 7, 0, 2)), (58, (0, 7, 5, 0)), (64, (0, 9, 4, 0)), (142, (0, 9, 3, 0))]
noncomputable def cs_re_refuse : List (eF (Int32 × eW)) := []
noncomputable def f_re_refuse (a1 : Int32) (w : eW) : Option (Int32 × eW) := (if ¬ (w.1 1 4) = (4 : Int32) then (some ((0 : Int32), (eU1 (eU1 w 6 5 a1) 6 6 (w.1 1 3)))) else (some ((0 : Int32), (eU1 (eU1 w 6 5 (1 : Int32)) 6 6 (w.1 1 3)))))
noncomputable def K_re_refuse {ρ : Type} : eF ρ := fun as w k => match as with
  | [.ref r0, .int a1] => bif Nat.beq r0 6 then (f_re_refuse a1 w).bind (fun p => k (some (.int p.1)) p.2) else none
  | _ => none
section
variable {p : Program} {l : Launch} {e : Env} {s : State} {m : MethodId} {args : Array Value} {below : List Frame} {meth : Method} {c : Code} {ad : Nat → Nat} {D : va_G} {cA : Nat → ClassId}
theorem lk_re_refuse : ∀ q ∈ rs_re_refuse, eLnk { frames := 0, cells := 0, slots := 0, locals := 0 } vwCl (eWd yX8_refuse cX8_refuse 2 (some .boolean)) SSc SHc.length RX8 q.1 q.2 := List.forall_mem_cons.mpr ⟨lkX8_25 eTb_wd, List.forall_mem_cons.mpr ⟨lkX8_29 eTb_wd, List.forall_mem_cons.mpr ⟨lkX8_58 eTb_wd, List.forall_mem_cons.mpr ⟨lkX8_64 eTb_wd, List.forall_mem_cons.mpr ⟨lkX8_142 eTb_wd, fun _ h => absurd h List.not_mem_nil⟩⟩⟩⟩⟩
theorem hc_re_refuse {x : Int32 × eW} : ∀ q ∈ rs_re_refuse, eHc l { frames := 0, cells := 0, slots := 0, locals := 0 } ad D cA vwCl SHc SSc (eWd yX8_refuse cX8_refuse 2 (some .boolean)) RX8 cs_re_refuse x q := List.forall_mem_cons.mpr ⟨trivial, List.forall_mem_cons.mpr ⟨trivial, List.forall_mem_cons.mpr ⟨trivial, List.forall_mem_cons.mpr ⟨trivial, List.forall_mem_cons.mpr ⟨trivial, fun _ h => absurd h List.not_mem_nil⟩⟩⟩⟩⟩
set_option maxRecDepth 100000 in
set_option maxHeartbeats 4000000 in
theorem go_re_refuse (hcx : eCx p { frames := 0, cells := 0, slots := 0, locals := 0 } s m args meth c cX8_refuse RX8 2 ad D cA vwCl SHc SSc (eWd yX8_refuse cX8_refuse 2 (some .boolean)) (some .boolean)) (a1 : Int32) (w : eW) (x : Int32 × eW) (h : f_re_refuse a1 w = some x) : eGq p l e { frames := 0, cells := 0, slots := 0, locals := 0 } s m args below meth c 2 ad D cA vwCl SHc rZ x 0 (eEnt [.ref 6, .int a1]) [] w := by
  have h : eRun SHc SSc 2 rs_re_refuse (eCs cs_re_refuse) rZ CX8_refuse [] (fun pc L st w => none) 18 true 0 [some (.ref 6), some (.int a1)] [] w = some x := h
  refine eGo.wk (eRun_go hcx (eLnk_all lk_re_refuse) (eHc_all hc_re_refuse) rZ_ok dcX8_refuse [] _ (fun pc L st w hK => ?_) 18 true 0 _ _ w h) (eLe_wk ⟨rfl, rfl, trivial⟩)
  cases hK
end
set_option maxRecDepth 100000 in
set_option maxHeartbeats 4000000 in
theorem ok_re_refuse {l : Launch} {ad : Nat → Nat} {D : va_G} {cA : Nat → ClassId} {ρ : Type} (as : List Value) (w : eW) (k : Option Value → eW → Option ρ) (x : ρ) (h : K_re_refuse as w k = some x) : ∃ (v : Option Value) (w2 : eW), k v w2 = some x ∧ eMet l ad D cA vwCl SHc SSc yX8_refuse (eWd yX8_refuse cX8_refuse 2 (some .boolean)) { frames := 0, cells := 0, slots := 0, locals := 0 } as w v w2 := by
  unfold K_re_refuse at h
  split at h
  · rename_i r0 a1
    obtain ⟨h1, h5⟩ := eBif h
    clear h
    have h := h5
    clear h5
    have h1 := Nat.eq_of_beq_eq_true h1
    subst h1
    obtain ⟨q, h2, h3⟩ := Option.bind_eq_some_iff.mp h
    exact ⟨_, _, h3, eMet_of (by decide +kernel) rfl (by simp [eCat, Value.category]) rZ_ret (fun p e s m args below meth c hcx => go_re_refuse hcx a1 w q h2)⟩
  · cases h
