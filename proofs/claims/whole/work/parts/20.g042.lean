def CX12_firsts : eCo := [[some (.lconst 0), some (.lstore_n 1), some (.iconst 0), some (.istore_n 3), some (.iload_n 3), some (.aload_n 0), some (.getfield 98), none, none, some (.if_icmp .ge 25), none, none, some (.lload_n 1), some (.aload_n 0), some (.getfield 13), none],
  [none, some (.iload_n 3), some (.iaload), some (.i2l), some (.aload_n 0), some (.iload_n 3), some (.invokevirtual 268), none, none, some (.lmul), some (.ladd), some (.lstore_n 1), some (.iinc 3 1), none, none, some (.goto (-27))],
  [none, none, some (.lload_n 1), some (.lreturn)]]
theorem dcX12_firsts : eDec cX12_firsts CX12_firsts := eDec_of (by decide +kernel)
def rs_mm_firsts : List (Nat × eR) := [(13, (0, 11, 6, 2)), (98, (0, 11, 1, 0)), (268, (1, 0, 1, 11))]
noncomputable def cs_mm_firsts : List (eF (Int64 × eW)) := [K_mm_firstOf]
noncomputable def f_mm_firsts_L4 : Nat → Int64 → Int32 → eW → Option (Int64 × eW)
  | 0, _, _, _ => none
  | n + 1, a1, a3, w => (if (w.1 24 1) ≤ a3 then (some (a1, w)) else (eChk a3 24 ((f_mm_firstOf a3 w).bind fun p1 => (f_mm_firsts_L4 n (a1 + ((((w.1 1 (Int32.toNatClampNeg a3))).toInt64) * p1.1)) (a3 + (1 : Int32)) p1.2))))
noncomputable def f_mm_firsts (w : eW) : Option (Int64 × eW) := (f_mm_firsts_L4 eFu (0 : Int64) (0 : Int32) w)
noncomputable def K_mm_firsts {ρ : Type} : eF ρ := fun as w k => match as with
  | [.ref r0] => bif Nat.beq r0 24 then (f_mm_firsts w).bind (fun p => k (some (.long p.1)) p.2) else none
  | _ => none
section
variable {p : Program} {l : Launch} {e : Env} {s : State} {m : MethodId} {args : Array Value} {below : List Frame} {meth : Method} {c : Code} {ad : Nat → Nat} {D : va_G} {cA : Nat → ClassId}
theorem lk_mm_firsts : ∀ q ∈ rs_mm_firsts, eLnk { frames := 6, cells := 0, slots := 0, locals := 127 } vwCl (eWd yX12_firsts cX12_firsts 4 (some .long)) SSm SHm.length RX12 q.1 q.2 := List.forall_mem_cons.mpr ⟨lkX12_13 eTb_wd, List.forall_mem_cons.mpr ⟨lkX12_98 eTb_wd, List.forall_mem_cons.mpr ⟨trivial, fun _ h => absurd h List.not_mem_nil⟩⟩⟩
theorem hc_mm_firsts {x : Int64 × eW} : ∀ q ∈ rs_mm_firsts, eHc l { frames := 6, cells := 0, slots := 0, locals := 127 } ad D cA vwCl SHm SSm (eWd yX12_firsts cX12_firsts 4 (some .long)) RX12 cs_mm_firsts x q := List.forall_mem_cons.mpr ⟨trivial, List.forall_mem_cons.mpr ⟨trivial, List.forall_mem_cons.mpr ⟨(fun as w k h => let ⟨v, w2, h1, h2⟩ := ok_mm_firstOf as w k x h; ⟨v, w2, h1, eCal_of h2 ⟨rfl, rfl⟩ hdX12_firstOf (gvX12_268 eTb_wd)⟩), fun _ h => absurd h List.not_mem_nil⟩⟩⟩
noncomputable def kk_mm_firsts_4 (n : Nat) : eK (Int64 × eW) := fun pc L st w => bif Nat.beq pc 4 then (lR L 0 24 ((lJ L 1).bind fun a1 => (lI L 3).bind fun a3 => sE st (f_mm_firsts_L4 n a1 a3 w))) else none
set_option maxRecDepth 100000 in
set_option maxHeartbeats 4000000 in
theorem go_mm_firsts_L4 (hcx : eCx p { frames := 6, cells := 0, slots := 0, locals := 127 } s m args meth c cX12_firsts RX12 4 ad D cA vwCl SHm SSm (eWd yX12_firsts cX12_firsts 4 (some .long)) (some .long)) {x : Int64 × eW} : ∀ (n : Nat) (a1 : Int64) (a3 : Int32) (w : eW), f_mm_firsts_L4  n a1 a3 w = some x → eGq p l e { frames := 6, cells := 0, slots := 0, locals := 127 } s m args below meth c 4 ad D cA vwCl SHm rJ x 4 [some (.ref 24), some (.long a1), none, some (.int a3)] [] w := by
  intro n
  induction n with
  | zero => intro a1 a3 w h; exact nomatch (show (none : Option (Int64 × eW)) = some x from h)
  | succ n ih =>
    intro a1 a3 w h
    have h : eRun SHm SSm 4 rs_mm_firsts (eCs cs_mm_firsts) rJ CX12_firsts [4] (kk_mm_firsts_4  n) 21 true 4 [some (.ref 24), some (.long a1), none, some (.int a3)] [] w = some x := h
    refine eRun_go hcx (eLnk_all lk_mm_firsts) (eHc_all hc_mm_firsts) rJ_ok dcX12_firsts [4] _ (fun pc L st w hK => ?_) 21 true 4 _ _ w h
    unfold kk_mm_firsts_4 at hK
    rcases eCut hK with ⟨hpc, hK⟩ | hK
    · subst hpc
      obtain ⟨e0, hK_1⟩ := lR_some hK
      obtain ⟨a1, e1, hK_2⟩ := lJ_some hK_1
      obtain ⟨a3, e3, hK_3⟩ := lI_some hK_2
      obtain ⟨hst9, hK_4⟩ := sE_some hK_3
      subst hst9
      exact eGo.wk (ih a1 a3 w hK_4) (eLe_wk ⟨e0, e1, e3, trivial⟩)
    cases hK
set_option maxRecDepth 100000 in
set_option maxHeartbeats 4000000 in
theorem go_mm_firsts (hcx : eCx p { frames := 6, cells := 0, slots := 0, locals := 127 } s m args meth c cX12_firsts RX12 4 ad D cA vwCl SHm SSm (eWd yX12_firsts cX12_firsts 4 (some .long)) (some .long)) (w : eW) (x : Int64 × eW) (h : f_mm_firsts w = some x) : eGq p l e { frames := 6, cells := 0, slots := 0, locals := 127 } s m args below meth c 4 ad D cA vwCl SHm rJ x 0 (eEnt [.ref 24]) [] w := by
  have h : eRun SHm SSm 4 rs_mm_firsts (eCs cs_mm_firsts) rJ CX12_firsts [4] (fun pc L st w => bif Nat.beq pc 4 then (lR L 0 24 ((lJ L 1).bind fun a1 => (lI L 3).bind fun a3 => sE st (f_mm_firsts_L4 eFu a1 a3 w))) else none) 7 true 0 [some (.ref 24), none, none, none] [] w = some x := h
  refine eGo.wk (eRun_go hcx (eLnk_all lk_mm_firsts) (eHc_all hc_mm_firsts) rJ_ok dcX12_firsts [4] _ (fun pc L st w hK => ?_) 7 true 0 _ _ w h) (eLe_wk ⟨rfl, trivial⟩)
  rcases eCut hK with ⟨hpc, hK⟩ | hK
  · subst hpc
    obtain ⟨e0, hK_1⟩ := lR_some hK
    obtain ⟨a1, e1, hK_2⟩ := lJ_some hK_1
    obtain ⟨a3, e3, hK_3⟩ := lI_some hK_2
    obtain ⟨hst9, hK_4⟩ := sE_some hK_3
    subst hst9
    exact eGo.wk (go_mm_firsts_L4 hcx  eFu a1 a3 w hK_4) (eLe_wk ⟨e0, e1, e3, trivial⟩)
  cases hK
end
set_option maxRecDepth 100000 in
set_option maxHeartbeats 4000000 in
theorem ok_mm_firsts {l : Launch} {ad : Nat → Nat} {D : va_G} {cA : Nat → ClassId} {ρ : Type} (as : List Value) (w : eW) (k : Option Value → eW → Option ρ) (x : ρ) (h : K_mm_firsts as w k = some x) : ∃ (v : Option Value) (w2 : eW), k v w2 = some x ∧ eMet l ad D cA vwCl SHm SSm yX12_firsts (eWd yX12_firsts cX12_firsts 4 (some .long)) { frames := 6, cells := 0, slots := 0, locals := 127 } as w v w2 := by
  unfold K_mm_firsts at h
  split at h
  · rename_i r0
    obtain ⟨h1, h5⟩ := eBif h
    clear h
    have h := h5
    clear h5
    have h1 := Nat.eq_of_beq_eq_true h1
    subst h1
    obtain ⟨q, h2, h3⟩ := Option.bind_eq_some_iff.mp h
    exact ⟨_, _, h3, eMet_of (by decide +kernel) rfl (by simp [eCat, Value.category]) rJ_ret (fun p e s m args below meth c hcx => go_mm_firsts hcx w q h2)⟩
  · cases h
def CX12_firstsOf : eCo := [[some (.lconst 0), some (.lstore_n 2), some (.iconst 0), some (.istore 4), none, some (.iload 4), none, some (.aload_n 0), some (.getfield 98), none, none, some (.if_icmp .ge 53), none, none, some (.lload_n 2), some (.aload_n 0)],
  [some (.getfield 7), none, none, some (.iload 4), none, some (.iaload), some (.iconst 2), some (.if_icmp .ne 32), none, none, some (.aload_n 0), some (.getfield 19), none, none, some (.iload 4), none],
  [some (.iaload), some (.iload_n 1), some (.if_icmp .ne 21), none, none, some (.aload_n 0), some (.getfield 13), none, none, some (.iload 4), none, some (.iaload), some (.i2l), some (.aload_n 0), some (.iload 4), none],
  [some (.invokevirtual 268), none, none, some (.lmul), some (.goto 4), none, none, some (.lconst 0), some (.ladd), some (.lstore_n 2), some (.iinc 4 1), none, none, some (.goto (-56)), none, none],
  [some (.lload_n 2), some (.lreturn)]]
theorem dcX12_firstsOf : eDec cX12_firstsOf CX12_firstsOf := eDec_of (by decide +kernel)
def rs_mm_firstsOf : List (Nat × eR) := [(7, (0, 11, 5, 2)), (13, (0, 11, 6, 2)), (19, (0, 11, 8, 2)), (98, (0, 11, 1, 0)), (268, (1, 0, 1, 11))]
noncomputable def cs_mm_firstsOf : List (eF (Int64 × eW)) := [K_mm_firstOf]
noncomputable def f_mm_firstsOf_L5 : Nat → Int32 → Int64 → Int32 → eW → Option (Int64 × eW)
  | 0, _, _, _, _ => none
  | n + 1, a1, a2, a4, w => (if (w.1 24 1) ≤ a4 then (some (a2, w)) else (eChk a4 24 (if ¬ (w.1 0 (Int32.toNatClampNeg a4)) = (2 : Int32) then (f_mm_firstsOf_L5 n a1 (a2 + (0 : Int64)) (a4 + (1 : Int32)) w) else (eChk a4 24 (if ¬ (w.1 3 (Int32.toNatClampNeg a4)) = a1 then (f_mm_firstsOf_L5 n a1 (a2 + (0 : Int64)) (a4 + (1 : Int32)) w) else (eChk a4 24 ((f_mm_firstOf a4 w).bind fun p1 => (f_mm_firstsOf_L5 n a1 (a2 + ((((w.1 1 (Int32.toNatClampNeg a4))).toInt64) * p1.1)) (a4 + (1 : Int32)) p1.2))))))))
noncomputable def f_mm_firstsOf (a1 : Int32) (w : eW) : Option (Int64 × eW) := (f_mm_firstsOf_L5 eFu a1 (0 : Int64) (0 : Int32) w)
noncomputable def K_mm_firstsOf {ρ : Type} : eF ρ := fun as w k => match as with
  | [.ref r0, .int a1] => bif Nat.beq r0 24 then (f_mm_firstsOf a1 w).bind (fun p => k (some (.long p.1)) p.2) else none
  | _ => none
section
variable {p : Program} {l : Launch} {e : Env} {s : State} {m : MethodId} {args : Array Value} {below : List Frame} {meth : Method} {c : Code} {ad : Nat → Nat} {D : va_G} {cA : Nat → ClassId}
theorem lk_mm_firstsOf : ∀ q ∈ rs_mm_firstsOf, eLnk { frames := 6, cells := 0, slots := 0, locals := 127 } vwCl (eWd yX12_firstsOf cX12_firstsOf 5 (some .long)) SSm SHm.length RX12 q.1 q.2 := List.forall_mem_cons.mpr ⟨lkX12_7 eTb_wd, List.forall_mem_cons.mpr ⟨lkX12_13 eTb_wd, List.forall_mem_cons.mpr ⟨lkX12_19 eTb_wd, List.forall_mem_cons.mpr ⟨lkX12_98 eTb_wd, List.forall_mem_cons.mpr ⟨trivial, fun _ h => absurd h List.not_mem_nil⟩⟩⟩⟩⟩
theorem hc_mm_firstsOf {x : Int64 × eW} : ∀ q ∈ rs_mm_firstsOf, eHc l { frames := 6, cells := 0, slots := 0, locals := 127 } ad D cA vwCl SHm SSm (eWd yX12_firstsOf cX12_firstsOf 5 (some .long)) RX12 cs_mm_firstsOf x q := List.forall_mem_cons.mpr ⟨trivial, List.forall_mem_cons.mpr ⟨trivial, List.forall_mem_cons.mpr ⟨trivial, List.forall_mem_cons.mpr ⟨trivial, List.forall_mem_cons.mpr ⟨(fun as w k h => let ⟨v, w2, h1, h2⟩ := ok_mm_firstOf as w k x h; ⟨v, w2, h1, eCal_of h2 ⟨rfl, rfl⟩ hdX12_firstOf (gvX12_268 eTb_wd)⟩), fun _ h => absurd h List.not_mem_nil⟩⟩⟩⟩⟩
noncomputable def kk_mm_firstsOf_5 (n : Nat) : eK (Int64 × eW) := fun pc L st w => bif Nat.beq pc 5 then (lR L 0 24 ((lI L 1).bind fun a1 => (lJ L 2).bind fun a2 => (lI L 4).bind fun a4 => sE st (f_mm_firstsOf_L5 n a1 a2 a4 w))) else none
set_option maxRecDepth 100000 in
set_option maxHeartbeats 4000000 in
theorem go_mm_firstsOf_L5 (hcx : eCx p { frames := 6, cells := 0, slots := 0, locals := 127 } s m args meth c cX12_firstsOf RX12 5 ad D cA vwCl SHm SSm (eWd yX12_firstsOf cX12_firstsOf 5 (some .long)) (some .long)) {x : Int64 × eW} : ∀ (n : Nat) (a1 : Int32) (a2 : Int64) (a4 : Int32) (w : eW), f_mm_firstsOf_L5  n a1 a2 a4 w = some x → eGq p l e { frames := 6, cells := 0, slots := 0, locals := 127 } s m args below meth c 5 ad D cA vwCl SHm rJ x 5 [some (.ref 24), some (.int a1), some (.long a2), none, some (.int a4)] [] w := by
  intro n
  induction n with
  | zero => intro a1 a2 a4 w h; exact nomatch (show (none : Option (Int64 × eW)) = some x from h)
  | succ n ih =>
    intro a1 a2 a4 w h
    have h : eRun SHm SSm 5 rs_mm_firstsOf (eCs cs_mm_firstsOf) rJ CX12_firstsOf [5] (kk_mm_firstsOf_5  n) 34 true 5 [some (.ref 24), some (.int a1), some (.long a2), none, some (.int a4)] [] w = some x := h
    refine eRun_go hcx (eLnk_all lk_mm_firstsOf) (eHc_all hc_mm_firstsOf) rJ_ok dcX12_firstsOf [5] _ (fun pc L st w hK => ?_) 34 true 5 _ _ w h
    unfold kk_mm_firstsOf_5 at hK
    rcases eCut hK with ⟨hpc, hK⟩ | hK
    · subst hpc
      obtain ⟨e0, hK_1⟩ := lR_some hK
      obtain ⟨a1, e1, hK_2⟩ := lI_some hK_1
      obtain ⟨a2, e2, hK_3⟩ := lJ_some hK_2
      obtain ⟨a4, e4, hK_4⟩ := lI_some hK_3
      obtain ⟨hst9, hK_5⟩ := sE_some hK_4
      subst hst9
      exact eGo.wk (ih a1 a2 a4 w hK_5) (eLe_wk ⟨e0, e1, e2, e4, trivial⟩)
    cases hK
set_option maxRecDepth 100000 in
set_option maxHeartbeats 4000000 in
theorem go_mm_firstsOf (hcx : eCx p { frames := 6, cells := 0, slots := 0, locals := 127 } s m args meth c cX12_firstsOf RX12 5 ad D cA vwCl SHm SSm (eWd yX12_firstsOf cX12_firstsOf 5 (some .long)) (some .long)) (a1 : Int32) (w : eW) (x : Int64 × eW) (h : f_mm_firstsOf a1 w = some x) : eGq p l e { frames := 6, cells := 0, slots := 0, locals := 127 } s m args below meth c 5 ad D cA vwCl SHm rJ x 0 (eEnt [.ref 24, .int a1]) [] w := by
  have h : eRun SHm SSm 5 rs_mm_firstsOf (eCs cs_mm_firstsOf) rJ CX12_firstsOf [5] (fun pc L st w => bif Nat.beq pc 5 then (lR L 0 24 ((lI L 1).bind fun a1 => (lJ L 2).bind fun a2 => (lI L 4).bind fun a4 => sE st (f_mm_firstsOf_L5 eFu a1 a2 a4 w))) else none) 7 true 0 [some (.ref 24), some (.int a1), none, none, none] [] w = some x := h
  refine eGo.wk (eRun_go hcx (eLnk_all lk_mm_firstsOf) (eHc_all hc_mm_firstsOf) rJ_ok dcX12_firstsOf [5] _ (fun pc L st w hK => ?_) 7 true 0 _ _ w h) (eLe_wk ⟨rfl, rfl, trivial⟩)
  rcases eCut hK with ⟨hpc, hK⟩ | hK
  · subst hpc
    obtain ⟨e0, hK_1⟩ := lR_some hK
    obtain ⟨a1, e1, hK_2⟩ := lI_some hK_1
    obtain ⟨a2, e2, hK_3⟩ := lJ_some hK_2
    obtain ⟨a4, e4, hK_4⟩ := lI_some hK_3
    obtain ⟨hst9, hK_5⟩ := sE_some hK_4
    subst hst9
    exact eGo.wk (go_mm_firstsOf_L5 hcx  eFu a1 a2 a4 w hK_5) (eLe_wk ⟨e0, e1, e2, e4, trivial⟩)
  cases hK
end
set_option maxRecDepth 100000 in
set_option maxHeartbeats 4000000 in
theorem ok_mm_firstsOf {l : Launch} {ad : Nat → Nat} {D : va_G} {cA : Nat → ClassId} {ρ : Type} (as : List Value) (w : eW) (k : Option Value → eW → Option ρ) (x : ρ) (h : K_mm_firstsOf as w k = some x) : ∃ (v : Option Value) (w2 : eW), k v w2 = some x ∧ eMet l ad D cA vwCl SHm SSm yX12_firstsOf (eWd yX12_firstsOf cX12_firstsOf 5 (some .long)) { frames := 6, cells := 0, slots := 0, locals := 127 } as w v w2 := by
  unfold K_mm_firstsOf at h
  split at h
  · rename_i r0 a1
    obtain ⟨h1, h5⟩ := eBif h
    clear h
    have h := h5
    clear h5
    have h1 := Nat.eq_of_beq_eq_true h1
    subst h1
    obtain ⟨q, h2, h3⟩ := Option.bind_eq_some_iff.mp h
    exact ⟨_, _, h3, eMet_of (by decide +kernel) rfl (by simp [eCat, Value.category]) rJ_ret (fun p e s m args below meth c hcx => go_mm_firstsOf hcx a1 w q h2)⟩
  · cases h
def CX12_layRanks : eCo := [[some (.lload_n 1), some (.lstore_n 3), some (.iconst 0), some (.istore 5), none, some (.iload 5), none, some (.iconst 5), some (.if_icmp .ge 29), none, none, some (.lload_n 3), some (.aload_n 0), some (.iload 5), none, some (.invokevirtual 278)],
  [none, none, some (.lcmp), some (.ifCond .lt 18), none, none, some (.lload_n 3), some (.aload_n 0), some (.iload 5), none, some (.invokevirtual 278), none, none, some (.lsub), some (.lstore_n 3), some (.iinc 5 1)],
  [none, none, some (.goto (-29)), none, none, some (.aload_n 0), some (.iload 5), none, some (.invokevirtual 278), none, none, some (.lstore 6), none, some (.aload_n 0), some (.lload 6), none],
  [some (.lconst 0), some (.lcmp), some (.ifCond .ne 7), none, none, some (.lconst 1), some (.goto 5), none, none, some (.lload 6), none, some (.putfield 66), none, none, some (.iconst 0), some (.istore 8)],
  [none, some (.iload 8), none, some (.aload_n 0), some (.getfield 98), none, none, some (.if_icmp .ge 97), none, none, some (.aload_n 0), some (.getfield 7), none, none, some (.iload 8), none],
  [some (.iaload), some (.iconst 2), some (.if_icmp .ne 21), none, none, some (.aload_n 0), some (.getfield 13), none, none, some (.iload 8), none, some (.iaload), some (.i2l), some (.aload_n 0), some (.iload 8), none],
  [some (.invokevirtual 268), none, none, some (.lmul), some (.goto 4), none, none, some (.lconst 0), some (.lstore 9), none, some (.aload_n 0), some (.getfield 63), none, none, some (.iload 8), none],
  [some (.lload 9), none, some (.lconst 0), some (.lcmp), some (.ifCond .eq 15), none, none, some (.aload_n 0), some (.getfield 19), none, none, some (.iload 8), none, some (.iaload), some (.iload 5), none],
  [some (.if_icmp .le 7), none, none, some (.lconst 0), some (.goto 29), none, none, some (.aload_n 0), some (.getfield 19), none, none, some (.iload 8), none, some (.iaload), some (.iload 5), none],
  [some (.if_icmp .ge 13), none, none, some (.lload 9), none, some (.aload_n 0), some (.getfield 66), none, none, some (.lmul), some (.goto 7), none, none, some (.lload 9), none, some (.lload_n 3)],
  [some (.lmul), some (.lastore), some (.iinc 8 1), none, none, some (.goto (-100)), none, none, some (.aload_n 0), some (.lconst 0), some (.putfield 281), none, none, some (.aload_n 0), some (.lconst 1), some (.putfield 70)],
  [none, none, some (.return_)]]
theorem dcX12_layRanks : eDec cX12_layRanks CX12_layRanks := eDec_of (by decide +kernel)
def rs_mm_layRanks : List (Nat × eR) := [(7, (0, 11, 5, 2)), (13, (0, 11, 6, 2)), (19, (0, 11, 8, 2)), (63, (0, 11, 37, 2)), (66, (0, 11, 38, 1)), (70, (0, 11, 40, 1)), (98, (0, 11, 1, 0)), (268, (1, 1, 1, 11)), (278, (1, 0, 1, 11)), (281, (0, 11, 39, 1))]
noncomputable def cs_mm_layRanks : List (eF (eW)) := [K_mm_firstsOf, K_mm_firstOf]
noncomputable def f_mm_layRanks_J104 (k65 : Int64 → Int32 → Int32 → eW → Option (eW)) (a3 : Int64) (a5 : Int32) (a8 : Int32) (s0 : Int64) (w : eW) : Option (eW) := (if (lg_cmp s0 (0 : Int64)) = 0 then (eChk a8 12 (k65 a3 a5 (a8 + (1 : Int32)) (eU2 w 16 (Int32.toNatClampNeg a8) (0 : Int64)))) else (eChk a8 24 (if (w.1 3 (Int32.toNatClampNeg a8)) ≤ a5 then (eChk a8 24 (if a5 ≤ (w.1 3 (Int32.toNatClampNeg a8)) then (eChk a8 12 (k65 a3 a5 (a8 + (1 : Int32)) (eU2 w 16 (Int32.toNatClampNeg a8) (s0 * a3)))) else (eChk a8 12 (k65 a3 a5 (a8 + (1 : Int32)) (eU2 w 16 (Int32.toNatClampNeg a8) (s0 * (w.2 24 38))))))) else (eChk a8 12 (k65 a3 a5 (a8 + (1 : Int32)) (eU2 w 16 (Int32.toNatClampNeg a8) (0 : Int64)))))))
noncomputable def f_mm_layRanks_L65 : Nat → Int64 → Int32 → Int32 → eW → Option (eW)
  | 0, _, _, _, _ => none
  | n + 1, a3, a5, a8, w => (if (w.1 24 1) ≤ a8 then (some (eU2 (eU2 w 24 39 (0 : Int64)) 24 40 (1 : Int64))) else (eChk a8 24 (if ¬ (w.1 0 (Int32.toNatClampNeg a8)) = (2 : Int32) then (f_mm_layRanks_J104 (f_mm_layRanks_L65 n) a3 a5 a8 (0 : Int64) w) else (eChk a8 24 ((f_mm_firstOf a8 w).bind fun p5 => (f_mm_layRanks_J104 (f_mm_layRanks_L65 n) a3 a5 a8 ((((w.1 1 (Int32.toNatClampNeg a8))).toInt64) * p5.1) p5.2))))))
noncomputable def f_mm_layRanks_L5 : Nat → Int64 → Int32 → eW → Option (eW)
  | 0, _, _, _ => none
  | n + 1, a3, a5, w => (if (5 : Int32) ≤ a5 then ((f_mm_firstsOf a5 w).bind fun p1 => (if ¬ (lg_cmp p1.1 (0 : Int64)) = 0 then (f_mm_layRanks_L65 eFu a3 a5 (0 : Int32) (eU2 p1.2 24 38 p1.1)) else (f_mm_layRanks_L65 eFu a3 a5 (0 : Int32) (eU2 p1.2 24 38 (1 : Int64))))) else ((f_mm_firstsOf a5 w).bind fun p2 => (if (lg_cmp a3 p2.1) < 0 then ((f_mm_firstsOf a5 p2.2).bind fun p3 => (if ¬ (lg_cmp p3.1 (0 : Int64)) = 0 then (f_mm_layRanks_L65 eFu a3 a5 (0 : Int32) (eU2 p3.2 24 38 p3.1)) else (f_mm_layRanks_L65 eFu a3 a5 (0 : Int32) (eU2 p3.2 24 38 (1 : Int64))))) else ((f_mm_firstsOf a5 p2.2).bind fun p4 => (f_mm_layRanks_L5 n (a3 - p4.1) (a5 + (1 : Int32)) p4.2)))))
noncomputable def f_mm_layRanks (a1 : Int64) (w : eW) : Option (eW) := (f_mm_layRanks_L5 eFu a1 (0 : Int32) w)
noncomputable def K_mm_layRanks {ρ : Type} : eF ρ := fun as w k => match as with
  | [.ref r0, .long a1] => bif Nat.beq r0 24 then (f_mm_layRanks a1 w).bind (fun w => k none w) else none
  | _ => none
section
variable {p : Program} {l : Launch} {e : Env} {s : State} {m : MethodId} {args : Array Value} {below : List Frame} {meth : Method} {c : Code} {ad : Nat → Nat} {D : va_G} {cA : Nat → ClassId}
theorem lk_mm_layRanks : ∀ q ∈ rs_mm_layRanks, eLnk { frames := 7, cells := 0, slots := 0, locals := 151 } vwCl (eWd yX12_layRanks cX12_layRanks 11 none) SSm SHm.length RX12 q.1 q.2 := List.forall_mem_cons.mpr ⟨lkX12_7 eTb_wd, List.forall_mem_cons.mpr ⟨lkX12_13 eTb_wd, List.forall_mem_cons.mpr ⟨lkX12_19 eTb_wd, List.forall_mem_cons.mpr ⟨lkX12_63 eTb_wd, List.forall_mem_cons.mpr ⟨lkX12_66 eTb_wd, List.forall_mem_cons.mpr ⟨lkX12_70 eTb_wd, List.forall_mem_cons.mpr ⟨lkX12_98 eTb_wd, List.forall_mem_cons.mpr ⟨trivial, List.forall_mem_cons.mpr ⟨trivial, List.forall_mem_cons.mpr ⟨lkX12_281 eTb_wd, fun _ h => absurd h List.not_mem_nil⟩⟩⟩⟩⟩⟩⟩⟩⟩⟩
theorem hc_mm_layRanks {x : eW} : ∀ q ∈ rs_mm_layRanks, eHc l { frames := 7, cells := 0, slots := 0, locals := 151 } ad D cA vwCl SHm SSm (eWd yX12_layRanks cX12_layRanks 11 none) RX12 cs_mm_layRanks x q := List.forall_mem_cons.mpr ⟨trivial, List.forall_mem_cons.mpr ⟨trivial, List.forall_mem_cons.mpr ⟨trivial, List.forall_mem_cons.mpr ⟨trivial, List.forall_mem_cons.mpr ⟨trivial, List.forall_mem_cons.mpr ⟨trivial, List.forall_mem_cons.mpr ⟨trivial, List.forall_mem_cons.mpr ⟨(fun as w k h => let ⟨v, w2, h1, h2⟩ := ok_mm_firstOf as w k x h; ⟨v, w2, h1, eCal_of h2 ⟨rfl, rfl⟩ hdX12_firstOf (gvX12_268 eTb_wd)⟩), List.forall_mem_cons.mpr ⟨(fun as w k h => let ⟨v, w2, h1, h2⟩ := ok_mm_firstsOf as w k x h; ⟨v, w2, h1, eCal_of h2 ⟨rfl, rfl⟩ hdX12_firstsOf (gvX12_278 eTb_wd)⟩), List.forall_mem_cons.mpr ⟨trivial, fun _ h => absurd h List.not_mem_nil⟩⟩⟩⟩⟩⟩⟩⟩⟩⟩
noncomputable def kk_mm_layRanks_104 (k65 : Int64 → Int32 → Int32 → eW → Option (eW)) : eK (eW) := fun pc L st w => bif Nat.beq pc 65 then (lR L 0 24 ((lJ L 3).bind fun a3 => (lI L 5).bind fun a5 => (lI L 8).bind fun a8 => sE st (k65 a3 a5 a8 w))) else none
set_option maxRecDepth 100000 in
set_option maxHeartbeats 4000000 in
theorem go_mm_layRanks_J104 (hcx : eCx p { frames := 7, cells := 0, slots := 0, locals := 151 } s m args meth c cX12_layRanks RX12 11 ad D cA vwCl SHm SSm (eWd yX12_layRanks cX12_layRanks 11 none) (none)) {x : eW} (k65 : Int64 → Int32 → Int32 → eW → Option (eW)) (hk65 : ∀ (a3 : Int64) (a5 : Int32) (a8 : Int32) (w : eW), k65 a3 a5 a8 w = some x → eGq p l e { frames := 7, cells := 0, slots := 0, locals := 151 } s m args below meth c 11 ad D cA vwCl SHm rV x 65 [some (.ref 24), none, none, some (.long a3), none, some (.int a5), none, none, some (.int a8), none, none] [] w) : ∀ (a3 : Int64) (a5 : Int32) (a8 : Int32) (s0 : Int64) (w : eW), f_mm_layRanks_J104 k65 a3 a5 a8 s0 w = some x → eGq p l e { frames := 7, cells := 0, slots := 0, locals := 151 } s m args below meth c 11 ad D cA vwCl SHm rV x 104 [some (.ref 24), none, none, some (.long a3), none, some (.int a5), none, none, some (.int a8), none, none] [.long s0] w := by
  intro a3 a5 a8 s0 w h
  have h : eRun SHm SSm 11 rs_mm_layRanks (eCs cs_mm_layRanks) rV CX12_layRanks [5, 65, 104] (kk_mm_layRanks_104 k65) 31 true 104 [some (.ref 24), none, none, some (.long a3), none, some (.int a5), none, none, some (.int a8), none, none] [.long s0] w = some x := h
  refine eRun_go hcx (eLnk_all lk_mm_layRanks) (eHc_all hc_mm_layRanks) rV_ok dcX12_layRanks [5, 65, 104] _ (fun pc L st w hK => ?_) 31 true 104 _ _ w h
  unfold kk_mm_layRanks_104 at hK
  rcases eCut hK with ⟨hpc, hK⟩ | hK
  · subst hpc
    obtain ⟨e0, hK_1⟩ := lR_some hK
    obtain ⟨a3, e3, hK_2⟩ := lJ_some hK_1
    obtain ⟨a5, e5, hK_3⟩ := lI_some hK_2
    obtain ⟨a8, e8, hK_4⟩ := lI_some hK_3
    obtain ⟨hst9, hK_5⟩ := sE_some hK_4
    subst hst9
    exact eGo.wk (hk65 a3 a5 a8 w hK_5) (eLe_wk ⟨e0, e3, e5, e8, trivial⟩)
  cases hK
noncomputable def kk_mm_layRanks_65 (n : Nat) : eK (eW) := fun pc L st w => bif Nat.beq pc 104 then (lR L 0 24 ((lJ L 3).bind fun a3 => (lI L 5).bind fun a5 => (lI L 8).bind fun a8 => sJ st (fun s0 st1 => sE st1 (f_mm_layRanks_J104 (f_mm_layRanks_L65 n) a3 a5 a8 s0 w)))) else none
set_option maxRecDepth 100000 in
set_option maxHeartbeats 4000000 in
theorem go_mm_layRanks_L65 (hcx : eCx p { frames := 7, cells := 0, slots := 0, locals := 151 } s m args meth c cX12_layRanks RX12 11 ad D cA vwCl SHm SSm (eWd yX12_layRanks cX12_layRanks 11 none) (none)) {x : eW} : ∀ (n : Nat) (a3 : Int64) (a5 : Int32) (a8 : Int32) (w : eW), f_mm_layRanks_L65  n a3 a5 a8 w = some x → eGq p l e { frames := 7, cells := 0, slots := 0, locals := 151 } s m args below meth c 11 ad D cA vwCl SHm rV x 65 [some (.ref 24), none, none, some (.long a3), none, some (.int a5), none, none, some (.int a8), none, none] [] w := by
  intro n
  induction n with
  | zero => intro a3 a5 a8 w h; exact nomatch (show (none : Option (eW)) = some x from h)
  | succ n ih =>
    intro a3 a5 a8 w h
    have h : eRun SHm SSm 11 rs_mm_layRanks (eCs cs_mm_layRanks) rV CX12_layRanks [5, 65, 104] (kk_mm_layRanks_65  n) 23 true 65 [some (.ref 24), none, none, some (.long a3), none, some (.int a5), none, none, some (.int a8), none, none] [] w = some x := h
    refine eRun_go hcx (eLnk_all lk_mm_layRanks) (eHc_all hc_mm_layRanks) rV_ok dcX12_layRanks [5, 65, 104] _ (fun pc L st w hK => ?_) 23 true 65 _ _ w h
    unfold kk_mm_layRanks_65 at hK
    rcases eCut hK with ⟨hpc, hK⟩ | hK
    · subst hpc
      obtain ⟨e0, hK_1⟩ := lR_some hK
      obtain ⟨a3, e3, hK_2⟩ := lJ_some hK_1
      obtain ⟨a5, e5, hK_3⟩ := lI_some hK_2
      obtain ⟨a8, e8, hK_4⟩ := lI_some hK_3
      obtain ⟨s0, st1, hst0, hK_5⟩ := sJ_some hK_4
      subst hst0
      obtain ⟨hst9, hK_6⟩ := sE_some hK_5
      subst hst9
      exact eGo.wk (go_mm_layRanks_J104 hcx (f_mm_layRanks_L65 n) ih a3 a5 a8 s0 w hK_6) (eLe_wk ⟨e0, e3, e5, e8, trivial⟩)
    cases hK
noncomputable def kk_mm_layRanks_5 (n : Nat) : eK (eW) := fun pc L st w => bif Nat.beq pc 65 then (lR L 0 24 ((lJ L 3).bind fun a3 => (lI L 5).bind fun a5 => (lI L 8).bind fun a8 => sE st (f_mm_layRanks_L65 eFu a3 a5 a8 w))) else (bif Nat.beq pc 5 then (lR L 0 24 ((lJ L 3).bind fun a3 => (lI L 5).bind fun a5 => sE st (f_mm_layRanks_L5 n a3 a5 w))) else none)
set_option maxRecDepth 100000 in
set_option maxHeartbeats 4000000 in
theorem go_mm_layRanks_L5 (hcx : eCx p { frames := 7, cells := 0, slots := 0, locals := 151 } s m args meth c cX12_layRanks RX12 11 ad D cA vwCl SHm SSm (eWd yX12_layRanks cX12_layRanks 11 none) (none)) {x : eW} : ∀ (n : Nat) (a3 : Int64) (a5 : Int32) (w : eW), f_mm_layRanks_L5  n a3 a5 w = some x → eGq p l e { frames := 7, cells := 0, slots := 0, locals := 151 } s m args below meth c 11 ad D cA vwCl SHm rV x 5 [some (.ref 24), none, none, some (.long a3), none, some (.int a5), none, none, none, none, none] [] w := by
  intro n
  induction n with
  | zero => intro a3 a5 w h; exact nomatch (show (none : Option (eW)) = some x from h)
  | succ n ih =>
    intro a3 a5 w h
    have h : eRun SHm SSm 11 rs_mm_layRanks (eCs cs_mm_layRanks) rV CX12_layRanks [5, 65, 104] (kk_mm_layRanks_5  n) 26 true 5 [some (.ref 24), none, none, some (.long a3), none, some (.int a5), none, none, none, none, none] [] w = some x := h
    refine eRun_go hcx (eLnk_all lk_mm_layRanks) (eHc_all hc_mm_layRanks) rV_ok dcX12_layRanks [5, 65, 104] _ (fun pc L st w hK => ?_) 26 true 5 _ _ w h
    unfold kk_mm_layRanks_5 at hK
    rcases eCut hK with ⟨hpc, hK⟩ | hK
    · subst hpc
      obtain ⟨e0, hK_1⟩ := lR_some hK
      obtain ⟨a3, e3, hK_2⟩ := lJ_some hK_1
      obtain ⟨a5, e5, hK_3⟩ := lI_some hK_2
      obtain ⟨a8, e8, hK_4⟩ := lI_some hK_3
      obtain ⟨hst9, hK_5⟩ := sE_some hK_4
      subst hst9
      exact eGo.wk (go_mm_layRanks_L65 hcx  eFu a3 a5 a8 w hK_5) (eLe_wk ⟨e0, e3, e5, e8, trivial⟩)
    rcases eCut hK with ⟨hpc, hK⟩ | hK
    · subst hpc
      obtain ⟨e0, hK_1⟩ := lR_some hK
      obtain ⟨a3, e3, hK_2⟩ := lJ_some hK_1
      obtain ⟨a5, e5, hK_3⟩ := lI_some hK_2
      obtain ⟨hst9, hK_4⟩ := sE_some hK_3
      subst hst9
      exact eGo.wk (ih a3 a5 w hK_4) (eLe_wk ⟨e0, e3, e5, trivial⟩)
    cases hK
set_option maxRecDepth 100000 in
set_option maxHeartbeats 4000000 in
theorem go_mm_layRanks (hcx : eCx p { frames := 7, cells := 0, slots := 0, locals := 151 } s m args meth c cX12_layRanks RX12 11 ad D cA vwCl SHm SSm (eWd yX12_layRanks cX12_layRanks 11 none) (none)) (a1 : Int64) (w : eW) (x : eW) (h : f_mm_layRanks a1 w = some x) : eGq p l e { frames := 7, cells := 0, slots := 0, locals := 151 } s m args below meth c 11 ad D cA vwCl SHm rV x 0 (eEnt [.ref 24, .long a1]) [] w := by
  have h : eRun SHm SSm 11 rs_mm_layRanks (eCs cs_mm_layRanks) rV CX12_layRanks [5, 65, 104] (fun pc L st w => bif Nat.beq pc 5 then (lR L 0 24 ((lJ L 3).bind fun a3 => (lI L 5).bind fun a5 => sE st (f_mm_layRanks_L5 eFu a3 a5 w))) else none) 7 true 0 [some (.ref 24), some (.long a1), none, none, none, none, none, none, none, none, none] [] w = some x := h
  refine eGo.wk (eRun_go hcx (eLnk_all lk_mm_layRanks) (eHc_all hc_mm_layRanks) rV_ok dcX12_layRanks [5, 65, 104] _ (fun pc L st w hK => ?_) 7 true 0 _ _ w h) (eLe_wk ⟨rfl, rfl, trivial⟩)
  rcases eCut hK with ⟨hpc, hK⟩ | hK
  · subst hpc
    obtain ⟨e0, hK_1⟩ := lR_some hK
    obtain ⟨a3, e3, hK_2⟩ := lJ_some hK_1
    obtain ⟨a5, e5, hK_3⟩ := lI_some hK_2
    obtain ⟨hst9, hK_4⟩ := sE_some hK_3
    subst hst9
    exact eGo.wk (go_mm_layRanks_L5 hcx  eFu a3 a5 w hK_4) (eLe_wk ⟨e0, e3, e5, trivial⟩)
  cases hK
end
set_option maxRecDepth 100000 in
set_option maxHeartbeats 4000000 in
theorem ok_mm_layRanks {l : Launch} {ad : Nat → Nat} {D : va_G} {cA : Nat → ClassId} {ρ : Type} (as : List Value) (w : eW) (k : Option Value → eW → Option ρ) (x : ρ) (h : K_mm_layRanks as w k = some x) : ∃ (v : Option Value) (w2 : eW), k v w2 = some x ∧ eMet l ad D cA vwCl SHm SSm yX12_layRanks (eWd yX12_layRanks cX12_layRanks 11 none) { frames := 7, cells := 0, slots := 0, locals := 151 } as w v w2 := by
  unfold K_mm_layRanks at h
  split at h
  · rename_i r0 a1
    obtain ⟨h1, h5⟩ := eBif h
    clear h
    have h := h5
    clear h5
    have h1 := Nat.eq_of_beq_eq_true h1
    subst h1
    obtain ⟨q, h2, h3⟩ := Option.bind_eq_some_iff.mp h
    exact ⟨_, _, h3, eMet_of (by decide +kernel) rfl (by simp [eCat, Value.category]) rV_ret (fun p e s m args below meth c hcx => go_mm_layRanks hcx a1 w q h2)⟩
  · cases h
