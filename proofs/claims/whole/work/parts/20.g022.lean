def CX1_add : eCo := [[some (.lload_n 1), some (.lload_n 3), some (.iconst 0), some (.invokestatic 62), none, none, some (.lstore 5), none, some (.lload_n 1), some (.lload_n 3), some (.iconst 1), some (.invokestatic 62), none, none, some (.lstore 7), none],
  [some (.aload_n 0), some (.getfield 22), none, none, some (.ifCond .le 41), none, none, some (.aload_n 0), some (.getfield 11), none, none, some (.aload_n 0), some (.getfield 22), none, none, some (.iconst 1)],
  [some (.isub), some (.laload), some (.lload 5), none, some (.lcmp), some (.ifCond .ne 24), none, none, some (.aload_n 0), some (.getfield 15), none, none, some (.aload_n 0), some (.getfield 22), none, none],
  [some (.iconst 1), some (.isub), some (.laload), some (.lload 7), none, some (.lcmp), some (.ifCond .ne 7), none, none, some (.iconst 1), some (.goto 4), none, none, some (.iconst 0), some (.istore 9), none],
  [some (.lload 5), none, some (.lconst 0), some (.lcmp), some (.ifCond .le 49), none, none, some (.iload 9), none, some (.ifCond .ne 44), none, none, some (.aload_n 0), some (.getfield 22), none, none],
  [some (.bipush 30), none, some (.if_icmp .ge 35), none, none, some (.aload_n 0), some (.getfield 11), none, none, some (.aload_n 0), some (.getfield 22), none, none, some (.lload 5), none, some (.lastore)],
  [some (.aload_n 0), some (.getfield 15), none, none, some (.aload_n 0), some (.getfield 22), none, none, some (.lload 7), none, some (.lastore), some (.aload_n 0), some (.dup), some (.getfield 22), none, none],
  [some (.iconst 1), some (.iadd), some (.putfield 22), none, none, some (.return_)]]
theorem dcX1_add : eDec cX1_add CX1_add := eDec_of (by decide +kernel)
def rs_br_add : List (Nat × eR) := [(11, (0, 1, 0, 2)), (15, (0, 1, 1, 2)), (22, (0, 1, 2, 0)), (62, (1, 0, 3, -1))]
noncomputable def cs_br_add : List (eF (eW)) := [K_nu_lowest]
noncomputable def f_br_add_J62 (a5 : Int64) (a7 : Int64) (s0 : Int32) (w : eW) : Option (eW) := (if (lg_cmp a5 (0 : Int64)) ≤ 0 then (some w) else (if ¬ s0 = 0 then (some w) else (if (30 : Int32) ≤ (w.1 27 2) then (some w) else (eChk (w.1 27 2) 30 (eChk (w.1 27 2) 30 (some (eU1 (eU2 (eU2 w 25 (Int32.toNatClampNeg (w.1 27 2)) a5) 26 (Int32.toNatClampNeg (w.1 27 2)) a7) 27 2 ((w.1 27 2) + (1 : Int32)))))))))
noncomputable def f_br_add (a1 : Int64) (a3 : Int64) (w : eW) : Option (eW) := ((f_nu_lowest a1 a3 (0 : Int32) w).bind fun p1 => ((f_nu_lowest a1 a3 (1 : Int32) p1.2).bind fun p2 => (if (p2.2.1 27 2) ≤ 0 then (f_br_add_J62 p1.1 p2.1 (0 : Int32) p2.2) else (eChk ((p2.2.1 27 2) - (1 : Int32)) 30 (if ¬ (lg_cmp (p2.2.2 25 (Int32.toNatClampNeg ((p2.2.1 27 2) - (1 : Int32)))) p1.1) = 0 then (f_br_add_J62 p1.1 p2.1 (0 : Int32) p2.2) else (eChk ((p2.2.1 27 2) - (1 : Int32)) 30 (if ¬ (lg_cmp (p2.2.2 26 (Int32.toNatClampNeg ((p2.2.1 27 2) - (1 : Int32)))) p2.1) = 0 then (f_br_add_J62 p1.1 p2.1 (0 : Int32) p2.2) else (f_br_add_J62 p1.1 p2.1 (1 : Int32) p2.2))))))))
noncomputable def K_br_add {ρ : Type} : eF ρ := fun as w k => match as with
  | [.ref r0, .long a1, .long a3] => bif Nat.beq r0 27 then (f_br_add a1 a3 w).bind (fun w => k none w) else none
  | _ => none
section
variable {p : Program} {l : Launch} {e : Env} {s : State} {m : MethodId} {args : Array Value} {below : List Frame} {meth : Method} {c : Code} {ad : Nat → Nat} {D : va_G} {cA : Nat → ClassId}
theorem lk_br_add : ∀ q ∈ rs_br_add, eLnk { frames := 3, cells := 0, slots := 0, locals := 116 } vwCl (eWd yX1_add cX1_add 10 none) SSc SHc.length RX1 q.1 q.2 := List.forall_mem_cons.mpr ⟨lkX1_11 eTb_wd, List.forall_mem_cons.mpr ⟨lkX1_15 eTb_wd, List.forall_mem_cons.mpr ⟨lkX1_22 eTb_wd, List.forall_mem_cons.mpr ⟨trivial, fun _ h => absurd h List.not_mem_nil⟩⟩⟩⟩
theorem hc_br_add {x : eW} : ∀ q ∈ rs_br_add, eHc l { frames := 3, cells := 0, slots := 0, locals := 116 } ad D cA vwCl SHc SSc (eWd yX1_add cX1_add 10 none) RX1 cs_br_add x q := List.forall_mem_cons.mpr ⟨trivial, List.forall_mem_cons.mpr ⟨trivial, List.forall_mem_cons.mpr ⟨trivial, List.forall_mem_cons.mpr ⟨(fun as w k h => let ⟨v, w2, h1, h2⟩ := ok_nu_lowest as w k x h; ⟨v, w2, h1, eCal_of h2 ⟨rfl, rfl⟩ hdX7_lowest (gvX1_62 eTb_wd)⟩), fun _ h => absurd h List.not_mem_nil⟩⟩⟩⟩
noncomputable def kk_br_add_62 : eK (eW) := fun pc L st w => none
set_option maxRecDepth 100000 in
set_option maxHeartbeats 4000000 in
theorem go_br_add_J62 (hcx : eCx p { frames := 3, cells := 0, slots := 0, locals := 116 } s m args meth c cX1_add RX1 10 ad D cA vwCl SHc SSc (eWd yX1_add cX1_add 10 none) (none)) {x : eW} : ∀ (a5 : Int64) (a7 : Int64) (s0 : Int32) (w : eW), f_br_add_J62  a5 a7 s0 w = some x → eGq p l e { frames := 3, cells := 0, slots := 0, locals := 116 } s m args below meth c 10 ad D cA vwCl SHc rV x 62 [some (.ref 27), none, none, none, none, some (.long a5), none, some (.long a7), none, none] [.int s0] w := by
  intro a5 a7 s0 w h
  have h : eRun SHc SSc 10 rs_br_add (eCs cs_br_add) rV CX1_add [62] (kk_br_add_62 ) 32 true 62 [some (.ref 27), none, none, none, none, some (.long a5), none, some (.long a7), none, none] [.int s0] w = some x := h
  refine eRun_go hcx (eLnk_all lk_br_add) (eHc_all hc_br_add) rV_ok dcX1_add [62] _ (fun pc L st w hK => ?_) 32 true 62 _ _ w h
  unfold kk_br_add_62 at hK
  cases hK
set_option maxRecDepth 100000 in
set_option maxHeartbeats 4000000 in
theorem go_br_add (hcx : eCx p { frames := 3, cells := 0, slots := 0, locals := 116 } s m args meth c cX1_add RX1 10 ad D cA vwCl SHc SSc (eWd yX1_add cX1_add 10 none) (none)) (a1 : Int64) (a3 : Int64) (w : eW) (x : eW) (h : f_br_add a1 a3 w = some x) : eGq p l e { frames := 3, cells := 0, slots := 0, locals := 116 } s m args below meth c 10 ad D cA vwCl SHc rV x 0 (eEnt [.ref 27, .long a1, .long a3]) [] w := by
  have h : eRun SHc SSc 10 rs_br_add (eCs cs_br_add) rV CX1_add [62] (fun pc L st w => bif Nat.beq pc 62 then (lR L 0 27 ((lJ L 5).bind fun a5 => (lJ L 7).bind fun a7 => sI st (fun s0 st1 => sE st1 (f_br_add_J62 a5 a7 s0 w)))) else none) 38 true 0 [some (.ref 27), some (.long a1), none, some (.long a3), none, none, none, none, none, none] [] w = some x := h
  refine eGo.wk (eRun_go hcx (eLnk_all lk_br_add) (eHc_all hc_br_add) rV_ok dcX1_add [62] _ (fun pc L st w hK => ?_) 38 true 0 _ _ w h) (eLe_wk ⟨rfl, rfl, rfl, trivial⟩)
  rcases eCut hK with ⟨hpc, hK⟩ | hK
  · subst hpc
    obtain ⟨e0, hK_1⟩ := lR_some hK
    obtain ⟨a5, e5, hK_2⟩ := lJ_some hK_1
    obtain ⟨a7, e7, hK_3⟩ := lJ_some hK_2
    obtain ⟨s0, st1, hst0, hK_4⟩ := sI_some hK_3
    subst hst0
    obtain ⟨hst9, hK_5⟩ := sE_some hK_4
    subst hst9
    exact eGo.wk (go_br_add_J62 hcx  a5 a7 s0 w hK_5) (eLe_wk ⟨e0, e5, e7, trivial⟩)
  cases hK
end
set_option maxRecDepth 100000 in
set_option maxHeartbeats 4000000 in
theorem ok_br_add {l : Launch} {ad : Nat → Nat} {D : va_G} {cA : Nat → ClassId} {ρ : Type} (as : List Value) (w : eW) (k : Option Value → eW → Option ρ) (x : ρ) (h : K_br_add as w k = some x) : ∃ (v : Option Value) (w2 : eW), k v w2 = some x ∧ eMet l ad D cA vwCl SHc SSc yX1_add (eWd yX1_add cX1_add 10 none) { frames := 3, cells := 0, slots := 0, locals := 116 } as w v w2 := by
  unfold K_br_add at h
  split at h
  · rename_i r0 a1 a3
    obtain ⟨h1, h5⟩ := eBif h
    clear h
    have h := h5
    clear h5
    have h1 := Nat.eq_of_beq_eq_true h1
    subst h1
    obtain ⟨q, h2, h3⟩ := Option.bind_eq_some_iff.mp h
    exact ⟨_, _, h3, eMet_of (by decide +kernel) rfl (by simp [eCat, Value.category]) rV_ret (fun p e s m args below meth c hcx => go_br_add hcx a1 a3 w q h2)⟩
  · cases h
def CX1_list : eCo := [[some (.aload_n 0), some (.iconst 0), some (.putfield 22), none, none, some (.lconst 0), some (.lstore_n 2), some (.iconst 0), some (.istore 4), none, some (.iload 4), none, some (.iconst 5), some (.if_icmp .gt 25), none, none],
  [some (.lload_n 2), some (.aload_n 1), some (.getfield 26), none, none, some (.iload 4), none, some (.laload), some (.ladd), some (.lstore_n 2), some (.aload_n 0), some (.lload_n 2), some (.lconst 1), some (.invokevirtual 31), none, none],
  [some (.iinc 4 1), none, none, some (.goto (-25)), none, none, some (.aload_n 0), some (.aload_n 0), some (.getfield 22), none, none, some (.putfield 35), none, none, some (.aload_n 1), some (.getfield 38)],
  [none, none, some (.astore 4), none, some (.aload 4), none, some (.invokevirtual 42), none, none, some (.iconst 0), some (.istore 5), none, some (.iload 5), none, some (.aload 4), none],
  [some (.getfield 47), none, none, some (.if_icmp .ge 35), none, none, some (.aload_n 0), some (.aload 4), none, some (.iload 5), none, some (.invokevirtual 50), none, none, some (.aload 4), none],
  [some (.iload 5), none, some (.invokevirtual 54), none, none, some (.i2l), some (.invokevirtual 31), none, none, some (.aload 4), none, some (.iload 5), none, some (.invokevirtual 58), none, none],
  [some (.iinc 5 1), none, none, some (.goto (-39)), none, none, some (.return_)]]
theorem dcX1_list : eDec cX1_list CX1_list := eDec_of (by decide +kernel)
def rs_br_list : List (Nat × eR) := [(22, (0, 1, 2, 0)), (26, (0, 3, 2, 2)), (31, (1, 1, 2, 1)), (35, (0, 1, 3, 0)), (38, (0, 3, 0, 2)), (42, (1, 0, 0, 2)), (47, (0, 2, 7, 0)), (50, (1, 2, 1, 2)), (54, (1, 3, 1, 2)), (58, (1, 4, 1, 2))]
noncomputable def cs_br_list : List (eF (eW)) := [K_cu_restart, K_br_add, K_cu_totalAt, K_cu_ratioAt, K_cu_take]
noncomputable def f_br_list_L60 : Nat → Int32 → eW → Option (eW)
  | 0, _, _ => none
  | n + 1, a5, w => (if (w.1 19 7) ≤ a5 then (some w) else ((f_cu_totalAt a5 w).bind fun p3 => ((f_cu_ratioAt a5 p3.2).bind fun p4 => ((f_br_add p3.1 ((p4.1).toInt64) p4.2).bind fun w5 => ((f_cu_take a5 w5).bind fun w6 => (f_br_list_L60 n (a5 + (1 : Int32)) w6))))))
noncomputable def f_br_list_L10 : Nat → Int64 → Int32 → eW → Option (eW)
  | 0, _, _, _ => none
  | n + 1, a2, a4, w => (if (5 : Int32) < a4 then ((f_cu_restart (eU1 w 27 3 (w.1 27 2))).bind fun w1 => (f_br_list_L60 eFu (0 : Int32) w1)) else (eChk a4 6 ((f_br_add (a2 + (w.2 21 (Int32.toNatClampNeg a4))) (1 : Int64) w).bind fun w2 => (f_br_list_L10 n (a2 + (w.2 21 (Int32.toNatClampNeg a4))) (a4 + (1 : Int32)) w2))))
noncomputable def f_br_list (w : eW) : Option (eW) := (f_br_list_L10 eFu (0 : Int64) (0 : Int32) (eU1 w 27 2 (0 : Int32)))
noncomputable def K_br_list {ρ : Type} : eF ρ := fun as w k => match as with
  | [.ref r0, .ref r1] => bif Nat.beq r0 27 then (bif Nat.beq r1 24 then (f_br_list w).bind (fun w => k none w) else none) else none
  | _ => none
section
variable {p : Program} {l : Launch} {e : Env} {s : State} {m : MethodId} {args : Array Value} {below : List Frame} {meth : Method} {c : Code} {ad : Nat → Nat} {D : va_G} {cA : Nat → ClassId}
theorem lk_br_list : ∀ q ∈ rs_br_list, eLnk { frames := 4, cells := 0, slots := 0, locals := 145 } vwCl (eWd yX1_list cX1_list 6 none) SSc SHc.length RX1 q.1 q.2 := List.forall_mem_cons.mpr ⟨lkX1_22 eTb_wd, List.forall_mem_cons.mpr ⟨lkX1_26 eTb_wd, List.forall_mem_cons.mpr ⟨trivial, List.forall_mem_cons.mpr ⟨lkX1_35 eTb_wd, List.forall_mem_cons.mpr ⟨lkX1_38 eTb_wd, List.forall_mem_cons.mpr ⟨trivial, List.forall_mem_cons.mpr ⟨lkX1_47 eTb_wd, List.forall_mem_cons.mpr ⟨trivial, List.forall_mem_cons.mpr ⟨trivial, List.forall_mem_cons.mpr ⟨trivial, fun _ h => absurd h List.not_mem_nil⟩⟩⟩⟩⟩⟩⟩⟩⟩⟩
theorem hc_br_list {x : eW} : ∀ q ∈ rs_br_list, eHc l { frames := 4, cells := 0, slots := 0, locals := 145 } ad D cA vwCl SHc SSc (eWd yX1_list cX1_list 6 none) RX1 cs_br_list x q := List.forall_mem_cons.mpr ⟨trivial, List.forall_mem_cons.mpr ⟨trivial, List.forall_mem_cons.mpr ⟨(fun as w k h => let ⟨v, w2, h1, h2⟩ := ok_br_add as w k x h; ⟨v, w2, h1, eCal_of h2 ⟨rfl, rfl⟩ hdX1_add (gvX1_31 eTb_wd)⟩), List.forall_mem_cons.mpr ⟨trivial, List.forall_mem_cons.mpr ⟨trivial, List.forall_mem_cons.mpr ⟨(fun as w k h => let ⟨v, w2, h1, h2⟩ := ok_cu_restart as w k x h; ⟨v, w2, h1, eCal_of h2 ⟨rfl, rfl⟩ hdX2_restart (gvX1_42 eTb_wd)⟩), List.forall_mem_cons.mpr ⟨trivial, List.forall_mem_cons.mpr ⟨(fun as w k h => let ⟨v, w2, h1, h2⟩ := ok_cu_totalAt as w k x h; ⟨v, w2, h1, eCal_of h2 ⟨rfl, rfl⟩ hdX2_totalAt (gvX1_50 eTb_wd)⟩), List.forall_mem_cons.mpr ⟨(fun as w k h => let ⟨v, w2, h1, h2⟩ := ok_cu_ratioAt as w k x h; ⟨v, w2, h1, eCal_of h2 ⟨rfl, rfl⟩ hdX2_ratioAt (gvX1_54 eTb_wd)⟩), List.forall_mem_cons.mpr ⟨(fun as w k h => let ⟨v, w2, h1, h2⟩ := ok_cu_take as w k x h; ⟨v, w2, h1, eCal_of h2 ⟨rfl, rfl⟩ hdX2_take (gvX1_58 eTb_wd)⟩), fun _ h => absurd h List.not_mem_nil⟩⟩⟩⟩⟩⟩⟩⟩⟩⟩
noncomputable def kk_br_list_60 (n : Nat) : eK (eW) := fun pc L st w => bif Nat.beq pc 60 then (lR L 0 27 (lR L 4 19 ((lI L 5).bind fun a5 => sE st (f_br_list_L60 n a5 w)))) else none
set_option maxRecDepth 100000 in
set_option maxHeartbeats 4000000 in
theorem go_br_list_L60 (hcx : eCx p { frames := 4, cells := 0, slots := 0, locals := 145 } s m args meth c cX1_list RX1 6 ad D cA vwCl SHc SSc (eWd yX1_list cX1_list 6 none) (none)) {x : eW} : ∀ (n : Nat) (a5 : Int32) (w : eW), f_br_list_L60  n a5 w = some x → eGq p l e { frames := 4, cells := 0, slots := 0, locals := 145 } s m args below meth c 6 ad D cA vwCl SHc rV x 60 [some (.ref 27), none, none, none, some (.ref 19), some (.int a5)] [] w := by
  intro n
  induction n with
  | zero => intro a5 w h; exact nomatch (show (none : Option (eW)) = some x from h)
  | succ n ih =>
    intro a5 w h
    have h : eRun SHc SSc 6 rs_br_list (eCs cs_br_list) rV CX1_list [10, 60] (kk_br_list_60  n) 21 true 60 [some (.ref 27), none, none, none, some (.ref 19), some (.int a5)] [] w = some x := h
    refine eRun_go hcx (eLnk_all lk_br_list) (eHc_all hc_br_list) rV_ok dcX1_list [10, 60] _ (fun pc L st w hK => ?_) 21 true 60 _ _ w h
    unfold kk_br_list_60 at hK
    rcases eCut hK with ⟨hpc, hK⟩ | hK
    · subst hpc
      obtain ⟨e0, hK_1⟩ := lR_some hK
      obtain ⟨e4, hK_2⟩ := lR_some hK_1
      obtain ⟨a5, e5, hK_3⟩ := lI_some hK_2
      obtain ⟨hst9, hK_4⟩ := sE_some hK_3
      subst hst9
      exact eGo.wk (ih a5 w hK_4) (eLe_wk ⟨e0, e4, e5, trivial⟩)
    cases hK
noncomputable def kk_br_list_10 (n : Nat) : eK (eW) := fun pc L st w => bif Nat.beq pc 60 then (lR L 0 27 (lR L 4 19 ((lI L 5).bind fun a5 => sE st (f_br_list_L60 eFu a5 w)))) else (bif Nat.beq pc 10 then (lR L 0 27 (lR L 1 24 ((lJ L 2).bind fun a2 => (lI L 4).bind fun a4 => sE st (f_br_list_L10 n a2 a4 w)))) else none)
set_option maxRecDepth 100000 in
set_option maxHeartbeats 4000000 in
theorem go_br_list_L10 (hcx : eCx p { frames := 4, cells := 0, slots := 0, locals := 145 } s m args meth c cX1_list RX1 6 ad D cA vwCl SHc SSc (eWd yX1_list cX1_list 6 none) (none)) {x : eW} : ∀ (n : Nat) (a2 : Int64) (a4 : Int32) (w : eW), f_br_list_L10  n a2 a4 w = some x → eGq p l e { frames := 4, cells := 0, slots := 0, locals := 145 } s m args below meth c 6 ad D cA vwCl SHc rV x 10 [some (.ref 27), some (.ref 24), some (.long a2), none, some (.int a4), none] [] w := by
  intro n
  induction n with
  | zero => intro a2 a4 w h; exact nomatch (show (none : Option (eW)) = some x from h)
  | succ n ih =>
    intro a2 a4 w h
    have h : eRun SHc SSc 6 rs_br_list (eCs cs_br_list) rV CX1_list [10, 60] (kk_br_list_10  n) 19 true 10 [some (.ref 27), some (.ref 24), some (.long a2), none, some (.int a4), none] [] w = some x := h
    refine eRun_go hcx (eLnk_all lk_br_list) (eHc_all hc_br_list) rV_ok dcX1_list [10, 60] _ (fun pc L st w hK => ?_) 19 true 10 _ _ w h
    unfold kk_br_list_10 at hK
    rcases eCut hK with ⟨hpc, hK⟩ | hK
    · subst hpc
      obtain ⟨e0, hK_1⟩ := lR_some hK
      obtain ⟨e4, hK_2⟩ := lR_some hK_1
      obtain ⟨a5, e5, hK_3⟩ := lI_some hK_2
      obtain ⟨hst9, hK_4⟩ := sE_some hK_3
      subst hst9
      exact eGo.wk (go_br_list_L60 hcx  eFu a5 w hK_4) (eLe_wk ⟨e0, e4, e5, trivial⟩)
    rcases eCut hK with ⟨hpc, hK⟩ | hK
    · subst hpc
      obtain ⟨e0, hK_1⟩ := lR_some hK
      obtain ⟨e1, hK_2⟩ := lR_some hK_1
      obtain ⟨a2, e2, hK_3⟩ := lJ_some hK_2
      obtain ⟨a4, e4, hK_4⟩ := lI_some hK_3
      obtain ⟨hst9, hK_5⟩ := sE_some hK_4
      subst hst9
      exact eGo.wk (ih a2 a4 w hK_5) (eLe_wk ⟨e0, e1, e2, e4, trivial⟩)
    cases hK
set_option maxRecDepth 100000 in
set_option maxHeartbeats 4000000 in
theorem go_br_list (hcx : eCx p { frames := 4, cells := 0, slots := 0, locals := 145 } s m args meth c cX1_list RX1 6 ad D cA vwCl SHc SSc (eWd yX1_list cX1_list 6 none) (none)) (w : eW) (x : eW) (h : f_br_list w = some x) : eGq p l e { frames := 4, cells := 0, slots := 0, locals := 145 } s m args below meth c 6 ad D cA vwCl SHc rV x 0 (eEnt [.ref 27, .ref 24]) [] w := by
  have h : eRun SHc SSc 6 rs_br_list (eCs cs_br_list) rV CX1_list [10, 60] (fun pc L st w => bif Nat.beq pc 10 then (lR L 0 27 (lR L 1 24 ((lJ L 2).bind fun a2 => (lI L 4).bind fun a4 => sE st (f_br_list_L10 eFu a2 a4 w)))) else none) 10 true 0 [some (.ref 27), some (.ref 24), none, none, none, none] [] w = some x := h
  refine eGo.wk (eRun_go hcx (eLnk_all lk_br_list) (eHc_all hc_br_list) rV_ok dcX1_list [10, 60] _ (fun pc L st w hK => ?_) 10 true 0 _ _ w h) (eLe_wk ⟨rfl, rfl, trivial⟩)
  rcases eCut hK with ⟨hpc, hK⟩ | hK
  · subst hpc
    obtain ⟨e0, hK_1⟩ := lR_some hK
    obtain ⟨e1, hK_2⟩ := lR_some hK_1
    obtain ⟨a2, e2, hK_3⟩ := lJ_some hK_2
    obtain ⟨a4, e4, hK_4⟩ := lI_some hK_3
    obtain ⟨hst9, hK_5⟩ := sE_some hK_4
    subst hst9
    exact eGo.wk (go_br_list_L10 hcx  eFu a2 a4 w hK_5) (eLe_wk ⟨e0, e1, e2, e4, trivial⟩)
  cases hK
end
set_option maxRecDepth 100000 in
set_option maxHeartbeats 4000000 in
theorem ok_br_list {l : Launch} {ad : Nat → Nat} {D : va_G} {cA : Nat → ClassId} {ρ : Type} (as : List Value) (w : eW) (k : Option Value → eW → Option ρ) (x : ρ) (h : K_br_list as w k = some x) : ∃ (v : Option Value) (w2 : eW), k v w2 = some x ∧ eMet l ad D cA vwCl SHc SSc yX1_list (eWd yX1_list cX1_list 6 none) { frames := 4, cells := 0, slots := 0, locals := 145 } as w v w2 := by
  unfold K_br_list at h
  split at h
  · rename_i r0 r1
    obtain ⟨h1, h5⟩ := eBif h
    clear h
    have h := h5
    clear h5
    have h1 := Nat.eq_of_beq_eq_true h1
    subst h1
    obtain ⟨h1, h5⟩ := eBif h
    clear h
    have h := h5
    clear h5
    have h1 := Nat.eq_of_beq_eq_true h1
    subst h1
    obtain ⟨q, h2, h3⟩ := Option.bind_eq_some_iff.mp h
    exact ⟨_, _, h3, eMet_of (by decide +kernel) rfl (by simp [eCat, Value.category]) rV_ret (fun p e s m args below meth c hcx => go_br_list hcx w q h2)⟩
  · cases h
def CX11_breaks : eCo := [[some (.aload_n 0), some (.getfield 35), none, none, some (.aload_n 0), some (.getfield 28), none, none, some (.iconst 0), some (.iconst 0), some (.invokevirtual 181), none, none, some (.aload_n 0), some (.getfield 42), none],
  [none, some (.aload_n 0), some (.getfield 35), none, none, some (.invokevirtual 212), none, none, some (.iload_n 1), some (.iconst (-1)), some (.if_icmp .ne 12), none, none, some (.aload_n 0), some (.getfield 42), none],
  [none, some (.getfield 216), none, none, some (.i2l), some (.lreturn), some (.iload_n 1), some (.ifCond .lt 21), none, none, some (.iload_n 1), some (.aload_n 0), some (.getfield 42), none, none, some (.getfield 216)],
  [none, none, some (.if_icmp .ge 10), none, none, some (.iload_n 2), some (.invokestatic 133), none, none, some (.ifCond .ne 7), none, none, some (.ldc2_w 136), none, none, some (.lreturn)],
  [some (.iload_n 2), some (.ifCond .ne 15), none, none, some (.aload_n 0), some (.getfield 42), none, none, some (.getfield 217), none, none, some (.iload_n 1), some (.laload), some (.goto 12), none, none],
  [some (.aload_n 0), some (.getfield 42), none, none, some (.getfield 221), none, none, some (.iload_n 1), some (.laload), some (.lreturn)]]
theorem dcX11_breaks : eDec cX11_breaks CX11_breaks := eDec_of (by decide +kernel)
def rs_xx_breaks : List (Nat × eR) := [(28, (0, 10, 2, 2)), (35, (0, 10, 3, 2)), (42, (0, 10, 4, 2)), (133, (1, 2, 1, -1)), (136, (3, 0, 0, -2)), (181, (1, 0, 3, 3)), (212, (1, 1, 1, 1)), (216, (0, 1, 2, 0)), (217, (0, 1, 0, 2)), (221, (0, 1, 1, 2))]
noncomputable def cs_xx_breaks : List (eF (Int64 × eW)) := [K_fa_arrange, K_br_list, K_xx_isAboveOrBelow]
noncomputable def f_xx_breaks (a1 : Int32) (a2 : Int32) (w : eW) : Option (Int64 × eW) := ((f_fa_arrange (0 : Int32) (0 : Int32) w).bind fun w1 => ((f_br_list w1).bind fun w2 => (if ¬ a1 = (-1 : Int32) then (if a1 < 0 then (some ((-2 : Int64), w2)) else (if (w2.1 27 2) ≤ a1 then (some ((-2 : Int64), w2)) else ((f_xx_isAboveOrBelow a2 w2).bind fun p3 => (if ¬ p3.1 = 0 then (if ¬ a2 = 0 then (eChk a1 30 (some ((p3.2.2 26 (Int32.toNatClampNeg a1)), p3.2))) else (eChk a1 30 (some ((p3.2.2 25 (Int32.toNatClampNeg a1)), p3.2)))) else (some ((-2 : Int64), p3.2)))))) else (some ((((w2.1 27 2)).toInt64), w2)))))
noncomputable def K_xx_breaks {ρ : Type} : eF ρ := fun as w k => match as with
  | [.ref r0, .int a1, .int a2] => bif Nat.beq r0 38 then (f_xx_breaks a1 a2 w).bind (fun p => k (some (.long p.1)) p.2) else none
  | _ => none
section
variable {p : Program} {l : Launch} {e : Env} {s : State} {m : MethodId} {args : Array Value} {below : List Frame} {meth : Method} {c : Code} {ad : Nat → Nat} {D : va_G} {cA : Nat → ClassId}
theorem lk_xx_breaks : ∀ q ∈ rs_xx_breaks, eLnk { frames := 5, cells := 0, slots := 0, locals := 170 } vwCl (eWd yX11_breaks cX11_breaks 3 (some .long)) SSc SHc.length RX11 q.1 q.2 := List.forall_mem_cons.mpr ⟨lkX11_28 eTb_wd, List.forall_mem_cons.mpr ⟨lkX11_35 eTb_wd, List.forall_mem_cons.mpr ⟨lkX11_42 eTb_wd, List.forall_mem_cons.mpr ⟨trivial, List.forall_mem_cons.mpr ⟨lkX11_136 eTb_wd, List.forall_mem_cons.mpr ⟨trivial, List.forall_mem_cons.mpr ⟨trivial, List.forall_mem_cons.mpr ⟨lkX11_216 eTb_wd, List.forall_mem_cons.mpr ⟨lkX11_217 eTb_wd, List.forall_mem_cons.mpr ⟨lkX11_221 eTb_wd, fun _ h => absurd h List.not_mem_nil⟩⟩⟩⟩⟩⟩⟩⟩⟩⟩
theorem hc_xx_breaks {x : Int64 × eW} : ∀ q ∈ rs_xx_breaks, eHc l { frames := 5, cells := 0, slots := 0, locals := 170 } ad D cA vwCl SHc SSc (eWd yX11_breaks cX11_breaks 3 (some .long)) RX11 cs_xx_breaks x q := List.forall_mem_cons.mpr ⟨trivial, List.forall_mem_cons.mpr ⟨trivial, List.forall_mem_cons.mpr ⟨trivial, List.forall_mem_cons.mpr ⟨(fun as w k h => let ⟨v, w2, h1, h2⟩ := ok_xx_isAboveOrBelow as w k x h; ⟨v, w2, h1, eCal_of h2 ⟨rfl, rfl⟩ hdX11_isAboveOrBelow (gvX11_133 eTb_wd)⟩), List.forall_mem_cons.mpr ⟨trivial, List.forall_mem_cons.mpr ⟨(fun as w k h => let ⟨v, w2, h1, h2⟩ := ok_fa_arrange as w k x h; ⟨v, w2, h1, eCal_of h2 ⟨rfl, rfl⟩ hdX3_arrange (gvX11_181 eTb_wd)⟩), List.forall_mem_cons.mpr ⟨(fun as w k h => let ⟨v, w2, h1, h2⟩ := ok_br_list as w k x h; ⟨v, w2, h1, eCal_of h2 ⟨rfl, rfl⟩ hdX1_list (gvX11_212 eTb_wd)⟩), List.forall_mem_cons.mpr ⟨trivial, List.forall_mem_cons.mpr ⟨trivial, List.forall_mem_cons.mpr ⟨trivial, fun _ h => absurd h List.not_mem_nil⟩⟩⟩⟩⟩⟩⟩⟩⟩⟩
set_option maxRecDepth 100000 in
set_option maxHeartbeats 4000000 in
theorem go_xx_breaks (hcx : eCx p { frames := 5, cells := 0, slots := 0, locals := 170 } s m args meth c cX11_breaks RX11 3 ad D cA vwCl SHc SSc (eWd yX11_breaks cX11_breaks 3 (some .long)) (some .long)) (a1 : Int32) (a2 : Int32) (w : eW) (x : Int64 × eW) (h : f_xx_breaks a1 a2 w = some x) : eGq p l e { frames := 5, cells := 0, slots := 0, locals := 170 } s m args below meth c 3 ad D cA vwCl SHc rJ x 0 (eEnt [.ref 38, .int a1, .int a2]) [] w := by
  have h : eRun SHc SSc 3 rs_xx_breaks (eCs cs_xx_breaks) rJ CX11_breaks [] (fun pc L st w => none) 36 true 0 [some (.ref 38), some (.int a1), some (.int a2)] [] w = some x := h
  refine eGo.wk (eRun_go hcx (eLnk_all lk_xx_breaks) (eHc_all hc_xx_breaks) rJ_ok dcX11_breaks [] _ (fun pc L st w hK => ?_) 36 true 0 _ _ w h) (eLe_wk ⟨rfl, rfl, rfl, trivial⟩)
  cases hK
end
set_option maxRecDepth 100000 in
set_option maxHeartbeats 4000000 in
theorem ok_xx_breaks {l : Launch} {ad : Nat → Nat} {D : va_G} {cA : Nat → ClassId} {ρ : Type} (as : List Value) (w : eW) (k : Option Value → eW → Option ρ) (x : ρ) (h : K_xx_breaks as w k = some x) : ∃ (v : Option Value) (w2 : eW), k v w2 = some x ∧ eMet l ad D cA vwCl SHc SSc yX11_breaks (eWd yX11_breaks cX11_breaks 3 (some .long)) { frames := 5, cells := 0, slots := 0, locals := 170 } as w v w2 := by
  unfold K_xx_breaks at h
  split at h
  · rename_i r0 a1 a2
    obtain ⟨h1, h5⟩ := eBif h
    clear h
    have h := h5
    clear h5
    have h1 := Nat.eq_of_beq_eq_true h1
    subst h1
    obtain ⟨q, h2, h3⟩ := Option.bind_eq_some_iff.mp h
    exact ⟨_, _, h3, eMet_of (by decide +kernel) rfl (by simp [eCat, Value.category]) rJ_ret (fun p e s m args below meth c hcx => go_xx_breaks hcx a1 a2 w q h2)⟩
  · cases h
