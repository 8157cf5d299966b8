def CX12_unpaid : eCo := [[some (.aload_n 0), some (.iconst 0), some (.putfield 95), none, none, some (.iload_n 1), some (.invokestatic 318), none, none, some (.ifCond .ne 6), none, none, some (.bipush (-2)), none, some (.ireturn), some (.aload_n 0)],
  [some (.iconst 0), some (.putfield 244), none, none, some (.iload_n 1), some (.aload_n 0), some (.getfield 232), none, none, some (.invokestatic 311), none, none, some (.lstore_n 2), some (.iconst 0), some (.istore 4), none],
  [some (.iload 4), none, some (.bipush 6), none, some (.if_icmp .ge 32), none, none, some (.lload_n 2), some (.aload_n 0), some (.iload 4), none, some (.invokevirtual 278), none, none, some (.lcmp), some (.ifCond .ge 6)],
  [none, none, some (.iload 4), none, some (.ireturn), some (.lload_n 2), some (.aload_n 0), some (.iload 4), none, some (.invokevirtual 278), none, none, some (.lsub), some (.lstore_n 2), some (.iinc 4 1), none],
  [none, some (.goto (-33)), none, none, some (.iconst (-1)), some (.ireturn)]]
theorem dcX12_unpaid : eDec cX12_unpaid CX12_unpaid := eDec_of (by decide +kernel)
def rs_mm_unpaid : List (Nat × eR) := [(95, (0, 11, 0, 0)), (232, (0, 11, 2, 0)), (244, (0, 11, 36, 3)), (278, (1, 2, 1, 11)), (311, (1, 1, 2, -1)), (318, (1, 0, 1, -1))]
noncomputable def cs_mm_unpaid : List (eF (Int32 × eW)) := [K_mm_isAmount, K_mm_fallsBy, K_mm_firstsOf]
noncomputable def f_mm_unpaid_L32 : Nat → Int64 → Int32 → eW → Option (Int32 × eW)
  | 0, _, _, _ => none
  | n + 1, a2, a4, w => (if (6 : Int32) ≤ a4 then (some ((-1 : Int32), w)) else ((f_mm_firstsOf a4 w).bind fun p3 => (if 0 ≤ (lg_cmp a2 p3.1) then ((f_mm_firstsOf a4 p3.2).bind fun p4 => (f_mm_unpaid_L32 n (a2 - p4.1) (a4 + (1 : Int32)) p4.2)) else (some (a4, p3.2)))))
noncomputable def f_mm_unpaid (a1 : Int32) (w : eW) : Option (Int32 × eW) := ((f_mm_isAmount a1 (eU1 w 24 0 (0 : Int32))).bind fun p1 => (if ¬ p1.1 = 0 then ((f_mm_fallsBy a1 (p1.2.1 24 2) (eU1 p1.2 24 36 (0 : Int32))).bind fun p2 => (f_mm_unpaid_L32 eFu p2.1 (0 : Int32) p2.2)) else (some ((-2 : Int32), p1.2))))
noncomputable def K_mm_unpaid {ρ : Type} : eF ρ := fun as w k => match as with
  | [.ref r0, .int a1] => bif Nat.beq r0 24 then (f_mm_unpaid a1 w).bind (fun p => k (some (.int p.1)) p.2) else none
  | _ => none
section
variable {p : Program} {l : Launch} {e : Env} {s : State} {m : MethodId} {args : Array Value} {below : List Frame} {meth : Method} {c : Code} {ad : Nat → Nat} {D : va_G} {cA : Nat → ClassId}
theorem lk_mm_unpaid : ∀ q ∈ rs_mm_unpaid, eLnk { frames := 7, cells := 0, slots := 0, locals := 151 } vwCl (eWd yX12_unpaid cX12_unpaid 5 (some .int)) SSm SHm.length RX12 q.1 q.2 := List.forall_mem_cons.mpr ⟨lkX12_95 eTb_wd, List.forall_mem_cons.mpr ⟨lkX12_232 eTb_wd, List.forall_mem_cons.mpr ⟨lkX12_244 eTb_wd, List.forall_mem_cons.mpr ⟨trivial, List.forall_mem_cons.mpr ⟨trivial, List.forall_mem_cons.mpr ⟨trivial, fun _ h => absurd h List.not_mem_nil⟩⟩⟩⟩⟩⟩
theorem hc_mm_unpaid {x : Int32 × eW} : ∀ q ∈ rs_mm_unpaid, eHc l { frames := 7, cells := 0, slots := 0, locals := 151 } ad D cA vwCl SHm SSm (eWd yX12_unpaid cX12_unpaid 5 (some .int)) RX12 cs_mm_unpaid x q := List.forall_mem_cons.mpr ⟨trivial, List.forall_mem_cons.mpr ⟨trivial, List.forall_mem_cons.mpr ⟨trivial, List.forall_mem_cons.mpr ⟨(fun as w k h => let ⟨v, w2, h1, h2⟩ := ok_mm_firstsOf as w k x h; ⟨v, w2, h1, eCal_of h2 ⟨rfl, rfl⟩ hdX12_firstsOf (gvX12_278 eTb_wd)⟩), List.forall_mem_cons.mpr ⟨(fun as w k h => let ⟨v, w2, h1, h2⟩ := ok_mm_fallsBy as w k x h; ⟨v, w2, h1, eCal_of h2 ⟨rfl, rfl⟩ hdX12_fallsBy (gvX12_311 eTb_wd)⟩), List.forall_mem_cons.mpr ⟨(fun as w k h => let ⟨v, w2, h1, h2⟩ := ok_mm_isAmount as w k x h; ⟨v, w2, h1, eCal_of h2 ⟨rfl, rfl⟩ hdX12_isAmount (gvX12_318 eTb_wd)⟩), fun _ h => absurd h List.not_mem_nil⟩⟩⟩⟩⟩⟩
noncomputable def kk_mm_unpaid_32 (n : Nat) : eK (Int32 × eW) := fun pc L st w => bif Nat.beq pc 32 then (lR L 0 24 ((lJ L 2).bind fun a2 => (lI L 4).bind fun a4 => sE st (f_mm_unpaid_L32 n a2 a4 w))) else none
set_option maxRecDepth 100000 in
set_option maxHeartbeats 4000000 in
theorem go_mm_unpaid_L32 (hcx : eCx p { frames := 7, cells := 0, slots := 0, locals := 151 } s m args meth c cX12_unpaid RX12 5 ad D cA vwCl SHm SSm (eWd yX12_unpaid cX12_unpaid 5 (some .int)) (some .int)) {x : Int32 × eW} : ∀ (n : Nat) (a2 : Int64) (a4 : Int32) (w : eW), f_mm_unpaid_L32  n a2 a4 w = some x → eGq p l e { frames := 7, cells := 0, slots := 0, locals := 151 } s m args below meth c 5 ad D cA vwCl SHm rI x 32 [some (.ref 24), none, some (.long a2), none, some (.int a4)] [] w := by
  intro n
  induction n with
  | zero => intro a2 a4 w h; exact nomatch (show (none : Option (Int32 × eW)) = some x from h)
  | succ n ih =>
    intro a2 a4 w h
    have h : eRun SHm SSm 5 rs_mm_unpaid (eCs cs_mm_unpaid) rI CX12_unpaid [32] (kk_mm_unpaid_32  n) 20 true 32 [some (.ref 24), none, some (.long a2), none, some (.int a4)] [] w = some x := h
    refine eRun_go hcx (eLnk_all lk_mm_unpaid) (eHc_all hc_mm_unpaid) rI_ok dcX12_unpaid [32] _ (fun pc L st w hK => ?_) 20 true 32 _ _ w h
    unfold kk_mm_unpaid_32 at hK
    rcases eCut hK with ⟨hpc, hK⟩ | hK
    · subst hpc
      obtain ⟨e0, hK_1⟩ := lR_some hK
      obtain ⟨a2, e2, hK_2⟩ := lJ_some hK_1
      obtain ⟨a4, e4, hK_3⟩ := lI_some hK_2
      obtain ⟨hst9, hK_4⟩ := sE_some hK_3
      subst hst9
      exact eGo.wk (ih a2 a4 w hK_4) (eLe_wk ⟨e0, e2, e4, trivial⟩)
    cases hK
set_option maxRecDepth 100000 in
set_option maxHeartbeats 4000000 in
theorem go_mm_unpaid (hcx : eCx p { frames := 7, cells := 0, slots := 0, locals := 151 } s m args meth c cX12_unpaid RX12 5 ad D cA vwCl SHm SSm (eWd yX12_unpaid cX12_unpaid 5 (some .int)) (some .int)) (a1 : Int32) (w : eW) (x : Int32 × eW) (h : f_mm_unpaid a1 w = some x) : eGq p l e { frames := 7, cells := 0, slots := 0, locals := 151 } s m args below meth c 5 ad D cA vwCl SHm rI x 0 (eEnt [.ref 24, .int a1]) [] w := by
  have h : eRun SHm SSm 5 rs_mm_unpaid (eCs cs_mm_unpaid) rI CX12_unpaid [32] (fun pc L st w => bif Nat.beq pc 32 then (lR L 0 24 ((lJ L 2).bind fun a2 => (lI L 4).bind fun a4 => sE st (f_mm_unpaid_L32 eFu a2 a4 w))) else none) 19 true 0 [some (.ref 24), some (.int a1), none, none, none] [] w = some x := h
  refine eGo.wk (eRun_go hcx (eLnk_all lk_mm_unpaid) (eHc_all hc_mm_unpaid) rI_ok dcX12_unpaid [32] _ (fun pc L st w hK => ?_) 19 true 0 _ _ w h) (eLe_wk ⟨rfl, rfl, trivial⟩)
  rcases eCut hK with ⟨hpc, hK⟩ | hK
  · subst hpc
    obtain ⟨e0, hK_1⟩ := lR_some hK
    obtain ⟨a2, e2, hK_2⟩ := lJ_some hK_1
    obtain ⟨a4, e4, hK_3⟩ := lI_some hK_2
    obtain ⟨hst9, hK_4⟩ := sE_some hK_3
    subst hst9
    exact eGo.wk (go_mm_unpaid_L32 hcx  eFu a2 a4 w hK_4) (eLe_wk ⟨e0, e2, e4, trivial⟩)
  cases hK
end
set_option maxRecDepth 100000 in
set_option maxHeartbeats 4000000 in
theorem ok_mm_unpaid {l : Launch} {ad : Nat → Nat} {D : va_G} {cA : Nat → ClassId} {ρ : Type} (as : List Value) (w : eW) (k : Option Value → eW → Option ρ) (x : ρ) (h : K_mm_unpaid as w k = some x) : ∃ (v : Option Value) (w2 : eW), k v w2 = some x ∧ eMet l ad D cA vwCl SHm SSm yX12_unpaid (eWd yX12_unpaid cX12_unpaid 5 (some .int)) { frames := 7, cells := 0, slots := 0, locals := 151 } as w v w2 := by
  unfold K_mm_unpaid at h
  split at h
  · rename_i r0 a1
    obtain ⟨h1, h5⟩ := eBif h
    clear h
    have h := h5
    clear h5
    have h1 := Nat.eq_of_beq_eq_true h1
    subst h1
    obtain ⟨q, h2, h3⟩ := Option.bind_eq_some_iff.mp h
    exact ⟨_, _, h3, eMet_of (by decide +kernel) rfl (by simp [eCat, Value.category]) rI_ret (fun p e s m args below meth c hcx => go_mm_unpaid hcx a1 w q h2)⟩
  · cases h
def CX12_wants : eCo := [[some (.aload_n 0), some (.iconst 0), some (.putfield 95), none, none, some (.aload_n 0), some (.iload_n 1), some (.invokevirtual 110), none, none, some (.ifCond .eq 20), none, none, some (.iload_n 2), some (.invokestatic 318), none],
  [none, some (.ifCond .eq 13), none, none, some (.iload_n 3), some (.iconst 1), some (.ldc 109), none, some (.invokestatic 101), none, none, some (.ifCond .ne 6), none, none, some (.bipush (-2)), none],
  [some (.ireturn), some (.aload_n 0), some (.getfield 22), none, none, some (.iload_n 1), some (.iaload), some (.istore 4), none, some (.iconst (-1)), some (.istore 5), none, some (.iconst 0), some (.istore 6), none, some (.iload 6)],
  [none, some (.sipush 400), none, none, some (.if_icmp .gt 40), none, none, some (.iload 5), none, some (.ifCond .ge 35), none, none, some (.aload_n 0), some (.getfield 22), none, none],
  [some (.iload_n 1), some (.iload 6), none, some (.iastore), some (.aload_n 0), some (.iload_n 1), some (.iload_n 2), some (.iload_n 3), some (.invokevirtual 339), none, none, some (.ifCond .eq 8), none, none, some (.iload 6), none],
  [some (.goto 4), none, none, some (.iconst (-1)), some (.istore 5), none, some (.iinc 6 1), none, none, some (.goto (-42)), none, none, some (.aload_n 0), some (.getfield 22), none, none],
  [some (.iload_n 1), some (.iload 4), none, some (.iastore), some (.iload 5), none, some (.ireturn)]]
theorem dcX12_wants : eDec cX12_wants CX12_wants := eDec_of (by decide +kernel)
def rs_mm_wants : List (Nat × eR) := [(22, (0, 11, 9, 2)), (95, (0, 11, 0, 0)), (101, (1, 2, 3, -1)), (109, (2, 0, 0, 9999999)), (110, (1, 0, 1, 11)), (318, (1, 1, 1, -1)), (339, (1, 3, 3, 11))]
noncomputable def cs_mm_wants : List (eF (Int32 × eW)) := [K_mm_isClass, K_mm_isAmount, K_mm_in, K_mm_hasUnits]
noncomputable def f_mm_wants_L47 : Nat → Int32 → Int32 → Int32 → Int32 → Int32 → Int32 → eW → Option (Int32 × eW)
  | 0, _, _, _, _, _, _, _ => none
  | n + 1, a1, a2, a3, a4, a5, a6, w => (if (400 : Int32) < a6 then (eChk a1 24 (some (a5, (eU1 w 4 (Int32.toNatClampNeg a1) a4)))) else (if 0 ≤ a5 then (eChk a1 24 (some (a5, (eU1 w 4 (Int32.toNatClampNeg a1) a4)))) else (eChk a1 24 ((f_mm_hasUnits a1 a2 a3 (eU1 w 4 (Int32.toNatClampNeg a1) a6)).bind fun p4 => (if p4.1 = 0 then (f_mm_wants_L47 n a1 a2 a3 a4 (-1 : Int32) (a6 + (1 : Int32)) p4.2) else (f_mm_wants_L47 n a1 a2 a3 a4 a6 (a6 + (1 : Int32)) p4.2))))))
noncomputable def f_mm_wants (a1 : Int32) (a2 : Int32) (a3 : Int32) (w : eW) : Option (Int32 × eW) := ((f_mm_isClass a1 (eU1 w 24 0 (0 : Int32))).bind fun p1 => (if p1.1 = 0 then (some ((-2 : Int32), p1.2)) else ((f_mm_isAmount a2 p1.2).bind fun p2 => (if p2.1 = 0 then (some ((-2 : Int32), p2.2)) else ((f_mm_in a3 (1 : Int32) (9999999 : Int32) p2.2).bind fun p3 => (if ¬ p3.1 = 0 then (eChk a1 24 (f_mm_wants_L47 eFu a1 a2 a3 (p3.2.1 4 (Int32.toNatClampNeg a1)) (-1 : Int32) (0 : Int32) p3.2)) else (some ((-2 : Int32), p3.2))))))))
noncomputable def K_mm_wants {ρ : Type} : eF ρ := fun as w k => match as with
  | [.ref r0, .int a1, .int a2, .int a3] => bif Nat.beq r0 24 then (f_mm_wants a1 a2 a3 w).bind (fun p => k (some (.int p.1)) p.2) else none
  | _ => none
section
variable {p : Program} {l : Launch} {e : Env} {s : State} {m : MethodId} {args : Array Value} {below : List Frame} {meth : Method} {c : Code} {ad : Nat → Nat} {D : va_G} {cA : Nat → ClassId}
theorem lk_mm_wants : ∀ q ∈ rs_mm_wants, eLnk { frames := 11, cells := 0, slots := 0, locals := 253 } vwCl (eWd yX12_wants cX12_wants 7 (some .int)) SSm SHm.length RX12 q.1 q.2 := List.forall_mem_cons.mpr ⟨lkX12_22 eTb_wd, List.forall_mem_cons.mpr ⟨lkX12_95 eTb_wd, List.forall_mem_cons.mpr ⟨trivial, List.forall_mem_cons.mpr ⟨lkX12_109 eTb_wd, List.forall_mem_cons.mpr ⟨trivial, List.forall_mem_cons.mpr ⟨trivial, List.forall_mem_cons.mpr ⟨trivial, fun _ h => absurd h List.not_mem_nil⟩⟩⟩⟩⟩⟩⟩
theorem hc_mm_wants {x : Int32 × eW} : ∀ q ∈ rs_mm_wants, eHc l { frames := 11, cells := 0, slots := 0, locals := 253 } ad D cA vwCl SHm SSm (eWd yX12_wants cX12_wants 7 (some .int)) RX12 cs_mm_wants x q := List.forall_mem_cons.mpr ⟨trivial, List.forall_mem_cons.mpr ⟨trivial, List.forall_mem_cons.mpr ⟨(fun as w k h => let ⟨v, w2, h1, h2⟩ := ok_mm_in as w k x h; ⟨v, w2, h1, eCal_of h2 ⟨rfl, rfl⟩ hdX12_in (gvX12_101 eTb_wd)⟩), List.forall_mem_cons.mpr ⟨trivial, List.forall_mem_cons.mpr ⟨(fun as w k h => let ⟨v, w2, h1, h2⟩ := ok_mm_isClass as w k x h; ⟨v, w2, h1, eCal_of h2 ⟨rfl, rfl⟩ hdX12_isClass (gvX12_110 eTb_wd)⟩), List.forall_mem_cons.mpr ⟨(fun as w k h => let ⟨v, w2, h1, h2⟩ := ok_mm_isAmount as w k x h; ⟨v, w2, h1, eCal_of h2 ⟨rfl, rfl⟩ hdX12_isAmount (gvX12_318 eTb_wd)⟩), List.forall_mem_cons.mpr ⟨(fun as w k h => let ⟨v, w2, h1, h2⟩ := ok_mm_hasUnits as w k x h; ⟨v, w2, h1, eCal_of h2 ⟨rfl, rfl⟩ hdX12_hasUnits (gvX12_339 eTb_wd)⟩), fun _ h => absurd h List.not_mem_nil⟩⟩⟩⟩⟩⟩⟩
noncomputable def kk_mm_wants_47 (n : Nat) : eK (Int32 × eW) := fun pc L st w => bif Nat.beq pc 47 then (lR L 0 24 ((lI L 1).bind fun a1 => (lI L 2).bind fun a2 => (lI L 3).bind fun a3 => (lI L 4).bind fun a4 => (lI L 5).bind fun a5 => (lI L 6).bind fun a6 => sE st (f_mm_wants_L47 n a1 a2 a3 a4 a5 a6 w))) else none
set_option maxRecDepth 100000 in
set_option maxHeartbeats 4000000 in
theorem go_mm_wants_L47 (hcx : eCx p { frames := 11, cells := 0, slots := 0, locals := 253 } s m args meth c cX12_wants RX12 7 ad D cA vwCl SHm SSm (eWd yX12_wants cX12_wants 7 (some .int)) (some .int)) {x : Int32 × eW} : ∀ (n : Nat) (a1 : Int32) (a2 : Int32) (a3 : Int32) (a4 : Int32) (a5 : Int32) (a6 : Int32) (w : eW), f_mm_wants_L47  n a1 a2 a3 a4 a5 a6 w = some x → eGq p l e { frames := 11, cells := 0, slots := 0, locals := 253 } s m args below meth c 7 ad D cA vwCl SHm rI x 47 [some (.ref 24), some (.int a1), some (.int a2), some (.int a3), some (.int a4), some (.int a5), some (.int a6)] [] w := by
  intro n
  induction n with
  | zero => intro a1 a2 a3 a4 a5 a6 w h; exact nomatch (show (none : Option (Int32 × eW)) = some x from h)
  | succ n ih =>
    intro a1 a2 a3 a4 a5 a6 w h
    have h : eRun SHm SSm 7 rs_mm_wants (eCs cs_mm_wants) rI CX12_wants [47] (kk_mm_wants_47  n) 24 true 47 [some (.ref 24), some (.int a1), some (.int a2), some (.int a3), some (.int a4), some (.int a5), some (.int a6)] [] w = some x := h
    refine eRun_go hcx (eLnk_all lk_mm_wants) (eHc_all hc_mm_wants) rI_ok dcX12_wants [47] _ (fun pc L st w hK => ?_) 24 true 47 _ _ w h
    unfold kk_mm_wants_47 at hK
    rcases eCut hK with ⟨hpc, hK⟩ | hK
    · subst hpc
      obtain ⟨e0, hK_1⟩ := lR_some hK
      obtain ⟨a1, e1, hK_2⟩ := lI_some hK_1
      obtain ⟨a2, e2, hK_3⟩ := lI_some hK_2
      obtain ⟨a3, e3, hK_4⟩ := lI_some hK_3
      obtain ⟨a4, e4, hK_5⟩ := lI_some hK_4
      obtain ⟨a5, e5, hK_6⟩ := lI_some hK_5
      obtain ⟨a6, e6, hK_7⟩ := lI_some hK_6
      obtain ⟨hst9, hK_8⟩ := sE_some hK_7
      subst hst9
      exact eGo.wk (ih a1 a2 a3 a4 a5 a6 w hK_8) (eLe_wk ⟨e0, e1, e2, e3, e4, e5, e6, trivial⟩)
    cases hK
set_option maxRecDepth 100000 in
set_option maxHeartbeats 4000000 in
theorem go_mm_wants (hcx : eCx p { frames := 11, cells := 0, slots := 0, locals := 253 } s m args meth c cX12_wants RX12 7 ad D cA vwCl SHm SSm (eWd yX12_wants cX12_wants 7 (some .int)) (some .int)) (a1 : Int32) (a2 : Int32) (a3 : Int32) (w : eW) (x : Int32 × eW) (h : f_mm_wants a1 a2 a3 w = some x) : eGq p l e { frames := 11, cells := 0, slots := 0, locals := 253 } s m args below meth c 7 ad D cA vwCl SHm rI x 0 (eEnt [.ref 24, .int a1, .int a2, .int a3]) [] w := by
  have h : eRun SHm SSm 7 rs_mm_wants (eCs cs_mm_wants) rI CX12_wants [47] (fun pc L st w => bif Nat.beq pc 47 then (lR L 0 24 ((lI L 1).bind fun a1 => (lI L 2).bind fun a2 => (lI L 3).bind fun a3 => (lI L 4).bind fun a4 => (lI L 5).bind fun a5 => (lI L 6).bind fun a6 => sE st (f_mm_wants_L47 eFu a1 a2 a3 a4 a5 a6 w))) else none) 27 true 0 [some (.ref 24), some (.int a1), some (.int a2), some (.int a3), none, none, none] [] w = some x := h
  refine eGo.wk (eRun_go hcx (eLnk_all lk_mm_wants) (eHc_all hc_mm_wants) rI_ok dcX12_wants [47] _ (fun pc L st w hK => ?_) 27 true 0 _ _ w h) (eLe_wk ⟨rfl, rfl, rfl, rfl, trivial⟩)
  rcases eCut hK with ⟨hpc, hK⟩ | hK
  · subst hpc
    obtain ⟨e0, hK_1⟩ := lR_some hK
    obtain ⟨a1, e1, hK_2⟩ := lI_some hK_1
    obtain ⟨a2, e2, hK_3⟩ := lI_some hK_2
    obtain ⟨a3, e3, hK_4⟩ := lI_some hK_3
    obtain ⟨a4, e4, hK_5⟩ := lI_some hK_4
    obtain ⟨a5, e5, hK_6⟩ := lI_some hK_5
    obtain ⟨a6, e6, hK_7⟩ := lI_some hK_6
    obtain ⟨hst9, hK_8⟩ := sE_some hK_7
    subst hst9
    exact eGo.wk (go_mm_wants_L47 hcx  eFu a1 a2 a3 a4 a5 a6 w hK_8) (eLe_wk ⟨e0, e1, e2, e3, e4, e5, e6, trivial⟩)
  cases hK
end
set_option maxRecDepth 100000 in
set_option maxHeartbeats 4000000 in
theorem ok_mm_wants {l : Launch} {ad : Nat → Nat} {D : va_G} {cA : Nat → ClassId} {ρ : Type} (as : List Value) (w : eW) (k : Option Value → eW → Option ρ) (x : ρ) (h : K_mm_wants as w k = some x) : ∃ (v : Option Value) (w2 : eW), k v w2 = some x ∧ eMet l ad D cA vwCl SHm SSm yX12_wants (eWd yX12_wants cX12_wants 7 (some .int)) { frames := 11, cells := 0, slots := 0, locals := 253 } as w v w2 := by
  unfold K_mm_wants at h
  split at h
  · rename_i r0 a1 a2 a3
    obtain ⟨h1, h5⟩ := eBif h
    clear h
    have h := h5
    clear h5
    have h1 := Nat.eq_of_beq_eq_true h1
    subst h1
    obtain ⟨q, h2, h3⟩ := Option.bind_eq_some_iff.mp h
    exact ⟨_, _, h3, eMet_of (by decide +kernel) rfl (by simp [eCat, Value.category]) rI_ret (fun p e s m args below meth c hcx => go_mm_wants hcx a1 a2 a3 w q h2)⟩
  · cases h
def CX12_dilutes : eCo := [[some (.aload_n 0), some (.iconst 0), some (.putfield 95), none, none, some (.aload_n 0), some (.iload_n 1), some (.invokevirtual 105), none, none, some (.ifCond .eq 39), none, none, some (.iload_n 2), some (.invokestatic 318), none],
  [none, some (.ifCond .eq 32), none, none, some (.aload_n 0), some (.iload_n 3), some (.invokevirtual 105), none, none, some (.ifCond .eq 24), none, none, some (.iload 4), none, some (.iconst 1), some (.if_icmp .lt 18)],
  [none, none, some (.iload 4), none, some (.sipush 9999), none, none, some (.aload_n 0), some (.getfield 13), none, none, some (.iload_n 3), some (.iaload), some (.isub), some (.if_icmp .le 7), none],
  [none, some (.ldc_w 355), none, none, some (.ireturn), some (.aload_n 0), some (.iload_n 1), some (.iload_n 2), some (.invokevirtual 336), none, none, some (.istore 5), none, some (.aload_n 0), some (.getfield 13), none],
  [none, some (.iload_n 3), some (.dup2), some (.iaload), some (.iload 4), none, some (.iadd), some (.iastore), some (.aload_n 0), some (.iload_n 1), some (.iload_n 2), some (.invokevirtual 336), none, none, some (.istore 6), none],
  [some (.aload_n 0), some (.getfield 13), none, none, some (.iload_n 3), some (.dup2), some (.iaload), some (.iload 4), none, some (.isub), some (.iastore), some (.iload 5), none, some (.iload 6), none, some (.isub)],
  [some (.ireturn)]]
theorem dcX12_dilutes : eDec cX12_dilutes CX12_dilutes := eDec_of (by decide +kernel)
def rs_mm_dilutes : List (Nat × eR) := [(13, (0, 11, 6, 2)), (95, (0, 11, 0, 0)), (105, (1, 0, 1, 11)), (318, (1, 1, 1, -1)), (336, (1, 2, 2, 11)), (355, (2, 0, 0, -1000000000))]
noncomputable def cs_mm_dilutes : List (eF (Int32 × eW)) := [K_mm_isHolder, K_mm_isAmount, K_mm_paidOf]
noncomputable def f_mm_dilutes (a1 : Int32) (a2 : Int32) (a3 : Int32) (a4 : Int32) (w : eW) : Option (Int32 × eW) := ((f_mm_isHolder a1 (eU1 w 24 0 (0 : Int32))).bind fun p1 => (if p1.1 = 0 then (some ((-1000000000 : Int32), p1.2)) else ((f_mm_isAmount a2 p1.2).bind fun p2 => (if p2.1 = 0 then (some ((-1000000000 : Int32), p2.2)) else ((f_mm_isHolder a3 p2.2).bind fun p3 => (if p3.1 = 0 then (some ((-1000000000 : Int32), p3.2)) else (if a4 < (1 : Int32) then (some ((-1000000000 : Int32), p3.2)) else (eChk a3 24 (if a4 ≤ ((9999 : Int32) - (p3.2.1 1 (Int32.toNatClampNeg a3))) then ((f_mm_paidOf a1 a2 p3.2).bind fun p4 => (eChk a3 24 (eChk a3 24 ((f_mm_paidOf a1 a2 (eU1 p4.2 1 (Int32.toNatClampNeg a3) ((p4.2.1 1 (Int32.toNatClampNeg a3)) + a4))).bind fun p5 => (eChk a3 24 (eChk a3 24 (some ((p4.1 - p5.1), (eU1 p5.2 1 (Int32.toNatClampNeg a3) ((p5.2.1 1 (Int32.toNatClampNeg a3)) - a4)))))))))) else (some ((-1000000000 : Int32), p3.2)))))))))))
noncomputable def K_mm_dilutes {ρ : Type} : eF ρ := fun as w k => match as with
  | [.ref r0, .int a1, .int a2, .int a3, .int a4] => bif Nat.beq r0 24 then (f_mm_dilutes a1 a2 a3 a4 w).bind (fun p => k (some (.int p.1)) p.2) else none
  | _ => none
section
variable {p : Program} {l : Launch} {e : Env} {s : State} {m : MethodId} {args : Array Value} {below : List Frame} {meth : Method} {c : Code} {ad : Nat → Nat} {D : va_G} {cA : Nat → ClassId}
theorem lk_mm_dilutes : ∀ q ∈ rs_mm_dilutes, eLnk { frames := 12, cells := 0, slots := 0, locals := 278 } vwCl (eWd yX12_dilutes cX12_dilutes 7 (some .int)) SSm SHm.length RX12 q.1 q.2 := List.forall_mem_cons.mpr ⟨lkX12_13 eTb_wd, List.forall_mem_cons.mpr ⟨lkX12_95 eTb_wd, List.forall_mem_cons.mpr ⟨trivial, List.forall_mem_cons.mpr ⟨trivial, List.forall_mem_cons.mpr ⟨trivial, List.forall_mem_cons.mpr ⟨lkX12_355 eTb_wd, fun _ h => absurd h List.not_mem_nil⟩⟩⟩⟩⟩⟩
theorem hc_mm_dilutes {x : Int32 × eW} : ∀ q ∈ rs_mm_dilutes, eHc l { frames := 12, cells := 0, slots := 0, locals := 278 } ad D cA vwCl SHm SSm (eWd yX12_dilutes cX12_dilutes 7 (some .int)) RX12 cs_mm_dilutes x q := List.forall_mem_cons.mpr ⟨trivial, List.forall_mem_cons.mpr ⟨trivial, List.forall_mem_cons.mpr ⟨(fun as w k h => let ⟨v, w2, h1, h2⟩ := ok_mm_isHolder as w k x h; ⟨v, w2, h1, eCal_of h2 ⟨rfl, rfl⟩ hdX12_isHolder (gvX12_105 eTb_wd)⟩), List.forall_mem_cons.mpr ⟨(fun as w k h => let ⟨v, w2, h1, h2⟩ := ok_mm_isAmount as w k x h; ⟨v, w2, h1, eCal_of h2 ⟨rfl, rfl⟩ hdX12_isAmount (gvX12_318 eTb_wd)⟩), List.forall_mem_cons.mpr ⟨(fun as w k h => let ⟨v, w2, h1, h2⟩ := ok_mm_paidOf as w k x h; ⟨v, w2, h1, eCal_of h2 ⟨rfl, rfl⟩ hdX12_paidOf (gvX12_336 eTb_wd)⟩), List.forall_mem_cons.mpr ⟨trivial, fun _ h => absurd h List.not_mem_nil⟩⟩⟩⟩⟩⟩
set_option maxRecDepth 100000 in
set_option maxHeartbeats 4000000 in
theorem go_mm_dilutes (hcx : eCx p { frames := 12, cells := 0, slots := 0, locals := 278 } s m args meth c cX12_dilutes RX12 7 ad D cA vwCl SHm SSm (eWd yX12_dilutes cX12_dilutes 7 (some .int)) (some .int)) (a1 : Int32) (a2 : Int32) (a3 : Int32) (a4 : Int32) (w : eW) (x : Int32 × eW) (h : f_mm_dilutes a1 a2 a3 a4 w = some x) : eGq p l e { frames := 12, cells := 0, slots := 0, locals := 278 } s m args below meth c 7 ad D cA vwCl SHm rI x 0 (eEnt [.ref 24, .int a1, .int a2, .int a3, .int a4]) [] w := by
  have h : eRun SHm SSm 7 rs_mm_dilutes (eCs cs_mm_dilutes) rI CX12_dilutes [] (fun pc L st w => none) 57 true 0 [some (.ref 24), some (.int a1), some (.int a2), some (.int a3), some (.int a4), none, none] [] w = some x := h
  refine eGo.wk (eRun_go hcx (eLnk_all lk_mm_dilutes) (eHc_all hc_mm_dilutes) rI_ok dcX12_dilutes [] _ (fun pc L st w hK => ?_) 57 true 0 _ _ w h) (eLe_wk ⟨rfl, rfl, rfl, rfl, rfl, trivial⟩)
  cases hK
end
set_option maxRecDepth 100000 in
set_option maxHeartbeats 4000000 in
theorem ok_mm_dilutes {l : Launch} {ad : Nat → Nat} {D : va_G} {cA : Nat → ClassId} {ρ : Type} (as : List Value) (w : eW) (k : Option Value → eW → Option ρ) (x : ρ) (h : K_mm_dilutes as w k = some x) : ∃ (v : Option Value) (w2 : eW), k v w2 = some x ∧ eMet l ad D cA vwCl SHm SSm yX12_dilutes (eWd yX12_dilutes cX12_dilutes 7 (some .int)) { frames := 12, cells := 0, slots := 0, locals := 278 } as w v w2 := by
  unfold K_mm_dilutes at h
  split at h
  · rename_i r0 a1 a2 a3 a4
    obtain ⟨h1, h5⟩ := eBif h
    clear h
    have h := h5
    clear h5
    have h1 := Nat.eq_of_beq_eq_true h1
    subst h1
    obtain ⟨q, h2, h3⟩ := Option.bind_eq_some_iff.mp h
    exact ⟨_, _, h3, eMet_of (by decide +kernel) rfl (by simp [eCat, Value.category]) rI_ret (fun p e s m args below meth c hcx => go_mm_dilutes hcx a1 a2 a3 a4 w q h2)⟩
  · cases h
