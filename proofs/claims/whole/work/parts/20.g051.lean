def CX12_prefersOf : eCo := [[some (.iconst 0), some (.istore_n 3), some (.iconst 0), some (.istore 4), none, some (.iload 4), none, some (.aload_n 0), some (.getfield 98), none, none, some (.if_icmp .ge 42), none, none, some (.iload_n 1), some (.iload_n 2)],
  [some (.if_icmp .le 37), none, none, some (.aload_n 0), some (.iload 4), none, some (.iload_n 1), some (.invokevirtual 348), none, none, some (.iload_n 3), some (.aload_n 0), some (.iload 4), none, some (.iload_n 2), some (.invokevirtual 352)],
  [none, none, some (.ifCond .eq 7), none, none, some (.iconst 0), some (.goto 7), none, none, some (.iconst 1), some (.iload 4), none, some (.ishl), some (.ior), some (.istore_n 3), some (.iinc 4 1)],
  [none, none, some (.goto (-45)), none, none, some (.iload_n 3), some (.ireturn)]]
theorem dcX12_prefersOf : eDec cX12_prefersOf CX12_prefersOf := eDec_of (by decide +kernel)
def rs_mm_prefersOf : List (Nat × eR) := [(98, (0, 11, 1, 0)), (348, (1, 0, 2, 11)), (352, (1, 1, 2, 11))]
noncomputable def cs_mm_prefersOf : List (eF (Int32 × eW)) := [K_mm_asksFor, K_mm_isLike]
noncomputable def f_mm_prefersOf_L5 : Nat → Int32 → Int32 → Int32 → Int32 → eW → Option (Int32 × eW)
  | 0, _, _, _, _, _ => none
  | n + 1, a1, a2, a3, a4, w => (if (w.1 24 1) ≤ a4 then (some (a3, w)) else (if a1 ≤ a2 then (some (a3, w)) else ((f_mm_asksFor a4 a1 w).bind fun w1 => ((f_mm_isLike a4 a2 w1).bind fun p2 => (if p2.1 = 0 then (f_mm_prefersOf_L5 n a1 a2 (a3 ||| ((1 : Int32) <<< (a4 &&& 31))) (a4 + (1 : Int32)) p2.2) else (f_mm_prefersOf_L5 n a1 a2 (a3 ||| (0 : Int32)) (a4 + (1 : Int32)) p2.2))))))
noncomputable def f_mm_prefersOf (a1 : Int32) (a2 : Int32) (w : eW) : Option (Int32 × eW) := (f_mm_prefersOf_L5 eFu a1 a2 (0 : Int32) (0 : Int32) w)
noncomputable def K_mm_prefersOf {ρ : Type} : eF ρ := fun as w k => match as with
  | [.ref r0, .int a1, .int a2] => bif Nat.beq r0 24 then (f_mm_prefersOf a1 a2 w).bind (fun p => k (some (.int p.1)) p.2) else none
  | _ => none
section
variable {p : Program} {l : Launch} {e : Env} {s : State} {m : MethodId} {args : Array Value} {below : List Frame} {meth : Method} {c : Code} {ad : Nat → Nat} {D : va_G} {cA : Nat → ClassId}
theorem lk_mm_prefersOf : ∀ q ∈ rs_mm_prefersOf, eLnk { frames := 11, cells := 0, slots := 0, locals := 252 } vwCl (eWd yX12_prefersOf cX12_prefersOf 5 (some .int)) SSm SHm.length RX12 q.1 q.2 := List.forall_mem_cons.mpr ⟨lkX12_98 eTb_wd, List.forall_mem_cons.mpr ⟨trivial, List.forall_mem_cons.mpr ⟨trivial, fun _ h => absurd h List.not_mem_nil⟩⟩⟩
theorem hc_mm_prefersOf {x : Int32 × eW} : ∀ q ∈ rs_mm_prefersOf, eHc l { frames := 11, cells := 0, slots := 0, locals := 252 } ad D cA vwCl SHm SSm (eWd yX12_prefersOf cX12_prefersOf 5 (some .int)) RX12 cs_mm_prefersOf x q := List.forall_mem_cons.mpr ⟨trivial, List.forall_mem_cons.mpr ⟨(fun as w k h => let ⟨v, w2, h1, h2⟩ := ok_mm_asksFor as w k x h; ⟨v, w2, h1, eCal_of h2 ⟨rfl, rfl⟩ hdX12_asksFor (gvX12_348 eTb_wd)⟩), List.forall_mem_cons.mpr ⟨(fun as w k h => let ⟨v, w2, h1, h2⟩ := ok_mm_isLike as w k x h; ⟨v, w2, h1, eCal_of h2 ⟨rfl, rfl⟩ hdX12_isLike (gvX12_352 eTb_wd)⟩), fun _ h => absurd h List.not_mem_nil⟩⟩⟩
noncomputable def kk_mm_prefersOf_5 (n : Nat) : eK (Int32 × eW) := fun pc L st w => bif Nat.beq pc 5 then (lR L 0 24 ((lI L 1).bind fun a1 => (lI L 2).bind fun a2 => (lI L 3).bind fun a3 => (lI L 4).bind fun a4 => sE st (f_mm_prefersOf_L5 n a1 a2 a3 a4 w))) else none
set_option maxRecDepth 100000 in
set_option maxHeartbeats 4000000 in
theorem go_mm_prefersOf_L5 (hcx : eCx p { frames := 11, cells := 0, slots := 0, locals := 252 } s m args meth c cX12_prefersOf RX12 5 ad D cA vwCl SHm SSm (eWd yX12_prefersOf cX12_prefersOf 5 (some .int)) (some .int)) {x : Int32 × eW} : ∀ (n : Nat) (a1 : Int32) (a2 : Int32) (a3 : Int32) (a4 : Int32) (w : eW), f_mm_prefersOf_L5  n a1 a2 a3 a4 w = some x → eGq p l e { frames := 11, cells := 0, slots := 0, locals := 252 } s m args below meth c 5 ad D cA vwCl SHm rI x 5 [some (.ref 24), some (.int a1), some (.int a2), some (.int a3), some (.int a4)] [] w := by
  intro n
  induction n with
  | zero => intro a1 a2 a3 a4 w h; exact nomatch (show (none : Option (Int32 × eW)) = some x from h)
  | succ n ih =>
    intro a1 a2 a3 a4 w h
    have h : eRun SHm SSm 5 rs_mm_prefersOf (eCs cs_mm_prefersOf) rI CX12_prefersOf [5] (kk_mm_prefersOf_5  n) 27 true 5 [some (.ref 24), some (.int a1), some (.int a2), some (.int a3), some (.int a4)] [] w = some x := h
    refine eRun_go hcx (eLnk_all lk_mm_prefersOf) (eHc_all hc_mm_prefersOf) rI_ok dcX12_prefersOf [5] _ (fun pc L st w hK => ?_) 27 true 5 _ _ w h
    unfold kk_mm_prefersOf_5 at hK
    rcases eCut hK with ⟨hpc, hK⟩ | hK
    · subst hpc
      obtain ⟨e0, hK_1⟩ := lR_some hK
      obtain ⟨a1, e1, hK_2⟩ := lI_some hK_1
      obtain ⟨a2, e2, hK_3⟩ := lI_some hK_2
      obtain ⟨a3, e3, hK_4⟩ := lI_some hK_3
      obtain ⟨a4, e4, hK_5⟩ := lI_some hK_4
      obtain ⟨hst9, hK_6⟩ := sE_some hK_5
      subst hst9
      exact eGo.wk (ih a1 a2 a3 a4 w hK_6) (eLe_wk ⟨e0, e1, e2, e3, e4, trivial⟩)
    cases hK
set_option maxRecDepth 100000 in
set_option maxHeartbeats 4000000 in
theorem go_mm_prefersOf (hcx : eCx p { frames := 11, cells := 0, slots := 0, locals := 252 } s m args meth c cX12_prefersOf RX12 5 ad D cA vwCl SHm SSm (eWd yX12_prefersOf cX12_prefersOf 5 (some .int)) (some .int)) (a1 : Int32) (a2 : Int32) (w : eW) (x : Int32 × eW) (h : f_mm_prefersOf a1 a2 w = some x) : eGq p l e { frames := 11, cells := 0, slots := 0, locals := 252 } s m args below meth c 5 ad D cA vwCl SHm rI x 0 (eEnt [.ref 24, .int a1, .int a2]) [] w := by
  have h : eRun SHm SSm 5 rs_mm_prefersOf (eCs cs_mm_prefersOf) rI CX12_prefersOf [5] (fun pc L st w => bif Nat.beq pc 5 then (lR L 0 24 ((lI L 1).bind fun a1 => (lI L 2).bind fun a2 => (lI L 3).bind fun a3 => (lI L 4).bind fun a4 => sE st (f_mm_prefersOf_L5 eFu a1 a2 a3 a4 w))) else none) 7 true 0 [some (.ref 24), some (.int a1), some (.int a2), none, none] [] w = some x := h
  refine eGo.wk (eRun_go hcx (eLnk_all lk_mm_prefersOf) (eHc_all hc_mm_prefersOf) rI_ok dcX12_prefersOf [5] _ (fun pc L st w hK => ?_) 7 true 0 _ _ w h) (eLe_wk ⟨rfl, rfl, rfl, trivial⟩)
  rcases eCut hK with ⟨hpc, hK⟩ | hK
  · subst hpc
    obtain ⟨e0, hK_1⟩ := lR_some hK
    obtain ⟨a1, e1, hK_2⟩ := lI_some hK_1
    obtain ⟨a2, e2, hK_3⟩ := lI_some hK_2
    obtain ⟨a3, e3, hK_4⟩ := lI_some hK_3
    obtain ⟨a4, e4, hK_5⟩ := lI_some hK_4
    obtain ⟨hst9, hK_6⟩ := sE_some hK_5
    subst hst9
    exact eGo.wk (go_mm_prefersOf_L5 hcx  eFu a1 a2 a3 a4 w hK_6) (eLe_wk ⟨e0, e1, e2, e3, e4, trivial⟩)
  cases hK
end
set_option maxRecDepth 100000 in
set_option maxHeartbeats 4000000 in
theorem ok_mm_prefersOf {l : Launch} {ad : Nat → Nat} {D : va_G} {cA : Nat → ClassId} {ρ : Type} (as : List Value) (w : eW) (k : Option Value → eW → Option ρ) (x : ρ) (h : K_mm_prefersOf as w k = some x) : ∃ (v : Option Value) (w2 : eW), k v w2 = some x ∧ eMet l ad D cA vwCl SHm SSm yX12_prefersOf (eWd yX12_prefersOf cX12_prefersOf 5 (some .int)) { frames := 11, cells := 0, slots := 0, locals := 252 } as w v w2 := by
  unfold K_mm_prefersOf at h
  split at h
  · rename_i r0 a1 a2
    obtain ⟨h1, h5⟩ := eBif h
    clear h
    have h := h5
    clear h5
    have h1 := Nat.eq_of_beq_eq_true h1
    subst h1
    obtain ⟨q, h2, h3⟩ := Option.bind_eq_some_iff.mp h
    exact ⟨_, _, h3, eMet_of (by decide +kernel) rfl (by simp [eCat, Value.category]) rI_ret (fun p e s m args below meth c hcx => go_mm_prefersOf hcx a1 a2 w q h2)⟩
  · cases h
def CX12_prefers : eCo := [[some (.aload_n 0), some (.iconst 0), some (.putfield 95), none, none, some (.iload_n 1), some (.invokestatic 318), none, none, some (.ifCond .eq 19), none, none, some (.iload_n 2), some (.invokestatic 318), none, none],
  [some (.ifCond .eq 12), none, none, some (.aload_n 0), some (.iload_n 1), some (.iload_n 2), some (.invokevirtual 356), none, none, some (.goto 5), none, none, some (.bipush (-2)), none, some (.ireturn)]]
theorem dcX12_prefers : eDec cX12_prefers CX12_prefers := eDec_of (by decide +kernel)
def rs_mm_prefers : List (Nat × eR) := [(95, (0, 11, 0, 0)), (318, (1, 0, 1, -1)), (356, (1, 1, 2, 11))]
noncomputable def cs_mm_prefers : List (eF (Int32 × eW)) := [K_mm_isAmount, K_mm_prefersOf]
noncomputable def f_mm_prefers (a1 : Int32) (a2 : Int32) (w : eW) : Option (Int32 × eW) := ((f_mm_isAmount a1 (eU1 w 24 0 (0 : Int32))).bind fun p1 => (if p1.1 = 0 then (some ((-2 : Int32), p1.2)) else ((f_mm_isAmount a2 p1.2).bind fun p2 => (if p2.1 = 0 then (some ((-2 : Int32), p2.2)) else ((f_mm_prefersOf a1 a2 p2.2).bind fun p3 => (some (p3.1, p3.2)))))))
noncomputable def K_mm_prefers {ρ : Type} : eF ρ := fun as w k => match as with
  | [.ref r0, .int a1, .int a2] => bif Nat.beq r0 24 then (f_mm_prefers a1 a2 w).bind (fun p => k (some (.int p.1)) p.2) else none
  | _ => none
section
variable {p : Program} {l : Launch} {e : Env} {s : State} {m : MethodId} {args : Array Value} {below : List Frame} {meth : Method} {c : Code} {ad : Nat → Nat} {D : va_G} {cA : Nat → ClassId}
theorem lk_mm_prefers : ∀ q ∈ rs_mm_prefers, eLnk { frames := 12, cells := 0, slots := 0, locals := 276 } vwCl (eWd yX12_prefers cX12_prefers 3 (some .int)) SSm SHm.length RX12 q.1 q.2 := List.forall_mem_cons.mpr ⟨lkX12_95 eTb_wd, List.forall_mem_cons.mpr ⟨trivial, List.forall_mem_cons.mpr ⟨trivial, fun _ h => absurd h List.not_mem_nil⟩⟩⟩
theorem hc_mm_prefers {x : Int32 × eW} : ∀ q ∈ rs_mm_prefers, eHc l { frames := 12, cells := 0, slots := 0, locals := 276 } ad D cA vwCl SHm SSm (eWd yX12_prefers cX12_prefers 3 (some .int)) RX12 cs_mm_prefers x q := List.forall_mem_cons.mpr ⟨trivial, List.forall_mem_cons.mpr ⟨(fun as w k h => let ⟨v, w2, h1, h2⟩ := ok_mm_isAmount as w k x h; ⟨v, w2, h1, eCal_of h2 ⟨rfl, rfl⟩ hdX12_isAmount (gvX12_318 eTb_wd)⟩), List.forall_mem_cons.mpr ⟨(fun as w k h => let ⟨v, w2, h1, h2⟩ := ok_mm_prefersOf as w k x h; ⟨v, w2, h1, eCal_of h2 ⟨rfl, rfl⟩ hdX12_prefersOf (gvX12_356 eTb_wd)⟩), fun _ h => absurd h List.not_mem_nil⟩⟩⟩
set_option maxRecDepth 100000 in
set_option maxHeartbeats 4000000 in
theorem go_mm_prefers (hcx : eCx p { frames := 12, cells := 0, slots := 0, locals := 276 } s m args meth c cX12_prefers RX12 3 ad D cA vwCl SHm SSm (eWd yX12_prefers cX12_prefers 3 (some .int)) (some .int)) (a1 : Int32) (a2 : Int32) (w : eW) (x : Int32 × eW) (h : f_mm_prefers a1 a2 w = some x) : eGq p l e { frames := 12, cells := 0, slots := 0, locals := 276 } s m args below meth c 3 ad D cA vwCl SHm rI x 0 (eEnt [.ref 24, .int a1, .int a2]) [] w := by
  have h : eRun SHm SSm 3 rs_mm_prefers (eCs cs_mm_prefers) rI CX12_prefers [] (fun pc L st w => none) 17 true 0 [some (.ref 24), some (.int a1), some (.int a2)] [] w = some x := h
  refine eGo.wk (eRun_go hcx (eLnk_all lk_mm_prefers) (eHc_all hc_mm_prefers) rI_ok dcX12_prefers [] _ (fun pc L st w hK => ?_) 17 true 0 _ _ w h) (eLe_wk ⟨rfl, rfl, rfl, trivial⟩)
  cases hK
end
set_option maxRecDepth 100000 in
set_option maxHeartbeats 4000000 in
theorem ok_mm_prefers {l : Launch} {ad : Nat → Nat} {D : va_G} {cA : Nat → ClassId} {ρ : Type} (as : List Value) (w : eW) (k : Option Value → eW → Option ρ) (x : ρ) (h : K_mm_prefers as w k = some x) : ∃ (v : Option Value) (w2 : eW), k v w2 = some x ∧ eMet l ad D cA vwCl SHm SSm yX12_prefers (eWd yX12_prefers cX12_prefers 3 (some .int)) { frames := 12, cells := 0, slots := 0, locals := 276 } as w v w2 := by
  unfold K_mm_prefers at h
  split at h
  · rename_i r0 a1 a2
    obtain ⟨h1, h5⟩ := eBif h
    clear h
    have h := h5
    clear h5
    have h1 := Nat.eq_of_beq_eq_true h1
    subst h1
    obtain ⟨q, h2, h3⟩ := Option.bind_eq_some_iff.mp h
    exact ⟨_, _, h3, eMet_of (by decide +kernel) rfl (by simp [eCat, Value.category]) rI_ret (fun p e s m args below meth c hcx => go_mm_prefers hcx a1 a2 w q h2)⟩
  · cases h
def CX12_votesOf : eCo := [[some (.iconst 0), some (.istore_n 2), some (.iconst 0), some (.istore_n 3), some (.iload_n 3), some (.aload_n 0), some (.getfield 98), none, none, some (.if_icmp .ge 76), none, none, some (.aload_n 0), some (.getfield 7), none, none],
  [some (.iload_n 3), some (.iaload), some (.ifCond .ne 12), none, none, some (.aload_n 0), some (.getfield 13), none, none, some (.iload_n 3), some (.iaload), some (.goto 33), none, none, some (.aload_n 0), some (.getfield 7)],
  [none, none, some (.iload_n 3), some (.iaload), some (.iconst 1), some (.if_icmp .ne 7), none, none, some (.iconst 0), some (.goto 19), none, none, some (.aload_n 0), some (.getfield 13), none, none],
  [some (.iload_n 3), some (.iaload), some (.aload_n 0), some (.getfield 25), none, none, some (.iload_n 3), some (.iaload), some (.imul), some (.bipush 100), none, some (.idiv), some (.istore 4), none, some (.iload_n 2), some (.iload_n 1)],
  [some (.iload_n 3), some (.invokestatic 116), none, none, some (.ifCond .eq 8), none, none, some (.iload 4), none, some (.goto 4), none, none, some (.iconst 0), some (.iadd), some (.istore_n 2), some (.iinc 3 1)],
  [none, none, some (.goto (-78)), none, none, some (.iload_n 2), some (.ireturn)]]
theorem dcX12_votesOf : eDec cX12_votesOf CX12_votesOf := eDec_of (by decide +kernel)
def rs_mm_votesOf : List (Nat × eR) := [(7, (0, 11, 5, 2)), (13, (0, 11, 6, 2)), (25, (0, 11, 10, 2)), (98, (0, 11, 1, 0)), (116, (1, 0, 2, -1))]
noncomputable def cs_mm_votesOf : List (eF (Int32 × eW)) := [K_mm_isOf]
noncomputable def f_mm_votesOf_L4 : Nat → Int32 → Int32 → Int32 → eW → Option (Int32 × eW)
  | 0, _, _, _, _ => none
  | n + 1, a1, a2, a3, w => (if (w.1 24 1) ≤ a3 then (some (a2, w)) else (eChk a3 24 (if ¬ (w.1 0 (Int32.toNatClampNeg a3)) = 0 then (eChk a3 24 (if ¬ (w.1 0 (Int32.toNatClampNeg a3)) = (1 : Int32) then (eChk a3 24 (eChk a3 24 ((f_mm_isOf a1 a3 w).bind fun p1 => (if p1.1 = 0 then (f_mm_votesOf_L4 n a1 (a2 + (0 : Int32)) (a3 + (1 : Int32)) p1.2) else (f_mm_votesOf_L4 n a1 (a2 + (((w.1 1 (Int32.toNatClampNeg a3)) * (w.1 5 (Int32.toNatClampNeg a3))) / (100 : Int32))) (a3 + (1 : Int32)) p1.2))))) else ((f_mm_isOf a1 a3 w).bind fun p2 => (if p2.1 = 0 then (f_mm_votesOf_L4 n a1 (a2 + (0 : Int32)) (a3 + (1 : Int32)) p2.2) else (f_mm_votesOf_L4 n a1 (a2 + (0 : Int32)) (a3 + (1 : Int32)) p2.2))))) else (eChk a3 24 ((f_mm_isOf a1 a3 w).bind fun p3 => (if p3.1 = 0 then (f_mm_votesOf_L4 n a1 (a2 + (0 : Int32)) (a3 + (1 : Int32)) p3.2) else (f_mm_votesOf_L4 n a1 (a2 + (w.1 1 (Int32.toNatClampNeg a3))) (a3 + (1 : Int32)) p3.2)))))))
noncomputable def f_mm_votesOf (a1 : Int32) (w : eW) : Option (Int32 × eW) := (f_mm_votesOf_L4 eFu a1 (0 : Int32) (0 : Int32) w)
noncomputable def K_mm_votesOf {ρ : Type} : eF ρ := fun as w k => match as with
  | [.ref r0, .int a1] => bif Nat.beq r0 24 then (f_mm_votesOf a1 w).bind (fun p => k (some (.int p.1)) p.2) else none
  | _ => none
section
variable {p : Program} {l : Launch} {e : Env} {s : State} {m : MethodId} {args : Array Value} {below : List Frame} {meth : Method} {c : Code} {ad : Nat → Nat} {D : va_G} {cA : Nat → ClassId}
theorem lk_mm_votesOf : ∀ q ∈ rs_mm_votesOf, eLnk { frames := 1, cells := 0, slots := 0, locals := 21 } vwCl (eWd yX12_votesOf cX12_votesOf 5 (some .int)) SSm SHm.length RX12 q.1 q.2 := List.forall_mem_cons.mpr ⟨lkX12_7 eTb_wd, List.forall_mem_cons.mpr ⟨lkX12_13 eTb_wd, List.forall_mem_cons.mpr ⟨lkX12_25 eTb_wd, List.forall_mem_cons.mpr ⟨lkX12_98 eTb_wd, List.forall_mem_cons.mpr ⟨trivial, fun _ h => absurd h List.not_mem_nil⟩⟩⟩⟩⟩
theorem hc_mm_votesOf {x : Int32 × eW} : ∀ q ∈ rs_mm_votesOf, eHc l { frames := 1, cells := 0, slots := 0, locals := 21 } ad D cA vwCl SHm SSm (eWd yX12_votesOf cX12_votesOf 5 (some .int)) RX12 cs_mm_votesOf x q := List.forall_mem_cons.mpr ⟨trivial, List.forall_mem_cons.mpr ⟨trivial, List.forall_mem_cons.mpr ⟨trivial, List.forall_mem_cons.mpr ⟨trivial, List.forall_mem_cons.mpr ⟨(fun as w k h => let ⟨v, w2, h1, h2⟩ := ok_mm_isOf as w k x h; ⟨v, w2, h1, eCal_of h2 ⟨rfl, rfl⟩ hdX12_isOf (gvX12_116 eTb_wd)⟩), fun _ h => absurd h List.not_mem_nil⟩⟩⟩⟩⟩
noncomputable def kk_mm_votesOf_4 (n : Nat) : eK (Int32 × eW) := fun pc L st w => bif Nat.beq pc 4 then (lR L 0 24 ((lI L 1).bind fun a1 => (lI L 2).bind fun a2 => (lI L 3).bind fun a3 => sE st (f_mm_votesOf_L4 n a1 a2 a3 w))) else none
set_option maxRecDepth 100000 in
set_option maxHeartbeats 4000000 in
theorem go_mm_votesOf_L4 (hcx : eCx p { frames := 1, cells := 0, slots := 0, locals := 21 } s m args meth c cX12_votesOf RX12 5 ad D cA vwCl SHm SSm (eWd yX12_votesOf cX12_votesOf 5 (some .int)) (some .int)) {x : Int32 × eW} : ∀ (n : Nat) (a1 : Int32) (a2 : Int32) (a3 : Int32) (w : eW), f_mm_votesOf_L4  n a1 a2 a3 w = some x → eGq p l e { frames := 1, cells := 0, slots := 0, locals := 21 } s m args below meth c 5 ad D cA vwCl SHm rI x 4 [some (.ref 24), some (.int a1), some (.int a2), some (.int a3), none] [] w := by
  intro n
  induction n with
  | zero => intro a1 a2 a3 w h; exact nomatch (show (none : Option (Int32 × eW)) = some x from h)
  | succ n ih =>
    intro a1 a2 a3 w h
    have h : eRun SHm SSm 5 rs_mm_votesOf (eCs cs_mm_votesOf) rI CX12_votesOf [4] (kk_mm_votesOf_4  n) 41 true 4 [some (.ref 24), some (.int a1), some (.int a2), some (.int a3), none] [] w = some x := h
    refine eRun_go hcx (eLnk_all lk_mm_votesOf) (eHc_all hc_mm_votesOf) rI_ok dcX12_votesOf [4] _ (fun pc L st w hK => ?_) 41 true 4 _ _ w h
    unfold kk_mm_votesOf_4 at hK
    rcases eCut hK with ⟨hpc, hK⟩ | hK
    · subst hpc
      obtain ⟨e0, hK_1⟩ := lR_some hK
      obtain ⟨a1, e1, hK_2⟩ := lI_some hK_1
      obtain ⟨a2, e2, hK_3⟩ := lI_some hK_2
      obtain ⟨a3, e3, hK_4⟩ := lI_some hK_3
      obtain ⟨hst9, hK_5⟩ := sE_some hK_4
      subst hst9
      exact eGo.wk (ih a1 a2 a3 w hK_5) (eLe_wk ⟨e0, e1, e2, e3, trivial⟩)
    cases hK
set_option maxRecDepth 100000 in
set_option maxHeartbeats 4000000 in
theorem go_mm_votesOf (hcx : eCx p { frames := 1, cells := 0, slots := 0, locals := 21 } s m args meth c cX12_votesOf RX12 5 ad D cA vwCl SHm SSm (eWd yX12_votesOf cX12_votesOf 5 (some .int)) (some .int)) (a1 : Int32) (w : eW) (x : Int32 × eW) (h : f_mm_votesOf a1 w = some x) : eGq p l e { frames := 1, cells := 0, slots := 0, locals := 21 } s m args below meth c 5 ad D cA vwCl SHm rI x 0 (eEnt [.ref 24, .int a1]) [] w := by
  have h : eRun SHm SSm 5 rs_mm_votesOf (eCs cs_mm_votesOf) rI CX12_votesOf [4] (fun pc L st w => bif Nat.beq pc 4 then (lR L 0 24 ((lI L 1).bind fun a1 => (lI L 2).bind fun a2 => (lI L 3).bind fun a3 => sE st (f_mm_votesOf_L4 eFu a1 a2 a3 w))) else none) 7 true 0 [some (.ref 24), some (.int a1), none, none, none] [] w = some x := h
  refine eGo.wk (eRun_go hcx (eLnk_all lk_mm_votesOf) (eHc_all hc_mm_votesOf) rI_ok dcX12_votesOf [4] _ (fun pc L st w hK => ?_) 7 true 0 _ _ w h) (eLe_wk ⟨rfl, rfl, trivial⟩)
  rcases eCut hK with ⟨hpc, hK⟩ | hK
  · subst hpc
    obtain ⟨e0, hK_1⟩ := lR_some hK
    obtain ⟨a1, e1, hK_2⟩ := lI_some hK_1
    obtain ⟨a2, e2, hK_3⟩ := lI_some hK_2
    obtain ⟨a3, e3, hK_4⟩ := lI_some hK_3
    obtain ⟨hst9, hK_5⟩ := sE_some hK_4
    subst hst9
    exact eGo.wk (go_mm_votesOf_L4 hcx  eFu a1 a2 a3 w hK_5) (eLe_wk ⟨e0, e1, e2, e3, trivial⟩)
  cases hK
end
set_option maxRecDepth 100000 in
set_option maxHeartbeats 4000000 in
theorem ok_mm_votesOf {l : Launch} {ad : Nat → Nat} {D : va_G} {cA : Nat → ClassId} {ρ : Type} (as : List Value) (w : eW) (k : Option Value → eW → Option ρ) (x : ρ) (h : K_mm_votesOf as w k = some x) : ∃ (v : Option Value) (w2 : eW), k v w2 = some x ∧ eMet l ad D cA vwCl SHm SSm yX12_votesOf (eWd yX12_votesOf cX12_votesOf 5 (some .int)) { frames := 1, cells := 0, slots := 0, locals := 21 } as w v w2 := by
  unfold K_mm_votesOf at h
  split at h
  · rename_i r0 a1
    obtain ⟨h1, h5⟩ := eBif h
    clear h
    have h := h5
    clear h5
    have h1 := Nat.eq_of_beq_eq_true h1
    subst h1
    obtain ⟨q, h2, h3⟩ := Option.bind_eq_some_iff.mp h
    exact ⟨_, _, h3, eMet_of (by decide +kernel) rfl (by simp [eCat, Value.category]) rI_ret (fun p e s m args below meth c hcx => go_mm_votesOf hcx a1 w q h2)⟩
  · cases h
def CX12_votes : eCo := [[some (.aload_n 0), some (.iconst 0), some (.putfield 95), none, none, some (.aload_n 0), some (.iload_n 1), some (.invokevirtual 359), none, none, some (.ireturn)]]
theorem dcX12_votes : eDec cX12_votes CX12_votes := eDec_of (by decide +kernel)
def rs_mm_votes : List (Nat × eR) := [(95, (0, 11, 0, 0)), (359, (1, 0, 1, 11))]
noncomputable def cs_mm_votes : List (eF (Int32 × eW)) := [K_mm_votesOf]
noncomputable def f_mm_votes (a1 : Int32) (w : eW) : Option (Int32 × eW) := ((f_mm_votesOf a1 (eU1 w 24 0 (0 : Int32))).bind fun p1 => (some (p1.1, p1.2)))
noncomputable def K_mm_votes {ρ : Type} : eF ρ := fun as w k => match as with
  | [.ref r0, .int a1] => bif Nat.beq r0 24 then (f_mm_votes a1 w).bind (fun p => k (some (.int p.1)) p.2) else none
  | _ => none
section
variable {p : Program} {l : Launch} {e : Env} {s : State} {m : MethodId} {args : Array Value} {below : List Frame} {meth : Method} {c : Code} {ad : Nat → Nat} {D : va_G} {cA : Nat → ClassId}
theorem lk_mm_votes : ∀ q ∈ rs_mm_votes, eLnk { frames := 2, cells := 0, slots := 0, locals := 45 } vwCl (eWd yX12_votes cX12_votes 2 (some .int)) SSm SHm.length RX12 q.1 q.2 := List.forall_mem_cons.mpr ⟨lkX12_95 eTb_wd, List.forall_mem_cons.mpr ⟨trivial, fun _ h => absurd h List.not_mem_nil⟩⟩
theorem hc_mm_votes {x : Int32 × eW} : ∀ q ∈ rs_mm_votes, eHc l { frames := 2, cells := 0, slots := 0, locals := 45 } ad D cA vwCl SHm SSm (eWd yX12_votes cX12_votes 2 (some .int)) RX12 cs_mm_votes x q := List.forall_mem_cons.mpr ⟨trivial, List.forall_mem_cons.mpr ⟨(fun as w k h => let ⟨v, w2, h1, h2⟩ := ok_mm_votesOf as w k x h; ⟨v, w2, h1, eCal_of h2 ⟨rfl, rfl⟩ hdX12_votesOf (gvX12_359 eTb_wd)⟩), fun _ h => absurd h List.not_mem_nil⟩⟩
set_option maxRecDepth 100000 in
set_option maxHeartbeats 4000000 in
theorem go_mm_votes (hcx : eCx p { frames := 2, cells := 0, slots := 0, locals := 45 } s m args meth c cX12_votes RX12 2 ad D cA vwCl SHm SSm (eWd yX12_votes cX12_votes 2 (some .int)) (some .int)) (a1 : Int32) (w : eW) (x : Int32 × eW) (h : f_mm_votes a1 w = some x) : eGq p l e { frames := 2, cells := 0, slots := 0, locals := 45 } s m args below meth c 2 ad D cA vwCl SHm rI x 0 (eEnt [.ref 24, .int a1]) [] w := by
  have h : eRun SHm SSm 2 rs_mm_votes (eCs cs_mm_votes) rI CX12_votes [] (fun pc L st w => none) 9 true 0 [some (.ref 24), some (.int a1)] [] w = some x := h
  refine eGo.wk (eRun_go hcx (eLnk_all lk_mm_votes) (eHc_all hc_mm_votes) rI_ok dcX12_votes [] _ (fun pc L st w hK => ?_) 9 true 0 _ _ w h) (eLe_wk ⟨rfl, rfl, trivial⟩)
  cases hK
end
set_option maxRecDepth 100000 in
set_option maxHeartbeats 4000000 in
theorem ok_mm_votes {l : Launch} {ad : Nat → Nat} {D : va_G} {cA : Nat → ClassId} {ρ : Type} (as : List Value) (w : eW) (k : Option Value → eW → Option ρ) (x : ρ) (h : K_mm_votes as w k = some x) : ∃ (v : Option Value) (w2 : eW), k v w2 = some x ∧ eMet l ad D cA vwCl SHm SSm yX12_votes (eWd yX12_votes cX12_votes 2 (some .int)) { frames := 2, cells := 0, slots := 0, locals := 45 } as w v w2 := by
  unfold K_mm_votes at h
  split at h
  · rename_i r0 a1
    obtain ⟨h1, h5⟩ := eBif h
    clear h
    have h := h5
    clear h5
    have h1 := Nat.eq_of_beq_eq_true h1
    subst h1
    obtain ⟨q, h2, h3⟩ := Option.bind_eq_some_iff.mp h
    exact ⟨_, _, h3, eMet_of (by decide +kernel) rfl (by simp [eCat, Value.category]) rI_ret (fun p e s m args below meth c hcx => go_mm_votes hcx a1 w q h2)⟩
  · cases h
