def CX12_waive : eCo := [[some (.aload_n 0), some (.iconst 0), some (.putfield 95), none, none, some (.aload_n 0), some (.iload_n 1), some (.invokevirtual 110), none, none, some (.ifCond .eq 15), none, none, some (.aload_n 0), some (.getfield 113), none],
  [none, some (.iload_n 1), some (.invokestatic 116), none, none, some (.iload_n 2), some (.if_icmp .ne 5), none, none, some (.iconst 0), some (.ireturn), some (.aload_n 0), some (.invokevirtual 405), none, none, some (.aload_n 0)],
  [some (.dup), some (.getfield 113), none, none, some (.iconst 1), some (.iload_n 1), some (.ishl), some (.ixor), some (.putfield 113), none, none, some (.iconst 1), some (.ireturn)]]
theorem dcX12_waive : eDec cX12_waive CX12_waive := eDec_of (by decide +kernel)
def rs_mm_waive : List (Nat × eR) := [(95, (0, 11, 0, 0)), (110, (1, 0, 1, 11)), (113, (0, 11, 16, 0)), (116, (1, 1, 2, -1)), (405, (1, 2, 0, 11))]
noncomputable def cs_mm_waive : List (eF (Int32 × eW)) := [K_mm_isClass, K_mm_isOf, K_mm_keep]
noncomputable def f_mm_waive (a1 : Int32) (a2 : Int32) (w : eW) : Option (Int32 × eW) := ((f_mm_isClass a1 (eU1 w 24 0 (0 : Int32))).bind fun p1 => (if p1.1 = 0 then (some ((0 : Int32), p1.2)) else ((f_mm_isOf (p1.2.1 24 16) a1 p1.2).bind fun p2 => (if ¬ p2.1 = a2 then ((f_mm_keep p2.2).bind fun w3 => (some ((1 : Int32), (eU1 w3 24 16 ((w3.1 24 16) ^^^ ((1 : Int32) <<< (a1 &&& 31))))))) else (some ((0 : Int32), p2.2))))))
noncomputable def K_mm_waive {ρ : Type} : eF ρ := fun as w k => match as with
  | [.ref r0, .int a1, .int a2] => bif Nat.beq r0 24 then (f_mm_waive a1 a2 w).bind (fun p => k (some (.int p.1)) p.2) else none
  | _ => none
section
variable {p : Program} {l : Launch} {e : Env} {s : State} {m : MethodId} {args : Array Value} {below : List Frame} {meth : Method} {c : Code} {ad : Nat → Nat} {D : va_G} {cA : Nat → ClassId}
theorem lk_mm_waive : ∀ q ∈ rs_mm_waive, eLnk { frames := 3, cells := 0, slots := 0, locals := 64 } vwCl (eWd yX12_waive cX12_waive 3 (some .boolean)) SSm SHm.length RX12 q.1 q.2 := List.forall_mem_cons.mpr ⟨lkX12_95 eTb_wd, List.forall_mem_cons.mpr ⟨trivial, List.forall_mem_cons.mpr ⟨lkX12_113 eTb_wd, List.forall_mem_cons.mpr ⟨trivial, List.forall_mem_cons.mpr ⟨trivial, fun _ h => absurd h List.not_mem_nil⟩⟩⟩⟩⟩
theorem hc_mm_waive {x : Int32 × eW} : ∀ q ∈ rs_mm_waive, eHc l { frames := 3, cells := 0, slots := 0, locals := 64 } ad D cA vwCl SHm SSm (eWd yX12_waive cX12_waive 3 (some .boolean)) RX12 cs_mm_waive x q := List.forall_mem_cons.mpr ⟨trivial, List.forall_mem_cons.mpr ⟨(fun as w k h => let ⟨v, w2, h1, h2⟩ := ok_mm_isClass as w k x h; ⟨v, w2, h1, eCal_of h2 ⟨rfl, rfl⟩ hdX12_isClass (gvX12_110 eTb_wd)⟩), List.forall_mem_cons.mpr ⟨trivial, List.forall_mem_cons.mpr ⟨(fun as w k h => let ⟨v, w2, h1, h2⟩ := ok_mm_isOf as w k x h; ⟨v, w2, h1, eCal_of h2 ⟨rfl, rfl⟩ hdX12_isOf (gvX12_116 eTb_wd)⟩), List.forall_mem_cons.mpr ⟨(fun as w k h => let ⟨v, w2, h1, h2⟩ := ok_mm_keep as w k x h; ⟨v, w2, h1, eCal_of h2 ⟨rfl, rfl⟩ hdX12_keep (gvX12_405 eTb_wd)⟩), fun _ h => absurd h List.not_mem_nil⟩⟩⟩⟩⟩
set_option maxRecDepth 100000 in
set_option maxHeartbeats 4000000 in
theorem go_mm_waive (hcx : eCx p { frames := 3, cells := 0, slots := 0, locals := 64 } s m args meth c cX12_waive RX12 3 ad D cA vwCl SHm SSm (eWd yX12_waive cX12_waive 3 (some .boolean)) (some .boolean)) (a1 : Int32) (a2 : Int32) (w : eW) (x : Int32 × eW) (h : f_mm_waive a1 a2 w = some x) : eGq p l e { frames := 3, cells := 0, slots := 0, locals := 64 } s m args below meth c 3 ad D cA vwCl SHm rZ x 0 (eEnt [.ref 24, .int a1, .int a2]) [] w := by
  have h : eRun SHm SSm 3 rs_mm_waive (eCs cs_mm_waive) rZ CX12_waive [] (fun pc L st w => none) 27 true 0 [some (.ref 24), some (.int a1), some (.int a2)] [] w = some x := h
  refine eGo.wk (eRun_go hcx (eLnk_all lk_mm_waive) (eHc_all hc_mm_waive) rZ_ok dcX12_waive [] _ (fun pc L st w hK => ?_) 27 true 0 _ _ w h) (eLe_wk ⟨rfl, rfl, rfl, trivial⟩)
  cases hK
end
set_option maxRecDepth 100000 in
set_option maxHeartbeats 4000000 in
theorem ok_mm_waive {l : Launch} {ad : Nat → Nat} {D : va_G} {cA : Nat → ClassId} {ρ : Type} (as : List Value) (w : eW) (k : Option Value → eW → Option ρ) (x : ρ) (h : K_mm_waive as w k = some x) : ∃ (v : Option Value) (w2 : eW), k v w2 = some x ∧ eMet l ad D cA vwCl SHm SSm yX12_waive (eWd yX12_waive cX12_waive 3 (some .boolean)) { frames := 3, cells := 0, slots := 0, locals := 64 } as w v w2 := by
  unfold K_mm_waive at h
  split at h
  · rename_i r0 a1 a2
    obtain ⟨h1, h5⟩ := eBif h
    clear h
    have h := h5
    clear h5
    have h1 := Nat.eq_of_beq_eq_true h1
    subst h1
    obtain ⟨q, h2, h3⟩ := Option.bind_eq_some_iff.mp h
    exact ⟨_, _, h3, eMet_of (by decide +kernel) rfl (by simp [eCat, Value.category]) rZ_ret (fun p e s m args below meth c hcx => go_mm_waive hcx a1 a2 w q h2)⟩
  · cases h
def CX12_rank : eCo := [[some (.aload_n 0), some (.iconst 0), some (.putfield 95), none, none, some (.aload_n 0), some (.iload_n 1), some (.invokevirtual 110), none, none, some (.ifCond .eq 22), none, none, some (.iload_n 2), some (.iconst 0), some (.iconst 5)],
  [some (.invokestatic 101), none, none, some (.ifCond .eq 13), none, none, some (.aload_n 0), some (.getfield 19), none, none, some (.iload_n 1), some (.iaload), some (.iload_n 2), some (.if_icmp .ne 5), none, none],
  [some (.iconst (-1)), some (.ireturn), some (.aload_n 0), some (.invokevirtual 405), none, none, some (.aload_n 0), some (.getfield 19), none, none, some (.iload_n 1), some (.iaload), some (.istore_n 3), some (.aload_n 0), some (.getfield 19), none],
  [none, some (.iload_n 1), some (.iload_n 2), some (.iastore), some (.iload_n 3), some (.ireturn)]]
theorem dcX12_rank : eDec cX12_rank CX12_rank := eDec_of (by decide +kernel)
def rs_mm_rank : List (Nat × eR) := [(19, (0, 11, 8, 2)), (95, (0, 11, 0, 0)), (101, (1, 1, 3, -1)), (110, (1, 0, 1, 11)), (405, (1, 2, 0, 11))]
noncomputable def cs_mm_rank : List (eF (Int32 × eW)) := [K_mm_isClass, K_mm_in, K_mm_keep]
noncomputable def f_mm_rank (a1 : Int32) (a2 : Int32) (w : eW) : Option (Int32 × eW) := ((f_mm_isClass a1 (eU1 w 24 0 (0 : Int32))).bind fun p1 => (if p1.1 = 0 then (some ((-1 : Int32), p1.2)) else ((f_mm_in a2 (0 : Int32) (5 : Int32) p1.2).bind fun p2 => (if p2.1 = 0 then (some ((-1 : Int32), p2.2)) else (eChk a1 24 (if ¬ (p2.2.1 3 (Int32.toNatClampNeg a1)) = a2 then ((f_mm_keep p2.2).bind fun w3 => (eChk a1 24 (eChk a1 24 (some ((w3.1 3 (Int32.toNatClampNeg a1)), (eU1 w3 3 (Int32.toNatClampNeg a1) a2)))))) else (some ((-1 : Int32), p2.2))))))))
noncomputable def K_mm_rank {ρ : Type} : eF ρ := fun as w k => match as with
  | [.ref r0, .int a1, .int a2] => bif Nat.beq r0 24 then (f_mm_rank a1 a2 w).bind (fun p => k (some (.int p.1)) p.2) else none
  | _ => none
section
variable {p : Program} {l : Launch} {e : Env} {s : State} {m : MethodId} {args : Array Value} {below : List Frame} {meth : Method} {c : Code} {ad : Nat → Nat} {D : va_G} {cA : Nat → ClassId}
theorem lk_mm_rank : ∀ q ∈ rs_mm_rank, eLnk { frames := 3, cells := 0, slots := 0, locals := 64 } vwCl (eWd yX12_rank cX12_rank 4 (some .int)) SSm SHm.length RX12 q.1 q.2 := List.forall_mem_cons.mpr ⟨lkX12_19 eTb_wd, List.forall_mem_cons.mpr ⟨lkX12_95 eTb_wd, List.forall_mem_cons.mpr ⟨trivial, List.forall_mem_cons.mpr ⟨trivial, List.forall_mem_cons.mpr ⟨trivial, fun _ h => absurd h List.not_mem_nil⟩⟩⟩⟩⟩
theorem hc_mm_rank {x : Int32 × eW} : ∀ q ∈ rs_mm_rank, eHc l { frames := 3, cells := 0, slots := 0, locals := 64 } ad D cA vwCl SHm SSm (eWd yX12_rank cX12_rank 4 (some .int)) RX12 cs_mm_rank x q := List.forall_mem_cons.mpr ⟨trivial, List.forall_mem_cons.mpr ⟨trivial, List.forall_mem_cons.mpr ⟨(fun as w k h => let ⟨v, w2, h1, h2⟩ := ok_mm_in as w k x h; ⟨v, w2, h1, eCal_of h2 ⟨rfl, rfl⟩ hdX12_in (gvX12_101 eTb_wd)⟩), List.forall_mem_cons.mpr ⟨(fun as w k h => let ⟨v, w2, h1, h2⟩ := ok_mm_isClass as w k x h; ⟨v, w2, h1, eCal_of h2 ⟨rfl, rfl⟩ hdX12_isClass (gvX12_110 eTb_wd)⟩), List.forall_mem_cons.mpr ⟨(fun as w k h => let ⟨v, w2, h1, h2⟩ := ok_mm_keep as w k x h; ⟨v, w2, h1, eCal_of h2 ⟨rfl, rfl⟩ hdX12_keep (gvX12_405 eTb_wd)⟩), fun _ h => absurd h List.not_mem_nil⟩⟩⟩⟩⟩
set_option maxRecDepth 100000 in
set_option maxHeartbeats 4000000 in
theorem go_mm_rank (hcx : eCx p { frames := 3, cells := 0, slots := 0, locals := 64 } s m args meth c cX12_rank RX12 4 ad D cA vwCl SHm SSm (eWd yX12_rank cX12_rank 4 (some .int)) (some .int)) (a1 : Int32) (a2 : Int32) (w : eW) (x : Int32 × eW) (h : f_mm_rank a1 a2 w = some x) : eGq p l e { frames := 3, cells := 0, slots := 0, locals := 64 } s m args below meth c 4 ad D cA vwCl SHm rI x 0 (eEnt [.ref 24, .int a1, .int a2]) [] w := by
  have h : eRun SHm SSm 4 rs_mm_rank (eCs cs_mm_rank) rI CX12_rank [] (fun pc L st w => none) 34 true 0 [some (.ref 24), some (.int a1), some (.int a2), none] [] w = some x := h
  refine eGo.wk (eRun_go hcx (eLnk_all lk_mm_rank) (eHc_all hc_mm_rank) rI_ok dcX12_rank [] _ (fun pc L st w hK => ?_) 34 true 0 _ _ w h) (eLe_wk ⟨rfl, rfl, rfl, trivial⟩)
  cases hK
end
set_option maxRecDepth 100000 in
set_option maxHeartbeats 4000000 in
theorem ok_mm_rank {l : Launch} {ad : Nat → Nat} {D : va_G} {cA : Nat → ClassId} {ρ : Type} (as : List Value) (w : eW) (k : Option Value → eW → Option ρ) (x : ρ) (h : K_mm_rank as w k = some x) : ∃ (v : Option Value) (w2 : eW), k v w2 = some x ∧ eMet l ad D cA vwCl SHm SSm yX12_rank (eWd yX12_rank cX12_rank 4 (some .int)) { frames := 3, cells := 0, slots := 0, locals := 64 } as w v w2 := by
  unfold K_mm_rank at h
  split at h
  · rename_i r0 a1 a2
    obtain ⟨h1, h5⟩ := eBif h
    clear h
    have h := h5
    clear h5
    have h1 := Nat.eq_of_beq_eq_true h1
    subst h1
    obtain ⟨q, h2, h3⟩ := Option.bind_eq_some_iff.mp h
    exact ⟨_, _, h3, eMet_of (by decide +kernel) rfl (by simp [eCat, Value.category]) rI_ret (fun p e s m args below meth c hcx => go_mm_rank hcx a1 a2 w q h2)⟩
  · cases h
