def CX8_lineOf : eCo := [[some (.iload_n 0), some (.tableswitch 39 0 2 #[27, 31, 35]), none, none, none, none, none, none, none, none, none, none, none, none, none, none],
  [none, none, none, none, none, none, none, none, none, none, none, none, some (.getstatic 99), none, none, some (.areturn)],
  [some (.getstatic 103), none, none, some (.areturn), some (.getstatic 106), none, none, some (.areturn), some (.getstatic 109), none, none, some (.areturn)]]
theorem dcX8_lineOf : eDec cX8_lineOf CX8_lineOf := eDec_of (by decide +kernel)
def rs_re_lineOf : List (Nat × eR) := [(99, (7, 39, 0, 0)), (103, (7, 40, 0, 0)), (106, (7, 41, 0, 0)), (109, (7, 42, 0, 0))]
noncomputable def cs_re_lineOf : List (eF (Nat × eW)) := []
noncomputable def f_re_lineOf (a0 : Int32) (w : eW) : Option (Nat × eW) := (if a0 = (0 : Int32) then (some (39, w)) else (if a0 = (1 : Int32) then (some (40, w)) else (if a0 = (2 : Int32) then (some (41, w)) else (some (42, w)))))
noncomputable def K_re_lineOf {ρ : Type} : eF ρ := fun as w k => match as with
  | [.int a0] => (f_re_lineOf a0 w).bind (fun p => k (some (.ref p.1)) p.2)
  | _ => none
section
variable {p : Program} {l : Launch} {e : Env} {s : State} {m : MethodId} {args : Array Value} {below : List Frame} {meth : Method} {c : Code} {ad : Nat → Nat} {D : va_G} {cA : Nat → ClassId}
theorem lk_re_lineOf : ∀ q ∈ rs_re_lineOf, eLnk { frames := 0, cells := 0, slots := 0, locals := 0 } vwCl (eWd yX8_lineOf cX8_lineOf 1 (some (.array .int))) SSc SHc.length RX8 q.1 q.2 := List.forall_mem_cons.mpr ⟨lkX8_99 eTb_wd, List.forall_mem_cons.mpr ⟨lkX8_103 eTb_wd, List.forall_mem_cons.mpr ⟨lkX8_106 eTb_wd, List.forall_mem_cons.mpr ⟨lkX8_109 eTb_wd, fun _ h => absurd h List.not_mem_nil⟩⟩⟩⟩
theorem hc_re_lineOf {x : Nat × eW} : ∀ q ∈ rs_re_lineOf, eHc l { frames := 0, cells := 0, slots := 0, locals := 0 } ad D cA vwCl SHc SSc (eWd yX8_lineOf cX8_lineOf 1 (some (.array .int))) RX8 cs_re_lineOf x q := List.forall_mem_cons.mpr ⟨trivial, List.forall_mem_cons.mpr ⟨trivial, List.forall_mem_cons.mpr ⟨trivial, List.forall_mem_cons.mpr ⟨trivial, fun _ h => absurd h List.not_mem_nil⟩⟩⟩⟩
set_option maxRecDepth 100000 in
set_option maxHeartbeats 4000000 in
theorem go_re_lineOf (hcx : eCx p { frames := 0, cells := 0, slots := 0, locals := 0 } s m args meth c cX8_lineOf RX8 1 ad D cA vwCl SHc SSc (eWd yX8_lineOf cX8_lineOf 1 (some (.array .int))) (some (.array .int))) (a0 : Int32) (w : eW) (x : Nat × eW) (h : f_re_lineOf a0 w = some x) : eGq p l e { frames := 0, cells := 0, slots := 0, locals := 0 } s m args below meth c 1 ad D cA vwCl SHc rA x 0 (eEnt [.int a0]) [] w := by
  have h : eRun SHc SSc 1 rs_re_lineOf (eCs cs_re_lineOf) rA CX8_lineOf [] (fun pc L st w => none) 6 true 0 [some (.int a0)] [] w = some x := h
  refine eGo.wk (eRun_go hcx (eLnk_all lk_re_lineOf) (eHc_all hc_re_lineOf) rA_ok dcX8_lineOf [] _ (fun pc L st w hK => ?_) 6 true 0 _ _ w h) (eLe_wk ⟨rfl, trivial⟩)
  cases hK
end
set_option maxRecDepth 100000 in
set_option maxHeartbeats 4000000 in
theorem ok_re_lineOf {l : Launch} {ad : Nat → Nat} {D : va_G} {cA : Nat → ClassId} {ρ : Type} (as : List Value) (w : eW) (k : Option Value → eW → Option ρ) (x : ρ) (h : K_re_lineOf as w k = some x) : ∃ (v : Option Value) (w2 : eW), k v w2 = some x ∧ eMet l ad D cA vwCl SHc SSc yX8_lineOf (eWd yX8_lineOf cX8_lineOf 1 (some (.array .int))) { frames := 0, cells := 0, slots := 0, locals := 0 } as w v w2 := by
  unfold K_re_lineOf at h
  split at h
  · rename_i a0
    obtain ⟨q, h2, h3⟩ := Option.bind_eq_some_iff.mp h
    exact ⟨_, _, h3, eMet_of (by decide +kernel) rfl (by simp [eCat, Value.category]) rA_ret (fun p e s m args below meth c hcx => go_re_lineOf hcx a0 w q h2)⟩
  · cases h
def CX8_readSign : eCo := [[some (.aload_n 0), some (.getfield 29), none, none, some (.getfield 64), none, none, some (.iconst 3), some (.if_icmp .eq 11), none, none, some (.aload_n 0), some (.iconst 2), some (.invokevirtual 74), none, none],
  [some (.ifCond .eq 7), none, none, some (.iconst 1), some (.goto 4), none, none, some (.iconst 0), some (.ireturn)]]
theorem dcX8_readSign : eDec cX8_readSign CX8_readSign := eDec_of (by decide +kernel)
def rs_re_readSign : List (Nat × eR) := [(29, (0, 7, 0, 2)), (64, (0, 9, 4, 0)), (74, (1, 0, 1, 7))]
noncomputable def cs_re_readSign : List (eF (Int32 × eW)) := [K_re_refuse]
noncomputable def f_re_readSign (w : eW) : Option (Int32 × eW) := (if (w.1 1 4) = (3 : Int32) then (some ((1 : Int32), w)) else ((f_re_refuse (2 : Int32) w).bind fun p1 => (if p1.1 = 0 then (some ((0 : Int32), p1.2)) else (some ((1 : Int32), p1.2)))))
noncomputable def K_re_readSign {ρ : Type} : eF ρ := fun as w k => match as with
  | [.ref r0] => bif Nat.beq r0 6 then (f_re_readSign w).bind (fun p => k (some (.int p.1)) p.2) else none
  | _ => none
section
variable {p : Program} {l : Launch} {e : Env} {s : State} {m : MethodId} {args : Array Value} {below : List Frame} {meth : Method} {c : Code} {ad : Nat → Nat} {D : va_G} {cA : Nat → ClassId}
theorem lk_re_readSign : ∀ q ∈ rs_re_readSign, eLnk { frames := 1, cells := 0, slots := 0, locals := 21 } vwCl (eWd yX8_readSign cX8_readSign 1 (some .boolean)) SSc SHc.length RX8 q.1 q.2 := List.forall_mem_cons.mpr ⟨lkX8_29 eTb_wd, List.forall_mem_cons.mpr ⟨lkX8_64 eTb_wd, List.forall_mem_cons.mpr ⟨trivial, fun _ h => absurd h List.not_mem_nil⟩⟩⟩
theorem hc_re_readSign {x : Int32 × eW} : ∀ q ∈ rs_re_readSign, eHc l { frames := 1, cells := 0, slots := 0, locals := 21 } ad D cA vwCl SHc SSc (eWd yX8_readSign cX8_readSign 1 (some .boolean)) RX8 cs_re_readSign x q := List.forall_mem_cons.mpr ⟨trivial, List.forall_mem_cons.mpr ⟨trivial, List.forall_mem_cons.mpr ⟨(fun as w k h => let ⟨v, w2, h1, h2⟩ := ok_re_refuse as w k x h; ⟨v, w2, h1, eCal_of h2 ⟨rfl, rfl⟩ hdX8_refuse (gvX8_74 eTb_wd)⟩), fun _ h => absurd h List.not_mem_nil⟩⟩⟩
set_option maxRecDepth 100000 in
set_option maxHeartbeats 4000000 in
theorem go_re_readSign (hcx : eCx p { frames := 1, cells := 0, slots := 0, locals := 21 } s m args meth c cX8_readSign RX8 1 ad D cA vwCl SHc SSc (eWd yX8_readSign cX8_readSign 1 (some .boolean)) (some .boolean)) (w : eW) (x : Int32 × eW) (h : f_re_readSign w = some x) : eGq p l e { frames := 1, cells := 0, slots := 0, locals := 21 } s m args below meth c 1 ad D cA vwCl SHc rZ x 0 (eEnt [.ref 6]) [] w := by
  have h : eRun SHc SSc 1 rs_re_readSign (eCs cs_re_readSign) rZ CX8_readSign [] (fun pc L st w => none) 14 true 0 [some (.ref 6)] [] w = some x := h
  refine eGo.wk (eRun_go hcx (eLnk_all lk_re_readSign) (eHc_all hc_re_readSign) rZ_ok dcX8_readSign [] _ (fun pc L st w hK => ?_) 14 true 0 _ _ w h) (eLe_wk ⟨rfl, trivial⟩)
  cases hK
end
set_option maxRecDepth 100000 in
set_option maxHeartbeats 4000000 in
theorem ok_re_readSign {l : Launch} {ad : Nat → Nat} {D : va_G} {cA : Nat → ClassId} {ρ : Type} (as : List Value) (w : eW) (k : Option Value → eW → Option ρ) (x : ρ) (h : K_re_readSign as w k = some x) : ∃ (v : Option Value) (w2 : eW), k v w2 = some x ∧ eMet l ad D cA vwCl SHc SSc yX8_readSign (eWd yX8_readSign cX8_readSign 1 (some .boolean)) { frames := 1, cells := 0, slots := 0, locals := 21 } as w v w2 := by
  unfold K_re_readSign at h
  split at h
  · rename_i r0
    obtain ⟨h1, h5⟩ := eBif h
    clear h
    have h := h5
    clear h5
    have h1 := Nat.eq_of_beq_eq_true h1
    subst h1
    obtain ⟨q, h2, h3⟩ := Option.bind_eq_some_iff.mp h
    exact ⟨_, _, h3, eMet_of (by decide +kernel) rfl (by simp [eCat, Value.category]) rZ_ret (fun p e s m args below meth c hcx => go_re_readSign hcx w q h2)⟩
  · cases h
def CX8_readWord : eCo := [[some (.aload_n 0), some (.invokevirtual 71), none, none, some (.iload_n 1), some (.if_icmp .eq 9), none, none, some (.aload_n 0), some (.iconst 2), some (.invokevirtual 74), none, none, some (.ireturn), some (.iload_n 1), some (.bipush 8)],
  [none, some (.if_icmp .ne 22), none, none, some (.aload_n 0), some (.getfield 21), none, none, some (.aload_n 0), some (.getfield 21), none, none, some (.getfield 125), none, none, some (.iconst 1)],
  [some (.isub), some (.bipush 6), none, some (.iconst 1), some (.invokevirtual 138), none, none, some (.iconst 1), some (.ireturn)]]
theorem dcX8_readWord : eDec cX8_readWord CX8_readWord := eDec_of (by decide +kernel)
def rs_re_readWord : List (Nat × eR) := [(21, (0, 7, 4, 2)), (71, (1, 0, 0, 7)), (74, (1, 2, 1, 7)), (125, (0, 4, 0, 0)), (138, (1, 1, 3, 4))]
noncomputable def cs_re_readWord : List (eF (Int32 × eW)) := [K_re_keptWord, K_dr_put, K_re_refuse]
noncomputable def f_re_readWord (a1 : Int32) (w : eW) : Option (Int32 × eW) := ((f_re_keptWord w).bind fun p1 => (if p1.1 = a1 then (if ¬ a1 = (8 : Int32) then (some ((1 : Int32), p1.2)) else ((f_dr_put ((p1.2.1 3 0) - (1 : Int32)) (6 : Int32) (1 : Int32) p1.2).bind fun w2 => (some ((1 : Int32), w2)))) else ((f_re_refuse (2 : Int32) p1.2).bind fun p3 => (if p3.1 = 0 ∨ p3.1 = 1 then some (p3.1, p3.2) else none))))
noncomputable def K_re_readWord {ρ : Type} : eF ρ := fun as w k => match as with
  | [.ref r0, .int a1] => bif Nat.beq r0 6 then (f_re_readWord a1 w).bind (fun p => k (some (.int p.1)) p.2) else none
  | _ => none
section
variable {p : Program} {l : Launch} {e : Env} {s : State} {m : MethodId} {args : Array Value} {below : List Frame} {meth : Method} {c : Code} {ad : Nat → Nat} {D : va_G} {cA : Nat → ClassId}
theorem lk_re_readWord : ∀ q ∈ rs_re_readWord, eLnk { frames := 2, cells := 0, slots := 0, locals := 44 } vwCl (eWd yX8_readWord cX8_readWord 2 (some .boolean)) SSc SHc.length RX8 q.1 q.2 := List.forall_mem_cons.mpr ⟨lkX8_21 eTb_wd, List.forall_mem_cons.mpr ⟨trivial, List.forall_mem_cons.mpr ⟨trivial, List.forall_mem_cons.mpr ⟨lkX8_125 eTb_wd, List.forall_mem_cons.mpr ⟨trivial, fun _ h => absurd h List.not_mem_nil⟩⟩⟩⟩⟩
theorem hc_re_readWord {x : Int32 × eW} : ∀ q ∈ rs_re_readWord, eHc l { frames := 2, cells := 0, slots := 0, locals := 44 } ad D cA vwCl SHc SSc (eWd yX8_readWord cX8_readWord 2 (some .boolean)) RX8 cs_re_readWord x q := List.forall_mem_cons.mpr ⟨trivial, List.forall_mem_cons.mpr ⟨(fun as w k h => let ⟨v, w2, h1, h2⟩ := ok_re_keptWord as w k x h; ⟨v, w2, h1, eCal_of h2 ⟨rfl, rfl⟩ hdX8_keptWord (gvX8_71 eTb_wd)⟩), List.forall_mem_cons.mpr ⟨(fun as w k h => let ⟨v, w2, h1, h2⟩ := ok_re_refuse as w k x h; ⟨v, w2, h1, eCal_of h2 ⟨rfl, rfl⟩ hdX8_refuse (gvX8_74 eTb_wd)⟩), List.forall_mem_cons.mpr ⟨trivial, List.forall_mem_cons.mpr ⟨(fun as w k h => let ⟨v, w2, h1, h2⟩ := ok_dr_put as w k x h; ⟨v, w2, h1, eCal_of h2 ⟨rfl, rfl⟩ hdX4_put (gvX8_138 eTb_wd)⟩), fun _ h => absurd h List.not_mem_nil⟩⟩⟩⟩⟩
set_option maxRecDepth 100000 in
set_option maxHeartbeats 4000000 in
theorem go_re_readWord (hcx : eCx p { frames := 2, cells := 0, slots := 0, locals := 44 } s m args meth c cX8_readWord RX8 2 ad D cA vwCl SHc SSc (eWd yX8_readWord cX8_readWord 2 (some .boolean)) (some .boolean)) (a1 : Int32) (w : eW) (x : Int32 × eW) (h : f_re_readWord a1 w = some x) : eGq p l e { frames := 2, cells := 0, slots := 0, locals := 44 } s m args below meth c 2 ad D cA vwCl SHc rZ x 0 (eEnt [.ref 6, .int a1]) [] w := by
  have h : eRun SHc SSc 2 rs_re_readWord (eCs cs_re_readWord) rZ CX8_readWord [] (fun pc L st w => none) 21 true 0 [some (.ref 6), some (.int a1)] [] w = some x := h
  refine eGo.wk (eRun_go hcx (eLnk_all lk_re_readWord) (eHc_all hc_re_readWord) rZ_ok dcX8_readWord [] _ (fun pc L st w hK => ?_) 21 true 0 _ _ w h) (eLe_wk ⟨rfl, rfl, trivial⟩)
  cases hK
end
set_option maxRecDepth 100000 in
set_option maxHeartbeats 4000000 in
theorem ok_re_readWord {l : Launch} {ad : Nat → Nat} {D : va_G} {cA : Nat → ClassId} {ρ : Type} (as : List Value) (w : eW) (k : Option Value → eW → Option ρ) (x : ρ) (h : K_re_readWord as w k = some x) : ∃ (v : Option Value) (w2 : eW), k v w2 = some x ∧ eMet l ad D cA vwCl SHc SSc yX8_readWord (eWd yX8_readWord cX8_readWord 2 (some .boolean)) { frames := 2, cells := 0, slots := 0, locals := 44 } as w v w2 := by
  unfold K_re_readWord at h
  split at h
  · rename_i r0 a1
    obtain ⟨h1, h5⟩ := eBif h
    clear h
    have h := h5
    clear h5
    have h1 := Nat.eq_of_beq_eq_true h1
    subst h1
    obtain ⟨q, h2, h3⟩ := Option.bind_eq_some_iff.mp h
    exact ⟨_, _, h3, eMet_of (by decide +kernel) rfl (by simp [eCat, Value.category]) rZ_ret (fun p e s m args below meth c hcx => go_re_readWord hcx a1 w q h2)⟩
  · cases h
def CX8_readName : eCo := [[some (.aload_n 0), some (.getfield 29), none, none, some (.getfield 64), none, none, some (.iconst 1), some (.if_icmp .ne 11), none, none, some (.aload_n 0), some (.invokevirtual 71), none, none, some (.iconst (-1))],
  [some (.if_icmp .eq 9), none, none, some (.aload_n 0), some (.iconst 2), some (.invokevirtual 74), none, none, some (.ireturn), some (.aload_n 0), some (.getfield 21), none, none, some (.getfield 125), none, none],
  [some (.iconst 1), some (.isub), some (.istore_n 1), some (.iconst 0), some (.istore_n 2), some (.iload_n 2), some (.iload_n 1), some (.if_icmp .ge 38), none, none, some (.iload_n 2), some (.bipush 12), none, some (.if_icmp .ge 32), none, none],
  [some (.aload_n 0), some (.getfield 15), none, none, some (.iload_n 2), some (.laload), some (.aload_n 0), some (.getfield 29), none, none, some (.getfield 128), none, none, some (.lcmp), some (.ifCond .ne 9), none],
  [none, some (.aload_n 0), some (.iconst 3), some (.invokevirtual 74), none, none, some (.ireturn), some (.iinc 2 1), none, none, some (.goto (-37)), none, none, some (.iload_n 1), some (.ifCond .lt 22), none],
  [none, some (.iload_n 1), some (.bipush 12), none, some (.if_icmp .ge 16), none, none, some (.aload_n 0), some (.getfield 15), none, none, some (.iload_n 1), some (.aload_n 0), some (.getfield 29), none, none],
  [some (.getfield 128), none, none, some (.lastore), some (.iconst 1), some (.ireturn)]]
theorem dcX8_readName : eDec cX8_readName CX8_readName := eDec_of (by decide +kernel)
def rs_re_readName : List (Nat × eR) := [(15, (0, 7, 2, 2)), (21, (0, 7, 4, 2)), (29, (0, 7, 0, 2)), (64, (0, 9, 4, 0)), (71, (1, 1, 0, 7)), (74, (1, 0, 1, 7)), (125, (0, 4, 0, 0)), (128, (0, 9, 6, 1))]
noncomputable def cs_re_readName : List (eF (Int32 × eW)) := [K_re_refuse, K_re_keptWord]
noncomputable def f_re_readName_L37 : Nat → Int32 → Int32 → eW → Option (Int32 × eW)
  | 0, _, _, _ => none
  | n + 1, a1, a2, w => (if a1 ≤ a2 then (if a1 < 0 then (some ((1 : Int32), w)) else (if (12 : Int32) ≤ a1 then (some ((1 : Int32), w)) else (eChk a1 12 (some ((1 : Int32), (eU2 w 5 (Int32.toNatClampNeg a1) (w.2 1 6))))))) else (if (12 : Int32) ≤ a2 then (if a1 < 0 then (some ((1 : Int32), w)) else (if (12 : Int32) ≤ a1 then (some ((1 : Int32), w)) else (eChk a1 12 (some ((1 : Int32), (eU2 w 5 (Int32.toNatClampNeg a1) (w.2 1 6))))))) else (eChk a2 12 (if ¬ (lg_cmp (w.2 5 (Int32.toNatClampNeg a2)) (w.2 1 6)) = 0 then (f_re_readName_L37 n a1 (a2 + (1 : Int32)) w) else ((f_re_refuse (3 : Int32) w).bind fun p4 => (if p4.1 = 0 ∨ p4.1 = 1 then some (p4.1, p4.2) else none))))))
noncomputable def f_re_readName (w : eW) : Option (Int32 × eW) := (if ¬ (w.1 1 4) = (1 : Int32) then ((f_re_refuse (2 : Int32) w).bind fun p1 => (if p1.1 = 0 ∨ p1.1 = 1 then some (p1.1, p1.2) else none)) else ((f_re_keptWord w).bind fun p2 => (if p2.1 = (-1 : Int32) then (f_re_readName_L37 eFu ((p2.2.1 3 0) - (1 : Int32)) (0 : Int32) p2.2) else ((f_re_refuse (2 : Int32) p2.2).bind fun p3 => (if p3.1 = 0 ∨ p3.1 = 1 then some (p3.1, p3.2) else none)))))
noncomputable def K_re_readName {ρ : Type} : eF ρ := fun as w k => match as with
  | [.ref r0] => bif Nat.beq r0 6 then (f_re_readName w).bind (fun p => k (some (.int p.1)) p.2) else none
  | _ => none
section
variable {p : Program} {l : Launch} {e : Env} {s : State} {m : MethodId} {args : Array Value} {below : List Frame} {meth : Method} {c : Code} {ad : Nat → Nat} {D : va_G} {cA : Nat → ClassId}
theorem lk_re_readName : ∀ q ∈ rs_re_readName, eLnk { frames := 1, cells := 0, slots := 0, locals := 21 } vwCl (eWd yX8_readName cX8_readName 3 (some .boolean)) SSc SHc.length RX8 q.1 q.2 := List.forall_mem_cons.mpr ⟨lkX8_15 eTb_wd, List.forall_mem_cons.mpr ⟨lkX8_21 eTb_wd, List.forall_mem_cons.mpr ⟨lkX8_29 eTb_wd, List.forall_mem_cons.mpr ⟨lkX8_64 eTb_wd, List.forall_mem_cons.mpr ⟨trivial, List.forall_mem_cons.mpr ⟨trivial, List.forall_mem_cons.mpr ⟨lkX8_125 eTb_wd, List.forall_mem_cons.mpr ⟨lkX8_128 eTb_wd, fun _ h => absurd h List.not_mem_nil⟩⟩⟩⟩⟩⟩⟩⟩
theorem hc_re_readName {x : Int32 × eW} : ∀ q ∈ rs_re_readName, eHc l { frames := 1, cells := 0, slots := 0, locals := 21 } ad D cA vwCl SHc SSc (eWd yX8_readName cX8_readName 3 (some .boolean)) RX8 cs_re_readName x q := List.forall_mem_cons.mpr ⟨trivial, List.forall_mem_cons.mpr ⟨trivial, List.forall_mem_cons.mpr ⟨trivial, List.forall_mem_cons.mpr ⟨trivial, List.forall_mem_cons.mpr ⟨(fun as w k h => let ⟨v, w2, h1, h2⟩ := ok_re_keptWord as w k x h; ⟨v, w2, h1, eCal_of h2 ⟨rfl, rfl⟩ hdX8_keptWord (gvX8_71 eTb_wd)⟩), List.forall_mem_cons.mpr ⟨(fun as w k h => let ⟨v, w2, h1, h2⟩ := ok_re_refuse as w k x h; ⟨v, w2, h1, eCal_of h2 ⟨rfl, rfl⟩ hdX8_refuse (gvX8_74 eTb_wd)⟩), List.forall_mem_cons.mpr ⟨trivial, List.forall_mem_cons.mpr ⟨trivial, fun _ h => absurd h List.not_mem_nil⟩⟩⟩⟩⟩⟩⟩⟩
noncomputable def kk_re_readName_37 (n : Nat) : eK (Int32 × eW) := fun pc L st w => bif Nat.beq pc 37 then (lR L 0 6 ((lI L 1).bind fun a1 => (lI L 2).bind fun a2 => sE st (f_re_readName_L37 n a1 a2 w))) else none
set_option maxRecDepth 100000 in
set_option maxHeartbeats 4000000 in
theorem go_re_readName_L37 (hcx : eCx p { frames := 1, cells := 0, slots := 0, locals := 21 } s m args meth c cX8_readName RX8 3 ad D cA vwCl SHc SSc (eWd yX8_readName cX8_readName 3 (some .boolean)) (some .boolean)) {x : Int32 × eW} : ∀ (n : Nat) (a1 : Int32) (a2 : Int32) (w : eW), f_re_readName_L37  n a1 a2 w = some x → eGq p l e { frames := 1, cells := 0, slots := 0, locals := 21 } s m args below meth c 3 ad D cA vwCl SHc rZ x 37 [some (.ref 6), some (.int a1), some (.int a2)] [] w := by
  intro n
  induction n with
  | zero => intro a1 a2 w h; exact nomatch (show (none : Option (Int32 × eW)) = some x from h)
  | succ n ih =>
    intro a1 a2 w h
    have h : eRun SHc SSc 3 rs_re_readName (eCs cs_re_readName) rZ CX8_readName [37] (kk_re_readName_37  n) 22 true 37 [some (.ref 6), some (.int a1), some (.int a2)] [] w = some x := h
    refine eRun_go hcx (eLnk_all lk_re_readName) (eHc_all hc_re_readName) rZ_ok dcX8_readName [37] _ (fun pc L st w hK => ?_) 22 true 37 _ _ w h
    unfold kk_re_readName_37 at hK
    rcases eCut hK with ⟨hpc, hK⟩ | hK
    · subst hpc
      obtain ⟨e0, hK_1⟩ := lR_some hK
      obtain ⟨a1, e1, hK_2⟩ := lI_some hK_1
      obtain ⟨a2, e2, hK_3⟩ := lI_some hK_2
      obtain ⟨hst9, hK_4⟩ := sE_some hK_3
      subst hst9
      exact eGo.wk (ih a1 a2 w hK_4) (eLe_wk ⟨e0, e1, e2, trivial⟩)
    cases hK
set_option maxRecDepth 100000 in
set_option maxHeartbeats 4000000 in
theorem go_re_readName (hcx : eCx p { frames := 1, cells := 0, slots := 0, locals := 21 } s m args meth c cX8_readName RX8 3 ad D cA vwCl SHc SSc (eWd yX8_readName cX8_readName 3 (some .boolean)) (some .boolean)) (w : eW) (x : Int32 × eW) (h : f_re_readName w = some x) : eGq p l e { frames := 1, cells := 0, slots := 0, locals := 21 } s m args below meth c 3 ad D cA vwCl SHc rZ x 0 (eEnt [.ref 6]) [] w := by
  have h : eRun SHc SSc 3 rs_re_readName (eCs cs_re_readName) rZ CX8_readName [37] (fun pc L st w => bif Nat.beq pc 37 then (lR L 0 6 ((lI L 1).bind fun a1 => (lI L 2).bind fun a2 => sE st (f_re_readName_L37 eFu a1 a2 w))) else none) 20 true 0 [some (.ref 6), none, none] [] w = some x := h
  refine eGo.wk (eRun_go hcx (eLnk_all lk_re_readName) (eHc_all hc_re_readName) rZ_ok dcX8_readName [37] _ (fun pc L st w hK => ?_) 20 true 0 _ _ w h) (eLe_wk ⟨rfl, trivial⟩)
  rcases eCut hK with ⟨hpc, hK⟩ | hK
  · subst hpc
    obtain ⟨e0, hK_1⟩ := lR_some hK
    obtain ⟨a1, e1, hK_2⟩ := lI_some hK_1
    obtain ⟨a2, e2, hK_3⟩ := lI_some hK_2
    obtain ⟨hst9, hK_4⟩ := sE_some hK_3
    subst hst9
    exact eGo.wk (go_re_readName_L37 hcx  eFu a1 a2 w hK_4) (eLe_wk ⟨e0, e1, e2, trivial⟩)
  cases hK
end
set_option maxRecDepth 100000 in
set_option maxHeartbeats 4000000 in
theorem ok_re_readName {l : Launch} {ad : Nat → Nat} {D : va_G} {cA : Nat → ClassId} {ρ : Type} (as : List Value) (w : eW) (k : Option Value → eW → Option ρ) (x : ρ) (h : K_re_readName as w k = some x) : ∃ (v : Option Value) (w2 : eW), k v w2 = some x ∧ eMet l ad D cA vwCl SHc SSc yX8_readName (eWd yX8_readName cX8_readName 3 (some .boolean)) { frames := 1, cells := 0, slots := 0, locals := 21 } as w v w2 := by
  unfold K_re_readName at h
  split at h
  · rename_i r0
    obtain ⟨h1, h5⟩ := eBif h
    clear h
    have h := h5
    clear h5
    have h1 := Nat.eq_of_beq_eq_true h1
    subst h1
    obtain ⟨q, h2, h3⟩ := Option.bind_eq_some_iff.mp h
    exact ⟨_, _, h3, eMet_of (by decide +kernel) rfl (by simp [eCat, Value.category]) rZ_ret (fun p e s m args below meth c hcx => go_re_readName hcx w q h2)⟩
  · cases h
def CX8_readNumber : eCo := [[some (.aload_n 0), some (.getfield 29), none, none, some (.getfield 64), none, none, some (.iconst 2), some (.if_icmp .eq 9), none, none, some (.aload_n 0), some (.iconst 2), some (.invokevirtual 74), none, none],
  [some (.ireturn), some (.aload_n 0), some (.getfield 29), none, none, some (.getfield 132), none, none, some (.iload_n 2), some (.if_icmp .lt 14), none, none, some (.aload_n 0), some (.getfield 29), none, none],
  [some (.getfield 132), none, none, some (.iload_n 3), some (.if_icmp .le 9), none, none, some (.aload_n 0), some (.iconst 4), some (.invokevirtual 74), none, none, some (.ireturn), some (.iload_n 1), some (.bipush 11), none],
  [some (.if_icmp .ne 20), none, none, some (.aload_n 0), some (.getfield 21), none, none, some (.aload_n 0), some (.getfield 29), none, none, some (.getfield 132), none, none, some (.putfield 135), none],
  [none, some (.goto 27), none, none, some (.aload_n 0), some (.getfield 21), none, none, some (.aload_n 0), some (.getfield 21), none, none, some (.getfield 125), none, none, some (.iconst 1)],
  [some (.isub), some (.iload_n 1), some (.aload_n 0), some (.getfield 29), none, none, some (.getfield 132), none, none, some (.invokevirtual 138), none, none, some (.iconst 1), some (.ireturn)]]
theorem dcX8_readNumber : eDec cX8_readNumber CX8_readNumber := eDec_of (by decide +kernel)
def rs_re_readNumber : List (Nat × eR) := [(21, (0, 7, 4, 2)), (29, (0, 7, 0, 2)), (64, (0, 9, 4, 0)), (74, (1, 0, 1, 7)), (125, (0, 4, 0, 0)), (132, (0, 9, 5, 0)), (135, (0, 4, 1, 0)), (138, (1, 1, 3, 4))]
noncomputable def cs_re_readNumber : List (eF (Int32 × eW)) := [K_re_refuse, K_dr_put]
noncomputable def f_re_readNumber (a1 : Int32) (a2 : Int32) (a3 : Int32) (w : eW) : Option (Int32 × eW) := (if (w.1 1 4) = (2 : Int32) then (if (w.1 1 5) < a2 then ((f_re_refuse (4 : Int32) w).bind fun p1 => (if p1.1 = 0 ∨ p1.1 = 1 then some (p1.1, p1.2) else none)) else (if (w.1 1 5) ≤ a3 then (if ¬ a1 = (11 : Int32) then ((f_dr_put ((w.1 3 0) - (1 : Int32)) a1 (w.1 1 5) w).bind fun w2 => (some ((1 : Int32), w2))) else (some ((1 : Int32), (eU1 w 3 1 (w.1 1 5))))) else ((f_re_refuse (4 : Int32) w).bind fun p3 => (if p3.1 = 0 ∨ p3.1 = 1 then some (p3.1, p3.2) else none)))) else ((f_re_refuse (2 : Int32) w).bind fun p4 => (if p4.1 = 0 ∨ p4.1 = 1 then some (p4.1, p4.2) else none)))
noncomputable def K_re_readNumber {ρ : Type} : eF ρ := fun as w k => match as with
  | [.ref r0, .int a1, .int a2, .int a3] => bif Nat.beq r0 6 then (f_re_readNumber a1 a2 a3 w).bind (fun p => k (some (.int p.1)) p.2) else none
  | _ => none
section
variable {p : Program} {l : Launch} {e : Env} {s : State} {m : MethodId} {args : Array Value} {below : List Frame} {meth : Method} {c : Code} {ad : Nat → Nat} {D : va_G} {cA : Nat → ClassId}
theorem lk_re_readNumber : ∀ q ∈ rs_re_readNumber, eLnk { frames := 2, cells := 0, slots := 0, locals := 44 } vwCl (eWd yX8_readNumber cX8_readNumber 4 (some .boolean)) SSc SHc.length RX8 q.1 q.2 := List.forall_mem_cons.mpr ⟨lkX8_21 eTb_wd, List.forall_mem_cons.mpr ⟨lkX8_29 eTb_wd, List.forall_mem_cons.mpr ⟨lkX8_64 eTb_wd, List.forall_mem_cons.mpr ⟨trivial, List.forall_mem_cons.mpr ⟨lkX8_125 eTb_wd, List.forall_mem_cons.mpr ⟨lkX8_132 eTb_wd, List.forall_mem_cons.mpr ⟨lkX8_135 eTb_wd, List.forall_mem_cons.mpr ⟨trivial, fun _ h => absurd h List.not_mem_nil⟩⟩⟩⟩⟩⟩⟩⟩
theorem hc_re_readNumber {x : Int32 × eW} : ∀ q ∈ rs_re_readNumber, eHc l { frames := 2, cells := 0, slots := 0, locals := 44 } ad D cA vwCl SHc SSc (eWd yX8_readNumber cX8_readNumber 4 (some .boolean)) RX8 cs_re_readNumber x q := List.forall_mem_cons.mpr ⟨trivial, List.forall_mem_cons.mpr ⟨trivial, List.forall_mem_cons.mpr ⟨trivial, List.forall_mem_cons.mpr ⟨(fun as w k h => let ⟨v, w2, h1, h2⟩ := ok_re_refuse as w k x h; ⟨v, w2, h1, eCal_of h2 ⟨rfl, rfl⟩ hdX8_refuse (gvX8_74 eTb_wd)⟩), List.forall_mem_cons.mpr ⟨trivial, List.forall_mem_cons.mpr ⟨trivial, List.forall_mem_cons.mpr ⟨trivial, List.forall_mem_cons.mpr ⟨(fun as w k h => let ⟨v, w2, h1, h2⟩ := ok_dr_put as w k x h; ⟨v, w2, h1, eCal_of h2 ⟨rfl, rfl⟩ hdX4_put (gvX8_138 eTb_wd)⟩), fun _ h => absurd h List.not_mem_nil⟩⟩⟩⟩⟩⟩⟩⟩
set_option maxRecDepth 100000 in
set_option maxHeartbeats 4000000 in
theorem go_re_readNumber (hcx : eCx p { frames := 2, cells := 0, slots := 0, locals := 44 } s m args meth c cX8_readNumber RX8 4 ad D cA vwCl SHc SSc (eWd yX8_readNumber cX8_readNumber 4 (some .boolean)) (some .boolean)) (a1 : Int32) (a2 : Int32) (a3 : Int32) (w : eW) (x : Int32 × eW) (h : f_re_readNumber a1 a2 a3 w = some x) : eGq p l e { frames := 2, cells := 0, slots := 0, locals := 44 } s m args below meth c 4 ad D cA vwCl SHc rZ x 0 (eEnt [.ref 6, .int a1, .int a2, .int a3]) [] w := by
  have h : eRun SHc SSc 4 rs_re_readNumber (eCs cs_re_readNumber) rZ CX8_readNumber [] (fun pc L st w => none) 34 true 0 [some (.ref 6), some (.int a1), some (.int a2), some (.int a3)] [] w = some x := h
  refine eGo.wk (eRun_go hcx (eLnk_all lk_re_readNumber) (eHc_all hc_re_readNumber) rZ_ok dcX8_readNumber [] _ (fun pc L st w hK => ?_) 34 true 0 _ _ w h) (eLe_wk ⟨rfl, rfl, rfl, rfl, trivial⟩)
  cases hK
end
set_option maxRecDepth 100000 in
set_option maxHeartbeats 4000000 in
theorem ok_re_readNumber {l : Launch} {ad : Nat → Nat} {D : va_G} {cA : Nat → ClassId} {ρ : Type} (as : List Value) (w : eW) (k : Option Value → eW → Option ρ) (x : ρ) (h : K_re_readNumber as w k = some x) : ∃ (v : Option Value) (w2 : eW), k v w2 = some x ∧ eMet l ad D cA vwCl SHc SSc yX8_readNumber (eWd yX8_readNumber cX8_readNumber 4 (some .boolean)) { frames := 2, cells := 0, slots := 0, locals := 44 } as w v w2 := by
  unfold K_re_readNumber at h
  split at h
  · rename_i r0 a1 a2 a3
    obtain ⟨h1, h5⟩ := eBif h
    clear h
    have h := h5
    clear h5
    have h1 := Nat.eq_of_beq_eq_true h1
    subst h1
    obtain ⟨q, h2, h3⟩ := Option.bind_eq_some_iff.mp h
    exact ⟨_, _, h3, eMet_of (by decide +kernel) rfl (by simp [eCat, Value.category]) rZ_ret (fun p e s m args below meth c hcx => go_re_readNumber hcx a1 a2 a3 w q h2)⟩
  · cases h
