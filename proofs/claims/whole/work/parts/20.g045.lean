def CX12_allGoes : eCo := [[some (.lconst 0), some (.lstore_n 1), some (.iconst 0), some (.istore_n 3), some (.iload_n 3), some (.aload_n 0), some (.getfield 98), none, none, some (.if_icmp .ge 26), none, none, some (.lload_n 1), some (.aload_n 0), some (.getfield 13), none],
  [none, some (.iload_n 3), some (.iaload), some (.i2l), some (.aload_n 0), some (.getfield 60), none, none, some (.iload_n 3), some (.laload), some (.lmul), some (.ladd), some (.lstore_n 1), some (.iinc 3 1), none, none],
  [some (.goto (-28)), none, none, some (.lload_n 1), some (.lreturn)]]
theorem dcX12_allGoes : eDec cX12_allGoes CX12_allGoes := eDec_of (by decide +kernel)
def rs_mm_allGoes : List (Nat × eR) := [(13, (0, 11, 6, 2)), (60, (0, 11, 33, 2)), (98, (0, 11, 1, 0))]
noncomputable def cs_mm_allGoes : List (eF (Int64 × eW)) := []
noncomputable def f_mm_allGoes_L4 : Nat → Int64 → Int32 → eW → Option (Int64 × eW)
  | 0, _, _, _ => none
  | n + 1, a1, a3, w => (if (w.1 24 1) ≤ a3 then (some (a1, w)) else (eChk a3 24 (eChk a3 12 (f_mm_allGoes_L4 n (a1 + ((((w.1 1 (Int32.toNatClampNeg a3))).toInt64) * (w.2 15 (Int32.toNatClampNeg a3)))) (a3 + (1 : Int32)) w))))
noncomputable def f_mm_allGoes (w : eW) : Option (Int64 × eW) := (f_mm_allGoes_L4 eFu (0 : Int64) (0 : Int32) w)
noncomputable def K_mm_allGoes {ρ : Type} : eF ρ := fun as w k => match as with
  | [.ref r0] => bif Nat.beq r0 24 then (f_mm_allGoes w).bind (fun p => k (some (.long p.1)) p.2) else none
  | _ => none
section
variable {p : Program} {l : Launch} {e : Env} {s : State} {m : MethodId} {args : Array Value} {below : List Frame} {meth : Method} {c : Code} {ad : Nat → Nat} {D : va_G} {cA : Nat → ClassId}
theorem lk_mm_allGoes : ∀ q ∈ rs_mm_allGoes, eLnk { frames := 0, cells := 0, slots := 0, locals := 0 } vwCl (eWd yX12_allGoes cX12_allGoes 4 (some .long)) SSm SHm.length RX12 q.1 q.2 := List.forall_mem_cons.mpr ⟨lkX12_13 eTb_wd, List.forall_mem_cons.mpr ⟨lkX12_60 eTb_wd, List.forall_mem_cons.mpr ⟨lkX12_98 eTb_wd, fun _ h => absurd h List.not_mem_nil⟩⟩⟩
theorem hc_mm_allGoes {x : Int64 × eW} : ∀ q ∈ rs_mm_allGoes, eHc l { frames := 0, cells := 0, slots := 0, locals := 0 } ad D cA vwCl SHm SSm (eWd yX12_allGoes cX12_allGoes 4 (some .long)) RX12 cs_mm_allGoes x q := List.forall_mem_cons.mpr ⟨trivial, List.forall_mem_cons.mpr ⟨trivial, List.forall_mem_cons.mpr ⟨trivial, fun _ h => absurd h List.not_mem_nil⟩⟩⟩
noncomputable def kk_mm_allGoes_4 (n : Nat) : eK (Int64 × eW) := fun pc L st w => bif Nat.beq pc 4 then (lR L 0 24 ((lJ L 1).bind fun a1 => (lI L 3).bind fun a3 => sE st (f_mm_allGoes_L4 n a1 a3 w))) else none
set_option maxRecDepth 100000 in
set_option maxHeartbeats 4000000 in
theorem go_mm_allGoes_L4 (hcx : eCx p { frames := 0, cells := 0, slots := 0, locals := 0 } s m args meth c cX12_allGoes RX12 4 ad D cA vwCl SHm SSm (eWd yX12_allGoes cX12_allGoes 4 (some .long)) (some .long)) {x : Int64 × eW} : ∀ (n : Nat) (a1 : Int64) (a3 : Int32) (w : eW), f_mm_allGoes_L4  n a1 a3 w = some x → eGq p l e { frames := 0, cells := 0, slots := 0, locals := 0 } s m args below meth c 4 ad D cA vwCl SHm rJ x 4 [some (.ref 24), some (.long a1), none, some (.int a3)] [] w := by
  intro n
  induction n with
  | zero => intro a1 a3 w h; exact nomatch (show (none : Option (Int64 × eW)) = some x from h)
  | succ n ih =>
    intro a1 a3 w h
    have h : eRun SHm SSm 4 rs_mm_allGoes (eCs cs_mm_allGoes) rJ CX12_allGoes [4] (kk_mm_allGoes_4  n) 22 true 4 [some (.ref 24), some (.long a1), none, some (.int a3)] [] w = some x := h
    refine eRun_go hcx (eLnk_all lk_mm_allGoes) (eHc_all hc_mm_allGoes) rJ_ok dcX12_allGoes [4] _ (fun pc L st w hK => ?_) 22 true 4 _ _ w h
    unfold kk_mm_allGoes_4 at hK
    rcases eCut hK with ⟨hpc, hK⟩ | hK
    · subst hpc
      obtain ⟨e0, hK_1⟩ := lR_some hK
      obtain ⟨a1, e1, hK_2⟩ := lJ_some hK_1
      obtain ⟨a3, e3, hK_3⟩ := lI_some hK_2
      obtain ⟨hst9, hK_4⟩ := sE_some hK_3
      subst hst9
      exact eGo.wk (ih a1 a3 w hK_4) (eLe_wk ⟨e0, e1, e3, trivial⟩)
    cases hK
set_option maxRecDepth 100000 in
set_option maxHeartbeats 4000000 in
theorem go_mm_allGoes (hcx : eCx p { frames := 0, cells := 0, slots := 0, locals := 0 } s m args meth c cX12_allGoes RX12 4 ad D cA vwCl SHm SSm (eWd yX12_allGoes cX12_allGoes 4 (some .long)) (some .long)) (w : eW) (x : Int64 × eW) (h : f_mm_allGoes w = some x) : eGq p l e { frames := 0, cells := 0, slots := 0, locals := 0 } s m args below meth c 4 ad D cA vwCl SHm rJ x 0 (eEnt [.ref 24]) [] w := by
  have h : eRun SHm SSm 4 rs_mm_allGoes (eCs cs_mm_allGoes) rJ CX12_allGoes [4] (fun pc L st w => bif Nat.beq pc 4 then (lR L 0 24 ((lJ L 1).bind fun a1 => (lI L 3).bind fun a3 => sE st (f_mm_allGoes_L4 eFu a1 a3 w))) else none) 7 true 0 [some (.ref 24), none, none, none] [] w = some x := h
  refine eGo.wk (eRun_go hcx (eLnk_all lk_mm_allGoes) (eHc_all hc_mm_allGoes) rJ_ok dcX12_allGoes [4] _ (fun pc L st w hK => ?_) 7 true 0 _ _ w h) (eLe_wk ⟨rfl, trivial⟩)
  rcases eCut hK with ⟨hpc, hK⟩ | hK
  · subst hpc
    obtain ⟨e0, hK_1⟩ := lR_some hK
    obtain ⟨a1, e1, hK_2⟩ := lJ_some hK_1
    obtain ⟨a3, e3, hK_3⟩ := lI_some hK_2
    obtain ⟨hst9, hK_4⟩ := sE_some hK_3
    subst hst9
    exact eGo.wk (go_mm_allGoes_L4 hcx  eFu a1 a3 w hK_4) (eLe_wk ⟨e0, e1, e3, trivial⟩)
  cases hK
end
set_option maxRecDepth 100000 in
set_option maxHeartbeats 4000000 in
theorem ok_mm_allGoes {l : Launch} {ad : Nat → Nat} {D : va_G} {cA : Nat → ClassId} {ρ : Type} (as : List Value) (w : eW) (k : Option Value → eW → Option ρ) (x : ρ) (h : K_mm_allGoes as w k = some x) : ∃ (v : Option Value) (w2 : eW), k v w2 = some x ∧ eMet l ad D cA vwCl SHm SSm yX12_allGoes (eWd yX12_allGoes cX12_allGoes 4 (some .long)) { frames := 0, cells := 0, slots := 0, locals := 0 } as w v w2 := by
  unfold K_mm_allGoes at h
  split at h
  · rename_i r0
    obtain ⟨h1, h5⟩ := eBif h
    clear h
    have h := h5
    clear h5
    have h1 := Nat.eq_of_beq_eq_true h1
    subst h1
    obtain ⟨q, h2, h3⟩ := Option.bind_eq_some_iff.mp h
    exact ⟨_, _, h3, eMet_of (by decide +kernel) rfl (by simp [eCat, Value.category]) rJ_ret (fun p e s m args below meth c hcx => go_mm_allGoes hcx w q h2)⟩
  · cases h
def CX12_allFixed : eCo := [[some (.lconst 0), some (.lstore_n 1), some (.iconst 0), some (.istore_n 3), some (.iload_n 3), some (.aload_n 0), some (.getfield 98), none, none, some (.if_icmp .ge 26), none, none, some (.lload_n 1), some (.aload_n 0), some (.getfield 13), none],
  [none, some (.iload_n 3), some (.iaload), some (.i2l), some (.aload_n 0), some (.getfield 57), none, none, some (.iload_n 3), some (.laload), some (.lmul), some (.ladd), some (.lstore_n 1), some (.iinc 3 1), none, none],
  [some (.goto (-28)), none, none, some (.lload_n 1), some (.lreturn)]]
theorem dcX12_allFixed : eDec cX12_allFixed CX12_allFixed := eDec_of (by decide +kernel)
def rs_mm_allFixed : List (Nat × eR) := [(13, (0, 11, 6, 2)), (57, (0, 11, 32, 2)), (98, (0, 11, 1, 0))]
noncomputable def cs_mm_allFixed : List (eF (Int64 × eW)) := []
noncomputable def f_mm_allFixed_L4 : Nat → Int64 → Int32 → eW → Option (Int64 × eW)
  | 0, _, _, _ => none
  | n + 1, a1, a3, w => (if (w.1 24 1) ≤ a3 then (some (a1, w)) else (eChk a3 24 (eChk a3 12 (f_mm_allFixed_L4 n (a1 + ((((w.1 1 (Int32.toNatClampNeg a3))).toInt64) * (w.2 14 (Int32.toNatClampNeg a3)))) (a3 + (1 : Int32)) w))))
noncomputable def f_mm_allFixed (w : eW) : Option (Int64 × eW) := (f_mm_allFixed_L4 eFu (0 : Int64) (0 : Int32) w)
noncomputable def K_mm_allFixed {ρ : Type} : eF ρ := fun as w k => match as with
  | [.ref r0] => bif Nat.beq r0 24 then (f_mm_allFixed w).bind (fun p => k (some (.long p.1)) p.2) else none
  | _ => none
section
variable {p : Program} {l : Launch} {e : Env} {s : State} {m : MethodId} {args : Array Value} {below : List Frame} {meth : Method} {c : Code} {ad : Nat → Nat} {D : va_G} {cA : Nat → ClassId}
theorem lk_mm_allFixed : ∀ q ∈ rs_mm_allFixed, eLnk { frames := 0, cells := 0, slots := 0, locals := 0 } vwCl (eWd yX12_allFixed cX12_allFixed 4 (some .long)) SSm SHm.length RX12 q.1 q.2 := List.forall_mem_cons.mpr ⟨lkX12_13 eTb_wd, List.forall_mem_cons.mpr ⟨lkX12_57 eTb_wd, List.forall_mem_cons.mpr ⟨lkX12_98 eTb_wd, fun _ h => absurd h List.not_mem_nil⟩⟩⟩
theorem hc_mm_allFixed {x : Int64 × eW} : ∀ q ∈ rs_mm_allFixed, eHc l { frames := 0, cells := 0, slots := 0, locals := 0 } ad D cA vwCl SHm SSm (eWd yX12_allFixed cX12_allFixed 4 (some .long)) RX12 cs_mm_allFixed x q := List.forall_mem_cons.mpr ⟨trivial, List.forall_mem_cons.mpr ⟨trivial, List.forall_mem_cons.mpr ⟨trivial, fun _ h => absurd h List.not_mem_nil⟩⟩⟩
noncomputable def kk_mm_allFixed_4 (n : Nat) : eK (Int64 × eW) := fun pc L st w => bif Nat.beq pc 4 then (lR L 0 24 ((lJ L 1).bind fun a1 => (lI L 3).bind fun a3 => sE st (f_mm_allFixed_L4 n a1 a3 w))) else none
set_option maxRecDepth 100000 in
set_option maxHeartbeats 4000000 in
theorem go_mm_allFixed_L4 (hcx : eCx p { frames := 0, cells := 0, slots := 0, locals := 0 } s m args meth c cX12_allFixed RX12 4 ad D cA vwCl SHm SSm (eWd yX12_allFixed cX12_allFixed 4 (some .long)) (some .long)) {x : Int64 × eW} : ∀ (n : Nat) (a1 : Int64) (a3 : Int32) (w : eW), f_mm_allFixed_L4  n a1 a3 w = some x → eGq p l e { frames := 0, cells := 0, slots := 0, locals := 0 } s m args below meth c 4 ad D cA vwCl SHm rJ x 4 [some (.ref 24), some (.long a1), none, some (.int a3)] [] w := by
  intro n
  induction n with
  | zero => intro a1 a3 w h; exact nomatch (show (none : Option (Int64 × eW)) = some x from h)
  | succ n ih =>
    intro a1 a3 w h
    have h : eRun SHm SSm 4 rs_mm_allFixed (eCs cs_mm_allFixed) rJ CX12_allFixed [4] (kk_mm_allFixed_4  n) 22 true 4 [some (.ref 24), some (.long a1), none, some (.int a3)] [] w = some x := h
    refine eRun_go hcx (eLnk_all lk_mm_allFixed) (eHc_all hc_mm_allFixed) rJ_ok dcX12_allFixed [4] _ (fun pc L st w hK => ?_) 22 true 4 _ _ w h
    unfold kk_mm_allFixed_4 at hK
    rcases eCut hK with ⟨hpc, hK⟩ | hK
    · subst hpc
      obtain ⟨e0, hK_1⟩ := lR_some hK
      obtain ⟨a1, e1, hK_2⟩ := lJ_some hK_1
      obtain ⟨a3, e3, hK_3⟩ := lI_some hK_2
      obtain ⟨hst9, hK_4⟩ := sE_some hK_3
      subst hst9
      exact eGo.wk (ih a1 a3 w hK_4) (eLe_wk ⟨e0, e1, e3, trivial⟩)
    cases hK
set_option maxRecDepth 100000 in
set_option maxHeartbeats 4000000 in
theorem go_mm_allFixed (hcx : eCx p { frames := 0, cells := 0, slots := 0, locals := 0 } s m args meth c cX12_allFixed RX12 4 ad D cA vwCl SHm SSm (eWd yX12_allFixed cX12_allFixed 4 (some .long)) (some .long)) (w : eW) (x : Int64 × eW) (h : f_mm_allFixed w = some x) : eGq p l e { frames := 0, cells := 0, slots := 0, locals := 0 } s m args below meth c 4 ad D cA vwCl SHm rJ x 0 (eEnt [.ref 24]) [] w := by
  have h : eRun SHm SSm 4 rs_mm_allFixed (eCs cs_mm_allFixed) rJ CX12_allFixed [4] (fun pc L st w => bif Nat.beq pc 4 then (lR L 0 24 ((lJ L 1).bind fun a1 => (lI L 3).bind fun a3 => sE st (f_mm_allFixed_L4 eFu a1 a3 w))) else none) 7 true 0 [some (.ref 24), none, none, none] [] w = some x := h
  refine eGo.wk (eRun_go hcx (eLnk_all lk_mm_allFixed) (eHc_all hc_mm_allFixed) rJ_ok dcX12_allFixed [4] _ (fun pc L st w hK => ?_) 7 true 0 _ _ w h) (eLe_wk ⟨rfl, trivial⟩)
  rcases eCut hK with ⟨hpc, hK⟩ | hK
  · subst hpc
    obtain ⟨e0, hK_1⟩ := lR_some hK
    obtain ⟨a1, e1, hK_2⟩ := lJ_some hK_1
    obtain ⟨a3, e3, hK_3⟩ := lI_some hK_2
    obtain ⟨hst9, hK_4⟩ := sE_some hK_3
    subst hst9
    exact eGo.wk (go_mm_allFixed_L4 hcx  eFu a1 a3 w hK_4) (eLe_wk ⟨e0, e1, e3, trivial⟩)
  cases hK
end
set_option maxRecDepth 100000 in
set_option maxHeartbeats 4000000 in
theorem ok_mm_allFixed {l : Launch} {ad : Nat → Nat} {D : va_G} {cA : Nat → ClassId} {ρ : Type} (as : List Value) (w : eW) (k : Option Value → eW → Option ρ) (x : ρ) (h : K_mm_allFixed as w k = some x) : ∃ (v : Option Value) (w2 : eW), k v w2 = some x ∧ eMet l ad D cA vwCl SHm SSm yX12_allFixed (eWd yX12_allFixed cX12_allFixed 4 (some .long)) { frames := 0, cells := 0, slots := 0, locals := 0 } as w v w2 := by
  unfold K_mm_allFixed at h
  split at h
  · rename_i r0
    obtain ⟨h1, h5⟩ := eBif h
    clear h
    have h := h5
    clear h5
    have h1 := Nat.eq_of_beq_eq_true h1
    subst h1
    obtain ⟨q, h2, h3⟩ := Option.bind_eq_some_iff.mp h
    exact ⟨_, _, h3, eMet_of (by decide +kernel) rfl (by simp [eCat, Value.category]) rJ_ret (fun p e s m args below meth c hcx => go_mm_allFixed hcx w q h2)⟩
  · cases h
def CX12_common : eCo := [[some (.lload_n 0), some (.lconst 0), some (.lcmp), some (.ifCond .ge 8), none, none, some (.lload_n 0), some (.lneg), some (.goto 4), none, none, some (.lload_n 0), some (.lstore 4), none, some (.lload_n 2), some (.lstore 6)],
  [none, some (.lload 6), none, some (.lconst 0), some (.lcmp), some (.ifCond .eq 21), none, none, some (.lload 4), none, some (.lload 6), none, some (.lrem), some (.lstore 8), none, some (.lload 6)],
  [none, some (.lstore 4), none, some (.lload 8), none, some (.lstore 6), none, some (.goto (-22)), none, none, some (.lload 4), none, some (.lreturn)]]
theorem dcX12_common : eDec cX12_common CX12_common := eDec_of (by decide +kernel)
def rs_mm_common : List (Nat × eR) := []
noncomputable def cs_mm_common : List (eF (Int64 × eW)) := []
noncomputable def f_mm_common_L17 : Nat → Int64 → Int64 → eW → Option (Int64 × eW)
  | 0, _, _, _ => none
  | n + 1, a4, a6, w => (if (lg_cmp a6 (0 : Int64)) = 0 then (some (a4, w)) else (if a6 = 0 then none else (f_mm_common_L17 n a6 (a4 - a4 / a6 * a6) w)))
noncomputable def f_mm_common (a0 : Int64) (a2 : Int64) (w : eW) : Option (Int64 × eW) := (if 0 ≤ (lg_cmp a0 (0 : Int64)) then (f_mm_common_L17 eFu a0 a2 w) else (f_mm_common_L17 eFu (-a0) a2 w))
noncomputable def K_mm_common {ρ : Type} : eF ρ := fun as w k => match as with
  | [.long a0, .long a2] => (f_mm_common a0 a2 w).bind (fun p => k (some (.long p.1)) p.2)
  | _ => none
section
variable {p : Program} {l : Launch} {e : Env} {s : State} {m : MethodId} {args : Array Value} {below : List Frame} {meth : Method} {c : Code} {ad : Nat → Nat} {D : va_G} {cA : Nat → ClassId}
theorem lk_mm_common : ∀ q ∈ rs_mm_common, eLnk { frames := 0, cells := 0, slots := 0, locals := 0 } vwCl (eWd yX12_common cX12_common 10 (some .long)) SSm SHm.length RX12 q.1 q.2 := fun _ h => absurd h List.not_mem_nil
theorem hc_mm_common {x : Int64 × eW} : ∀ q ∈ rs_mm_common, eHc l { frames := 0, cells := 0, slots := 0, locals := 0 } ad D cA vwCl SHm SSm (eWd yX12_common cX12_common 10 (some .long)) RX12 cs_mm_common x q := fun _ h => absurd h List.not_mem_nil
noncomputable def kk_mm_common_17 (n : Nat) : eK (Int64 × eW) := fun pc L st w => bif Nat.beq pc 17 then ((lJ L 4).bind fun a4 => (lJ L 6).bind fun a6 => sE st (f_mm_common_L17 n a4 a6 w)) else none
set_option maxRecDepth 100000 in
set_option maxHeartbeats 4000000 in
theorem go_mm_common_L17 (hcx : eCx p { frames := 0, cells := 0, slots := 0, locals := 0 } s m args meth c cX12_common RX12 10 ad D cA vwCl SHm SSm (eWd yX12_common cX12_common 10 (some .long)) (some .long)) {x : Int64 × eW} : ∀ (n : Nat) (a4 : Int64) (a6 : Int64) (w : eW), f_mm_common_L17  n a4 a6 w = some x → eGq p l e { frames := 0, cells := 0, slots := 0, locals := 0 } s m args below meth c 10 ad D cA vwCl SHm rJ x 17 [none, none, none, none, some (.long a4), none, some (.long a6), none, none, none] [] w := by
  intro n
  induction n with
  | zero => intro a4 a6 w h; exact nomatch (show (none : Option (Int64 × eW)) = some x from h)
  | succ n ih =>
    intro a4 a6 w h
    have h : eRun SHm SSm 10 rs_mm_common (eCs cs_mm_common) rJ CX12_common [17] (kk_mm_common_17  n) 16 true 17 [none, none, none, none, some (.long a4), none, some (.long a6), none, none, none] [] w = some x := h
    refine eRun_go hcx (eLnk_all lk_mm_common) (eHc_all hc_mm_common) rJ_ok dcX12_common [17] _ (fun pc L st w hK => ?_) 16 true 17 _ _ w h
    unfold kk_mm_common_17 at hK
    rcases eCut hK with ⟨hpc, hK⟩ | hK
    · subst hpc
      obtain ⟨a4, e4, hK_1⟩ := lJ_some hK
      obtain ⟨a6, e6, hK_2⟩ := lJ_some hK_1
      obtain ⟨hst9, hK_3⟩ := sE_some hK_2
      subst hst9
      exact eGo.wk (ih a4 a6 w hK_3) (eLe_wk ⟨e4, e6, trivial⟩)
    cases hK
set_option maxRecDepth 100000 in
set_option maxHeartbeats 4000000 in
theorem go_mm_common (hcx : eCx p { frames := 0, cells := 0, slots := 0, locals := 0 } s m args meth c cX12_common RX12 10 ad D cA vwCl SHm SSm (eWd yX12_common cX12_common 10 (some .long)) (some .long)) (a0 : Int64) (a2 : Int64) (w : eW) (x : Int64 × eW) (h : f_mm_common a0 a2 w = some x) : eGq p l e { frames := 0, cells := 0, slots := 0, locals := 0 } s m args below meth c 10 ad D cA vwCl SHm rJ x 0 (eEnt [.long a0, .long a2]) [] w := by
  have h : eRun SHm SSm 10 rs_mm_common (eCs cs_mm_common) rJ CX12_common [17] (fun pc L st w => bif Nat.beq pc 17 then ((lJ L 4).bind fun a4 => (lJ L 6).bind fun a6 => sE st (f_mm_common_L17 eFu a4 a6 w)) else none) 13 true 0 [some (.long a0), none, some (.long a2), none, none, none, none, none, none, none] [] w = some x := h
  refine eGo.wk (eRun_go hcx (eLnk_all lk_mm_common) (eHc_all hc_mm_common) rJ_ok dcX12_common [17] _ (fun pc L st w hK => ?_) 13 true 0 _ _ w h) (eLe_wk ⟨rfl, rfl, trivial⟩)
  rcases eCut hK with ⟨hpc, hK⟩ | hK
  · subst hpc
    obtain ⟨a4, e4, hK_1⟩ := lJ_some hK
    obtain ⟨a6, e6, hK_2⟩ := lJ_some hK_1
    obtain ⟨hst9, hK_3⟩ := sE_some hK_2
    subst hst9
    exact eGo.wk (go_mm_common_L17 hcx  eFu a4 a6 w hK_3) (eLe_wk ⟨e4, e6, trivial⟩)
  cases hK
end
set_option maxRecDepth 100000 in
set_option maxHeartbeats 4000000 in
theorem ok_mm_common {l : Launch} {ad : Nat → Nat} {D : va_G} {cA : Nat → ClassId} {ρ : Type} (as : List Value) (w : eW) (k : Option Value → eW → Option ρ) (x : ρ) (h : K_mm_common as w k = some x) : ∃ (v : Option Value) (w2 : eW), k v w2 = some x ∧ eMet l ad D cA vwCl SHm SSm yX12_common (eWd yX12_common cX12_common 10 (some .long)) { frames := 0, cells := 0, slots := 0, locals := 0 } as w v w2 := by
  unfold K_mm_common at h
  split at h
  · rename_i a0 a2
    obtain ⟨q, h2, h3⟩ := Option.bind_eq_some_iff.mp h
    exact ⟨_, _, h3, eMet_of (by decide +kernel) rfl (by simp [eCat, Value.category]) rJ_ret (fun p e s m args below meth c hcx => go_mm_common hcx a0 a2 w q h2)⟩
  · cases h
def CX12_layLevel : eCo := [[some (.lload_n 1), some (.lload_n 3), some (.invokestatic 307), none, none, some (.lstore 5), none, some (.aload_n 0), some (.lload_n 1), some (.lload 5), none, some (.ldiv), some (.putfield 281), none, none, some (.aload_n 0)],
  [some (.lload_n 3), some (.lload 5), none, some (.ldiv), some (.putfield 70), none, none, some (.aload_n 0), some (.ldc2_w 263), none, none, some (.aload_n 0), some (.getfield 70), none, none, some (.lmul)],
  [some (.putfield 66), none, none, some (.iconst 0), some (.istore 7), none, some (.iload 7), none, some (.aload_n 0), some (.getfield 98), none, none, some (.if_icmp .ge 50), none, none, some (.aload_n 0)],
  [some (.getfield 63), none, none, some (.iload 7), none, some (.aload_n 0), some (.getfield 13), none, none, some (.iload 7), none, some (.iaload), some (.i2l), some (.aload_n 0), some (.getfield 57), none],
  [none, some (.iload 7), none, some (.laload), some (.aload_n 0), some (.getfield 66), none, none, some (.lmul), some (.aload_n 0), some (.getfield 60), none, none, some (.iload 7), none, some (.laload)],
  [some (.aload_n 0), some (.getfield 281), none, none, some (.lmul), some (.ladd), some (.lmul), some (.lastore), some (.iinc 7 1), none, none, some (.goto (-53)), none, none, some (.return_)]]
theorem dcX12_layLevel : eDec cX12_layLevel CX12_layLevel := eDec_of (by decide +kernel)
def rs_mm_layLevel : List (Nat × eR) := [(13, (0, 11, 6, 2)), (57, (0, 11, 32, 2)), (60, (0, 11, 33, 2)), (63, (0, 11, 37, 2)), (66, (0, 11, 38, 1)), (70, (0, 11, 40, 1)), (98, (0, 11, 1, 0)), (263, (3, 0, 0, 100)), (281, (0, 11, 39, 1)), (307, (1, 0, 2, -1))]
noncomputable def cs_mm_layLevel : List (eF (eW)) := [K_mm_common]
noncomputable def f_mm_layLevel_L38 : Nat → Int32 → eW → Option (eW)
  | 0, _, _ => none
  | n + 1, a7, w => (if (w.1 24 1) ≤ a7 then (some w) else (eChk a7 24 (eChk a7 12 (eChk a7 12 (eChk a7 12 (f_mm_layLevel_L38 n (a7 + (1 : Int32)) (eU2 w 16 (Int32.toNatClampNeg a7) ((((w.1 1 (Int32.toNatClampNeg a7))).toInt64) * (((w.2 14 (Int32.toNatClampNeg a7)) * (w.2 24 38)) + ((w.2 15 (Int32.toNatClampNeg a7)) * (w.2 24 39)))))))))))
noncomputable def f_mm_layLevel (a1 : Int64) (a3 : Int64) (w : eW) : Option (eW) := ((f_mm_common a1 a3 w).bind fun p1 => (if p1.1 = 0 then none else (if p1.1 = 0 then none else (f_mm_layLevel_L38 eFu (0 : Int32) (eU2 (eU2 (eU2 p1.2 24 39 (a1 / p1.1)) 24 40 (a3 / p1.1)) 24 38 ((100 : Int64) * (a3 / p1.1)))))))
noncomputable def K_mm_layLevel {ρ : Type} : eF ρ := fun as w k => match as with
  | [.ref r0, .long a1, .long a3] => bif Nat.beq r0 24 then (f_mm_layLevel a1 a3 w).bind (fun w => k none w) else none
  | _ => none
section
variable {p : Program} {l : Launch} {e : Env} {s : State} {m : MethodId} {args : Array Value} {below : List Frame} {meth : Method} {c : Code} {ad : Nat → Nat} {D : va_G} {cA : Nat → ClassId}
theorem lk_mm_layLevel : ∀ q ∈ rs_mm_layLevel, eLnk { frames := 1, cells := 0, slots := 0, locals := 29 } vwCl (eWd yX12_layLevel cX12_layLevel 8 none) SSm SHm.length RX12 q.1 q.2 := List.forall_mem_cons.mpr ⟨lkX12_13 eTb_wd, List.forall_mem_cons.mpr ⟨lkX12_57 eTb_wd, List.forall_mem_cons.mpr ⟨lkX12_60 eTb_wd, List.forall_mem_cons.mpr ⟨lkX12_63 eTb_wd, List.forall_mem_cons.mpr ⟨lkX12_66 eTb_wd, List.forall_mem_cons.mpr ⟨lkX12_70 eTb_wd, List.forall_mem_cons.mpr ⟨lkX12_98 eTb_wd, List.forall_mem_cons.mpr ⟨lkX12_263 eTb_wd, List.forall_mem_cons.mpr ⟨lkX12_281 eTb_wd, List.forall_mem_cons.mpr ⟨trivial, fun _ h => absurd h List.not_mem_nil⟩⟩⟩⟩⟩⟩⟩⟩⟩⟩
theorem hc_mm_layLevel {x : eW} : ∀ q ∈ rs_mm_layLevel, eHc l { frames := 1, cells := 0, slots := 0, locals := 29 } ad D cA vwCl SHm SSm (eWd yX12_layLevel cX12_layLevel 8 none) RX12 cs_mm_layLevel x q := List.forall_mem_cons.mpr ⟨trivial, List.forall_mem_cons.mpr ⟨trivial, List.forall_mem_cons.mpr ⟨trivial, List.forall_mem_cons.mpr ⟨trivial, List.forall_mem_cons.mpr ⟨trivial, List.forall_mem_cons.mpr ⟨trivial, List.forall_mem_cons.mpr ⟨trivial, List.forall_mem_cons.mpr ⟨trivial, List.forall_mem_cons.mpr ⟨trivial, List.forall_mem_cons.mpr ⟨(fun as w k h => let ⟨v, w2, h1, h2⟩ := ok_mm_common as w k x h; ⟨v, w2, h1, eCal_of h2 ⟨rfl, rfl⟩ hdX12_common (gvX12_307 eTb_wd)⟩), fun _ h => absurd h List.not_mem_nil⟩⟩⟩⟩⟩⟩⟩⟩⟩⟩
noncomputable def kk_mm_layLevel_38 (n : Nat) : eK (eW) := fun pc L st w => bif Nat.beq pc 38 then (lR L 0 24 ((lI L 7).bind fun a7 => sE st (f_mm_layLevel_L38 n a7 w))) else none
set_option maxRecDepth 100000 in
set_option maxHeartbeats 4000000 in
theorem go_mm_layLevel_L38 (hcx : eCx p { frames := 1, cells := 0, slots := 0, locals := 29 } s m args meth c cX12_layLevel RX12 8 ad D cA vwCl SHm SSm (eWd yX12_layLevel cX12_layLevel 8 none) (none)) {x : eW} : ∀ (n : Nat) (a7 : Int32) (w : eW), f_mm_layLevel_L38  n a7 w = some x → eGq p l e { frames := 1, cells := 0, slots := 0, locals := 29 } s m args below meth c 8 ad D cA vwCl SHm rV x 38 [some (.ref 24), none, none, none, none, none, none, some (.int a7)] [] w := by
  intro n
  induction n with
  | zero => intro a7 w h; exact nomatch (show (none : Option (eW)) = some x from h)
  | succ n ih =>
    intro a7 w h
    have h : eRun SHm SSm 8 rs_mm_layLevel (eCs cs_mm_layLevel) rV CX12_layLevel [38] (kk_mm_layLevel_38  n) 34 true 38 [some (.ref 24), none, none, none, none, none, none, some (.int a7)] [] w = some x := h
    refine eRun_go hcx (eLnk_all lk_mm_layLevel) (eHc_all hc_mm_layLevel) rV_ok dcX12_layLevel [38] _ (fun pc L st w hK => ?_) 34 true 38 _ _ w h
    unfold kk_mm_layLevel_38 at hK
    rcases eCut hK with ⟨hpc, hK⟩ | hK
    · subst hpc
      obtain ⟨e0, hK_1⟩ := lR_some hK
      obtain ⟨a7, e7, hK_2⟩ := lI_some hK_1
      obtain ⟨hst9, hK_3⟩ := sE_some hK_2
      subst hst9
      exact eGo.wk (ih a7 w hK_3) (eLe_wk ⟨e0, e7, trivial⟩)
    cases hK
set_option maxRecDepth 100000 in
set_option maxHeartbeats 4000000 in
theorem go_mm_layLevel (hcx : eCx p { frames := 1, cells := 0, slots := 0, locals := 29 } s m args meth c cX12_layLevel RX12 8 ad D cA vwCl SHm SSm (eWd yX12_layLevel cX12_layLevel 8 none) (none)) (a1 : Int64) (a3 : Int64) (w : eW) (x : eW) (h : f_mm_layLevel a1 a3 w = some x) : eGq p l e { frames := 1, cells := 0, slots := 0, locals := 29 } s m args below meth c 8 ad D cA vwCl SHm rV x 0 (eEnt [.ref 24, .long a1, .long a3]) [] w := by
  have h : eRun SHm SSm 8 rs_mm_layLevel (eCs cs_mm_layLevel) rV CX12_layLevel [38] (fun pc L st w => bif Nat.beq pc 38 then (lR L 0 24 ((lI L 7).bind fun a7 => sE st (f_mm_layLevel_L38 eFu a7 w))) else none) 25 true 0 [some (.ref 24), some (.long a1), none, some (.long a3), none, none, none, none] [] w = some x := h
  refine eGo.wk (eRun_go hcx (eLnk_all lk_mm_layLevel) (eHc_all hc_mm_layLevel) rV_ok dcX12_layLevel [38] _ (fun pc L st w hK => ?_) 25 true 0 _ _ w h) (eLe_wk ⟨rfl, rfl, rfl, trivial⟩)
  rcases eCut hK with ⟨hpc, hK⟩ | hK
  · subst hpc
    obtain ⟨e0, hK_1⟩ := lR_some hK
    obtain ⟨a7, e7, hK_2⟩ := lI_some hK_1
    obtain ⟨hst9, hK_3⟩ := sE_some hK_2
    subst hst9
    exact eGo.wk (go_mm_layLevel_L38 hcx  eFu a7 w hK_3) (eLe_wk ⟨e0, e7, trivial⟩)
  cases hK
end
set_option maxRecDepth 100000 in
set_option maxHeartbeats 4000000 in
theorem ok_mm_layLevel {l : Launch} {ad : Nat → Nat} {D : va_G} {cA : Nat → ClassId} {ρ : Type} (as : List Value) (w : eW) (k : Option Value → eW → Option ρ) (x : ρ) (h : K_mm_layLevel as w k = some x) : ∃ (v : Option Value) (w2 : eW), k v w2 = some x ∧ eMet l ad D cA vwCl SHm SSm yX12_layLevel (eWd yX12_layLevel cX12_layLevel 8 none) { frames := 1, cells := 0, slots := 0, locals := 29 } as w v w2 := by
  unfold K_mm_layLevel at h
  split at h
  · rename_i r0 a1 a3
    obtain ⟨h1, h5⟩ := eBif h
    clear h
    have h := h5
    clear h5
    have h1 := Nat.eq_of_beq_eq_true h1
    subst h1
    obtain ⟨q, h2, h3⟩ := Option.bind_eq_some_iff.mp h
    exact ⟨_, _, h3, eMet_of (by decide +kernel) rfl (by simp [eCat, Value.category]) rV_ret (fun p e s m args below meth c hcx => go_mm_layLevel hcx a1 a3 w q h2)⟩
  · cases h
