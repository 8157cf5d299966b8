section EGO
variable {p : Program} {l : Launch} {e : Env} {R : Room} {s : State} {m : MethodId} {args : Array Value} {below : List Frame} {meth : Method} {c : Code} {cc : ByteArray} {own : String} {nL : Nat} {ad : Nat → Nat} {D : va_G} {cA : Nat → ClassId} {cl : List vw_C} {SH : List eSh} {SS : List eS} {Ts : List Cond}
def eGo (p : Program) (l : Launch) (e : Env) (R : Room) (s : State) (m : MethodId) (args : Array Value) (below : List Frame) (meth : Method) (c : Code) (nL : Nat) (ad : Nat → Nat) (D : va_G) (cA : Nat → ClassId) (cl : List vw_C) (SH : List eSh) (cells slots : Nat) (Q : State → Prop) (pc : Nat) (L : eL) (st : List Value) (w : eW) : Prop :=
  ∀ (H : Heap) (locs : List Loc) (ls : Array Slot), va_P D cl (eWs ad cA w 0 SH) H → va_S (eA ad SH.length) s.heap H locs → eAL ad ls nL L → W p l e R s m args below meth c H locs cells slots Q (F0 m pc ls (st.map (eC ad)))
/-- what a walk of a method stands on -/
def eCx (p : Program) (R : Room) (s : State) (m : MethodId) (args : Array Value) (meth : Method) (c : Code) (cc : ByteArray) (own : String) (nL : Nat) (ad : Nat → Nat) (D : va_G) (cA : Nat → ClassId) (cl : List vw_C) (SH : List eSh) (SS : List eS) (Ts : List Cond) (ret : Option FieldType) : Prop :=
  p.tables.exec = Jvm.exec ∧ c.code = cc ∧ meth.sig.returnType = ret ∧ meth.locks = false ∧ s.vm.findClass own = some m.cls ∧ c.maxLocals = nL ∧ (∀ w ∈ Ts, w.before args s = true) ∧ va_K D cl (eTys cA) s ∧ eInj ad SH.length ∧ eStat ad SH.length SS s
variable {ρ : Type} {cells slots : Nat} {Q : State → Prop}
theorem eGo.wk {pc : Nat} {L L' : eL} {st : List Value} {w : eW} (h : eGo p l e R s m args below meth c nL ad D cA cl SH cells slots Q pc L st w) (hl : ∀ (i : Nat) (v : Value), L[i]? = some (some v) → L'[i]? = some (some v)) : eGo p l e R s m args below meth c nL ad D cA cl SH cells slots Q pc L' st w :=
  fun H locs ls hP hS hL => h H locs ls hP hS ⟨hL.1, hL.2.1, fun i v hi => hL.2.2 i v (hl i v hi)⟩
theorem lv_ldcwf {Qz : State → Prop} {cz sz : Nat} {H : Heap} {locs : List Loc} {pc : Nat} {ls : Array Slot} {rest : List Value} (hexec : p.tables.exec = Jvm.exec) (hb : c.code = cc) {own : String} {index : Nat} {v : UInt32} (hown : s.vm.findClass own = some m.cls) (hconst : (Jvm.Cond.constantFloat own index v).before args s = true) (hdg : decode cc pc = .ok (.ldc_w index, 3)) (k : W p l e R s m args below meth c H locs cz sz Qz (F0 m (pc + 3) ls (.float v :: rest))) : W p l e R s m args below meth c H locs cz sz Qz (F0 m pc ls rest) := by
  intro T hT X
  obtain ⟨t, a, b⟩ := k T hT X
  refine ⟨t, ?_, b⟩
  obtain ⟨k, cf, hk, hcf, hcp⟩ := Cond.constantFloat_spec hown hconst
  obtain ⟨k', hk', he⟩ := X.warmed.alike.2.2 _ _ hk
  jvm_step X.here [hexec, hb, hdg, ldc_w.wp_float (s := T) (f := F0 m pc ls rest) X.here.top hk' (by rw [he]; exact hcf) hcp]
  exact a
theorem eDec1 {i : Instr} {len n : Nat} {pc : Nat} (h : decode cc pc = .ok (i, len)) (hn : len = n) : decode cc pc = .ok (i, n) := hn ▸ h
set_option maxHeartbeats 4000000 in
theorem eAlu_go (hx : p.tables.exec = Jvm.exec) (hb : c.code = cc) {x : ρ} (i : Instr) (pc : Nat) (L : eL) (st : List Value) (w : eW) (k : List Value → Option ρ) (h : eAlu i st k = some x) (hdg : decode cc pc = .ok (i, eILen i))
    (hk : ∀ st', k st' = some x → eGo p l e R s m args below meth c nL ad D cA cl SH cells slots Q (pc + eILen i) L st' w) : eGo p l e R s m args below meth c nL ad D cA cl SH cells slots Q pc L st w := by
  intro H locs ls hP hS hL
  have kk : ∀ st', k st' = some x → W p l e R s m args below meth c H locs cells slots Q (F0 m (pc + eILen i) ls (st'.map (eC ad))) := fun st' h => hk st' h H locs ls hP hS hL
  cases i with
  | iconst n => exact lv_iconst hx hb hdg rfl (kk _ h)
  | bipush n => exact lv_bipush hx hb hdg rfl (kk _ h)
  | sipush n => exact lv_sipush hx hb hdg rfl (kk _ h)
  | lconst n => exact lv_lconst hx hb hdg rfl (kk _ h)
  | dconst n =>
    match n, h, hdg, kk with
    | 0, h, hdg, kk => exact lv_dconst0 hx hb hdg (kk _ h)
    | 1, h, hdg, kk => exact lv_dconst1 hx hb hdg (kk _ h)
  | fconst n =>
    match n, h, hdg, kk with
    | 0, h, hdg, kk => exact lv_fconst0 hx hb hdg (kk _ h)
    | 1, h, hdg, kk => exact lv_fconst1 hx hb hdg (kk _ h)
    | 2, h, hdg, kk => exact lv_fconst2 hx hb hdg (kk _ h)
  | iadd =>
    match st, h with
    | .int y :: .int x :: st, h => exact lv_iadd hx hb hdg (kk _ h)
  | isub =>
    match st, h with
    | .int y :: .int x :: st, h => exact lv_isub hx hb hdg (kk _ h)
  | imul =>
    match st, h with
    | .int y :: .int x :: st, h => exact lv_imul hx hb hdg (kk _ h)
  | iand =>
    match st, h with
    | .int y :: .int x :: st, h => exact lv_iand hx hb hdg (kk _ h)
  | ior =>
    match st, h with
    | .int y :: .int x :: st, h => exact lv_ior hx hb hdg (kk _ h)
  | ixor =>
    match st, h with
    | .int y :: .int x :: st, h => exact lv_ixor hx hb hdg (kk _ h)
  | idiv =>
    match st, h with
    | .int y :: .int x :: st, h =>
      have h : (if y = 0 then none else k (.int (x / y) :: st)) = some _ := h
      by_cases hy : y = 0
      · rw [if_pos hy] at h; cases h
      · rw [if_neg hy] at h
        exact lv_idiv hx hb hdg hy (kk _ h)
  | irem =>
    match st, h with
    | .int y :: .int x :: st, h =>
      have h : (if y = 0 then none else k (.int (x - x / y * y) :: st)) = some _ := h
      by_cases hy : y = 0
      · rw [if_pos hy] at h; cases h
      · rw [if_neg hy] at h
        exact lv_irem hx hb hdg hy (kk _ h)
  | ineg =>
    match st, h with
    | .int x :: st, h => exact lv_ineg hx hb hdg (kk _ h)
  | ishl =>
    match st, h with
    | .int y :: .int x :: st, h => exact lv_ishl hx hb hdg (kk _ h)
  | ishr =>
    match st, h with
    | .int y :: .int x :: st, h => exact lv_ishr hx hb hdg (kk _ h)
  | iushr =>
    match st, h with
    | .int y :: .int x :: st, h => exact lv_iushr hx hb hdg rfl (kk _ h)
  | i2l =>
    match st, h with
    | .int x :: st, h => exact lv_i2l hx hb hdg rfl (kk _ h)
  | i2b =>
    match st, h with
    | .int x :: st, h => exact lv_i2b hx hb hdg rfl (kk _ h)
  | i2d =>
    match st, h with
    | .int x :: st, h => exact lv_i2d hx hb hdg (kk _ h)
  | i2f =>
    match st, h with
    | .int x :: st, h => exact lv_i2f hx hb hdg (kk _ h)
  | l2i =>
    match st, h with
    | .long x :: st, h => exact lv_l2i hx hb hdg rfl (kk _ h)
  | l2d =>
    match st, h with
    | .long x :: st, h => exact lv_l2d hx hb hdg (kk _ h)
  | l2f =>
    match st, h with
    | .long x :: st, h => exact lv_l2f hx hb hdg (kk _ h)
  | d2l =>
    match st, h with
    | .double x :: st, h => exact lv_d2l hx hb hdg (kk _ h)
  | f2i =>
    match st, h with
    | .float x :: st, h => exact lv_f2i hx hb hdg (kk _ h)
  | ladd =>
    match st, h with
    | .long y :: .long x :: st, h => exact lv_ladd hx hb hdg (kk _ h)
  | lsub =>
    match st, h with
    | .long y :: .long x :: st, h => exact lv_lsub hx hb hdg (kk _ h)
  | lmul =>
    match st, h with
    | .long y :: .long x :: st, h => exact lv_lmul hx hb hdg (kk _ h)
  | lor =>
    match st, h with
    | .long y :: .long x :: st, h => exact lv_lor hx hb hdg (kk _ h)
  | ldiv =>
    match st, h with
    | .long y :: .long x :: st, h =>
      have h : (if y = 0 then none else k (.long (x / y) :: st)) = some _ := h
      by_cases hy : y = 0
      · rw [if_pos hy] at h; cases h
      · rw [if_neg hy] at h
        exact lv_ldiv hx hb hdg hy (kk _ h)
  | lrem =>
    match st, h with
    | .long y :: .long x :: st, h =>
      have h : (if y = 0 then none else k (.long (x - x / y * y) :: st)) = some _ := h
      by_cases hy : y = 0
      · rw [if_pos hy] at h; cases h
      · rw [if_neg hy] at h
        exact lv_lrem hx hb hdg hy (kk _ h)
  | lneg =>
    match st, h with
    | .long x :: st, h => exact lv_lneg hx hb hdg (kk _ h)
  | lshl =>
    match st, h with
    | .int y :: .long x :: st, h => exact lv_lshl hx hb hdg rfl (kk _ h)
  | lcmp =>
    match st, h with
    | .long y :: .long x :: st, h => exact W.lcmp hx hb hdg (kk _ h)
  | dcmp op =>
    match st, h with
    | .double y :: .double x :: st, h => exact lv_dcmp hx hb hdg (kk _ h)
  | fcmp op =>
    match st, h with
    | .float y :: .float x :: st, h => exact lv_fcmp hx hb hdg (kk _ h)
  | dadd =>
    match st, h with
    | .double y :: .double x :: st, h =>
      have h : (if FP.dadd x y &&& 0x7fffffffffffffff ≤ 0x7ff0000000000000 then k (.double (FP.dadd x y) :: st) else none) = some _ := h
      by_cases hy : FP.dadd x y &&& 0x7fffffffffffffff ≤ 0x7ff0000000000000
      · rw [if_pos hy] at h
        exact lv_dadd hx hb hdg hy (kk _ h)
      · rw [if_neg hy] at h; cases h
  | dsub =>
    match st, h with
    | .double y :: .double x :: st, h =>
      have h : (if FP.dsub x y &&& 0x7fffffffffffffff ≤ 0x7ff0000000000000 then k (.double (FP.dsub x y) :: st) else none) = some _ := h
      by_cases hy : FP.dsub x y &&& 0x7fffffffffffffff ≤ 0x7ff0000000000000
      · rw [if_pos hy] at h
        exact lv_dsub hx hb hdg hy (kk _ h)
      · rw [if_neg hy] at h; cases h
  | dmul =>
    match st, h with
    | .double y :: .double x :: st, h =>
      have h : (if FP.dmul x y &&& 0x7fffffffffffffff ≤ 0x7ff0000000000000 then k (.double (FP.dmul x y) :: st) else none) = some _ := h
      by_cases hy : FP.dmul x y &&& 0x7fffffffffffffff ≤ 0x7ff0000000000000
      · rw [if_pos hy] at h
        exact lv_dmul hx hb hdg hy (kk _ h)
      · rw [if_neg hy] at h; cases h
  | ddiv =>
    match st, h with
    | .double y :: .double x :: st, h =>
      have h : (if FP.ddiv x y &&& 0x7fffffffffffffff ≤ 0x7ff0000000000000 then k (.double (FP.ddiv x y) :: st) else none) = some _ := h
      by_cases hy : FP.ddiv x y &&& 0x7fffffffffffffff ≤ 0x7ff0000000000000
      · rw [if_pos hy] at h
        exact lv_ddiv hx hb hdg hy (kk _ h)
      · rw [if_neg hy] at h; cases h
  | fsub =>
    match st, h with
    | .float y :: .float x :: st, h =>
      have h : (if FP.fsub x y &&& 0x7fffffff ≤ 0x7f800000 then k (.float (FP.fsub x y) :: st) else none) = some _ := h
      by_cases hy : FP.fsub x y &&& 0x7fffffff ≤ 0x7f800000
      · rw [if_pos hy] at h
        exact lv_fsub hx hb hdg hy (kk _ h)
      · rw [if_neg hy] at h; cases h
  | fmul =>
    match st, h with
    | .float y :: .float x :: st, h =>
      have h : (if FP.fmul x y &&& 0x7fffffff ≤ 0x7f800000 then k (.float (FP.fmul x y) :: st) else none) = some _ := h
      by_cases hy : FP.fmul x y &&& 0x7fffffff ≤ 0x7f800000
      · rw [if_pos hy] at h
        exact lv_fmul hx hb hdg hy (kk _ h)
      · rw [if_neg hy] at h; cases h
  | fdiv =>
    match st, h with
    | .float y :: .float x :: st, h =>
      have h : (if FP.fdiv x y &&& 0x7fffffff ≤ 0x7f800000 then k (.float (FP.fdiv x y) :: st) else none) = some _ := h
      by_cases hy : FP.fdiv x y &&& 0x7fffffff ≤ 0x7f800000
      · rw [if_pos hy] at h
        exact lv_fdiv hx hb hdg hy (kk _ h)
      · rw [if_neg hy] at h; cases h
  | dup =>
    match st, h with
    | .int x :: st, h => exact lv_dup hx hb hdg rfl (kk _ h)
    | .ref x :: st, h => exact lv_dup hx hb hdg rfl (kk _ h)
  | dup2 =>
    match st, h with
    | .int x :: .ref y :: st, h => exact lv_dup2_11 hx hb hdg rfl rfl (kk _ h)
  | pop =>
    match st, h with
    | .int x :: st, h => exact lv_pop hx hb hdg rfl (kk _ h)
  | _ => exact absurd h (fun z => by cases z)
end EGO
