section EWK
variable {p : Program} {l : Launch} {e : Env} {R : Room} {s : State} {m : MethodId} {args : Array Value} {below : List Frame} {meth : Method} {c : Code} {cc : ByteArray} {own : String} {nL : Nat} {ad : Nat → Nat} {D : va_G} {cA : Nat → ClassId} {cl : List vw_C} {SH : List eSh} {SS : List eS} {Ts : List Cond} {ret : Option FieldType}
variable {cells slots : Nat} {Q : State → Prop}
variable {ρ : Type} {rs : List (Nat × eR)} {calls : Nat → eF ρ} {rt : Option Value → eW → Option ρ} {x : ρ}
theorem e_upd (w : eW) (o j : Nat) (v : Int32) : (eU1 w o j v).1 o = upd (w.1 o) j v := by
  funext b
  rw [eU1_at, if_pos rfl]
  rfl
theorem e_updL (w : eW) (o j : Nat) (v : Int64) : (eU2 w o j v).2 o = vp_updL (w.2 o) j v := by
  funext b
  rw [eU2_at, if_pos rfl]
  rfl
theorem eFs_len (ad : Nat → Nat) (w : eW) (id : Nat) : ∀ (r : List (Nat × Nat)) (i : Nat), (eFs ad w id i r).length = r.length
  | [], _ => rfl
  | a :: r, i => by simp [eFs, eFs_len ad w id r (i + 1)]
abbrev eGq (p : Program) (l : Launch) (e : Env) (R : Room) (s : State) (m : MethodId) (args : Array Value) (below : List Frame) (meth : Method) (c : Code) (nL : Nat) (ad : Nat → Nat) (D : va_G) (cA : Nat → ClassId) (cl : List vw_C) (SH : List eSh) (rt : Option Value → eW → Option ρ) (x : ρ) : Nat → eL → List Value → eW → Prop := eGo p l e R s m args below meth c nL ad D cA cl SH 0 0 (MQ below (eQ ad D cA cl SH rt x) args s 0 0 (eA ad SH.length))
theorem eRets (hcx : eCx p R s m args meth c cc own nL ad D cA cl SH SS Ts ret) (hrt : ∀ v w, rt v w = some x → eRet ret v) {v : Option Value} {w : eW} (h : rt v w = some x) {H : Heap} {locs : List Loc} (hP : va_P D cl (eWs ad cA w 0 SH) H) (hS : va_S (eA ad SH.length) s.heap H locs) : ∀ t : State, t.heap = H → s.WarmedH t.vm → eQ ad D cA cl SH rt x args s (.returned (v.map (eC ad))) t := fun t ht _ => ⟨v, w, h, rfl, by rw [ht]; exact hP, hS.F ht⟩
def eLenOK (i : Instr) (len : Nat) : Prop := match i with
  | .tableswitch _ lo hi offs => -2147483648 ≤ lo ∧ hi = lo + (offs.size : Int) - 1 ∧ lo + (offs.size : Int) ≤ 2147483648
  | i => len = eILen i
def eIsRet (i : Instr) (v : Option Value) : Prop := match i, v with
  | .ireturn, some (.int _) => True
  | .lreturn, some (.long _) => True
  | .dreturn, some (.double _) => True
  | .freturn, some (.float _) => True
  | .areturn, some (.ref _) => True
  | .return_, none => True
  | _, _ => False
theorem eRet_W (hcx : eCx p R s m args meth c cc own nL ad D cA cl SH SS Ts ret) (hrt : ∀ v w, rt v w = some x → eRet ret v) : ∀ (v : Option Value) (w : eW) (i : Instr) (pc : Nat) (H : Heap) (locs : List Loc) (ls : Array Slot), rt v w = some x → eIsRet i v → decode cc pc = .ok (i, 1) → va_P D cl (eWs ad cA w 0 SH) H → va_S (eA ad SH.length) s.heap H locs → W p l e R s m args below meth c H locs 0 0 (MQ below (eQ ad D cA cl SH rt x) args s 0 0 (eA ad SH.length)) (F0 m pc ls (v.toList.map (eC ad))) := by
  intro v w i pc H locs ls h hi hdg hP hS
  have hq := eRets hcx hrt h hP hS
  have ht := hrt _ _ h
  obtain ⟨hx, hb, hr, hlocks, hown, hml, hts, hK, hinj, hstat⟩ := id hcx
  unfold eIsRet at hi
  split at hi
  · rcases ht with h1 | ⟨h1, h2⟩
    · exact W.iret hx hb (hr.trans h1) hq hS.2.2 hdg
    · exact W.zret hx hb (hr.trans h1) (by rcases h2 with rfl | rfl <;> rfl) hq hS.2.2 hdg
  · exact W.lret hx hb (hr.trans ht) hq hS.2.2 hdg
  · exact W.dret hx hb (hr.trans ht) hq hS.2.2 hdg
  · exact W.fret hx hb (hr.trans ht) hq hS.2.2 hdg
  · rename_i a
    obtain ⟨t, ht⟩ := ht
    exact W.aret hx hb (hr.trans ht) (Or.inr ⟨t, rfl⟩) (Or.inr ⟨ad a, rfl⟩) hq hS.2.2 hdg
  · exact W.vret hx hb (hr.trans ht) hq hS.2.2 hdg
  · exact hi.elim
set_option maxHeartbeats 8000000 in
theorem eStep_go (hcx : eCx p R s m args meth c cc own nL ad D cA cl SH SS Ts ret) (hlk : ∀ ix r, eLook rs ix = some r → eLnk R cl Ts SS SH.length own ix r)
    (hcal : ∀ (ix a n : Nat) (z : Int), eLook rs ix = some (1, a, n, z) → ∀ (as : List Value) (w : eW) (k : Option Value → eW → Option ρ), calls a as w k = some x → ∃ (v : Option Value) (w' : eW), k v w' = some x ∧ eCal l R ad D cA cl SH SS Ts own ix n z as w v w')
    (hcs : cells ≤ R.cells ∧ slots ≤ R.slots) (hret : ∀ (v : Option Value) (w : eW) (i : Instr) (pc : Nat) (H : Heap) (locs : List Loc) (ls : Array Slot), rt v w = some x → eIsRet i v → decode cc pc = .ok (i, 1) → va_P D cl (eWs ad cA w 0 SH) H → va_S (eA ad SH.length) s.heap H locs → W p l e R s m args below meth c H locs cells slots Q (F0 m pc ls (v.toList.map (eC ad)))) (k : eK ρ) (hk : ∀ pc L st w, k pc L st w = some x → eGo p l e R s m args below meth c nL ad D cA cl SH cells slots Q pc L st w)
    (i : Instr) (pc len : Nat) (L : eL) (st : List Value) (w : eW) (h : eStep SH SS nL rs calls rt k i pc L st w = some x) (hdg : decode cc pc = .ok (i, len)) (hlen : eLenOK i len) : eGo p l e R s m args below meth c nL ad D cA cl SH cells slots Q pc L st w := by
  obtain ⟨hx, hb, hr, hlocks, hown, hml, hts, hK, hinj, hstat⟩ := id hcx
  cases i with
  | tableswitch d lo hi offs =>
    have hlo : -2147483648 ≤ lo ∧ hi = lo + (offs.size : Int) - 1 ∧ lo + (offs.size : Int) ≤ 2147483648 := hlen
    match st, h with
    | .int v :: st, h =>
      intro H locs ls hP hS hL
      have h : eSw (fun t => k t L st w) pc v d lo offs.toList = some x := h
      rcases eSw_go offs.toList lo hlo.1 (by simpa using hlo.2.2) h with ⟨j, o, t, a1, a2, a3, a4⟩ | ⟨a1, t, a3, a4⟩
      · have hj : j < offs.toList.length := (List.getElem?_eq_some_iff.mp a1).1
        simp only [Array.length_toList] at hj
        exact lv_tableIn hx hb hdg (by omega) (by omega) (by rw [show (v.toInt - lo).toNat = j by omega, ← Array.getElem?_toList]; exact a1) a3 (hk _ _ _ _ a4 H locs ls hP hS hL)
      · simp only [Array.length_toList] at a1
        exact lv_tableOut hx hb hdg (by omega) a3 (hk _ _ _ _ a4 H locs ls hP hS hL)
  | iload n =>
    have hdg := eDec1 hdg hlen
    have h : (match eLd L n with
      | some (.int v) => k (pc + 2) L (.int v :: st) w
      | _ => none) = some x := h
    split at h
    · rename_i v hv
      exact fun H locs ls hP hS hL => lv_iload hx hb hdg (hL.2.2 _ _ (eLd_some.mp hv)) (hk _ _ _ _ h H locs ls hP hS hL)
    · cases h
  | iload_n n =>
    have hdg := eDec1 hdg hlen
    have h : (match eLd L n with
      | some (.int v) => k (pc + 1) L (.int v :: st) w
      | _ => none) = some x := h
    split at h
    · rename_i v hv
      exact fun H locs ls hP hS hL => lv_iload_n hx hb hdg rfl (hL.2.2 _ _ (eLd_some.mp hv)) (hk _ _ _ _ h H locs ls hP hS hL)
    · cases h
  | lload n =>
    have hdg := eDec1 hdg hlen
    have h : (match eLd L n with
      | some (.long v) => k (pc + 2) L (.long v :: st) w
      | _ => none) = some x := h
    split at h
    · rename_i v hv
      exact fun H locs ls hP hS hL => lv_lload hx hb hdg (hL.2.2 _ _ (eLd_some.mp hv)) (hk _ _ _ _ h H locs ls hP hS hL)
    · cases h
  | lload_n n =>
    have hdg := eDec1 hdg hlen
    have h : (match eLd L n with
      | some (.long v) => k (pc + 1) L (.long v :: st) w
      | _ => none) = some x := h
    split at h
    · rename_i v hv
      exact fun H locs ls hP hS hL => lv_lload_n hx hb hdg rfl (hL.2.2 _ _ (eLd_some.mp hv)) (hk _ _ _ _ h H locs ls hP hS hL)
    · cases h
  | dload n =>
    have hdg := eDec1 hdg hlen
    have h : (match eLd L n with
      | some (.double v) => k (pc + 2) L (.double v :: st) w
      | _ => none) = some x := h
    split at h
    · rename_i v hv
      exact fun H locs ls hP hS hL => lv_dload hx hb hdg (hL.2.2 _ _ (eLd_some.mp hv)) (hk _ _ _ _ h H locs ls hP hS hL)
    · cases h
  | dload_n n =>
    have hdg := eDec1 hdg hlen
    have h : (match eLd L n with
      | some (.double v) => k (pc + 1) L (.double v :: st) w
      | _ => none) = some x := h
    split at h
    · rename_i v hv
      exact fun H locs ls hP hS hL => lv_dload_n hx hb hdg rfl (hL.2.2 _ _ (eLd_some.mp hv)) (hk _ _ _ _ h H locs ls hP hS hL)
    · cases h
  | fload n =>
    have hdg := eDec1 hdg hlen
    have h : (match eLd L n with
      | some (.float v) => k (pc + 2) L (.float v :: st) w
      | _ => none) = some x := h
    split at h
    · rename_i v hv
      exact fun H locs ls hP hS hL => lv_fload hx hb hdg (hL.2.2 _ _ (eLd_some.mp hv)) (hk _ _ _ _ h H locs ls hP hS hL)
    · cases h
  | fload_n n =>
    have hdg := eDec1 hdg hlen
    have h : (match eLd L n with
      | some (.float v) => k (pc + 1) L (.float v :: st) w
      | _ => none) = some x := h
    split at h
    · rename_i v hv
      exact fun H locs ls hP hS hL => lv_fload_n hx hb hdg rfl (hL.2.2 _ _ (eLd_some.mp hv)) (hk _ _ _ _ h H locs ls hP hS hL)
    · cases h
  | aload n =>
    have hdg := eDec1 hdg hlen
    have h : (match eLd L n with
      | some (.ref v) => k (pc + 2) L (.ref v :: st) w
      | _ => none) = some x := h
    split at h
    · rename_i v hv
      exact fun H locs ls hP hS hL => lv_aload hx hb hdg (hL.2.2 _ _ (eLd_some.mp hv)) (hk _ _ _ _ h H locs ls hP hS hL)
    · cases h
  | aload_n n =>
    have hdg := eDec1 hdg hlen
    have h : (match eLd L n with
      | some (.ref v) => k (pc + 1) L (.ref v :: st) w
      | _ => none) = some x := h
    split at h
    · rename_i v hv
      exact fun H locs ls hP hS hL => lv_aload_n hx hb hdg rfl (hL.2.2 _ _ (eLd_some.mp hv)) (hk _ _ _ _ h H locs ls hP hS hL)
    · cases h
  | istore n =>
    have hdg := eDec1 hdg hlen
    match st, h with
    | .int v :: st, h =>
      have h : (bif Nat.blt n nL then eForce (eSt1 L n (.int v)) (fun L => k (pc + 2) L st w) else none) = some x := h
      obtain ⟨hn, h⟩ := eBif h
      rw [eForce_eq] at h
      exact fun H locs ls hP hS hL => lv_istore hx hb hdg hL.has (Nat.le_of_ble_eq_true hn) rfl (fun ls' hl' => hk _ _ _ _ h H locs ls' hP hS (eAL.st1 (v := .int v) hl'))
  | istore_n n =>
    have hdg := eDec1 hdg hlen
    match st, h with
    | .int v :: st, h =>
      have h : (bif Nat.blt n.val nL then eForce (eSt1 L n (.int v)) (fun L => k (pc + 1) L st w) else none) = some x := h
      obtain ⟨hn, h⟩ := eBif h
      rw [eForce_eq] at h
      exact fun H locs ls hP hS hL => lv_istore_n hx hb hdg rfl hL.has (Nat.le_of_ble_eq_true hn) rfl (fun ls' hl' => hk _ _ _ _ h H locs ls' hP hS (eAL.st1 (v := .int v) hl'))
  | lstore n =>
    have hdg := eDec1 hdg hlen
    match st, h with
    | .long v :: st, h =>
      have h : (bif Nat.blt (n + 1) nL then eForce (eSt2 L n (.long v)) (fun L => k (pc + 2) L st w) else none) = some x := h
      obtain ⟨hn, h⟩ := eBif h
      rw [eForce_eq] at h
      exact fun H locs ls hP hS hL => lv_lstore hx hb hdg hL.has (Nat.le_of_ble_eq_true hn) rfl (fun ls' hl' => hk _ _ _ _ h H locs ls' hP hS (eAL.st2 (v := .long v) hl'))
  | lstore_n n =>
    have hdg := eDec1 hdg hlen
    match st, h with
    | .long v :: st, h =>
      have h : (bif Nat.blt (n.val + 1) nL then eForce (eSt2 L n (.long v)) (fun L => k (pc + 1) L st w) else none) = some x := h
      obtain ⟨hn, h⟩ := eBif h
      rw [eForce_eq] at h
      exact fun H locs ls hP hS hL => lv_lstore_n hx hb hdg rfl hL.has (Nat.le_of_ble_eq_true hn) rfl (fun ls' hl' => hk _ _ _ _ h H locs ls' hP hS (eAL.st2 (v := .long v) hl'))
  | dstore n =>
    have hdg := eDec1 hdg hlen
    match st, h with
    | .double v :: st, h =>
      have h : (bif Nat.blt (n + 1) nL then eForce (eSt2 L n (.double v)) (fun L => k (pc + 2) L st w) else none) = some x := h
      obtain ⟨hn, h⟩ := eBif h
      rw [eForce_eq] at h
      exact fun H locs ls hP hS hL => lv_dstore hx hb hdg hL.has (Nat.le_of_ble_eq_true hn) rfl (fun ls' hl' => hk _ _ _ _ h H locs ls' hP hS (eAL.st2 (v := .double v) hl'))
  | dstore_n n =>
    have hdg := eDec1 hdg hlen
    match st, h with
    | .double v :: st, h =>
      have h : (bif Nat.blt (n.val + 1) nL then eForce (eSt2 L n (.double v)) (fun L => k (pc + 1) L st w) else none) = some x := h
      obtain ⟨hn, h⟩ := eBif h
      rw [eForce_eq] at h
      exact fun H locs ls hP hS hL => lv_dstore_n hx hb hdg rfl hL.has (Nat.le_of_ble_eq_true hn) rfl (fun ls' hl' => hk _ _ _ _ h H locs ls' hP hS (eAL.st2 (v := .double v) hl'))
  | fstore n =>
    have hdg := eDec1 hdg hlen
    match st, h with
    | .float v :: st, h =>
      have h : (bif Nat.blt n nL then eForce (eSt1 L n (.float v)) (fun L => k (pc + 2) L st w) else none) = some x := h
      obtain ⟨hn, h⟩ := eBif h
      rw [eForce_eq] at h
      exact fun H locs ls hP hS hL => lv_fstore hx hb hdg hL.has (Nat.le_of_ble_eq_true hn) rfl (fun ls' hl' => hk _ _ _ _ h H locs ls' hP hS (eAL.st1 (v := .float v) hl'))
  | fstore_n n =>
    have hdg := eDec1 hdg hlen
    match st, h with
    | .float v :: st, h =>
      have h : (bif Nat.blt n.val nL then eForce (eSt1 L n (.float v)) (fun L => k (pc + 1) L st w) else none) = some x := h
      obtain ⟨hn, h⟩ := eBif h
      rw [eForce_eq] at h
      exact fun H locs ls hP hS hL => lv_fstore_n hx hb hdg rfl hL.has (Nat.le_of_ble_eq_true hn) rfl (fun ls' hl' => hk _ _ _ _ h H locs ls' hP hS (eAL.st1 (v := .float v) hl'))
  | astore n =>
    have hdg := eDec1 hdg hlen
    match st, h with
    | .ref v :: st, h =>
      have h : (bif Nat.blt n nL then eForce (eSt1 L n (.ref v)) (fun L => k (pc + 2) L st w) else none) = some x := h
      obtain ⟨hn, h⟩ := eBif h
      rw [eForce_eq] at h
      exact fun H locs ls hP hS hL => lv_astore hx hb hdg hL.has (Nat.le_of_ble_eq_true hn) rfl (fun ls' hl' => hk _ _ _ _ h H locs ls' hP hS (eAL.st1 (v := .ref v) hl'))
  | astore_n n =>
    have hdg := eDec1 hdg hlen
    match st, h with
    | .ref v :: st, h =>
      have h : (bif Nat.blt n.val nL then eForce (eSt1 L n (.ref v)) (fun L => k (pc + 1) L st w) else none) = some x := h
      obtain ⟨hn, h⟩ := eBif h
      rw [eForce_eq] at h
      exact fun H locs ls hP hS hL => lv_astore_n hx hb hdg rfl hL.has (Nat.le_of_ble_eq_true hn) rfl (fun ls' hl' => hk _ _ _ _ h H locs ls' hP hS (eAL.st1 (v := .ref v) hl'))
  | iinc n z =>
    have hdg := eDec1 hdg hlen
    have h : (match eLd L n with
      | some (.int v) => bif Nat.blt n nL then eForce (eSt1 L n (.int (v + Int32.ofInt z))) (fun L => k (pc + 3) L st w) else none
      | _ => none) = some x := h
    split at h
    · rename_i v hv
      obtain ⟨hn, h⟩ := eBif h
      rw [eForce_eq] at h
      intro H locs ls hP hS hL
      have hmem : (n, Value.int v) ∈ eLv ad L := eLv_mem.mpr ⟨.int v, eLd_some.mp hv, rfl⟩
      obtain ⟨q, hq⟩ := List.getElem?_of_mem hmem
      exact lv_iinc hx hb hdg hL.has hq rfl (Nat.le_of_ble_eq_true hn) rfl (fun ls' hl' => hk _ _ _ _ h H locs ls' hP hS (eAL.st1 (v := .int (v + Int32.ofInt z)) hl'))
    · cases h
  | goto off =>
    have hdg := eDec1 hdg hlen
    have h : (match eTo pc off with
      | some t => k t L st w
      | none => none) = some x := h
    split at h
    · rename_i t ht
      exact fun H locs ls hP hS hL => lv_goto hx hb hdg (eTo_some ht) (hk _ _ _ _ h H locs ls hP hS hL)
    · cases h
  | ifCond cd off =>
    have hdg := eDec1 hdg hlen
    match st, h with
    | .int v :: st, h =>
      cases cd with
      | eq =>
        obtain ⟨t, h1, h2, h3⟩ := eBr_go (k := fun t => k t L st w) h
        exact fun H locs ls hP hS hL => lv_if_eq hx hb hdg h1 (fun z => hk _ _ _ _ (h2 z) H locs ls hP hS hL) (fun z => hk _ _ _ _ (h3 z) H locs ls hP hS hL)
      | ne =>
        obtain ⟨t, h1, h2, h3⟩ := eBr_go (k := fun t => k t L st w) h
        exact fun H locs ls hP hS hL => lv_if_ne hx hb hdg h1 (fun z => hk _ _ _ _ (h2 z) H locs ls hP hS hL) (fun z => hk _ _ _ _ (h3 (fun q => q z)) H locs ls hP hS hL)
      | lt =>
        obtain ⟨t, h1, h2, h3⟩ := eBr_go (k := fun t => k t L st w) h
        exact fun H locs ls hP hS hL => lv_if_lt hx hb hdg h1 (fun z => hk _ _ _ _ (h2 z) H locs ls hP hS hL) (fun z => hk _ _ _ _ (h3 z) H locs ls hP hS hL)
      | ge =>
        obtain ⟨t, h1, h2, h3⟩ := eBr_go (k := fun t => k t L st w) h
        exact fun H locs ls hP hS hL => lv_if_ge hx hb hdg h1 (fun z => hk _ _ _ _ (h2 z) H locs ls hP hS hL) (fun z => hk _ _ _ _ (h3 z) H locs ls hP hS hL)
      | gt =>
        obtain ⟨t, h1, h2, h3⟩ := eBr_go (k := fun t => k t L st w) h
        exact fun H locs ls hP hS hL => lv_if_gt hx hb hdg h1 (fun z => hk _ _ _ _ (h2 z) H locs ls hP hS hL) (fun z => hk _ _ _ _ (h3 z) H locs ls hP hS hL)
      | le =>
        obtain ⟨t, h1, h2, h3⟩ := eBr_go (k := fun t => k t L st w) h
        exact fun H locs ls hP hS hL => lv_if_le hx hb hdg h1 (fun z => hk _ _ _ _ (h2 z) H locs ls hP hS hL) (fun z => hk _ _ _ _ (h3 z) H locs ls hP hS hL)
  | if_icmp cd off =>
    have hdg := eDec1 hdg hlen
    match st, h with
    | .int v2 :: .int v1 :: st, h =>
      cases cd with
      | eq =>
        obtain ⟨t, h1, h2, h3⟩ := eBr_go (k := fun t => k t L st w) h
        exact fun H locs ls hP hS hL => lv_icmp_eq hx hb hdg h1 (fun z => hk _ _ _ _ (h2 z) H locs ls hP hS hL) (fun z => hk _ _ _ _ (h3 z) H locs ls hP hS hL)
      | ne =>
        obtain ⟨t, h1, h2, h3⟩ := eBr_go (k := fun t => k t L st w) h
        exact fun H locs ls hP hS hL => lv_icmp_ne hx hb hdg h1 (fun z => hk _ _ _ _ (h2 z) H locs ls hP hS hL) (fun z => hk _ _ _ _ (h3 (fun q => q z)) H locs ls hP hS hL)
      | lt =>
        obtain ⟨t, h1, h2, h3⟩ := eBr_go (k := fun t => k t L st w) h
        exact fun H locs ls hP hS hL => lv_icmp_lt hx hb hdg h1 (fun z => hk _ _ _ _ (h2 z) H locs ls hP hS hL) (fun z => hk _ _ _ _ (h3 z) H locs ls hP hS hL)
      | ge =>
        obtain ⟨t, h1, h2, h3⟩ := eBr_go (k := fun t => k t L st w) h
        exact fun H locs ls hP hS hL => lv_icmp_ge hx hb hdg h1 (fun z => hk _ _ _ _ (h2 z) H locs ls hP hS hL) (fun z => hk _ _ _ _ (h3 z) H locs ls hP hS hL)
      | gt =>
        obtain ⟨t, h1, h2, h3⟩ := eBr_go (k := fun t => k t L st w) h
        exact fun H locs ls hP hS hL => lv_icmp_gt hx hb hdg h1 (fun z => hk _ _ _ _ (h2 z) H locs ls hP hS hL) (fun z => hk _ _ _ _ (h3 z) H locs ls hP hS hL)
      | le =>
        obtain ⟨t, h1, h2, h3⟩ := eBr_go (k := fun t => k t L st w) h
        exact fun H locs ls hP hS hL => lv_icmp_le hx hb hdg h1 (fun z => hk _ _ _ _ (h2 z) H locs ls hP hS hL) (fun z => hk _ _ _ _ (h3 z) H locs ls hP hS hL)
  | ldc ix =>
    have hdg := eDec1 hdg hlen
    have h : (match eLook rs ix with
      | some (2, _, _, z) => k (pc + 2) L (.int (Int32.ofInt z) :: st) w
      | some (5, z, _, _) => k (pc + 2) L (.float (UInt32.ofNat z) :: st) w
      | _ => none) = some x := h
    split at h
    · rename_i hq
      have hw := hlk _ _ hq
      exact fun H locs ls hP hS hL => lv_ldc hx hb hown (hts _ hw) hdg (hk _ _ _ _ h H locs ls hP hS hL)
    · rename_i hq
      have hw := hlk _ _ hq
      exact fun H locs ls hP hS hL => lv_ldcf hx hb hown (hts _ hw) hdg (hk _ _ _ _ h H locs ls hP hS hL)
    · cases h
  | ldc_w ix =>
    have hdg := eDec1 hdg hlen
    have h : (match eLook rs ix with
      | some (2, _, _, z) => k (pc + 3) L (.int (Int32.ofInt z) :: st) w
      | some (5, z, _, _) => k (pc + 3) L (.float (UInt32.ofNat z) :: st) w
      | _ => none) = some x := h
    split at h
    · rename_i hq
      have hw := hlk _ _ hq
      exact fun H locs ls hP hS hL => lv_ldcw hx hb hown (hts _ hw) hdg (hk _ _ _ _ h H locs ls hP hS hL)
    · rename_i hq
      have hw := hlk _ _ hq
      exact fun H locs ls hP hS hL => lv_ldcwf hx hb hown (hts _ hw) hdg (hk _ _ _ _ h H locs ls hP hS hL)
    · cases h
  | ldc2_w ix =>
    have hdg := eDec1 hdg hlen
    have h : (match eLook rs ix with
      | some (3, _, _, z) => k (pc + 3) L (.long (Int64.ofInt z) :: st) w
      | some (4, z, _, _) => k (pc + 3) L (.double (UInt64.ofNat z) :: st) w
      | _ => none) = some x := h
    split at h
    · rename_i hq
      have hw := hlk _ _ hq
      exact fun H locs ls hP hS hL => lv_ldc2 hx hb hown (hts _ hw) hdg (hk _ _ _ _ h H locs ls hP hS hL)
    · rename_i hq
      have hw := hlk _ _ hq
      exact fun H locs ls hP hS hL => lv_ldc2d hx hb hown (hts _ hw) hdg (hk _ _ _ _ h H locs ls hP hS hL)
    · cases h
  | getfield ix =>
    have hdg := eDec1 hdg hlen
    simp only [eStep] at h
    split at h
    · rename_i ci kf z o st hq
      split at h
      · rename_i ci' fs hsh
        obtain ⟨hc, h2⟩ := eBif h
        clear h
        have hc := Nat.eq_of_beq_eq_true hc
        subst hc
        split at h2
        · rename_i f hf
          obtain ⟨C, T, N, ty0, q1, q2, q3, q4, q5, q6, q7⟩ := hlk _ _ hq
          intro H locs ls hP hS hL
          refine va_get hx hb hts q4 hown hK hP o (eWs_at hsh) q1 kf q2 (hts _ q7) (fun _ z => z) (v := eFv ad w o kf f) (by rw [eFs_get, hf]; simp) hdg ?_
          have := hk _ _ _ _ h2 H locs ls hP hS hL
          simp only [List.map_cons, eFv_C] at this
          exact this
        · cases h2
      · cases h
    · cases h
  | putfield ix =>
    have hdg := eDec1 hdg hlen
    simp only [eStep] at h
    split at h
    · rename_i ci kf z v o st hq
      split at h
      · rename_i ci' fs hsh
        obtain ⟨hc, h2⟩ := eBif h
        clear h
        have hc := Nat.eq_of_beq_eq_true hc
        subst hc
        obtain ⟨C, T, N, ty0, q1, q2, q3, q4, q5, q6, q7⟩ := hlk _ _ hq
        have hD := eWs_D (cA := cA) (w := w) hinj
        split at h2
        · rename_i sn v hf
          rcases q3 with z | ⟨q8, q9⟩
          · exact absurd z (by decide)
          intro H locs ls hP hS hL
          refine va_put (ty := .int) hx hb hts q4 ty0 q5 q6 hown hK hP hD hS o (eWs_at hsh) q1 kf q2 (hts _ q7) (fun _ z => z) q8 q9 rfl rfl (by rw [eFs_len]; exact (List.getElem?_eq_some_iff.mp hf).1) hdg (fun H1 locs1 hP1 _ hS1 => ?_)
          simp only [eC] at hP1
          rw [eFs_set1 hf (by simp [eFv, eU1_at])] at hP1
          have e1 := eWs_set (ad := ad) (cA := cA) (w := w) (w' := eU1 w o kf v) hsh eU1_ne
          simp only [eCell] at e1
          rw [e1] at hP1
          exact hk _ _ _ _ h2 H1 locs1 ls hP1 hS1 hL
        · rename_i sn v hf
          rcases q3 with z | ⟨q8, q9⟩
          · exact absurd z (by decide)
          intro H locs ls hP hS hL
          refine va_put (ty := .long) hx hb hts q4 ty0 q5 q6 hown hK hP hD hS o (eWs_at hsh) q1 kf q2 (hts _ q7) (fun _ z => z) q8 q9 rfl rfl (by rw [eFs_len]; exact (List.getElem?_eq_some_iff.mp hf).1) hdg (fun H1 locs1 hP1 _ hS1 => ?_)
          simp only [eC] at hP1
          rw [eFs_set2 hf (by simp [eFv, eU2_at])] at hP1
          have e1 := eWs_set (ad := ad) (cA := cA) (w := w) (w' := eU2 w o kf v) hsh eU2_ne
          simp only [eCell] at e1
          rw [e1] at hP1
          exact hk _ _ _ _ h2 H1 locs1 ls hP1 hS1 hL
        · rename_i sn v hf
          split at h2
          · rename_i hv
            rcases q3 with z | ⟨q8, q9⟩
            · exact absurd z (by decide)
            intro H locs ls hP hS hL
            refine va_put (ty := .boolean) hx hb hts q4 ty0 q5 q6 hown hK hP hD hS o (eWs_at hsh) q1 kf q2 (hts _ q7) (fun _ z => z) q8 q9 (by rcases hv with rfl | rfl <;> rfl) (by rcases hv with rfl | rfl <;> rfl) (by rw [eFs_len]; exact (List.getElem?_eq_some_iff.mp hf).1) hdg (fun H1 locs1 hP1 _ hS1 => ?_)
            simp only [eC] at hP1
            rw [eFs_set1 hf (by simp [eFv, eU1_at])] at hP1
            have e1 := eWs_set (ad := ad) (cA := cA) (w := w) (w' := eU1 w o kf v) hsh eU1_ne
            simp only [eCell] at e1
            rw [e1] at hP1
            exact hk _ _ _ _ h2 H1 locs1 ls hP1 hS1 hL
          · cases h2
        · cases h2
      · cases h
    · cases h
  | getstatic ix =>
    have hdg := eDec1 hdg hlen
    have h : (match eLook rs ix with
      | some (7, id, _, _) => k (pc + 3) L (.ref id :: st) w
      | _ => none) = some x := h
    split at h
    · rename_i hq
      obtain ⟨kk, q, q1, q2, q4, q3⟩ := hlk _ _ hq
      intro H locs ls hP hS hL
      have hZ := (hstat kk q q2).1.resolve_left q4
      refine va_gets hx hb hZ hS hown (hts _ q3) (fun _ z => z) hdg ?_
      rw [← q1]
      exact hk _ _ _ _ h H locs ls hP hS hL
    · cases h
  | arraylength =>
    have hdg := eDec1 hdg hlen
    match st, h with
    | .ref o :: st, h =>
      simp only [eStep] at h
      split at h
      · rename_i kd n hsh
        intro H locs ls hP hS hL
        have he := eWs_at (ad := ad) (cA := cA) (w := w) hsh
        match kd, he with
        | 0, he => exact va_alen hx hb hK hP o 0 he rfl rfl hdg (hk _ _ _ _ h H locs ls hP hS hL)
        | 1, he => exact va_alen hx hb hK hP o 1 he rfl rfl hdg (hk _ _ _ _ h H locs ls hP hS hL)
        | 2, he => exact va_alen hx hb hK hP o 2 he rfl rfl hdg (hk _ _ _ _ h H locs ls hP hS hL)
        | _ + 3, he => exact va_alen hx hb hK hP o 3 he rfl rfl hdg (hk _ _ _ _ h H locs ls hP hS hL)
      · cases h
      · rename_i hsh
        split at h
        · rename_i q hq
          have ho : SH.length + (o - SH.length) = o := by
            have := List.getElem?_eq_none_iff.mp hsh
            omega
          have hT := (hstat _ q hq).2
          rw [ho] at hT
          exact fun H locs ls hP hS hL => va_tlen hx hb hT hS rfl hdg (hk _ _ _ _ h H locs ls hP hS hL)
        · cases h
  | iaload =>
    have hdg := eDec1 hdg hlen
    match st, h with
    | .int j :: .ref o :: st, h =>
      simp only [eStep] at h
      split at h
      · rename_i n hsh
        obtain ⟨hin, h⟩ := eChk_go h
        exact fun H locs ls hP hS hL => va_iald hx hb hK hP o 0 (eWs_at hsh) rfl hin hdg (hk _ _ _ _ h H locs ls hP hS hL)
      · cases h
      · rename_i hsh
        split at h
        · rename_i q hq
          have ho : SH.length + (o - SH.length) = o := by
            have := List.getElem?_eq_none_iff.mp hsh
            omega
          have hT := (hstat _ q hq).2
          rw [ho] at hT
          obtain ⟨hin, h⟩ := eChk_go h
          exact fun H locs ls hP hS hL => va_ti hx hb hT hS hin rfl hdg (hk _ _ _ _ h H locs ls hP hS hL)
        · cases h
  | laload =>
    have hdg := eDec1 hdg hlen
    match st, h with
    | .int j :: .ref o :: st, h =>
      simp only [eStep] at h
      split at h
      · rename_i n hsh
        obtain ⟨hin, h⟩ := eChk_go h
        exact fun H locs ls hP hS hL => va_lald hx hb hK hP o 1 (eWs_at hsh) rfl hin hdg (hk _ _ _ _ h H locs ls hP hS hL)
      · cases h
  | baload =>
    have hdg := eDec1 hdg hlen
    match st, h with
    | .int j :: .ref o :: st, h =>
      simp only [eStep] at h
      split at h
      · rename_i n hsh
        obtain ⟨hin, h⟩ := eChk_go h
        exact fun H locs ls hP hS hL => va_bald hx hb hK hP o 2 (eWs_at hsh) rfl hin hdg (hk _ _ _ _ h H locs ls hP hS hL)
      · rename_i n hsh
        obtain ⟨hin, h⟩ := eChk_go h
        exact fun H locs ls hP hS hL => va_zald hx hb hK hP o 3 (eWs_at hsh) rfl hin hdg (hk _ _ _ _ h H locs ls hP hS hL)
      · cases h
  | iastore =>
    have hdg := eDec1 hdg hlen
    match st, h with
    | .int v :: .int j :: .ref o :: st, h =>
      simp only [eStep] at h
      split at h
      · rename_i n hsh
        obtain ⟨hin, h⟩ := eChk_go h
        intro H locs ls hP hS hL
        refine va_iast hx hb hK hP (eWs_D hinj) hS o 0 (eWs_at hsh) rfl hin hdg (fun H1 locs1 hP1 _ hS1 => ?_)
        have e1 := eWs_set (ad := ad) (cA := cA) (w := w) (w' := eU1 w o j.toNatClampNeg v) hsh eU1_ne
        simp only [eCell, e_upd] at e1
        rw [e1] at hP1
        exact hk _ _ _ _ h H1 locs1 ls hP1 hS1 hL
      · cases h
  | lastore =>
    have hdg := eDec1 hdg hlen
    match st, h with
    | .long v :: .int j :: .ref o :: st, h =>
      simp only [eStep] at h
      split at h
      · rename_i n hsh
        obtain ⟨hin, h⟩ := eChk_go h
        intro H locs ls hP hS hL
        refine va_last hx hb hK hP (eWs_D hinj) hS o 1 (eWs_at hsh) rfl hin hdg (fun H1 locs1 hP1 _ hS1 => ?_)
        have e1 := eWs_set (ad := ad) (cA := cA) (w := w) (w' := eU2 w o j.toNatClampNeg v) hsh eU2_ne
        simp only [eCell, e_updL] at e1
        rw [e1] at hP1
        exact hk _ _ _ _ h H1 locs1 ls hP1 hS1 hL
      · cases h
  | bastore =>
    have hdg := eDec1 hdg hlen
    match st, h with
    | .int v :: .int j :: .ref o :: st, h =>
      simp only [eStep] at h
      split at h
      · rename_i n hsh
        obtain ⟨hin, h⟩ := eChk_go h
        intro H locs ls hP hS hL
        refine va_bast hx hb hK hP (eWs_D hinj) hS o 2 (eWs_at hsh) rfl hin hdg (fun H1 locs1 hP1 _ hS1 => ?_)
        have e1 := eWs_set (ad := ad) (cA := cA) (w := w) (w' := eU1 w o j.toNatClampNeg (vp_nar .byte v)) hsh eU1_ne
        simp only [eCell, e_upd] at e1
        rw [e1] at hP1
        exact hk _ _ _ _ h H1 locs1 ls hP1 hS1 hL
      · rename_i n hsh
        obtain ⟨hin, h⟩ := eChk_go h
        intro H locs ls hP hS hL
        refine va_zast hx hb hK hP (eWs_D hinj) hS o 3 (eWs_at hsh) rfl hin hdg (fun H1 locs1 hP1 _ hS1 => ?_)
        have e1 := eWs_set (ad := ad) (cA := cA) (w := w) (w' := eU1 w o j.toNatClampNeg (vp_nar .boolean v)) hsh eU1_ne
        simp only [eCell, e_upd] at e1
        rw [e1] at hP1
        exact hk _ _ _ _ h H1 locs1 ls hP1 hS1 hL
      · cases h
  | ireturn =>
    have hdg := eDec1 hdg hlen
    match st, h with
    | [.int v], h =>
      have h : rt (some (.int v)) w = some x := h
      exact fun H locs ls hP hS hL => hret _ _ .ireturn _ H locs ls h trivial hdg hP hS
  | lreturn =>
    have hdg := eDec1 hdg hlen
    match st, h with
    | [.long v], h =>
      have h : rt (some (.long v)) w = some x := h
      exact fun H locs ls hP hS hL => hret _ _ .lreturn _ H locs ls h trivial hdg hP hS
  | dreturn =>
    have hdg := eDec1 hdg hlen
    match st, h with
    | [.double v], h =>
      have h : rt (some (.double v)) w = some x := h
      exact fun H locs ls hP hS hL => hret _ _ .dreturn _ H locs ls h trivial hdg hP hS
  | freturn =>
    have hdg := eDec1 hdg hlen
    match st, h with
    | [.float v], h =>
      have h : rt (some (.float v)) w = some x := h
      exact fun H locs ls hP hS hL => hret _ _ .freturn _ H locs ls h trivial hdg hP hS
  | areturn =>
    have hdg := eDec1 hdg hlen
    match st, h with
    | [.ref v], h =>
      have h : rt (some (.ref v)) w = some x := h
      exact fun H locs ls hP hS hL => hret _ _ .areturn _ H locs ls h trivial hdg hP hS
  | return_ =>
    have hdg := eDec1 hdg hlen
    match st, h with
    | [], h =>
      have h : rt none w = some x := h
      exact fun H locs ls hP hS hL => hret _ _ .return_ _ H locs ls h trivial hdg hP hS
  | invokestatic ix =>
    have hdg := eDec1 hdg hlen
    simp only [eStep] at h
    split at h
    · rename_i a n z hq
      split at h
      · rename_i as st2 hargs
        obtain ⟨hcat, h2⟩ := eBif h
        clear h
        obtain ⟨v, w', hkv, y, bytes, maxL, ret', ws, ws', rm, hM, hw, hc0, hs0, hR, hd, hG⟩ := hcal _ _ _ _ hq as w _ h2
        obtain ⟨b, hbl, hbe, hst⟩ := eArgs_spec n [] st as st2 hargs
        intro H locs ls hP hS hL
        refine eCall_W (va_runS (As := as.map (eC ad)) (rest := st2.map (eC ad)) ⟨hx, hb, hml, hown, hts⟩ hM (va_cwS n hts hG hw hc0 hs0 hd hR) ⟨eWorld.blind, eWorld.pre hK hinj hstat hP hS⟩ rfl (by simp [hbe, hbl]) hL.1 (by simp [hst, hbe]) (lv_room (by rw [eCat_map]; exact Nat.le_of_ble_eq_true hcat)) hdg hcs) hS (fun H1 locs1 hP1 hS1 => ?_)
        have := hk _ _ _ _ hkv H1 locs1 ls hP1 hS1 hL
        rw [eToList] at this
        exact this
      · cases h
    · rename_i a b z hq
      obtain ⟨hcat, h2⟩ := eBif h
      clear h
      have hcat := Nat.le_of_ble_eq_true hcat
      split at h2
      · rename_i v2 v1 st2
        obtain ⟨r1, r2, w1, w2, w3, w4⟩ := hlk _ _ hq
        simp only [eCat, Value.category] at hcat
        intro H locs ls hP hS hL
        exact va_mmax hx hb (hml.trans hL.1.symm) hown (hts _ w1) (hts _ w2) (hts _ w3) (hts _ w4) r1 (by rw [eCat_map]; omega) hcs.1 hcs.2 hdg (hk _ _ _ _ h2 H locs ls hP hS hL)
      · rename_i v2 v1 st2
        obtain ⟨r1, r2, w1, w2, w3, w4⟩ := hlk _ _ hq
        simp only [eCat, Value.category] at hcat
        intro H locs ls hP hS hL
        exact va_mmin hx hb (hml.trans hL.1.symm) hown (hts _ w1) (hts _ w2) (hts _ w3) (hts _ w4) r1 (by rw [eCat_map]; omega) hcs.1 hcs.2 hdg (hk _ _ _ _ h2 H locs ls hP hS hL)
      · rename_i v2 v1 st2
        obtain ⟨r1, r2, w1, w2, w3, w4⟩ := hlk _ _ hq
        simp only [eCat, Value.category] at hcat
        intro H locs ls hP hS hL
        exact va_mmax_long hx hb (hml.trans hL.1.symm) hown (hts _ w1) (hts _ w2) (hts _ w3) (hts _ w4) r1 (by rw [eCat_map]; omega) hcs.1 hcs.2 hdg (hk _ _ _ _ h2 H locs ls hP hS hL)
      · rename_i n dp d sp o st2 hz9
        obtain ⟨r1, r2, w1, w2, w3, w4⟩ := hlk _ _ hq
        have hnf : nativeFrameWords "java/lang/System" "arraycopy" 5 = 7 := by decide
        simp only [eCat, Value.category] at hcat
        split at h2
        · rename_i n0 n1 hs0 hs1
          split at h2
          · rename_i hc
            obtain ⟨c1, c2, c3, c4, c5⟩ := hc
            intro H locs ls hP hS hL
            refine va_copyi (ty := .int) hx hb (hml.trans hL.1.symm) hown (hts _ w1) (hts _ w2) (hts _ w3) (hts _ w4) hK hP (eWs_D hinj) hS o d 0 0 (eWs_at hs0) (eWs_at hs1) rfl rfl rfl c1 c2 c3 c4 c5 (fun _ _ => rfl) r1 (by rw [eCat_map, hnf]; omega) hdg (fun H1 locs1 hP1 _ hS1 => ?_)
            have e1 := eWs_set (ad := ad) (cA := cA) (w := w) (w' := eCp1 w d o sp.toNatClampNeg dp.toNatClampNeg n.toNatClampNeg) hs1 (fun k sh hne => eCell_congr (fun b => by simp [eCp1, hne]) (fun _ => rfl))
            have e2 : (eCp1 w d o sp.toNatClampNeg dp.toNatClampNeg n.toNatClampNeg).1 d = va_cpy (w.1 o) (w.1 d) sp.toNatClampNeg dp.toNatClampNeg n.toNatClampNeg := by
              funext b
              simp [eCp1]
            simp only [eCell, e2] at e1
            rw [e1] at hP1
            exact hk _ _ _ _ h2 H1 locs1 ls hP1 hS1 hL
          · cases h2
        · rename_i n0 n1 hs0 hs1
          split at h2
          · rename_i hc
            obtain ⟨c1, c2, c3, c4, c5⟩ := hc
            intro H locs ls hP hS hL
            refine va_copyl (ty := .long) hx hb (hml.trans hL.1.symm) hown (hts _ w1) (hts _ w2) (hts _ w3) (hts _ w4) hK hP (eWs_D hinj) hS o d 1 1 (eWs_at hs0) (eWs_at hs1) rfl rfl rfl c1 c2 c3 c4 c5 (fun _ _ => rfl) r1 (by rw [eCat_map, hnf]; omega) hdg (fun H1 locs1 hP1 _ hS1 => ?_)
            have e1 := eWs_set (ad := ad) (cA := cA) (w := w) (w' := eCp2 w d o sp.toNatClampNeg dp.toNatClampNeg n.toNatClampNeg) hs1 (fun k sh hne => eCell_congr (fun _ => rfl) (fun b => by simp [eCp2, hne]))
            have e2 : (eCp2 w d o sp.toNatClampNeg dp.toNatClampNeg n.toNatClampNeg).2 d = va_cpy (w.2 o) (w.2 d) sp.toNatClampNeg dp.toNatClampNeg n.toNatClampNeg := by
              funext b
              simp [eCp2]
            simp only [eCell, e2] at e1
            rw [e1] at hP1
            exact hk _ _ _ _ h2 H1 locs1 ls hP1 hS1 hL
          · cases h2
        · cases h2
      · cases h2
    · cases h
  | invokevirtual ix =>
    have hdg := eDec1 hdg hlen
    simp only [eStep] at h
    split at h
    · rename_i a n cj hq
      split at h
      · rename_i as o st2 hargs
        split at h
        · rename_i ci fs hsh
          obtain ⟨hcat, h2⟩ := eBif h
          clear h
          rw [Bool.and_eq_true] at hcat
          have hci := Nat.eq_of_beq_eq_true hcat.2
          subst hci
          obtain ⟨v, w', hkv, y, bytes, maxL, ret', ws, ws', rm, hM, hw, hc0, hs0, hR, hd, hG, T, N, hcl⟩ := hcal _ _ _ _ hq _ w _ h2
          obtain ⟨b, hbl, hbe, hst⟩ := eArgs_spec n [] st as _ hargs
          intro H locs ls hP hS hL
          refine eCall_W (va_runV (b := ad o) (As := as.map (eC ad)) (rest := st2.map (eC ad)) ⟨hx, hb, hml, hown, hts⟩ hM (cwV n hts hG hw hc0 hs0 ⟨rfl, hd⟩ hR) ⟨eWorld.blind, va_recv hK hP hcl (eWs_at hsh), eWorld.pre (as := .ref o :: as) hK hinj hstat hP hS⟩ rfl (by simp [hbe, hbl]) hL.1 (by simp [hst, hbe, eC]) (lv_room (by rw [eCat_map]; exact Nat.le_of_ble_eq_true hcat.1)) hdg hcs) hS (fun H1 locs1 hP1 hS1 => ?_)
          have := hk _ _ _ _ hkv H1 locs1 ls hP1 hS1 hL
          rw [eToList] at this
          exact this
        · cases h
      · cases h
    · cases h
  | _ =>
    simp only [eStep] at h
    exact eAlu_go hx hb _ pc L st w _ h (eDec1 hdg hlen) (fun st' h' => hk _ _ _ _ h')
/-- the rows of a method's code are what its bytes say -/
def eDec (cc : ByteArray) (C : eCo) : Prop := ∀ (pc : Nat) (i : Instr), eAt C pc = some i → ∃ len, decode cc pc = .ok (i, len) ∧ eLenOK i len
theorem eRun_goG (hcx : eCx p R s m args meth c cc own nL ad D cA cl SH SS Ts ret) (hlk : ∀ ix r, eLook rs ix = some r → eLnk R cl Ts SS SH.length own ix r)
    (hcal : ∀ (ix a n : Nat) (z : Int), eLook rs ix = some (1, a, n, z) → ∀ (as : List Value) (w : eW) (k : Option Value → eW → Option ρ), calls a as w k = some x → ∃ (v : Option Value) (w' : eW), k v w' = some x ∧ eCal l R ad D cA cl SH SS Ts own ix n z as w v w')
    (hcs : cells ≤ R.cells ∧ slots ≤ R.slots) (hret : ∀ (v : Option Value) (w : eW) (i : Instr) (pc : Nat) (H : Heap) (locs : List Loc) (ls : Array Slot), rt v w = some x → eIsRet i v → decode cc pc = .ok (i, 1) → va_P D cl (eWs ad cA w 0 SH) H → va_S (eA ad SH.length) s.heap H locs → W p l e R s m args below meth c H locs cells slots Q (F0 m pc ls (v.toList.map (eC ad)))) {C : eCo} (hdec : eDec cc C) (cuts : List Nat) (K : eK ρ) (hK : ∀ pc L st w, K pc L st w = some x → eGo p l e R s m args below meth c nL ad D cA cl SH cells slots Q pc L st w) :
    ∀ (n : Nat) (first : Bool) (pc : Nat) (L : eL) (st : List Value) (w : eW), eRun SH SS nL rs calls rt C cuts K n first pc L st w = some x → eGo p l e R s m args below meth c nL ad D cA cl SH cells slots Q pc L st w := by
  intro n
  induction n with
  | zero => intro first pc L st w h; cases h
  | succ n ih =>
    intro first pc L st w h
    have h : (bif (eMem pc cuts && !first) then K pc L st w else (match eAt C pc with
      | some i => eStep SH SS nL rs calls rt (eRun SH SS nL rs calls rt C cuts K n false) i pc L st w
      | none => none)) = some x := h
    cases hb : (eMem pc cuts && !first) with
    | true =>
      rw [hb] at h
      exact hK pc L st w h
    | false =>
      rw [hb] at h
      have h : (match eAt C pc with
        | some i => eStep SH SS nL rs calls rt (eRun SH SS nL rs calls rt C cuts K n false) i pc L st w
        | none => none) = some x := h
      split at h
      · rename_i i hi
        obtain ⟨len, h1, h2⟩ := hdec pc i hi
        exact eStep_go hcx hlk hcal hcs hret _ (fun pc L st w h => ih false pc L st w h) i pc len L st w h h1 h2
      · cases h
theorem eRun_go (hcx : eCx p R s m args meth c cc own nL ad D cA cl SH SS Ts ret) (hlk : ∀ ix r, eLook rs ix = some r → eLnk R cl Ts SS SH.length own ix r)
    (hcal : ∀ (ix a n : Nat) (z : Int), eLook rs ix = some (1, a, n, z) → ∀ (as : List Value) (w : eW) (k : Option Value → eW → Option ρ), calls a as w k = some x → ∃ (v : Option Value) (w' : eW), k v w' = some x ∧ eCal l R ad D cA cl SH SS Ts own ix n z as w v w')
    (hrt : ∀ v w, rt v w = some x → eRet ret v) {C : eCo} (hdec : eDec cc C) (cuts : List Nat) (K : eK ρ) (hK : ∀ pc L st w, K pc L st w = some x → eGq p l e R s m args below meth c nL ad D cA cl SH rt x pc L st w) :
    ∀ (n : Nat) (first : Bool) (pc : Nat) (L : eL) (st : List Value) (w : eW), eRun SH SS nL rs calls rt C cuts K n first pc L st w = some x → eGq p l e R s m args below meth c nL ad D cA cl SH rt x pc L st w := eRun_goG hcx hlk hcal ⟨Nat.zero_le _, Nat.zero_le _⟩ (eRet_W hcx hrt) hdec cuts K hK
end EWK
