/-- the tables' words that a callee may ask for -/
def eTb : List Cond := lw_tbl.filter goodWord
theorem tb {w : Cond} (i : Nat) (h : lw_tbl[i]? = some w) (hg : goodWord w = true) : w ∈ eTb := List.mem_filter.mpr ⟨List.mem_of_getElem? h, hg⟩
theorem eTb_in {w : Cond} (h : w ∈ eTb) : w ∈ lw_tbl := (List.mem_filter.mp h).1
theorem eTb_all {ws : List Cond} (h : ws.all (fun w => decide (w ∈ lw_tbl) && goodWord w) = true) : ∀ w ∈ ws, w ∈ eTb := fun w hw => by
  have h1 := List.all_eq_true.mp h w hw
  simp only [Bool.and_eq_true, decide_eq_true_eq] at h1
  exact List.mem_filter.mpr ⟨h1.1, h1.2⟩
abbrev eWd (y : MethodName) (cc : ByteArray) (n : Nat) (r : Option FieldType) : List Cond := Cond.code y cc n r :: eTb
theorem eTb_wd {y : MethodName} {cc : ByteArray} {n : Nat} {r : Option FieldType} : ∀ w ∈ eTb, w ∈ eWd y cc n r := fun _ h => List.mem_cons_of_mem _ h
theorem eTb_good {w : Cond} (h : w ∈ eTb) : (w.onTables && w.keeps) = true ∨ ∃ ty, w = .arrayClass ty := good_of_word (List.mem_filter.mp h).2
theorem eGoodS {Ts : List Cond} (hT : ∀ w ∈ eTb, w ∈ Ts) {own : String} {ix : Nat} {y : MethodName} {b : ByteArray} {n : Nat} {r : Option FieldType} (h1 : Cond.methodLink own ix y ∈ eTb) (h2 : Cond.static y ∈ eTb) (h3 : Cond.initialized y.cls ∈ eTb) (h4 : Cond.code y b n r ∈ eTb) : GoodIn Ts (va_wsS own ix y (eWd y b n r)) := by
  intro w hw
  have : w ∈ eTb := by
    simp only [va_wsS, List.cons_append, List.nil_append, List.mem_cons] at hw
    rcases hw with rfl | rfl | rfl | rfl | h
    · exact h1
    · exact h2
    · exact h3
    · exact h4
    · exact h
  exact ⟨hT w this, eTb_good this⟩
theorem eGoodV {Ts : List Cond} (hT : ∀ w ∈ eTb, w ∈ Ts) {own : String} {ix : Nat} {y : MethodName} {b : ByteArray} {n : Nat} {r : Option FieldType} (h1 : Cond.methodLink own ix y ∈ eTb) (h2 : Cond.instanceMethod y ∈ eTb) (h3 : Cond.selects y.cls y y ∈ eTb) (h5 : Cond.initialized y.cls ∈ eTb) (h4 : Cond.code y b n r ∈ eTb) : GoodIn Ts (wsV own ix y.cls y (eWd y b n r)) := by
  intro w hw
  have : w ∈ eTb := by
    simp only [wsV, List.cons_append, List.nil_append, List.mem_cons] at hw
    rcases hw with rfl | rfl | rfl | rfl | rfl | h
    · exact h1
    · exact h2
    · exact h3
    · exact h5
    · exact h4
    · exact h
  exact ⟨hT w this, eTb_good this⟩
def eLenB (i : Instr) (len : Nat) : Bool := match i with
  | .tableswitch _ lo hi offs => decide (-2147483648 ≤ lo ∧ hi = lo + (offs.size : Int) - 1 ∧ lo + (offs.size : Int) ≤ 2147483648)
  | i => Nat.beq len (eILen i)
def eDecB (cc : ByteArray) (C : eCo) : Bool := (List.range (16 * C.length)).all (fun pc => match eAt C pc with
  | none => true
  | some i => match decode cc pc with
    | .ok (j, len) => decide (j = i) && eLenB i len
    | _ => false)
theorem eLenB_ok {i : Instr} {len : Nat} (h : eLenB i len = true) : eLenOK i len := by
  cases i with
  | tableswitch d lo hi offs =>
    have h : decide (-2147483648 ≤ lo ∧ hi = lo + (offs.size : Int) - 1 ∧ lo + (offs.size : Int) ≤ 2147483648) = true := h
    have h2 := of_decide_eq_true h
    exact h2
  | _ => exact Nat.eq_of_beq_eq_true h
theorem eDec_of {cc : ByteArray} {C : eCo} (h : eDecB cc C = true) : eDec cc C := by
  intro pc i hi
  have hl : pc < 16 * C.length := by
    unfold eAt at hi
    split at hi
    · rename_i l hl
      have := (List.getElem?_eq_some_iff.mp hl).1
      omega
    · cases hi
  have h1 := List.all_eq_true.mp h pc (List.mem_range.mpr hl)
  rw [hi] at h1
  simp only at h1
  split at h1
  · rename_i j len hj
    simp only [Bool.and_eq_true, decide_eq_true_eq] at h1
    exact ⟨len, by rw [hj, h1.1], eLenB_ok h1.2⟩
  · cases h1
/-- a call's side, put together -/
theorem eCal_of {l : Launch} {R : Room} {ad : Nat → Nat} {D : va_G} {cA : Nat → ClassId} {cl : List vw_C} {SH : List eSh} {SS : List eS} {Ts : List Cond} {own : String} {ix n : Nat} {z : Int} {as : List Value} {w : eW} {v : Option Value} {w' : eW} {y : MethodName} {b : ByteArray} {maxL : Nat} {r : Option FieldType} {fr lo : Nat} (h : eMet l ad D cA cl SH SS y (eWd y b maxL r) { frames := fr, cells := 0, slots := 0, locals := lo } as w v w') (hR : Nat.ble (fr + 1) R.frames = true ∧ Nat.ble (8 + (maxL + 11) + lo) R.locals = true) (hd : y.cls ≠ "java/lang/invoke/MethodHandle" ∧ y.cls ≠ "java/lang/invoke/VarHandle" ∧ (parseMethodDescriptor y.desc).map (fun d => d.parameters.length) = some n)
    (hG : match z with
    | .negSucc _ => GoodIn Ts (va_wsS own ix y (eWd y b maxL r))
    | .ofNat ci => GoodIn Ts (wsV own ix y.cls y (eWd y b maxL r)) ∧ ∃ (T : u_T) (N : Nat), cl[ci]? = some (y.cls, T, N)) : eCal l R ad D cA cl SH SS Ts own ix n z as w v w' := ⟨y, b, maxL, r, _, eTb, _, h, rfl, rfl, rfl, ⟨Nat.le_of_ble_eq_true hR.1, Nat.le_of_ble_eq_true hR.2⟩, hd, hG⟩
theorem tb0 {w : Cond} (i : Nat) (h : (k2_sels lw_privs)[i]? = some w) (hg : goodWord w = true) : w ∈ eTb := List.mem_filter.mpr ⟨List.mem_append_left _ (List.mem_of_getElem? h), hg⟩
theorem tbx {w : Cond} (h : w ∈ tables_1) (hg : goodWord w = true) : w ∈ eTb := List.mem_filter.mpr ⟨List.mem_append_right _ h, hg⟩
theorem tb1 {w : Cond} (i : Nat) (h : tables_1_1[i]? = some w) (hg : goodWord w = true) : w ∈ eTb := tbx (List.mem_append_left _ (List.mem_of_getElem? h)) hg
theorem tb2 {w : Cond} (i : Nat) (h : tables_1_2[i]? = some w) (hg : goodWord w = true) : w ∈ eTb := tbx (List.mem_append_right _ (List.mem_append_left _ (List.mem_of_getElem? h))) hg
theorem tb3 {w : Cond} (i : Nat) (h : tables_1_3[i]? = some w) (hg : goodWord w = true) : w ∈ eTb := tbx (List.mem_append_right _ (List.mem_append_right _ (List.mem_append_left _ (List.mem_of_getElem? h)))) hg
theorem tb4 {w : Cond} (i : Nat) (h : tables_1_4[i]? = some w) (hg : goodWord w = true) : w ∈ eTb := tbx (List.mem_append_right _ (List.mem_append_right _ (List.mem_append_right _ (List.mem_append_left _ (List.mem_of_getElem? h))))) hg
theorem tb5 {w : Cond} (i : Nat) (h : tables_1_5[i]? = some w) (hg : goodWord w = true) : w ∈ eTb := tbx (List.mem_append_right _ (List.mem_append_right _ (List.mem_append_right _ (List.mem_append_right _ (List.mem_append_left _ (List.mem_of_getElem? h)))))) hg
theorem tb6 {w : Cond} (i : Nat) (h : tables_1_6[i]? = some w) (hg : goodWord w = true) : w ∈ eTb := tbx (List.mem_append_right _ (List.mem_append_right _ (List.mem_append_right _ (List.mem_append_right _ (List.mem_append_right _ (List.mem_append_left _ (List.mem_of_getElem? h))))))) hg
theorem tb7 {w : Cond} (i : Nat) (h : tables_1_7[i]? = some w) (hg : goodWord w = true) : w ∈ eTb := tbx (List.mem_append_right _ (List.mem_append_right _ (List.mem_append_right _ (List.mem_append_right _ (List.mem_append_right _ (List.mem_append_right _ (List.mem_of_getElem? h))))))) hg
