/-! ===== the abstract machine is sound over the machine ===== -/
def eTys (cA : Nat → ClassId) : List (ClassId × FieldType) := [(cA 0, .int), (cA 1, .long), (cA 2, .byte), (cA 3, .boolean)]
def eA (ad : Nat → Nat) (n : Nat) : Nat → Prop := fun q => ∃ i, i < n ∧ q = ad i
def eInj (ad : Nat → Nat) (n : Nat) : Prop := ∀ i j, i < n → j < n → ad i = ad j → i = j
def eStat (ad : Nat → Nat) (n : Nat) (SS : List eS) (U : State) : Prop := ∀ (k : Nat) (q : eS), SS[k]? = some q → (q.1 = "" ∨ va_Z q.1 q.2.1 q.2.2.1 (.ref (ad (n + k))) (eA ad n) U U.heap) ∧ va_T .int (ad (n + k)) q.2.2.2.length (fun j => .int (q.2.2.2.getD j 0)) (eA ad n) U U.heap
def eAL (ad : Nat → Nat) (ls : Array Slot) (nL : Nat) (L : eL) : Prop := ls.size = nL ∧ lv_wf ls ∧ ∀ (i : Nat) (v : Value), L[i]? = some (some v) → ls[i]? = some (.val (eC ad v))
theorem eWs_get (ad : Nat → Nat) (cA : Nat → ClassId) (w : eW) : ∀ (SH : List eSh) (i k : Nat), (eWs ad cA w i SH)[k]? = (SH[k]?).map (fun sh => (ad (i + k), eCell ad cA w (i + k) sh))
  | [], _, _ => by simp [eWs]
  | sh :: r, i, 0 => by simp [eWs]
  | sh :: r, i, k + 1 => by
    simp only [eWs, List.getElem?_cons_succ]
    rw [eWs_get ad cA w r (i + 1) k, show i + 1 + k = i + (k + 1) by omega]
theorem eWs_at {ad : Nat → Nat} {cA : Nat → ClassId} {w : eW} {SH : List eSh} {k : Nat} {sh : eSh} (h : SH[k]? = some sh) : (eWs ad cA w 0 SH)[k]? = some (ad k, eCell ad cA w k sh) := by
  rw [eWs_get, h]
  simp
theorem eFs_get (ad : Nat → Nat) (w : eW) (id : Nat) : ∀ (fs : List (Nat × Nat)) (i k : Nat), (eFs ad w id i fs)[k]? = (fs[k]?).map (fun f => eFv ad w id (i + k) f)
  | [], _, _ => by simp [eFs]
  | f :: r, i, 0 => by simp [eFs]
  | f :: r, i, k + 1 => by
    simp only [eFs, List.getElem?_cons_succ]
    rw [eFs_get ad w id r (i + 1) k, show i + 1 + k = i + (k + 1) by omega]
theorem eWs_D {ad : Nat → Nat} {cA : Nat → ClassId} {w : eW} {SH : List eSh} (hi : eInj ad SH.length) : va_D (eA ad SH.length) (eWs ad cA w 0 SH) := by
  have key : ∀ (k : Nat) (q : Nat × va_E), (eWs ad cA w 0 SH)[k]? = some q → k < SH.length ∧ q.1 = ad k := by
    intro k q h
    rw [eWs_get] at h
    cases hs : SH[k]? with
    | none => rw [hs] at h; cases h
    | some sh =>
      rw [hs] at h
      cases h
      exact ⟨(List.getElem?_eq_some_iff.mp hs).1, by simp⟩
  refine ⟨fun i j x y h1 h2 hxy => ?_, fun k q h => ?_⟩
  · obtain ⟨a1, b1⟩ := key i x h1
    obtain ⟨a2, b2⟩ := key j y h2
    exact hi i j a1 a2 (by rw [← b1, ← b2, hxy])
  · obtain ⟨a1, b1⟩ := key k q h
    exact ⟨k, a1, b1⟩
/-- a world that differs from another one at one cell alone -/
theorem eWs_set {ad : Nat → Nat} {cA : Nat → ClassId} {w w' : eW} {SH : List eSh} {o : Nat} {sh : eSh} (h : SH[o]? = some sh) (he : ∀ (k : Nat) (sh : eSh), k ≠ o → eCell ad cA w' k sh = eCell ad cA w k sh) : (eWs ad cA w 0 SH).set o (ad o, eCell ad cA w' o sh) = eWs ad cA w' 0 SH := by
  apply List.ext_getElem?
  intro k
  have hl : o < SH.length := (List.getElem?_eq_some_iff.mp h).1
  have hlen : ∀ (r : List eSh) (i : Nat), (eWs ad cA w i r).length = r.length := by
    intro r
    induction r with
    | nil => intro i; rfl
    | cons a r ih => intro i; simp [eWs, ih]
  by_cases hk : k = o
  · subst hk
    rw [List.getElem?_set_self (by rw [hlen]; exact hl), eWs_at h]
  · rw [List.getElem?_set_ne (Ne.symm hk), eWs_get, eWs_get]
    cases hs : SH[k]? with
    | none => rfl
    | some sh2 =>
      simp only [Option.map_some, Nat.zero_add]
      rw [he k sh2 hk]
theorem eFs_congr {ad : Nat → Nat} {w w' : eW} {id : Nat} (h1 : ∀ b, w'.1 id b = w.1 id b) (h2 : ∀ b, w'.2 id b = w.2 id b) : ∀ (fs : List (Nat × Nat)) (i : Nat), eFs ad w' id i fs = eFs ad w id i fs
  | [], _ => rfl
  | f :: r, i => by
    simp only [eFs]
    rw [eFs_congr h1 h2 r (i + 1)]
    simp only [eFv, h1, h2]
theorem eCell_congr {ad : Nat → Nat} {cA : Nat → ClassId} {w w' : eW} {id : Nat} {sh : eSh} (h1 : ∀ b, w'.1 id b = w.1 id b) (h2 : ∀ b, w'.2 id b = w.2 id b) : eCell ad cA w' id sh = eCell ad cA w id sh := by
  have e1 : w'.1 id = w.1 id := funext h1
  have e2 : w'.2 id = w.2 id := funext h2
  unfold eCell
  split <;> simp only [e1, e2, eFs_congr h1 h2]
theorem eU1_at (w : eW) (id k : Nat) (x : Int32) (a b : Nat) : (eU1 w id k x).1 a b = if a = id then (if b = k then x else w.1 a b) else w.1 a b := rfl
theorem eU2_at (w : eW) (id k : Nat) (x : Int64) (a b : Nat) : (eU2 w id k x).2 a b = if a = id then (if b = k then x else w.2 a b) else w.2 a b := rfl
theorem eU1_ne {ad : Nat → Nat} {cA : Nat → ClassId} {w : eW} {o k : Nat} {x : Int32} : ∀ (i : Nat) (sh : eSh), i ≠ o → eCell ad cA (eU1 w o k x) i sh = eCell ad cA w i sh := fun i _ h => eCell_congr (fun b => by rw [eU1_at, if_neg h]) (fun _ => rfl)
theorem eU2_ne {ad : Nat → Nat} {cA : Nat → ClassId} {w : eW} {o k : Nat} {x : Int64} : ∀ (i : Nat) (sh : eSh), i ≠ o → eCell ad cA (eU2 w o k x) i sh = eCell ad cA w i sh := fun i _ h => eCell_congr (fun _ => rfl) (fun b => by rw [eU2_at, if_neg h])
theorem eFs_set1 {ad : Nat → Nat} {w : eW} {id : Nat} {x : Int32} {k : Nat} {fs : List (Nat × Nat)} {f : Nat × Nat} (hf : fs[k]? = some f) (hx : eFv ad (eU1 w id k x) id k f = .int x) : (eFs ad w id 0 fs).set k (.int x) = eFs ad (eU1 w id k x) id 0 fs := by
  apply List.ext_getElem?
  intro j
  have hl : k < fs.length := (List.getElem?_eq_some_iff.mp hf).1
  have hlen : ∀ (r : List (Nat × Nat)) (i : Nat), (eFs ad w id i r).length = r.length := by
    intro r
    induction r with
    | nil => intro i; rfl
    | cons a r ih => intro i; simp [eFs, ih]
  by_cases hj : j = k
  · subst hj
    rw [List.getElem?_set_self (by rw [hlen]; exact hl), eFs_get, hf]
    simp only [Option.map_some, Nat.zero_add, hx]
  · rw [List.getElem?_set_ne (Ne.symm hj), eFs_get, eFs_get]
    cases hs : fs[j]? with
    | none => rfl
    | some g =>
      simp only [Option.map_some, Nat.zero_add]
      unfold eFv
      rw [eU1_at, if_pos rfl, if_neg hj]
      rfl
theorem eFs_set2 {ad : Nat → Nat} {w : eW} {id : Nat} {x : Int64} {k : Nat} {fs : List (Nat × Nat)} {f : Nat × Nat} (hf : fs[k]? = some f) (hx : eFv ad (eU2 w id k x) id k f = .long x) : (eFs ad w id 0 fs).set k (.long x) = eFs ad (eU2 w id k x) id 0 fs := by
  apply List.ext_getElem?
  intro j
  have hl : k < fs.length := (List.getElem?_eq_some_iff.mp hf).1
  have hlen : ∀ (r : List (Nat × Nat)) (i : Nat), (eFs ad w id i r).length = r.length := by
    intro r
    induction r with
    | nil => intro i; rfl
    | cons a r ih => intro i; simp [eFs, ih]
  by_cases hj : j = k
  · subst hj
    rw [List.getElem?_set_self (by rw [hlen]; exact hl), eFs_get, hf]
    simp only [Option.map_some, Nat.zero_add, hx]
  · rw [List.getElem?_set_ne (Ne.symm hj), eFs_get, eFs_get]
    cases hs : fs[j]? with
    | none => rfl
    | some g =>
      simp only [Option.map_some, Nat.zero_add]
      unfold eFv
      rw [eU2_at, if_pos rfl, if_neg hj]
      rfl
theorem eC_cat (ad : Nat → Nat) (v : Value) : (eC ad v).category = v.category := by cases v <;> rfl
theorem eCat_map (ad : Nat → Nat) : ∀ st : List Value, ((st.map (eC ad)).map fun v => v.category).sum = eCat st
  | [] => rfl
  | v :: r => by simp only [List.map_cons, List.sum_cons, eCat, eC_cat, eCat_map ad r]
/-- the locals as pairs -/
def eLv (ad : Nat → Nat) (L : eL) : List (Nat × Value) := (List.range L.length).filterMap (fun i => match L[i]? with
  | some (some v) => some (i, eC ad v)
  | _ => none)
theorem eLv_mem {ad : Nat → Nat} {L : eL} {q : Nat × Value} : q ∈ eLv ad L ↔ ∃ v, L[q.1]? = some (some v) ∧ q.2 = eC ad v := by
  unfold eLv
  rw [List.mem_filterMap]
  constructor
  · rintro ⟨i, -, h⟩
    split at h
    · rename_i v hv
      cases h
      exact ⟨v, hv, rfl⟩
    · cases h
  · rintro ⟨v, hv, h2⟩
    refine ⟨q.1, List.mem_range.mpr (List.getElem?_eq_some_iff.mp hv).1, ?_⟩
    rw [hv]
    simp only [← h2]
theorem eAL.has {ad : Nat → Nat} {ls : Array Slot} {nL : Nat} {L : eL} (h : eAL ad ls nL L) : lv_has ls nL (eLv ad L) := ⟨h.1, h.2.1, fun q hq => by
  obtain ⟨v, h1, h2⟩ := eLv_mem.mp hq
  rw [h2]
  exact h.2.2 _ _ h1⟩
theorem eLd_some {L : eL} {i : Nat} {v : Value} : eLd L i = some v ↔ L[i]? = some (some v) := by
  unfold eLd
  split
  · rename_i u hu
    rw [hu]
    simp
  · rename_i hn
    constructor
    · intro h; cases h
    · intro h; exact absurd h (hn v)
theorem eSt1_get {L : eL} {i : Nat} {v : Value} {j : Nat} {u : Value} (h : (eSt1 L i v)[j]? = some (some u)) : (j = i ∧ u = v) ∨ (j ≠ i ∧ L[j]? = some (some u) ∧ ¬ (j + 1 = i ∧ u.category = 2)) := by
  have hset : ∀ {L : eL} {i : Nat} {j : Nat} {a : Option Value} {u : Value}, (L.set i a)[j]? = some (some u) → (j = i ∧ a = some u) ∨ (j ≠ i ∧ L[j]? = some (some u)) := by
    intro L i j a u h
    by_cases hj : j = i
    · subst hj
      rw [List.getElem?_set] at h
      simp only [if_true] at h
      split at h
      · exact Or.inl ⟨rfl, Option.some.inj h⟩
      · cases h
    · rw [List.getElem?_set_ne (Ne.symm hj)] at h
      exact Or.inr ⟨hj, h⟩
  cases i with
  | zero =>
    simp only [eSt1] at h
    rcases hset h with ⟨h1, h2⟩ | ⟨h1, h2⟩
    · exact Or.inl ⟨h1, (Option.some.inj h2).symm⟩
    · exact Or.inr ⟨h1, h2, fun z => by omega⟩
  | succ i =>
    simp only [eSt1] at h
    split at h
    · rcases hset h with ⟨h1, h2⟩ | ⟨h1, h2⟩
      · cases h2
      · rcases hset h2 with ⟨h3, h4⟩ | ⟨h3, h4⟩
        · exact Or.inl ⟨h3, (Option.some.inj h4).symm⟩
        · exact Or.inr ⟨h3, h4, fun z => h1 (by omega)⟩
    · rcases hset h with ⟨h1, h2⟩ | ⟨h1, h2⟩
      · cases h2
      · rcases hset h2 with ⟨h3, h4⟩ | ⟨h3, h4⟩
        · exact Or.inl ⟨h3, (Option.some.inj h4).symm⟩
        · exact Or.inr ⟨h3, h4, fun z => h1 (by omega)⟩
    · rename_i hn1 hn2
      rcases hset h with ⟨h1, h2⟩ | ⟨h1, h2⟩
      · exact Or.inl ⟨h1, (Option.some.inj h2).symm⟩
      · refine Or.inr ⟨h1, h2, fun z => ?_⟩
        have hji : j = i := by omega
        subst hji
        have h5 := eLd_some.mpr h2
        cases u with
        | long x => exact hn1 x h5
        | double x => exact hn2 x h5
        | _ => exact absurd z.2 (by simp [Value.category])
theorem eAL.st1 {ad : Nat → Nat} {ls' : Array Slot} {nL : Nat} {L : eL} {i : Nat} {v : Value} (h : lv_has ls' nL ((i, eC ad v) :: (eLv ad L).filter (fun q => !(q.1 == i) && !(q.1 + 1 == i && q.2.category == 2)))) : eAL ad ls' nL (eSt1 L i v) := by
  refine ⟨h.1, h.2.1, fun j u hj => ?_⟩
  rcases eSt1_get hj with ⟨rfl, rfl⟩ | ⟨h1, h2, h3⟩
  · exact h.2.2 _ List.mem_cons_self
  · refine h.2.2 (j, eC ad u) (List.mem_cons_of_mem _ (List.mem_filter.mpr ⟨eLv_mem.mpr ⟨u, h2, rfl⟩, ?_⟩))
    have hc := eC_cat ad u
    by_cases hz : j + 1 = i
    · have h4 : ¬ u.category = 2 := fun z => h3 ⟨hz, z⟩
      simp [h1, hc, h4]
    · simp [h1, hz]
theorem eAL.st2 {ad : Nat → Nat} {ls' : Array Slot} {nL : Nat} {L : eL} {i : Nat} {v : Value} (h : lv_has ls' nL ((i, eC ad v) :: (eLv ad L).filter (fun q => !(q.1 == i) && (!(q.1 == i + 1) && !(q.1 + 1 == i && q.2.category == 2))))) : eAL ad ls' nL (eSt2 L i v) := by
  refine ⟨h.1, h.2.1, fun j u hj => ?_⟩
  unfold eSt2 at hj
  have hj2 : j ≠ i + 1 ∧ (eSt1 L i v)[j]? = some (some u) := by
    by_cases hz : j = i + 1
    · subst hz
      rw [List.getElem?_set] at hj
      simp only [if_true] at hj
      split at hj <;> cases hj
    · rw [List.getElem?_set_ne (Ne.symm hz)] at hj
      exact ⟨hz, hj⟩
  obtain ⟨hne, hj⟩ := hj2
  rcases eSt1_get hj with ⟨rfl, rfl⟩ | ⟨h1, h2, h3⟩
  · exact h.2.2 _ List.mem_cons_self
  · refine h.2.2 (j, eC ad u) (List.mem_cons_of_mem _ (List.mem_filter.mpr ⟨eLv_mem.mpr ⟨u, h2, rfl⟩, ?_⟩))
    have hc := eC_cat ad u
    by_cases hz : j + 1 = i
    · have h4 : ¬ u.category = 2 := fun z => h3 ⟨hz, z⟩
      simp [h1, hne, hc, h4]
    · simp [h1, hne, hz]
theorem eTo_some {pc : Nat} {off : Int} {t : Nat} (h : eTo pc off = some t) : (pc : Int) + off = (t : Int) := by
  unfold eTo at h
  split at h
  · cases h
    simp
  · cases hb : Nat.ble (_ + 1) pc with
    | false => rw [hb] at h; cases h
    | true =>
      rw [hb] at h
      have := Nat.le_of_ble_eq_true hb
      cases h
      omega
theorem eArgs_spec : ∀ (n : Nat) (acc st as rest : List Value), eArgs n acc st = some (as, rest) → ∃ b : List Value, b.length = n ∧ as = b ++ acc ∧ st = b.reverse ++ rest
  | 0, acc, st, as, rest, h => by
    cases h
    exact ⟨[], rfl, rfl, rfl⟩
  | n + 1, acc, [], as, rest, h => by cases h
  | n + 1, acc, v :: st, as, rest, h => by
    obtain ⟨b, h1, h2, h3⟩ := eArgs_spec n (v :: acc) st as rest h
    exact ⟨b ++ [v], by simp [h1], by simp [h2], by simp [h3]⟩
def eKT (z : Int) : FieldType := match z with
  | .ofNat 0 => .int
  | .ofNat 1 => .long
  | _ => .boolean
/-- of a table of links: what each entry says -/
def eLnk (R : Room) (cl : List vw_C) (Ts : List Cond) (SS : List eS) (n : Nat) (own : String) (ix : Nat) (r : eR) : Prop := match r with
  | (0, ci, k, z) => ∃ (C : String) (T : u_T) (N : Nat) (ty0 : Nat → FieldType), cl[ci]? = some (C, T, N) ∧ k < N ∧ (z = 2 ∨ ((T k).2.2.2 = false ∧ parseFieldDescriptor (T k).2.2.1 = some (eKT z))) ∧ (∀ w ∈ u_ws C T N, w ∈ Ts) ∧ (∀ k, k < N → parseFieldDescriptor (T k).2.2.1 = some (ty0 k)) ∧ (∀ a, a < N → ∀ b, b < N → a ≠ b → (T a).2.1 ≠ (T b).2.1) ∧ Cond.fieldLink own ix (T k).1 (T k).2.1 (T k).2.2.1 ∈ Ts
  | (2, _, _, z) => Cond.constant own ix (Int32.ofInt z) ∈ Ts
  | (3, _, _, z) => Cond.constantLong own ix (Int64.ofInt z) ∈ Ts
  | (4, z, _, _) => Cond.constantDouble own ix (UInt64.ofNat z) ∈ Ts
  | (5, z, _, _) => Cond.constantFloat own ix (UInt32.ofNat z) ∈ Ts
  | (7, id, _, _) => ∃ (k : Nat) (q : eS), id = n + k ∧ SS[k]? = some q ∧ q.1 ≠ "" ∧ Cond.fieldLink own ix q.1 q.2.1 q.2.2.1 ∈ Ts
  | (6, 0, _, _) => 1 ≤ R.frames ∧ 60 ≤ R.locals ∧ Cond.methodLink own ix Lib.Math.max.name ∈ Ts ∧ Cond.static Lib.Math.max.name ∈ Ts ∧ Cond.initialized "java/lang/Math" ∈ Ts ∧ Cond.code Lib.Math.max.name Lib.Math.max.code 2 (some .int) ∈ Ts
  | (6, 1, _, _) => 1 ≤ R.frames ∧ 60 ≤ R.locals ∧ Cond.methodLink own ix Lib.Math.min.name ∈ Ts ∧ Cond.static Lib.Math.min.name ∈ Ts ∧ Cond.initialized "java/lang/Math" ∈ Ts ∧ Cond.code Lib.Math.min.name Lib.Math.min.code 2 (some .int) ∈ Ts
  | (6, 2, _, _) => 1 ≤ R.frames ∧ 60 ≤ R.locals ∧ Cond.methodLink own ix Lib.MathLoose.max_long.x ∈ Ts ∧ Cond.static Lib.MathLoose.max_long.x ∈ Ts ∧ Cond.initialized "java/lang/Math" ∈ Ts ∧ Cond.code Lib.MathLoose.max_long.x Lib.MathLoose.max_long.code 4 (some .long) ∈ Ts
  | (6, 3, _, _) => 1 ≤ R.frames ∧ 60 ≤ R.locals ∧ Cond.methodLink own ix arraycopyName ∈ Ts ∧ Cond.native arraycopyName ∈ Ts ∧ Cond.static arraycopyName ∈ Ts ∧ Cond.initialized "java/lang/System" ∈ Ts
  | _ => True
