section EMT
variable {l : Launch} {ad : Nat → Nat} {D : va_G} {cA : Nat → ClassId} {cl : List vw_C} {SH : List eSh} {SS : List eS} {ρ : Type} {rt : Option Value → eW → Option ρ} {x : ρ}
def eEnt : List Value → eL
  | [] => []
  | .long a :: vs => some (.long a) :: none :: eEnt vs
  | .double a :: vs => some (.double a) :: none :: eEnt vs
  | v :: vs => some v :: eEnt vs
theorem eEnt_mem : ∀ (as : List Value) (i j : Nat) (v : Value), (eEnt as)[j]? = some (some v) → (i + j, eC ad v) ∈ lv_args i (as.map (eC ad))
  | [], i, j, v, h => by simp [eEnt] at h
  | u :: vs, i, j, v, h => by
    have two : ∀ (q : Value), q.category = 2 → eEnt (q :: vs) = some q :: none :: eEnt vs → (eEnt (q :: vs))[j]? = some (some v) → (i + j, eC ad v) ∈ lv_args i ((q :: vs).map (eC ad)) := by
      intro q hq he h
      rw [he] at h
      simp only [List.map_cons, lv_args, eC_cat, hq, if_true]
      match j, h with
      | 0, h => simp at h; simp [h]
      | 1, h => simp at h
      | j + 2, h =>
        have := eEnt_mem vs (i + 2) j v (by simpa using h)
        rw [show i + (j + 2) = i + 2 + j by omega]
        exact List.mem_cons_of_mem _ this
    have one : ∀ (q : Value), ¬ q.category = 2 → eEnt (q :: vs) = some q :: eEnt vs → (eEnt (q :: vs))[j]? = some (some v) → (i + j, eC ad v) ∈ lv_args i ((q :: vs).map (eC ad)) := by
      intro q hq he h
      rw [he] at h
      simp only [List.map_cons, lv_args, eC_cat, if_neg hq]
      match j, h with
      | 0, h => simp at h; simp [h]
      | j + 1, h =>
        have := eEnt_mem vs (i + 1) j v (by simpa using h)
        rw [show i + (j + 1) = i + 1 + j by omega]
        exact List.mem_cons_of_mem _ this
    cases u with
    | long a => exact two _ rfl rfl h
    | double a => exact two _ rfl rfl h
    | int a => exact one _ (by simp [Value.category]) rfl h
    | float a => exact one _ (by simp [Value.category]) rfl h
    | null => exact one _ (by simp [Value.category]) rfl h
    | ref a => exact one _ (by simp [Value.category]) rfl h
    | retAddr a => exact one _ (by simp [Value.category]) rfl h
theorem eSl_len : ∀ (as : List Value), (lg_sl (as.map (eC ad))).length = eCat as
  | [] => rfl
  | v :: vs => by
    have h := eSl_len vs
    unfold lg_sl at h ⊢
    simp only [List.map_cons, List.flatMap_cons, List.length_append, eCat, eC_cat]
    rw [h]
    rcases lv_cat v with h1 | h1 <;> simp [h1]
theorem eEnt_al {ls : Array Slot} {n : Nat} {as : List Value} (h : lv_has ls n (lv_args 0 (as.map (eC ad)))) : eAL ad ls n (eEnt as) := ⟨h.1, h.2.1, fun i v hi => by
  have := h.2.2 _ (eEnt_mem (ad := ad) as 0 i v hi)
  simpa using this⟩
theorem eMet_of {y : MethodName} {cc : ByteArray} {maxL : Nat} {ret : Option FieldType} {ws ws' : List Cond} {rm : Room} {as : List Value} {w w0 : eW} {v0 : Option Value} (hy : plainName y.cls = true) (hw : ws = Cond.code y cc maxL ret :: ws') (hn : eCat as ≤ maxL) (hx : ∀ v w', rt v w' = some x → v = v0 ∧ w' = w0)
    (body : ∀ (p : Program) (e : Env) (s : State) (m : MethodId) (args : Array Value) (below : List Frame) (meth : Method) (c : Code), eCx p rm s m args meth c cc y.cls maxL ad D cA cl SH SS ws ret → eGq p l e rm s m args below meth c maxL ad D cA cl SH rt x 0 (eEnt as) [] w) : eMet l ad D cA cl SH SS y ws rm as w v0 w0 := by
  refine Met.ofW (cc := cc) (maxL := maxL) (ret := ret) hy hw ?_
  intro p e s m args below meth c s₁ B hml hv
  obtain ⟨rfl, hP, hK, hi, hst⟩ := hv
  have hts := atoms_spec (ws := ws) B.pre
  have hown : s.vm.findClass y.cls = some m.cls := findClass_of_methodNamed B.named
  have hl := lv_entry (as.map (eC ad)) (n := maxL) (by rw [eSl_len]; exact hn)
  have key := body p e s m (as.map (eC ad)).toArray below meth c ⟨B.exec, B.bytes, B.returns, B.notSynchronized, hown, hml, hts, hK, hi, hst⟩ s.heap [] _ hP va_S.rf (eEnt_al hl)
  rw [lg_entry_eq]
  intro T hT X
  obtain ⟨t, h1, o, h2, h3, ⟨v, w', h4, h5⟩, h6⟩ := key T hT X
  obtain ⟨rfl, rfl⟩ := hx v w' h4
  exact ⟨t, h1, o, h2, h3, h5, h6⟩
def eLe (L : eL) : Nat → eL → Prop
  | _, [] => True
  | i, none :: r => eLe L (i + 1) r
  | i, some v :: r => L[i]? = some (some v) ∧ eLe L (i + 1) r
theorem eLe_get {L : eL} : ∀ (L0 : eL) (i : Nat), eLe L i L0 → ∀ (j : Nat) (v : Value), L0[j]? = some (some v) → L[i + j]? = some (some v)
  | [], i, _, j, v, h => by simp at h
  | none :: r, i, hl, j, v, h => by
    match j, h with
    | 0, h => simp at h
    | j + 1, h =>
      rw [show i + (j + 1) = i + 1 + j by omega]
      exact eLe_get r (i + 1) hl j v (by simpa using h)
  | some u :: r, i, hl, j, v, h => by
    match j, h with
    | 0, h =>
      simp only [List.getElem?_cons_zero, Option.some.injEq] at h
      subst h
      exact hl.1
    | j + 1, h =>
      rw [show i + (j + 1) = i + 1 + j by omega]
      exact eLe_get r (i + 1) hl.2 j v (by simpa using h)
theorem eLe_wk {L L0 : eL} (h : eLe L 0 L0) : ∀ (i : Nat) (v : Value), L0[i]? = some (some v) → L[i]? = some (some v) := fun i v hi => by
  have := eLe_get L0 0 h i v hi
  simpa using this
/-- a cut: its locals and what lies on the stack -/
def lR (L : eL) (i id : Nat) (k : Option ρ) : Option ρ := match eLd L i with
  | some (.ref r) => bif Nat.beq r id then k else none
  | _ => none
def sE (st : List Value) (k : Option ρ) : Option ρ := match st with
  | [] => k
  | _ => none
def sI (st : List Value) (k : Int32 → List Value → Option ρ) : Option ρ := match st with
  | .int a :: r => k a r
  | _ => none
def sJ (st : List Value) (k : Int64 → List Value → Option ρ) : Option ρ := match st with
  | .long a :: r => k a r
  | _ => none
def sR (st : List Value) (id : Nat) (k : List Value → Option ρ) : Option ρ := match st with
  | .ref a :: r => bif Nat.beq a id then k r else none
  | _ => none
theorem lI_some {L : eL} {i : Nat} {f : Int32 → Option ρ} (h : (lI L i).bind f = some x) : ∃ a, L[i]? = some (some (.int a)) ∧ f a = some x := by
  obtain ⟨a, h1, h2⟩ := Option.bind_eq_some_iff.mp h
  unfold lI at h1
  split at h1
  · rename_i b hb; cases h1; exact ⟨a, eLd_some.mp hb, h2⟩
  · cases h1
theorem lJ_some {L : eL} {i : Nat} {f : Int64 → Option ρ} (h : (lJ L i).bind f = some x) : ∃ a, L[i]? = some (some (.long a)) ∧ f a = some x := by
  obtain ⟨a, h1, h2⟩ := Option.bind_eq_some_iff.mp h
  unfold lJ at h1
  split at h1
  · rename_i b hb; cases h1; exact ⟨a, eLd_some.mp hb, h2⟩
  · cases h1
theorem lD_some {L : eL} {i : Nat} {f : UInt64 → Option ρ} (h : (lD L i).bind f = some x) : ∃ a, L[i]? = some (some (.double a)) ∧ f a = some x := by
  obtain ⟨a, h1, h2⟩ := Option.bind_eq_some_iff.mp h
  unfold lD at h1
  split at h1
  · rename_i b hb; cases h1; exact ⟨a, eLd_some.mp hb, h2⟩
  · cases h1
theorem lF_some {L : eL} {i : Nat} {f : UInt32 → Option ρ} (h : (lF L i).bind f = some x) : ∃ a, L[i]? = some (some (.float a)) ∧ f a = some x := by
  obtain ⟨a, h1, h2⟩ := Option.bind_eq_some_iff.mp h
  unfold lF at h1
  split at h1
  · rename_i b hb; cases h1; exact ⟨a, eLd_some.mp hb, h2⟩
  · cases h1
theorem lR_some {L : eL} {i id : Nat} {k : Option ρ} (h : lR L i id k = some x) : L[i]? = some (some (.ref id)) ∧ k = some x := by
  unfold lR at h
  split at h
  · rename_i r hr
    obtain ⟨h1, h2⟩ := eBif h
    have := Nat.eq_of_beq_eq_true h1
    subst this
    exact ⟨eLd_some.mp hr, h2⟩
  · cases h
theorem sE_some {st : List Value} {k : Option ρ} (h : sE st k = some x) : st = [] ∧ k = some x := by
  unfold sE at h
  split at h
  · exact ⟨rfl, h⟩
  · cases h
theorem sI_some {st : List Value} {k : Int32 → List Value → Option ρ} (h : sI st k = some x) : ∃ a r, st = .int a :: r ∧ k a r = some x := by
  unfold sI at h
  split at h
  · exact ⟨_, _, rfl, h⟩
  · cases h
theorem sJ_some {st : List Value} {k : Int64 → List Value → Option ρ} (h : sJ st k = some x) : ∃ a r, st = .long a :: r ∧ k a r = some x := by
  unfold sJ at h
  split at h
  · exact ⟨_, _, rfl, h⟩
  · cases h
theorem sR_some {st : List Value} {id : Nat} {k : List Value → Option ρ} (h : sR st id k = some x) : ∃ r, st = .ref id :: r ∧ k r = some x := by
  unfold sR at h
  split at h
  · obtain ⟨h1, h2⟩ := eBif h
    have := Nat.eq_of_beq_eq_true h1
    subst this
    exact ⟨_, rfl, h2⟩
  · cases h
theorem eCut {b n : Nat} {k q : Option ρ} (h : (bif Nat.beq b n then k else q) = some x) : (b = n ∧ k = some x) ∨ q = some x := by
  cases hb : Nat.beq b n with
  | true => rw [hb] at h; exact Or.inl ⟨Nat.eq_of_beq_eq_true hb, h⟩
  | false => rw [hb] at h; exact Or.inr h
theorem eLook_mem : ∀ (rs : List (Nat × eR)) (ix : Nat) (r : eR), eLook rs ix = some r → (ix, r) ∈ rs
  | [], _, _, h => by cases h
  | (i, q) :: rs, ix, r, h => by
    have h : (bif Nat.beq i ix then some q else eLook rs ix) = some r := h
    cases hb : Nat.beq i ix with
    | true =>
      rw [hb] at h
      have := Nat.eq_of_beq_eq_true hb
      cases h
      subst this
      exact List.mem_cons_self
    | false =>
      rw [hb] at h
      exact List.mem_cons_of_mem _ (eLook_mem rs ix r h)
/-- a callee by its place in a method's list -/
def eCs (cs : List (eF ρ)) (a : Nat) : eF ρ := match cs[a]? with
  | some f => f
  | none => fun _ _ _ => none
def eHc (l : Launch) (R : Room) (ad : Nat → Nat) (D : va_G) (cA : Nat → ClassId) (cl : List vw_C) (SH : List eSh) (SS : List eS) (Ts : List Cond) (own : String) (cs : List (eF ρ)) (x : ρ) (q : Nat × eR) : Prop := match q.2 with
  | (1, a, n, z) => ∀ (as : List Value) (w : eW) (k : Option Value → eW → Option ρ), eCs cs a as w k = some x → ∃ (v : Option Value) (w' : eW), k v w' = some x ∧ eCal l R ad D cA cl SH SS Ts own q.1 n z as w v w'
  | _ => True
theorem eHc_all {R : Room} {Ts : List Cond} {own : String} {cs : List (eF ρ)} {rs : List (Nat × eR)} (h : ∀ q ∈ rs, eHc l R ad D cA cl SH SS Ts own cs x q) : ∀ (ix a n : Nat) (z : Int), eLook rs ix = some (1, a, n, z) → ∀ (as : List Value) (w : eW) (k : Option Value → eW → Option ρ), eCs cs a as w k = some x → ∃ (v : Option Value) (w' : eW), k v w' = some x ∧ eCal l R ad D cA cl SH SS Ts own ix n z as w v w' := fun ix a n z hq => h (ix, (1, a, n, z)) (eLook_mem rs ix _ hq)
theorem eLnk_all {R : Room} {Ts : List Cond} {own : String} {n : Nat} {rs : List (Nat × eR)} (h : ∀ q ∈ rs, eLnk R cl Ts SS n own q.1 q.2) : ∀ ix r, eLook rs ix = some r → eLnk R cl Ts SS n own ix r := fun ix r hq => h (ix, r) (eLook_mem rs ix r hq)
theorem rI_ret {x : Int32 × eW} : ∀ v w, rI v w = some x → v = some (.int x.1) ∧ w = x.2 := by
  intro v w h
  unfold rI at h
  split at h
  · cases h; exact ⟨rfl, rfl⟩
  · cases h
theorem rJ_ret {x : Int64 × eW} : ∀ v w, rJ v w = some x → v = some (.long x.1) ∧ w = x.2 := by
  intro v w h
  unfold rJ at h
  split at h
  · cases h; exact ⟨rfl, rfl⟩
  · cases h
theorem rD_ret {x : UInt64 × eW} : ∀ v w, rD v w = some x → v = some (.double x.1) ∧ w = x.2 := by
  intro v w h
  unfold rD at h
  split at h
  · cases h; exact ⟨rfl, rfl⟩
  · cases h
theorem rF_ret {x : UInt32 × eW} : ∀ v w, rF v w = some x → v = some (.float x.1) ∧ w = x.2 := by
  intro v w h
  unfold rF at h
  split at h
  · cases h; exact ⟨rfl, rfl⟩
  · cases h
theorem rA_ret {x : Nat × eW} : ∀ v w, rA v w = some x → v = some (.ref x.1) ∧ w = x.2 := by
  intro v w h
  unfold rA at h
  split at h
  · cases h; exact ⟨rfl, rfl⟩
  · cases h
theorem rV_ret {x : eW} : ∀ v w, rV v w = some x → v = none ∧ w = x := by
  intro v w h
  unfold rV at h
  split at h
  · cases h; exact ⟨rfl, rfl⟩
  · cases h
theorem rZ_val {x : Int32 × eW} {v : Option Value} {w : eW} (h : rZ v w = some x) : (v = some (.int x.1) ∧ w = x.2) ∧ (x.1 = 0 ∨ x.1 = 1) := by
  unfold rZ at h
  split at h
  · split at h
    · rename_i hz; cases h; exact ⟨⟨rfl, rfl⟩, hz⟩
    · cases h
  · cases h
theorem rZ_ret {x : Int32 × eW} : ∀ v w, rZ v w = some x → v = some (.int x.1) ∧ w = x.2 := fun _ _ h => (rZ_val h).1
theorem rI_ok {x : Int32 × eW} : ∀ v w, rI v w = some x → eRet (some .int) v := fun v w h => by rw [(rI_ret v w h).1]; exact Or.inl rfl
theorem rZ_ok {x : Int32 × eW} : ∀ v w, rZ v w = some x → eRet (some .boolean) v := fun v w h => by rw [(rZ_val h).1.1]; exact Or.inr ⟨rfl, (rZ_val h).2⟩
theorem rJ_ok {x : Int64 × eW} : ∀ v w, rJ v w = some x → eRet (some .long) v := fun v w h => by rw [(rJ_ret v w h).1]; rfl
theorem rD_ok {x : UInt64 × eW} : ∀ v w, rD v w = some x → eRet (some .double) v := fun v w h => by rw [(rD_ret v w h).1]; rfl
theorem rF_ok {x : UInt32 × eW} : ∀ v w, rF v w = some x → eRet (some .float) v := fun v w h => by rw [(rF_ret v w h).1]; rfl
theorem rA_ok {x : Nat × eW} {t : FieldType} : ∀ v w, rA v w = some x → eRet (some (.array t)) v := fun v w h => by rw [(rA_ret v w h).1]; exact ⟨t, rfl⟩
theorem rV_ok {x : eW} : ∀ v w, rV v w = some x → eRet none v := fun v w h => by rw [(rV_ret v w h).1]; rfl
end EMT
/-- the fuel of a loop -/
noncomputable def eFu : Nat := Classical.choose (⟨1000000, rfl⟩ : ∃ n : Nat, n = 1000000)
theorem eFu_eq : eFu = 1000000 := Classical.choose_spec (⟨1000000, rfl⟩ : ∃ n : Nat, n = 1000000)
