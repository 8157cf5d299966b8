/-! ===== a part of a world: a method's contract over it is one over the whole ===== -/
theorem Met_mono {l : Launch} {y : MethodName} {ws : List Cond} {rm : Room} {P P' : Array Value → State → Prop} {Q Q' : Array Value → State → Outcome → State → Prop} {mc ms : Nat} {free free' : Addr → Prop} (h : Met l y ws rm P Q mc ms free) (hP : ∀ a U, P' a U → P a U) (hQ : ∀ a st o t, P' a st → Q a st o t → Q' a st o t) (hf : ∀ q, free q → free' q) : Met l y ws rm P' Q' mc ms free' := by
  intro p e h1 h2 h3 s m args below h4 h5 h6 h7
  obtain ⟨n, o, a1, a2, a3, a4, L, a5, a6⟩ := h p e h1 h2 h3 s m args below h4 h5 (hP _ _ h6) h7
  exact ⟨n, o, a1, a2, a3, hQ _ _ _ _ h6 a4, L, a5, fun q hq => hf _ (a6 q hq)⟩
def eShf (φ : Nat → Nat) (sh : eSh) : eSh := match sh with
  | .inl a => .inl a
  | .inr (ci, fs) => .inr (ci, fs.map (fun f => (f.1, if f.1 = 2 then φ f.2 else f.2)))
section ELF
variable {ad : Nat → Nat} {cA : Nat → ClassId} {φ : Nat → Nat} {W w : eW}
theorem eFs_sub {id : Nat} (h : (∀ b, w.1 id b = W.1 (φ id) b) ∧ ∀ b, w.2 id b = W.2 (φ id) b) : ∀ (fs : List (Nat × Nat)) (i : Nat), eFs ad W (φ id) i (fs.map (fun f => (f.1, if f.1 = 2 then φ f.2 else f.2))) = eFs (fun i => ad (φ i)) w id i fs
  | [], _ => rfl
  | f :: r, i => by
    simp only [List.map_cons, eFs]
    rw [eFs_sub h r (i + 1)]
    congr 1
    obtain ⟨a, b⟩ := f
    unfold eFv
    simp only
    rw [h.1, h.2]
    split <;> simp_all
theorem eCell_sub {id : Nat} (h : (∀ b, w.1 id b = W.1 (φ id) b) ∧ ∀ b, w.2 id b = W.2 (φ id) b) (sh : eSh) : eCell ad cA W (φ id) (eShf φ sh) = eCell (fun i => ad (φ i)) cA w id sh := by
  have e1 : w.1 id = W.1 (φ id) := funext h.1
  have e2 : w.2 id = W.2 (φ id) := funext h.2
  match sh with
  | .inl (0, n) => simp [eShf, eCell, e1]
  | .inl (1, n) => simp [eShf, eCell, e2]
  | .inl (2, n) => simp [eShf, eCell, e1]
  | .inl (_ + 3, n) => simp [eShf, eCell, e1]
  | .inr (ci, fs) =>
    simp only [eShf, eCell]
    rw [eFs_sub h]
theorem eC_eC (v : Value) : eC ad (eC φ v) = eC (fun i => ad (φ i)) v := by cases v <;> rfl
theorem eMet_lift {l : Launch} {D : va_G} {cl : List vw_C} {SH SHl : List eSh} {SS SSl : List eS} {y : MethodName} {wds : List Cond} {rm : Room} {as : List Value} {v : Option Value} {w2 W2 : eW}
    (hsh : ∀ k sh, SH[k]? = some sh → SHl[φ k]? = some (eShf φ sh)) (hφ : ∀ i j, i < SH.length → j < SH.length → φ i = φ j → i = j) (hss : ∀ k q, SS[k]? = some q → ∃ k2, SSl[k2]? = some q ∧ φ (SH.length + k) = SHl.length + k2)
    (hW : ∀ k, k < SH.length → (∀ b, w.1 k b = W.1 (φ k) b) ∧ ∀ b, w.2 k b = W.2 (φ k) b) (hW2 : ∀ k, k < SH.length → (∀ b, w2.1 k b = W2.1 (φ k) b) ∧ ∀ b, w2.2 k b = W2.2 (φ k) b) (hWo : ∀ a, (∀ k, k < SH.length → φ k ≠ a) → (∀ b, W2.1 a b = W.1 a b) ∧ ∀ b, W2.2 a b = W.2 a b)
    (hv : ∀ a, v ≠ some (.ref a)) (h : eMet l (fun i => ad (φ i)) D cA cl SH SS y wds rm as w v w2) : eMet l ad D cA cl SHl SSl y wds rm (as.map (eC φ)) W v W2 := by
  have hlt : ∀ k, k < SH.length → φ k < SHl.length := fun k hk => by
    have := hsh k _ (List.getElem?_eq_getElem hk)
    exact (List.getElem?_eq_some_iff.mp this).1
  have hA : ∀ q, eA (fun i => ad (φ i)) SH.length q → eA ad SHl.length q := fun q ⟨i, h1, h2⟩ => ⟨φ i, hlt i h1, h2⟩
  have hsub : ∀ {H : Heap} {W w : eW}, (∀ k, k < SH.length → (∀ b, w.1 k b = W.1 (φ k) b) ∧ ∀ b, w.2 k b = W.2 (φ k) b) → va_P D cl (eWs ad cA W 0 SHl) H → va_P D cl (eWs (fun i => ad (φ i)) cA w 0 SH) H := by
    intro H W w hW hP k q hk
    rw [eWs_get] at hk
    cases hs : SH[k]? with
    | none => rw [hs] at hk; cases hk
    | some sh =>
      rw [hs] at hk
      simp only [Option.map_some, Nat.zero_add, Option.some.injEq] at hk
      subst hk
      have hkl := (List.getElem?_eq_some_iff.mp hs).1
      have := hP (φ k) _ (eWs_at (hsh k sh hs))
      rw [eCell_sub (hW k hkl)] at this
      exact this
  refine Met_mono h ?_ ?_ hA
  · rintro a U ⟨h1, h2, h3, h4, h5⟩
    refine ⟨?_, hsub hW h2, h3, fun i j hi hj hij => hφ i j hi hj (h4 _ _ (hlt i hi) (hlt j hj) hij), fun k q hk => ?_⟩
    · rw [h1]
      simp only [List.map_map]
      congr 2
      funext v
      exact eC_eC v
    · obtain ⟨k2, g1, g2⟩ := hss k q hk
      obtain ⟨g3, g4⟩ := h5 k2 q g1
      simp only [g2]
      exact ⟨g3.imp id (fun z => z.narrow hA), g4.narrow hA⟩
  · rintro a st o t ⟨h1, h2, h3, h4, h5⟩ ⟨q1, q2, q3⟩
    refine ⟨?_, fun k q hk => ?_, q3.1, fun q g1 g2 => q3.2 q g1 (fun z => g2 (hA q z))⟩
    · rw [q1]
      match v, hv with
      | none, _ => rfl
      | some (.int _), _ => rfl
      | some (.long _), _ => rfl
      | some (.float _), _ => rfl
      | some (.double _), _ => rfl
      | some .null, _ => rfl
      | some (.ref a), hv => exact absurd rfl (hv a)
      | some (.retAddr _), _ => rfl
    · rw [eWs_get] at hk
      cases hs : SHl[k]? with
      | none => rw [hs] at hk; cases hk
      | some sh =>
        rw [hs] at hk
        simp only [Option.map_some, Nat.zero_add, Option.some.injEq] at hk
        subst hk
        have hkl := (List.getElem?_eq_some_iff.mp hs).1
        by_cases hin : ∃ i, i < SH.length ∧ φ i = k
        · obtain ⟨i, hi, rfl⟩ := hin
          have e1 := hsh i _ (List.getElem?_eq_getElem hi)
          rw [hs] at e1
          cases e1
          rw [eCell_sub (hW2 i hi)]
          exact q2 i _ (eWs_at (List.getElem?_eq_getElem hi))
        · have hn : ∀ i, i < SH.length → φ i ≠ k := fun i hi z => hin ⟨i, hi, z⟩
          have e1 : eCell ad cA W2 k sh = eCell ad cA W k sh := eCell_congr (hWo k hn).1 (hWo k hn).2
          rw [e1]
          have hold := h2 k _ (eWs_at hs)
          exact hold.kept (q3.2 _ hold.lt (fun ⟨i, hi, z⟩ => hn i hi (h4 _ _ (hlt i hi) hkl z.symm)))
end ELF
