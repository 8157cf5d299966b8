/-! the law: its calls over both worlds -/
def SHl : List eSh := [.inl (2, 700), .inr (9, [(2, 0), (0, 0), (0, 0), (0, 0), (0, 0), (0, 0), (1, 0)]), .inl (0, 120), .inr (4, [(0, 0), (0, 0), (0, 0), (2, 2)]), .inl (1, 11), .inl (1, 12), .inr (7, [(2, 1), (2, 4), (2, 5), (3, 0), (2, 3), (0, 0), (0, 0)]), .inl (0, 120), .inr (4, [(0, 0), (0, 0), (0, 0), (2, 7)]), .inl (1, 12), .inl (1, 12), .inl (1, 12), .inl (1, 12), .inl (0, 24), .inl (0, 24), .inl (0, 24), .inl (0, 24), .inl (1, 24), .inl (1, 24), .inr (2, [(0, 0), (2, 9), (2, 10), (2, 11), (2, 12), (1, 0), (1, 0), (0, 0), (2, 13), (2, 14), (2, 15), (2, 16), (2, 17), (2, 18)]), .inl (0, 12), .inl (1, 6), .inl (1, 12), .inl (1, 12), .inr (3, [(2, 19), (2, 20), (2, 21), (1, 0), (2, 22), (1, 0), (1, 0), (1, 0), (2, 23), (1, 0)]), .inl (1, 30), .inl (1, 30), .inr (1, [(2, 25), (2, 26), (0, 0), (0, 0), (1, 0), (1, 0)]), .inl (0, 6), .inl (1, 384), .inl (1, 64), .inr (5, [(2, 28), (0, 0), (2, 29), (2, 30)]), .inr (8, [(3, 0), (0, 0), (0, 0), (0, 0), (0, 0)]), .inl (0, 8), .inl (0, 8), .inr (6, [(2, 33), (2, 34), (0, 0)]), .inl (0, 96), .inr (0, [(2, 36), (0, 0), (0, 0)]), .inr (10, [(2, 1), (2, 6), (2, 8), (2, 24), (2, 27), (2, 31), (2, 32), (2, 35), (2, 37)]), .inl (0, 24), .inl (0, 24), .inl (0, 24), .inl (0, 24), .inl (0, 24), .inl (0, 24), .inl (0, 24), .inl (0, 24), .inl (0, 24), .inl (0, 24), .inl (0, 24), .inl (0, 700), .inl (1, 30), .inl (1, 30), .inl (1, 12), .inl (1, 12), .inl (1, 12), .inl (0, 12), .inl (3, 12), .inl (1, 48), .inl (1, 48), .inl (0, 576), .inl (0, 8), .inl (0, 8), .inr (11, [(0, 0), (0, 0), (0, 0), (0, 0), (0, 0), (2, 39), (2, 40), (2, 41), (2, 42), (2, 43), (2, 44), (2, 45), (2, 46), (2, 47), (2, 48), (2, 49), (0, 0), (2, 50), (0, 0), (0, 0), (0, 0), (0, 0), (0, 0), (0, 0), (0, 0), (0, 0), (0, 0), (0, 0), (0, 0), (3, 0), (2, 51), (2, 52), (2, 53), (2, 54), (0, 0), (0, 0), (3, 0), (2, 55), (1, 0), (1, 0), (1, 0), (2, 56), (2, 57), (1, 0), (1, 0), (2, 58), (2, 59), (0, 0), (1, 0), (1, 0), (2, 60), (2, 61), (2, 62), (0, 0), (0, 0), (0, 0), (0, 0), (0, 0), (0, 0), (3, 0)])]
def SSl (xs : List Int32) : List eS := [("ExitFalls$Reader", "COMMON_LINE", "[I", zCOMMON_LINE), ("ExitFalls$Reader", "OPTION_LINE", "[I", zOPTION_LINE), ("ExitFalls$Reader", "CLASS_LINE", "[I", zCLASS_LINE), ("ExitFalls$Reader", "CARVE_LINE", "[I", zCARVE_LINE), ("", "", "", xs)]
def eMgC (v w : eW) : eW := (fun a b => if a < 39 then v.1 a b else w.1 a b, fun a b => if a < 39 then v.2 a b else w.2 a b)
def eSM (w : eW) : eW := (fun a b => w.1 (39 + a) b, fun a b => w.2 (39 + a) b)
def eMgM (v w : eW) : eW := (fun a b => if a < 39 then w.1 a b else if a < 64 then v.1 (a - 39) b else w.1 a b, fun a b => if a < 39 then w.2 a b else if a < 64 then v.2 (a - 39) b else w.2 a b)
def phC (i : Nat) : Nat := if i < 39 then i else i + 25
def phM (i : Nat) : Nat := 39 + i
theorem shC_ok : ∀ k sh, SHc[k]? = some sh → SHl[phC k]? = some (eShf phC sh) := by
  intro k sh h
  have hk : k < 39 := (List.getElem?_eq_some_iff.mp h).1
  have key : ∀ k, k < 39 → SHl[phC k]? = (SHc[k]?).map (eShf phC) := by
    intro k hk
    match k, hk with
    | 0, _ => rfl
    | 1, _ => rfl
    | 2, _ => rfl
    | 3, _ => rfl
    | 4, _ => rfl
    | 5, _ => rfl
    | 6, _ => rfl
    | 7, _ => rfl
    | 8, _ => rfl
    | 9, _ => rfl
    | 10, _ => rfl
    | 11, _ => rfl
    | 12, _ => rfl
    | 13, _ => rfl
    | 14, _ => rfl
    | 15, _ => rfl
    | 16, _ => rfl
    | 17, _ => rfl
    | 18, _ => rfl
    | 19, _ => rfl
    | 20, _ => rfl
    | 21, _ => rfl
    | 22, _ => rfl
    | 23, _ => rfl
    | 24, _ => rfl
    | 25, _ => rfl
    | 26, _ => rfl
    | 27, _ => rfl
    | 28, _ => rfl
    | 29, _ => rfl
    | 30, _ => rfl
    | 31, _ => rfl
    | 32, _ => rfl
    | 33, _ => rfl
    | 34, _ => rfl
    | 35, _ => rfl
    | 36, _ => rfl
    | 37, _ => rfl
    | 38, _ => rfl
    | k + 39, hk => exact absurd hk (by omega)
  rw [key k hk, h]
  rfl
theorem shM_ok : ∀ k sh, SHm[k]? = some sh → SHl[phM k]? = some (eShf phM sh) := by
  intro k sh h
  have hk : k < 25 := (List.getElem?_eq_some_iff.mp h).1
  have key : ∀ k, k < 25 → SHl[phM k]? = (SHm[k]?).map (eShf phM) := by
    intro k hk
    match k, hk with
    | 0, _ => rfl
    | 1, _ => rfl
    | 2, _ => rfl
    | 3, _ => rfl
    | 4, _ => rfl
    | 5, _ => rfl
    | 6, _ => rfl
    | 7, _ => rfl
    | 8, _ => rfl
    | 9, _ => rfl
    | 10, _ => rfl
    | 11, _ => rfl
    | 12, _ => rfl
    | 13, _ => rfl
    | 14, _ => rfl
    | 15, _ => rfl
    | 16, _ => rfl
    | 17, _ => rfl
    | 18, _ => rfl
    | 19, _ => rfl
    | 20, _ => rfl
    | 21, _ => rfl
    | 22, _ => rfl
    | 23, _ => rfl
    | 24, _ => rfl
    | k + 25, hk => exact absurd hk (by omega)
  rw [key k hk, h]
  rfl
theorem SHc_len : SHc.length = 39 := rfl
theorem SHm_len : SHm.length = 25 := rfl
theorem SHl_len : SHl.length = 64 := rfl
theorem eLiftC {l : Launch} {ad : Nat → Nat} {D : va_G} {cA : Nat → ClassId} {xs : List Int32} {y : MethodName} {wds : List Cond} {rm : Room} {as : List Value} {w w2 : eW} {v : Option Value} (h : eMet l (fun i => ad (phC i)) D cA vwCl SHc SSc y wds rm as w v w2) (hv : ∀ a, v ≠ some (.ref a)) : eMet l ad D cA vwCl SHl (SSl xs) y wds rm (as.map (eC phC)) w v (eMgC w2 w) := by
  refine eMet_lift shC_ok ?_ ?_ ?_ ?_ ?_ hv h
  · intro i j hi hj hij
    rw [SHc_len] at hi hj
    simpa [phC, hi, hj] using hij
  · intro k q hk
    have hk4 : k < 4 := (List.getElem?_eq_some_iff.mp hk).1
    refine ⟨k, ?_, ?_⟩
    · match k, hk4, hk with
      | 0, _, hk => exact hk
      | 1, _, hk => exact hk
      | 2, _, hk => exact hk
      | 3, _, hk => exact hk
    · rw [SHc_len, SHl_len]
      unfold phC
      rw [if_neg (by omega)]
      omega
  · intro k hk
    rw [SHc_len] at hk
    simp [phC, hk]
  · intro k hk
    rw [SHc_len] at hk
    simp [phC, hk, eMgC]
  · intro a ha
    have : ¬ a < 39 := fun z => ha a (by rw [SHc_len]; exact z) (by simp [phC, z])
    simp [eMgC, this]
theorem eLiftM {l : Launch} {ad : Nat → Nat} {D : va_G} {cA : Nat → ClassId} {xs : List Int32} {y : MethodName} {wds : List Cond} {rm : Room} {as : List Value} {w w2 : eW} {v : Option Value} (h : eMet l (fun i => ad (phM i)) D cA vwCl SHm SSm y wds rm as (eSM w) v w2) (hv : ∀ a, v ≠ some (.ref a)) : eMet l ad D cA vwCl SHl (SSl xs) y wds rm (as.map (eC phM)) w v (eMgM w2 w) := by
  refine eMet_lift shM_ok ?_ ?_ ?_ ?_ ?_ hv h
  · intro i j hi hj hij
    simpa [phM] using hij
  · intro k q hk
    simp [SSm] at hk
  · intro k hk
    simp [phM, eSM]
  · intro k hk
    rw [SHm_len] at hk
    have : 39 + k < 64 := by omega
    have h39 : ¬ 39 + k < 39 := by omega
    simp [phM, eMgM, this, h39]
  · intro a ha
    have : a < 39 ∨ 64 ≤ a := by
      by_cases h1 : a < 39
      · exact Or.inl h1
      · refine Or.inr (Nat.le_of_not_lt fun z => ha (a - 39) (by rw [SHm_len]; omega) (by simp [phM]; omega))
    rcases this with h1 | h1
    · simp [eMgM, h1]
    · have h2 : ¬ a < 39 := by omega
      have h3 : ¬ a < 64 := by omega
      simp [eMgM, h2, h3]
noncomputable def KL_xx_feed {ρ : Type} : eF ρ := fun as w k => match as with
  | [.ref r0, .int a1, .int a2, .int a3, .int a4, .int a5] => bif Nat.beq r0 38 then (f_xx_feed a1 a2 a3 a4 a5 w).bind (fun p => k (some (.int p.1)) (eMgC p.2 w)) else none
  | _ => none
set_option maxRecDepth 100000 in
set_option maxHeartbeats 4000000 in
theorem okL_xx_feed {l : Launch} {ad : Nat → Nat} {D : va_G} {cA : Nat → ClassId} {xs : List Int32} {ρ : Type} (as : List Value) (w : eW) (k : Option Value → eW → Option ρ) (x : ρ) (h : KL_xx_feed as w k = some x) : ∃ (v : Option Value) (w2 : eW), k v w2 = some x ∧ eMet l ad D cA vwCl SHl (SSl xs) yX11_feed (eWd yX11_feed cX11_feed 6 (some .int)) { frames := 1, cells := 0, slots := 0, locals := 22 } as w v w2 := by
  unfold KL_xx_feed at h
  split at h
  · rename_i r0 a1 a2 a3 a4 a5
    obtain ⟨h1, h5⟩ := eBif h
    clear h
    have h1 := Nat.eq_of_beq_eq_true h1
    subst h1
    obtain ⟨q, h2, h3⟩ := Option.bind_eq_some_iff.mp h5
    have hK : K_xx_feed [.ref 38, .int a1, .int a2, .int a3, .int a4, .int a5] w (fun v w => some (v, w)) = some (some (.int q.1), q.2) := by
      show (f_xx_feed a1 a2 a3 a4 a5 w).bind (fun p => some (some (Value.int p.1), p.2)) = _
      rw [h2]
      rfl
    obtain ⟨v, w2, e1, hM⟩ := ok_xx_feed (l := l) (ad := fun i => ad (phC i)) (D := D) (cA := cA) _ _ _ _ hK
    cases e1
    exact ⟨_, _, h3, eLiftC (xs := xs) hM (fun a h => by cases h)⟩
  · cases h
noncomputable def KL_mm_feed {ρ : Type} : eF ρ := fun as w k => match as with
  | [.ref r0, .int a1, .int a2, .int a3, .int a4, .int a5] => bif Nat.beq r0 63 then (f_mm_feed a1 a2 a3 a4 a5 (eSM w)).bind (fun p => k (some (.int p.1)) (eMgM p.2 w)) else none
  | _ => none
set_option maxRecDepth 100000 in
set_option maxHeartbeats 4000000 in
theorem okL_mm_feed {l : Launch} {ad : Nat → Nat} {D : va_G} {cA : Nat → ClassId} {xs : List Int32} {ρ : Type} (as : List Value) (w : eW) (k : Option Value → eW → Option ρ) (x : ρ) (h : KL_mm_feed as w k = some x) : ∃ (v : Option Value) (w2 : eW), k v w2 = some x ∧ eMet l ad D cA vwCl SHl (SSl xs) yX12_feed (eWd yX12_feed cX12_feed 6 (some .int)) { frames := 1, cells := 0, slots := 0, locals := 22 } as w v w2 := by
  unfold KL_mm_feed at h
  split at h
  · rename_i r0 a1 a2 a3 a4 a5
    obtain ⟨h1, h5⟩ := eBif h
    clear h
    have h1 := Nat.eq_of_beq_eq_true h1
    subst h1
    obtain ⟨q, h2, h3⟩ := Option.bind_eq_some_iff.mp h5
    have hK : K_mm_feed [.ref 24, .int a1, .int a2, .int a3, .int a4, .int a5] (eSM w) (fun v w => some (v, w)) = some (some (.int q.1), q.2) := by
      show (f_mm_feed a1 a2 a3 a4 a5 (eSM w)).bind (fun p => some (some (Value.int p.1), p.2)) = _
      rw [h2]
      rfl
    obtain ⟨v, w2, e1, hM⟩ := ok_mm_feed (l := l) (ad := fun i => ad (phM i)) (D := D) (cA := cA) _ _ _ _ hK
    cases e1
    exact ⟨_, _, h3, eLiftM (xs := xs) hM (fun a h => by cases h)⟩
  · cases h
noncomputable def KL_xx_end {ρ : Type} : eF ρ := fun as w k => match as with
  | [.ref r0, .int a1] => bif Nat.beq r0 38 then (f_xx_end a1 w).bind (fun p => k (some (.int p.1)) (eMgC p.2 w)) else none
  | _ => none
set_option maxRecDepth 100000 in
set_option maxHeartbeats 4000000 in
theorem okL_xx_end {l : Launch} {ad : Nat → Nat} {D : va_G} {cA : Nat → ClassId} {xs : List Int32} {ρ : Type} (as : List Value) (w : eW) (k : Option Value → eW → Option ρ) (x : ρ) (h : KL_xx_end as w k = some x) : ∃ (v : Option Value) (w2 : eW), k v w2 = some x ∧ eMet l ad D cA vwCl SHl (SSl xs) yX11_end (eWd yX11_end cX11_end 2 (some .int)) { frames := 1, cells := 0, slots := 0, locals := 21 } as w v w2 := by
  unfold KL_xx_end at h
  split at h
  · rename_i r0 a1
    obtain ⟨h1, h5⟩ := eBif h
    clear h
    have h1 := Nat.eq_of_beq_eq_true h1
    subst h1
    obtain ⟨q, h2, h3⟩ := Option.bind_eq_some_iff.mp h5
    have hK : K_xx_end [.ref 38, .int a1] w (fun v w => some (v, w)) = some (some (.int q.1), q.2) := by
      show (f_xx_end a1 w).bind (fun p => some (some (Value.int p.1), p.2)) = _
      rw [h2]
      rfl
    obtain ⟨v, w2, e1, hM⟩ := ok_xx_end (l := l) (ad := fun i => ad (phC i)) (D := D) (cA := cA) _ _ _ _ hK
    cases e1
    exact ⟨_, _, h3, eLiftC (xs := xs) hM (fun a h => by cases h)⟩
  · cases h
noncomputable def KL_mm_end {ρ : Type} : eF ρ := fun as w k => match as with
  | [.ref r0, .int a1] => bif Nat.beq r0 63 then (f_mm_end a1 (eSM w)).bind (fun p => k (some (.int p.1)) (eMgM p.2 w)) else none
  | _ => none
set_option maxRecDepth 100000 in
set_option maxHeartbeats 4000000 in
theorem okL_mm_end {l : Launch} {ad : Nat → Nat} {D : va_G} {cA : Nat → ClassId} {xs : List Int32} {ρ : Type} (as : List Value) (w : eW) (k : Option Value → eW → Option ρ) (x : ρ) (h : KL_mm_end as w k = some x) : ∃ (v : Option Value) (w2 : eW), k v w2 = some x ∧ eMet l ad D cA vwCl SHl (SSl xs) yX12_end (eWd yX12_end cX12_end 2 (some .int)) { frames := 1, cells := 0, slots := 0, locals := 22 } as w v w2 := by
  unfold KL_mm_end at h
  split at h
  · rename_i r0 a1
    obtain ⟨h1, h5⟩ := eBif h
    clear h
    have h1 := Nat.eq_of_beq_eq_true h1
    subst h1
    obtain ⟨q, h2, h3⟩ := Option.bind_eq_some_iff.mp h5
    have hK : K_mm_end [.ref 24, .int a1] (eSM w) (fun v w => some (v, w)) = some (some (.int q.1), q.2) := by
      show (f_mm_end a1 (eSM w)).bind (fun p => some (some (Value.int p.1), p.2)) = _
      rw [h2]
      rfl
    obtain ⟨v, w2, e1, hM⟩ := ok_mm_end (l := l) (ad := fun i => ad (phM i)) (D := D) (cA := cA) _ _ _ _ hK
    cases e1
    exact ⟨_, _, h3, eLiftM (xs := xs) hM (fun a h => by cases h)⟩
  · cases h
noncomputable def KL_xx_text {ρ : Type} : eF ρ := fun as w k => match as with
  | [.ref r0] => bif Nat.beq r0 38 then (f_xx_text w).bind (fun p => k (some (.int p.1)) (eMgC p.2 w)) else none
  | _ => none
set_option maxRecDepth 100000 in
set_option maxHeartbeats 4000000 in
theorem okL_xx_text {l : Launch} {ad : Nat → Nat} {D : va_G} {cA : Nat → ClassId} {xs : List Int32} {ρ : Type} (as : List Value) (w : eW) (k : Option Value → eW → Option ρ) (x : ρ) (h : KL_xx_text as w k = some x) : ∃ (v : Option Value) (w2 : eW), k v w2 = some x ∧ eMet l ad D cA vwCl SHl (SSl xs) yX11_text (eWd yX11_text cX11_text 2 (some .int)) { frames := 6, cells := 0, slots := 0, locals := 134 } as w v w2 := by
  unfold KL_xx_text at h
  split at h
  · rename_i r0
    obtain ⟨h1, h5⟩ := eBif h
    clear h
    have h1 := Nat.eq_of_beq_eq_true h1
    subst h1
    obtain ⟨q, h2, h3⟩ := Option.bind_eq_some_iff.mp h5
    have hK : K_xx_text [.ref 38] w (fun v w => some (v, w)) = some (some (.int q.1), q.2) := by
      show (f_xx_text w).bind (fun p => some (some (Value.int p.1), p.2)) = _
      rw [h2]
      rfl
    obtain ⟨v, w2, e1, hM⟩ := ok_xx_text (l := l) (ad := fun i => ad (phC i)) (D := D) (cA := cA) _ _ _ _ hK
    cases e1
    exact ⟨_, _, h3, eLiftC (xs := xs) hM (fun a h => by cases h)⟩
  · cases h
noncomputable def KL_mm_text {ρ : Type} : eF ρ := fun as w k => match as with
  | [.ref r0] => bif Nat.beq r0 63 then (f_mm_text (eSM w)).bind (fun p => k (some (.int p.1)) (eMgM p.2 w)) else none
  | _ => none
set_option maxRecDepth 100000 in
set_option maxHeartbeats 4000000 in
theorem okL_mm_text {l : Launch} {ad : Nat → Nat} {D : va_G} {cA : Nat → ClassId} {xs : List Int32} {ρ : Type} (as : List Value) (w : eW) (k : Option Value → eW → Option ρ) (x : ρ) (h : KL_mm_text as w k = some x) : ∃ (v : Option Value) (w2 : eW), k v w2 = some x ∧ eMet l ad D cA vwCl SHl (SSl xs) yX12_text (eWd yX12_text cX12_text 2 (some .int)) { frames := 6, cells := 0, slots := 0, locals := 132 } as w v w2 := by
  unfold KL_mm_text at h
  split at h
  · rename_i r0
    obtain ⟨h1, h5⟩ := eBif h
    clear h
    have h1 := Nat.eq_of_beq_eq_true h1
    subst h1
    obtain ⟨q, h2, h3⟩ := Option.bind_eq_some_iff.mp h5
    have hK : K_mm_text [.ref 24] (eSM w) (fun v w => some (v, w)) = some (some (.int q.1), q.2) := by
      show (f_mm_text (eSM w)).bind (fun p => some (some (Value.int p.1), p.2)) = _
      rw [h2]
      rfl
    obtain ⟨v, w2, e1, hM⟩ := ok_mm_text (l := l) (ad := fun i => ad (phM i)) (D := D) (cA := cA) _ _ _ _ hK
    cases e1
    exact ⟨_, _, h3, eLiftM (xs := xs) hM (fun a h => by cases h)⟩
  · cases h
noncomputable def KL_xx_fault {ρ : Type} : eF ρ := fun as w k => match as with
  | [.ref r0, .int a1] => bif Nat.beq r0 38 then (f_xx_fault a1 w).bind (fun p => k (some (.int p.1)) (eMgC p.2 w)) else none
  | _ => none
set_option maxRecDepth 100000 in
set_option maxHeartbeats 4000000 in
theorem okL_xx_fault {l : Launch} {ad : Nat → Nat} {D : va_G} {cA : Nat → ClassId} {xs : List Int32} {ρ : Type} (as : List Value) (w : eW) (k : Option Value → eW → Option ρ) (x : ρ) (h : KL_xx_fault as w k = some x) : ∃ (v : Option Value) (w2 : eW), k v w2 = some x ∧ eMet l ad D cA vwCl SHl (SSl xs) yX11_fault (eWd yX11_fault cX11_fault 2 (some .int)) { frames := 0, cells := 0, slots := 0, locals := 0 } as w v w2 := by
  unfold KL_xx_fault at h
  split at h
  · rename_i r0 a1
    obtain ⟨h1, h5⟩ := eBif h
    clear h
    have h1 := Nat.eq_of_beq_eq_true h1
    subst h1
    obtain ⟨q, h2, h3⟩ := Option.bind_eq_some_iff.mp h5
    have hK : K_xx_fault [.ref 38, .int a1] w (fun v w => some (v, w)) = some (some (.int q.1), q.2) := by
      show (f_xx_fault a1 w).bind (fun p => some (some (Value.int p.1), p.2)) = _
      rw [h2]
      rfl
    obtain ⟨v, w2, e1, hM⟩ := ok_xx_fault (l := l) (ad := fun i => ad (phC i)) (D := D) (cA := cA) _ _ _ _ hK
    cases e1
    exact ⟨_, _, h3, eLiftC (xs := xs) hM (fun a h => by cases h)⟩
  · cases h
noncomputable def KL_mm_fault {ρ : Type} : eF ρ := fun as w k => match as with
  | [.ref r0, .int a1] => bif Nat.beq r0 63 then (f_mm_fault a1 (eSM w)).bind (fun p => k (some (.int p.1)) (eMgM p.2 w)) else none
  | _ => none
set_option maxRecDepth 100000 in
set_option maxHeartbeats 4000000 in
theorem okL_mm_fault {l : Launch} {ad : Nat → Nat} {D : va_G} {cA : Nat → ClassId} {xs : List Int32} {ρ : Type} (as : List Value) (w : eW) (k : Option Value → eW → Option ρ) (x : ρ) (h : KL_mm_fault as w k = some x) : ∃ (v : Option Value) (w2 : eW), k v w2 = some x ∧ eMet l ad D cA vwCl SHl (SSl xs) yX12_fault (eWd yX12_fault cX12_fault 2 (some .int)) { frames := 0, cells := 0, slots := 0, locals := 0 } as w v w2 := by
  unfold KL_mm_fault at h
  split at h
  · rename_i r0 a1
    obtain ⟨h1, h5⟩ := eBif h
    clear h
    have h1 := Nat.eq_of_beq_eq_true h1
    subst h1
    obtain ⟨q, h2, h3⟩ := Option.bind_eq_some_iff.mp h5
    have hK : K_mm_fault [.ref 24, .int a1] (eSM w) (fun v w => some (v, w)) = some (some (.int q.1), q.2) := by
      show (f_mm_fault a1 (eSM w)).bind (fun p => some (some (Value.int p.1), p.2)) = _
      rw [h2]
      rfl
    obtain ⟨v, w2, e1, hM⟩ := ok_mm_fault (l := l) (ad := fun i => ad (phM i)) (D := D) (cA := cA) _ _ _ _ hK
    cases e1
    exact ⟨_, _, h3, eLiftM (xs := xs) hM (fun a h => by cases h)⟩
  · cases h
noncomputable def KL_xx_about {ρ : Type} : eF ρ := fun as w k => match as with
  | [.ref r0, .int a1] => bif Nat.beq r0 38 then (f_xx_about a1 w).bind (fun p => k (some (.int p.1)) (eMgC p.2 w)) else none
  | _ => none
set_option maxRecDepth 100000 in
set_option maxHeartbeats 4000000 in
theorem okL_xx_about {l : Launch} {ad : Nat → Nat} {D : va_G} {cA : Nat → ClassId} {xs : List Int32} {ρ : Type} (as : List Value) (w : eW) (k : Option Value → eW → Option ρ) (x : ρ) (h : KL_xx_about as w k = some x) : ∃ (v : Option Value) (w2 : eW), k v w2 = some x ∧ eMet l ad D cA vwCl SHl (SSl xs) yX11_about (eWd yX11_about cX11_about 2 (some .int)) { frames := 0, cells := 0, slots := 0, locals := 0 } as w v w2 := by
  unfold KL_xx_about at h
  split at h
  · rename_i r0 a1
    obtain ⟨h1, h5⟩ := eBif h
    clear h
    have h1 := Nat.eq_of_beq_eq_true h1
    subst h1
    obtain ⟨q, h2, h3⟩ := Option.bind_eq_some_iff.mp h5
    have hK : K_xx_about [.ref 38, .int a1] w (fun v w => some (v, w)) = some (some (.int q.1), q.2) := by
      show (f_xx_about a1 w).bind (fun p => some (some (Value.int p.1), p.2)) = _
      rw [h2]
      rfl
    obtain ⟨v, w2, e1, hM⟩ := ok_xx_about (l := l) (ad := fun i => ad (phC i)) (D := D) (cA := cA) _ _ _ _ hK
    cases e1
    exact ⟨_, _, h3, eLiftC (xs := xs) hM (fun a h => by cases h)⟩
  · cases h
noncomputable def KL_mm_about {ρ : Type} : eF ρ := fun as w k => match as with
  | [.ref r0, .int a1] => bif Nat.beq r0 63 then (f_mm_about a1 (eSM w)).bind (fun p => k (some (.int p.1)) (eMgM p.2 w)) else none
  | _ => none
set_option maxRecDepth 100000 in
set_option maxHeartbeats 4000000 in
theorem okL_mm_about {l : Launch} {ad : Nat → Nat} {D : va_G} {cA : Nat → ClassId} {xs : List Int32} {ρ : Type} (as : List Value) (w : eW) (k : Option Value → eW → Option ρ) (x : ρ) (h : KL_mm_about as w k = some x) : ∃ (v : Option Value) (w2 : eW), k v w2 = some x ∧ eMet l ad D cA vwCl SHl (SSl xs) yX12_about (eWd yX12_about cX12_about 2 (some .int)) { frames := 0, cells := 0, slots := 0, locals := 0 } as w v w2 := by
  unfold KL_mm_about at h
  split at h
  · rename_i r0 a1
    obtain ⟨h1, h5⟩ := eBif h
    clear h
    have h1 := Nat.eq_of_beq_eq_true h1
    subst h1
    obtain ⟨q, h2, h3⟩ := Option.bind_eq_some_iff.mp h5
    have hK : K_mm_about [.ref 24, .int a1] (eSM w) (fun v w => some (v, w)) = some (some (.int q.1), q.2) := by
      show (f_mm_about a1 (eSM w)).bind (fun p => some (some (Value.int p.1), p.2)) = _
      rw [h2]
      rfl
    obtain ⟨v, w2, e1, hM⟩ := ok_mm_about (l := l) (ad := fun i => ad (phM i)) (D := D) (cA := cA) _ _ _ _ hK
    cases e1
    exact ⟨_, _, h3, eLiftM (xs := xs) hM (fun a h => by cases h)⟩
  · cases h
noncomputable def KL_xx_holder {ρ : Type} : eF ρ := fun as w k => match as with
  | [.ref r0, .int a1, .int a2] => bif Nat.beq r0 38 then (f_xx_holder a1 a2 w).bind (fun p => k (some (.int p.1)) (eMgC p.2 w)) else none
  | _ => none
set_option maxRecDepth 100000 in
set_option maxHeartbeats 4000000 in
theorem okL_xx_holder {l : Launch} {ad : Nat → Nat} {D : va_G} {cA : Nat → ClassId} {xs : List Int32} {ρ : Type} (as : List Value) (w : eW) (k : Option Value → eW → Option ρ) (x : ρ) (h : KL_xx_holder as w k = some x) : ∃ (v : Option Value) (w2 : eW), k v w2 = some x ∧ eMet l ad D cA vwCl SHl (SSl xs) yX11_holder (eWd yX11_holder cX11_holder 5 (some .int)) { frames := 2, cells := 0, slots := 0, locals := 43 } as w v w2 := by
  unfold KL_xx_holder at h
  split at h
  · rename_i r0 a1 a2
    obtain ⟨h1, h5⟩ := eBif h
    clear h
    have h1 := Nat.eq_of_beq_eq_true h1
    subst h1
    obtain ⟨q, h2, h3⟩ := Option.bind_eq_some_iff.mp h5
    have hK : K_xx_holder [.ref 38, .int a1, .int a2] w (fun v w => some (v, w)) = some (some (.int q.1), q.2) := by
      show (f_xx_holder a1 a2 w).bind (fun p => some (some (Value.int p.1), p.2)) = _
      rw [h2]
      rfl
    obtain ⟨v, w2, e1, hM⟩ := ok_xx_holder (l := l) (ad := fun i => ad (phC i)) (D := D) (cA := cA) _ _ _ _ hK
    cases e1
    exact ⟨_, _, h3, eLiftC (xs := xs) hM (fun a h => by cases h)⟩
  · cases h
noncomputable def KL_mm_holder {ρ : Type} : eF ρ := fun as w k => match as with
  | [.ref r0, .int a1, .int a2] => bif Nat.beq r0 63 then (f_mm_holder a1 a2 (eSM w)).bind (fun p => k (some (.int p.1)) (eMgM p.2 w)) else none
  | _ => none
set_option maxRecDepth 100000 in
set_option maxHeartbeats 4000000 in
theorem okL_mm_holder {l : Launch} {ad : Nat → Nat} {D : va_G} {cA : Nat → ClassId} {xs : List Int32} {ρ : Type} (as : List Value) (w : eW) (k : Option Value → eW → Option ρ) (x : ρ) (h : KL_mm_holder as w k = some x) : ∃ (v : Option Value) (w2 : eW), k v w2 = some x ∧ eMet l ad D cA vwCl SHl (SSl xs) yX12_holder (eWd yX12_holder cX12_holder 3 (some .int)) { frames := 2, cells := 0, slots := 0, locals := 43 } as w v w2 := by
  unfold KL_mm_holder at h
  split at h
  · rename_i r0 a1 a2
    obtain ⟨h1, h5⟩ := eBif h
    clear h
    have h1 := Nat.eq_of_beq_eq_true h1
    subst h1
    obtain ⟨q, h2, h3⟩ := Option.bind_eq_some_iff.mp h5
    have hK : K_mm_holder [.ref 24, .int a1, .int a2] (eSM w) (fun v w => some (v, w)) = some (some (.int q.1), q.2) := by
      show (f_mm_holder a1 a2 (eSM w)).bind (fun p => some (some (Value.int p.1), p.2)) = _
      rw [h2]
      rfl
    obtain ⟨v, w2, e1, hM⟩ := ok_mm_holder (l := l) (ad := fun i => ad (phM i)) (D := D) (cA := cA) _ _ _ _ hK
    cases e1
    exact ⟨_, _, h3, eLiftM (xs := xs) hM (fun a h => by cases h)⟩
  · cases h
noncomputable def KL_xx_has {ρ : Type} : eF ρ := fun as w k => match as with
  | [.ref r0, .int a1, .int a2, .int a3] => bif Nat.beq r0 38 then (f_xx_has a1 a2 a3 w).bind (fun p => k (some (.long p.1)) (eMgC p.2 w)) else none
  | _ => none
set_option maxRecDepth 100000 in
set_option maxHeartbeats 4000000 in
theorem okL_xx_has {l : Launch} {ad : Nat → Nat} {D : va_G} {cA : Nat → ClassId} {xs : List Int32} {ρ : Type} (as : List Value) (w : eW) (k : Option Value → eW → Option ρ) (x : ρ) (h : KL_xx_has as w k = some x) : ∃ (v : Option Value) (w2 : eW), k v w2 = some x ∧ eMet l ad D cA vwCl SHl (SSl xs) yX11_has (eWd yX11_has cX11_has 4 (some .long)) { frames := 5, cells := 0, slots := 0, locals := 159 } as w v w2 := by
  unfold KL_xx_has at h
  split at h
  · rename_i r0 a1 a2 a3
    obtain ⟨h1, h5⟩ := eBif h
    clear h
    have h1 := Nat.eq_of_beq_eq_true h1
    subst h1
    obtain ⟨q, h2, h3⟩ := Option.bind_eq_some_iff.mp h5
    have hK : K_xx_has [.ref 38, .int a1, .int a2, .int a3] w (fun v w => some (v, w)) = some (some (.long q.1), q.2) := by
      show (f_xx_has a1 a2 a3 w).bind (fun p => some (some (Value.long p.1), p.2)) = _
      rw [h2]
      rfl
    obtain ⟨v, w2, e1, hM⟩ := ok_xx_has (l := l) (ad := fun i => ad (phC i)) (D := D) (cA := cA) _ _ _ _ hK
    cases e1
    exact ⟨_, _, h3, eLiftC (xs := xs) hM (fun a h => by cases h)⟩
  · cases h
noncomputable def KL_mm_has {ρ : Type} : eF ρ := fun as w k => match as with
  | [.ref r0, .int a1, .int a2, .int a3] => bif Nat.beq r0 63 then (f_mm_has a1 a2 a3 (eSM w)).bind (fun p => k (some (.long p.1)) (eMgM p.2 w)) else none
  | _ => none
set_option maxRecDepth 100000 in
set_option maxHeartbeats 4000000 in
theorem okL_mm_has {l : Launch} {ad : Nat → Nat} {D : va_G} {cA : Nat → ClassId} {xs : List Int32} {ρ : Type} (as : List Value) (w : eW) (k : Option Value → eW → Option ρ) (x : ρ) (h : KL_mm_has as w k = some x) : ∃ (v : Option Value) (w2 : eW), k v w2 = some x ∧ eMet l ad D cA vwCl SHl (SSl xs) yX12_has (eWd yX12_has cX12_has 4 (some .long)) { frames := 10, cells := 0, slots := 0, locals := 230 } as w v w2 := by
  unfold KL_mm_has at h
  split at h
  · rename_i r0 a1 a2 a3
    obtain ⟨h1, h5⟩ := eBif h
    clear h
    have h1 := Nat.eq_of_beq_eq_true h1
    subst h1
    obtain ⟨q, h2, h3⟩ := Option.bind_eq_some_iff.mp h5
    have hK : K_mm_has [.ref 24, .int a1, .int a2, .int a3] (eSM w) (fun v w => some (v, w)) = some (some (.long q.1), q.2) := by
      show (f_mm_has a1 a2 a3 (eSM w)).bind (fun p => some (some (Value.long p.1), p.2)) = _
      rw [h2]
      rfl
    obtain ⟨v, w2, e1, hM⟩ := ok_mm_has (l := l) (ad := fun i => ad (phM i)) (D := D) (cA := cA) _ _ _ _ hK
    cases e1
    exact ⟨_, _, h3, eLiftM (xs := xs) hM (fun a h => by cases h)⟩
  · cases h
noncomputable def KL_xx_state {ρ : Type} : eF ρ := fun as w k => match as with
  | [.ref r0, .int a1, .int a2] => bif Nat.beq r0 38 then (f_xx_state a1 a2 w).bind (fun p => k (some (.int p.1)) (eMgC p.2 w)) else none
  | _ => none
set_option maxRecDepth 100000 in
set_option maxHeartbeats 4000000 in
theorem okL_xx_state {l : Launch} {ad : Nat → Nat} {D : va_G} {cA : Nat → ClassId} {xs : List Int32} {ρ : Type} (as : List Value) (w : eW) (k : Option Value → eW → Option ρ) (x : ρ) (h : KL_xx_state as w k = some x) : ∃ (v : Option Value) (w2 : eW), k v w2 = some x ∧ eMet l ad D cA vwCl SHl (SSl xs) yX11_state (eWd yX11_state cX11_state 3 (some .int)) { frames := 5, cells := 0, slots := 0, locals := 159 } as w v w2 := by
  unfold KL_xx_state at h
  split at h
  · rename_i r0 a1 a2
    obtain ⟨h1, h5⟩ := eBif h
    clear h
    have h1 := Nat.eq_of_beq_eq_true h1
    subst h1
    obtain ⟨q, h2, h3⟩ := Option.bind_eq_some_iff.mp h5
    have hK : K_xx_state [.ref 38, .int a1, .int a2] w (fun v w => some (v, w)) = some (some (.int q.1), q.2) := by
      show (f_xx_state a1 a2 w).bind (fun p => some (some (Value.int p.1), p.2)) = _
      rw [h2]
      rfl
    obtain ⟨v, w2, e1, hM⟩ := ok_xx_state (l := l) (ad := fun i => ad (phC i)) (D := D) (cA := cA) _ _ _ _ hK
    cases e1
    exact ⟨_, _, h3, eLiftC (xs := xs) hM (fun a h => by cases h)⟩
  · cases h
noncomputable def KL_mm_state {ρ : Type} : eF ρ := fun as w k => match as with
  | [.ref r0, .int a1, .int a2] => bif Nat.beq r0 63 then (f_mm_state a1 a2 (eSM w)).bind (fun p => k (some (.int p.1)) (eMgM p.2 w)) else none
  | _ => none
set_option maxRecDepth 100000 in
set_option maxHeartbeats 4000000 in
theorem okL_mm_state {l : Launch} {ad : Nat → Nat} {D : va_G} {cA : Nat → ClassId} {xs : List Int32} {ρ : Type} (as : List Value) (w : eW) (k : Option Value → eW → Option ρ) (x : ρ) (h : KL_mm_state as w k = some x) : ∃ (v : Option Value) (w2 : eW), k v w2 = some x ∧ eMet l ad D cA vwCl SHl (SSl xs) yX12_state (eWd yX12_state cX12_state 3 (some .int)) { frames := 10, cells := 0, slots := 0, locals := 230 } as w v w2 := by
  unfold KL_mm_state at h
  split at h
  · rename_i r0 a1 a2
    obtain ⟨h1, h5⟩ := eBif h
    clear h
    have h1 := Nat.eq_of_beq_eq_true h1
    subst h1
    obtain ⟨q, h2, h3⟩ := Option.bind_eq_some_iff.mp h5
    have hK : K_mm_state [.ref 24, .int a1, .int a2] (eSM w) (fun v w => some (v, w)) = some (some (.int q.1), q.2) := by
      show (f_mm_state a1 a2 (eSM w)).bind (fun p => some (some (Value.int p.1), p.2)) = _
      rw [h2]
      rfl
    obtain ⟨v, w2, e1, hM⟩ := ok_mm_state (l := l) (ad := fun i => ad (phM i)) (D := D) (cA := cA) _ _ _ _ hK
    cases e1
    exact ⟨_, _, h3, eLiftM (xs := xs) hM (fun a h => by cases h)⟩
  · cases h
noncomputable def KL_xx_paid {ρ : Type} : eF ρ := fun as w k => match as with
  | [.ref r0, .int a1, .int a2] => bif Nat.beq r0 38 then (f_xx_paid a1 a2 w).bind (fun p => k (some (.int p.1)) (eMgC p.2 w)) else none
  | _ => none
set_option maxRecDepth 100000 in
set_option maxHeartbeats 4000000 in
theorem okL_xx_paid {l : Launch} {ad : Nat → Nat} {D : va_G} {cA : Nat → ClassId} {xs : List Int32} {ρ : Type} (as : List Value) (w : eW) (k : Option Value → eW → Option ρ) (x : ρ) (h : KL_xx_paid as w k = some x) : ∃ (v : Option Value) (w2 : eW), k v w2 = some x ∧ eMet l ad D cA vwCl SHl (SSl xs) yX11_paid (eWd yX11_paid cX11_paid 3 (some .int)) { frames := 6, cells := 0, slots := 0, locals := 181 } as w v w2 := by
  unfold KL_xx_paid at h
  split at h
  · rename_i r0 a1 a2
    obtain ⟨h1, h5⟩ := eBif h
    clear h
    have h1 := Nat.eq_of_beq_eq_true h1
    subst h1
    obtain ⟨q, h2, h3⟩ := Option.bind_eq_some_iff.mp h5
    have hK : K_xx_paid [.ref 38, .int a1, .int a2] w (fun v w => some (v, w)) = some (some (.int q.1), q.2) := by
      show (f_xx_paid a1 a2 w).bind (fun p => some (some (Value.int p.1), p.2)) = _
      rw [h2]
      rfl
    obtain ⟨v, w2, e1, hM⟩ := ok_xx_paid (l := l) (ad := fun i => ad (phC i)) (D := D) (cA := cA) _ _ _ _ hK
    cases e1
    exact ⟨_, _, h3, eLiftC (xs := xs) hM (fun a h => by cases h)⟩
  · cases h
noncomputable def KL_mm_paid {ρ : Type} : eF ρ := fun as w k => match as with
  | [.ref r0, .int a1, .int a2] => bif Nat.beq r0 63 then (f_mm_paid a1 a2 (eSM w)).bind (fun p => k (some (.int p.1)) (eMgM p.2 w)) else none
  | _ => none
set_option maxRecDepth 100000 in
set_option maxHeartbeats 4000000 in
theorem okL_mm_paid {l : Launch} {ad : Nat → Nat} {D : va_G} {cA : Nat → ClassId} {xs : List Int32} {ρ : Type} (as : List Value) (w : eW) (k : Option Value → eW → Option ρ) (x : ρ) (h : KL_mm_paid as w k = some x) : ∃ (v : Option Value) (w2 : eW), k v w2 = some x ∧ eMet l ad D cA vwCl SHl (SSl xs) yX12_paid (eWd yX12_paid cX12_paid 3 (some .int)) { frames := 12, cells := 0, slots := 0, locals := 278 } as w v w2 := by
  unfold KL_mm_paid at h
  split at h
  · rename_i r0 a1 a2
    obtain ⟨h1, h5⟩ := eBif h
    clear h
    have h1 := Nat.eq_of_beq_eq_true h1
    subst h1
    obtain ⟨q, h2, h3⟩ := Option.bind_eq_some_iff.mp h5
    have hK : K_mm_paid [.ref 24, .int a1, .int a2] (eSM w) (fun v w => some (v, w)) = some (some (.int q.1), q.2) := by
      show (f_mm_paid a1 a2 (eSM w)).bind (fun p => some (some (Value.int p.1), p.2)) = _
      rw [h2]
      rfl
    obtain ⟨v, w2, e1, hM⟩ := ok_mm_paid (l := l) (ad := fun i => ad (phM i)) (D := D) (cA := cA) _ _ _ _ hK
    cases e1
    exact ⟨_, _, h3, eLiftM (xs := xs) hM (fun a h => by cases h)⟩
  · cases h
noncomputable def KL_xx_level {ρ : Type} : eF ρ := fun as w k => match as with
  | [.ref r0, .int a1, .int a2] => bif Nat.beq r0 38 then (f_xx_level a1 a2 w).bind (fun p => k (some (.long p.1)) (eMgC p.2 w)) else none
  | _ => none
set_option maxRecDepth 100000 in
set_option maxHeartbeats 4000000 in
theorem okL_xx_level {l : Launch} {ad : Nat → Nat} {D : va_G} {cA : Nat → ClassId} {xs : List Int32} {ρ : Type} (as : List Value) (w : eW) (k : Option Value → eW → Option ρ) (x : ρ) (h : KL_xx_level as w k = some x) : ∃ (v : Option Value) (w2 : eW), k v w2 = some x ∧ eMet l ad D cA vwCl SHl (SSl xs) yX11_level (eWd yX11_level cX11_level 3 (some .long)) { frames := 5, cells := 0, slots := 0, locals := 159 } as w v w2 := by
  unfold KL_xx_level at h
  split at h
  · rename_i r0 a1 a2
    obtain ⟨h1, h5⟩ := eBif h
    clear h
    have h1 := Nat.eq_of_beq_eq_true h1
    subst h1
    obtain ⟨q, h2, h3⟩ := Option.bind_eq_some_iff.mp h5
    have hK : K_xx_level [.ref 38, .int a1, .int a2] w (fun v w => some (v, w)) = some (some (.long q.1), q.2) := by
      show (f_xx_level a1 a2 w).bind (fun p => some (some (Value.long p.1), p.2)) = _
      rw [h2]
      rfl
    obtain ⟨v, w2, e1, hM⟩ := ok_xx_level (l := l) (ad := fun i => ad (phC i)) (D := D) (cA := cA) _ _ _ _ hK
    cases e1
    exact ⟨_, _, h3, eLiftC (xs := xs) hM (fun a h => by cases h)⟩
  · cases h
noncomputable def KL_mm_level {ρ : Type} : eF ρ := fun as w k => match as with
  | [.ref r0, .int a1, .int a2] => bif Nat.beq r0 63 then (f_mm_level a1 a2 (eSM w)).bind (fun p => k (some (.long p.1)) (eMgM p.2 w)) else none
  | _ => none
set_option maxRecDepth 100000 in
set_option maxHeartbeats 4000000 in
theorem okL_mm_level {l : Launch} {ad : Nat → Nat} {D : va_G} {cA : Nat → ClassId} {xs : List Int32} {ρ : Type} (as : List Value) (w : eW) (k : Option Value → eW → Option ρ) (x : ρ) (h : KL_mm_level as w k = some x) : ∃ (v : Option Value) (w2 : eW), k v w2 = some x ∧ eMet l ad D cA vwCl SHl (SSl xs) yX12_level (eWd yX12_level cX12_level 3 (some .long)) { frames := 10, cells := 0, slots := 0, locals := 230 } as w v w2 := by
  unfold KL_mm_level at h
  split at h
  · rename_i r0 a1 a2
    obtain ⟨h1, h5⟩ := eBif h
    clear h
    have h1 := Nat.eq_of_beq_eq_true h1
    subst h1
    obtain ⟨q, h2, h3⟩ := Option.bind_eq_some_iff.mp h5
    have hK : K_mm_level [.ref 24, .int a1, .int a2] (eSM w) (fun v w => some (v, w)) = some (some (.long q.1), q.2) := by
      show (f_mm_level a1 a2 (eSM w)).bind (fun p => some (some (Value.long p.1), p.2)) = _
      rw [h2]
      rfl
    obtain ⟨v, w2, e1, hM⟩ := ok_mm_level (l := l) (ad := fun i => ad (phM i)) (D := D) (cA := cA) _ _ _ _ hK
    cases e1
    exact ⟨_, _, h3, eLiftM (xs := xs) hM (fun a h => by cases h)⟩
  · cases h
noncomputable def KL_xx_least {ρ : Type} : eF ρ := fun as w k => match as with
  | [.ref r0, .int a1, .int a2] => bif Nat.beq r0 38 then (f_xx_least a1 a2 w).bind (fun p => k (some (.int p.1)) (eMgC p.2 w)) else none
  | _ => none
set_option maxRecDepth 100000 in
set_option maxHeartbeats 4000000 in
theorem okL_xx_least {l : Launch} {ad : Nat → Nat} {D : va_G} {cA : Nat → ClassId} {xs : List Int32} {ρ : Type} (as : List Value) (w : eW) (k : Option Value → eW → Option ρ) (x : ρ) (h : KL_xx_least as w k = some x) : ∃ (v : Option Value) (w2 : eW), k v w2 = some x ∧ eMet l ad D cA vwCl SHl (SSl xs) yX11_least (eWd yX11_least cX11_least 4 (some .int)) { frames := 5, cells := 0, slots := 0, locals := 168 } as w v w2 := by
  unfold KL_xx_least at h
  split at h
  · rename_i r0 a1 a2
    obtain ⟨h1, h5⟩ := eBif h
    clear h
    have h1 := Nat.eq_of_beq_eq_true h1
    subst h1
    obtain ⟨q, h2, h3⟩ := Option.bind_eq_some_iff.mp h5
    have hK : K_xx_least [.ref 38, .int a1, .int a2] w (fun v w => some (v, w)) = some (some (.int q.1), q.2) := by
      show (f_xx_least a1 a2 w).bind (fun p => some (some (Value.int p.1), p.2)) = _
      rw [h2]
      rfl
    obtain ⟨v, w2, e1, hM⟩ := ok_xx_least (l := l) (ad := fun i => ad (phC i)) (D := D) (cA := cA) _ _ _ _ hK
    cases e1
    exact ⟨_, _, h3, eLiftC (xs := xs) hM (fun a h => by cases h)⟩
  · cases h
noncomputable def KL_mm_least {ρ : Type} : eF ρ := fun as w k => match as with
  | [.ref r0, .int a1, .int a2] => bif Nat.beq r0 63 then (f_mm_least a1 a2 (eSM w)).bind (fun p => k (some (.int p.1)) (eMgM p.2 w)) else none
  | _ => none
set_option maxRecDepth 100000 in
set_option maxHeartbeats 4000000 in
theorem okL_mm_least {l : Launch} {ad : Nat → Nat} {D : va_G} {cA : Nat → ClassId} {xs : List Int32} {ρ : Type} (as : List Value) (w : eW) (k : Option Value → eW → Option ρ) (x : ρ) (h : KL_mm_least as w k = some x) : ∃ (v : Option Value) (w2 : eW), k v w2 = some x ∧ eMet l ad D cA vwCl SHl (SSl xs) yX12_least (eWd yX12_least cX12_least 6 (some .int)) { frames := 11, cells := 0, slots := 0, locals := 253 } as w v w2 := by
  unfold KL_mm_least at h
  split at h
  · rename_i r0 a1 a2
    obtain ⟨h1, h5⟩ := eBif h
    clear h
    have h1 := Nat.eq_of_beq_eq_true h1
    subst h1
    obtain ⟨q, h2, h3⟩ := Option.bind_eq_some_iff.mp h5
    have hK : K_mm_least [.ref 24, .int a1, .int a2] (eSM w) (fun v w => some (v, w)) = some (some (.int q.1), q.2) := by
      show (f_mm_least a1 a2 (eSM w)).bind (fun p => some (some (Value.int p.1), p.2)) = _
      rw [h2]
      rfl
    obtain ⟨v, w2, e1, hM⟩ := ok_mm_least (l := l) (ad := fun i => ad (phM i)) (D := D) (cA := cA) _ _ _ _ hK
    cases e1
    exact ⟨_, _, h3, eLiftM (xs := xs) hM (fun a h => by cases h)⟩
  · cases h
noncomputable def KL_xx_flat {ρ : Type} : eF ρ := fun as w k => match as with
  | [.ref r0, .int a1, .int a2, .int a3] => bif Nat.beq r0 38 then (f_xx_flat a1 a2 a3 w).bind (fun p => k (some (.int p.1)) (eMgC p.2 w)) else none
  | _ => none
set_option maxRecDepth 100000 in
set_option maxHeartbeats 4000000 in
theorem okL_xx_flat {l : Launch} {ad : Nat → Nat} {D : va_G} {cA : Nat → ClassId} {xs : List Int32} {ρ : Type} (as : List Value) (w : eW) (k : Option Value → eW → Option ρ) (x : ρ) (h : KL_xx_flat as w k = some x) : ∃ (v : Option Value) (w2 : eW), k v w2 = some x ∧ eMet l ad D cA vwCl SHl (SSl xs) yX11_flat (eWd yX11_flat cX11_flat 8 (some .int)) { frames := 5, cells := 0, slots := 0, locals := 168 } as w v w2 := by
  unfold KL_xx_flat at h
  split at h
  · rename_i r0 a1 a2 a3
    obtain ⟨h1, h5⟩ := eBif h
    clear h
    have h1 := Nat.eq_of_beq_eq_true h1
    subst h1
    obtain ⟨q, h2, h3⟩ := Option.bind_eq_some_iff.mp h5
    have hK : K_xx_flat [.ref 38, .int a1, .int a2, .int a3] w (fun v w => some (v, w)) = some (some (.int q.1), q.2) := by
      show (f_xx_flat a1 a2 a3 w).bind (fun p => some (some (Value.int p.1), p.2)) = _
      rw [h2]
      rfl
    obtain ⟨v, w2, e1, hM⟩ := ok_xx_flat (l := l) (ad := fun i => ad (phC i)) (D := D) (cA := cA) _ _ _ _ hK
    cases e1
    exact ⟨_, _, h3, eLiftC (xs := xs) hM (fun a h => by cases h)⟩
  · cases h
noncomputable def KL_mm_flat {ρ : Type} : eF ρ := fun as w k => match as with
  | [.ref r0, .int a1, .int a2, .int a3] => bif Nat.beq r0 63 then (f_mm_flat a1 a2 a3 (eSM w)).bind (fun p => k (some (.int p.1)) (eMgM p.2 w)) else none
  | _ => none
set_option maxRecDepth 100000 in
set_option maxHeartbeats 4000000 in
theorem okL_mm_flat {l : Launch} {ad : Nat → Nat} {D : va_G} {cA : Nat → ClassId} {xs : List Int32} {ρ : Type} (as : List Value) (w : eW) (k : Option Value → eW → Option ρ) (x : ρ) (h : KL_mm_flat as w k = some x) : ∃ (v : Option Value) (w2 : eW), k v w2 = some x ∧ eMet l ad D cA vwCl SHl (SSl xs) yX12_flat (eWd yX12_flat cX12_flat 7 (some .int)) { frames := 11, cells := 0, slots := 0, locals := 252 } as w v w2 := by
  unfold KL_mm_flat at h
  split at h
  · rename_i r0 a1 a2 a3
    obtain ⟨h1, h5⟩ := eBif h
    clear h
    have h1 := Nat.eq_of_beq_eq_true h1
    subst h1
    obtain ⟨q, h2, h3⟩ := Option.bind_eq_some_iff.mp h5
    have hK : K_mm_flat [.ref 24, .int a1, .int a2, .int a3] (eSM w) (fun v w => some (v, w)) = some (some (.int q.1), q.2) := by
      show (f_mm_flat a1 a2 a3 (eSM w)).bind (fun p => some (some (Value.int p.1), p.2)) = _
      rw [h2]
      rfl
    obtain ⟨v, w2, e1, hM⟩ := ok_mm_flat (l := l) (ad := fun i => ad (phM i)) (D := D) (cA := cA) _ _ _ _ hK
    cases e1
    exact ⟨_, _, h3, eLiftM (xs := xs) hM (fun a h => by cases h)⟩
  · cases h
noncomputable def KL_xx_unpaid {ρ : Type} : eF ρ := fun as w k => match as with
  | [.ref r0, .int a1] => bif Nat.beq r0 38 then (f_xx_unpaid a1 w).bind (fun p => k (some (.int p.1)) (eMgC p.2 w)) else none
  | _ => none
set_option maxRecDepth 100000 in
set_option maxHeartbeats 4000000 in
theorem okL_xx_unpaid {l : Launch} {ad : Nat → Nat} {D : va_G} {cA : Nat → ClassId} {xs : List Int32} {ρ : Type} (as : List Value) (w : eW) (k : Option Value → eW → Option ρ) (x : ρ) (h : KL_xx_unpaid as w k = some x) : ∃ (v : Option Value) (w2 : eW), k v w2 = some x ∧ eMet l ad D cA vwCl SHl (SSl xs) yX11_unpaid (eWd yX11_unpaid cX11_unpaid 3 (some .int)) { frames := 4, cells := 0, slots := 0, locals := 138 } as w v w2 := by
  unfold KL_xx_unpaid at h
  split at h
  · rename_i r0 a1
    obtain ⟨h1, h5⟩ := eBif h
    clear h
    have h1 := Nat.eq_of_beq_eq_true h1
    subst h1
    obtain ⟨q, h2, h3⟩ := Option.bind_eq_some_iff.mp h5
    have hK : K_xx_unpaid [.ref 38, .int a1] w (fun v w => some (v, w)) = some (some (.int q.1), q.2) := by
      show (f_xx_unpaid a1 w).bind (fun p => some (some (Value.int p.1), p.2)) = _
      rw [h2]
      rfl
    obtain ⟨v, w2, e1, hM⟩ := ok_xx_unpaid (l := l) (ad := fun i => ad (phC i)) (D := D) (cA := cA) _ _ _ _ hK
    cases e1
    exact ⟨_, _, h3, eLiftC (xs := xs) hM (fun a h => by cases h)⟩
  · cases h
noncomputable def KL_mm_unpaid {ρ : Type} : eF ρ := fun as w k => match as with
  | [.ref r0, .int a1] => bif Nat.beq r0 63 then (f_mm_unpaid a1 (eSM w)).bind (fun p => k (some (.int p.1)) (eMgM p.2 w)) else none
  | _ => none
set_option maxRecDepth 100000 in
set_option maxHeartbeats 4000000 in
theorem okL_mm_unpaid {l : Launch} {ad : Nat → Nat} {D : va_G} {cA : Nat → ClassId} {xs : List Int32} {ρ : Type} (as : List Value) (w : eW) (k : Option Value → eW → Option ρ) (x : ρ) (h : KL_mm_unpaid as w k = some x) : ∃ (v : Option Value) (w2 : eW), k v w2 = some x ∧ eMet l ad D cA vwCl SHl (SSl xs) yX12_unpaid (eWd yX12_unpaid cX12_unpaid 5 (some .int)) { frames := 7, cells := 0, slots := 0, locals := 151 } as w v w2 := by
  unfold KL_mm_unpaid at h
  split at h
  · rename_i r0 a1
    obtain ⟨h1, h5⟩ := eBif h
    clear h
    have h1 := Nat.eq_of_beq_eq_true h1
    subst h1
    obtain ⟨q, h2, h3⟩ := Option.bind_eq_some_iff.mp h5
    have hK : K_mm_unpaid [.ref 24, .int a1] (eSM w) (fun v w => some (v, w)) = some (some (.int q.1), q.2) := by
      show (f_mm_unpaid a1 (eSM w)).bind (fun p => some (some (Value.int p.1), p.2)) = _
      rw [h2]
      rfl
    obtain ⟨v, w2, e1, hM⟩ := ok_mm_unpaid (l := l) (ad := fun i => ad (phM i)) (D := D) (cA := cA) _ _ _ _ hK
    cases e1
    exact ⟨_, _, h3, eLiftM (xs := xs) hM (fun a h => by cases h)⟩
  · cases h
noncomputable def KL_xx_wants {ρ : Type} : eF ρ := fun as w k => match as with
  | [.ref r0, .int a1, .int a2, .int a3] => bif Nat.beq r0 38 then (f_xx_wants a1 a2 a3 w).bind (fun p => k (some (.int p.1)) (eMgC p.2 w)) else none
  | _ => none
set_option maxRecDepth 100000 in
set_option maxHeartbeats 4000000 in
theorem okL_xx_wants {l : Launch} {ad : Nat → Nat} {D : va_G} {cA : Nat → ClassId} {xs : List Int32} {ρ : Type} (as : List Value) (w : eW) (k : Option Value → eW → Option ρ) (x : ρ) (h : KL_xx_wants as w k = some x) : ∃ (v : Option Value) (w2 : eW), k v w2 = some x ∧ eMet l ad D cA vwCl SHl (SSl xs) yX11_wants (eWd yX11_wants cX11_wants 9 (some .int)) { frames := 5, cells := 0, slots := 0, locals := 159 } as w v w2 := by
  unfold KL_xx_wants at h
  split at h
  · rename_i r0 a1 a2 a3
    obtain ⟨h1, h5⟩ := eBif h
    clear h
    have h1 := Nat.eq_of_beq_eq_true h1
    subst h1
    obtain ⟨q, h2, h3⟩ := Option.bind_eq_some_iff.mp h5
    have hK : K_xx_wants [.ref 38, .int a1, .int a2, .int a3] w (fun v w => some (v, w)) = some (some (.int q.1), q.2) := by
      show (f_xx_wants a1 a2 a3 w).bind (fun p => some (some (Value.int p.1), p.2)) = _
      rw [h2]
      rfl
    obtain ⟨v, w2, e1, hM⟩ := ok_xx_wants (l := l) (ad := fun i => ad (phC i)) (D := D) (cA := cA) _ _ _ _ hK
    cases e1
    exact ⟨_, _, h3, eLiftC (xs := xs) hM (fun a h => by cases h)⟩
  · cases h
noncomputable def KL_mm_wants {ρ : Type} : eF ρ := fun as w k => match as with
  | [.ref r0, .int a1, .int a2, .int a3] => bif Nat.beq r0 63 then (f_mm_wants a1 a2 a3 (eSM w)).bind (fun p => k (some (.int p.1)) (eMgM p.2 w)) else none
  | _ => none
set_option maxRecDepth 100000 in
set_option maxHeartbeats 4000000 in
theorem okL_mm_wants {l : Launch} {ad : Nat → Nat} {D : va_G} {cA : Nat → ClassId} {xs : List Int32} {ρ : Type} (as : List Value) (w : eW) (k : Option Value → eW → Option ρ) (x : ρ) (h : KL_mm_wants as w k = some x) : ∃ (v : Option Value) (w2 : eW), k v w2 = some x ∧ eMet l ad D cA vwCl SHl (SSl xs) yX12_wants (eWd yX12_wants cX12_wants 7 (some .int)) { frames := 11, cells := 0, slots := 0, locals := 253 } as w v w2 := by
  unfold KL_mm_wants at h
  split at h
  · rename_i r0 a1 a2 a3
    obtain ⟨h1, h5⟩ := eBif h
    clear h
    have h1 := Nat.eq_of_beq_eq_true h1
    subst h1
    obtain ⟨q, h2, h3⟩ := Option.bind_eq_some_iff.mp h5
    have hK : K_mm_wants [.ref 24, .int a1, .int a2, .int a3] (eSM w) (fun v w => some (v, w)) = some (some (.int q.1), q.2) := by
      show (f_mm_wants a1 a2 a3 (eSM w)).bind (fun p => some (some (Value.int p.1), p.2)) = _
      rw [h2]
      rfl
    obtain ⟨v, w2, e1, hM⟩ := ok_mm_wants (l := l) (ad := fun i => ad (phM i)) (D := D) (cA := cA) _ _ _ _ hK
    cases e1
    exact ⟨_, _, h3, eLiftM (xs := xs) hM (fun a h => by cases h)⟩
  · cases h
noncomputable def KL_xx_dilutes {ρ : Type} : eF ρ := fun as w k => match as with
  | [.ref r0, .int a1, .int a2, .int a3, .int a4] => bif Nat.beq r0 38 then (f_xx_dilutes a1 a2 a3 a4 w).bind (fun p => k (some (.int p.1)) (eMgC p.2 w)) else none
  | _ => none
set_option maxRecDepth 100000 in
set_option maxHeartbeats 4000000 in
theorem okL_xx_dilutes {l : Launch} {ad : Nat → Nat} {D : va_G} {cA : Nat → ClassId} {xs : List Int32} {ρ : Type} (as : List Value) (w : eW) (k : Option Value → eW → Option ρ) (x : ρ) (h : KL_xx_dilutes as w k = some x) : ∃ (v : Option Value) (w2 : eW), k v w2 = some x ∧ eMet l ad D cA vwCl SHl (SSl xs) yX11_dilutes (eWd yX11_dilutes cX11_dilutes 8 (some .int)) { frames := 6, cells := 0, slots := 0, locals := 181 } as w v w2 := by
  unfold KL_xx_dilutes at h
  split at h
  · rename_i r0 a1 a2 a3 a4
    obtain ⟨h1, h5⟩ := eBif h
    clear h
    have h1 := Nat.eq_of_beq_eq_true h1
    subst h1
    obtain ⟨q, h2, h3⟩ := Option.bind_eq_some_iff.mp h5
    have hK : K_xx_dilutes [.ref 38, .int a1, .int a2, .int a3, .int a4] w (fun v w => some (v, w)) = some (some (.int q.1), q.2) := by
      show (f_xx_dilutes a1 a2 a3 a4 w).bind (fun p => some (some (Value.int p.1), p.2)) = _
      rw [h2]
      rfl
    obtain ⟨v, w2, e1, hM⟩ := ok_xx_dilutes (l := l) (ad := fun i => ad (phC i)) (D := D) (cA := cA) _ _ _ _ hK
    cases e1
    exact ⟨_, _, h3, eLiftC (xs := xs) hM (fun a h => by cases h)⟩
  · cases h
noncomputable def KL_mm_dilutes {ρ : Type} : eF ρ := fun as w k => match as with
  | [.ref r0, .int a1, .int a2, .int a3, .int a4] => bif Nat.beq r0 63 then (f_mm_dilutes a1 a2 a3 a4 (eSM w)).bind (fun p => k (some (.int p.1)) (eMgM p.2 w)) else none
  | _ => none
set_option maxRecDepth 100000 in
set_option maxHeartbeats 4000000 in
theorem okL_mm_dilutes {l : Launch} {ad : Nat → Nat} {D : va_G} {cA : Nat → ClassId} {xs : List Int32} {ρ : Type} (as : List Value) (w : eW) (k : Option Value → eW → Option ρ) (x : ρ) (h : KL_mm_dilutes as w k = some x) : ∃ (v : Option Value) (w2 : eW), k v w2 = some x ∧ eMet l ad D cA vwCl SHl (SSl xs) yX12_dilutes (eWd yX12_dilutes cX12_dilutes 7 (some .int)) { frames := 12, cells := 0, slots := 0, locals := 278 } as w v w2 := by
  unfold KL_mm_dilutes at h
  split at h
  · rename_i r0 a1 a2 a3 a4
    obtain ⟨h1, h5⟩ := eBif h
    clear h
    have h1 := Nat.eq_of_beq_eq_true h1
    subst h1
    obtain ⟨q, h2, h3⟩ := Option.bind_eq_some_iff.mp h5
    have hK : K_mm_dilutes [.ref 24, .int a1, .int a2, .int a3, .int a4] (eSM w) (fun v w => some (v, w)) = some (some (.int q.1), q.2) := by
      show (f_mm_dilutes a1 a2 a3 a4 (eSM w)).bind (fun p => some (some (Value.int p.1), p.2)) = _
      rw [h2]
      rfl
    obtain ⟨v, w2, e1, hM⟩ := ok_mm_dilutes (l := l) (ad := fun i => ad (phM i)) (D := D) (cA := cA) _ _ _ _ hK
    cases e1
    exact ⟨_, _, h3, eLiftM (xs := xs) hM (fun a h => by cases h)⟩
  · cases h
noncomputable def KL_xx_prefers {ρ : Type} : eF ρ := fun as w k => match as with
  | [.ref r0, .int a1, .int a2] => bif Nat.beq r0 38 then (f_xx_prefers a1 a2 w).bind (fun p => k (some (.int p.1)) (eMgC p.2 w)) else none
  | _ => none
set_option maxRecDepth 100000 in
set_option maxHeartbeats 4000000 in
theorem okL_xx_prefers {l : Launch} {ad : Nat → Nat} {D : va_G} {cA : Nat → ClassId} {xs : List Int32} {ρ : Type} (as : List Value) (w : eW) (k : Option Value → eW → Option ρ) (x : ρ) (h : KL_xx_prefers as w k = some x) : ∃ (v : Option Value) (w2 : eW), k v w2 = some x ∧ eMet l ad D cA vwCl SHl (SSl xs) yX11_prefers (eWd yX11_prefers cX11_prefers 3 (some .int)) { frames := 6, cells := 0, slots := 0, locals := 183 } as w v w2 := by
  unfold KL_xx_prefers at h
  split at h
  · rename_i r0 a1 a2
    obtain ⟨h1, h5⟩ := eBif h
    clear h
    have h1 := Nat.eq_of_beq_eq_true h1
    subst h1
    obtain ⟨q, h2, h3⟩ := Option.bind_eq_some_iff.mp h5
    have hK : K_xx_prefers [.ref 38, .int a1, .int a2] w (fun v w => some (v, w)) = some (some (.int q.1), q.2) := by
      show (f_xx_prefers a1 a2 w).bind (fun p => some (some (Value.int p.1), p.2)) = _
      rw [h2]
      rfl
    obtain ⟨v, w2, e1, hM⟩ := ok_xx_prefers (l := l) (ad := fun i => ad (phC i)) (D := D) (cA := cA) _ _ _ _ hK
    cases e1
    exact ⟨_, _, h3, eLiftC (xs := xs) hM (fun a h => by cases h)⟩
  · cases h
noncomputable def KL_mm_prefers {ρ : Type} : eF ρ := fun as w k => match as with
  | [.ref r0, .int a1, .int a2] => bif Nat.beq r0 63 then (f_mm_prefers a1 a2 (eSM w)).bind (fun p => k (some (.int p.1)) (eMgM p.2 w)) else none
  | _ => none
set_option maxRecDepth 100000 in
set_option maxHeartbeats 4000000 in
theorem okL_mm_prefers {l : Launch} {ad : Nat → Nat} {D : va_G} {cA : Nat → ClassId} {xs : List Int32} {ρ : Type} (as : List Value) (w : eW) (k : Option Value → eW → Option ρ) (x : ρ) (h : KL_mm_prefers as w k = some x) : ∃ (v : Option Value) (w2 : eW), k v w2 = some x ∧ eMet l ad D cA vwCl SHl (SSl xs) yX12_prefers (eWd yX12_prefers cX12_prefers 3 (some .int)) { frames := 12, cells := 0, slots := 0, locals := 276 } as w v w2 := by
  unfold KL_mm_prefers at h
  split at h
  · rename_i r0 a1 a2
    obtain ⟨h1, h5⟩ := eBif h
    clear h
    have h1 := Nat.eq_of_beq_eq_true h1
    subst h1
    obtain ⟨q, h2, h3⟩ := Option.bind_eq_some_iff.mp h5
    have hK : K_mm_prefers [.ref 24, .int a1, .int a2] (eSM w) (fun v w => some (v, w)) = some (some (.int q.1), q.2) := by
      show (f_mm_prefers a1 a2 (eSM w)).bind (fun p => some (some (Value.int p.1), p.2)) = _
      rw [h2]
      rfl
    obtain ⟨v, w2, e1, hM⟩ := ok_mm_prefers (l := l) (ad := fun i => ad (phM i)) (D := D) (cA := cA) _ _ _ _ hK
    cases e1
    exact ⟨_, _, h3, eLiftM (xs := xs) hM (fun a h => by cases h)⟩
  · cases h
noncomputable def KL_xx_votes {ρ : Type} : eF ρ := fun as w k => match as with
  | [.ref r0, .int a1] => bif Nat.beq r0 38 then (f_xx_votes a1 w).bind (fun p => k (some (.int p.1)) (eMgC p.2 w)) else none
  | _ => none
set_option maxRecDepth 100000 in
set_option maxHeartbeats 4000000 in
theorem okL_xx_votes {l : Launch} {ad : Nat → Nat} {D : va_G} {cA : Nat → ClassId} {xs : List Int32} {ρ : Type} (as : List Value) (w : eW) (k : Option Value → eW → Option ρ) (x : ρ) (h : KL_xx_votes as w k = some x) : ∃ (v : Option Value) (w2 : eW), k v w2 = some x ∧ eMet l ad D cA vwCl SHl (SSl xs) yX11_votes (eWd yX11_votes cX11_votes 2 (some .int)) { frames := 3, cells := 0, slots := 0, locals := 66 } as w v w2 := by
  unfold KL_xx_votes at h
  split at h
  · rename_i r0 a1
    obtain ⟨h1, h5⟩ := eBif h
    clear h
    have h1 := Nat.eq_of_beq_eq_true h1
    subst h1
    obtain ⟨q, h2, h3⟩ := Option.bind_eq_some_iff.mp h5
    have hK : K_xx_votes [.ref 38, .int a1] w (fun v w => some (v, w)) = some (some (.int q.1), q.2) := by
      show (f_xx_votes a1 w).bind (fun p => some (some (Value.int p.1), p.2)) = _
      rw [h2]
      rfl
    obtain ⟨v, w2, e1, hM⟩ := ok_xx_votes (l := l) (ad := fun i => ad (phC i)) (D := D) (cA := cA) _ _ _ _ hK
    cases e1
    exact ⟨_, _, h3, eLiftC (xs := xs) hM (fun a h => by cases h)⟩
  · cases h
noncomputable def KL_mm_votes {ρ : Type} : eF ρ := fun as w k => match as with
  | [.ref r0, .int a1] => bif Nat.beq r0 63 then (f_mm_votes a1 (eSM w)).bind (fun p => k (some (.int p.1)) (eMgM p.2 w)) else none
  | _ => none
set_option maxRecDepth 100000 in
set_option maxHeartbeats 4000000 in
theorem okL_mm_votes {l : Launch} {ad : Nat → Nat} {D : va_G} {cA : Nat → ClassId} {xs : List Int32} {ρ : Type} (as : List Value) (w : eW) (k : Option Value → eW → Option ρ) (x : ρ) (h : KL_mm_votes as w k = some x) : ∃ (v : Option Value) (w2 : eW), k v w2 = some x ∧ eMet l ad D cA vwCl SHl (SSl xs) yX12_votes (eWd yX12_votes cX12_votes 2 (some .int)) { frames := 2, cells := 0, slots := 0, locals := 45 } as w v w2 := by
  unfold KL_mm_votes at h
  split at h
  · rename_i r0 a1
    obtain ⟨h1, h5⟩ := eBif h
    clear h
    have h1 := Nat.eq_of_beq_eq_true h1
    subst h1
    obtain ⟨q, h2, h3⟩ := Option.bind_eq_some_iff.mp h5
    have hK : K_mm_votes [.ref 24, .int a1] (eSM w) (fun v w => some (v, w)) = some (some (.int q.1), q.2) := by
      show (f_mm_votes a1 (eSM w)).bind (fun p => some (some (Value.int p.1), p.2)) = _
      rw [h2]
      rfl
    obtain ⟨v, w2, e1, hM⟩ := ok_mm_votes (l := l) (ad := fun i => ad (phM i)) (D := D) (cA := cA) _ _ _ _ hK
    cases e1
    exact ⟨_, _, h3, eLiftM (xs := xs) hM (fun a h => by cases h)⟩
  · cases h
noncomputable def KL_xx_passes {ρ : Type} : eF ρ := fun as w k => match as with
  | [.ref r0, .int a1, .int a2] => bif Nat.beq r0 38 then (f_xx_passes a1 a2 w).bind (fun p => k (some (.int p.1)) (eMgC p.2 w)) else none
  | _ => none
set_option maxRecDepth 100000 in
set_option maxHeartbeats 4000000 in
theorem okL_xx_passes {l : Launch} {ad : Nat → Nat} {D : va_G} {cA : Nat → ClassId} {xs : List Int32} {ρ : Type} (as : List Value) (w : eW) (k : Option Value → eW → Option ρ) (x : ρ) (h : KL_xx_passes as w k = some x) : ∃ (v : Option Value) (w2 : eW), k v w2 = some x ∧ eMet l ad D cA vwCl SHl (SSl xs) yX11_passes (eWd yX11_passes cX11_passes 4 (some .int)) { frames := 6, cells := 0, slots := 0, locals := 183 } as w v w2 := by
  unfold KL_xx_passes at h
  split at h
  · rename_i r0 a1 a2
    obtain ⟨h1, h5⟩ := eBif h
    clear h
    have h1 := Nat.eq_of_beq_eq_true h1
    subst h1
    obtain ⟨q, h2, h3⟩ := Option.bind_eq_some_iff.mp h5
    have hK : K_xx_passes [.ref 38, .int a1, .int a2] w (fun v w => some (v, w)) = some (some (.int q.1), q.2) := by
      show (f_xx_passes a1 a2 w).bind (fun p => some (some (Value.int p.1), p.2)) = _
      rw [h2]
      rfl
    obtain ⟨v, w2, e1, hM⟩ := ok_xx_passes (l := l) (ad := fun i => ad (phC i)) (D := D) (cA := cA) _ _ _ _ hK
    cases e1
    exact ⟨_, _, h3, eLiftC (xs := xs) hM (fun a h => by cases h)⟩
  · cases h
noncomputable def KL_mm_passes {ρ : Type} : eF ρ := fun as w k => match as with
  | [.ref r0, .int a1, .int a2] => bif Nat.beq r0 63 then (f_mm_passes a1 a2 (eSM w)).bind (fun p => k (some (.int p.1)) (eMgM p.2 w)) else none
  | _ => none
set_option maxRecDepth 100000 in
set_option maxHeartbeats 4000000 in
theorem okL_mm_passes {l : Launch} {ad : Nat → Nat} {D : va_G} {cA : Nat → ClassId} {xs : List Int32} {ρ : Type} (as : List Value) (w : eW) (k : Option Value → eW → Option ρ) (x : ρ) (h : KL_mm_passes as w k = some x) : ∃ (v : Option Value) (w2 : eW), k v w2 = some x ∧ eMet l ad D cA vwCl SHl (SSl xs) yX12_passes (eWd yX12_passes cX12_passes 4 (some .int)) { frames := 12, cells := 0, slots := 0, locals := 276 } as w v w2 := by
  unfold KL_mm_passes at h
  split at h
  · rename_i r0 a1 a2
    obtain ⟨h1, h5⟩ := eBif h
    clear h
    have h1 := Nat.eq_of_beq_eq_true h1
    subst h1
    obtain ⟨q, h2, h3⟩ := Option.bind_eq_some_iff.mp h5
    have hK : K_mm_passes [.ref 24, .int a1, .int a2] (eSM w) (fun v w => some (v, w)) = some (some (.int q.1), q.2) := by
      show (f_mm_passes a1 a2 (eSM w)).bind (fun p => some (some (Value.int p.1), p.2)) = _
      rw [h2]
      rfl
    obtain ⟨v, w2, e1, hM⟩ := ok_mm_passes (l := l) (ad := fun i => ad (phM i)) (D := D) (cA := cA) _ _ _ _ hK
    cases e1
    exact ⟨_, _, h3, eLiftM (xs := xs) hM (fun a h => by cases h)⟩
  · cases h
noncomputable def KL_xx_breaks {ρ : Type} : eF ρ := fun as w k => match as with
  | [.ref r0, .int a1, .int a2] => bif Nat.beq r0 38 then (f_xx_breaks a1 a2 w).bind (fun p => k (some (.long p.1)) (eMgC p.2 w)) else none
  | _ => none
set_option maxRecDepth 100000 in
set_option maxHeartbeats 4000000 in
theorem okL_xx_breaks {l : Launch} {ad : Nat → Nat} {D : va_G} {cA : Nat → ClassId} {xs : List Int32} {ρ : Type} (as : List Value) (w : eW) (k : Option Value → eW → Option ρ) (x : ρ) (h : KL_xx_breaks as w k = some x) : ∃ (v : Option Value) (w2 : eW), k v w2 = some x ∧ eMet l ad D cA vwCl SHl (SSl xs) yX11_breaks (eWd yX11_breaks cX11_breaks 3 (some .long)) { frames := 5, cells := 0, slots := 0, locals := 170 } as w v w2 := by
  unfold KL_xx_breaks at h
  split at h
  · rename_i r0 a1 a2
    obtain ⟨h1, h5⟩ := eBif h
    clear h
    have h1 := Nat.eq_of_beq_eq_true h1
    subst h1
    obtain ⟨q, h2, h3⟩ := Option.bind_eq_some_iff.mp h5
    have hK : K_xx_breaks [.ref 38, .int a1, .int a2] w (fun v w => some (v, w)) = some (some (.long q.1), q.2) := by
      show (f_xx_breaks a1 a2 w).bind (fun p => some (some (Value.long p.1), p.2)) = _
      rw [h2]
      rfl
    obtain ⟨v, w2, e1, hM⟩ := ok_xx_breaks (l := l) (ad := fun i => ad (phC i)) (D := D) (cA := cA) _ _ _ _ hK
    cases e1
    exact ⟨_, _, h3, eLiftC (xs := xs) hM (fun a h => by cases h)⟩
  · cases h
noncomputable def KL_mm_breaks {ρ : Type} : eF ρ := fun as w k => match as with
  | [.ref r0, .int a1, .int a2] => bif Nat.beq r0 63 then (f_mm_breaks a1 a2 (eSM w)).bind (fun p => k (some (.long p.1)) (eMgM p.2 w)) else none
  | _ => none
set_option maxRecDepth 100000 in
set_option maxHeartbeats 4000000 in
theorem okL_mm_breaks {l : Launch} {ad : Nat → Nat} {D : va_G} {cA : Nat → ClassId} {xs : List Int32} {ρ : Type} (as : List Value) (w : eW) (k : Option Value → eW → Option ρ) (x : ρ) (h : KL_mm_breaks as w k = some x) : ∃ (v : Option Value) (w2 : eW), k v w2 = some x ∧ eMet l ad D cA vwCl SHl (SSl xs) yX12_breaks (eWd yX12_breaks cX12_breaks 3 (some .long)) { frames := 9, cells := 0, slots := 0, locals := 204 } as w v w2 := by
  unfold KL_mm_breaks at h
  split at h
  · rename_i r0 a1 a2
    obtain ⟨h1, h5⟩ := eBif h
    clear h
    have h1 := Nat.eq_of_beq_eq_true h1
    subst h1
    obtain ⟨q, h2, h3⟩ := Option.bind_eq_some_iff.mp h5
    have hK : K_mm_breaks [.ref 24, .int a1, .int a2] (eSM w) (fun v w => some (v, w)) = some (some (.long q.1), q.2) := by
      show (f_mm_breaks a1 a2 (eSM w)).bind (fun p => some (some (Value.long p.1), p.2)) = _
      rw [h2]
      rfl
    obtain ⟨v, w2, e1, hM⟩ := ok_mm_breaks (l := l) (ad := fun i => ad (phM i)) (D := D) (cA := cA) _ _ _ _ hK
    cases e1
    exact ⟨_, _, h3, eLiftM (xs := xs) hM (fun a h => by cases h)⟩
  · cases h
noncomputable def KL_xx_part {ρ : Type} : eF ρ := fun as w k => match as with
  | [.ref r0, .int a1, .int a2, .int a3] => bif Nat.beq r0 38 then (f_xx_part a1 a2 a3 w).bind (fun p => k (some (.long p.1)) (eMgC p.2 w)) else none
  | _ => none
set_option maxRecDepth 100000 in
set_option maxHeartbeats 4000000 in
theorem okL_xx_part {l : Launch} {ad : Nat → Nat} {D : va_G} {cA : Nat → ClassId} {xs : List Int32} {ρ : Type} (as : List Value) (w : eW) (k : Option Value → eW → Option ρ) (x : ρ) (h : KL_xx_part as w k = some x) : ∃ (v : Option Value) (w2 : eW), k v w2 = some x ∧ eMet l ad D cA vwCl SHl (SSl xs) yX11_part (eWd yX11_part cX11_part 4 (some .long)) { frames := 5, cells := 0, slots := 0, locals := 170 } as w v w2 := by
  unfold KL_xx_part at h
  split at h
  · rename_i r0 a1 a2 a3
    obtain ⟨h1, h5⟩ := eBif h
    clear h
    have h1 := Nat.eq_of_beq_eq_true h1
    subst h1
    obtain ⟨q, h2, h3⟩ := Option.bind_eq_some_iff.mp h5
    have hK : K_xx_part [.ref 38, .int a1, .int a2, .int a3] w (fun v w => some (v, w)) = some (some (.long q.1), q.2) := by
      show (f_xx_part a1 a2 a3 w).bind (fun p => some (some (Value.long p.1), p.2)) = _
      rw [h2]
      rfl
    obtain ⟨v, w2, e1, hM⟩ := ok_xx_part (l := l) (ad := fun i => ad (phC i)) (D := D) (cA := cA) _ _ _ _ hK
    cases e1
    exact ⟨_, _, h3, eLiftC (xs := xs) hM (fun a h => by cases h)⟩
  · cases h
noncomputable def KL_mm_part {ρ : Type} : eF ρ := fun as w k => match as with
  | [.ref r0, .int a1, .int a2, .int a3] => bif Nat.beq r0 63 then (f_mm_part a1 a2 a3 (eSM w)).bind (fun p => k (some (.long p.1)) (eMgM p.2 w)) else none
  | _ => none
set_option maxRecDepth 100000 in
set_option maxHeartbeats 4000000 in
theorem okL_mm_part {l : Launch} {ad : Nat → Nat} {D : va_G} {cA : Nat → ClassId} {xs : List Int32} {ρ : Type} (as : List Value) (w : eW) (k : Option Value → eW → Option ρ) (x : ρ) (h : KL_mm_part as w k = some x) : ∃ (v : Option Value) (w2 : eW), k v w2 = some x ∧ eMet l ad D cA vwCl SHl (SSl xs) yX12_part (eWd yX12_part cX12_part 6 (some .long)) { frames := 9, cells := 0, slots := 0, locals := 211 } as w v w2 := by
  unfold KL_mm_part at h
  split at h
  · rename_i r0 a1 a2 a3
    obtain ⟨h1, h5⟩ := eBif h
    clear h
    have h1 := Nat.eq_of_beq_eq_true h1
    subst h1
    obtain ⟨q, h2, h3⟩ := Option.bind_eq_some_iff.mp h5
    have hK : K_mm_part [.ref 24, .int a1, .int a2, .int a3] (eSM w) (fun v w => some (v, w)) = some (some (.long q.1), q.2) := by
      show (f_mm_part a1 a2 a3 (eSM w)).bind (fun p => some (some (Value.long p.1), p.2)) = _
      rw [h2]
      rfl
    obtain ⟨v, w2, e1, hM⟩ := ok_mm_part (l := l) (ad := fun i => ad (phM i)) (D := D) (cA := cA) _ _ _ _ hK
    cases e1
    exact ⟨_, _, h3, eLiftM (xs := xs) hM (fun a h => by cases h)⟩
  · cases h
noncomputable def KL_xx_chosen {ρ : Type} : eF ρ := fun as w k => match as with
  | [.ref r0, .int a1, .int a2, .int a3, .int a4] => bif Nat.beq r0 38 then (f_xx_chosen a1 a2 a3 a4 w).bind (fun p => k (some (.long p.1)) (eMgC p.2 w)) else none
  | _ => none
set_option maxRecDepth 100000 in
set_option maxHeartbeats 4000000 in
theorem okL_xx_chosen {l : Launch} {ad : Nat → Nat} {D : va_G} {cA : Nat → ClassId} {xs : List Int32} {ρ : Type} (as : List Value) (w : eW) (k : Option Value → eW → Option ρ) (x : ρ) (h : KL_xx_chosen as w k = some x) : ∃ (v : Option Value) (w2 : eW), k v w2 = some x ∧ eMet l ad D cA vwCl SHl (SSl xs) yX11_chosen (eWd yX11_chosen cX11_chosen 5 (some .long)) { frames := 4, cells := 0, slots := 0, locals := 138 } as w v w2 := by
  unfold KL_xx_chosen at h
  split at h
  · rename_i r0 a1 a2 a3 a4
    obtain ⟨h1, h5⟩ := eBif h
    clear h
    have h1 := Nat.eq_of_beq_eq_true h1
    subst h1
    obtain ⟨q, h2, h3⟩ := Option.bind_eq_some_iff.mp h5
    have hK : K_xx_chosen [.ref 38, .int a1, .int a2, .int a3, .int a4] w (fun v w => some (v, w)) = some (some (.long q.1), q.2) := by
      show (f_xx_chosen a1 a2 a3 a4 w).bind (fun p => some (some (Value.long p.1), p.2)) = _
      rw [h2]
      rfl
    obtain ⟨v, w2, e1, hM⟩ := ok_xx_chosen (l := l) (ad := fun i => ad (phC i)) (D := D) (cA := cA) _ _ _ _ hK
    cases e1
    exact ⟨_, _, h3, eLiftC (xs := xs) hM (fun a h => by cases h)⟩
  · cases h
noncomputable def KL_mm_chosen {ρ : Type} : eF ρ := fun as w k => match as with
  | [.ref r0, .int a1, .int a2, .int a3, .int a4] => bif Nat.beq r0 63 then (f_mm_chosen a1 a2 a3 a4 (eSM w)).bind (fun p => k (some (.long p.1)) (eMgM p.2 w)) else none
  | _ => none
set_option maxRecDepth 100000 in
set_option maxHeartbeats 4000000 in
theorem okL_mm_chosen {l : Launch} {ad : Nat → Nat} {D : va_G} {cA : Nat → ClassId} {xs : List Int32} {ρ : Type} (as : List Value) (w : eW) (k : Option Value → eW → Option ρ) (x : ρ) (h : KL_mm_chosen as w k = some x) : ∃ (v : Option Value) (w2 : eW), k v w2 = some x ∧ eMet l ad D cA vwCl SHl (SSl xs) yX12_chosen (eWd yX12_chosen cX12_chosen 5 (some .long)) { frames := 10, cells := 0, slots := 0, locals := 231 } as w v w2 := by
  unfold KL_mm_chosen at h
  split at h
  · rename_i r0 a1 a2 a3 a4
    obtain ⟨h1, h5⟩ := eBif h
    clear h
    have h1 := Nat.eq_of_beq_eq_true h1
    subst h1
    obtain ⟨q, h2, h3⟩ := Option.bind_eq_some_iff.mp h5
    have hK : K_mm_chosen [.ref 24, .int a1, .int a2, .int a3, .int a4] (eSM w) (fun v w => some (v, w)) = some (some (.long q.1), q.2) := by
      show (f_mm_chosen a1 a2 a3 a4 (eSM w)).bind (fun p => some (some (Value.long p.1), p.2)) = _
      rw [h2]
      rfl
    obtain ⟨v, w2, e1, hM⟩ := ok_mm_chosen (l := l) (ad := fun i => ad (phM i)) (D := D) (cA := cA) _ _ _ _ hK
    cases e1
    exact ⟨_, _, h3, eLiftM (xs := xs) hM (fun a h => by cases h)⟩
  · cases h
noncomputable def KL_xx_steady {ρ : Type} : eF ρ := fun as w k => match as with
  | [.ref r0, .int a1, .int a2] => bif Nat.beq r0 38 then (f_xx_steady a1 a2 w).bind (fun p => k (some (.int p.1)) (eMgC p.2 w)) else none
  | _ => none
set_option maxRecDepth 100000 in
set_option maxHeartbeats 4000000 in
theorem okL_xx_steady {l : Launch} {ad : Nat → Nat} {D : va_G} {cA : Nat → ClassId} {xs : List Int32} {ρ : Type} (as : List Value) (w : eW) (k : Option Value → eW → Option ρ) (x : ρ) (h : KL_xx_steady as w k = some x) : ∃ (v : Option Value) (w2 : eW), k v w2 = some x ∧ eMet l ad D cA vwCl SHl (SSl xs) yX11_steady (eWd yX11_steady cX11_steady 4 (some .int)) { frames := 6, cells := 0, slots := 0, locals := 190 } as w v w2 := by
  unfold KL_xx_steady at h
  split at h
  · rename_i r0 a1 a2
    obtain ⟨h1, h5⟩ := eBif h
    clear h
    have h1 := Nat.eq_of_beq_eq_true h1
    subst h1
    obtain ⟨q, h2, h3⟩ := Option.bind_eq_some_iff.mp h5
    have hK : K_xx_steady [.ref 38, .int a1, .int a2] w (fun v w => some (v, w)) = some (some (.int q.1), q.2) := by
      show (f_xx_steady a1 a2 w).bind (fun p => some (some (Value.int p.1), p.2)) = _
      rw [h2]
      rfl
    obtain ⟨v, w2, e1, hM⟩ := ok_xx_steady (l := l) (ad := fun i => ad (phC i)) (D := D) (cA := cA) _ _ _ _ hK
    cases e1
    exact ⟨_, _, h3, eLiftC (xs := xs) hM (fun a h => by cases h)⟩
  · cases h
noncomputable def KL_mm_steady {ρ : Type} : eF ρ := fun as w k => match as with
  | [.ref r0, .int a1, .int a2] => bif Nat.beq r0 63 then (f_mm_steady a1 a2 (eSM w)).bind (fun p => k (some (.int p.1)) (eMgM p.2 w)) else none
  | _ => none
set_option maxRecDepth 100000 in
set_option maxHeartbeats 4000000 in
theorem okL_mm_steady {l : Launch} {ad : Nat → Nat} {D : va_G} {cA : Nat → ClassId} {xs : List Int32} {ρ : Type} (as : List Value) (w : eW) (k : Option Value → eW → Option ρ) (x : ρ) (h : KL_mm_steady as w k = some x) : ∃ (v : Option Value) (w2 : eW), k v w2 = some x ∧ eMet l ad D cA vwCl SHl (SSl xs) yX12_steady (eWd yX12_steady cX12_steady 3 (some .int)) { frames := 11, cells := 0, slots := 0, locals := 258 } as w v w2 := by
  unfold KL_mm_steady at h
  split at h
  · rename_i r0 a1 a2
    obtain ⟨h1, h5⟩ := eBif h
    clear h
    have h1 := Nat.eq_of_beq_eq_true h1
    subst h1
    obtain ⟨q, h2, h3⟩ := Option.bind_eq_some_iff.mp h5
    have hK : K_mm_steady [.ref 24, .int a1, .int a2] (eSM w) (fun v w => some (v, w)) = some (some (.int q.1), q.2) := by
      show (f_mm_steady a1 a2 (eSM w)).bind (fun p => some (some (Value.int p.1), p.2)) = _
      rw [h2]
      rfl
    obtain ⟨v, w2, e1, hM⟩ := ok_mm_steady (l := l) (ad := fun i => ad (phM i)) (D := D) (cA := cA) _ _ _ _ hK
    cases e1
    exact ⟨_, _, h3, eLiftM (xs := xs) hM (fun a h => by cases h)⟩
  · cases h
noncomputable def KL_xx_steadies {ρ : Type} : eF ρ := fun as w k => match as with
  | [.ref r0, .int a1, .int a2] => bif Nat.beq r0 38 then (f_xx_steadies a1 a2 w).bind (fun p => k (some (.int p.1)) (eMgC p.2 w)) else none
  | _ => none
set_option maxRecDepth 100000 in
set_option maxHeartbeats 4000000 in
theorem okL_xx_steadies {l : Launch} {ad : Nat → Nat} {D : va_G} {cA : Nat → ClassId} {xs : List Int32} {ρ : Type} (as : List Value) (w : eW) (k : Option Value → eW → Option ρ) (x : ρ) (h : KL_xx_steadies as w k = some x) : ∃ (v : Option Value) (w2 : eW), k v w2 = some x ∧ eMet l ad D cA vwCl SHl (SSl xs) yX11_steadies (eWd yX11_steadies cX11_steadies 3 (some .int)) { frames := 6, cells := 0, slots := 0, locals := 189 } as w v w2 := by
  unfold KL_xx_steadies at h
  split at h
  · rename_i r0 a1 a2
    obtain ⟨h1, h5⟩ := eBif h
    clear h
    have h1 := Nat.eq_of_beq_eq_true h1
    subst h1
    obtain ⟨q, h2, h3⟩ := Option.bind_eq_some_iff.mp h5
    have hK : K_xx_steadies [.ref 38, .int a1, .int a2] w (fun v w => some (v, w)) = some (some (.int q.1), q.2) := by
      show (f_xx_steadies a1 a2 w).bind (fun p => some (some (Value.int p.1), p.2)) = _
      rw [h2]
      rfl
    obtain ⟨v, w2, e1, hM⟩ := ok_xx_steadies (l := l) (ad := fun i => ad (phC i)) (D := D) (cA := cA) _ _ _ _ hK
    cases e1
    exact ⟨_, _, h3, eLiftC (xs := xs) hM (fun a h => by cases h)⟩
  · cases h
noncomputable def KL_mm_steadies {ρ : Type} : eF ρ := fun as w k => match as with
  | [.ref r0, .int a1, .int a2] => bif Nat.beq r0 63 then (f_mm_steadies a1 a2 (eSM w)).bind (fun p => k (some (.int p.1)) (eMgM p.2 w)) else none
  | _ => none
set_option maxRecDepth 100000 in
set_option maxHeartbeats 4000000 in
theorem okL_mm_steadies {l : Launch} {ad : Nat → Nat} {D : va_G} {cA : Nat → ClassId} {xs : List Int32} {ρ : Type} (as : List Value) (w : eW) (k : Option Value → eW → Option ρ) (x : ρ) (h : KL_mm_steadies as w k = some x) : ∃ (v : Option Value) (w2 : eW), k v w2 = some x ∧ eMet l ad D cA vwCl SHl (SSl xs) yX12_steadies (eWd yX12_steadies cX12_steadies 6 (some .int)) { frames := 11, cells := 0, slots := 0, locals := 258 } as w v w2 := by
  unfold KL_mm_steadies at h
  split at h
  · rename_i r0 a1 a2
    obtain ⟨h1, h5⟩ := eBif h
    clear h
    have h1 := Nat.eq_of_beq_eq_true h1
    subst h1
    obtain ⟨q, h2, h3⟩ := Option.bind_eq_some_iff.mp h5
    have hK : K_mm_steadies [.ref 24, .int a1, .int a2] (eSM w) (fun v w => some (v, w)) = some (some (.int q.1), q.2) := by
      show (f_mm_steadies a1 a2 (eSM w)).bind (fun p => some (some (Value.int p.1), p.2)) = _
      rw [h2]
      rfl
    obtain ⟨v, w2, e1, hM⟩ := ok_mm_steadies (l := l) (ad := fun i => ad (phM i)) (D := D) (cA := cA) _ _ _ _ hK
    cases e1
    exact ⟨_, _, h3, eLiftM (xs := xs) hM (fun a h => by cases h)⟩
  · cases h
noncomputable def KL_xx_close {ρ : Type} : eF ρ := fun as w k => match as with
  | [.ref r0, .int a1, .int a2] => bif Nat.beq r0 38 then (f_xx_close a1 a2 w).bind (fun p => k (some (.int p.1)) (eMgC p.2 w)) else none
  | _ => none
set_option maxRecDepth 100000 in
set_option maxHeartbeats 4000000 in
theorem okL_xx_close {l : Launch} {ad : Nat → Nat} {D : va_G} {cA : Nat → ClassId} {xs : List Int32} {ρ : Type} (as : List Value) (w : eW) (k : Option Value → eW → Option ρ) (x : ρ) (h : KL_xx_close as w k = some x) : ∃ (v : Option Value) (w2 : eW), k v w2 = some x ∧ eMet l ad D cA vwCl SHl (SSl xs) yX11_close (eWd yX11_close cX11_close 3 (some .int)) { frames := 3, cells := 0, slots := 0, locals := 104 } as w v w2 := by
  unfold KL_xx_close at h
  split at h
  · rename_i r0 a1 a2
    obtain ⟨h1, h5⟩ := eBif h
    clear h
    have h1 := Nat.eq_of_beq_eq_true h1
    subst h1
    obtain ⟨q, h2, h3⟩ := Option.bind_eq_some_iff.mp h5
    have hK : K_xx_close [.ref 38, .int a1, .int a2] w (fun v w => some (v, w)) = some (some (.int q.1), q.2) := by
      show (f_xx_close a1 a2 w).bind (fun p => some (some (Value.int p.1), p.2)) = _
      rw [h2]
      rfl
    obtain ⟨v, w2, e1, hM⟩ := ok_xx_close (l := l) (ad := fun i => ad (phC i)) (D := D) (cA := cA) _ _ _ _ hK
    cases e1
    exact ⟨_, _, h3, eLiftC (xs := xs) hM (fun a h => by cases h)⟩
  · cases h
noncomputable def KL_mm_close {ρ : Type} : eF ρ := fun as w k => match as with
  | [.ref r0, .int a1, .int a2] => bif Nat.beq r0 63 then (f_mm_close a1 a2 (eSM w)).bind (fun p => k (some (.int p.1)) (eMgM p.2 w)) else none
  | _ => none
set_option maxRecDepth 100000 in
set_option maxHeartbeats 4000000 in
theorem okL_mm_close {l : Launch} {ad : Nat → Nat} {D : va_G} {cA : Nat → ClassId} {xs : List Int32} {ρ : Type} (as : List Value) (w : eW) (k : Option Value → eW → Option ρ) (x : ρ) (h : KL_mm_close as w k = some x) : ∃ (v : Option Value) (w2 : eW), k v w2 = some x ∧ eMet l ad D cA vwCl SHl (SSl xs) yX12_close (eWd yX12_close cX12_close 3 (some .int)) { frames := 2, cells := 0, slots := 0, locals := 42 } as w v w2 := by
  unfold KL_mm_close at h
  split at h
  · rename_i r0 a1 a2
    obtain ⟨h1, h5⟩ := eBif h
    clear h
    have h1 := Nat.eq_of_beq_eq_true h1
    subst h1
    obtain ⟨q, h2, h3⟩ := Option.bind_eq_some_iff.mp h5
    have hK : K_mm_close [.ref 24, .int a1, .int a2] (eSM w) (fun v w => some (v, w)) = some (some (.int q.1), q.2) := by
      show (f_mm_close a1 a2 (eSM w)).bind (fun p => some (some (Value.int p.1), p.2)) = _
      rw [h2]
      rfl
    obtain ⟨v, w2, e1, hM⟩ := ok_mm_close (l := l) (ad := fun i => ad (phM i)) (D := D) (cA := cA) _ _ _ _ hK
    cases e1
    exact ⟨_, _, h3, eLiftM (xs := xs) hM (fun a h => by cases h)⟩
  · cases h
noncomputable def KL_xx_release {ρ : Type} : eF ρ := fun as w k => match as with
  | [.ref r0, .int a1, .int a2] => bif Nat.beq r0 38 then (f_xx_release a1 a2 w).bind (fun p => k (some (.int p.1)) (eMgC p.2 w)) else none
  | _ => none
set_option maxRecDepth 100000 in
set_option maxHeartbeats 4000000 in
theorem okL_xx_release {l : Launch} {ad : Nat → Nat} {D : va_G} {cA : Nat → ClassId} {xs : List Int32} {ρ : Type} (as : List Value) (w : eW) (k : Option Value → eW → Option ρ) (x : ρ) (h : KL_xx_release as w k = some x) : ∃ (v : Option Value) (w2 : eW), k v w2 = some x ∧ eMet l ad D cA vwCl SHl (SSl xs) yX11_release (eWd yX11_release cX11_release 3 (some .int)) { frames := 3, cells := 0, slots := 0, locals := 104 } as w v w2 := by
  unfold KL_xx_release at h
  split at h
  · rename_i r0 a1 a2
    obtain ⟨h1, h5⟩ := eBif h
    clear h
    have h1 := Nat.eq_of_beq_eq_true h1
    subst h1
    obtain ⟨q, h2, h3⟩ := Option.bind_eq_some_iff.mp h5
    have hK : K_xx_release [.ref 38, .int a1, .int a2] w (fun v w => some (v, w)) = some (some (.int q.1), q.2) := by
      show (f_xx_release a1 a2 w).bind (fun p => some (some (Value.int p.1), p.2)) = _
      rw [h2]
      rfl
    obtain ⟨v, w2, e1, hM⟩ := ok_xx_release (l := l) (ad := fun i => ad (phC i)) (D := D) (cA := cA) _ _ _ _ hK
    cases e1
    exact ⟨_, _, h3, eLiftC (xs := xs) hM (fun a h => by cases h)⟩
  · cases h
noncomputable def KL_mm_release {ρ : Type} : eF ρ := fun as w k => match as with
  | [.ref r0, .int a1, .int a2] => bif Nat.beq r0 63 then (f_mm_release a1 a2 (eSM w)).bind (fun p => k (some (.int p.1)) (eMgM p.2 w)) else none
  | _ => none
set_option maxRecDepth 100000 in
set_option maxHeartbeats 4000000 in
theorem okL_mm_release {l : Launch} {ad : Nat → Nat} {D : va_G} {cA : Nat → ClassId} {xs : List Int32} {ρ : Type} (as : List Value) (w : eW) (k : Option Value → eW → Option ρ) (x : ρ) (h : KL_mm_release as w k = some x) : ∃ (v : Option Value) (w2 : eW), k v w2 = some x ∧ eMet l ad D cA vwCl SHl (SSl xs) yX12_release (eWd yX12_release cX12_release 3 (some .int)) { frames := 1, cells := 0, slots := 0, locals := 22 } as w v w2 := by
  unfold KL_mm_release at h
  split at h
  · rename_i r0 a1 a2
    obtain ⟨h1, h5⟩ := eBif h
    clear h
    have h1 := Nat.eq_of_beq_eq_true h1
    subst h1
    obtain ⟨q, h2, h3⟩ := Option.bind_eq_some_iff.mp h5
    have hK : K_mm_release [.ref 24, .int a1, .int a2] (eSM w) (fun v w => some (v, w)) = some (some (.int q.1), q.2) := by
      show (f_mm_release a1 a2 (eSM w)).bind (fun p => some (some (Value.int p.1), p.2)) = _
      rw [h2]
      rfl
    obtain ⟨v, w2, e1, hM⟩ := ok_mm_release (l := l) (ad := fun i => ad (phM i)) (D := D) (cA := cA) _ _ _ _ hK
    cases e1
    exact ⟨_, _, h3, eLiftM (xs := xs) hM (fun a h => by cases h)⟩
  · cases h
noncomputable def KL_xx_sale {ρ : Type} : eF ρ := fun as w k => match as with
  | [.ref r0, .int a1] => bif Nat.beq r0 38 then (f_xx_sale a1 w).bind (fun p => k (some (.int p.1)) (eMgC p.2 w)) else none
  | _ => none
set_option maxRecDepth 100000 in
set_option maxHeartbeats 4000000 in
theorem okL_xx_sale {l : Launch} {ad : Nat → Nat} {D : va_G} {cA : Nat → ClassId} {xs : List Int32} {ρ : Type} (as : List Value) (w : eW) (k : Option Value → eW → Option ρ) (x : ρ) (h : KL_xx_sale as w k = some x) : ∃ (v : Option Value) (w2 : eW), k v w2 = some x ∧ eMet l ad D cA vwCl SHl (SSl xs) yX11_sale (eWd yX11_sale cX11_sale 2 (some .int)) { frames := 7, cells := 0, slots := 0, locals := 203 } as w v w2 := by
  unfold KL_xx_sale at h
  split at h
  · rename_i r0 a1
    obtain ⟨h1, h5⟩ := eBif h
    clear h
    have h1 := Nat.eq_of_beq_eq_true h1
    subst h1
    obtain ⟨q, h2, h3⟩ := Option.bind_eq_some_iff.mp h5
    have hK : K_xx_sale [.ref 38, .int a1] w (fun v w => some (v, w)) = some (some (.int q.1), q.2) := by
      show (f_xx_sale a1 w).bind (fun p => some (some (Value.int p.1), p.2)) = _
      rw [h2]
      rfl
    obtain ⟨v, w2, e1, hM⟩ := ok_xx_sale (l := l) (ad := fun i => ad (phC i)) (D := D) (cA := cA) _ _ _ _ hK
    cases e1
    exact ⟨_, _, h3, eLiftC (xs := xs) hM (fun a h => by cases h)⟩
  · cases h
noncomputable def KL_mm_sale {ρ : Type} : eF ρ := fun as w k => match as with
  | [.ref r0, .int a1] => bif Nat.beq r0 63 then (f_mm_sale a1 (eSM w)).bind (fun p => k (some (.int p.1)) (eMgM p.2 w)) else none
  | _ => none
set_option maxRecDepth 100000 in
set_option maxHeartbeats 4000000 in
theorem okL_mm_sale {l : Launch} {ad : Nat → Nat} {D : va_G} {cA : Nat → ClassId} {xs : List Int32} {ρ : Type} (as : List Value) (w : eW) (k : Option Value → eW → Option ρ) (x : ρ) (h : KL_mm_sale as w k = some x) : ∃ (v : Option Value) (w2 : eW), k v w2 = some x ∧ eMet l ad D cA vwCl SHl (SSl xs) yX12_sale (eWd yX12_sale cX12_sale 3 (some .int)) { frames := 12, cells := 0, slots := 0, locals := 278 } as w v w2 := by
  unfold KL_mm_sale at h
  split at h
  · rename_i r0 a1
    obtain ⟨h1, h5⟩ := eBif h
    clear h
    have h1 := Nat.eq_of_beq_eq_true h1
    subst h1
    obtain ⟨q, h2, h3⟩ := Option.bind_eq_some_iff.mp h5
    have hK : K_mm_sale [.ref 24, .int a1] (eSM w) (fun v w => some (v, w)) = some (some (.int q.1), q.2) := by
      show (f_mm_sale a1 (eSM w)).bind (fun p => some (some (Value.int p.1), p.2)) = _
      rw [h2]
      rfl
    obtain ⟨v, w2, e1, hM⟩ := ok_mm_sale (l := l) (ad := fun i => ad (phM i)) (D := D) (cA := cA) _ _ _ _ hK
    cases e1
    exact ⟨_, _, h3, eLiftM (xs := xs) hM (fun a h => by cases h)⟩
  · cases h
noncomputable def KL_xx_guess {ρ : Type} : eF ρ := fun as w k => match as with
  | [.ref r0, .int a1, .int a2] => bif Nat.beq r0 38 then (f_xx_guess a1 a2 w).bind (fun p => k (some (.int p.1)) (eMgC p.2 w)) else none
  | _ => none
set_option maxRecDepth 100000 in
set_option maxHeartbeats 4000000 in
theorem okL_xx_guess {l : Launch} {ad : Nat → Nat} {D : va_G} {cA : Nat → ClassId} {xs : List Int32} {ρ : Type} (as : List Value) (w : eW) (k : Option Value → eW → Option ρ) (x : ρ) (h : KL_xx_guess as w k = some x) : ∃ (v : Option Value) (w2 : eW), k v w2 = some x ∧ eMet l ad D cA vwCl SHl (SSl xs) yX11_guess (eWd yX11_guess cX11_guess 3 (some .int)) { frames := 2, cells := 0, slots := 0, locals := 83 } as w v w2 := by
  unfold KL_xx_guess at h
  split at h
  · rename_i r0 a1 a2
    obtain ⟨h1, h5⟩ := eBif h
    clear h
    have h1 := Nat.eq_of_beq_eq_true h1
    subst h1
    obtain ⟨q, h2, h3⟩ := Option.bind_eq_some_iff.mp h5
    have hK : K_xx_guess [.ref 38, .int a1, .int a2] w (fun v w => some (v, w)) = some (some (.int q.1), q.2) := by
      show (f_xx_guess a1 a2 w).bind (fun p => some (some (Value.int p.1), p.2)) = _
      rw [h2]
      rfl
    obtain ⟨v, w2, e1, hM⟩ := ok_xx_guess (l := l) (ad := fun i => ad (phC i)) (D := D) (cA := cA) _ _ _ _ hK
    cases e1
    exact ⟨_, _, h3, eLiftC (xs := xs) hM (fun a h => by cases h)⟩
  · cases h
noncomputable def KL_mm_guess {ρ : Type} : eF ρ := fun as w k => match as with
  | [.ref r0, .int a1, .int a2] => bif Nat.beq r0 63 then (f_mm_guess a1 a2 (eSM w)).bind (fun p => k (some (.int p.1)) (eMgM p.2 w)) else none
  | _ => none
set_option maxRecDepth 100000 in
set_option maxHeartbeats 4000000 in
theorem okL_mm_guess {l : Launch} {ad : Nat → Nat} {D : va_G} {cA : Nat → ClassId} {xs : List Int32} {ρ : Type} (as : List Value) (w : eW) (k : Option Value → eW → Option ρ) (x : ρ) (h : KL_mm_guess as w k = some x) : ∃ (v : Option Value) (w2 : eW), k v w2 = some x ∧ eMet l ad D cA vwCl SHl (SSl xs) yX12_guess (eWd yX12_guess cX12_guess 3 (some .int)) { frames := 2, cells := 0, slots := 0, locals := 42 } as w v w2 := by
  unfold KL_mm_guess at h
  split at h
  · rename_i r0 a1 a2
    obtain ⟨h1, h5⟩ := eBif h
    clear h
    have h1 := Nat.eq_of_beq_eq_true h1
    subst h1
    obtain ⟨q, h2, h3⟩ := Option.bind_eq_some_iff.mp h5
    have hK : K_mm_guess [.ref 24, .int a1, .int a2] (eSM w) (fun v w => some (v, w)) = some (some (.int q.1), q.2) := by
      show (f_mm_guess a1 a2 (eSM w)).bind (fun p => some (some (Value.int p.1), p.2)) = _
      rw [h2]
      rfl
    obtain ⟨v, w2, e1, hM⟩ := ok_mm_guess (l := l) (ad := fun i => ad (phM i)) (D := D) (cA := cA) _ _ _ _ hK
    cases e1
    exact ⟨_, _, h3, eLiftM (xs := xs) hM (fun a h => by cases h)⟩
  · cases h
noncomputable def KL_xx_mean {ρ : Type} : eF ρ := fun as w k => match as with
  | [.ref r0, .int a1] => bif Nat.beq r0 38 then (f_xx_mean a1 w).bind (fun p => k (some (.long p.1)) (eMgC p.2 w)) else none
  | _ => none
set_option maxRecDepth 100000 in
set_option maxHeartbeats 4000000 in
theorem okL_xx_mean {l : Launch} {ad : Nat → Nat} {D : va_G} {cA : Nat → ClassId} {xs : List Int32} {ρ : Type} (as : List Value) (w : eW) (k : Option Value → eW → Option ρ) (x : ρ) (h : KL_xx_mean as w k = some x) : ∃ (v : Option Value) (w2 : eW), k v w2 = some x ∧ eMet l ad D cA vwCl SHl (SSl xs) yX11_mean (eWd yX11_mean cX11_mean 6 (some .long)) { frames := 5, cells := 0, slots := 0, locals := 159 } as w v w2 := by
  unfold KL_xx_mean at h
  split at h
  · rename_i r0 a1
    obtain ⟨h1, h5⟩ := eBif h
    clear h
    have h1 := Nat.eq_of_beq_eq_true h1
    subst h1
    obtain ⟨q, h2, h3⟩ := Option.bind_eq_some_iff.mp h5
    have hK : K_xx_mean [.ref 38, .int a1] w (fun v w => some (v, w)) = some (some (.long q.1), q.2) := by
      show (f_xx_mean a1 w).bind (fun p => some (some (Value.long p.1), p.2)) = _
      rw [h2]
      rfl
    obtain ⟨v, w2, e1, hM⟩ := ok_xx_mean (l := l) (ad := fun i => ad (phC i)) (D := D) (cA := cA) _ _ _ _ hK
    cases e1
    exact ⟨_, _, h3, eLiftC (xs := xs) hM (fun a h => by cases h)⟩
  · cases h
noncomputable def KL_mm_mean {ρ : Type} : eF ρ := fun as w k => match as with
  | [.ref r0, .int a1] => bif Nat.beq r0 63 then (f_mm_mean a1 (eSM w)).bind (fun p => k (some (.long p.1)) (eMgM p.2 w)) else none
  | _ => none
set_option maxRecDepth 100000 in
set_option maxHeartbeats 4000000 in
theorem okL_mm_mean {l : Launch} {ad : Nat → Nat} {D : va_G} {cA : Nat → ClassId} {xs : List Int32} {ρ : Type} (as : List Value) (w : eW) (k : Option Value → eW → Option ρ) (x : ρ) (h : KL_mm_mean as w k = some x) : ∃ (v : Option Value) (w2 : eW), k v w2 = some x ∧ eMet l ad D cA vwCl SHl (SSl xs) yX12_mean (eWd yX12_mean cX12_mean 6 (some .long)) { frames := 11, cells := 0, slots := 0, locals := 252 } as w v w2 := by
  unfold KL_mm_mean at h
  split at h
  · rename_i r0 a1
    obtain ⟨h1, h5⟩ := eBif h
    clear h
    have h1 := Nat.eq_of_beq_eq_true h1
    subst h1
    obtain ⟨q, h2, h3⟩ := Option.bind_eq_some_iff.mp h5
    have hK : K_mm_mean [.ref 24, .int a1] (eSM w) (fun v w => some (v, w)) = some (some (.long q.1), q.2) := by
      show (f_mm_mean a1 (eSM w)).bind (fun p => some (some (Value.long p.1), p.2)) = _
      rw [h2]
      rfl
    obtain ⟨v, w2, e1, hM⟩ := ok_mm_mean (l := l) (ad := fun i => ad (phM i)) (D := D) (cA := cA) _ _ _ _ hK
    cases e1
    exact ⟨_, _, h3, eLiftM (xs := xs) hM (fun a h => by cases h)⟩
  · cases h
noncomputable def KL_xx_multiple {ρ : Type} : eF ρ := fun as w k => match as with
  | [.ref r0, .int a1, .int a2] => bif Nat.beq r0 38 then (f_xx_multiple a1 a2 w).bind (fun p => k (some (.int p.1)) (eMgC p.2 w)) else none
  | _ => none
set_option maxRecDepth 100000 in
set_option maxHeartbeats 4000000 in
theorem okL_xx_multiple {l : Launch} {ad : Nat → Nat} {D : va_G} {cA : Nat → ClassId} {xs : List Int32} {ρ : Type} (as : List Value) (w : eW) (k : Option Value → eW → Option ρ) (x : ρ) (h : KL_xx_multiple as w k = some x) : ∃ (v : Option Value) (w2 : eW), k v w2 = some x ∧ eMet l ad D cA vwCl SHl (SSl xs) yX11_multiple (eWd yX11_multiple cX11_multiple 5 (some .int)) { frames := 5, cells := 0, slots := 0, locals := 159 } as w v w2 := by
  unfold KL_xx_multiple at h
  split at h
  · rename_i r0 a1 a2
    obtain ⟨h1, h5⟩ := eBif h
    clear h
    have h1 := Nat.eq_of_beq_eq_true h1
    subst h1
    obtain ⟨q, h2, h3⟩ := Option.bind_eq_some_iff.mp h5
    have hK : K_xx_multiple [.ref 38, .int a1, .int a2] w (fun v w => some (v, w)) = some (some (.int q.1), q.2) := by
      show (f_xx_multiple a1 a2 w).bind (fun p => some (some (Value.int p.1), p.2)) = _
      rw [h2]
      rfl
    obtain ⟨v, w2, e1, hM⟩ := ok_xx_multiple (l := l) (ad := fun i => ad (phC i)) (D := D) (cA := cA) _ _ _ _ hK
    cases e1
    exact ⟨_, _, h3, eLiftC (xs := xs) hM (fun a h => by cases h)⟩
  · cases h
noncomputable def KL_mm_multiple {ρ : Type} : eF ρ := fun as w k => match as with
  | [.ref r0, .int a1, .int a2] => bif Nat.beq r0 63 then (f_mm_multiple a1 a2 (eSM w)).bind (fun p => k (some (.int p.1)) (eMgM p.2 w)) else none
  | _ => none
set_option maxRecDepth 100000 in
set_option maxHeartbeats 4000000 in
theorem okL_mm_multiple {l : Launch} {ad : Nat → Nat} {D : va_G} {cA : Nat → ClassId} {xs : List Int32} {ρ : Type} (as : List Value) (w : eW) (k : Option Value → eW → Option ρ) (x : ρ) (h : KL_mm_multiple as w k = some x) : ∃ (v : Option Value) (w2 : eW), k v w2 = some x ∧ eMet l ad D cA vwCl SHl (SSl xs) yX12_multiple (eWd yX12_multiple cX12_multiple 4 (some .int)) { frames := 10, cells := 0, slots := 0, locals := 230 } as w v w2 := by
  unfold KL_mm_multiple at h
  split at h
  · rename_i r0 a1 a2
    obtain ⟨h1, h5⟩ := eBif h
    clear h
    have h1 := Nat.eq_of_beq_eq_true h1
    subst h1
    obtain ⟨q, h2, h3⟩ := Option.bind_eq_some_iff.mp h5
    have hK : K_mm_multiple [.ref 24, .int a1, .int a2] (eSM w) (fun v w => some (v, w)) = some (some (.int q.1), q.2) := by
      show (f_mm_multiple a1 a2 (eSM w)).bind (fun p => some (some (Value.int p.1), p.2)) = _
      rw [h2]
      rfl
    obtain ⟨v, w2, e1, hM⟩ := ok_mm_multiple (l := l) (ad := fun i => ad (phM i)) (D := D) (cA := cA) _ _ _ _ hK
    cases e1
    exact ⟨_, _, h3, eLiftM (xs := xs) hM (fun a h => by cases h)⟩
  · cases h
noncomputable def KL_xx_yields {ρ : Type} : eF ρ := fun as w k => match as with
  | [.ref r0, .int a1, .int a2, .int a3] => bif Nat.beq r0 38 then (f_xx_yields a1 a2 a3 w).bind (fun p => k (some (.int p.1)) (eMgC p.2 w)) else none
  | _ => none
set_option maxRecDepth 100000 in
set_option maxHeartbeats 4000000 in
theorem okL_xx_yields {l : Launch} {ad : Nat → Nat} {D : va_G} {cA : Nat → ClassId} {xs : List Int32} {ρ : Type} (as : List Value) (w : eW) (k : Option Value → eW → Option ρ) (x : ρ) (h : KL_xx_yields as w k = some x) : ∃ (v : Option Value) (w2 : eW), k v w2 = some x ∧ eMet l ad D cA vwCl SHl (SSl xs) yX11_yields (eWd yX11_yields cX11_yields 12 (some .int)) { frames := 5, cells := 0, slots := 0, locals := 159 } as w v w2 := by
  unfold KL_xx_yields at h
  split at h
  · rename_i r0 a1 a2 a3
    obtain ⟨h1, h5⟩ := eBif h
    clear h
    have h1 := Nat.eq_of_beq_eq_true h1
    subst h1
    obtain ⟨q, h2, h3⟩ := Option.bind_eq_some_iff.mp h5
    have hK : K_xx_yields [.ref 38, .int a1, .int a2, .int a3] w (fun v w => some (v, w)) = some (some (.int q.1), q.2) := by
      show (f_xx_yields a1 a2 a3 w).bind (fun p => some (some (Value.int p.1), p.2)) = _
      rw [h2]
      rfl
    obtain ⟨v, w2, e1, hM⟩ := ok_xx_yields (l := l) (ad := fun i => ad (phC i)) (D := D) (cA := cA) _ _ _ _ hK
    cases e1
    exact ⟨_, _, h3, eLiftC (xs := xs) hM (fun a h => by cases h)⟩
  · cases h
noncomputable def KL_mm_yields {ρ : Type} : eF ρ := fun as w k => match as with
  | [.ref r0, .int a1, .int a2, .int a3] => bif Nat.beq r0 63 then (f_mm_yields a1 a2 a3 (eSM w)).bind (fun p => k (some (.int p.1)) (eMgM p.2 w)) else none
  | _ => none
set_option maxRecDepth 100000 in
set_option maxHeartbeats 4000000 in
theorem okL_mm_yields {l : Launch} {ad : Nat → Nat} {D : va_G} {cA : Nat → ClassId} {xs : List Int32} {ρ : Type} (as : List Value) (w : eW) (k : Option Value → eW → Option ρ) (x : ρ) (h : KL_mm_yields as w k = some x) : ∃ (v : Option Value) (w2 : eW), k v w2 = some x ∧ eMet l ad D cA vwCl SHl (SSl xs) yX12_yields (eWd yX12_yields cX12_yields 11 (some .int)) { frames := 11, cells := 0, slots := 0, locals := 252 } as w v w2 := by
  unfold KL_mm_yields at h
  split at h
  · rename_i r0 a1 a2 a3
    obtain ⟨h1, h5⟩ := eBif h
    clear h
    have h1 := Nat.eq_of_beq_eq_true h1
    subst h1
    obtain ⟨q, h2, h3⟩ := Option.bind_eq_some_iff.mp h5
    have hK : K_mm_yields [.ref 24, .int a1, .int a2, .int a3] (eSM w) (fun v w => some (v, w)) = some (some (.int q.1), q.2) := by
      show (f_mm_yields a1 a2 a3 (eSM w)).bind (fun p => some (some (Value.int p.1), p.2)) = _
      rw [h2]
      rfl
    obtain ⟨v, w2, e1, hM⟩ := ok_mm_yields (l := l) (ad := fun i => ad (phM i)) (D := D) (cA := cA) _ _ _ _ hK
    cases e1
    exact ⟨_, _, h3, eLiftM (xs := xs) hM (fun a h => by cases h)⟩
  · cases h
noncomputable def KL_xx_grant {ρ : Type} : eF ρ := fun as w k => match as with
  | [.ref r0, .int a1, .int a2] => bif Nat.beq r0 38 then (f_xx_grant a1 a2 w).bind (fun p => k (some (.int p.1)) (eMgC p.2 w)) else none
  | _ => none
set_option maxRecDepth 100000 in
set_option maxHeartbeats 4000000 in
theorem okL_xx_grant {l : Launch} {ad : Nat → Nat} {D : va_G} {cA : Nat → ClassId} {xs : List Int32} {ρ : Type} (as : List Value) (w : eW) (k : Option Value → eW → Option ρ) (x : ρ) (h : KL_xx_grant as w k = some x) : ∃ (v : Option Value) (w2 : eW), k v w2 = some x ∧ eMet l ad D cA vwCl SHl (SSl xs) yX11_grant (eWd yX11_grant cX11_grant 4 (some .int)) { frames := 2, cells := 0, slots := 0, locals := 83 } as w v w2 := by
  unfold KL_xx_grant at h
  split at h
  · rename_i r0 a1 a2
    obtain ⟨h1, h5⟩ := eBif h
    clear h
    have h1 := Nat.eq_of_beq_eq_true h1
    subst h1
    obtain ⟨q, h2, h3⟩ := Option.bind_eq_some_iff.mp h5
    have hK : K_xx_grant [.ref 38, .int a1, .int a2] w (fun v w => some (v, w)) = some (some (.int q.1), q.2) := by
      show (f_xx_grant a1 a2 w).bind (fun p => some (some (Value.int p.1), p.2)) = _
      rw [h2]
      rfl
    obtain ⟨v, w2, e1, hM⟩ := ok_xx_grant (l := l) (ad := fun i => ad (phC i)) (D := D) (cA := cA) _ _ _ _ hK
    cases e1
    exact ⟨_, _, h3, eLiftC (xs := xs) hM (fun a h => by cases h)⟩
  · cases h
noncomputable def KL_mm_grant {ρ : Type} : eF ρ := fun as w k => match as with
  | [.ref r0, .int a1, .int a2] => bif Nat.beq r0 63 then (f_mm_grant a1 a2 (eSM w)).bind (fun p => k (some (.int p.1)) (eMgM p.2 w)) else none
  | _ => none
set_option maxRecDepth 100000 in
set_option maxHeartbeats 4000000 in
theorem okL_mm_grant {l : Launch} {ad : Nat → Nat} {D : va_G} {cA : Nat → ClassId} {xs : List Int32} {ρ : Type} (as : List Value) (w : eW) (k : Option Value → eW → Option ρ) (x : ρ) (h : KL_mm_grant as w k = some x) : ∃ (v : Option Value) (w2 : eW), k v w2 = some x ∧ eMet l ad D cA vwCl SHl (SSl xs) yX12_grant (eWd yX12_grant cX12_grant 3 (some .int)) { frames := 2, cells := 0, slots := 0, locals := 43 } as w v w2 := by
  unfold KL_mm_grant at h
  split at h
  · rename_i r0 a1 a2
    obtain ⟨h1, h5⟩ := eBif h
    clear h
    have h1 := Nat.eq_of_beq_eq_true h1
    subst h1
    obtain ⟨q, h2, h3⟩ := Option.bind_eq_some_iff.mp h5
    have hK : K_mm_grant [.ref 24, .int a1, .int a2] (eSM w) (fun v w => some (v, w)) = some (some (.int q.1), q.2) := by
      show (f_mm_grant a1 a2 (eSM w)).bind (fun p => some (some (Value.int p.1), p.2)) = _
      rw [h2]
      rfl
    obtain ⟨v, w2, e1, hM⟩ := ok_mm_grant (l := l) (ad := fun i => ad (phM i)) (D := D) (cA := cA) _ _ _ _ hK
    cases e1
    exact ⟨_, _, h3, eLiftM (xs := xs) hM (fun a h => by cases h)⟩
  · cases h
noncomputable def KL_xx_waive {ρ : Type} : eF ρ := fun as w k => match as with
  | [.ref r0, .int a1, .int a2] => bif Nat.beq r0 38 then (f_xx_waive a1 a2 w).bind (fun p => k (some (.int p.1)) (eMgC p.2 w)) else none
  | _ => none
set_option maxRecDepth 100000 in
set_option maxHeartbeats 4000000 in
theorem okL_xx_waive {l : Launch} {ad : Nat → Nat} {D : va_G} {cA : Nat → ClassId} {xs : List Int32} {ρ : Type} (as : List Value) (w : eW) (k : Option Value → eW → Option ρ) (x : ρ) (h : KL_xx_waive as w k = some x) : ∃ (v : Option Value) (w2 : eW), k v w2 = some x ∧ eMet l ad D cA vwCl SHl (SSl xs) yX11_waive (eWd yX11_waive cX11_waive 3 (some .boolean)) { frames := 2, cells := 0, slots := 0, locals := 83 } as w v w2 := by
  unfold KL_xx_waive at h
  split at h
  · rename_i r0 a1 a2
    obtain ⟨h1, h5⟩ := eBif h
    clear h
    have h1 := Nat.eq_of_beq_eq_true h1
    subst h1
    obtain ⟨q, h2, h3⟩ := Option.bind_eq_some_iff.mp h5
    have hK : K_xx_waive [.ref 38, .int a1, .int a2] w (fun v w => some (v, w)) = some (some (.int q.1), q.2) := by
      show (f_xx_waive a1 a2 w).bind (fun p => some (some (Value.int p.1), p.2)) = _
      rw [h2]
      rfl
    obtain ⟨v, w2, e1, hM⟩ := ok_xx_waive (l := l) (ad := fun i => ad (phC i)) (D := D) (cA := cA) _ _ _ _ hK
    cases e1
    exact ⟨_, _, h3, eLiftC (xs := xs) hM (fun a h => by cases h)⟩
  · cases h
noncomputable def KL_mm_waive {ρ : Type} : eF ρ := fun as w k => match as with
  | [.ref r0, .int a1, .int a2] => bif Nat.beq r0 63 then (f_mm_waive a1 a2 (eSM w)).bind (fun p => k (some (.int p.1)) (eMgM p.2 w)) else none
  | _ => none
set_option maxRecDepth 100000 in
set_option maxHeartbeats 4000000 in
theorem okL_mm_waive {l : Launch} {ad : Nat → Nat} {D : va_G} {cA : Nat → ClassId} {xs : List Int32} {ρ : Type} (as : List Value) (w : eW) (k : Option Value → eW → Option ρ) (x : ρ) (h : KL_mm_waive as w k = some x) : ∃ (v : Option Value) (w2 : eW), k v w2 = some x ∧ eMet l ad D cA vwCl SHl (SSl xs) yX12_waive (eWd yX12_waive cX12_waive 3 (some .boolean)) { frames := 3, cells := 0, slots := 0, locals := 64 } as w v w2 := by
  unfold KL_mm_waive at h
  split at h
  · rename_i r0 a1 a2
    obtain ⟨h1, h5⟩ := eBif h
    clear h
    have h1 := Nat.eq_of_beq_eq_true h1
    subst h1
    obtain ⟨q, h2, h3⟩ := Option.bind_eq_some_iff.mp h5
    have hK : K_mm_waive [.ref 24, .int a1, .int a2] (eSM w) (fun v w => some (v, w)) = some (some (.int q.1), q.2) := by
      show (f_mm_waive a1 a2 (eSM w)).bind (fun p => some (some (Value.int p.1), p.2)) = _
      rw [h2]
      rfl
    obtain ⟨v, w2, e1, hM⟩ := ok_mm_waive (l := l) (ad := fun i => ad (phM i)) (D := D) (cA := cA) _ _ _ _ hK
    cases e1
    exact ⟨_, _, h3, eLiftM (xs := xs) hM (fun a h => by cases h)⟩
  · cases h
noncomputable def KL_xx_rank {ρ : Type} : eF ρ := fun as w k => match as with
  | [.ref r0, .int a1, .int a2] => bif Nat.beq r0 38 then (f_xx_rank a1 a2 w).bind (fun p => k (some (.int p.1)) (eMgC p.2 w)) else none
  | _ => none
set_option maxRecDepth 100000 in
set_option maxHeartbeats 4000000 in
theorem okL_xx_rank {l : Launch} {ad : Nat → Nat} {D : va_G} {cA : Nat → ClassId} {xs : List Int32} {ρ : Type} (as : List Value) (w : eW) (k : Option Value → eW → Option ρ) (x : ρ) (h : KL_xx_rank as w k = some x) : ∃ (v : Option Value) (w2 : eW), k v w2 = some x ∧ eMet l ad D cA vwCl SHl (SSl xs) yX11_rank (eWd yX11_rank cX11_rank 4 (some .int)) { frames := 2, cells := 0, slots := 0, locals := 83 } as w v w2 := by
  unfold KL_xx_rank at h
  split at h
  · rename_i r0 a1 a2
    obtain ⟨h1, h5⟩ := eBif h
    clear h
    have h1 := Nat.eq_of_beq_eq_true h1
    subst h1
    obtain ⟨q, h2, h3⟩ := Option.bind_eq_some_iff.mp h5
    have hK : K_xx_rank [.ref 38, .int a1, .int a2] w (fun v w => some (v, w)) = some (some (.int q.1), q.2) := by
      show (f_xx_rank a1 a2 w).bind (fun p => some (some (Value.int p.1), p.2)) = _
      rw [h2]
      rfl
    obtain ⟨v, w2, e1, hM⟩ := ok_xx_rank (l := l) (ad := fun i => ad (phC i)) (D := D) (cA := cA) _ _ _ _ hK
    cases e1
    exact ⟨_, _, h3, eLiftC (xs := xs) hM (fun a h => by cases h)⟩
  · cases h
noncomputable def KL_mm_rank {ρ : Type} : eF ρ := fun as w k => match as with
  | [.ref r0, .int a1, .int a2] => bif Nat.beq r0 63 then (f_mm_rank a1 a2 (eSM w)).bind (fun p => k (some (.int p.1)) (eMgM p.2 w)) else none
  | _ => none
set_option maxRecDepth 100000 in
set_option maxHeartbeats 4000000 in
theorem okL_mm_rank {l : Launch} {ad : Nat → Nat} {D : va_G} {cA : Nat → ClassId} {xs : List Int32} {ρ : Type} (as : List Value) (w : eW) (k : Option Value → eW → Option ρ) (x : ρ) (h : KL_mm_rank as w k = some x) : ∃ (v : Option Value) (w2 : eW), k v w2 = some x ∧ eMet l ad D cA vwCl SHl (SSl xs) yX12_rank (eWd yX12_rank cX12_rank 4 (some .int)) { frames := 3, cells := 0, slots := 0, locals := 64 } as w v w2 := by
  unfold KL_mm_rank at h
  split at h
  · rename_i r0 a1 a2
    obtain ⟨h1, h5⟩ := eBif h
    clear h
    have h1 := Nat.eq_of_beq_eq_true h1
    subst h1
    obtain ⟨q, h2, h3⟩ := Option.bind_eq_some_iff.mp h5
    have hK : K_mm_rank [.ref 24, .int a1, .int a2] (eSM w) (fun v w => some (v, w)) = some (some (.int q.1), q.2) := by
      show (f_mm_rank a1 a2 (eSM w)).bind (fun p => some (some (Value.int p.1), p.2)) = _
      rw [h2]
      rfl
    obtain ⟨v, w2, e1, hM⟩ := ok_mm_rank (l := l) (ad := fun i => ad (phM i)) (D := D) (cA := cA) _ _ _ _ hK
    cases e1
    exact ⟨_, _, h3, eLiftM (xs := xs) hM (fun a h => by cases h)⟩
  · cases h
noncomputable def KL_xx_undo {ρ : Type} : eF ρ := fun as w k => match as with
  | [.ref r0] => bif Nat.beq r0 38 then (f_xx_undo w).bind (fun p => k (some (.int p.1)) (eMgC p.2 w)) else none
  | _ => none
set_option maxRecDepth 100000 in
set_option maxHeartbeats 4000000 in
theorem okL_xx_undo {l : Launch} {ad : Nat → Nat} {D : va_G} {cA : Nat → ClassId} {xs : List Int32} {ρ : Type} (as : List Value) (w : eW) (k : Option Value → eW → Option ρ) (x : ρ) (h : KL_xx_undo as w k = some x) : ∃ (v : Option Value) (w2 : eW), k v w2 = some x ∧ eMet l ad D cA vwCl SHl (SSl xs) yX11_undo (eWd yX11_undo cX11_undo 3 (some .boolean)) { frames := 2, cells := 0, slots := 0, locals := 80 } as w v w2 := by
  unfold KL_xx_undo at h
  split at h
  · rename_i r0
    obtain ⟨h1, h5⟩ := eBif h
    clear h
    have h1 := Nat.eq_of_beq_eq_true h1
    subst h1
    obtain ⟨q, h2, h3⟩ := Option.bind_eq_some_iff.mp h5
    have hK : K_xx_undo [.ref 38] w (fun v w => some (v, w)) = some (some (.int q.1), q.2) := by
      show (f_xx_undo w).bind (fun p => some (some (Value.int p.1), p.2)) = _
      rw [h2]
      rfl
    obtain ⟨v, w2, e1, hM⟩ := ok_xx_undo (l := l) (ad := fun i => ad (phC i)) (D := D) (cA := cA) _ _ _ _ hK
    cases e1
    exact ⟨_, _, h3, eLiftC (xs := xs) hM (fun a h => by cases h)⟩
  · cases h
noncomputable def KL_mm_undo {ρ : Type} : eF ρ := fun as w k => match as with
  | [.ref r0] => bif Nat.beq r0 63 then (f_mm_undo (eSM w)).bind (fun p => k (some (.int p.1)) (eMgM p.2 w)) else none
  | _ => none
set_option maxRecDepth 100000 in
set_option maxHeartbeats 4000000 in
theorem okL_mm_undo {l : Launch} {ad : Nat → Nat} {D : va_G} {cA : Nat → ClassId} {xs : List Int32} {ρ : Type} (as : List Value) (w : eW) (k : Option Value → eW → Option ρ) (x : ρ) (h : KL_mm_undo as w k = some x) : ∃ (v : Option Value) (w2 : eW), k v w2 = some x ∧ eMet l ad D cA vwCl SHl (SSl xs) yX12_undo (eWd yX12_undo cX12_undo 3 (some .boolean)) { frames := 0, cells := 0, slots := 0, locals := 0 } as w v w2 := by
  unfold KL_mm_undo at h
  split at h
  · rename_i r0
    obtain ⟨h1, h5⟩ := eBif h
    clear h
    have h1 := Nat.eq_of_beq_eq_true h1
    subst h1
    obtain ⟨q, h2, h3⟩ := Option.bind_eq_some_iff.mp h5
    have hK : K_mm_undo [.ref 24] (eSM w) (fun v w => some (v, w)) = some (some (.int q.1), q.2) := by
      show (f_mm_undo (eSM w)).bind (fun p => some (some (Value.int p.1), p.2)) = _
      rw [h2]
      rfl
    obtain ⟨v, w2, e1, hM⟩ := ok_mm_undo (l := l) (ad := fun i => ad (phM i)) (D := D) (cA := cA) _ _ _ _ hK
    cases e1
    exact ⟨_, _, h3, eLiftM (xs := xs) hM (fun a h => by cases h)⟩
  · cases h
def rs_law : List (Nat × eR) := [(13, (1, 0, 5, 10)), (17, (1, 1, 5, 11)), (18, (1, 2, 1, 10)), (22, (1, 3, 1, 11)), (23, (1, 4, 0, 10)), (27, (1, 5, 0, 11)), (28, (1, 6, 1, 10)), (31, (1, 7, 1, 11)), (32, (1, 8, 1, 10)), (35, (1, 9, 1, 11)), (36, (1, 10, 2, 10)), (40, (1, 11, 2, 11)), (41, (1, 12, 3, 10)), (45, (1, 13, 3, 11)), (46, (1, 14, 2, 10)), (49, (1, 15, 2, 11)), (50, (1, 16, 2, 10)), (53, (1, 17, 2, 11)), (54, (1, 18, 2, 10)), (58, (1, 19, 2, 11)), (59, (1, 20, 2, 10)), (62, (1, 21, 2, 11)), (63, (1, 22, 3, 10)), (67, (1, 23, 3, 11)), (68, (1, 24, 1, 10)), (71, (1, 25, 1, 11)), (72, (1, 26, 3, 10)), (75, (1, 27, 3, 11)), (76, (1, 28, 4, 10)), (80, (1, 29, 4, 11)), (81, (1, 30, 2, 10)), (84, (1, 31, 2, 11)), (85, (1, 32, 1, 10)), (88, (1, 33, 1, 11)), (89, (1, 34, 2, 10)), (92, (1, 35, 2, 11)), (93, (1, 36, 2, 10)), (96, (1, 37, 2, 11)), (97, (1, 38, 3, 10)), (100, (1, 39, 3, 11)), (101, (1, 40, 4, 10)), (105, (1, 41, 4, 11)), (106, (1, 42, 2, 10)), (109, (1, 43, 2, 11)), (110, (1, 44, 2, 10)), (113, (1, 45, 2, 11)), (114, (1, 46, 2, 10)), (117, (1, 47, 2, 11)), (118, (1, 48, 2, 10)), (122, (1, 49, 2, 11)), (123, (1, 50, 1, 10)), (126, (1, 51, 1, 11)), (127, (1, 52, 2, 10)), (130, (1, 53, 2, 11)), (131, (1, 54, 1, 10)), (135, (1, 55, 1, 11)), (136, (1, 56, 2, 10)), (139, (1, 57, 2, 11)), (140, (1, 58, 3, 10)), (143, (1, 59, 3, 11)), (144, (1, 60, 2, 10)), (147, (1, 61, 2, 11)), (148, (1, 62, 2, 10)), (152, (1, 63, 2, 11)), (153, (1, 64, 2, 10)), (156, (1, 65, 2, 11)), (157, (1, 66, 0, 10)), (161, (1, 67, 0, 11))]
noncomputable def cs_law : List (eF (eW)) := [KL_xx_feed, KL_mm_feed, KL_xx_end, KL_mm_end, KL_xx_text, KL_mm_text, KL_xx_fault, KL_mm_fault, KL_xx_about, KL_mm_about, KL_xx_holder, KL_mm_holder, KL_xx_has, KL_mm_has, KL_xx_state, KL_mm_state, KL_xx_paid, KL_mm_paid, KL_xx_level, KL_mm_level, KL_xx_least, KL_mm_least, KL_xx_flat, KL_mm_flat, KL_xx_unpaid, KL_mm_unpaid, KL_xx_wants, KL_mm_wants, KL_xx_dilutes, KL_mm_dilutes, KL_xx_prefers, KL_mm_prefers, KL_xx_votes, KL_mm_votes, KL_xx_passes, KL_mm_passes, KL_xx_breaks, KL_mm_breaks, KL_xx_part, KL_mm_part, KL_xx_chosen, KL_mm_chosen, KL_xx_steady, KL_mm_steady, KL_xx_steadies, KL_mm_steadies, KL_xx_close, KL_mm_close, KL_xx_release, KL_mm_release, KL_xx_sale, KL_mm_sale, KL_xx_guess, KL_mm_guess, KL_xx_mean, KL_mm_mean, KL_xx_multiple, KL_mm_multiple, KL_xx_yields, KL_mm_yields, KL_xx_grant, KL_mm_grant, KL_xx_waive, KL_mm_waive, KL_xx_rank, KL_mm_rank, KL_xx_undo, KL_mm_undo]
noncomputable def f_law (xs : List Int32) : Nat → Int32 → eW → Option eW
  | 0, _, _ => none
  | n + 1, a3, w => (if ((Int32.ofNat xs.length) - (6 : Int32)) < a3 then (some w) else (eChk a3 xs.length (if ((List.getD xs (Int32.toNatClampNeg a3) 0) &&& (63 : Int32)) = (0 : Int32) then (eChk (a3 + (1 : Int32)) xs.length (eChk (a3 + (2 : Int32)) xs.length (eChk (a3 + (3 : Int32)) xs.length (eChk (a3 + (4 : Int32)) xs.length (eChk (a3 + (5 : Int32)) xs.length ((f_xx_feed (List.getD xs (Int32.toNatClampNeg (a3 + (1 : Int32))) 0) (List.getD xs (Int32.toNatClampNeg (a3 + (2 : Int32))) 0) (List.getD xs (Int32.toNatClampNeg (a3 + (3 : Int32))) 0) (List.getD xs (Int32.toNatClampNeg (a3 + (4 : Int32))) 0) (List.getD xs (Int32.toNatClampNeg (a3 + (5 : Int32))) 0) w).bind fun p1 => (eChk (a3 + (1 : Int32)) xs.length (eChk (a3 + (2 : Int32)) xs.length (eChk (a3 + (3 : Int32)) xs.length (eChk (a3 + (4 : Int32)) xs.length (eChk (a3 + (5 : Int32)) xs.length ((f_mm_feed (List.getD xs (Int32.toNatClampNeg (a3 + (1 : Int32))) 0) (List.getD xs (Int32.toNatClampNeg (a3 + (2 : Int32))) 0) (List.getD xs (Int32.toNatClampNeg (a3 + (3 : Int32))) 0) (List.getD xs (Int32.toNatClampNeg (a3 + (4 : Int32))) 0) (List.getD xs (Int32.toNatClampNeg (a3 + (5 : Int32))) 0) (eSM (eMgC p1.2 w))).bind fun p2 => (if p1.1 = p2.1 then (f_law xs n (a3 + (6 : Int32)) (eMgM p2.2 (eMgC p1.2 w))) else none))))))))))))) else (if ((List.getD xs (Int32.toNatClampNeg a3) 0) &&& (63 : Int32)) = (1 : Int32) then (eChk (a3 + (1 : Int32)) xs.length ((f_xx_end (List.getD xs (Int32.toNatClampNeg (a3 + (1 : Int32))) 0) w).bind fun p3 => (eChk (a3 + (1 : Int32)) xs.length ((f_mm_end (List.getD xs (Int32.toNatClampNeg (a3 + (1 : Int32))) 0) (eSM (eMgC p3.2 w))).bind fun p4 => (if p3.1 = p4.1 then (f_law xs n (a3 + (6 : Int32)) (eMgM p4.2 (eMgC p3.2 w))) else none))))) else (if ((List.getD xs (Int32.toNatClampNeg a3) 0) &&& (63 : Int32)) = (2 : Int32) then ((f_xx_text w).bind fun p5 => ((f_mm_text (eSM (eMgC p5.2 w))).bind fun p6 => (if p5.1 = p6.1 then (f_law xs n (a3 + (6 : Int32)) (eMgM p6.2 (eMgC p5.2 w))) else none))) else (if ((List.getD xs (Int32.toNatClampNeg a3) 0) &&& (63 : Int32)) = (3 : Int32) then (eChk (a3 + (1 : Int32)) xs.length ((f_xx_fault (List.getD xs (Int32.toNatClampNeg (a3 + (1 : Int32))) 0) w).bind fun p7 => (eChk (a3 + (1 : Int32)) xs.length ((f_mm_fault (List.getD xs (Int32.toNatClampNeg (a3 + (1 : Int32))) 0) (eSM (eMgC p7.2 w))).bind fun p8 => (if p7.1 = p8.1 then (f_law xs n (a3 + (6 : Int32)) (eMgM p8.2 (eMgC p7.2 w))) else none))))) else (if ((List.getD xs (Int32.toNatClampNeg a3) 0) &&& (63 : Int32)) = (4 : Int32) then (eChk (a3 + (1 : Int32)) xs.length ((f_xx_about (List.getD xs (Int32.toNatClampNeg (a3 + (1 : Int32))) 0) w).bind fun p9 => (eChk (a3 + (1 : Int32)) xs.length ((f_mm_about (List.getD xs (Int32.toNatClampNeg (a3 + (1 : Int32))) 0) (eSM (eMgC p9.2 w))).bind fun p10 => (if p9.1 = p10.1 then (f_law xs n (a3 + (6 : Int32)) (eMgM p10.2 (eMgC p9.2 w))) else none))))) else (if ((List.getD xs (Int32.toNatClampNeg a3) 0) &&& (63 : Int32)) = (5 : Int32) then (eChk (a3 + (1 : Int32)) xs.length (eChk (a3 + (2 : Int32)) xs.length ((f_xx_holder (List.getD xs (Int32.toNatClampNeg (a3 + (1 : Int32))) 0) (List.getD xs (Int32.toNatClampNeg (a3 + (2 : Int32))) 0) w).bind fun p11 => (eChk (a3 + (1 : Int32)) xs.length (eChk (a3 + (2 : Int32)) xs.length ((f_mm_holder (List.getD xs (Int32.toNatClampNeg (a3 + (1 : Int32))) 0) (List.getD xs (Int32.toNatClampNeg (a3 + (2 : Int32))) 0) (eSM (eMgC p11.2 w))).bind fun p12 => (if p11.1 = p12.1 then (f_law xs n (a3 + (6 : Int32)) (eMgM p12.2 (eMgC p11.2 w))) else none))))))) else (if ((List.getD xs (Int32.toNatClampNeg a3) 0) &&& (63 : Int32)) = (6 : Int32) then (eChk (a3 + (1 : Int32)) xs.length (eChk (a3 + (2 : Int32)) xs.length (eChk (a3 + (3 : Int32)) xs.length ((f_xx_has (List.getD xs (Int32.toNatClampNeg (a3 + (1 : Int32))) 0) (List.getD xs (Int32.toNatClampNeg (a3 + (2 : Int32))) 0) (List.getD xs (Int32.toNatClampNeg (a3 + (3 : Int32))) 0) w).bind fun p13 => (eChk (a3 + (1 : Int32)) xs.length (eChk (a3 + (2 : Int32)) xs.length (eChk (a3 + (3 : Int32)) xs.length ((f_mm_has (List.getD xs (Int32.toNatClampNeg (a3 + (1 : Int32))) 0) (List.getD xs (Int32.toNatClampNeg (a3 + (2 : Int32))) 0) (List.getD xs (Int32.toNatClampNeg (a3 + (3 : Int32))) 0) (eSM (eMgC p13.2 w))).bind fun p14 => (if (lg_cmp p13.1 p14.1) = 0 then (f_law xs n (a3 + (6 : Int32)) (eMgM p14.2 (eMgC p13.2 w))) else none))))))))) else (if ((List.getD xs (Int32.toNatClampNeg a3) 0) &&& (63 : Int32)) = (7 : Int32) then (eChk (a3 + (1 : Int32)) xs.length (eChk (a3 + (2 : Int32)) xs.length ((f_xx_state (List.getD xs (Int32.toNatClampNeg (a3 + (1 : Int32))) 0) (List.getD xs (Int32.toNatClampNeg (a3 + (2 : Int32))) 0) w).bind fun p15 => (eChk (a3 + (1 : Int32)) xs.length (eChk (a3 + (2 : Int32)) xs.length ((f_mm_state (List.getD xs (Int32.toNatClampNeg (a3 + (1 : Int32))) 0) (List.getD xs (Int32.toNatClampNeg (a3 + (2 : Int32))) 0) (eSM (eMgC p15.2 w))).bind fun p16 => (if p15.1 = p16.1 then (f_law xs n (a3 + (6 : Int32)) (eMgM p16.2 (eMgC p15.2 w))) else none))))))) else (if ((List.getD xs (Int32.toNatClampNeg a3) 0) &&& (63 : Int32)) = (8 : Int32) then (eChk (a3 + (1 : Int32)) xs.length (eChk (a3 + (2 : Int32)) xs.length ((f_xx_paid (List.getD xs (Int32.toNatClampNeg (a3 + (1 : Int32))) 0) (List.getD xs (Int32.toNatClampNeg (a3 + (2 : Int32))) 0) w).bind fun p17 => (eChk (a3 + (1 : Int32)) xs.length (eChk (a3 + (2 : Int32)) xs.length ((f_mm_paid (List.getD xs (Int32.toNatClampNeg (a3 + (1 : Int32))) 0) (List.getD xs (Int32.toNatClampNeg (a3 + (2 : Int32))) 0) (eSM (eMgC p17.2 w))).bind fun p18 => (if p17.1 = p18.1 then (f_law xs n (a3 + (6 : Int32)) (eMgM p18.2 (eMgC p17.2 w))) else none))))))) else (if ((List.getD xs (Int32.toNatClampNeg a3) 0) &&& (63 : Int32)) = (9 : Int32) then (eChk (a3 + (1 : Int32)) xs.length (eChk (a3 + (2 : Int32)) xs.length ((f_xx_level (List.getD xs (Int32.toNatClampNeg (a3 + (1 : Int32))) 0) (List.getD xs (Int32.toNatClampNeg (a3 + (2 : Int32))) 0) w).bind fun p19 => (eChk (a3 + (1 : Int32)) xs.length (eChk (a3 + (2 : Int32)) xs.length ((f_mm_level (List.getD xs (Int32.toNatClampNeg (a3 + (1 : Int32))) 0) (List.getD xs (Int32.toNatClampNeg (a3 + (2 : Int32))) 0) (eSM (eMgC p19.2 w))).bind fun p20 => (if (lg_cmp p19.1 p20.1) = 0 then (f_law xs n (a3 + (6 : Int32)) (eMgM p20.2 (eMgC p19.2 w))) else none))))))) else (if ((List.getD xs (Int32.toNatClampNeg a3) 0) &&& (63 : Int32)) = (10 : Int32) then (eChk (a3 + (1 : Int32)) xs.length (eChk (a3 + (2 : Int32)) xs.length ((f_xx_least (List.getD xs (Int32.toNatClampNeg (a3 + (1 : Int32))) 0) (List.getD xs (Int32.toNatClampNeg (a3 + (2 : Int32))) 0) w).bind fun p21 => (eChk (a3 + (1 : Int32)) xs.length (eChk (a3 + (2 : Int32)) xs.length ((f_mm_least (List.getD xs (Int32.toNatClampNeg (a3 + (1 : Int32))) 0) (List.getD xs (Int32.toNatClampNeg (a3 + (2 : Int32))) 0) (eSM (eMgC p21.2 w))).bind fun p22 => (if p21.1 = p22.1 then (f_law xs n (a3 + (6 : Int32)) (eMgM p22.2 (eMgC p21.2 w))) else none))))))) else (if ((List.getD xs (Int32.toNatClampNeg a3) 0) &&& (63 : Int32)) = (11 : Int32) then (eChk (a3 + (1 : Int32)) xs.length (eChk (a3 + (2 : Int32)) xs.length (eChk (a3 + (3 : Int32)) xs.length ((f_xx_flat (List.getD xs (Int32.toNatClampNeg (a3 + (1 : Int32))) 0) (List.getD xs (Int32.toNatClampNeg (a3 + (2 : Int32))) 0) (List.getD xs (Int32.toNatClampNeg (a3 + (3 : Int32))) 0) w).bind fun p23 => (eChk (a3 + (1 : Int32)) xs.length (eChk (a3 + (2 : Int32)) xs.length (eChk (a3 + (3 : Int32)) xs.length ((f_mm_flat (List.getD xs (Int32.toNatClampNeg (a3 + (1 : Int32))) 0) (List.getD xs (Int32.toNatClampNeg (a3 + (2 : Int32))) 0) (List.getD xs (Int32.toNatClampNeg (a3 + (3 : Int32))) 0) (eSM (eMgC p23.2 w))).bind fun p24 => (if p23.1 = p24.1 then (f_law xs n (a3 + (6 : Int32)) (eMgM p24.2 (eMgC p23.2 w))) else none))))))))) else (if ((List.getD xs (Int32.toNatClampNeg a3) 0) &&& (63 : Int32)) = (12 : Int32) then (eChk (a3 + (1 : Int32)) xs.length ((f_xx_unpaid (List.getD xs (Int32.toNatClampNeg (a3 + (1 : Int32))) 0) w).bind fun p25 => (eChk (a3 + (1 : Int32)) xs.length ((f_mm_unpaid (List.getD xs (Int32.toNatClampNeg (a3 + (1 : Int32))) 0) (eSM (eMgC p25.2 w))).bind fun p26 => (if p25.1 = p26.1 then (f_law xs n (a3 + (6 : Int32)) (eMgM p26.2 (eMgC p25.2 w))) else none))))) else (if ((List.getD xs (Int32.toNatClampNeg a3) 0) &&& (63 : Int32)) = (13 : Int32) then (eChk (a3 + (1 : Int32)) xs.length (eChk (a3 + (2 : Int32)) xs.length (eChk (a3 + (3 : Int32)) xs.length ((f_xx_wants (List.getD xs (Int32.toNatClampNeg (a3 + (1 : Int32))) 0) (List.getD xs (Int32.toNatClampNeg (a3 + (2 : Int32))) 0) (List.getD xs (Int32.toNatClampNeg (a3 + (3 : Int32))) 0) w).bind fun p27 => (eChk (a3 + (1 : Int32)) xs.length (eChk (a3 + (2 : Int32)) xs.length (eChk (a3 + (3 : Int32)) xs.length ((f_mm_wants (List.getD xs (Int32.toNatClampNeg (a3 + (1 : Int32))) 0) (List.getD xs (Int32.toNatClampNeg (a3 + (2 : Int32))) 0) (List.getD xs (Int32.toNatClampNeg (a3 + (3 : Int32))) 0) (eSM (eMgC p27.2 w))).bind fun p28 => (if p27.1 = p28.1 then (f_law xs n (a3 + (6 : Int32)) (eMgM p28.2 (eMgC p27.2 w))) else none))))))))) else (if ((List.getD xs (Int32.toNatClampNeg a3) 0) &&& (63 : Int32)) = (14 : Int32) then (eChk (a3 + (1 : Int32)) xs.length (eChk (a3 + (2 : Int32)) xs.length (eChk (a3 + (3 : Int32)) xs.length (eChk (a3 + (4 : Int32)) xs.length ((f_xx_dilutes (List.getD xs (Int32.toNatClampNeg (a3 + (1 : Int32))) 0) (List.getD xs (Int32.toNatClampNeg (a3 + (2 : Int32))) 0) (List.getD xs (Int32.toNatClampNeg (a3 + (3 : Int32))) 0) (List.getD xs (Int32.toNatClampNeg (a3 + (4 : Int32))) 0) w).bind fun p29 => (eChk (a3 + (1 : Int32)) xs.length (eChk (a3 + (2 : Int32)) xs.length (eChk (a3 + (3 : Int32)) xs.length (eChk (a3 + (4 : Int32)) xs.length ((f_mm_dilutes (List.getD xs (Int32.toNatClampNeg (a3 + (1 : Int32))) 0) (List.getD xs (Int32.toNatClampNeg (a3 + (2 : Int32))) 0) (List.getD xs (Int32.toNatClampNeg (a3 + (3 : Int32))) 0) (List.getD xs (Int32.toNatClampNeg (a3 + (4 : Int32))) 0) (eSM (eMgC p29.2 w))).bind fun p30 => (if p29.1 = p30.1 then (f_law xs n (a3 + (6 : Int32)) (eMgM p30.2 (eMgC p29.2 w))) else none))))))))))) else (if ((List.getD xs (Int32.toNatClampNeg a3) 0) &&& (63 : Int32)) = (15 : Int32) then (eChk (a3 + (1 : Int32)) xs.length (eChk (a3 + (2 : Int32)) xs.length ((f_xx_prefers (List.getD xs (Int32.toNatClampNeg (a3 + (1 : Int32))) 0) (List.getD xs (Int32.toNatClampNeg (a3 + (2 : Int32))) 0) w).bind fun p31 => (eChk (a3 + (1 : Int32)) xs.length (eChk (a3 + (2 : Int32)) xs.length ((f_mm_prefers (List.getD xs (Int32.toNatClampNeg (a3 + (1 : Int32))) 0) (List.getD xs (Int32.toNatClampNeg (a3 + (2 : Int32))) 0) (eSM (eMgC p31.2 w))).bind fun p32 => (if p31.1 = p32.1 then (f_law xs n (a3 + (6 : Int32)) (eMgM p32.2 (eMgC p31.2 w))) else none))))))) else (if ((List.getD xs (Int32.toNatClampNeg a3) 0) &&& (63 : Int32)) = (16 : Int32) then (eChk (a3 + (1 : Int32)) xs.length ((f_xx_votes (List.getD xs (Int32.toNatClampNeg (a3 + (1 : Int32))) 0) w).bind fun p33 => (eChk (a3 + (1 : Int32)) xs.length ((f_mm_votes (List.getD xs (Int32.toNatClampNeg (a3 + (1 : Int32))) 0) (eSM (eMgC p33.2 w))).bind fun p34 => (if p33.1 = p34.1 then (f_law xs n (a3 + (6 : Int32)) (eMgM p34.2 (eMgC p33.2 w))) else none))))) else (if ((List.getD xs (Int32.toNatClampNeg a3) 0) &&& (63 : Int32)) = (17 : Int32) then (eChk (a3 + (1 : Int32)) xs.length (eChk (a3 + (2 : Int32)) xs.length ((f_xx_passes (List.getD xs (Int32.toNatClampNeg (a3 + (1 : Int32))) 0) (List.getD xs (Int32.toNatClampNeg (a3 + (2 : Int32))) 0) w).bind fun p35 => (eChk (a3 + (1 : Int32)) xs.length (eChk (a3 + (2 : Int32)) xs.length ((f_mm_passes (List.getD xs (Int32.toNatClampNeg (a3 + (1 : Int32))) 0) (List.getD xs (Int32.toNatClampNeg (a3 + (2 : Int32))) 0) (eSM (eMgC p35.2 w))).bind fun p36 => (if p35.1 = p36.1 then (f_law xs n (a3 + (6 : Int32)) (eMgM p36.2 (eMgC p35.2 w))) else none))))))) else (if ((List.getD xs (Int32.toNatClampNeg a3) 0) &&& (63 : Int32)) = (18 : Int32) then (eChk (a3 + (1 : Int32)) xs.length (eChk (a3 + (2 : Int32)) xs.length ((f_xx_breaks (List.getD xs (Int32.toNatClampNeg (a3 + (1 : Int32))) 0) (List.getD xs (Int32.toNatClampNeg (a3 + (2 : Int32))) 0) w).bind fun p37 => (eChk (a3 + (1 : Int32)) xs.length (eChk (a3 + (2 : Int32)) xs.length ((f_mm_breaks (List.getD xs (Int32.toNatClampNeg (a3 + (1 : Int32))) 0) (List.getD xs (Int32.toNatClampNeg (a3 + (2 : Int32))) 0) (eSM (eMgC p37.2 w))).bind fun p38 => (if (lg_cmp p37.1 p38.1) = 0 then (f_law xs n (a3 + (6 : Int32)) (eMgM p38.2 (eMgC p37.2 w))) else none))))))) else (if ((List.getD xs (Int32.toNatClampNeg a3) 0) &&& (63 : Int32)) = (19 : Int32) then (eChk (a3 + (1 : Int32)) xs.length (eChk (a3 + (2 : Int32)) xs.length (eChk (a3 + (3 : Int32)) xs.length ((f_xx_part (List.getD xs (Int32.toNatClampNeg (a3 + (1 : Int32))) 0) (List.getD xs (Int32.toNatClampNeg (a3 + (2 : Int32))) 0) (List.getD xs (Int32.toNatClampNeg (a3 + (3 : Int32))) 0) w).bind fun p39 => (eChk (a3 + (1 : Int32)) xs.length (eChk (a3 + (2 : Int32)) xs.length (eChk (a3 + (3 : Int32)) xs.length ((f_mm_part (List.getD xs (Int32.toNatClampNeg (a3 + (1 : Int32))) 0) (List.getD xs (Int32.toNatClampNeg (a3 + (2 : Int32))) 0) (List.getD xs (Int32.toNatClampNeg (a3 + (3 : Int32))) 0) (eSM (eMgC p39.2 w))).bind fun p40 => (if (lg_cmp p39.1 p40.1) = 0 then (f_law xs n (a3 + (6 : Int32)) (eMgM p40.2 (eMgC p39.2 w))) else none))))))))) else (if ((List.getD xs (Int32.toNatClampNeg a3) 0) &&& (63 : Int32)) = (20 : Int32) then (eChk (a3 + (1 : Int32)) xs.length (eChk (a3 + (2 : Int32)) xs.length (eChk (a3 + (3 : Int32)) xs.length (eChk (a3 + (4 : Int32)) xs.length ((f_xx_chosen (List.getD xs (Int32.toNatClampNeg (a3 + (1 : Int32))) 0) (List.getD xs (Int32.toNatClampNeg (a3 + (2 : Int32))) 0) (List.getD xs (Int32.toNatClampNeg (a3 + (3 : Int32))) 0) (List.getD xs (Int32.toNatClampNeg (a3 + (4 : Int32))) 0) w).bind fun p41 => (eChk (a3 + (1 : Int32)) xs.length (eChk (a3 + (2 : Int32)) xs.length (eChk (a3 + (3 : Int32)) xs.length (eChk (a3 + (4 : Int32)) xs.length ((f_mm_chosen (List.getD xs (Int32.toNatClampNeg (a3 + (1 : Int32))) 0) (List.getD xs (Int32.toNatClampNeg (a3 + (2 : Int32))) 0) (List.getD xs (Int32.toNatClampNeg (a3 + (3 : Int32))) 0) (List.getD xs (Int32.toNatClampNeg (a3 + (4 : Int32))) 0) (eSM (eMgC p41.2 w))).bind fun p42 => (if (lg_cmp p41.1 p42.1) = 0 then (f_law xs n (a3 + (6 : Int32)) (eMgM p42.2 (eMgC p41.2 w))) else none))))))))))) else (if ((List.getD xs (Int32.toNatClampNeg a3) 0) &&& (63 : Int32)) = (21 : Int32) then (eChk (a3 + (1 : Int32)) xs.length (eChk (a3 + (2 : Int32)) xs.length ((f_xx_steady (List.getD xs (Int32.toNatClampNeg (a3 + (1 : Int32))) 0) (List.getD xs (Int32.toNatClampNeg (a3 + (2 : Int32))) 0) w).bind fun p43 => (eChk (a3 + (1 : Int32)) xs.length (eChk (a3 + (2 : Int32)) xs.length ((f_mm_steady (List.getD xs (Int32.toNatClampNeg (a3 + (1 : Int32))) 0) (List.getD xs (Int32.toNatClampNeg (a3 + (2 : Int32))) 0) (eSM (eMgC p43.2 w))).bind fun p44 => (if p43.1 = p44.1 then (f_law xs n (a3 + (6 : Int32)) (eMgM p44.2 (eMgC p43.2 w))) else none))))))) else (if ((List.getD xs (Int32.toNatClampNeg a3) 0) &&& (63 : Int32)) = (22 : Int32) then (eChk (a3 + (1 : Int32)) xs.length (eChk (a3 + (2 : Int32)) xs.length ((f_xx_steadies (List.getD xs (Int32.toNatClampNeg (a3 + (1 : Int32))) 0) (List.getD xs (Int32.toNatClampNeg (a3 + (2 : Int32))) 0) w).bind fun p45 => (eChk (a3 + (1 : Int32)) xs.length (eChk (a3 + (2 : Int32)) xs.length ((f_mm_steadies (List.getD xs (Int32.toNatClampNeg (a3 + (1 : Int32))) 0) (List.getD xs (Int32.toNatClampNeg (a3 + (2 : Int32))) 0) (eSM (eMgC p45.2 w))).bind fun p46 => (if p45.1 = p46.1 then (f_law xs n (a3 + (6 : Int32)) (eMgM p46.2 (eMgC p45.2 w))) else none))))))) else (if ((List.getD xs (Int32.toNatClampNeg a3) 0) &&& (63 : Int32)) = (23 : Int32) then (eChk (a3 + (1 : Int32)) xs.length (eChk (a3 + (2 : Int32)) xs.length ((f_xx_close (List.getD xs (Int32.toNatClampNeg (a3 + (1 : Int32))) 0) (List.getD xs (Int32.toNatClampNeg (a3 + (2 : Int32))) 0) w).bind fun p47 => (eChk (a3 + (1 : Int32)) xs.length (eChk (a3 + (2 : Int32)) xs.length ((f_mm_close (List.getD xs (Int32.toNatClampNeg (a3 + (1 : Int32))) 0) (List.getD xs (Int32.toNatClampNeg (a3 + (2 : Int32))) 0) (eSM (eMgC p47.2 w))).bind fun p48 => (if p47.1 = p48.1 then (f_law xs n (a3 + (6 : Int32)) (eMgM p48.2 (eMgC p47.2 w))) else none))))))) else (if ((List.getD xs (Int32.toNatClampNeg a3) 0) &&& (63 : Int32)) = (24 : Int32) then (eChk (a3 + (1 : Int32)) xs.length (eChk (a3 + (2 : Int32)) xs.length (if (List.getD xs (Int32.toNatClampNeg (a3 + (2 : Int32))) 0) = 0 then ((f_xx_release (List.getD xs (Int32.toNatClampNeg (a3 + (1 : Int32))) 0) (0 : Int32) w).bind fun p49 => (eChk (a3 + (1 : Int32)) xs.length (eChk (a3 + (2 : Int32)) xs.length (if (List.getD xs (Int32.toNatClampNeg (a3 + (2 : Int32))) 0) = 0 then ((f_mm_release (List.getD xs (Int32.toNatClampNeg (a3 + (1 : Int32))) 0) (0 : Int32) (eSM (eMgC p49.2 w))).bind fun p50 => (if p49.1 = p50.1 then (f_law xs n (a3 + (6 : Int32)) (eMgM p50.2 (eMgC p49.2 w))) else none)) else ((f_mm_release (List.getD xs (Int32.toNatClampNeg (a3 + (1 : Int32))) 0) (1 : Int32) (eSM (eMgC p49.2 w))).bind fun p51 => (if p49.1 = p51.1 then (f_law xs n (a3 + (6 : Int32)) (eMgM p51.2 (eMgC p49.2 w))) else none)))))) else ((f_xx_release (List.getD xs (Int32.toNatClampNeg (a3 + (1 : Int32))) 0) (1 : Int32) w).bind fun p52 => (eChk (a3 + (1 : Int32)) xs.length (eChk (a3 + (2 : Int32)) xs.length (if (List.getD xs (Int32.toNatClampNeg (a3 + (2 : Int32))) 0) = 0 then ((f_mm_release (List.getD xs (Int32.toNatClampNeg (a3 + (1 : Int32))) 0) (0 : Int32) (eSM (eMgC p52.2 w))).bind fun p53 => (if p52.1 = p53.1 then (f_law xs n (a3 + (6 : Int32)) (eMgM p53.2 (eMgC p52.2 w))) else none)) else ((f_mm_release (List.getD xs (Int32.toNatClampNeg (a3 + (1 : Int32))) 0) (1 : Int32) (eSM (eMgC p52.2 w))).bind fun p54 => (if p52.1 = p54.1 then (f_law xs n (a3 + (6 : Int32)) (eMgM p54.2 (eMgC p52.2 w))) else none))))))))) else (if ((List.getD xs (Int32.toNatClampNeg a3) 0) &&& (63 : Int32)) = (25 : Int32) then (eChk (a3 + (1 : Int32)) xs.length ((f_xx_sale (List.getD xs (Int32.toNatClampNeg (a3 + (1 : Int32))) 0) w).bind fun p55 => (eChk (a3 + (1 : Int32)) xs.length ((f_mm_sale (List.getD xs (Int32.toNatClampNeg (a3 + (1 : Int32))) 0) (eSM (eMgC p55.2 w))).bind fun p56 => (if p55.1 = p56.1 then (f_law xs n (a3 + (6 : Int32)) (eMgM p56.2 (eMgC p55.2 w))) else none))))) else (if ((List.getD xs (Int32.toNatClampNeg a3) 0) &&& (63 : Int32)) = (26 : Int32) then (eChk (a3 + (1 : Int32)) xs.length (eChk (a3 + (2 : Int32)) xs.length ((f_xx_guess (List.getD xs (Int32.toNatClampNeg (a3 + (1 : Int32))) 0) (List.getD xs (Int32.toNatClampNeg (a3 + (2 : Int32))) 0) w).bind fun p57 => (eChk (a3 + (1 : Int32)) xs.length (eChk (a3 + (2 : Int32)) xs.length ((f_mm_guess (List.getD xs (Int32.toNatClampNeg (a3 + (1 : Int32))) 0) (List.getD xs (Int32.toNatClampNeg (a3 + (2 : Int32))) 0) (eSM (eMgC p57.2 w))).bind fun p58 => (if p57.1 = p58.1 then (f_law xs n (a3 + (6 : Int32)) (eMgM p58.2 (eMgC p57.2 w))) else none))))))) else (if ((List.getD xs (Int32.toNatClampNeg a3) 0) &&& (63 : Int32)) = (27 : Int32) then (eChk (a3 + (1 : Int32)) xs.length ((f_xx_mean (List.getD xs (Int32.toNatClampNeg (a3 + (1 : Int32))) 0) w).bind fun p59 => (eChk (a3 + (1 : Int32)) xs.length ((f_mm_mean (List.getD xs (Int32.toNatClampNeg (a3 + (1 : Int32))) 0) (eSM (eMgC p59.2 w))).bind fun p60 => (if (lg_cmp p59.1 p60.1) = 0 then (f_law xs n (a3 + (6 : Int32)) (eMgM p60.2 (eMgC p59.2 w))) else none))))) else (if ((List.getD xs (Int32.toNatClampNeg a3) 0) &&& (63 : Int32)) = (28 : Int32) then (eChk (a3 + (1 : Int32)) xs.length (eChk (a3 + (2 : Int32)) xs.length ((f_xx_multiple (List.getD xs (Int32.toNatClampNeg (a3 + (1 : Int32))) 0) (List.getD xs (Int32.toNatClampNeg (a3 + (2 : Int32))) 0) w).bind fun p61 => (eChk (a3 + (1 : Int32)) xs.length (eChk (a3 + (2 : Int32)) xs.length ((f_mm_multiple (List.getD xs (Int32.toNatClampNeg (a3 + (1 : Int32))) 0) (List.getD xs (Int32.toNatClampNeg (a3 + (2 : Int32))) 0) (eSM (eMgC p61.2 w))).bind fun p62 => (if p61.1 = p62.1 then (f_law xs n (a3 + (6 : Int32)) (eMgM p62.2 (eMgC p61.2 w))) else none))))))) else (if ((List.getD xs (Int32.toNatClampNeg a3) 0) &&& (63 : Int32)) = (29 : Int32) then (eChk (a3 + (1 : Int32)) xs.length (eChk (a3 + (2 : Int32)) xs.length (eChk (a3 + (3 : Int32)) xs.length ((f_xx_yields (List.getD xs (Int32.toNatClampNeg (a3 + (1 : Int32))) 0) (List.getD xs (Int32.toNatClampNeg (a3 + (2 : Int32))) 0) (List.getD xs (Int32.toNatClampNeg (a3 + (3 : Int32))) 0) w).bind fun p63 => (eChk (a3 + (1 : Int32)) xs.length (eChk (a3 + (2 : Int32)) xs.length (eChk (a3 + (3 : Int32)) xs.length ((f_mm_yields (List.getD xs (Int32.toNatClampNeg (a3 + (1 : Int32))) 0) (List.getD xs (Int32.toNatClampNeg (a3 + (2 : Int32))) 0) (List.getD xs (Int32.toNatClampNeg (a3 + (3 : Int32))) 0) (eSM (eMgC p63.2 w))).bind fun p64 => (if p63.1 = p64.1 then (f_law xs n (a3 + (6 : Int32)) (eMgM p64.2 (eMgC p63.2 w))) else none))))))))) else (if ((List.getD xs (Int32.toNatClampNeg a3) 0) &&& (63 : Int32)) = (30 : Int32) then (eChk (a3 + (1 : Int32)) xs.length (eChk (a3 + (2 : Int32)) xs.length ((f_xx_grant (List.getD xs (Int32.toNatClampNeg (a3 + (1 : Int32))) 0) (List.getD xs (Int32.toNatClampNeg (a3 + (2 : Int32))) 0) w).bind fun p65 => (eChk (a3 + (1 : Int32)) xs.length (eChk (a3 + (2 : Int32)) xs.length ((f_mm_grant (List.getD xs (Int32.toNatClampNeg (a3 + (1 : Int32))) 0) (List.getD xs (Int32.toNatClampNeg (a3 + (2 : Int32))) 0) (eSM (eMgC p65.2 w))).bind fun p66 => (if p65.1 = p66.1 then (f_law xs n (a3 + (6 : Int32)) (eMgM p66.2 (eMgC p65.2 w))) else none))))))) else (if ((List.getD xs (Int32.toNatClampNeg a3) 0) &&& (63 : Int32)) = (31 : Int32) then (eChk (a3 + (1 : Int32)) xs.length (eChk (a3 + (2 : Int32)) xs.length (if (List.getD xs (Int32.toNatClampNeg (a3 + (2 : Int32))) 0) = 0 then ((f_xx_waive (List.getD xs (Int32.toNatClampNeg (a3 + (1 : Int32))) 0) (0 : Int32) w).bind fun p67 => (eChk (a3 + (1 : Int32)) xs.length (eChk (a3 + (2 : Int32)) xs.length (if (List.getD xs (Int32.toNatClampNeg (a3 + (2 : Int32))) 0) = 0 then ((f_mm_waive (List.getD xs (Int32.toNatClampNeg (a3 + (1 : Int32))) 0) (0 : Int32) (eSM (eMgC p67.2 w))).bind fun p68 => (if p67.1 = p68.1 then (f_law xs n (a3 + (6 : Int32)) (eMgM p68.2 (eMgC p67.2 w))) else none)) else ((f_mm_waive (List.getD xs (Int32.toNatClampNeg (a3 + (1 : Int32))) 0) (1 : Int32) (eSM (eMgC p67.2 w))).bind fun p69 => (if p67.1 = p69.1 then (f_law xs n (a3 + (6 : Int32)) (eMgM p69.2 (eMgC p67.2 w))) else none)))))) else ((f_xx_waive (List.getD xs (Int32.toNatClampNeg (a3 + (1 : Int32))) 0) (1 : Int32) w).bind fun p70 => (eChk (a3 + (1 : Int32)) xs.length (eChk (a3 + (2 : Int32)) xs.length (if (List.getD xs (Int32.toNatClampNeg (a3 + (2 : Int32))) 0) = 0 then ((f_mm_waive (List.getD xs (Int32.toNatClampNeg (a3 + (1 : Int32))) 0) (0 : Int32) (eSM (eMgC p70.2 w))).bind fun p71 => (if p70.1 = p71.1 then (f_law xs n (a3 + (6 : Int32)) (eMgM p71.2 (eMgC p70.2 w))) else none)) else ((f_mm_waive (List.getD xs (Int32.toNatClampNeg (a3 + (1 : Int32))) 0) (1 : Int32) (eSM (eMgC p70.2 w))).bind fun p72 => (if p70.1 = p72.1 then (f_law xs n (a3 + (6 : Int32)) (eMgM p72.2 (eMgC p70.2 w))) else none))))))))) else (if ((List.getD xs (Int32.toNatClampNeg a3) 0) &&& (63 : Int32)) = (32 : Int32) then (eChk (a3 + (1 : Int32)) xs.length (eChk (a3 + (2 : Int32)) xs.length ((f_xx_rank (List.getD xs (Int32.toNatClampNeg (a3 + (1 : Int32))) 0) (List.getD xs (Int32.toNatClampNeg (a3 + (2 : Int32))) 0) w).bind fun p73 => (eChk (a3 + (1 : Int32)) xs.length (eChk (a3 + (2 : Int32)) xs.length ((f_mm_rank (List.getD xs (Int32.toNatClampNeg (a3 + (1 : Int32))) 0) (List.getD xs (Int32.toNatClampNeg (a3 + (2 : Int32))) 0) (eSM (eMgC p73.2 w))).bind fun p74 => (if p73.1 = p74.1 then (f_law xs n (a3 + (6 : Int32)) (eMgM p74.2 (eMgC p73.2 w))) else none))))))) else (if ((List.getD xs (Int32.toNatClampNeg a3) 0) &&& (63 : Int32)) = (33 : Int32) then ((f_xx_undo w).bind fun p75 => ((f_mm_undo (eSM (eMgC p75.2 w))).bind fun p76 => (if p75.1 = p76.1 then (f_law xs n (a3 + (6 : Int32)) (eMgM p76.2 (eMgC p75.2 w))) else none))) else (f_law xs n (a3 + (6 : Int32)) w)))))))))))))))))))))))))))))))))))))
