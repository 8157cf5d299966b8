section
variable {n : Nat} {F : Nat → Nat → Int} {wv : Int32} {told : Bool} {set : Int32} {cv : Int}
def KF (w w' : eW) : Prop := w'.1 = w.1 ∧ ∀ i, i ≠ 14 → i ≠ 15 → w'.2 i = w.2 i
theorem KF.kl {w w' : eW} (h : KF w w') : KL w w' := fun i j h1 h2 => ⟨by rw [h.1], by rw [h.2 i (by omega) (by omega)]⟩
theorem KF.tr {a b c : eW} (h : KF a b) (g : KF b c) : KF a c := ⟨g.1.trans h.1, fun i h1 h2 => (g.2 i h1 h2).trans (h.2 i h1 h2)⟩
theorem KC.kf {k : Nat} {w w' : eW} (h : KC k w w') : KF w w' := ⟨h.1, fun i h1 h2 => funext fun j => h.2 i j (by omega) (by omega)⟩
def FX (F : Nat → Nat → Int) (wv : Int32) (told : Bool) (set : Int32) (e : Rat) (w : eW) (k : Nat) : Prop := ∀ h, h < k → w.2 14 h = Int64.ofInt (rfx F wv told set h e) ∧ w.2 15 h = Int64.ofInt (gor F wv told set h e)
theorem from_loop (hF : FOK n F cv) {p : Int × Int} (hp : Eb p) : ∀ (d k f : Nat), k + d = n → d < f → ∀ w : eW, MT w n F cv wv told set → FX F wv told set (eV p) w k →
    Ok (f_mm_layFrom_L3 f (Int64.ofInt p.1) (Int64.ofInt p.2) (Int32.ofInt (k : Nat)) w) fun w' => KF w w' ∧ FX F wv told set (eV p) w' n := by
  have hn := hF.1
  intro d
  induction d with
  | zero =>
    intro k f hk hf w hM fx
    obtain ⟨f, rfl⟩ : ∃ g, f = g + 1 := ⟨f - 1, by omega⟩
    obtain rfl : k = n := by omega
    unfold f_mm_layFrom_L3
    rw [hM.many, if_pos (by rw [ile (by omega) (by omega) (by omega) (by omega)]; omega)]
    exact Ok.ret ⟨⟨rfl, fun _ _ _ => rfl⟩, fx⟩
  | succ d ih =>
    intro k f hk hf w hM fx
    obtain ⟨f, rfl⟩ : ∃ g, f = g + 1 := ⟨f - 1, by omega⟩
    have hkn : k < n := by omega
    have fh := hF.hd hkn
    have e := hM.1.2.2.2 k hkn
    have next : ∀ w2, KC k w w2 → w2.2 14 k = Int64.ofInt (rfx F wv told set k (eV p)) → w2.2 15 k = Int64.ofInt (gor F wv told set k (eV p)) → Ok (f_mm_layFrom_L3 f (Int64.ofInt p.1) (Int64.ofInt p.2) (Int32.ofInt ((k + 1 : Nat) : Int)) w2) fun w' => KF w w' ∧ FX F wv told set (eV p) w' n := by
      intro w2 k2 e14 e15
      refine Ok.imp (ih (k + 1) f (by omega) (by omega) w2 (hM.kl k2.kl) ?_) ?_
      · intro h hh
        by_cases z : h = k
        · subst z; exact ⟨e14, e15⟩
        · rw [k2.2 14 h (by omega) (by omega), k2.2 15 h (by omega) (by omega)]
          exact fx h (by omega)
      · rintro w' ⟨q1, q2⟩
        exact ⟨k2.kf.tr q1, q2⟩
    unfold f_mm_layFrom_L3
    rw [hM.many, if_neg (by rw [ile (by omega) (by omega) (by omega) (by omega)]; omega), hM.first hF hkn, obind]
    simp (disch := omega) only [eChk_of, icl, nat_i, e.1, isucc]
    by_cases h0 : F k 0 = 0
    · rw [if_neg (by rw [h0]; exact fun z => z rfl)]
      refine next _ (((KC.rfl.u2 (by omega)).u2 (by omega)).u2 (by omega)) ?_ ?_
      · rw [u2n _ _ _ _ _ _ (by omega), u2n _ _ _ _ _ _ (by omega), u2s]
        unfold rfx fst_
        rw [if_pos h0]
        congr 1
        split
        · rfl
        · unfold pref; rw [if_neg (by omega)]
      · rw [u2s]
        unfold gor
        rw [if_pos h0]; rfl
    · rw [if_pos (by rw [show (0 : Int32) = Int32.ofInt 0 from rfl, ieq (by omega) (by omega) (by omega) (by omega)]; exact h0)]
      by_cases h1 : F k 0 = 1
      · have g := fh.2.2.2.2.1 h1
        have m1 := mul_le4 (a := 100 * F k 2) (b := p.2) (A := 99900) (B := 400) (by omega) (by omega) (by omega) (by omega)
        rw [if_neg (by rw [h1]; exact fun z => z rfl), e.2.2.1 h0, i2j (by omega) (by omega), jlit100, ← Int64.ofInt_mul, ← Int64.ofInt_mul]
        simp (disch := omega) only [lg_cmp_lt, jlt]
        by_cases c : 100 * F k 2 * p.2 ≤ p.1
        · rw [if_neg (by omega)]
          unfold f_mm_layFrom_J91
          rw [if_neg (by decide), if_neg (by decide)]
          simp (disch := omega) only [eChk_of, icl, nat_i, isucc, u2l]
          rw [e.2.2.1 h0, i2j (by omega) (by omega)]
          refine next _ ((((KC.rfl.u2 (by omega)).u2 (by omega)).u2 (by omega)).u2 (by omega)) ?_ ?_
          · rw [u2n _ _ _ _ _ _ (by omega), u2s]
            unfold rfx
            rw [if_neg h0, if_pos h1, if_pos ((eV_cmp1 hp).mpr c), show (-100 : Int64) = Int64.ofInt (-100) from rfl, ← Int64.ofInt_mul]
          · rw [u2s]
            unfold gor
            rw [if_neg h0, if_pos h1, if_pos ((eV_cmp1 hp).mpr c)]; rfl
        · rw [if_pos (by omega)]
          unfold f_mm_layFrom_J91
          rw [if_pos rfl, if_pos rfl]
          simp (disch := omega) only [eChk_of, icl, nat_i, isucc, u2l]
          refine next _ ((((KC.rfl.u2 (by omega)).u2 (by omega)).u2 (by omega)).u2 (by omega)) ?_ ?_
          · rw [u2n _ _ _ _ _ _ (by omega), u2s]
            unfold rfx
            rw [if_neg h0, if_pos h1, if_neg (fun z => c ((eV_cmp1 hp).mp z))]; rfl
          · rw [u2s]
            unfold gor
            rw [if_neg h0, if_pos h1, if_neg (fun z => c ((eV_cmp1 hp).mp z))]; rfl
      · rw [if_pos (by rw [show (1 : Int32) = Int32.ofInt 1 from rfl, ieq (by omega) (by omega) (by omega) (by omega)]; exact h1)]
        have k2 : KC k w (eU2 (eU2 w 14 k (Int64.ofInt (fst_ told set F wv k))) 15 k 0) := (KC.rfl.u2 (by omega)).u2 (by omega)
        refine Ok.bind (m_layClass hF hkn (by omega) hp (hM.kl k2.kl) (by rw [u2n _ _ _ _ _ _ (by omega), u2s]) (by rw [u2s])) ?_
        rintro w2 ⟨q1, q2, q3⟩
        exact next w2 (k2.tr q1) q2 q3
theorem m_layFrom (hF : FOK n F cv) {p : Int × Int} (hp : Eb p) {w : eW} (hM : MT w n F cv wv told set) : Ok (f_mm_layFrom (Int64.ofInt p.1) (Int64.ofInt p.2) w) fun w' => KF w w' ∧ FX F wv told set (eV p) w' n :=
  from_loop hF hp n 0 eFu (by omega) (by rw [eFu_eq]; have := hF.1; omega) w hM (fun h hh => by omega)
theorem goes_loop (hF : FOK n F cv) {e : Rat} {w : eW} (hM : MT w n F cv wv told set) (fx : FX F wv told set e w n) : ∀ (d k f : Nat), k + d = n → d < f → f_mm_allGoes_L4 f (Int64.ofInt (rgall k F wv told set e)) (Int32.ofInt (k : Nat)) w = some (Int64.ofInt (rgall n F wv told set e), w) := by
  have hn := hF.1
  intro d
  induction d with
  | zero =>
    intro k f hk hf
    obtain ⟨f, rfl⟩ : ∃ g, f = g + 1 := ⟨f - 1, by omega⟩
    obtain rfl : k = n := by omega
    unfold f_mm_allGoes_L4
    rw [hM.many, if_pos (by rw [ile (by omega) (by omega) (by omega) (by omega)]; omega)]
  | succ d ih =>
    intro k f hk hf
    obtain ⟨f, rfl⟩ : ∃ g, f = g + 1 := ⟨f - 1, by omega⟩
    have fh := hF.hd (h := k) (by omega)
    have e := hM.1.2.2.2 k (by omega)
    unfold f_mm_allGoes_L4
    rw [hM.many, if_neg (by rw [ile (by omega) (by omega) (by omega) (by omega)]; omega)]
    simp (disch := omega) only [eChk_of, icl, nat_i, isucc]
    rw [e.2.1, i2j (by omega) (by omega), (fx k (by omega)).2, ← Int64.ofInt_mul, ← Int64.ofInt_add]
    exact ih (k + 1) f (by omega) (by omega)
theorem m_allGoes (hF : FOK n F cv) {e : Rat} {w : eW} (hM : MT w n F cv wv told set) (fx : FX F wv told set e w n) : f_mm_allGoes w = some (Int64.ofInt (rgall n F wv told set e), w) := goes_loop hF hM fx n 0 eFu (by omega) (by rw [eFu_eq]; have := hF.1; omega)
theorem fixed_loop (hF : FOK n F cv) {e : Rat} {w : eW} (hM : MT w n F cv wv told set) (fx : FX F wv told set e w n) : ∀ (d k f : Nat), k + d = n → d < f → f_mm_allFixed_L4 f (Int64.ofInt (rfall k F wv told set e)) (Int32.ofInt (k : Nat)) w = some (Int64.ofInt (rfall n F wv told set e), w) := by
  have hn := hF.1
  intro d
  induction d with
  | zero =>
    intro k f hk hf
    obtain ⟨f, rfl⟩ : ∃ g, f = g + 1 := ⟨f - 1, by omega⟩
    obtain rfl : k = n := by omega
    unfold f_mm_allFixed_L4
    rw [hM.many, if_pos (by rw [ile (by omega) (by omega) (by omega) (by omega)]; omega)]
  | succ d ih =>
    intro k f hk hf
    obtain ⟨f, rfl⟩ : ∃ g, f = g + 1 := ⟨f - 1, by omega⟩
    have fh := hF.hd (h := k) (by omega)
    have e := hM.1.2.2.2 k (by omega)
    unfold f_mm_allFixed_L4
    rw [hM.many, if_neg (by rw [ile (by omega) (by omega) (by omega) (by omega)]; omega)]
    simp (disch := omega) only [eChk_of, icl, nat_i, isucc]
    rw [e.2.1, i2j (by omega) (by omega), (fx k (by omega)).1, ← Int64.ofInt_mul, ← Int64.ofInt_add]
    exact ih (k + 1) f (by omega) (by omega)
theorem m_allFixed (hF : FOK n F cv) {e : Rat} {w : eW} (hM : MT w n F cv wv told set) (fx : FX F wv told set e w n) : f_mm_allFixed w = some (Int64.ofInt (rfall n F wv told set e), w) := fixed_loop hF hM fx n 0 eFu (by omega) (by rw [eFu_eq]; have := hF.1; omega)
theorem rfx_b (hF : FOK n F cv) {h : Nat} (hh : h < n) (e : Rat) : -99900 ≤ rfx F wv told set h e ∧ rfx F wv told set h e ≤ 198000 := by
  have f := hF.hd hh
  have p := pref_b (wv := wv) hF hh
  have q := fst_b (wv := wv) (told := told) (set := set) hF hh
  unfold rfx
  split
  · omega
  · split
    · split <;> omega
    · split
      · omega
      · rename_i hor
        have hc : canT F h = true := by
          by_cases c : canT F h = true
          · exact c
          · exact absurd (.inr (by simpa using c)) hor
        have l := lid_b (wv := wv) hF hh hc
        split
        · split <;> omega
        · rename_i h6
          rw [show lid F wv h = top F wv h by unfold lid; rw [if_neg h6]] at l
          split
          · omega
          · split <;> omega
theorem rall_b (hF : FOK n F cv) (e : Rat) : 0 ≤ rgall n F wv told set e ∧ rgall n F wv told set e ≤ 47995200 ∧ -24000000000 ≤ rfall n F wv told set e ∧ rfall n F wv told set e ≤ 24000000000 := by
  have hn := hF.1
  have a := isum_b (f := fun h => F h 1 * gor F wv told set h e) (B := 3999600) (n := n) (fun h hh => by
    have f := hF.hd hh
    have g := gor_nn (wv := wv) (told := told) (set := set) hF hh (e := e)
    have := mul_le4 (a := F h 1) (b := gor F wv told set h e) (A := 9999) (B := 400) (by omega) (by omega) (by omega) (by omega)
    omega)
  have b := isum_b (f := fun h => F h 1 * (rfx F wv told set h e + 99900)) (B := 2978702100) (n := n) (fun h hh => by
    have f := hF.hd hh
    have g := rfx_b (wv := wv) (told := told) (set := set) hF hh e
    have := mul_le4 (a := F h 1) (b := rfx F wv told set h e + 99900) (A := 9999) (B := 297900) (by omega) (by omega) (by omega) (by omega)
    omega)
  have c := isum_b (f := fun h => F h 1 * 99900) (B := 998900100) (n := n) (fun h hh => by
    have f := hF.hd hh
    omega)
  have d : isum (fun h => F h 1 * (rfx F wv told set h e + 99900)) n = isum (fun h => F h 1 * rfx F wv told set h e) n + isum (fun h => F h 1 * 99900) n := by
    rw [← isum_add]
    exact isum_cg fun h _ => Int.mul_add _ _ _
  have e2 : isum (fun h => F h 1 * rfx F wv told set h e) n ≤ 198000 * isum (fun h => F h 1) n := by
    have : ∀ k, k ≤ n → isum (fun h => F h 1 * rfx F wv told set h e) k ≤ 198000 * isum (fun h => F h 1) k := by
      intro k
      induction k with
      | zero => intro _; simp [isum]
      | succ k ih =>
        intro hk
        have f := hF.hd (h := k) (by omega)
        have g := rfx_b (wv := wv) (told := told) (set := set) hF (h := k) (by omega) e
        have := Int.mul_le_mul_of_nonneg_left g.2 (show 0 ≤ F k 1 by omega)
        have := ih (by omega)
        simp only [isum]
        rw [Int.mul_add]
        omega
    exact this n (Nat.le_refl _)
  have e3 := isum_b (f := fun h => F h 1) (B := 9999) (n := n) (fun h hh => by have f := hF.hd hh; omega)
  unfold rgall rfall
  omega
end
