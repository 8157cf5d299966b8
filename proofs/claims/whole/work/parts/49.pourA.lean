section
variable {n : Nat} {F : Nat → Nat → Int} {wv : Int32} {told : Bool} {set : Int32} {cv : Int}
theorem stp_b (hF : FOK n F cv) {h : Nat} (hh : h < n) : ∀ s, s ∈ stp F wv told set h → -1979802000 ≤ s.2.2.2.1 ∧ s.2.2.2.1 ≤ 1979802000 ∧ -3999600 ≤ s.2.2.2.2 ∧ s.2.2.2.2 ≤ 3999600 := by
  have f := hF.hd hh
  have p := pref_b (wv := wv) hF hh
  intro s hs
  unfold stp at hs
  split at hs
  · simp at hs
  · split at hs
    · rename_i h0 h1
      have g := f.2.2.2.2.1 h1
      have m := mul_le4 (a := F h 1) (b := F h 2 * 100) (A := 9999) (B := 99900) (by omega) (by omega) (by omega) (by omega)
      simp only [List.mem_singleton] at hs
      subst hs
      dsimp only
      rw [Int.neg_mul]
      omega
    · split at hs
      · simp at hs
      · split at hs
        · rename_i hc
          have l := lid_b (wv := wv) hF hh hc
          have m1 := mul_le4 (a := F h 1) (b := F h 5) (A := 9999) (B := 400) (by omega) (by omega) (by omega) (by omega)
          have m2 := mul_le4 (a := F h 1) (b := lid F wv h) (A := 9999) (B := 198000) (by omega) (by omega) (by omega) (by omega)
          have m3 := mul_le4 (a := F h 1) (b := lid F wv h - pref F wv h) (A := 9999) (B := 198000) (by omega) (by omega) (by omega) (by omega)
          split at hs
          · simp only [List.mem_singleton] at hs
            subst hs
            dsimp only
            omega
          · simp only [List.mem_cons, List.not_mem_nil, or_false] at hs
            rcases hs with hs | hs
            · subst hs; dsimp only; omega
            · subst hs; dsimp only; rw [Int.neg_mul]; omega
        · simp at hs
theorem alls_b (hF : FOK n F cv) : ∀ k, k ≤ n → ∀ s, s ∈ alls F wv told set k → -1979802000 ≤ s.2.2.2.1 ∧ s.2.2.2.1 ≤ 1979802000 ∧ -3999600 ≤ s.2.2.2.2 ∧ s.2.2.2.2 ≤ 3999600
  | 0, _, s, hs => by simp [alls] at hs
  | k + 1, hk, s, hs => by
    simp only [alls, List.mem_append] at hs
    rcases hs with hs | hs
    · exact alls_b hF k (by omega) s hs
    · exact stp_b hF (by omega) s hs
theorem lint_b {f : ZStp → Int} {B : Int} : ∀ {t : List ZStp}, (∀ s, s ∈ t → -B ≤ f s ∧ f s ≤ B) → -(B * t.length) ≤ lint f t ∧ lint f t ≤ B * t.length
  | [], _ => by simp [lint]
  | s :: t, k => by
    have a := k s (by simp)
    have b := lint_b (t := t) (fun x hx => k x (by simp [hx]))
    simp only [lint, List.length_cons]
    rw [Int.natCast_add, Int.mul_add]
    omega
theorem prefs_b (hF : FOK n F cv) {h : Nat} (hh : h < n) : 0 ≤ prefs F wv told set h ∧ prefs F wv told set h ≤ 989901000 := by
  have f := hF.hd hh
  have q := fst_b (wv := wv) (told := told) (set := set) hF hh
  unfold prefs
  have m := mul_le4 (a := F h 1) (b := fst_ told set F wv h) (A := 9999) (B := 99000) (by omega) (by omega) (by omega) (by omega)
  omega
theorem isum_b {f : Nat → Int} {B : Int} : ∀ {n : Nat}, (∀ h, h < n → 0 ≤ f h ∧ f h ≤ B) → 0 ≤ isum f n ∧ isum f n ≤ B * n
  | 0, _ => by simp [isum]
  | n + 1, k => by
    have a := k n (by omega)
    have b := isum_b (n := n) (fun x hx => k x (by omega))
    simp only [isum]
    rw [Int.natCast_add, Int.mul_add]
    omega
theorem ss_b (hF : FOK n F cv) {h : Nat} (hh : h < n) : 0 ≤ ss F h ∧ ss F h ≤ 3999600 := by
  have f := hF.hd hh
  have m1 := mul_le4 (a := F h 1) (b := F h 5) (A := 9999) (B := 400) (by omega) (by omega) (by omega) (by omega)
  unfold ss
  split
  · omega
  · split <;> omega
/-- only classes have PREFS: six at most -/
theorem rp_b (hF : FOK n F cv) (r : Nat) : 0 ≤ rp n F wv told set r ∧ rp n F wv told set r ≤ 5939406000 := by
  have key : ∀ k, k ≤ n → isum (fun h => if F h 3 = r then prefs F wv told set h else 0) k ≤ 989901000 * (cntK F 2 k : Int) := by
    intro k
    induction k with
    | zero => intro _; simp [isum, cntK]
    | succ k ih =>
      intro hk
      have := ih (by omega)
      have p := prefs_b (wv := wv) (told := told) (set := set) hF (h := k) (by omega)
      simp only [isum, cntK]
      by_cases h2 : F k 0 = 2
      · rw [if_pos h2]
        rw [Int.natCast_add, Int.mul_add]
        split <;> omega
      · rw [if_neg h2, prefs_0 h2]
        rw [Int.natCast_add, Int.mul_add]
        split <;> omega
  have a := key n (Nat.le_refl _)
  have b := hF.2.2.2.2.2.1
  refine ⟨rp_nn hF r, ?_⟩
  unfold rp
  omega
theorem AF_b (hF : FOK n F cv) {t u : List ZStp} (hp : (t ++ u).Perm (alls F wv told set n)) : -60000000000 ≤ AF n F wv told set t ∧ AF n F wv told set t ≤ 60000000000 ∧ -150000000 ≤ AS n F t ∧ AS n F t ≤ 150000000 := by
  have hn := hF.1
  have len := alls_len (F := F) (wv := wv) (told := told) (set := set) n
  have tl : t.length ≤ 24 := by
    have := hp.length_eq
    rw [List.length_append] at this
    omega
  have m : ∀ s, s ∈ t → s ∈ alls F wv told set n := fun s hs => hp.mem_iff.mp (by simp [hs])
  have b1 := lint_b (f := fun s => s.2.2.2.1) (B := 1979802000) (t := t) (fun s hs => by have := alls_b hF n (Nat.le_refl _) s (m s hs); exact ⟨this.1, this.2.1⟩)
  have b2 := lint_b (f := fun s => s.2.2.2.2) (B := 3999600) (t := t) (fun s hs => by have := alls_b hF n (Nat.le_refl _) s (m s hs); exact ⟨this.2.2.1, this.2.2.2⟩)
  have b3 := isum_b (f := prefs F wv told set) (B := 989901000) (n := n) (fun h hh => prefs_b hF hh)
  have b4 := isum_b (f := ss F) (B := 3999600) (n := n) (fun h hh => ss_b hF hh)
  unfold AF AS ap
  omega
/-- the steps t are taken -/
def Tk (n : Nat) (F : Nat → Nat → Int) (wv : Int32) (told : Bool) (set : Int32) (w : eW) (t : List ZStp) : Prop := (∀ h, h < n → w.2 11 h = Int64.ofInt (fxt F wv told set t h) ∧ w.2 12 h = Int64.ofInt (sxt F t h)) ∧ w.2 19 5 = Int64.ofInt (AF n F wv told set t) ∧ w.2 19 6 = Int64.ofInt (AS n F t)
/-- longs of 11, 12, 19 (5, 6) alone differ -/
def TFr (w w' : eW) : Prop := w'.1 = w.1 ∧ (∀ i k, i ≠ 11 → i ≠ 12 → ¬ (i = 19 ∧ (k = 5 ∨ k = 6)) → w'.2 i k = w.2 i k)
theorem TFr.rfl {w : eW} : TFr w w := ⟨Eq.refl _, fun _ _ _ _ _ => Eq.refl _⟩
theorem TFr.tr {a b c : eW} (h : TFr a b) (k : TFr b c) : TFr a c := ⟨k.1.trans h.1, fun i j h1 h2 h3 => (k.2 i j h1 h2 h3).trans (h.2 i j h1 h2 h3)⟩
theorem TFr.fr {w w' : eW} (h : TFr w w') : Fr [11, 12, 19] w w' := fun i hi => by
  simp only [List.mem_cons, List.not_mem_nil, or_false, not_or] at hi
  exact ⟨by rw [h.1], funext fun k => h.2 i k (by omega) (by omega) (by omega)⟩
theorem Hd.tfr {w w' : eW} {k : Nat} (h : Hd F wv told set w k) (s : TFr w w') : Hd F wv told set w' k := by
  unfold Hd at *
  rw [s.1, (s.fr 9 (by decide)).2, (s.fr 10 (by decide)).2]
  exact h
theorem SV.tfr {w w' : eW} {ls : List ZStp} (h : SV w ls) (s : TFr w w') : SV w' ls := by
  unfold SV at *
  rw [s.1, (s.fr 17 (by decide)).2, (s.fr 18 (by decide)).2]
  exact h
theorem restart_loop (hF : FOK n F cv) : ∀ (d k f : Nat), k + d = n → d < f → ∀ w : eW, Hd F wv told set w n → (∀ h, h < k → w.2 11 h = Int64.ofInt (prefs F wv told set h) ∧ w.2 12 h = Int64.ofInt (ss F h)) → w.2 19 5 = Int64.ofInt (isum (prefs F wv told set) k) → w.2 19 6 = Int64.ofInt (isum (ss F) k) →
    Ok (f_cu_restart_L12 f (Int32.ofInt (k : Nat)) w) fun w' => TFr w w' ∧ (∀ h, h < n → w'.2 11 h = Int64.ofInt (prefs F wv told set h) ∧ w'.2 12 h = Int64.ofInt (ss F h)) ∧ w'.2 19 5 = Int64.ofInt (isum (prefs F wv told set) n) ∧ w'.2 19 6 = Int64.ofInt (isum (ss F) n) := by
  have hn := hF.1
  intro d
  induction d with
  | zero =>
    intro k f hk hf w hd h1 h2 h3
    obtain ⟨f, rfl⟩ : ∃ g, f = g + 1 := ⟨f - 1, by omega⟩
    obtain rfl : k = n := by omega
    unfold f_cu_restart_L12
    rw [hd.1, if_pos (by rw [ile (by omega) (by omega) (by omega) (by omega)]; omega)]
    exact Ok.ret ⟨TFr.rfl, h1, h2, h3⟩
  | succ d ih =>
    intro k f hk hf w hd h1 h2 h3
    obtain ⟨f, rfl⟩ : ∃ g, f = g + 1 := ⟨f - 1, by omega⟩
    unfold f_cu_restart_L12
    have e := hd.2 k (by omega)
    rw [hd.1, if_neg (by rw [ile (by omega) (by omega) (by omega) (by omega)]; omega)]
    simp (disch := omega) only [eChk_of, icl, nat_i]
    rw [e.1, e.2, h2, h3, ← Int64.ofInt_add, ← Int64.ofInt_add, isucc]
    have tf : TFr w (eU2 (eU2 (eU2 (eU2 w 11 k (Int64.ofInt (prefs F wv told set k))) 12 k (Int64.ofInt (ss F k))) 19 5 (Int64.ofInt (isum (prefs F wv told set) k + prefs F wv told set k))) 19 6 (Int64.ofInt (isum (ss F) k + ss F k))) := by
      refine ⟨rfl, fun i j h1 h2 h3 => ?_⟩
      rw [u2n _ _ _ _ _ _ (by omega), u2n _ _ _ _ _ _ (by omega), u2n _ _ _ _ _ _ (by omega), u2n _ _ _ _ _ _ (by omega)]
    refine Ok.imp (ih (k + 1) f (by omega) (by omega) _ (hd.tfr tf) ?_ ?_ ?_) ?_
    · intro h hh
      by_cases z : h = k
      · subst z
        rw [u2n _ _ _ _ _ _ (by omega), u2n _ _ _ _ _ _ (by omega), u2n _ _ _ _ _ _ (by omega), u2s, u2n _ _ _ _ _ _ (by omega), u2n _ _ _ _ _ _ (by omega), u2s]
        exact ⟨rfl, rfl⟩
      · rw [u2n _ _ _ _ _ _ (by omega), u2n _ _ _ _ _ _ (by omega), u2n _ _ _ _ _ _ (by omega), u2n _ _ _ _ _ _ (by omega), u2n _ _ _ _ _ _ (by omega), u2n _ _ _ _ _ _ (by omega), u2n _ _ _ _ _ _ (by omega), u2n _ _ _ _ _ _ (by omega)]
        exact h1 h (by omega)
    · rw [u2n _ _ _ _ _ _ (by omega), u2s]; rfl
    · rw [u2s]; rfl
    · rintro w' ⟨q1, q2⟩
      exact ⟨tf.tr q1, q2⟩
theorem cu_restart (hF : FOK n F cv) {w : eW} (hd : Hd F wv told set w n) : Ok (f_cu_restart w) fun w' => TFr w w' ∧ Tk n F wv told set w' [] := by
  unfold f_cu_restart
  have tf : TFr w (eU2 (eU2 w 19 5 0) 19 6 0) := by
    refine ⟨rfl, fun i j h1 h2 h3 => ?_⟩
    rw [u2n _ _ _ _ _ _ (by omega), u2n _ _ _ _ _ _ (by omega)]
  refine Ok.imp (restart_loop hF n 0 eFu (by omega) (by rw [eFu_eq]; have := hF.1; omega) _ (hd.tfr tf) (by omega) ?_ ?_) ?_
  · rw [u2n _ _ _ _ _ _ (by omega), u2s]; rfl
  · rw [u2s]; rfl
  · rintro w' ⟨q1, q2, q3, q4⟩
    refine ⟨tf.tr q1, fun h hh => ?_, ?_, ?_⟩
    · unfold fxt sxt
      simp only [lint, Int.add_zero]
      exact q2 h hh
    · unfold AF ap
      simp only [lint, Int.add_zero]
      exact q3
    · unfold AS
      simp only [lint, Int.add_zero]
      exact q4
end
section
variable {n : Nat} {F : Nat → Nat → Int} {wv : Int32} {told : Bool} {set : Int32} {cv : Int}
theorem cu_totalAt {w : eW} {ls : List ZStp} (hv : SV w ls) (hl : ls.length ≤ 24) {t : List ZStp} (ht : Tk n F wv told set w t) {i : Nat} {s : ZStp} (hi : ls[i]? = some s) (hq : Rq s.2.1 s.2.2.1) : f_cu_totalAt (Int32.ofInt (i : Nat)) w = some (Int64.ofInt (AF n F wv told set t * s.2.2.1 + AS n F t * s.2.1), w) ∧ f_cu_ratioAt (Int32.ofInt (i : Nat)) w = some (Int32.ofInt s.2.2.1, w) := by
  obtain ⟨x, x1, x2, x3, x4, x5, x6, x7⟩ := hv.2 i s hi
  have il : i < ls.length := (List.getElem?_eq_some_iff.mp hi).1
  have c0 : ¬ (Int32.ofInt (i : Nat) < 0) := by rw [show (0 : Int32) = Int32.ofInt 0 from rfl, ilt (by omega) (by omega) (by omega) (by omega)]; omega
  have c1 : Int32.ofInt (i : Nat) < Int32.ofInt ((ls.length : Nat) : Int) := by rw [ilt (by omega) (by omega) (by omega) (by omega)]; omega
  have c2 : ¬ (Int32.ofInt ((ls.length : Nat) : Int) ≤ Int32.ofInt (i : Nat)) := by rw [ile (by omega) (by omega) (by omega) (by omega)]; omega
  unfold f_cu_totalAt f_cu_ratioAt
  rw [hv.1, if_neg c0, if_pos c1, if_neg c0, if_neg c2]
  simp (disch := omega) only [eChk_of, icl, nat_i, x2, x4, x5, i2j, ht.2.1, ht.2.2, ← Int64.ofInt_mul, ← Int64.ofInt_add]
  exact ⟨trivial, trivial⟩
theorem cu_take (hn : n ≤ 12) {w : eW} (hc : w.1 19 0 = Int32.ofInt (n : Nat)) {ls : List ZStp} (hv : SV w ls) (hl : ls.length ≤ 24) {t : List ZStp} (ht : Tk n F wv told set w t) {i : Nat} {s : ZStp} (hi : ls[i]? = some s) (hs : s.1 < 12) : Ok (f_cu_take (Int32.ofInt (i : Nat)) w) fun w' => TFr w w' ∧ (s.1 < n → Tk n F wv told set w' (t ++ [s])) := by
  obtain ⟨x, x1, x2, x3, x4, x5, x6, x7⟩ := hv.2 i s hi
  have il : i < ls.length := (List.getElem?_eq_some_iff.mp hi).1
  have c0 : ¬ (Int32.ofInt (i : Nat) < 0) := by rw [show (0 : Int32) = Int32.ofInt 0 from rfl, ilt (by omega) (by omega) (by omega) (by omega)]; omega
  have c1 : Int32.ofInt (i : Nat) < Int32.ofInt ((ls.length : Nat) : Int) := by rw [ilt (by omega) (by omega) (by omega) (by omega)]; omega
  unfold f_cu_take
  rw [hv.1, hc, if_neg c0, if_pos c1]
  simp (disch := omega) only [eChk_of, icl, nat_i, x2, x3, x6, x7, ht.2.1, ht.2.2, ← Int64.ofInt_add]
  rw [if_neg (show ¬ (Int32.ofInt (s.1 : Nat) < 0) by rw [show (0 : Int32) = Int32.ofInt 0 from rfl, ilt (by omega) (by omega) (by omega) (by omega)]; omega)]
  by_cases hk : s.1 < n
  rotate_left
  · rw [if_neg (show ¬ (Int32.ofInt (s.1 : Nat) < Int32.ofInt (n : Nat)) by rw [ilt (by omega) (by omega) (by omega) (by omega)]; omega)]
    exact Ok.ret ⟨TFr.rfl, fun z => absurd z hk⟩
  rw [if_pos (show Int32.ofInt (s.1 : Nat) < Int32.ofInt (n : Nat) by rw [ilt (by omega) (by omega) (by omega) (by omega)]; omega)]
  refine Ok.ret ⟨⟨rfl, fun i j h1 h2 h3 => ?_⟩, fun hsn => ⟨fun h hh => ?_, ?_, ?_⟩⟩
  · rw [u2n _ _ _ _ _ _ (by omega), u2n _ _ _ _ _ _ (by omega), u2n _ _ _ _ _ _ (by omega), u2n _ _ _ _ _ _ (by omega)]
  · have e := ht.1 h hh
    have f1 : fxt F wv told set (t ++ [s]) h = fxt F wv told set t h + (if s.1 = h then s.2.2.2.1 else 0) := by
      unfold fxt
      rw [lint_app]
      simp only [lint]
      omega
    have f2 : sxt F (t ++ [s]) h = sxt F t h + (if s.1 = h then s.2.2.2.2 else 0) := by
      unfold sxt
      rw [lint_app]
      simp only [lint]
      omega
    rw [f1, f2]
    by_cases c : h = s.1
    · subst c
      rw [u2n _ _ _ _ _ _ (by omega), u2n _ _ _ _ _ _ (by omega), u2n _ _ _ _ _ _ (by omega), u2s, u2n _ _ _ _ _ _ (by omega), u2n _ _ _ _ _ _ (by omega), u2s, if_pos rfl, if_pos rfl, e.1, e.2, ← Int64.ofInt_add, ← Int64.ofInt_add]
      exact ⟨rfl, rfl⟩
    · rw [u2n _ _ _ _ _ _ (by omega), u2n _ _ _ _ _ _ (by omega), u2n _ _ _ _ _ _ (by omega), u2n _ _ _ _ _ _ (by omega), u2n _ _ _ _ _ _ (by omega), u2n _ _ _ _ _ _ (by omega), u2n _ _ _ _ _ _ (by omega), u2n _ _ _ _ _ _ (by omega), if_neg (fun z => c z.symm), if_neg (fun z => c z.symm), Int.add_zero, Int.add_zero]
      exact e
  · rw [u2n _ _ _ _ _ _ (by omega), u2s]
    congr 1
    unfold AF
    rw [lint_app]
    simp only [lint]
    omega
  · rw [u2s]
    congr 1
    unfold AS
    rw [lint_app]
    simp only [lint]
    omega
theorem sL_at {s : ZStp} (g : Gs s) {A B : Int} {f : Rat} : (A : Rat) + (B : Rat) * (sL s / 100) < f ↔ ((A * s.2.2.1 + B * s.2.1 : Int) : Rat) < f * (s.2.2.1 : Rat) := by
  have a : (0 : Rat) < (s.2.2.1 : Rat) := by exact_mod_cast g.2.1
  have d : sL s * (s.2.2.1 : Rat) = 100 * (s.2.1 : Rat) := Rat.div_mul_cancel (by grind)
  rw [Rat.intCast_add, Rat.intCast_mul, Rat.intCast_mul]
  have e : (A : Rat) * (s.2.2.1 : Rat) + (B : Rat) * (s.2.1 : Rat) = ((A : Rat) + (B : Rat) * (sL s / 100)) * (s.2.2.1 : Rat) := by grind
  rw [e, Rat.mul_lt_mul_right a]
/-- steps are taken as long as all have less there -/
theorem sweep_loop (hF : FOK n F cv) {falls : Int} (hb : 0 ≤ falls ∧ falls ≤ 999999900) {ls : List ZStp} (hl : ls.length ≤ 24) (hp : ls.Perm (alls F wv told set n)) : ∀ (u t : List ZStp) (f : Nat), ls = t ++ u → u.length < f → ∀ (w : eW) (lo : Rat), w.1 19 0 = Int32.ofInt (n : Nat) → SV w ls → Tk n F wv told set w t → Sw n F wv told set falls t u lo →
    Ok (f_cu_sweep_L7 f (Int64.ofInt falls) 1 0 (Int32.ofInt (t.length : Nat)) w) fun w' => TFr w w' ∧ ∃ t' u' lo', Tk n F wv told set w' t' ∧ Sw n F wv told set falls t' u' lo' ∧ (u' = [] ∨ ∃ s u'', u' = s :: u'' ∧ (falls : Rat) ≤ (AF n F wv told set t' : Rat) + (AS n F t' : Rat) * (sL s / 100)) := by
  intro u
  induction u with
  | nil =>
    intro t f e hf w lo hc sv tk sw
    obtain ⟨f, rfl⟩ : ∃ g, f = g + 1 := ⟨f - 1, by omega⟩
    rw [List.append_nil] at e
    subst e
    unfold f_cu_sweep_L7
    rw [sv.1, if_pos (by rw [ile (by omega) (by omega) (by omega) (by omega)]; omega)]
    exact Ok.ret ⟨TFr.rfl, ls, [], lo, tk, sw, .inl rfl⟩
  | cons s u ih =>
    intro t f e hf w lo hc sv tk sw
    obtain ⟨f, rfl⟩ : ∃ g, f = g + 1 := ⟨f - 1, by omega⟩
    have hi : ls[t.length]? = some s := by rw [e, List.getElem?_append_right (Nat.le_refl _), Nat.sub_self, List.getElem?_cons_zero]
    have ms : s ∈ alls F wv told set n := hp.mem_iff.mp (by rw [e]; simp)
    have gs := alls_good hF n (Nat.le_refl _) s ms
    have rq := alls_rq hF n (Nat.le_refl _) s ms
    have ll : ls.length = t.length + (u.length + 1) := by rw [e, List.length_append, List.length_cons]
    have ba := AF_b hF (t := t) (u := s :: u) (by rw [← e]; exact hp)
    have m1 : -60000000000 * 400 ≤ AF n F wv told set t * s.2.2.1 ∧ AF n F wv told set t * s.2.2.1 ≤ 60000000000 * 400 := by
      constructor
      · have := Int.mul_le_mul_of_nonneg_right (show -60000000000 ≤ AF n F wv told set t by omega) (show 0 ≤ s.2.2.1 by omega)
        omega
      · have := Int.mul_le_mul_of_nonneg_right (show AF n F wv told set t ≤ 60000000000 by omega) (show 0 ≤ s.2.2.1 by omega)
        omega
    have m2 : -150000000 * 198000 ≤ AS n F t * s.2.1 ∧ AS n F t * s.2.1 ≤ 150000000 * 198000 := by
      constructor
      · have := Int.mul_le_mul_of_nonneg_right (show -150000000 ≤ AS n F t by omega) (show 0 ≤ s.2.1 by omega)
        omega
      · have := Int.mul_le_mul_of_nonneg_right (show AS n F t ≤ 150000000 by omega) (show 0 ≤ s.2.1 by omega)
        omega
    have m3 := mul_le4 (a := falls) (b := s.2.2.1) (A := 999999900) (B := 400) (by omega) (by omega) (by omega) (by omega)
    obtain ⟨ta, ra⟩ := cu_totalAt sv hl tk hi rq
    unfold f_cu_sweep_L7
    rw [sv.1, if_neg (by rw [ile (by omega) (by omega) (by omega) (by omega)]; omega), ta, obind]
    dsimp only
    rw [ra, obind]
    dsimp only
    rw [Int64.mul_one, i2j (by omega) (by omega), ← Int64.ofInt_mul]
    simp (disch := omega) only [lg_cmp_gt, lg_cmp_eq, jlt, jeq]
    have lit : ((AF n F wv told set t * s.2.2.1 + AS n F t * s.2.1 : Int) : Rat) < (falls : Rat) * (s.2.2.1 : Rat) ↔ AF n F wv told set t * s.2.2.1 + AS n F t * s.2.1 < falls * s.2.2.1 := by
      rw [← Rat.intCast_mul, Rat.intCast_lt_intCast]
    by_cases c : AF n F wv told set t * s.2.2.1 + AS n F t * s.2.1 < falls * s.2.2.1
    · rw [if_neg (by omega), if_pos (by omega)]
      refine Ok.bind (cu_take hF.1 hc sv hl tk hi (by have := hF.1; omega)) ?_
      rintro w1 ⟨tf, tk1⟩
      have := ih (t ++ [s]) f (by rw [List.append_assoc]; exact e) (by rw [List.length_cons] at hf; omega) w1 (sL s) (by rw [tf.1]; exact hc) (sv.tfr tf) (tk1 gs.1) (Sw_step hF sw ((sL_at gs.2).mpr (lit.mpr c)))
      rw [List.length_append, List.length_singleton, ← isucc] at this
      refine Ok.imp this ?_
      rintro w' ⟨q1, q2⟩
      exact ⟨tf.tr q1, q2⟩
    · have done : Ok (some w) fun w' => TFr w w' ∧ ∃ t' u' lo', Tk n F wv told set w' t' ∧ Sw n F wv told set falls t' u' lo' ∧ (u' = [] ∨ ∃ s u'', u' = s :: u'' ∧ (falls : Rat) ≤ (AF n F wv told set t' : Rat) + (AS n F t' : Rat) * (sL s / 100)) := by
        refine Ok.ret ⟨TFr.rfl, t, s :: u, lo, tk, sw, .inr ⟨s, u, rfl, ?_⟩⟩
        rw [← Rat.not_lt, sL_at gs.2, lit]
        exact c
      by_cases c2 : falls * s.2.2.1 < AF n F wv told set t * s.2.2.1 + AS n F t * s.2.1
      · rw [if_pos c2]; exact done
      · rw [if_neg c2, if_neg (by omega), if_neg (by decide)]; exact done
/-- what was poured: fractions for all, the level -/
def PV (n : Nat) (w : eW) (big : Int) (x : Nat → Rat) (lv : Rat) : Prop := ∃ (b : Int) (a : Nat → Int) (la lb : Int), w.2 24 5 = Int64.ofInt b ∧ 1 ≤ b ∧ b ≤ big ∧ w.2 24 6 = Int64.ofInt la ∧ w.2 24 7 = Int64.ofInt lb ∧ 0 ≤ la ∧ la ≤ 10000000000000 ∧ 1 ≤ lb ∧ lb ≤ 150000000 ∧ (la : Rat) = lv * (lb : Rat) ∧ ∀ h, h < n → w.2 22 h = Int64.ofInt (a h) ∧ (a h : Rat) = x h * (b : Rat)
def SP : List Nat := [11, 12, 19, 22, 24]
theorem level_loop (hF : FOK n F cv) {b r : Int} {t : List ZStp} : ∀ (d k f : Nat), k + d = n → d < f → ∀ w : eW, w.1 19 0 = Int32.ofInt (n : Nat) → Tk n F wv told set w t → w.2 24 5 = Int64.ofInt b → (∀ h, h < k → w.2 22 h = Int64.ofInt (fxt F wv told set t h * b + sxt F t h * r)) →
    Ok (f_fa_pourByLevel_L87 f (Int64.ofInt r) (Int32.ofInt (k : Nat)) w) fun w' => w'.1 = w.1 ∧ (∀ i, i ≠ 22 → w'.2 i = w.2 i) ∧ ∀ h, h < n → w'.2 22 h = Int64.ofInt (fxt F wv told set t h * b + sxt F t h * r) := by
  have hn := hF.1
  intro d
  induction d with
  | zero =>
    intro k f hk hf w h0 tk e5 hv
    obtain ⟨f, rfl⟩ : ∃ g, f = g + 1 := ⟨f - 1, by omega⟩
    obtain rfl : k = n := by omega
    unfold f_fa_pourByLevel_L87
    rw [h0, if_pos (by rw [ile (by omega) (by omega) (by omega) (by omega)]; omega)]
    exact Ok.ret ⟨rfl, fun _ _ => rfl, hv⟩
  | succ d ih =>
    intro k f hk hf w h0 tk e5 hv
    obtain ⟨f, rfl⟩ : ∃ g, f = g + 1 := ⟨f - 1, by omega⟩
    unfold f_fa_pourByLevel_L87
    have e := tk.1 k (by omega)
    rw [h0, if_neg (by rw [ile (by omega) (by omega) (by omega) (by omega)]; omega)]
    simp (disch := omega) only [eChk_of, icl, nat_i]
    rw [e.1, e.2, e5, ← Int64.ofInt_mul, ← Int64.ofInt_mul, ← Int64.ofInt_add, isucc]
    refine Ok.imp (ih (k + 1) f (by omega) (by omega) _ (by rw [u2l]; exact h0) ?_ (by rw [u2n _ _ _ _ _ _ (by omega)]; exact e5) ?_) ?_
    · refine ⟨fun h hh => ?_, ?_, ?_⟩
      · rw [u2n _ _ _ _ _ _ (by omega), u2n _ _ _ _ _ _ (by omega)]; exact tk.1 h hh
      · rw [u2n _ _ _ _ _ _ (by omega)]; exact tk.2.1
      · rw [u2n _ _ _ _ _ _ (by omega)]; exact tk.2.2
    · intro h hh
      by_cases z : h = k
      · subst z; rw [u2s]
      · rw [u2n _ _ _ _ _ _ (by omega)]; exact hv h (by omega)
    · rintro w' ⟨q1, q2, q3⟩
      refine ⟨by rw [q1]; rfl, fun i hi => ?_, q3⟩
      rw [q2 i hi]
      funext j
      rw [u2n _ _ _ _ _ _ (by omega)]
end
