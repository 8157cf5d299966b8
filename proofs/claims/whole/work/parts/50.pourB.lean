section
variable {n : Nat} {F : Nat → Nat → Int} {wv : Int32} {told : Bool} {set : Int32} {cv : Int}
/-- what pour leaves as it was -/
def PFr (w w' : eW) : Prop := w'.1 = w.1 ∧ ∀ i k, i ≠ 11 → i ≠ 12 → i ≠ 22 → ¬ (i = 19 ∧ (k = 5 ∨ k = 6)) → ¬ (i = 24 ∧ 5 ≤ k ∧ k ≤ 7) → w'.2 i k = w.2 i k
theorem PFr.tr {a b c : eW} (h : PFr a b) (k : PFr b c) : PFr a c := ⟨k.1.trans h.1, fun i j h1 h2 h3 h4 h5 => (k.2 i j h1 h2 h3 h4 h5).trans (h.2 i j h1 h2 h3 h4 h5)⟩
theorem PFr.fr {w w' : eW} (h : PFr w w') : Fr SP w w' := fun i hi => by
  simp only [SP, List.mem_cons, List.not_mem_nil, or_false, not_or] at hi
  exact ⟨by rw [h.1], funext fun k => h.2 i k (by omega) (by omega) (by omega) (by omega) (by omega)⟩
theorem TFr.pfr {w w' : eW} (h : TFr w w') : PFr w w' := ⟨h.1, fun i k h1 h2 _ h4 _ => h.2 i k h1 h2 h4⟩
theorem Arr.pfr {w w' : eW} (h : Arr n F wv told set w) (s : PFr w w') : Arr n F wv told set w' := by
  obtain ⟨a, b, ⟨ls, l1, l2, l3⟩, d⟩ := h
  refine ⟨?_, ?_, ⟨ls, l1, l2, ?_⟩, ?_⟩
  · unfold Hd at *
    rw [s.1, (s.fr 9 (by decide)).2, (s.fr 10 (by decide)).2]
    exact a
  · unfold Pf at *
    rw [s.2 24 3 (by omega) (by omega) (by omega) (by omega) (by omega), (s.fr 21 (by decide)).2]
    exact b
  · unfold SV at *
    rw [s.1, (s.fr 17 (by decide)).2, (s.fr 18 (by decide)).2]
    exact l3
  · unfold Rk at *
    rw [s.1]
    exact d
theorem cu_sweep (hF : FOK n F cv) {falls : Int} (hb : 0 ≤ falls ∧ falls ≤ 999999900) (hap : ap n F wv told set < falls) {w : eW} (ha : Arr n F wv told set w) :
    Ok (f_cu_sweep (Int64.ofInt falls) 1 0 w) fun w' => TFr w w' ∧ ∃ t' u' lo', Tk n F wv told set w' t' ∧ Sw n F wv told set falls t' u' lo' ∧ (u' = [] ∨ ∃ s u'', u' = s :: u'' ∧ (falls : Rat) ≤ (AF n F wv told set t' : Rat) + (AS n F t' : Rat) * (sL s / 100)) := by
  obtain ⟨hd, pf, ⟨ls, l1, l2, l3⟩, rk⟩ := ha
  have hn := hF.1
  have len := alls_len (F := F) (wv := wv) (told := told) (set := set) n
  have ll := l1.length_eq
  unfold f_cu_sweep
  refine Ok.bind (cu_restart hF hd) ?_
  rintro w1 ⟨tf, tk⟩
  refine Ok.imp (sweep_loop hF hb (ls := ls) (by omega) l1 ls [] eFu rfl (by rw [eFu_eq]; omega) w1 0 (by rw [tf.1]; exact hd.1) (l3.tfr tf) tk ⟨l1, Rat.le_refl, by simp, fun s hs => sL_nn (alls_good hF n (Nat.le_refl _) s (l1.mem_iff.mp hs)).2, l2, ?_⟩) ?_
  · have : (ap n F wv told set : Rat) < (falls : Rat) := by exact_mod_cast hap
    unfold AF
    simp only [lint, Int.add_zero]
    grind
  · rintro w' ⟨q1, q2⟩
    exact ⟨tf.tr q1, q2⟩
theorem level_fin (hF : FOK n F cv) {w : eW} {b r : Int} {t : List ZStp} (h0 : w.1 19 0 = Int32.ofInt (n : Nat)) (tk : Tk n F wv told set w t) (b1 : 1 ≤ b) (b2 : b ≤ 150000000) (r1 : 0 ≤ r) (r2 : r ≤ 70000000000) {x : Nat → Rat} {lv : Rat} (hl : ((r * 100 : Int) : Rat) = lv * (b : Rat)) (hx : ∀ h, h < n → ((fxt F wv told set t h * b + sxt F t h * r : Int) : Rat) = x h * (b : Rat)) : Ok (f_fa_pourByLevel_L87 eFu (Int64.ofInt r) 0 (eU2 (eU2 (eU2 w 24 5 (Int64.ofInt b)) 24 6 (Int64.ofInt r * 100)) 24 7 (Int64.ofInt b))) fun w' => PFr w w' ∧ PV n w' 150000000 x lv := by
  have hn := hF.1
  refine Ok.imp (level_loop (wv := wv) (told := told) (set := set) hF (b := b) (r := r) (t := t) n 0 eFu (by omega) (by rw [eFu_eq]; omega) _ (by rw [u2l, u2l, u2l]; exact h0) ?_ ?_ (by omega)) ?_
  · refine ⟨fun h hh => ?_, ?_, ?_⟩
    · rw [u2n _ _ _ _ _ _ (by omega), u2n _ _ _ _ _ _ (by omega), u2n _ _ _ _ _ _ (by omega), u2n _ _ _ _ _ _ (by omega), u2n _ _ _ _ _ _ (by omega), u2n _ _ _ _ _ _ (by omega)]; exact tk.1 h hh
    · rw [u2n _ _ _ _ _ _ (by omega), u2n _ _ _ _ _ _ (by omega), u2n _ _ _ _ _ _ (by omega)]; exact tk.2.1
    · rw [u2n _ _ _ _ _ _ (by omega), u2n _ _ _ _ _ _ (by omega), u2n _ _ _ _ _ _ (by omega)]; exact tk.2.2
  · rw [u2n _ _ _ _ _ _ (by omega), u2n _ _ _ _ _ _ (by omega), u2s]
  · rintro w' ⟨q1, q2, q3⟩
    refine ⟨⟨by rw [q1]; rfl, fun i k h1 h2 h3 h4 h5 => ?_⟩, b, fun h => fxt F wv told set t h * b + sxt F t h * r, r * 100, b, ?_, b1, b2, ?_, ?_, by omega, by omega, b1, b2, hl, fun h hh => ⟨q3 h hh, hx h hh⟩⟩
    · rw [q2 i h3, u2n _ _ _ _ _ _ (by omega), u2n _ _ _ _ _ _ (by omega), u2n _ _ _ _ _ _ (by omega)]
    · rw [q2 24 (by omega), u2n _ _ _ _ _ _ (by omega), u2n _ _ _ _ _ _ (by omega), u2s]
    · rw [q2 24 (by omega), u2n _ _ _ _ _ _ (by omega), u2s, jlit100, ← Int64.ofInt_mul]
    · rw [q2 24 (by omega), u2s]
theorem fa_pourByLevel (hF : FOK n F cv) {falls : Int} (hb : 0 ≤ falls ∧ falls ≤ 999999900) (hap : ap n F wv told set < falls) {w : eW} (ha : Arr n F wv told set w) :
    Ok (f_fa_pourByLevel (Int64.ofInt falls) w) fun w' => PFr w w' ∧ ∃ x lv, PV n w' 150000000 x lv ∧ IsF n F wv told set falls x lv := by
  unfold f_fa_pourByLevel
  refine Ok.bind (cu_sweep hF hb hap ha) ?_
  rintro w1 ⟨tf, t, u, lo, tk, sw, stop⟩
  have ba := AF_b hF sw.1
  have c0 : w1.1 19 0 = Int32.ofInt (n : Nat) := by rw [tf.1]; exact ha.1.1
  rw [tk.2.2, jlit0]
  simp (disch := omega) only [lg_cmp_le, jle]
  by_cases hA : AS n F t ≤ 0
  · rw [if_pos hA]
    have eu : u = [] := by
      rcases stop with e | ⟨s, u', e, q⟩
      · exact e
      · subst e
        have := (Sw_stop sw q).1
        omega
    subst eu
    unfold f_fa_pourByLevel_J45
    rw [if_pos rfl]
    refine Ok.imp (level_fin hF (b := 1) (r := 0) (x := fun h => (fxt F wv told set t h : Rat)) (lv := 0) c0 tk (by omega) (by omega) (by omega) (by omega) (by grind) (fun h hh => by rw [Int.mul_one, Int.mul_zero, Int.add_zero]; grind)) ?_
    rintro w' ⟨q1, q2⟩
    exact ⟨tf.pfr.tr q1, _, _, q2, Sw_flat hF sw hap hA⟩
  · rw [if_neg hA, tk.2.1, ← Int64.ofInt_sub]
    unfold f_fa_pourByLevel_J45
    rw [if_neg (by decide), tk.2.2]
    have hA' : 0 < AS n F t := by omega
    have hAq : (0 : Rat) < (AS n F t : Rat) := by exact_mod_cast hA'
    have hu : ∀ s, s ∈ u → ((100 * (falls - AF n F wv told set t) : Int) : Rat) / (AS n F t : Rat) ≤ sL s := by
      rcases stop with e | ⟨s, u', e, q⟩
      · rw [e]; simp
      · subst e
        exact (Sw_stop sw q).2
    have isf := Sw_level hF sw hap hA' rfl hu
    generalize hv : ((100 * (falls - AF n F wv told set t) : Int) : Rat) / (AS n F t : Rat) = v at isf
    have ev : ((100 * (falls - AF n F wv told set t) : Int) : Rat) = v * (AS n F t : Rat) := by rw [← hv]; exact (Rat.div_mul_cancel (by grind)).symm
    have v0 : 0 ≤ v := by
      rcases isf with ⟨z, _⟩ | ⟨_, z, _⟩ | ⟨_, z, _⟩
      · omega
      · exact z
      · rw [z]; exact Rat.le_refl
    have r0 : 0 ≤ falls - AF n F wv told set t := by
      have : (0 : Rat) ≤ ((100 * (falls - AF n F wv told set t) : Int) : Rat) := by rw [ev]; exact Rat.mul_nonneg v0 (by grind)
      have : 0 ≤ 100 * (falls - AF n F wv told set t) := by exact_mod_cast this
      omega
    refine Ok.imp (level_fin hF (b := AS n F t) (r := falls - AF n F wv told set t) (lv := v) (x := fun h => (fxt F wv told set t h : Rat) + (sxt F t h : Rat) * (v / 100)) c0 tk (by omega) (by omega) r0 (by omega) (by rw [Int.mul_comm]; exact ev) (fun h hh => by
      rw [Int.mul_comm, Rat.intCast_mul] at ev
      rw [Rat.intCast_add, Rat.intCast_mul, Rat.intCast_mul]
      grind)) ?_
    rintro w' ⟨q1, q2⟩
    exact ⟨tf.pfr.tr q1, _, _, q2, isf⟩
end
section
variable {n : Nat} {F : Nat → Nat → Int} {wv : Int32} {told : Bool} {set : Int32} {cv : Int}
theorem bf_nn (hF : FOK n F cv) (r : Nat) : 0 ≤ bf n F wv told set r := bf_mono hF (r := 0) (Nat.zero_le r)
theorem unp_loop (hF : FOK n F cv) {falls : Int} (hb : 0 ≤ falls ∧ falls ≤ 999999900) {w : eW} (hp : ∀ r, r < 6 → w.2 21 r = Int64.ofInt (rp n F wv told set r)) : ∀ (d r f : Nat), r + d = 6 → d < f → bf n F wv told set r ≤ falls →
    Ok (f_fa_firstUnpaid_L5 f (Int64.ofInt (falls - bf n F wv told set r)) (Int32.ofInt (r : Nat)) w) fun p => p.2 = w ∧ ∃ q : Nat, q ≤ 6 ∧ p.1 = Int32.ofInt (q : Nat) ∧ bf n F wv told set q ≤ falls ∧ (q < 6 → falls < bf n F wv told set (q + 1)) := by
  intro d
  induction d with
  | zero =>
    intro r f hr hf h
    obtain ⟨f, rfl⟩ : ∃ g, f = g + 1 := ⟨f - 1, by omega⟩
    obtain rfl : r = 6 := by omega
    unfold f_fa_firstUnpaid_L5
    rw [if_pos (by simp (disch := omega) only [ilit, ilt]; omega)]
    exact Ok.ret ⟨rfl, 6, by omega, rfl, h, by omega⟩
  | succ d ih =>
    intro r f hr hf h
    obtain ⟨f, rfl⟩ : ∃ g, f = g + 1 := ⟨f - 1, by omega⟩
    have b := rp_b (wv := wv) (told := told) (set := set) hF r
    have bn := bf_nn (wv := wv) (told := told) (set := set) hF r
    have e : bf n F wv told set (r + 1) = bf n F wv told set r + rp n F wv told set r := rfl
    unfold f_fa_firstUnpaid_L5
    rw [if_neg (by simp (disch := omega) only [ilit, ilt]; omega)]
    simp (disch := omega) only [eChk_of, icl, nat_i, hp r (by omega), lg_cmp_le, jle, ← Int64.ofInt_sub, isucc]
    by_cases c : rp n F wv told set r ≤ falls - bf n F wv told set r
    · rw [if_pos c, show falls - bf n F wv told set r - rp n F wv told set r = falls - bf n F wv told set (r + 1) by omega]
      exact ih (r + 1) f (by omega) (by omega) (by omega)
    · rw [if_neg c]
      exact Ok.ret ⟨rfl, r, by omega, rfl, h, fun _ => by omega⟩
theorem fa_firstUnpaid (hF : FOK n F cv) {falls : Int} (hb : 0 ≤ falls ∧ falls ≤ 999999900) {w : eW} (hp : Pf F wv told set w n) : Ok (f_fa_firstUnpaid (Int64.ofInt falls) w) fun p => p.2 = w ∧ ∃ q : Nat, q ≤ 6 ∧ p.1 = Int32.ofInt (q : Nat) ∧ bf n F wv told set q ≤ falls ∧ (q < 6 → falls < bf n F wv told set (q + 1)) := by
  unfold f_fa_firstUnpaid
  have := unp_loop hF hb hp.2 6 0 eFu (by omega) (by rw [eFu_eq]; omega) hb.1
  rw [show falls - bf n F wv told set 0 = falls by show falls - 0 = falls; omega] at this
  exact this
theorem rank_fill (hF : FOK n F cv) {o : Nat} (ho : o ≤ 6) {b l : Int} : ∀ (d k f : Nat), k + d = n → d < f → ∀ w : eW, Hd F wv told set w n → Rk F w n → w.2 24 5 = Int64.ofInt b → (∀ h, h < k → w.2 22 h = Int64.ofInt (if F h 3 < o then prefs F wv told set h * b else if F h 3 = o then prefs F wv told set h * l else 0)) →
    Ok (f_fa_pourByRanks_L65 f (Int32.ofInt (o : Nat)) (Int64.ofInt l) (Int32.ofInt (k : Nat)) w) fun w' => w'.1 = w.1 ∧ (∀ i, i ≠ 22 → w'.2 i = w.2 i) ∧ ∀ h, h < n → w'.2 22 h = Int64.ofInt (if F h 3 < o then prefs F wv told set h * b else if F h 3 = o then prefs F wv told set h * l else 0) := by
  have hn := hF.1
  intro d
  induction d with
  | zero =>
    intro k f hk hf w hd rk e5 hv
    obtain ⟨f, rfl⟩ : ∃ g, f = g + 1 := ⟨f - 1, by omega⟩
    obtain rfl : k = n := by omega
    unfold f_fa_pourByRanks_L65
    rw [hd.1, if_pos (by rw [ile (by omega) (by omega) (by omega) (by omega)]; omega)]
    exact Ok.ret ⟨rfl, fun _ _ => rfl, hv⟩
  | succ d ih =>
    intro k f hk hf w hd rk e5 hv
    obtain ⟨f, rfl⟩ : ∃ g, f = g + 1 := ⟨f - 1, by omega⟩
    unfold f_fa_pourByRanks_L65
    have e := (hd.2 k (by omega)).1
    have r := rk k (by omega)
    have fh := hF.hd (h := k) (by omega)
    have step : ∀ y : Int, y = (if F k 3 < o then prefs F wv told set k * b else if F k 3 = o then prefs F wv told set k * l else 0) → Ok (f_fa_pourByRanks_L65 f (Int32.ofInt (o : Nat)) (Int64.ofInt l) (Int32.ofInt ((k + 1 : Nat) : Int)) (eU2 w 22 k (Int64.ofInt y))) fun w' => w'.1 = w.1 ∧ (∀ i, i ≠ 22 → w'.2 i = w.2 i) ∧ ∀ h, h < n → w'.2 22 h = Int64.ofInt (if F h 3 < o then prefs F wv told set h * b else if F h 3 = o then prefs F wv told set h * l else 0) := by
      intro y hy
      refine Ok.imp (ih (k + 1) f (by omega) (by omega) _ ⟨by rw [u2l]; exact hd.1, fun h hh => by rw [u2n _ _ _ _ _ _ (by omega), u2n _ _ _ _ _ _ (by omega)]; exact hd.2 h hh⟩ (by unfold Rk; rw [u2l]; exact rk) (by rw [u2n _ _ _ _ _ _ (by omega)]; exact e5) ?_) ?_
      · intro h hh
        by_cases z : h = k
        · subst z; rw [u2s, hy]
        · rw [u2n _ _ _ _ _ _ (by omega)]; exact hv h (by omega)
      · rintro w' ⟨q1, q2, q3⟩
        refine ⟨by rw [q1]; rfl, fun i hi => ?_, q3⟩
        rw [q2 i hi]
        funext j
        rw [u2n _ _ _ _ _ _ (by omega)]
    rw [hd.1, if_neg (by rw [ile (by omega) (by omega) (by omega) (by omega)]; omega)]
    simp (disch := omega) only [eChk_of, icl, nat_i, r, ile, ieq, e, e5, ← Int64.ofInt_mul, isucc]
    by_cases c1 : F k 3 < o
    · rw [if_neg (by omega)]
      exact step _ (by rw [if_pos c1])
    · rw [if_pos (by omega)]
      by_cases c2 : F k 3 = o
      · rw [if_neg (by omega)]
        exact step _ (by rw [if_neg c1, if_pos c2])
      · rw [if_pos c2]
        exact step 0 (by rw [if_neg c1, if_neg c2])
theorem rank_fin (hF : FOK n F cv) {o : Nat} (ho : o ≤ 6) {b l : Int} (b1 : 1 ≤ b) (b2 : b ≤ 5939406000) {w : eW} (hd : Hd F wv told set w n) (rk : Rk F w n) (e6 : w.2 24 6 = 0) (e7 : w.2 24 7 = 1) {x : Nat → Rat} (hx : ∀ h, h < n → (((if F h 3 < o then prefs F wv told set h * b else if F h 3 = o then prefs F wv told set h * l else 0) : Int) : Rat) = x h * (b : Rat)) :
    Ok (f_fa_pourByRanks_L65 eFu (Int32.ofInt (o : Nat)) (Int64.ofInt l) 0 (eU2 w 24 5 (Int64.ofInt b))) fun w' => PFr w w' ∧ PV n w' 5939406000 x 0 := by
  have hn := hF.1
  refine Ok.imp (rank_fill (wv := wv) (told := told) (set := set) hF ho (b := b) (l := l) n 0 eFu (by omega) (by rw [eFu_eq]; omega) _ ⟨by rw [u2l]; exact hd.1, fun h hh => by rw [u2n _ _ _ _ _ _ (by omega), u2n _ _ _ _ _ _ (by omega)]; exact hd.2 h hh⟩ (by unfold Rk; rw [u2l]; exact rk) (by rw [u2s]) (by omega)) ?_
  rintro w' ⟨q1, q2, q3⟩
  refine ⟨⟨by rw [q1]; rfl, fun i k h1 h2 h3 h4 h5 => ?_⟩, b, fun h => if F h 3 < o then prefs F wv told set h * b else if F h 3 = o then prefs F wv told set h * l else 0, 0, 1, ?_, b1, b2, ?_, ?_, by omega, by omega, by omega, by omega, by grind, fun h hh => ⟨q3 h hh, hx h hh⟩⟩
  · rw [q2 i h3, u2n _ _ _ _ _ _ (by omega)]
  · rw [q2 24 (by omega), u2s]
  · rw [q2 24 (by omega), u2n _ _ _ _ _ _ (by omega), e6]; rfl
  · rw [q2 24 (by omega), u2n _ _ _ _ _ _ (by omega), e7]; rfl
theorem rank_left (hF : FOK n F cv) {falls : Int} (hb : 0 ≤ falls ∧ falls ≤ 999999900) (hap : falls ≤ ap n F wv told set) {o : Nat} (ho : o ≤ 6) (h1 : bf n F wv told set o ≤ falls) (h2 : o < 6 → falls < bf n F wv told set (o + 1)) {w : eW} (ha : Arr n F wv told set w) (e6 : w.2 24 6 = 0) (e7 : w.2 24 7 = 1) : ∀ (d r f : Nat), r + d = o → d < f →
    Ok (f_fa_pourByRanks_L12 f (Int32.ofInt (o : Nat)) (Int64.ofInt (falls - bf n F wv told set r)) (Int32.ofInt (r : Nat)) w) fun w' => PFr w w' ∧ ∃ x lv, PV n w' 5939406000 x lv ∧ IsF n F wv told set falls x lv := by
  obtain ⟨hd, pf, ls, rk⟩ := ha
  have bo := bf_nn (wv := wv) (told := told) (set := set) hF o
  intro d
  induction d with
  | zero =>
    intro r f hr hf
    obtain ⟨f, rfl⟩ : ∃ g, f = g + 1 := ⟨f - 1, by omega⟩
    obtain rfl : r = o := by omega
    unfold f_fa_pourByRanks_L12
    rw [if_pos (by rw [ile (by omega) (by omega) (by omega) (by omega)]; omega)]
    simp (disch := omega) only [lg_cmp_le, jlit0, jle]
    rw [show (5 : Int32) = Int32.ofInt (5 : Nat) from rfl]
    simp (disch := omega) only [ilt]
    have fin : ∀ b : Int, 1 ≤ b → b ≤ 5939406000 → (∀ h, h < n → (((if F h 3 < r then prefs F wv told set h * b else if F h 3 = r then prefs F wv told set h * (falls - bf n F wv told set r) else 0) : Int) : Rat) = rx n F wv told set falls h * (b : Rat)) → Ok (f_fa_pourByRanks_L65 eFu (Int32.ofInt (r : Nat)) (Int64.ofInt (falls - bf n F wv told set r)) 0 (eU2 w 24 5 (Int64.ofInt b))) fun w' => PFr w w' ∧ ∃ x lv, PV n w' 5939406000 x lv ∧ IsF n F wv told set falls x lv := by
      intro b b1 b2 hx
      refine Ok.imp (rank_fin hF ho b1 b2 hd rk e6 e7 hx) ?_
      rintro w' ⟨q1, q2⟩
      exact ⟨q1, _, _, q2, .inl ⟨hap, fun _ _ => rfl, rfl⟩⟩
    by_cases c6 : r = 6
    · subst c6
      rw [if_pos (by omega)]
      refine fin 1 (by omega) (by omega) ?_
      intro h hh
      have fh := hF.hd hh
      have bm := bf_mono (wv := wv) (told := told) (set := set) hF (r := (F h 3).toNat + 1) (s := 6) (by omega)
      rw [if_pos (by omega)]
      unfold rx
      rw [if_pos (by omega), Int.mul_one]
      grind
    · rw [if_neg (by omega)]
      have h2' := h2 (by omega)
      have e : bf n F wv told set (r + 1) = bf n F wv told set r + rp n F wv told set r := rfl
      have rb := rp_b (wv := wv) (told := told) (set := set) hF r
      by_cases c0 : falls - bf n F wv told set r ≤ 0
      · rw [if_pos c0]
        refine fin 1 (by omega) (by omega) ?_
        intro h hh
        rw [rx_at hF h1 (by omega) hh, show falls - bf n F wv told set r = 0 by omega]
        have z : (falls : Rat) - (bf n F wv told set r : Rat) = 0 := by
          rw [← Rat.intCast_sub, show falls - bf n F wv told set r = 0 by omega]; rfl
        rw [z, qz]
        split
        · grind
        · split <;> grind
      · rw [if_neg c0, eChk_of (by omega) (by omega) (by omega), icl (by omega) (by omega), nat_i, pf.2 r (by omega)]
        have rpos : (rp n F wv told set r : Rat) ≠ 0 := by
          have : (0 : Rat) < (rp n F wv told set r : Rat) := by exact_mod_cast (show 0 < rp n F wv told set r by omega)
          grind
        refine fin _ (by omega) (by omega) ?_
        intro h hh
        rw [rx_at hF h1 (by omega) hh]
        split
        · rw [Rat.intCast_mul]
        · split
          · rw [Rat.intCast_mul, Rat.intCast_sub, Rat.mul_assoc, Rat.div_mul_cancel rpos]
          · grind
  | succ d ih =>
    intro r f hr hf
    obtain ⟨f, rfl⟩ : ∃ g, f = g + 1 := ⟨f - 1, by omega⟩
    unfold f_fa_pourByRanks_L12
    have e : bf n F wv told set (r + 1) = bf n F wv told set r + rp n F wv told set r := rfl
    rw [if_neg (by rw [ile (by omega) (by omega) (by omega) (by omega)]; omega), eChk_of (by omega) (by omega) (by omega), icl (by omega) (by omega), nat_i, pf.2 r (by omega), ← Int64.ofInt_sub, isucc, show falls - bf n F wv told set r - rp n F wv told set r = falls - bf n F wv told set (r + 1) by omega]
    exact ih (r + 1) f (by omega) (by omega)
theorem ap_b (hF : FOK n F cv) : 0 ≤ ap n F wv told set ∧ ap n F wv told set ≤ 12000000000 := by
  have hn := hF.1
  have := isum_b (f := prefs F wv told set) (B := 989901000) (n := n) (fun h hh => prefs_b hF hh)
  unfold ap
  omega
theorem fa_pour (hF : FOK n F cv) {falls : Int} (hb : 0 ≤ falls ∧ falls ≤ 999999900) {w : eW} (ha : Arr n F wv told set w) :
    Ok (f_fa_pour (Int64.ofInt falls) w) fun w' => PFr w w' ∧ ∃ x lv, PV n w' (if ap n F wv told set < falls then 150000000 else 5939406000) x lv ∧ IsF n F wv told set falls x lv := by
  unfold f_fa_pour
  have ab := ap_b (wv := wv) (told := told) (set := set) hF
  have p1 : PFr w (eU2 (eU2 w 24 6 0) 24 7 1) := ⟨rfl, fun i k h1 h2 h3 h4 h5 => by rw [u2n _ _ _ _ _ _ (by omega), u2n _ _ _ _ _ _ (by omega)]⟩
  have ha1 := ha.pfr p1
  rw [ha.2.1.1]
  simp (disch := omega) only [lg_cmp_gt, jlt]
  by_cases c : ap n F wv told set < falls
  · rw [if_pos c, if_pos c]
    refine Ok.bind (fa_pourByLevel hF hb c ha1) ?_
    rintro w' ⟨q1, q2⟩
    exact Ok.ret ⟨p1.tr q1, q2⟩
  · rw [if_neg c, if_neg c]
    unfold f_fa_pourByRanks
    refine Ok.bind (Ok.bind (fa_firstUnpaid hF hb ha1.2.1) ?_) (P := fun w' => PFr w w' ∧ ∃ x lv, PV n w' 5939406000 x lv ∧ IsF n F wv told set falls x lv) (fun w' h => Ok.ret h)
    rintro ⟨o, w1⟩ ⟨e, q, q6, eo, h1, h2⟩
    dsimp only at e eo ⊢
    subst e
    subst eo
    have := rank_left hF hb (by omega) q6 h1 h2 ha1 (by rw [u2n _ _ _ _ _ _ (by omega), u2s]) (by rw [u2s]) q 0 eFu (by omega) (by rw [eFu_eq]; omega)
    rw [show falls - bf n F wv told set 0 = falls by show falls - 0 = falls; omega] at this
    refine Ok.imp this ?_
    rintro w' ⟨q1, q2⟩
    exact ⟨p1.tr q1, q2⟩
end
