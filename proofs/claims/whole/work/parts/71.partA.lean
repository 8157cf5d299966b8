section
variable {n : Nat} {F : Nat → Nat → Int} {wv : Int32} {cv : Int} {c m : eW} {s0 : Int32}
/-- the break from which a part is reckoned -/
def brk (L : List Rat) (k : Nat) : Rat := if k = 0 then 0 else L.getD (k - 1) 0
theorem Lr_pre : ∀ {r d : Nat}, ∃ N, Lr n F wv (r + d) = Lr n F wv r ++ N
  | r, 0 => ⟨[], by simp⟩
  | r, d + 1 => by
    obtain ⟨N, e⟩ := Lr_pre (r := r) (d := d)
    rw [← Nat.add_assoc]
    simp only [Lr]
    split
    · exact ⟨N ++ [_], by rw [e, List.append_assoc]⟩
    · exact ⟨N, e⟩
theorem brk_rank (hF : FOK n F cv) {L N : List Rat} {r : Nat} (e : L = Lr n F wv r ++ N) : brk L (Lr n F wv r).length = (bf n F wv false 0 r : Rat) := by
  obtain ⟨a, b, d, _⟩ := Lr_ok (wv := wv) hF r
  unfold brk
  by_cases z : Lr n F wv r = []
  · rw [z] at d ⊢
    rw [if_pos (by rfl)]
    rcases d with d | d
    · rw [d]; rfl
    · simp at d
  · have l0 : 0 < (Lr n F wv r).length := List.length_pos_iff.mpr z
    rw [if_neg (by omega)]
    rcases d with d | d
    · have := a _ (List.getLast_mem z)
      rw [d] at this
      have e0 : ((0 : Int) : Rat) = 0 := rfl
      grind
    · rw [List.getLast?_eq_some_getLast z] at d
      have hh := Option.some.inj d
      rw [e, List.getD, List.getElem?_append_left (by omega), ← hh, List.getLast_eq_getElem, List.getElem?_eq_getElem (by omega)]
      rfl
/-- a part, by what it is of -/
def PtA (n : Nat) (F : Nat → Nat → Int) (wv : Int32) (h : Nat) (y x : Rat) : Prop := ∃ r, r < 6 ∧ 0 < rp n F wv false 0 r ∧ (bf n F wv false 0 r : Rat) = y ∧ ((if F h 3 = r then prefs F wv false 0 h else 0 : Int) : Rat) = x * (rp n F wv false 0 r : Rat)
def PtB (n : Nat) (F : Nat → Nat → Int) (wv : Int32) (h : Nat) (y x : Rat) : Prop := (ap n F wv false 0 : Rat) ≤ y ∧ ∃ (lo u : Rat) (A B C D : Int), 0 ≤ lo ∧ lo < u ∧ tt n F wv false 0 lo = y ∧ (∀ v, lo ≤ v → v ≤ u → tt n F wv false 0 v = (A : Rat) + (B : Rat) * (v / 100) ∧ vl F wv false 0 h v = (C : Rat) + (D : Rat) * (v / 100)) ∧ 0 < B ∧ 0 ≤ D ∧ (∀ s0, ∃ p, p ∈ edgs F wv false s0 n ∧ eV p = lo) ∧ (∀ s0, Spn n F wv false s0 lo u) ∧ (D : Rat) = x * (B : Rat)
def PtS (w : eW) (x : Rat) : Prop := ∃ a b : Int, w.2 27 4 = Int64.ofInt a ∧ w.2 27 5 = Int64.ofInt b ∧ 0 ≤ a ∧ a < 9223372036854775808 ∧ 0 < b ∧ b < 9223372036854775808 ∧ (a : Rat) = x * (b : Rat)
theorem setPart {a b : Int} (hb : 0 < b) (hb2 : b < 9223372036854775808) (w : eW) : f_br_setPart (Int64.ofInt a) (Int64.ofInt b) w = some (eU2 (eU2 w 27 4 (Int64.ofInt a)) 27 5 (Int64.ofInt b)) := by
  unfold f_br_setPart
  simp only [lg_cmp_le]
  have : ¬ (Int64.ofInt b ≤ 0) := by rw [jlit0, jle (by omega) (by omega) (by omega) (by omega)]; omega
  rw [if_neg this, if_neg this]
theorem partS {w : eW} {a b : Int} (ha : 0 ≤ a) (ha2 : a < 9223372036854775808) (hb : 0 < b) (hb2 : b < 9223372036854775808) {x : Rat} (hx : (a : Rat) = x * (b : Rat)) : PtS (eU2 (eU2 w 27 4 (Int64.ofInt a)) 27 5 (Int64.ofInt b)) x := ⟨a, b, by rw [u2n _ _ _ _ _ _ (by omega), u2s], by rw [u2s], ha, ha2, hb, hb2, hx⟩
theorem fr27 {w : eW} {x y : Int64} : Fr QS w (eU2 (eU2 w 27 4 x) 27 5 y) := (Fr.rfl.u2 (by decide)).u2 (by decide)
theorem qex (a : Int) {b : Int} (hb : 0 < b) : ∃ x : Rat, (a : Rat) = x * (b : Rat) := ⟨(a : Rat) / (b : Rat), by
  have b0 : (0 : Rat) < (b : Rat) := by exact_mod_cast hb
  exact (qeq b0).mp rfl⟩
theorem rankfin (hF : FOK n F cv) {w : eW} {L : List Rat} (cb : CB n F cv wv w L) {h : Nat} (hh : h < n) {r : Nat} (hr : r < 6) (rp0 : 0 < rp n F wv false 0 r) {y : Rat} (hy : (bf n F wv false 0 r : Rat) = y) : Ok (f_br_findPartOfRank_J56 (Int32.ofInt (h : Nat)) (Int32.ofInt (r : Nat)) w) fun w' => Fr QS w w' ∧ ∃ x, PtA n F wv h y x ∧ PtS w' x := by
  have hn := hF.1
  have f := hF.hd hh
  have pb := prefs_b (wv := wv) (told := false) (set := 0) hF hh
  have rb := rp_b (wv := wv) (told := false) (set := 0) hF r
  obtain ⟨-, hd, pf, rk, -⟩ := cb
  unfold f_br_findPartOfRank_J56 f_fa_rankOf
  rw [if_neg (by rw [show (0 : Int32) = Int32.ofInt 0 from rfl, ilt (by omega) (by omega) (by omega) (by omega)]; omega), if_pos (by rw [show (5 : Int32) = Int32.ofInt 5 from rfl, ile (by omega) (by omega) (by omega) (by omega)]; omega), if_neg (by rw [show (0 : Int32) = Int32.ofInt 0 from rfl, ilt (by omega) (by omega) (by omega) (by omega)]; omega), hd.1, if_neg (by rw [ile (by omega) (by omega) (by omega) (by omega)]; omega), if_neg (by rw [show (0 : Int32) = Int32.ofInt 0 from rfl, ilt (by omega) (by omega) (by omega) (by omega)]; omega), if_neg (by rw [show (12 : Int32) = Int32.ofInt 12 from rfl, ile (by omega) (by omega) (by omega) (by omega)]; omega), eChk_of (by omega) (by omega) (by omega), icl (by omega) (by omega), nat_i, rk h hh, obind]
  dsimp only
  rw [ite_congr (propext (not_congr (ieq (by omega) (by omega) (by omega) (by omega)))) (fun _ => rfl) (fun _ => rfl), eChk_of (by omega) (by omega) (by omega), eChk_of (by omega) (by omega) (by omega), eChk_of (by omega) (by omega) (by omega), icl (by omega) (by omega), nat_i, pf r hr, (hd.2 h hh).1]
  by_cases e : F h 3 = r
  · rw [if_neg (fun z => z e), setPart rp0 (by omega), obind]
    obtain ⟨x, hx⟩ := qex (prefs F wv false 0 h) rp0
    exact Ok.ret ⟨fr27, x, ⟨r, hr, rp0, hy, by rw [if_pos e]; exact hx⟩, partS pb.1 (by omega) rp0 (by omega) hx⟩
  · rw [if_pos e, jlit0, setPart rp0 (by omega), obind]
    obtain ⟨x, hx⟩ := qex 0 rp0
    exact Ok.ret ⟨fr27, x, ⟨r, hr, rp0, hy, by rw [if_neg e]; exact hx⟩, partS (by omega) (by omega) rp0 (by omega) hx⟩
theorem rankfind (hF : FOK n F cv) {w : eW} {L : List Rat} (cb : CB n F cv wv w L) {h : Nat} (hh : h < n) {k : Nat} (hk : k < (Lr n F wv 6).length) : ∀ (d r f : Nat), r + d = 6 → d + 1 < f → (Lr n F wv r).length ≤ k → Ok (f_br_findPartOfRank_L9 f (Int32.ofInt (h : Nat)) (Int32.ofInt (k : Nat)) (-1) (Int32.ofInt (r : Nat)) (Int32.ofInt (((Lr n F wv r).length : Nat) : Int)) w) fun w' => Fr QS w w' ∧ ∃ x, PtA n F wv h (brk L k) x ∧ PtS w' x := by
  have hn := hF.1
  have l6 := (Lr_ok (wv := wv) hF 6).2.2.2
  intro d
  induction d with
  | zero =>
    intro r f hr hf hl
    have : r = 6 := by omega
    subst this
    omega
  | succ d ih =>
    intro r f hr hf hl
    obtain ⟨f, rfl⟩ : ∃ g, f = g + 1 := ⟨f - 1, by omega⟩
    have rb := rp_b (wv := wv) (told := false) (set := 0) hF r
    have lr := (Lr_ok (wv := wv) hF r).2.2.2
    unfold f_br_findPartOfRank_L9
    rw [if_neg (by rw [show (5 : Int32) = Int32.ofInt 5 from rfl, ilt (by omega) (by omega) (by omega) (by omega)]; omega), if_neg (fun z => z rfl), eChk_of (by omega) (by omega) (by omega), icl (by omega) (by omega), nat_i, cb.2.2.1 r (by omega)]
    simp only [lg_cmp_le]
    rw [ite_congr (propext (show (Int64.ofInt (rp n F wv false 0 r) ≤ 0) ↔ rp n F wv false 0 r ≤ 0 by rw [jlit0, jle (by omega) (by omega) (by omega) (by omega)])) (fun _ => rfl) (fun _ => rfl)]
    simp only [isucc]
    by_cases g : rp n F wv false 0 r ≤ 0
    · rw [if_pos g]
      have e : Lr n F wv (r + 1) = Lr n F wv r := by simp only [Lr]; rw [if_neg (by omega)]
      have := ih (r + 1) f (by omega) (by omega) (by rw [e]; exact hl)
      rw [e] at this
      exact this
    · rw [if_neg g, ite_congr (propext (not_congr (ieq (by omega) (by omega) (by omega) (by omega)))) (fun _ => rfl) (fun _ => rfl)]
      have e : (Lr n F wv (r + 1)).length = (Lr n F wv r).length + 1 := by simp only [Lr]; rw [if_pos (by omega)]; simp
      by_cases e2 : (((Lr n F wv r).length : Nat) : Int) = (k : Int)
      · rw [if_neg (fun z => z e2)]
        have e3 : (Lr n F wv r).length = k := by omega
        obtain ⟨N, eN⟩ := Lr_pre (n := n) (F := F) (wv := wv) (r := r) (d := 6 - r)
        rw [show r + (6 - r) = 6 by omega] at eN
        obtain ⟨M, eM, -⟩ := cb.2.2.2.2.2.2.2.2.1
        have hy := brk_rank (L := L) (N := N ++ M) hF (r := r) (by rw [eM, eN, List.append_assoc])
        rw [e3] at hy
        have R := rankfin hF cb hh (show r < 6 by omega) (by omega) hy.symm
        obtain ⟨f, rfl⟩ : ∃ g, f = g + 1 := ⟨f - 1, by omega⟩
        unfold f_br_findPartOfRank_L9
        refine Ok.br (fun _ => R) (fun _ => ?_)
        rw [if_pos (by rw [show (-1 : Int32) = Int32.ofInt (-1) from rfl, ieq (by omega) (by omega) (by omega) (by omega)]; omega)]
        exact R
      · rw [if_pos e2]
        have := ih (r + 1) f (by omega) (by omega) (by omega)
        rw [e] at this
        exact this
end
section
variable {n : Nat} {F : Nat → Nat → Int} {wv : Int32} {cv : Int} {c m : eW} {s0 : Int32}
theorem thr_loop (hF : FOK n F cv) {y : Rat} (y0 : 0 ≤ y.num) (y1 : y.num ≤ 54000000000000) (y2 : ((y.den : Nat) : Int) ≤ 400) {ls : List ZStp} (hl : ls.length ≤ 24) (hp : ls.Perm (alls F wv false 0 n)) : ∀ (u t : List ZStp) (f : Nat), ls = t ++ u → u.length < f → ∀ (w : eW) (lo : Rat), w.1 19 0 = Int32.ofInt (n : Nat) → SV w ls → Tk n F wv false 0 w t → Sq n F wv t u lo → tt n F wv false 0 lo ≤ y → (lo = 0 ∨ ∃ s, s ∈ alls F wv false 0 n ∧ sL s = lo) →
    Ok (f_cu_sweep_L7 f (Int64.ofInt y.num) (Int64.ofInt ((y.den : Nat) : Int)) 1 (Int32.ofInt (t.length : Nat)) w) fun w' => TFr w w' ∧ ∃ t' u' lo', Tk n F wv false 0 w' t' ∧ Sq n F wv t' u' lo' ∧ tt n F wv false 0 lo' ≤ y ∧ (lo' = 0 ∨ ∃ s, s ∈ alls F wv false 0 n ∧ sL s = lo') ∧ (u' = [] ∨ ∃ s u'', u' = s :: u'' ∧ y < tt n F wv false 0 (sL s)) := by
  have hn := hF.1
  have yd := y.den_pos
  intro u
  induction u with
  | nil =>
    intro t f e hf w lo hc sv tk sq ly hlo
    obtain ⟨f, rfl⟩ : ∃ g, f = g + 1 := ⟨f - 1, by omega⟩
    rw [List.append_nil] at e
    subst e
    unfold f_cu_sweep_L7
    rw [sv.1, if_pos (by rw [ile (by omega) (by omega) (by omega) (by omega)]; omega)]
    exact Ok.ret ⟨TFr.rfl, ls, [], lo, tk, sq, ly, hlo, .inl rfl⟩
  | cons s u ih =>
    intro t f e hf w lo hc sv tk sq ly hlo
    obtain ⟨f, rfl⟩ : ∃ g, f = g + 1 := ⟨f - 1, by omega⟩
    have hi : ls[t.length]? = some s := by rw [e, List.getElem?_append_right (Nat.le_refl _), Nat.sub_self, List.getElem?_cons_zero]
    have ms : s ∈ alls F wv false 0 n := hp.mem_iff.mp (by rw [e]; simp)
    have gs := alls_good hF n (Nat.le_refl _) s ms
    have rq := alls_rq hF n (Nat.le_refl _) s ms
    have ll : ls.length = t.length + (u.length + 1) := by rw [e, List.length_append, List.length_cons]
    have tb := tot_b (s := s) hF sq.1 rq
    have tv := Sq_tt hF sq gs.2
    have lo1 : lo ≤ sL s := sq.2.2.2.1 s (by simp)
    have sl0 : 0 ≤ sL s := by have := sq.2.1; grind
    have nn := tt_nn (wv := wv) hF sl0
    have q0 : (0 : Rat) ≤ (s.2.2.1 : Rat) := by exact_mod_cast (show 0 ≤ s.2.2.1 by omega)
    have t0 : 0 ≤ AF n F wv false 0 t * s.2.2.1 + AS n F t * s.2.1 := by
      have : (0 : Rat) ≤ ((AF n F wv false 0 t * s.2.2.1 + AS n F t * s.2.1 : Int) : Rat) := by rw [tv]; exact Rat.mul_nonneg nn q0
      exact_mod_cast this
    obtain ⟨ta, ra⟩ := cu_totalAt sv hl tk hi rq
    have sg := sgn_rat (show 0 < s.2.2.1 by omega) (show 0 < ((y.den : Nat) : Int) by omega) tv (qnd y)
    generalize hT : AF n F wv false 0 t * s.2.2.1 + AS n F t * s.2.1 = T at *
    have m1 := mul_le4 (a := T) (b := ((y.den : Nat) : Int)) (A := 54000000000000) (B := 400) t0 (by omega) (by omega) (by omega)
    have m2 := mul_le4 (a := y.num) (b := s.2.2.1) (A := 54000000000000) (B := 400) y0 (by omega) (by omega) (by omega)
    unfold f_cu_sweep_L7
    rw [sv.1, if_neg (by rw [ile (by omega) (by omega) (by omega) (by omega)]; omega), ta, obind]
    dsimp only
    rw [ra, obind]
    dsimp only
    rw [i2j (by omega) (by omega), ← Int64.ofInt_mul, ← Int64.ofInt_mul]
    simp (disch := omega) only [lg_cmp_gt, lg_cmp_eq, jlt, jeq]
    have go : ¬ (y.num * s.2.2.1 < T * ((y.den : Nat) : Int)) → Ok ((f_cu_take (Int32.ofInt (t.length : Nat)) w).bind fun w4 => (f_cu_sweep_L7 f (Int64.ofInt y.num) (Int64.ofInt ((y.den : Nat) : Int)) 1 (Int32.ofInt (t.length : Nat) + 1) w4)) fun w' => TFr w w' ∧ ∃ t' u' lo', Tk n F wv false 0 w' t' ∧ Sq n F wv t' u' lo' ∧ tt n F wv false 0 lo' ≤ y ∧ (lo' = 0 ∨ ∃ s, s ∈ alls F wv false 0 n ∧ sL s = lo') ∧ (u' = [] ∨ ∃ s u'', u' = s :: u'' ∧ y < tt n F wv false 0 (sL s)) := fun c => by
      refine Ok.bind (cu_take hn hc sv hl tk hi (by omega)) ?_
      rintro w1 ⟨tf, tk1⟩
      have le : tt n F wv false 0 (sL s) ≤ y := by
        by_cases z : T * ((y.den : Nat) : Int) - y.num * s.2.2.1 = 0
        · have := sg.2.mp z; rw [this]; exact Rat.le_refl
        · exact Rat.le_of_lt (sg.1.mp (by omega))
      have := ih (t ++ [s]) f (by rw [List.append_assoc]; exact e) (by rw [List.length_cons] at hf; omega) w1 (sL s) (by rw [tf.1]; exact hc) (sv.tfr tf) (tk1 gs.1) (Sq_step sq) le (.inr ⟨s, ms, rfl⟩)
      rw [List.length_append, List.length_singleton, ← isucc] at this
      refine Ok.imp this ?_
      rintro w' ⟨q1, q2⟩
      exact ⟨tf.tr q1, q2⟩
    by_cases c : y.num * s.2.2.1 < T * ((y.den : Nat) : Int)
    · rw [if_pos c]
      refine Ok.ret ⟨TFr.rfl, t, s :: u, lo, tk, sq, ly, hlo, .inr ⟨s, u, rfl, ?_⟩⟩
      have n1 : ¬ tt n F wv false 0 (sL s) < y := fun z => by have := sg.1.mpr z; omega
      have n2 : ¬ tt n F wv false 0 (sL s) = y := fun z => by have := sg.2.mpr z; omega
      grind
    · rw [if_neg c]
      by_cases c2 : T * ((y.den : Nat) : Int) = y.num * s.2.2.1
      · rw [if_neg (fun z => z c2), if_pos (by decide)]; exact go c
      · rw [if_pos c2]; exact go c
/-- where the sweep has come to, the part is reckoned -/
theorem sweep_part (hF : FOK n F cv) {L : List Rat} {y : Rat} (hap : (ap n F wv false 0 : Rat) ≤ y) (hy : (ap n F wv false 0 : Rat) = y ∨ ∃ s, s ∈ alls F wv false 0 n ∧ y = tt n F wv false 0 (sL s)) {h : Nat} (hh : h < n) {t u : List ZStp} {lo : Rat} (sq : Sq n F wv t u lo) (ly : tt n F wv false 0 lo ≤ y) (hlo : lo = 0 ∨ ∃ s, s ∈ alls F wv false 0 n ∧ sL s = lo) (hu : u = [] ∨ ∃ s u'', u = s :: u'' ∧ y < tt n F wv false 0 (sL s)) : 0 < AS n F t ∧ 0 ≤ sxt F t h ∧ ∀ x : Rat, (sxt F t h : Rat) = x * (AS n F t : Rat) → PtB n F wv h y x := by
  have hn := hF.1
  obtain ⟨sp, l0, s1, s2, s3⟩ := sq
  have t0 : (ap n F wv false 0 : Rat) ≤ tt n F wv false 0 lo := by rw [← tt_0 hF]; exact tt_mono hF Rat.le_refl l0
  have ty : tt n F wv false 0 lo = y := by
    rcases hy with e | ⟨s, hs, e⟩
    · grind
    · have hm : s ∈ t ++ u := sp.mem_iff.mpr hs
      have sl0 := sL_nn (alls_good hF n (Nat.le_refl _) s hs).2
      rcases List.mem_append.mp hm with z | z
      · have := tt_mono (wv := wv) (told := false) (set := 0) hF sl0 (s1 s z)
        grind
      · rcases hu with y1 | ⟨q, u', y1, y2⟩
        · rw [y1] at z; simp at z
        · exfalso
          rw [y1] at z s3
          have ms : q ∈ alls F wv false 0 n := sp.mem_iff.mp (by rw [y1]; simp)
          have ql0 := sL_nn (alls_good hF n (Nat.le_refl _) q ms).2
          have le : sL q ≤ sL s := by
            rcases List.mem_cons.mp z with k | k
            · rw [k]; exact Rat.le_refl
            · exact (List.pairwise_cons.mp s3).1 s k
          have := tt_mono (wv := wv) (told := false) (set := 0) hF ql0 le
          grind
  obtain ⟨v1, hv1, hv2⟩ : ∃ v1, lo < v1 ∧ ∀ s, s ∈ u → v1 ≤ sL s := by
    rcases hu with e | ⟨q, u', e, lt⟩
    · exact ⟨lo + 1, by grind, fun s hs => by rw [e] at hs; simp at hs⟩
    · refine ⟨sL q, ?_, fun s hs => ?_⟩
      · have a := s2 q (by rw [e]; simp)
        by_cases z : lo = sL q
        · rw [← z] at lt; grind
        · grind
      · rw [e] at hs s3
        rcases List.mem_cons.mp hs with k | k
        · rw [k]; exact Rat.le_refl
        · exact (List.pairwise_cons.mp s3).1 s k
  have lin : ∀ v, lo ≤ v → v ≤ v1 → tt n F wv false 0 v = (AF n F wv false 0 t : Rat) + (AS n F t : Rat) * (v / 100) ∧ vl F wv false 0 h v = (fxt F wv false 0 t h : Rat) + (sxt F t h : Rat) * (v / 100) := fun v a b => ⟨sw_tt hF sp (by grind) (fun s hs => by have := s1 s hs; grind) (fun s hs => by have := hv2 s hs; grind), sw_vl hF sp (by grind) (fun s hs => by have := s1 s hs; grind) (fun s hs => by have := hv2 s hs; grind) hh⟩
  have edge : ∀ s0, ∃ p, p ∈ edgs F wv false s0 n ∧ eV p = lo := fun s0 => by
    have z0 : lo = 0 → ∃ p, p ∈ edgs F wv false s0 n ∧ eV p = lo := fun e => ⟨(0, 1), zero_in n, by rw [e]; unfold eV; exact qz _⟩
    rcases hlo with e | ⟨s, hs, e⟩
    · exact z0 e
    · obtain ⟨i, h1, h2⟩ := alls_of' hs
      rcases stp_edg (s0 := s0) hF h1 h2 with k | ⟨p, p1, p2⟩
      · exact z0 (by rw [← e]; exact k)
      · exact ⟨p, edg_in h1 p p1, by rw [p2]; exact e⟩
  have spn : ∀ s0, Spn n F wv false s0 lo v1 := fun s0 i hi p hp => by
    obtain ⟨s, a, b⟩ := edg_stp hF hi hp
    rcases List.mem_append.mp (sp.mem_iff.mpr (alls_in hi s a)) with z | z
    · left; rw [← b]; exact s1 s z
    · right; rw [← b]; exact hv2 s z
  have v10 : 0 ≤ v1 := by grind
  have A0 := lin lo Rat.le_refl (Rat.le_of_lt hv1)
  have A1 := lin v1 (Rat.le_of_lt hv1) Rat.le_refl
  have B0 : 0 < AS n F t := by
    have rt0 := rs_tt (wv := wv) (told := false) (set := 0) hF l0 (Rat.le_refl) (Spn_mono (spn 0) (Rat.le_of_lt hv1))
    have rt1 := rs_tt (wv := wv) (told := false) (set := 0) hF l0 (Rat.le_of_lt hv1) (spn 0)
    have eq : (AS n F t : Rat) = (rgall n F wv false 0 lo : Rat) := by
      have d : ((AS n F t : Rat) - (rgall n F wv false 0 lo : Rat)) * (v1 / 100 - lo / 100) = 0 := by
        have := A0.1; have := A1.1; grind
      rcases Rat.mul_eq_zero.mp d with z | z
      · grind
      · exfalso; grind
    have r0 : 0 < rgall n F wv false 0 lo := by
      rcases hu with e | ⟨q, u', e, lt⟩
      · refine last_goes hF (by omega) fun i hi p hp => ?_
        obtain ⟨s, a, b⟩ := edg_stp hF hi hp
        rcases List.mem_append.mp (sp.mem_iff.mpr (alls_in hi s a)) with z | z
        · rw [← b]; exact s1 s z
        · rw [e] at z; simp at z
      · have gn : 0 ≤ rgall n F wv false 0 lo := (rall_b (wv := wv) (told := false) (set := 0) hF lo).1
        have : rgall n F wv false 0 lo ≠ 0 := fun z => by
          have qle' : v1 ≤ sL q := hv2 q (by rw [e]; simp)
          have ql := s2 q (by rw [e]; simp)
          -- between lo and the next step all is linear
          have lq : tt n F wv false 0 (sL q) = (AF n F wv false 0 t : Rat) + (AS n F t : Rat) * (sL q / 100) := sw_tt hF sp (by grind) (fun s hs => by have := s1 s hs; grind) (fun s hs => by
            rw [e] at hs s3
            rcases List.mem_cons.mp hs with k | k
            · rw [k]; exact Rat.le_refl
            · exact (List.pairwise_cons.mp s3).1 s k)
          rw [eq, z] at lq
          have e0 : ((0 : Int) : Rat) = 0 := rfl
          rw [e0, Rat.zero_mul] at lq
          have := A0.1
          rw [eq, z, e0, Rat.zero_mul] at this
          grind
        omega
    have : (0 : Rat) < (AS n F t : Rat) := by rw [eq]; exact_mod_cast r0
    exact_mod_cast this
  have D0 : 0 ≤ sxt F t h := by
    have mo := (vl_mono (wv := wv) (told := false) (set := 0) hF hh l0 (Rat.le_of_lt hv1)).2
    rw [A0.2, A1.2] at mo
    apply Classical.byContradiction
    intro z
    have : (sxt F t h : Rat) < 0 := by exact_mod_cast (show sxt F t h < 0 by omega)
    have : (sxt F t h : Rat) * (v1 / 100 - lo / 100) < 0 * (v1 / 100 - lo / 100) := (Rat.mul_lt_mul_right (by grind)).mpr this
    grind
  exact ⟨B0, D0, fun x hx => ⟨hap, lo, v1, AF n F wv false 0 t, AS n F t, fxt F wv false 0 t h, sxt F t h, l0, hv1, ty, lin, B0, D0, edge, spn, hx⟩⟩
end
