section
variable {n : Nat} {F : Nat → Nat → Int} {wv : Int32} {cv : Int} {c m : eW} {s0 : Int32}
theorem sxt_b (hF : FOK n F cv) {t u : List ZStp} (hp : (t ++ u).Perm (alls F wv false 0 n)) {h : Nat} (hh : h < n) : -100000000 ≤ sxt F t h ∧ sxt F t h ≤ 100000000 := by
  have hn := hF.1
  have sb := ss_b hF hh
  have lb := lint_b (f := fun s : ZStp => if s.1 = h then s.2.2.2.2 else 0) (B := 3999600) (t := t) (fun s hs => by
    have := alls_b hF n (Nat.le_refl _) s (hp.mem_iff.mp (List.mem_append_left _ hs))
    split <;> omega)
  have tl : t.length ≤ 24 := by
    have := hp.length_eq
    have al := alls_len (F := F) (wv := wv) (told := false) (set := 0) n
    rw [List.length_append] at this
    omega
  unfold sxt
  have : (3999600 : Int) * (t.length : Int) ≤ 3999600 * 24 := Int.mul_le_mul_of_nonneg_left (by omega) (by omega)
  omega
theorem lev_part (hF : FOK n F cv) {w : eW} {L : List Rat} (cb : CB n F cv wv w L) {h : Nat} (hh : h < n) {y : Rat} (y0 : 0 ≤ y.num) (y1 : y.num ≤ 54000000000000) (y2 : ((y.den : Nat) : Int) ≤ 400) (hap : (ap n F wv false 0 : Rat) ≤ y) (hy : (ap n F wv false 0 : Rat) = y ∨ ∃ s, s ∈ alls F wv false 0 n ∧ y = tt n F wv false 0 (sL s)) : Ok ((f_cu_sweep (Int64.ofInt y.num) (Int64.ofInt ((y.den : Nat) : Int)) (1 : Int32) w).bind fun w1 => (if Int32.ofInt (h : Nat) < 0 then ((f_br_setPart (0 : Int64) (w1.2 19 6) w1).bind fun w2 => (some w2)) else (if (w1.1 19 0) ≤ Int32.ofInt (h : Nat) then ((f_br_setPart (0 : Int64) (w1.2 19 6) w1).bind fun w3 => (some w3)) else (eChk (Int32.ofInt (h : Nat)) 12 ((f_br_setPart (w1.2 12 (Int32.toNatClampNeg (Int32.ofInt (h : Nat)))) (w1.2 19 6) w1).bind fun w4 => (some w4)))))) fun w' => Fr QS w w' ∧ ∃ x, PtB n F wv h y x ∧ PtS w' x := by
  have hn := hF.1
  obtain ⟨-, hd, -, -, ⟨ls, l1, l2, l3⟩, -⟩ := cb
  have ll := l1.length_eq
  have al := alls_len (F := F) (wv := wv) (told := false) (set := 0) n
  unfold f_cu_sweep
  refine Ok.bind (P := fun w' => TFr w w' ∧ ∃ t' u' lo', Tk n F wv false 0 w' t' ∧ Sq n F wv t' u' lo' ∧ tt n F wv false 0 lo' ≤ y ∧ (lo' = 0 ∨ ∃ s, s ∈ alls F wv false 0 n ∧ sL s = lo') ∧ (u' = [] ∨ ∃ s u'', u' = s :: u'' ∧ y < tt n F wv false 0 (sL s))) (Ok.bind (cu_restart hF hd) ?_) ?_
  · rintro w1 ⟨tf, tk⟩
    refine Ok.imp (thr_loop hF y0 y1 y2 (by omega) l1 ls [] eFu rfl (by rw [eFu_eq]; omega) w1 0 (by rw [tf.1]; exact hd.1) (l3.tfr tf) tk ⟨by simpa using l1, Rat.le_refl, by simp, fun s hs => sL_nn (alls_good hF n (Nat.le_refl _) s (l1.mem_iff.mp hs)).2, l2⟩ (by rw [tt_0 hF]; exact hap) (.inl rfl)) ?_
    rintro w' ⟨q1, q2⟩
    exact ⟨tf.tr q1, q2⟩
  · rintro w1 ⟨tf, t, u, lo, tk, sq, ly, hlo, hu⟩
    obtain ⟨B0, D0, pt⟩ := sweep_part (L := L) hF hap hy hh sq ly hlo hu
    have sb := sxt_b hF sq.1 hh
    have ab := AF_b hF sq.1
    rw [if_neg (by rw [show (0 : Int32) = Int32.ofInt 0 from rfl, ilt (by omega) (by omega) (by omega) (by omega)]; omega), show w1.1 19 0 = Int32.ofInt (n : Nat) by rw [tf.1]; exact hd.1, if_neg (by rw [ile (by omega) (by omega) (by omega) (by omega)]; omega), eChk_of (by omega) (by omega) (by omega), icl (by omega) (by omega), nat_i, (tk.1 h hh).2, tk.2.2, setPart B0 (by omega), obind]
    obtain ⟨x, hx⟩ := qex (sxt F t h) B0
    exact Ok.ret ⟨(tf.fr.sub (by decide)).tr fr27, x, pt x hx, partS D0 (by omega) B0 (by omega) hx⟩
theorem find_part (hF : FOK n F cv) {w : eW} {L : List Rat} (cb : CB n F cv wv w L) {h : Nat} (hh : h < n) {k : Nat} (hk : k ≤ L.length) : Ok (f_br_findPart (Int32.ofInt (h : Nat)) (Int32.ofInt (k : Nat)) w) fun w' => Fr QS w w' ∧ ∃ x, (PtA n F wv h (brk L k) x ∨ PtB n F wv h (brk L k) x) ∧ PtS w' x := by
  have hn := hF.1
  have cb' := cb
  obtain ⟨-, hd, -, -, ⟨ls, l1, l2, l3⟩, bl, rs, lb, ⟨M, e1, e2, e3, e4⟩, e27⟩ := cb'
  have ll := l1.length_eq
  have al := alls_len (F := F) (wv := wv) (told := false) (set := 0) n
  have ok := Lr_ok (wv := wv) hF 6
  have eL : L.length = (Lr n F wv 6).length + M.length := by rw [e1, List.length_append]
  unfold f_br_findPart
  rw [e27]
  refine Ok.iff (e := ((Lr n F wv 6).length : Int) ≤ k) (ile (by omega) (by omega) (by omega) (by omega)) (fun g => ?_) (fun g => ?_)
  · refine Ok.bind (P := fun w' => Fr QS w w' ∧ ∃ x, PtB n F wv h (brk L k) x ∧ PtS w' x) ?_ (fun w' hw => Ok.ret ⟨hw.1, by obtain ⟨x, a, b⟩ := hw.2; exact ⟨x, .inr a, b⟩⟩)
    have b6 := bf_6 (wv := wv) (told := false) (set := 0) hF
    have yy : (ap n F wv false 0 : Rat) ≤ brk L k ∧ ((ap n F wv false 0 : Rat) = brk L k ∨ ∃ s, s ∈ alls F wv false 0 n ∧ brk L k = tt n F wv false 0 (sL s)) := by
      by_cases z : k = (Lr n F wv 6).length
      · have := brk_rank (L := L) (N := M) hF (r := 6) e1
        rw [← z, b6] at this
        rw [this]
        exact ⟨Rat.le_refl, .inl rfl⟩
      · have hm : L[k - 1]? = some (brk L k) := by
          unfold brk
          rw [if_neg (by omega), List.getD, List.getElem?_eq_getElem (by omega)]; rfl
        rw [e1, List.getElem?_append_right (by omega)] at hm
        obtain ⟨q1, q0, s, q2, q3⟩ := e2 _ (List.mem_of_getElem? hm)
        rw [← e1] at *
        exact ⟨q1, .inr ⟨s, q2, q3⟩⟩
    unfold f_br_findPartByLevel f_br_findPartByLevel_J37
    by_cases k0 : k = 0
    · subst k0
      have y0 : brk L 0 = 0 := rfl
      rw [if_pos (by decide), if_pos rfl]
      have := lev_part hF cb hh (y := brk L 0) (by rw [y0]; decide) (by rw [y0]; decide) (by rw [y0]; decide) yy.1 yy.2
      rw [y0] at this ⊢
      exact this
    · have hm : L[k - 1]? = some (brk L k) := by
        unfold brk
        rw [if_neg k0, List.getD, List.getElem?_eq_getElem (by omega)]; rfl
      obtain ⟨d1, d2⟩ := bl.2 _ _ hm
      have yb := lb _ (List.mem_of_getElem? hm)
      have yn := num_pos.mpr yb.1
      rw [if_neg (by rw [show (0 : Int32) = Int32.ofInt 0 from rfl, ile (by omega) (by omega) (by omega) (by omega)]; omega), bl.1, if_neg (by rw [ilt (by omega) (by omega) (by omega) (by omega)]; omega), show (1 : Int32) = Int32.ofInt 1 from rfl, ← Int32.ofInt_sub, eChk_of (by omega) (by omega) (by omega), if_neg (by decide), eChk_of (by omega) (by omega) (by omega), icl (by omega) (by omega), show ((k : Int) - 1).toNat = k - 1 by omega, d1, d2]
      exact lev_part hF cb hh (by omega) (by omega) (by omega) yy.1 yy.2
  · refine Ok.bind (P := fun w' => Fr QS w w' ∧ ∃ x, PtA n F wv h (brk L k) x ∧ PtS w' x) ?_ (fun w' hw => Ok.ret ⟨hw.1, by obtain ⟨x, a, b⟩ := hw.2; exact ⟨x, .inl a, b⟩⟩)
    unfold f_br_findPartOfRank
    exact rankfind hF cb hh (by omega) 6 0 eFu (by omega) (by rw [eFu_eq]; omega) (by simp [Lr])
/-! the reference's part -/
theorem gap (e : Rat) : ∀ l : List (Int × Int), ∃ v, e < v ∧ ∀ p, p ∈ l → eV p ≤ e ∨ v ≤ eV p
  | [] => ⟨e + 1, by grind, by simp⟩
  | p :: l => by
    obtain ⟨v, h1, h2⟩ := gap e l
    by_cases z : eV p ≤ e
    · exact ⟨v, h1, fun q hq => by rcases List.mem_cons.mp hq with y | y; rw [y]; exact .inl z; exact h2 q y⟩
    · refine ⟨min v (eV p), by grind, fun q hq => ?_⟩
      rcases List.mem_cons.mp hq with y | y
      · right; rw [y]; grind
      · rcases h2 q y with k | k
        · exact .inl k
        · right; grind
theorem slope_eq {A B C D lo u : Rat} (h : lo < u) (e1 : A + B * (lo / 100) = C + D * (lo / 100)) (e2 : A + B * (u / 100) = C + D * (u / 100)) : B = D := by
  have d : (B - D) * (u / 100 - lo / 100) = 0 := by grind
  rcases Rat.mul_eq_zero.mp d with z | z
  · grind
  · exfalso; grind
theorem rat_tri (a b : Rat) : a < b ∨ a = b ∨ b < a := by grind
/-- the edge that is met is the right one -/
theorem edge_is (hF : FOK n F cv) {h : Nat} (hh : h < n) {y x : Rat} (hB : PtB n F wv h y x) {p : Int × Int} (hp : p ∈ edgs F wv false s0 n) (g0 : 0 < rgall n F wv false s0 (eV p)) (ty : tt n F wv false 0 (eV p) = y) : ((F h 1 * gor F wv false s0 h (eV p) : Int) : Rat) = x * (rgall n F wv false s0 (eV p) : Rat) := by
  obtain ⟨ha, lo, u, A, B, C, D, l0, lu, tl, lin, B0, D0, -, spn, hx⟩ := hB
  have gp := edgs_good hF n (Nat.le_refl _) p hp
  have e0 : 0 ≤ eV p := qnn (by exact_mod_cast gp.1) (by exact_mod_cast gp.2.1)
  have b0 : (0 : Rat) < (B : Rat) := by exact_mod_cast B0
  have g0' : (0 : Rat) < (rgall n F wv false s0 (eV p) : Rat) := by exact_mod_cast g0
  have ee : eV p = lo := by
    rcases rat_tri (eV p) lo with z | z | z
    · exfalso
      obtain ⟨v, h1, h2⟩ := gap (eV p) (edgs F wv false s0 n)
      let q : Rat := min v lo
      have q1 : eV p < q := by show eV p < min v lo; grind
      have q2 : q ≤ lo := by show min v lo ≤ lo; grind
      have q3 : q ≤ v := by show min v lo ≤ v; grind
      have sp : Spn n F wv false s0 (eV p) q := fun i hi r hr => by
        rcases h2 r (edg_in hi r hr) with k | k
        · exact .inl k
        · exact .inr (by grind)
      have a := rs_tt (wv := wv) (told := false) (set := s0) hF e0 (Rat.le_of_lt q1) sp
      have b := rs_tt (wv := wv) (told := false) (set := s0) hF e0 Rat.le_refl (Spn_self (n := n) (F := F) (wv := wv) (told := false) (set := s0) (eV p))
      rw [tt_false s0 0] at a b
      have c := tt_mono (wv := wv) (told := false) (set := 0) hF (show 0 ≤ q by grind) q2
      have d : (rgall n F wv false s0 (eV p) : Rat) * (eV p / 100) < (rgall n F wv false s0 (eV p) : Rat) * (q / 100) := (Rat.mul_lt_mul_left g0').mpr (by grind)
      grind
    · exact z
    · exfalso
      let q : Rat := min (eV p) u
      have q1 : lo < q := by show lo < min (eV p) u; grind
      have q2 : q ≤ eV p := by show min (eV p) u ≤ eV p; grind
      have q3 : q ≤ u := by show min (eV p) u ≤ u; grind
      have a := (lin q (Rat.le_of_lt q1) q3).1
      have b := (lin lo Rat.le_refl (Rat.le_of_lt lu)).1
      have c := tt_mono (wv := wv) (told := false) (set := 0) hF (show 0 ≤ q by grind) q2
      have d : (B : Rat) * (lo / 100) < (B : Rat) * (q / 100) := (Rat.mul_lt_mul_left b0).mpr (by grind)
      grind
  rw [ee]
  have a0 := lin lo Rat.le_refl (Rat.le_of_lt lu)
  have a1 := lin u (Rat.le_of_lt lu) Rat.le_refl
  have sp := spn s0
  have sp0 := Spn_mono sp (Rat.le_of_lt lu)
  have r0 := rs_tt hF l0 Rat.le_refl sp0
  have r1 := rs_tt hF l0 (Rat.le_of_lt lu) sp
  have w0 := rs_vl hF hh l0 Rat.le_refl (sp0 h hh)
  have w1 := rs_vl hF hh l0 (Rat.le_of_lt lu) (sp h hh)
  rw [tt_false s0 0] at r0 r1
  rw [vl_false s0 0] at w0 w1
  have eB : (B : Rat) = (rgall n F wv false s0 lo : Rat) := slope_eq lu (by rw [← a0.1, ← r0]) (by rw [← a1.1, ← r1])
  have eD : (D : Rat) = ((F h 1 * gor F wv false s0 h lo : Int) : Rat) := slope_eq lu (by rw [← a0.2, ← w0]) (by rw [← a1.2, ← w1])
  rw [← eB, ← eD]
  exact hx
def PtM (w : eW) (x : Rat) : Prop := ∃ a b : Int, w.2 24 48 = Int64.ofInt a ∧ w.2 24 49 = Int64.ofInt b ∧ 0 ≤ a ∧ a < 9223372036854775808 ∧ 0 < b ∧ b < 9223372036854775808 ∧ (a : Rat) = x * (b : Rat)
theorem mpart_edges (hF : FOK n F cv) {h : Nat} (hh : h < n) {y x : Rat} (y0 : 0 ≤ y.num) (y1 : y.num ≤ 54000000000000) (y2 : ((y.den : Nat) : Int) ≤ 400) (hB : PtB n F wv h y x) {l : List (Int × Int)} (hl : l.length ≤ 30) (hg : ∀ p, p ∈ l → Eb p ∧ p ∈ edgs F wv false s0 n) : ∀ (u t : List (Int × Int)) (f : Nat), l = t ++ u → u.length < f → ∀ w : eW, EV w l → MT w n F cv wv false s0 → (∃ p, p ∈ u ∧ 0 < rgall n F wv false s0 (eV p) ∧ tt n F wv false 0 (eV p) = y) → Ok (f_mm_layPart_L115 f (Int32.ofInt (h : Nat)) (Int64.ofInt y.num) (Int64.ofInt ((y.den : Nat) : Int)) (Int32.ofInt (t.length : Nat)) w) fun w' => Km w w' ∧ PtM w' x := by
  have hn := hF.1
  have yd := y.den_pos
  have fh := hF.hd hh
  intro u
  induction u with
  | nil =>
    intro t f e hf w ev hM hex
    obtain ⟨p, hp, _⟩ := hex
    simp at hp
  | cons p u ih =>
    intro t f e hf w ev hM hex
    obtain ⟨f, rfl⟩ : ∃ g, f = g + 1 := ⟨f - 1, by omega⟩
    have hi : l[t.length]? = some p := by rw [e, List.getElem?_append_right (Nat.le_refl _), Nat.sub_self, List.getElem?_cons_zero]
    have gp := hg p (by rw [e]; simp)
    have le : l.length = t.length + (u.length + 1) := by rw [e, List.length_append, List.length_cons]
    unfold f_mm_layPart_L115
    rw [ev.1, if_neg (by rw [ile (by omega) (by omega) (by omega) (by omega)]; omega)]
    refine Ok.bind (m_allAt hF hl ev hM hi gp.1) ?_
    rintro ⟨v, w1⟩ ⟨kf, fx, a, rfl, a0, a1, a2⟩
    dsimp only at *
    have ev1 := ev.kf kf
    have hM1 := hM.kl kf.kl
    rw [m_allGoes hF hM1 fx, obind]
    dsimp only
    have rb := rall_b (wv := wv) (told := false) (set := s0) hF (eV p)
    simp only [lg_cmp_le]
    have next : (¬ (0 < rgall n F wv false s0 (eV p) ∧ tt n F wv false 0 (eV p) = y)) → Ok (f_mm_layPart_L115 f (Int32.ofInt (h : Nat)) (Int64.ofInt y.num) (Int64.ofInt ((y.den : Nat) : Int)) (Int32.ofInt (t.length : Nat) + 1) w1) fun w' => Km w w' ∧ PtM w' x := fun no => by
      have := ih (t ++ [p]) f (by rw [List.append_assoc]; exact e) (by rw [List.length_cons] at hf; omega) w1 ev1 hM1 (by
        obtain ⟨q, q1, q2⟩ := hex
        rcases List.mem_cons.mp q1 with z | z
        · rw [z] at q2; exact absurd q2 no
        · exact ⟨q, z, q2⟩)
      rw [List.length_append, List.length_singleton, ← isucc] at this
      refine Ok.imp this ?_
      rintro w' ⟨r1, r2⟩
      exact ⟨kf.kl.km.tr r1, r2⟩
    refine Ok.iff (e := rgall n F wv false s0 (eV p) ≤ 0) (by rw [jlit0, jle (by omega) (by omega) (by omega) (by omega)]) (fun g => next (fun z => by omega)) (fun g => ?_)
    rw [eChk_of (by omega) (by omega) (by omega), icl (by omega) (by omega), nat_i, (ev1.2 _ _ hi).2, jlit100, ← Int64.ofInt_mul]
    have dp := mul_le4 (a := 100 * p.2) (b := ((y.den : Nat) : Int)) (A := 40000) (B := 400) (by omega) (by omega) (by omega) (by omega)
    rw [m_against a0 (by omega) (by omega) (by omega) y0 (by omega) (by omega) (by omega) (by omega), obind]
    dsimp only
    have sg := sgn_rat (show 0 < 100 * p.2 by omega) (show 0 < ((y.den : Nat) : Int) by omega) a2 (qnd y)
    generalize a * ((y.den : Nat) : Int) - y.num * (100 * p.2) = zz at *
    by_cases z0 : zz = 0
    · have te := sg.2.mp z0
      rw [z0, show sgn 0 = 0 from rfl, if_neg (fun z => z rfl), eChk_of (by omega) (by omega) (by omega), eChk_of (by omega) (by omega) (by omega), icl (by omega) (by omega), nat_i, (hM1.1.2.2.2 h hh).2.1, (fx h hh).2, i2j (by omega) (by omega), ← Int64.ofInt_mul]
      have gn := gor_nn (wv := wv) (told := false) (set := s0) hF hh (e := eV p)
      have k1 : KL w1 (eU2 w1 24 48 (Int64.ofInt (F h 1 * gor F wv false s0 h (eV p)))) → True := fun _ => trivial
      have km1 : Km w1 (eU2 w1 24 48 (Int64.ofInt (F h 1 * gor F wv false s0 h (eV p)))) := Km.rfl.u2 (by omega)
      have hM2 : MT (eU2 w1 24 48 (Int64.ofInt (F h 1 * gor F wv false s0 h (eV p)))) n F cv wv false s0 := ⟨hM1.1.km km1, hM1.2.1, hM1.2.2⟩
      have fx2 : FX F wv false s0 (eV p) (eU2 w1 24 48 (Int64.ofInt (F h 1 * gor F wv false s0 h (eV p)))) n := fun i hi => by rw [u2n _ _ _ _ _ _ (by omega), u2n _ _ _ _ _ _ (by omega)]; exact fx i hi
      rw [m_allGoes hF hM2 fx2, obind]
      have m3 := mul_le4 (a := F h 1) (b := gor F wv false s0 h (eV p)) (A := 9999) (B := 400) (by omega) (by omega) (by omega) (by omega)
      refine Ok.ret ⟨(kf.kl.km.tr km1).tr (Km.rfl.u2 (by omega)), _, _, by rw [u2n _ _ _ _ _ _ (by omega), u2s], by rw [u2s], m3.1, by omega, by omega, by omega, ?_⟩
      exact edge_is hF hh hB gp.2 (by omega) te
    · rw [if_pos (by unfold sgn; by_cases y : zz < 0; rw [if_pos y]; decide; rw [if_neg y, if_neg z0]; decide)]
      exact next (fun z => z0 (sg.2.mpr z.2))
theorem mpart_ranks (hF : FOK n F cv) {h : Nat} (hh : h < n) {y x : Rat} (y0 : 0 ≤ y.num) (y1 : y.num ≤ 54000000000000) (y2 : ((y.den : Nat) : Int) ≤ 400) (hx : PtA n F wv h y x ∨ PtB n F wv h y x) {w : eW} {L : List Rat} (mb : MB n F cv wv s0 w L) : ∀ (d r f : Nat), r + d = 6 → d < f → (∀ q, q < r → 0 < rp n F wv false 0 q → (bf n F wv false 0 q : Rat) ≠ y) → Ok (f_mm_layPart_L16 f (Int32.ofInt (h : Nat)) (Int64.ofInt y.num) (Int64.ofInt ((y.den : Nat) : Int)) (Int64.ofInt (bf n F wv false 0 r)) (Int32.ofInt (r : Nat)) w) fun w' => Km w w' ∧ PtM w' x := by
  have hn := hF.1
  have yd := y.den_pos
  have fh := hF.hd hh
  obtain ⟨hM, bm, rs, hbm, ml, l36, l, l1, l2, ev⟩ := mb
  intro d
  induction d with
  | zero =>
    intro r f hr hf hno
    obtain ⟨f, rfl⟩ : ∃ g, f = g + 1 := ⟨f - 1, by omega⟩
    have : r = 6 := by omega
    subst this
    unfold f_mm_layPart_L16
    rw [if_pos (by decide)]
    rcases hx with ⟨r, r1, r2, r3, -⟩ | hB
    · exact absurd r3 (hno r r1 r2)
    · have el := edgs_len (F := F) (wv := wv) (told := false) (set := s0) n
      have le := l1.length_eq
      refine mpart_edges hF hh y0 y1 y2 hB (by omega) (fun p hp => ⟨edgs_good hF n (Nat.le_refl _) p (l1.mem_iff.mp hp), l1.mem_iff.mp hp⟩) l [] eFu rfl (by rw [eFu_eq]; omega) w ev hM ?_
      obtain ⟨ha, lo, u, A, B, C, D, l0, lu, tl, lin, B0, D0, ex, spn, -⟩ := hB
      obtain ⟨p, p1, p2⟩ := ex s0
      refine ⟨p, l1.mem_iff.mpr p1, ?_, by rw [p2]; exact tl⟩
      rw [p2]
      have a0 := lin lo Rat.le_refl (Rat.le_of_lt lu)
      have a1 := lin u (Rat.le_of_lt lu) Rat.le_refl
      have r0 := rs_tt hF l0 Rat.le_refl (Spn_mono (spn s0) (Rat.le_of_lt lu))
      have r1 := rs_tt hF l0 (Rat.le_of_lt lu) (spn s0)
      rw [tt_false s0 0] at r0 r1
      have eB : (B : Rat) = (rgall n F wv false s0 lo : Rat) := slope_eq lu (by rw [← a0.1, ← r0]) (by rw [← a1.1, ← r1])
      have : (0 : Rat) < (rgall n F wv false s0 lo : Rat) := by rw [← eB]; exact_mod_cast B0
      exact_mod_cast this
  | succ d ih =>
    intro r f hr hf hno
    obtain ⟨f, rfl⟩ : ∃ g, f = g + 1 := ⟨f - 1, by omega⟩
    unfold f_mm_layPart_L16
    have rb := rp_b (wv := wv) (told := false) (set := 0) hF r
    have b0 := bf_b (wv := wv) hF (show r ≤ 6 by omega)
    have pb := prefs_b (wv := wv) (told := false) (set := 0) hF hh
    rw [if_neg (by rw [show (6 : Int32) = Int32.ofInt 6 from rfl, ile (by omega) (by omega) (by omega) (by omega)]; omega), m_firstsOf hF hM (by omega), obind]
    dsimp only
    rw [rp_false s0 0]
    simp only [lg_cmp_le]
    have next : (0 < rp n F wv false 0 r → (bf n F wv false 0 r : Rat) ≠ y) → Ok (f_mm_layPart_L16 f (Int32.ofInt (h : Nat)) (Int64.ofInt y.num) (Int64.ofInt ((y.den : Nat) : Int)) (Int64.ofInt (bf n F wv false 0 r) + Int64.ofInt (rp n F wv false 0 r)) (Int32.ofInt (r : Nat) + 1) w) fun w' => Km w w' ∧ PtM w' x := fun no => by
      rw [← Int64.ofInt_add, isucc]
      exact ih (r + 1) f (by omega) (by omega) fun q hq h0 => by
        by_cases z : q = r
        · rw [z] at h0 ⊢; exact no h0
        · exact hno q (by omega) h0
    refine Ok.iff (e := rp n F wv false 0 r ≤ 0) (by rw [jlit0, jle (by omega) (by omega) (by omega) (by omega)]) (fun g => next (fun z => by omega)) (fun g => ?_)
    rw [show (1 : Int64) = Int64.ofInt 1 from rfl, m_against y0 (by omega) (by omega) (by omega) b0.1 (by omega) (by omega) (by omega) (by omega), obind]
    dsimp only
    have sg := sgn_rat (show 0 < ((y.den : Nat) : Int) by omega) (show (0 : Int) < 1 by omega) (qnd y) (y := (bf n F wv false 0 r : Rat)) (Rat.mul_one _).symm
    generalize y.num * 1 - bf n F wv false 0 r * ((y.den : Nat) : Int) = zz at *
    by_cases z0 : zz = 0
    · have te := sg.2.mp z0
      have key : ((if F h 3 = r then prefs F wv false 0 h else 0 : Int) : Rat) = x * (rp n F wv false 0 r : Rat) := by
        rcases hx with ⟨q, q1, q2, q3, q4⟩ | ⟨ha, -⟩
        · have : q = r := by
            rcases Nat.lt_trichotomy q r with k | k | k
            · exact absurd q3 (hno q k q2)
            · exact k
            · exfalso
              have mo := bf_mono (wv := wv) (told := false) (set := 0) hF (show r + 1 ≤ q by omega)
              have e2 : bf n F wv false 0 (r + 1) = bf n F wv false 0 r + rp n F wv false 0 r := rfl
              have : (bf n F wv false 0 r : Rat) < (bf n F wv false 0 q : Rat) := by exact_mod_cast (show bf n F wv false 0 r < bf n F wv false 0 q by omega)
              grind
          rw [this] at q4; exact q4
        · exfalso
          have mo := bf_mono (wv := wv) (told := false) (set := 0) hF (show r + 1 ≤ 6 by omega)
          rw [bf_6 hF] at mo
          have e2 : bf n F wv false 0 (r + 1) = bf n F wv false 0 r + rp n F wv false 0 r := rfl
          have : (bf n F wv false 0 r : Rat) < (ap n F wv false 0 : Rat) := by exact_mod_cast (show bf n F wv false 0 r < ap n F wv false 0 by omega)
          grind
      have hm := hM.1.2.2.2 h hh
      have fin : ∀ a : Int, 0 ≤ a → a ≤ 989901000 → (a : Rat) = x * (rp n F wv false 0 r : Rat) → Ok (some (eU2 (eU2 w 24 48 (Int64.ofInt a)) 24 49 (Int64.ofInt (rp n F wv false 0 r)))) fun w' => Km w w' ∧ PtM w' x := fun a a0 a1 a2 => Ok.ret ⟨(Km.rfl.u2 (by omega)).u2 (by omega), a, _, by rw [u2n _ _ _ _ _ _ (by omega), u2s], by rw [u2s], a0, by omega, by omega, by omega, a2⟩
      rw [z0, show sgn 0 = 0 from rfl, if_neg (fun z => z rfl), eChk_of (by omega) (by omega) (by omega), icl (by omega) (by omega), nat_i, hm.1]
      refine Ok.iff (e := ¬ F h 0 = 2) (not_congr (by rw [show (2 : Int32) = Int32.ofInt 2 from rfl, ieq (by omega) (by omega) (by omega) (by omega)])) (fun g2 => ?_) (fun g2 => ?_)
      · rw [prefs_0 g2] at key
        exact fin 0 (by omega) (by omega) (by rw [← key]; split <;> rfl)
      · have c2 : F h 0 = 2 := by omega
        rw [eChk_of (by omega) (by omega) (by omega), hm.2.2.2 c2 3 (by omega) (by omega)]
        refine Ok.iff (e := ¬ F h 3 = r) (not_congr (ieq (by omega) (by omega) (by omega) (by omega))) (fun g3 => ?_) (fun g3 => ?_)
        · rw [if_neg g3] at key
          exact fin 0 (by omega) (by omega) key
        · have c3 : F h 3 = r := by omega
          rw [if_pos c3] at key
          rw [eChk_of (by omega) (by omega) (by omega), hM.first hF hh, obind]
          dsimp only
          have fb := fst_b (wv := wv) (told := false) (set := s0) hF hh
          rw [hm.2.1, i2j (by omega) (by omega), ← Int64.ofInt_mul, show F h 1 * fst_ false s0 F wv h = prefs F wv false 0 h by rw [← prefs_false s0 0]; rfl]
          exact fin _ pb.1 (by omega) key
    · rw [if_pos (by unfold sgn; by_cases y : zz < 0; rw [if_pos y]; decide; rw [if_neg y, if_neg z0]; decide)]
      exact next (fun _ z => z0 (sg.2.mpr z.symm))
end
section
variable {n : Nat} {F : Nat → Nat → Int} {wv : Int32} {cv : Int} {c m : eW} {s0 : Int32}
theorem x_list' (hF : FOK n F cv) (hC : CF c n F cv wv) : ∃ c1 L, Fr QS c c1 ∧ CB n F cv wv c1 L ∧ ∀ {β : Type} (k : eW → Option β), ((f_fa_arrange (0 : Int32) (0 : Int32) c).bind fun w1 => (f_br_list w1).bind k) = k c1 := by
  obtain ⟨c1, e1, f1, L, cb⟩ := x_list hF hC (k := fun w => some w) (P := fun w => Fr QS c w ∧ ∃ L, CB n F cv wv w L) (fun w L f cb => Ok.ret ⟨f, L, cb⟩)
  refine ⟨c1, L, f1, cb, ?_⟩
  intro β k
  cases h : f_fa_arrange (0 : Int32) (0 : Int32) c with
  | none => rw [h] at e1; cases e1
  | some w1 =>
    rw [h] at e1
    change (f_br_list w1).bind (fun w => some w) = _ at e1
    change (f_br_list w1).bind k = _
    cases h2 : f_br_list w1 with
    | none => rw [h2] at e1; cases e1
    | some w2 =>
      rw [h2] at e1
      cases e1
      rfl
theorem mpart_fin {w : eW} {x : Rat} (h : PtM w x) {a3 : Int32} (j : a3 = 0 ∨ a3 = 1) : ((f_mm_common (w.2 24 48) (w.2 24 49) w).bind fun p6 => (if ¬ a3 = 0 then (if p6.1 = 0 then none else (some (((p6.2.2 24 49) / p6.1), p6.2))) else (if p6.1 = 0 then none else (some (((p6.2.2 24 48) / p6.1), p6.2))))) = some (ND x a3, w) := by
  obtain ⟨a, b, e1, e2, a0, a1, b0, b1, hx⟩ := h
  have q := q_low a0 b0 hx
  rw [e1, e2, m_common a0 a1 (by omega) b1, obind]
  dsimp only
  have gp : ¬ (Int64.ofInt ((Int.gcd a b : Nat) : Int) = 0) := by
    rw [jlit0, jeq (by omega) (by omega) (by omega) (by omega)]; omega
  rw [if_neg gp, if_neg gp, e1, e2, jdiv (by omega) (by omega) (by omega) (by omega), jdiv (by omega) (by omega) (by omega) (by omega), q.1, q.2.1]
  rcases j with rfl | rfl
  · rw [if_neg (fun z => z rfl)]; rfl
  · rw [if_pos (by decide)]; rfl
theorem m_layPart (hF : FOK n F cv) {h : Nat} (hh : h < n) {y x : Rat} (y0 : 0 ≤ y.num) (y1 : y.num ≤ 54000000000000) (y2 : ((y.den : Nat) : Int) ≤ 400) (hx : PtA n F wv h y x ∨ PtB n F wv h y x) {w : eW} {L : List Rat} (mb : MB n F cv wv s0 w L) : Ok (f_mm_layPart (Int32.ofInt (h : Nat)) (Int64.ofInt y.num) (Int64.ofInt ((y.den : Nat) : Int)) w) fun w' => Km w w' ∧ PtM w' x := by
  unfold f_mm_layPart
  have k1 : Km w (eU2 (eU2 w 24 48 0) 24 49 1) := (Km.rfl.u2 (by omega)).u2 (by omega)
  have mb' : MB n F cv wv s0 (eU2 (eU2 w 24 48 0) 24 49 1) L := by
    obtain ⟨hM, bm, rs, hbm, ml, l36, l, l1, l2, ev⟩ := mb
    refine ⟨⟨hM.1.km k1, hM.2.1, hM.2.2⟩, ⟨bm.1, fun i x hx => ?_⟩, rs, hbm, ml, l36, l, l1, l2, ev.1, fun i p hp => ?_⟩
    · rw [u2n _ _ _ _ _ _ (by omega), u2n _ _ _ _ _ _ (by omega), u2n _ _ _ _ _ _ (by omega), u2n _ _ _ _ _ _ (by omega)]; exact bm.2 i x hx
    · rw [u2n _ _ _ _ _ _ (by omega), u2n _ _ _ _ _ _ (by omega), u2n _ _ _ _ _ _ (by omega), u2n _ _ _ _ _ _ (by omega)]; exact ev.2 i p hp
  refine Ok.imp (mpart_ranks hF hh y0 y1 y2 hx mb' 6 0 eFu (by omega) (by rw [eFu_eq]; omega) (by omega)) ?_
  rintro w' ⟨q1, q2⟩
  exact ⟨k1.tr q1, q2⟩
theorem q_part (hF : FOK n F cv) (hC : CF c n F cv wv) (hM : MF m n F cv wv) (a1 a2 a3 : Int32) : Qr (f_xx_part a1 a2 a3 c) (f_mm_part a1 a2 a3 m) c m := by
  have hn := hF.1
  have hM0 := hM.km (m0k m)
  have r2 := irange a2
  unfold f_xx_part f_mm_part
  obtain ⟨m1, d1, k1, s0, M, mb⟩ := m_layBreaks hF hM0
  obtain ⟨c1, L, f1, cb, ee⟩ := x_list' hF hC
  have le := lists_eq hF cb mb
  subst le
  have bl := cb.2.2.2.2.2.1
  have bm := mb.2.1
  have l36 := mb.2.2.2.2.2.1
  have hM1 := mb.1.1
  rw [d1, obind]
  simp only [c_isHolder hF hC, m_isHolder hF hM1, obind, b2i_0]
  have kk := (m0k m).tr k1
  by_cases h : 0 ≤ a1.toInt ∧ a1.toInt < n
  · simp only [decide_eq_true h, Bool.true_eq_false, if_false]
    simp only [x_isAB, m_in, obind, b2i_0, bm.1]
    rw [show (0 : Int32).toInt = 0 from rfl, show (1 : Int32).toInt = 1 from rfl, toI_ofI (a := (L.length : Int)) (by omega) (by omega)]
    have in01 : (decide (0 ≤ a3.toInt ∧ a3.toInt ≤ 1)) = decide (a3 = 0 ∨ a3 = 1) := by
      apply decide_eq_decide.mpr
      rw [← Int32.toInt_inj, ← Int32.toInt_inj]
      have e0 : (0 : Int32).toInt = 0 := rfl
      have e1 : (1 : Int32).toInt = 1 := rfl
      rw [e0, e1]
      omega
    rw [in01]
    by_cases g : 0 ≤ a2.toInt
    · rw [if_neg (by rw [iof a2, show (0 : Int32) = Int32.ofInt 0 from rfl, ilt (by omega) (by omega) (by omega) (by omega)]; omega)]
      by_cases j : a3 = 0 ∨ a3 = 1
      · simp only [decide_eq_true j, Bool.true_eq_false, not_false_eq_true, if_true]
        rw [ee, bl.1]
        by_cases k : a2.toInt ≤ L.length
        · rw [if_pos (by rw [iof a2, ile (by omega) (by omega) (by omega) (by omega)]; omega)]
          simp only [decide_eq_true (And.intro g k), Bool.true_eq_false, if_false]
          obtain ⟨i, hi, rfl⟩ := hold_of h
          obtain ⟨q, hq, rfl⟩ := hold_of (n := L.length + 1) (a := a2) (by omega)
          obtain ⟨w5, e5, f5, x, px, a, b, x1, x2, x3, x4, x5, x6, x7⟩ := find_part hF cb hi (show q ≤ L.length by omega)
          rw [e5, obind, x1, x2, nu_lowest x3 x4 x5 x6 x7, obind]
          refine Qr.of (ND x a3) (Ok.ret ⟨rfl, f1.tr f5⟩) ?_
          unfold f_mm_part_J60
          by_cases q0 : q = 0
          · subst q0
            rw [if_neg (by rw [show Int32.ofInt ((0 : Nat) : Int) = 0 from rfl]; exact fun z => z rfl), if_neg (by rw [show Int32.ofInt ((0 : Nat) : Int) = 0 from rfl]; exact fun z => z rfl)]
            have y0 : brk L 0 = 0 := rfl
            rw [y0] at px
            have R := m_layPart (s0 := s0) hF hi (y := 0) (x := x) (by decide) (by decide) (by decide) px mb
            refine Ok.bind R ?_
            rintro w7 ⟨r1, r2⟩
            rw [mpart_fin r2 j]
            exact Ok.ret ⟨rfl, kk.tr r1⟩
          · have nz : ¬ (Int32.ofInt (q : Nat) = 0) := by rw [show (0 : Int32) = Int32.ofInt 0 from rfl, ieq (by omega) (by omega) (by omega) (by omega)]; omega
            have hm : L[q - 1]? = some (brk L q) := by
              unfold brk
              rw [if_neg q0, List.getD, List.getElem?_eq_getElem (by omega)]; rfl
            obtain ⟨b1, b2⟩ := bm.2 _ _ hm
            have yb := cb.2.2.2.2.2.2.2.1 _ (List.mem_of_getElem? hm)
            have yn := num_pos.mpr yb.1
            rw [if_pos nz, if_pos nz, show (1 : Int32) = Int32.ofInt 1 from rfl, ← Int32.ofInt_sub, eChk_of (by omega) (by omega) (by omega), eChk_of (by omega) (by omega) (by omega), icl (by omega) (by omega), show ((q : Int) - 1).toNat = q - 1 by omega, b1, b2]
            refine Ok.bind (m_layPart hF hi (by omega) (by omega) (by omega) px mb) ?_
            rintro w7 ⟨r1, r2⟩
            rw [mpart_fin r2 j]
            exact Ok.ret ⟨rfl, kk.tr r1⟩
        · rw [if_neg (by rw [iof a2, ile (by omega) (by omega) (by omega) (by omega)]; omega)]
          simp only [decide_eq_false (fun z : 0 ≤ a2.toInt ∧ a2.toInt ≤ (L.length : Int) => k z.2), if_true]
          exact Qr.of _ (Ok.ret ⟨rfl, f1⟩) (Ok.ret ⟨rfl, kk⟩)
      · simp only [decide_eq_false j, not_true_eq_false, if_false]
        exact Qr.of (-2) (Ok.ret ⟨rfl, Fr.rfl⟩) (Ok.br (fun _ => Ok.ret ⟨rfl, kk⟩) (fun _ => Ok.ret ⟨rfl, kk⟩))
    · rw [if_pos (by rw [iof a2, show (0 : Int32) = Int32.ofInt 0 from rfl, ilt (by omega) (by omega) (by omega) (by omega)]; omega)]
      simp only [decide_eq_false (fun z : 0 ≤ a2.toInt ∧ a2.toInt ≤ (L.length : Int) => g z.1), if_true]
      exact Qr.of _ (Ok.ret ⟨rfl, Fr.rfl⟩) (Ok.ret ⟨rfl, kk⟩)
  · simp only [decide_eq_false h, if_true]
    exact Qr.of _ (Ok.ret ⟨rfl, Fr.rfl⟩) (Ok.ret ⟨rfl, kk⟩)
end
