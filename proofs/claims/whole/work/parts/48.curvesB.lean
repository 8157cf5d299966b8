section
variable (F : Nat → Nat → Int) (wv : Int32) (told : Bool) (set : Int32)
def Hd (w : eW) (k : Nat) : Prop := w.1 19 0 = Int32.ofInt (k : Nat) ∧ ∀ h, h < k → w.2 9 h = Int64.ofInt (prefs F wv told set h) ∧ w.2 10 h = Int64.ofInt (ss F h)
def Pf (w : eW) (k : Nat) : Prop := w.2 24 3 = Int64.ofInt (ap k F wv told set) ∧ ∀ r, r < 6 → w.2 21 r = Int64.ofInt (rp k F wv told set r)
def Ls (w : eW) (k : Nat) : Prop := ∃ ls : List ZStp, ls.Perm (alls F wv told set k) ∧ ls.Pairwise (fun x y => sL x ≤ sL y) ∧ SV w ls
end
def SA : List Nat := [9, 10, 13, 14, 15, 16, 17, 18, 19, 21, 24]
section
variable {n : Nat} {F : Nat → Nat → Int} {wv : Int32} {told : Bool} {set : Int32} {cv : Int}
theorem stp_len (h : Nat) : (stp F wv told set h).length ≤ 2 := by
  unfold stp
  repeat' split
  all_goals simp
theorem alls_len : ∀ k, (alls F wv told set k).length ≤ 2 * k
  | 0 => by simp [alls]
  | k + 1 => by
    have := alls_len k
    have := stp_len (F := F) (wv := wv) (told := told) (set := set) k
    simp only [alls, List.length_append]
    omega
theorem stp_rq (hF : FOK n F cv) {h : Nat} (hh : h < n) : ∀ s, s ∈ stp F wv told set h → Rq s.2.1 s.2.2.1 := by
  have f := hF.hd hh
  have p := pref_b (wv := wv) hF hh
  intro s hs
  unfold stp at hs
  split at hs
  · simp at hs
  · split at hs
    · rename_i h0 h1
      have g := f.2.2.2.2.1 h1
      simp only [List.mem_singleton] at hs
      subst hs
      dsimp only
      omega
    · split at hs
      · simp at hs
      · split at hs
        · rename_i hc
          have l := lid_b (wv := wv) hF hh hc
          split at hs
          · simp only [List.mem_singleton] at hs
            subst hs
            dsimp only
            omega
          · simp only [List.mem_cons, List.not_mem_nil, or_false] at hs
            rcases hs with hs | hs
            · subst hs; dsimp only; omega
            · subst hs; dsimp only; omega
        · simp at hs
theorem alls_rq (hF : FOK n F cv) : ∀ k, k ≤ n → ∀ s, s ∈ alls F wv told set k → Rq s.2.1 s.2.2.1
  | 0, _, s, hs => by simp [alls] at hs
  | k + 1, hk, s, hs => by
    simp only [alls, List.mem_append] at hs
    rcases hs with hs | hs
    · exact alls_rq hF k (by omega) s hs
    · exact stp_rq hF (by omega) s hs
theorem cu_addHolder {w : eW} {k : Nat} (hk : k < 12) (e : w.1 19 0 = Int32.ofInt (k : Nat)) (a b : Int64) : f_cu_addHolder a b w = some (eU1 (eU2 (eU2 w 9 k a) 10 k b) 19 0 (Int32.ofInt ((k + 1 : Nat) : Int))) := by
  unfold f_cu_addHolder
  rw [e, if_neg (by simp (disch := omega) only [ilit, ile]; omega)]
  simp (disch := omega) only [eChk_of, icl, nat_i]
  rw [show (1 : Int32) = Int32.ofInt 1 from rfl, ← Int32.ofInt_add]
  rfl
/-- a holder is added -/
theorem Hd_add {w : eW} {k : Nat} (hk : k < 12) (h : Hd F wv told set w k) {a b : Int} (ea : a = prefs F wv told set k) (eb : b = ss F k) : Ok (f_cu_addHolder (Int64.ofInt a) (Int64.ofInt b) w) fun w' => Fr SA w w' ∧ w'.2 24 = w.2 24 ∧ w'.2 21 = w.2 21 ∧ Hd F wv told set w' (k + 1) ∧ ∀ ls, SV w ls → SV w' ls := by
  rw [cu_addHolder hk h.1]
  refine Ok.ret ⟨((Fr.rfl.u2 (by decide)).u2 (by decide)).u1 (by decide), ?_, ?_, ⟨u1s _ _ _ _, ?_⟩, ?_⟩
  · funext q; rw [u1l, u2n _ _ _ _ _ _ (by omega), u2n _ _ _ _ _ _ (by omega)]
  · funext q; rw [u1l, u2n _ _ _ _ _ _ (by omega), u2n _ _ _ _ _ _ (by omega)]
  · intro j hj
    by_cases c : j = k
    · subst c
      rw [u1l, u2n _ _ _ _ _ _ (by omega), u2s, u2s, ea, eb]
      exact ⟨rfl, rfl⟩
    · have := h.2 j (by omega)
      rw [u1l, u2n _ _ _ _ _ _ (by omega), u2n _ _ _ _ _ _ (by omega), u2n _ _ _ _ _ _ (by omega), u2n _ _ _ _ _ _ (by omega)]
      exact this
  · intro ls hv
    unfold SV at *
    simp only [u1l, u2l]
    refine ⟨?_, fun i s hi => ?_⟩
    · rw [u1n _ _ _ _ _ _ (by omega)]; exact hv.1
    · obtain ⟨x, x1, x2, x3, x4, x5, x6, x7⟩ := hv.2 i s hi
      refine ⟨x, x1, ?_, ?_, ?_, ?_, ?_, ?_⟩
      · rw [u1n _ _ _ _ _ _ (by omega)]; exact x2
      · rw [u1n _ _ _ _ _ _ (by omega)]; exact x3
      · rw [u1n _ _ _ _ _ _ (by omega)]; exact x4
      · rw [u1n _ _ _ _ _ _ (by omega)]; exact x5
      · rw [u2n _ _ _ _ _ _ (by omega), u2n _ _ _ _ _ _ (by omega)]; exact x6
      · rw [u2n _ _ _ _ _ _ (by omega), u2n _ _ _ _ _ _ (by omega)]; exact x7
/-- a step is added -/
theorem Ls_add {w : eW} {k : Nat} (hk : k < 12) (hc : w.1 19 0 = Int32.ofInt ((k + 1 : Nat) : Int)) {l : List ZStp} (hl : l.length < 24) (hg : ∀ s, s ∈ l → Gs s ∧ Rq s.2.1 s.2.2.1) (h : ∃ ls : List ZStp, ls.Perm l ∧ ls.Pairwise (fun x y => sL x ≤ sL y) ∧ SV w ls) {r q fb sb : Int} (gs : Gs (k, r, q, fb, sb)) (hr : Rq r q) :
    Ok (f_cu_addStep (Int32.ofInt r) (Int32.ofInt q) (Int64.ofInt fb) (Int64.ofInt sb) w) fun w' => SFr w w' ∧ ∃ ls : List ZStp, ls.Perm (l ++ [(k, r, q, fb, sb)]) ∧ ls.Pairwise (fun x y => sL x ≤ sL y) ∧ SV w' ls := by
  obtain ⟨ls, h1, h2, h3⟩ := h
  refine Ok.imp (cu_addStep h3 (by rw [h1.length_eq]; exact hl) (fun s hs => (hg s (h1.mem_iff.mp hs)).2) hk hc hr) ?_
  rintro w' ⟨fr, a, b, e, sv, hb, ha⟩
  refine ⟨fr, a ++ (k, r, q, fb, sb) :: b, ?_, ?_, sv⟩
  · rw [e] at h1
    exact List.perm_middle.trans ((List.Perm.cons _ h1).trans (List.perm_append_comm (l₁ := [(k, r, q, fb, sb)]) (l₂ := l)))
  · rw [e] at h2
    refine ins_ok h2 ?_ ?_
    · intro x hx
      have gx := hg x (h1.mem_iff.mp (by rw [e]; simp [hx]))
      rw [sL_lt gs gx.1]
      exact hb x hx
    · intro x hx
      have mx : x ∈ a := List.mem_of_getLast? hx
      have gx := hg x (h1.mem_iff.mp (by rw [e]; simp [mx]))
      have := ha x hx
      rw [← Rat.not_lt, sL_lt gs gx.1]
      exact this
theorem Hd.sfr {w w' : eW} {k : Nat} (h : Hd F wv told set w k) (s : SFr w w') : Hd F wv told set w' k := by
  obtain ⟨s1, s2, s3⟩ := s
  unfold Hd at *
  rw [s3 0 (by omega), (s1 9 (by decide)).2, (s1 10 (by decide)).2]
  exact h
theorem SFr.sa {w w' : eW} (s : SFr w w') : Fr SA w w' ∧ w'.2 24 = w.2 24 ∧ w'.2 21 = w.2 21 := ⟨s.1.sub (by decide), (s.1 24 (by decide)).2, (s.1 21 (by decide)).2⟩
theorem isum_succ (f : Nat → Int) (k : Nat) : isum f (k + 1) = isum f k + f k := rfl
theorem Pf_0 {w w' : eW} {k : Nat} (h : Pf F wv told set w k) (e1 : w'.2 24 3 = w.2 24 3) (e2 : w'.2 21 = w.2 21) (z : prefs F wv told set k = 0) : Pf F wv told set w' (k + 1) := by
  unfold Pf ap rp at *
  rw [e1, e2]
  simp only [isum_succ, z]
  refine ⟨by rw [h.1]; congr 1; omega, fun r hr => ?_⟩
  rw [h.2 r hr]
  congr 1
  split <;> omega
theorem fa_countPrefs {w : eW} {k : Nat} (h : Pf F wv told set w k) {r : Nat} (hr : r < 6) (er : F k 3 = r) {p : Int} (ep : p = prefs F wv told set k) : Ok (f_fa_countPrefs (Int32.ofInt (F k 3)) (Int64.ofInt p) w) fun w' => Fr [21, 24] w w' ∧ w'.1 = w.1 ∧ w'.2 24 9 = w.2 24 9 ∧ Pf F wv told set w' (k + 1) := by
  unfold f_fa_countPrefs
  rw [er]
  rw [if_neg (by simp (disch := omega) only [ilit, ilt]; omega), if_neg (by simp (disch := omega) only [ilit, ilt]; omega)]
  simp (disch := omega) only [eChk_of, icl, nat_i]
  refine Ok.ret ⟨(Fr.rfl.u2 (by decide)).u2 (by decide), rfl, ?_, ?_⟩
  · rw [u2n _ _ _ _ _ _ (by omega), u2n _ _ _ _ _ _ (by omega)]
  · unfold Pf ap rp at *
    simp only [isum_succ]
    refine ⟨?_, fun j hj => ?_⟩
    · rw [u2n _ _ _ _ _ _ (by omega), u2s, h.1, ← Int64.ofInt_add, ep]
    · by_cases c : j = r
      · subst c
        rw [u2s, h.2 j hj, ← Int64.ofInt_add, if_pos er, ep]
      · rw [u2n _ _ _ _ _ _ (by omega), u2n _ _ _ _ _ _ (by omega), h.2 j hj, if_neg (by omega), Int.add_zero]
end
section
variable {n : Nat} {F : Nat → Nat → Int} {wv : Int32} {told : Bool} {set : Int32} {cv : Int}
theorem prefs_0 {h : Nat} (h0 : F h 0 ≠ 2) : prefs F wv told set h = 0 := by
  unfold prefs fst_
  split
  · exact Int.mul_zero _
  · rw [show pref F wv h = 0 by unfold pref; rw [if_neg (fun z => h0 z.1)]]; exact Int.mul_zero _
def AP1 (F : Nat → Nat → Int) (wv : Int32) (told : Bool) (set : Int32) (w w' : eW) (k : Nat) : Prop := Fr SA w w' ∧ w'.2 24 9 = w.2 24 9 ∧ Hd F wv told set w' (k + 1) ∧ Pf F wv told set w' (k + 1) ∧ Ls F wv told set w' (k + 1)
theorem jlit100 : (100 : Int64) = Int64.ofInt 100 := rfl
theorem jlit0 : (0 : Int64) = Int64.ofInt 0 := rfl
theorem alls_all (hF : FOK n F cv) {k : Nat} (hk : k ≤ n) : ∀ s, s ∈ alls F wv told set k → Gs s ∧ Rq s.2.1 s.2.2.1 := fun s hs => ⟨(alls_good hF k hk s hs).2, alls_rq hF k hk s hs⟩
theorem fa_addOther {w : eW} {k : Nat} (hF : FOK n F cv) (hC : CF w n F cv wv) (hk : k < n) (h2 : F k 0 ≠ 2) (a : Hd F wv told set w k) (b : Pf F wv told set w k) (c : Ls F wv told set w k) : Ok (f_fa_addOther (Int32.ofInt (k : Nat)) w) fun w' => AP1 F wv told set w w' k := by
  have hn := hF.1
  have f := hF.hd hk
  have p0 := prefs_0 (wv := wv) (told := told) (set := set) h2
  have f0 := c_fact hF hC hk (k := 0) (by omega)
  have f1 := c_fact hF hC hk (k := 1) (by omega)
  have f2 := c_fact hF hC hk (k := 2) (by omega)
  unfold f_fa_addOther
  rw [show (1 : Int32) = Int32.ofInt (1 : Nat) from rfl, f1, obind]
  dsimp only
  rw [show (0 : Int32) = Int32.ofInt (0 : Nat) from rfl, f0, obind]
  dsimp only
  rw [i2j (by omega) (by omega)]
  by_cases h0 : F k 0 = 0
  · rw [if_neg (by rw [h0]; exact fun z => z rfl), jlit100, ← Int64.ofInt_mul, jlit0]
    refine Ok.bind (Hd_add (by omega) a p0.symm (by unfold ss; rw [if_pos h0])) ?_
    rintro w1 ⟨g1, g2, g3, g4, g5⟩
    refine Ok.ret ⟨g1, by rw [g2], g4, Pf_0 b (by rw [g2]) g3 p0, ?_⟩
    obtain ⟨ls, l1, l2, l3⟩ := c
    exact ⟨ls, by simp only [alls, stp, if_pos h0, List.append_nil]; exact l1, l2, g5 ls l3⟩
  · have h1 : F k 0 = 1 := by omega
    have g := f.2.2.2.2.1 h1
    have m := mul_le4 (a := F k 2) (b := 100) (A := 999) (B := 100) (by omega) (by omega) (by omega) (by omega)
    rw [if_pos (by rw [ieq (by omega) (by omega) (by omega) (by omega)]; exact h0), show (2 : Int32) = Int32.ofInt (2 : Nat) from rfl, f2, obind]
    dsimp only
    rw [show (100 : Int32) = Int32.ofInt 100 from rfl, ← Int32.ofInt_mul, i2j (by omega) (by omega), jlit100, jlit0, ← Int64.ofInt_neg, ← Int64.ofInt_mul, ← Int64.ofInt_mul]
    refine Ok.bind (Hd_add (by omega) a p0.symm (by unfold ss; rw [if_neg h0, if_pos h1])) ?_
    rintro w1 ⟨g1, g2, g3, g4, g5⟩
    have es : stp F wv told set k = [(k, F k 2 * 100, 100, -(F k 1) * (F k 2 * 100), F k 1 * 100)] := by unfold stp; rw [if_neg h0, if_pos h1]
    have gd := stp_good (wv := wv) (told := told) (set := set) hF hk
    have gr := stp_rq (wv := wv) (told := told) (set := set) hF hk
    rw [es] at gd gr
    have len := alls_len (F := F) (wv := wv) (told := told) (set := set) k
    refine Ok.bind (Ls_add (k := k) (by omega) g4.1 (l := alls F wv told set k) (by omega) (alls_all hF (by omega)) ?_ (gd _ (List.mem_singleton.mpr rfl)).2 (gr _ (List.mem_singleton.mpr rfl))) ?_
    · obtain ⟨ls, l1, l2, l3⟩ := c
      exact ⟨ls, l1, l2, g5 ls l3⟩
    · rintro w2 ⟨s, l⟩
      have sa := s.sa
      refine Ok.ret ⟨g1.tr sa.1, by rw [sa.2.1, g2], g4.sfr s, Pf_0 b (by rw [sa.2.1, g2]) (by rw [sa.2.2, g3]) p0, ?_⟩
      unfold Ls
      rw [show alls F wv told set (k + 1) = alls F wv told set k ++ [(k, F k 2 * 100, 100, -(F k 1) * (F k 2 * 100), F k 1 * 100)] by rw [← es]; rfl]
      exact l
theorem SA_sub : ∀ i, i ∈ [21, 24] → i ∈ SA := by decide
theorem SV.w1 {w w' : eW} {ls : List ZStp} (h : SV w ls) (k : Fr [21, 24] w w') : SV w' ls := h.fr k (by intro i h1 h2; simp; omega)
theorem fa_addClass_J {w : eW} {k : Nat} (hF : FOK n F cv) (hC : CF w n F cv wv) (hk : k < n) (h2 : F k 0 = 2) (hr : w.1 20 k = Int32.ofInt (F k 3)) (nt : tnd told set F k = false) (a : Hd F wv told set w k) (b : Pf F wv told set w k) (c : Ls F wv told set w k) : Ok (f_fa_addClass_J57 (Int32.ofInt (k : Nat)) (b2i told) (Int64.ofInt (F k 1)) (Int32.ofInt (F k 5)) (Int64.ofInt (F k 1 * F k 5)) (b2i (canT F k)) w) fun w' => AP1 F wv told set w w' k := by
  have hn := hF.1
  have f := hF.hd hk
  have p := pref_b (wv := wv) hF hk
  have ep : F k 1 * pref F wv k = prefs F wv told set k := by unfold prefs fst_; rw [nt]; rfl
  unfold f_fa_addClass_J57
  rw [c_prefOf hF hC hk, obind]
  dsimp only
  rw [i2j (by omega) (by omega), ← Int64.ofInt_mul]
  refine Ok.bind (Hd_add (by omega) a ep (by unfold ss; rw [if_neg (by omega), if_neg (by omega)])) ?_
  rintro w1 ⟨g1, g2, g3, g4, g5⟩
  rw [eChk_of (by omega) (by omega) (by omega), icl (by omega) (by omega), nat_i, show w1.1 20 k = Int32.ofInt (F k 3) by rw [(g1 20 (by decide)).1]; exact hr]
  have b1 : Pf F wv told set w1 k := by unfold Pf at *; rw [g2, g3]; exact b
  refine Ok.bind (fa_countPrefs b1 (r := (F k 3).toNat) (by omega) (by omega) ep) ?_
  rintro w2 ⟨k1, k2, k3, k4⟩
  have fr2 := g1.trans k1 SA_sub
  have hC2 := hC.fr fr2 (by decide) (by decide)
  have a2 : Hd F wv told set w2 (k + 1) := by
    unfold Hd at *
    rw [k2, (k1 9 (by decide)).2, (k1 10 (by decide)).2]
    exact g4
  have c2 : ∃ ls : List ZStp, ls.Perm (alls F wv told set k) ∧ ls.Pairwise (fun x y => sL x ≤ sL y) ∧ SV w2 ls := by
    obtain ⟨ls, l1, l2, l3⟩ := c
    exact ⟨ls, l1, l2, (g5 ls l3).w1 k1⟩
  have e9 : w2.2 24 9 = w.2 24 9 := by rw [k3, g2]
  by_cases hc : canT F k = true
  · rw [hc, if_pos (by decide), c_lidOf hF hC2 hk hc, obind]
    dsimp only
    have l := lid_b (wv := wv) hF hk hc
    rw [← Int32.ofInt_sub, i2j (by omega) (by omega), i2j (by omega) (by omega), ← Int64.ofInt_neg, ← Int64.ofInt_neg, ← Int64.ofInt_mul, ← Int64.ofInt_mul]
    have gd := stp_good (wv := wv) (told := told) (set := set) hF hk
    have gr := stp_rq (wv := wv) (told := told) (set := set) hF hk
    have es : stp F wv told set k = (if told then [(k, lid F wv k - pref F wv k, F k 5, F k 1 * (lid F wv k - pref F wv k), -(F k 1 * F k 5))]
    else [(k, lid F wv k - pref F wv k, F k 5, F k 1 * (lid F wv k - pref F wv k), -(F k 1 * F k 5)), (k, lid F wv k, F k 5, -(F k 1) * lid F wv k, F k 1 * F k 5)]) := by
      unfold stp
      rw [if_neg (by omega), if_neg (by omega), if_neg (by rw [nt]; decide), if_pos hc]
    have len := alls_len (F := F) (wv := wv) (told := told) (set := set) k
    have m1 : (k, lid F wv k - pref F wv k, F k 5, F k 1 * (lid F wv k - pref F wv k), -(F k 1 * F k 5)) ∈ stp F wv told set k := by
      rw [es]; split <;> simp
    refine Ok.bind (Ls_add (k := k) (by omega) a2.1 (l := alls F wv told set k) (by omega) (alls_all hF (by omega)) c2 (gd _ m1).2 (gr _ m1)) ?_
    rintro w3 ⟨s3, l3⟩
    have sa3 := s3.sa
    have b3 : Pf F wv told set w3 (k + 1) := by
      unfold Pf at *
      rw [sa3.2.1, sa3.2.2]
      exact k4
    by_cases ht : told = true
    · rw [ht, if_pos (by decide)]
      refine Ok.ret ⟨fr2.tr sa3.1, by rw [sa3.2.1, e9], by rw [← ht]; exact a2.sfr s3, by rw [← ht]; exact b3, ?_⟩
      unfold Ls
      rw [← ht]
      rw [if_pos ht] at es
      rw [show alls F wv told set (k + 1) = alls F wv told set k ++ _ from rfl, es]
      exact l3
    · have ht' : told = false := by simpa using ht
      rw [if_neg ht] at es
      have m2 : (k, lid F wv k, F k 5, -(F k 1) * lid F wv k, F k 1 * F k 5) ∈ stp F wv told set k := by
        rw [es]; simp
      rw [if_neg (by rw [ht']; decide)]
      refine Ok.bind (Ls_add (k := k) (by omega) (a2.sfr s3).1 (l := alls F wv told set k ++ [(k, lid F wv k - pref F wv k, F k 5, F k 1 * (lid F wv k - pref F wv k), -(F k 1 * F k 5))]) (by rw [List.length_append, List.length_singleton]; omega) ?_ l3 (gd _ m2).2 (gr _ m2)) ?_
      · intro s hs
        rcases List.mem_append.mp hs with hs | hs
        · exact alls_all hF (by omega) s hs
        · rw [List.mem_singleton.mp hs]
          exact ⟨(gd _ m1).2, gr _ m1⟩
      · rintro w4 ⟨s4, l4⟩
        have sa4 := s4.sa
        refine Ok.ret ⟨(fr2.tr sa3.1).tr sa4.1, by rw [sa4.2.1, sa3.2.1, e9], (a2.sfr s3).sfr s4, ?_, ?_⟩
        · unfold Pf at *
          rw [sa4.2.1, sa4.2.2]
          exact b3
        · unfold Ls
          rw [show alls F wv told set (k + 1) = alls F wv told set k ++ _ from rfl, es]
          rw [List.append_assoc] at l4
          exact l4
  · have hc' : canT F k = false := by simpa using hc
    rw [hc', if_neg (by decide)]
    refine Ok.ret ⟨fr2, e9, a2, k4, ?_⟩
    unfold Ls
    rw [show alls F wv told set (k + 1) = alls F wv told set k ++ _ from rfl, show stp F wv told set k = [] by unfold stp; rw [if_neg (by omega), if_neg (by omega), if_neg (by rw [nt]; decide), if_neg hc], List.append_nil]
    exact c2
theorem fa_addClass {w : eW} {k : Nat} (hF : FOK n F cv) (hC : CF w n F cv wv) (hk : k < n) (h2 : F k 0 = 2) (hr : w.1 20 k = Int32.ofInt (F k 3)) (a : Hd F wv told set w k) (b : Pf F wv told set w k) (c : Ls F wv told set w k) : Ok (f_fa_addClass (Int32.ofInt (k : Nat)) (b2i told) (b2i (sb set k)) w) fun w' => AP1 F wv told set w w' k := by
  have hn := hF.1
  have f := hF.hd hk
  unfold f_fa_addClass
  rw [show (1 : Int32) = Int32.ofInt (1 : Nat) from rfl, c_fact hF hC hk (by omega), obind]
  dsimp only
  rw [show (5 : Int32) = Int32.ofInt (5 : Nat) from rfl, c_fact hF hC hk (by omega), obind]
  dsimp only
  rw [c_canTurn hF hC hk, obind]
  dsimp only
  rw [i2j (by omega) (by omega), i2j (by omega) (by omega), ← Int64.ofInt_mul]
  simp only [b2i_0]
  by_cases h3 : told = false
  · rw [if_pos h3]
    exact fa_addClass_J hF hC hk h2 hr (by simp [tnd, h3]) a b c
  · rw [if_neg h3]
    by_cases h4 : sb set k = false
    · rw [if_pos h4]
      exact fa_addClass_J hF hC hk h2 hr (by simp [tnd, h4]) a b c
    · rw [if_neg h4]
      by_cases h5 : canT F k = false
      · rw [if_pos h5]
        exact fa_addClass_J hF hC hk h2 hr (by simp [tnd, h5]) a b c
      · rw [if_neg h5]
        have t : tnd told set F k = true := by
          unfold tnd
          simp only [Bool.and_eq_true]
          exact ⟨by simpa using h3, by simpa using h4, by simpa using h5⟩
        have p0 : prefs F wv told set k = 0 := by unfold prefs fst_; rw [t]; exact Int.mul_zero _
        rw [jlit0]
        refine Ok.bind (Hd_add (by omega) a p0.symm (by unfold ss; rw [if_neg (by omega), if_neg (by omega)])) ?_
        rintro w1 ⟨g1, g2, g3, g4, g5⟩
        refine Ok.ret ⟨g1, by rw [g2], g4, Pf_0 b (by rw [g2]) g3 p0, ?_⟩
        obtain ⟨ls, l1, l2, l3⟩ := c
        exact ⟨ls, by rw [show alls F wv told set (k + 1) = alls F wv told set k ++ _ from rfl, show stp F wv told set k = [] by unfold stp; rw [if_neg (by omega), if_neg (by omega), if_pos t], List.append_nil]; exact l1, l2, g5 ls l3⟩
end
section
variable {n : Nat} {F : Nat → Nat → Int} {wv : Int32} {told : Bool} {set : Int32} {cv : Int}
/-- the curves are laid -/
def Rk (F : Nat → Nat → Int) (w : eW) (k : Nat) : Prop := ∀ h, h < k → w.1 20 h = Int32.ofInt (F h 3)
def SB : List Nat := [9, 10, 13, 14, 15, 16, 17, 18, 19, 20, 21, 24]
def Arr (n : Nat) (F : Nat → Nat → Int) (wv : Int32) (told : Bool) (set : Int32) (w : eW) : Prop := Hd F wv told set w n ∧ Pf F wv told set w n ∧ Ls F wv told set w n ∧ Rk F w n
theorem isucc (a : Nat) : Int32.ofInt (a : Nat) + 1 = Int32.ofInt ((a + 1 : Nat) : Int) := by
  rw [show (1 : Int32) = Int32.ofInt 1 from rfl, ← Int32.ofInt_add]; rfl
theorem arr_loop (hF : FOK n F cv) : ∀ (d k f : Nat), k + d = n → d < f → ∀ w : eW, CF w n F cv wv → Hd F wv told set w k → Pf F wv told set w k → Ls F wv told set w k → Rk F w k →
    Ok (f_fa_arrange_L38 f (b2i told) set (Int32.ofInt (k : Nat)) w) fun w' => Fr SB w w' ∧ w'.2 24 9 = w.2 24 9 ∧ Arr n F wv told set w' := by
  have hn := hF.1
  intro d
  induction d with
  | zero =>
    intro k f hk hf w hC a b c r
    obtain ⟨f, rfl⟩ : ∃ g, f = g + 1 := ⟨f - 1, by omega⟩
    obtain rfl : k = n := by omega
    unfold f_fa_arrange_L38
    rw [hC.1, if_pos (by rw [ile (by omega) (by omega) (by omega) (by omega)]; omega)]
    exact Ok.ret ⟨Fr.rfl, rfl, a, b, c, r⟩
  | succ d ih =>
    intro k f hk hf w hC a b c r
    obtain ⟨f, rfl⟩ : ∃ g, f = g + 1 := ⟨f - 1, by omega⟩
    have hkn : k < n := by omega
    have fh := hF.hd hkn
    unfold f_fa_arrange_L38
    rw [hC.1, if_neg (by rw [ile (by omega) (by omega) (by omega) (by omega)]; omega), if_neg (by simp (disch := omega) only [ilit, ile]; omega), show (3 : Int32) = Int32.ofInt (3 : Nat) from rfl, c_fact hF hC hkn (by omega), obind]
    dsimp only
    rw [eChk_of (by omega) (by omega) (by omega), icl (by omega) (by omega), nat_i]
    generalize hw1 : eU1 w 20 k (Int32.ofInt (F k 3)) = w1
    have f1 : Fr [20] w w1 := by rw [← hw1]; exact Fr.rfl.u1 (by decide)
    have hC1 := hC.fr f1 (by decide) (by decide)
    have a1 : Hd F wv told set w1 k := by
      unfold Hd at *
      rw [(f1 19 (by decide)).1, (f1 9 (by decide)).2, (f1 10 (by decide)).2]
      exact a
    have b1 : Pf F wv told set w1 k := by
      unfold Pf at *
      rw [(f1 24 (by decide)).2, (f1 21 (by decide)).2]
      exact b
    have c1 : Ls F wv told set w1 k := by
      obtain ⟨ls, l1, l2, l3⟩ := c
      exact ⟨ls, l1, l2, l3.fr f1 (by intro i h1 h2; simp; omega)⟩
    have r1 : w1.1 20 k = Int32.ofInt (F k 3) := by rw [← hw1, u1s]
    have r2 : ∀ h, h < k → w1.1 20 h = Int32.ofInt (F h 3) := by
      intro h hh
      rw [← hw1, u1n _ _ _ _ _ _ (by omega)]
      exact r h hh
    rw [c_isClass hF hC1 hkn, obind]
    dsimp only
    simp only [b2i_0]
    have next : ∀ w2, AP1 F wv told set w1 w2 k → Ok (f_fa_arrange_L38 f (b2i told) set (Int32.ofInt (k : Nat) + 1) w2) fun w' => Fr SB w w' ∧ w'.2 24 9 = w.2 24 9 ∧ Arr n F wv told set w' := by
      rintro w2 ⟨g1, g2, g3, g4, g5⟩
      rw [isucc]
      refine Ok.imp (ih (k + 1) f (by omega) (by omega) w2 (hC1.fr g1 (by decide) (by decide)) g3 g4 g5 ?_) ?_
      · intro h hh
        rw [(g1 20 (by decide)).1]
        by_cases z : h = k
        · subst z; exact r1
        · exact r2 h (by omega)
      · rintro w' ⟨q1, q2, q3⟩
        refine ⟨((f1.sub (S := SB) (by decide)).trans g1 (by decide)).tr q1, ?_, q3⟩
        rw [q2, g2, (f1 24 (by decide)).2]
    by_cases h2 : F k 0 = 2
    · rw [if_neg (by simp [h2])]
      by_cases h3 : sb set k = true
      · rw [if_neg (fun z => z (sb_iff.mpr h3))]
        refine Ok.bind ?_ next
        have := fa_addClass (told := told) (set := set) hF hC1 hkn h2 r1 a1 b1 c1
        rw [h3] at this
        exact this
      · rw [if_pos (fun z => h3 (sb_iff.mp z))]
        refine Ok.bind ?_ next
        have := fa_addClass (told := told) (set := set) hF hC1 hkn h2 r1 a1 b1 c1
        rw [show sb set k = false by simpa using h3] at this
        exact this
    · rw [if_pos (by simp [h2])]
      exact Ok.bind (fa_addOther hF hC1 hkn h2 a1 b1 c1) next
theorem rank_loop (hF : FOK n F cv) : ∀ (d k f : Nat), k + d = 6 → d < f → ∀ w : eW, CF w n F cv wv → w.1 19 0 = 0 → w.1 19 7 = 0 → w.2 24 3 = 0 → (∀ r, r < k → w.2 21 r = 0) →
    Ok (f_fa_arrange_L15 f (b2i told) set (Int32.ofInt (k : Nat)) w) fun w' => Fr SB w w' ∧ w'.2 24 9 = w.2 24 9 ∧ Arr n F wv told set w' := by
  intro d
  induction d with
  | zero =>
    intro k f hk hf w hC h0 h7 h3 hr
    obtain ⟨f, rfl⟩ : ∃ g, f = g + 1 := ⟨f - 1, by omega⟩
    unfold f_fa_arrange_L15
    rw [if_pos (by simp (disch := omega) only [ilit, ilt]; omega)]
    refine arr_loop hF n 0 eFu (by omega) (by rw [eFu_eq]; have := hF.1; omega) w hC ⟨h0, by omega⟩ ⟨h3, fun r hr' => hr r (by omega)⟩ ⟨[], by simp [alls], by simp, h7, by simp⟩ (fun h hh => by omega)
  | succ d ih =>
    intro k f hk hf w hC h0 h7 h3 hr
    obtain ⟨f, rfl⟩ : ∃ g, f = g + 1 := ⟨f - 1, by omega⟩
    unfold f_fa_arrange_L15
    rw [if_neg (by simp (disch := omega) only [ilit, ilt]; omega), eChk_of (by omega) (by omega) (by omega), icl (by omega) (by omega), nat_i, isucc]
    have f1 : Fr [21] w (eU2 w 21 k 0) := Fr.rfl.u2 (by decide)
    refine Ok.imp (ih (k + 1) f (by omega) (by omega) _ (hC.fr f1 (by decide) (by decide)) (by rw [u2l]; exact h0) (by rw [u2l]; exact h7) (by rw [u2n _ _ _ _ _ _ (by omega)]; exact h3) ?_) ?_
    · intro r hr'
      by_cases z : r = k
      · subst z; rw [u2s]
      · rw [u2n _ _ _ _ _ _ (by omega)]; exact hr r (by omega)
    · rintro w' ⟨q1, q2, q3⟩
      exact ⟨(f1.sub (S := SB) (by decide)).tr q1, by rw [q2, u2n _ _ _ _ _ _ (by omega)], q3⟩
theorem fa_arrange (hF : FOK n F cv) {w : eW} (hC : CF w n F cv wv) : Ok (f_fa_arrange (b2i told) set w) fun w' => Fr SB w w' ∧ w'.2 24 9 = w.2 24 9 ∧ Arr n F wv told set w' := by
  unfold f_fa_arrange f_cu_clear
  rw [obind]
  have f1 : Fr SB w (eU2 (eU1 (eU1 w 19 0 0) 19 7 0) 24 3 0) := ((Fr.rfl.u1 (by decide)).u1 (by decide)).u2 (by decide)
  refine Ok.imp (rank_loop hF 6 0 eFu (by omega) (by rw [eFu_eq]; omega) _ (hC.fr f1 (by decide) (by decide)) ?_ ?_ ?_ (by omega)) ?_
  · rw [u2l, u1n _ _ _ _ _ _ (by omega), u1s]
  · rw [u2l, u1s]
  · rw [u2s]
  · rintro w' ⟨q1, q2, q3⟩
    exact ⟨f1.tr q1, by rw [q2, u2n _ _ _ _ _ _ (by omega)]; rfl, q3⟩
end
