section
variable {n : Nat} {F : Nat → Nat → Int} {wv : Int32} {cv : Int} {c m : eW} {s0 : Int32}
theorem m_allAt (hF : FOK n F cv) {l : List (Int × Int)} (hl : l.length ≤ 30) {w : eW} (ev : EV w l) (hM : MT w n F cv wv false s0) {k : Nat} {p : Int × Int} (hk : l[k]? = some p) (hp : Eb p) : Ok (f_mm_allAt (Int32.ofInt (k : Nat)) w) fun q => KF w q.2 ∧ FX F wv false s0 (eV p) q.2 n ∧ ∃ a : Int, q.1 = Int64.ofInt a ∧ 0 ≤ a ∧ a ≤ 2000000000000000 ∧ (a : Rat) = tt n F wv false 0 (eV p) * ((100 * p.2 : Int) : Rat) := by
  have kl := (List.getElem?_eq_some_iff.mp hk).1
  obtain ⟨e1, e2⟩ := ev.2 k p hk
  have e0 : 0 ≤ eV p := qnn (by exact_mod_cast hp.1) (by exact_mod_cast hp.2.1)
  unfold f_mm_allAt
  rw [eChk_of (by omega) (by omega) (by omega), eChk_of (by omega) (by omega) (by omega), icl (by omega) (by omega), nat_i, e1, e2]
  refine Ok.bind (m_layFrom hF hp hM) ?_
  rintro w1 ⟨kf, fx⟩
  have hM1 := hM.kl kf.kl
  have ev1 : EV w1 l := ev.kf kf
  obtain ⟨e3, e4⟩ := ev1.2 k p hk
  rw [m_allFixed hF hM1 fx, obind]
  dsimp only
  rw [eChk_of (by omega) (by omega) (by omega), m_allGoes hF hM1 fx, obind]
  dsimp only
  rw [eChk_of (by omega) (by omega) (by omega), e3, e4, jlit100, ← Int64.ofInt_mul, ← Int64.ofInt_mul, ← Int64.ofInt_mul, ← Int64.ofInt_add]
  have rb := rall_b (wv := wv) (told := false) (set := s0) hF (eV p)
  have tv := rs_tt (wv := wv) (told := false) (set := s0) hF e0 (Rat.le_refl) (Spn_self (eV p))
  have p0 : (0 : Rat) < (p.2 : Rat) := by exact_mod_cast hp.2.1
  have ep : eV p * (p.2 : Rat) = (p.1 : Rat) := by unfold eV; rw [← (qeq p0).mp rfl]
  have val : ((rfall n F wv false s0 (eV p) * 100 * p.2 + rgall n F wv false s0 (eV p) * p.1 : Int) : Rat) = tt n F wv false 0 (eV p) * ((100 * p.2 : Int) : Rat) := by
    rw [← tt_false s0 0, tv, Rat.intCast_add, Rat.intCast_mul, Rat.intCast_mul, Rat.intCast_mul, Rat.intCast_mul, ← ep]
    have : ((100 : Int) : Rat) = 100 := rfl
    rw [this]
    grind
  have nn : 0 ≤ rfall n F wv false s0 (eV p) * 100 * p.2 + rgall n F wv false s0 (eV p) * p.1 := by
    have t := tt_nn (wv := wv) hF e0
    have : (0 : Rat) ≤ ((100 * p.2 : Int) : Rat) := by exact_mod_cast (show 0 ≤ 100 * p.2 by omega)
    have := Rat.mul_nonneg t this
    rw [← val] at this
    exact_mod_cast this
  have m1 : rfall n F wv false s0 (eV p) * 100 * p.2 ≤ 24000000000 * 100 * 400 := by
    have a := Int.mul_le_mul_of_nonneg_right (show rfall n F wv false s0 (eV p) * 100 ≤ 24000000000 * 100 by omega) (show 0 ≤ p.2 by omega)
    omega
  have m2 := mul_le4 (a := rgall n F wv false s0 (eV p)) (b := p.1) (A := 47995200) (B := 19800000) (by omega) (by omega) (by omega) (by omega)
  exact Ok.ret ⟨kf, fx, _, rfl, nn, by omega, val⟩
/-- what lies in the reference's list -/
def MLs (n : Nat) (F : Nat → Nat → Int) (wv : Int32) (L : List Rat) (r : Nat) (t : List (Int × Int)) : Prop := ∀ y, y ∈ L ↔ 0 < y ∧ ((∃ q, q < r ∧ y = (bf n F wv false 0 (q + 1) : Rat)) ∨ ∃ p, p ∈ t ∧ y = tt n F wv false 0 (eV p))
theorem edgesB_loop (hF : FOK n F cv) {l : List (Int × Int)} (hl : l.length ≤ 30) (hg : ∀ p, p ∈ l → Eb p) : ∀ (u t : List (Int × Int)) (f : Nat), l = t ++ u → u.length < f → ∀ (w : eW) (L : List Rat), EV w l → MT w n F cv wv false s0 → BM w L → Rs L → (∀ y, y ∈ L → Bm y) → MLs n F wv L 6 t → L.length ≤ 6 + t.length → Ok (f_mm_layBreaks_L46 f (Int32.ofInt (t.length : Nat)) w) fun w' => Km w w' ∧ MT w' n F cv wv false s0 ∧ EV w' l ∧ ∃ L', BM w' L' ∧ Rs L' ∧ (∀ y, y ∈ L' → Bm y) ∧ MLs n F wv L' 6 l ∧ L'.length ≤ 36 := by
  intro u
  induction u with
  | nil =>
    intro t f e hf w L ev hM bm rs hb ml ll
    obtain ⟨f, rfl⟩ : ∃ g, f = g + 1 := ⟨f - 1, by omega⟩
    rw [List.append_nil] at e
    subst e
    unfold f_mm_layBreaks_L46
    rw [ev.1, if_pos (by rw [ile (by omega) (by omega) (by omega) (by omega)]; omega)]
    exact Ok.ret ⟨Km.rfl, hM, ev, L, bm, rs, hb, ml, by omega⟩
  | cons p u ih =>
    intro t f e hf w L ev hM bm rs hb ml ll
    obtain ⟨f, rfl⟩ : ∃ g, f = g + 1 := ⟨f - 1, by omega⟩
    have hi : l[t.length]? = some p := by rw [e, List.getElem?_append_right (Nat.le_refl _), Nat.sub_self, List.getElem?_cons_zero]
    have gp := hg p (by rw [e]; simp)
    have le : l.length = t.length + (u.length + 1) := by rw [e, List.length_append, List.length_cons]
    unfold f_mm_layBreaks_L46
    rw [ev.1, if_neg (by rw [ile (by omega) (by omega) (by omega) (by omega)]; omega)]
    refine Ok.bind (m_allAt hF hl ev hM hi gp) ?_
    rintro ⟨v, w1⟩ ⟨kf, -, a, rfl, a0, a1, a2⟩
    dsimp only at *
    have ev1 := ev.kf kf
    rw [eChk_of (by omega) (by omega) (by omega), icl (by omega) (by omega), nat_i, (ev1.2 _ _ hi).2, jlit100, ← Int64.ofInt_mul, isucc]
    refine Ok.bind (m_puts (bm.kf kf) rs hb (by omega) a2 a0 a1 (by omega) (by omega)) ?_
    rintro w2 ⟨kb, L2, b1, b2, b3, b4, b5⟩
    have := ih (t ++ [p]) f (by rw [List.append_assoc]; exact e) (by rw [List.length_cons] at hf; omega) w2 L2 (ev1.kb kb) ((hM.kl kf.kl).kb kb) b1 b2 b4 (fun y => ?_) (by simp; omega)
    · rw [List.length_append, List.length_singleton] at this
      refine Ok.imp this ?_
      rintro w' ⟨q1, q2⟩
      exact ⟨(kf.kl.km.tr kb.km).tr q1, q2⟩
    · rw [b3 y, ml y]
      constructor
      · rintro (⟨h1, h2 | ⟨q, h3, h4⟩⟩ | ⟨h1, h2⟩)
        · exact ⟨h1, .inl h2⟩
        · exact ⟨h1, .inr ⟨q, List.mem_append_left _ h3, h4⟩⟩
        · exact ⟨by rw [h1]; exact h2, .inr ⟨p, by simp, h1⟩⟩
      · rintro ⟨h1, h2 | ⟨q, h3, h4⟩⟩
        · exact .inl ⟨h1, .inl h2⟩
        · rcases List.mem_append.mp h3 with z | z
          · exact .inl ⟨h1, .inr ⟨q, z, h4⟩⟩
          · rw [List.mem_singleton.mp z] at h4
            exact .inr ⟨h4, by rw [← h4]; exact h1⟩
/-- the reference has its list -/
def MB (n : Nat) (F : Nat → Nat → Int) (cv : Int) (wv : Int32) (s0 : Int32) (w : eW) (L : List Rat) : Prop := MT w n F cv wv false s0 ∧ BM w L ∧ Rs L ∧ (∀ y, y ∈ L → Bm y) ∧ MLs n F wv L 6 (edgs F wv false s0 n) ∧ L.length ≤ 36 ∧ ∃ l : List (Int × Int), l.Perm (edgs F wv false s0 n) ∧ l.Pairwise (fun x y => eV x ≤ eV y) ∧ EV w l
theorem KE.bm {w w' : eW} {L : List Rat} (h : BM w L) (k : KE w w') : BM w' L := ⟨by rw [k.1 24 47 (by omega)]; exact h.1, fun i x hx => by rw [k.2 19 (by omega) (by omega), k.2 20 (by omega) (by omega)]; exact h.2 i x hx⟩
theorem mranksB_loop (hF : FOK n F cv) : ∀ (d r f : Nat), r + d = 6 → d < f → ∀ (w : eW) (L : List Rat), MT w n F cv wv false s0 → BM w L → Rs L → (∀ y, y ∈ L → Bm y) → MLs n F wv L r [] → L.length ≤ r → Ok (f_mm_layBreaks_L14 f (Int64.ofInt (bf n F wv false 0 r)) (Int32.ofInt (r : Nat)) w) fun w' => Km w w' ∧ ∃ L', MB n F cv wv s0 w' L' := by
  intro d
  induction d with
  | zero =>
    intro r f hr hf w L hM bm rs hb ml ll
    obtain ⟨f, rfl⟩ : ∃ g, f = g + 1 := ⟨f - 1, by omega⟩
    have : r = 6 := by omega
    subst this
    unfold f_mm_layBreaks_L14
    rw [if_pos (by decide)]
    refine Ok.bind (m_layEdges hF hM) ?_
    rintro w1 ⟨ke, l, l1, l2, l3⟩
    have el := edgs_len (F := F) (wv := wv) (told := false) (set := s0) n
    have le := l1.length_eq
    have hn := hF.1
    refine Ok.imp (edgesB_loop hF (by omega) (fun p hp => edgs_good hF n (Nat.le_refl _) p (l1.mem_iff.mp hp)) l [] eFu rfl (by rw [eFu_eq]; omega) w1 L l3 (hM.kl ke.kl) (KE.bm bm ke) rs hb ml (by simp; omega)) ?_
    rintro w' ⟨q1, q2, q3, L', q4, q5, q6, q7, q8⟩
    refine ⟨ke.kl.km.tr q1, L', q2, q4, q5, q6, fun y => ?_, q8, l, l1, l2, q3⟩
    rw [q7 y]
    constructor
    · rintro ⟨h1, h2 | ⟨q, h3, h4⟩⟩
      · exact ⟨h1, .inl h2⟩
      · exact ⟨h1, .inr ⟨q, l1.mem_iff.mp h3, h4⟩⟩
    · rintro ⟨h1, h2 | ⟨q, h3, h4⟩⟩
      · exact ⟨h1, .inl h2⟩
      · exact ⟨h1, .inr ⟨q, l1.mem_iff.mpr h3, h4⟩⟩
  | succ d ih =>
    intro r f hr hf w L hM bm rs hb ml ll
    obtain ⟨f, rfl⟩ : ∃ g, f = g + 1 := ⟨f - 1, by omega⟩
    unfold f_mm_layBreaks_L14
    have b1 := bf_b (wv := wv) hF (show r + 1 ≤ 6 by omega)
    rw [if_neg (by rw [show (6 : Int32) = Int32.ofInt 6 from rfl, ile (by omega) (by omega) (by omega) (by omega)]; omega), m_firstsOf hF hM (by omega), obind]
    dsimp only
    rw [rp_false s0 0, ← Int64.ofInt_add, show bf n F wv false 0 r + rp n F wv false 0 r = bf n F wv false 0 (r + 1) from rfl, isucc]
    refine Ok.bind (m_puts bm rs hb (by omega) (x := (bf n F wv false 0 (r + 1) : Rat)) (b := 1) (Rat.mul_one _).symm b1.1 (by omega) (by omega) (by omega)) ?_
    rintro w2 ⟨kb, L2, c1, c2, c3, c4, c5⟩
    refine Ok.imp (ih (r + 1) f (by omega) (by omega) w2 L2 (hM.kb kb) c1 c2 c4 (fun y => ?_) (by omega)) ?_
    · rw [c3 y, ml y]
      constructor
      · rintro (⟨h1, ⟨q, h2, h3⟩ | ⟨q, h3, h4⟩⟩ | ⟨h1, h2⟩)
        · exact ⟨h1, .inl ⟨q, by omega, h3⟩⟩
        · simp at h3
        · exact ⟨by rw [h1]; exact h2, .inl ⟨r, by omega, h1⟩⟩
      · rintro ⟨h1, ⟨q, h2, h3⟩ | ⟨q, h3, h4⟩⟩
        · by_cases z : q = r
          · rw [z] at h3
            exact .inr ⟨h3, by rw [← h3]; exact h1⟩
          · exact .inl ⟨h1, .inl ⟨q, by omega, h3⟩⟩
        · simp at h3
    · rintro w' ⟨q1, q2⟩
      exact ⟨kb.km.tr q1, q2⟩
theorem m_layBreaks (hF : FOK n F cv) (hM : MF m n F cv wv) : Ok (f_mm_layBreaks m) fun w' => Km m w' ∧ ∃ s0 L', MB n F cv wv s0 w' L' := by
  unfold f_mm_layBreaks
  have k1 : Km m (eU1 (eU1 m 24 36 0) 24 47 0) := (Km.rfl.u1 (by omega)).u1 (by omega)
  have mt : MT (eU1 (eU1 m 24 36 0) 24 47 0) n F cv wv false (m.1 24 35) := ⟨hM.km k1, by rw [u1n _ _ _ _ _ _ (by omega), u1s]; rfl, by rw [u1n _ _ _ _ _ _ (by omega), u1n _ _ _ _ _ _ (by omega)]⟩
  refine Ok.imp (mranksB_loop hF 6 0 eFu (by omega) (by rw [eFu_eq]; omega) _ [] mt ⟨by rw [u1s]; rfl, by simp⟩ (by simp [Rs]) (by simp) (fun y => by simp) (by simp)) ?_
  rintro w' ⟨q1, L, q2⟩
  exact ⟨k1.tr q1, _, L, q2⟩
/-! the levels of steps and of edges -/
theorem alls_in : ∀ {k h : Nat}, h < k → ∀ s, s ∈ stp F wv false 0 h → s ∈ alls F wv false 0 k
  | 0, h, hh, _, _ => by omega
  | k + 1, h, hh, s, hs => by
    simp only [alls, List.mem_append]
    by_cases e : h = k
    · rw [e] at hs; exact .inr hs
    · exact .inl (alls_in (by omega) s hs)
theorem alls_of' : ∀ {k : Nat} {s : ZStp}, s ∈ alls F wv false 0 k → ∃ h, h < k ∧ s ∈ stp F wv false 0 h
  | 0, s, hs => by simp [alls] at hs
  | k + 1, s, hs => by
    simp only [alls, List.mem_append] at hs
    rcases hs with z | z
    · obtain ⟨h, h1, h2⟩ := alls_of' z
      exact ⟨h, by omega, h2⟩
    · exact ⟨k, by omega, z⟩
theorem edgs_of : ∀ {k : Nat} {p : Int × Int}, p ∈ edgs F wv false s0 k → p = (0, 1) ∨ ∃ h, h < k ∧ p ∈ edg F wv false s0 h
  | 0, p, hp => by simp [edgs] at hp; exact .inl hp
  | k + 1, p, hp => by
    simp only [edgs, List.mem_append] at hp
    rcases hp with z | z
    · rcases edgs_of z with y | ⟨h, h1, h2⟩
      · exact .inl y
      · exact .inr ⟨h, by omega, h2⟩
    · exact .inr ⟨k, by omega, z⟩
theorem edg_stp (hF : FOK n F cv) {h : Nat} (hh : h < n) {p : Int × Int} (hp : p ∈ edg F wv false s0 h) : ∃ s, s ∈ stp F wv false 0 h ∧ sL s = eV p := by
  have f := hF.hd hh
  unfold edg at hp
  unfold stp
  simp only [tnd_false, Bool.false_eq_true, if_false] at *
  by_cases e1 : F h 0 = 1
  · rw [if_pos e1] at hp
    rw [if_neg (by omega), if_pos e1]
    refine ⟨_, List.mem_singleton.mpr rfl, ?_⟩
    rw [List.mem_singleton.mp hp]
    unfold sL eV
    dsimp only
    rw [Rat.intCast_mul, Rat.intCast_mul]
    have a : ((100 : Int) : Rat) = 100 := rfl
    have b : ((1 : Int) : Rat) = 1 := rfl
    rw [a, b]
    grind
  · rw [if_neg e1] at hp
    by_cases e2 : F h 0 = 2
    · rw [if_neg (by omega), if_neg e1]
      by_cases e6 : F h 6 = 0
      · rw [if_pos ⟨e2, e6, trivial⟩] at hp
        have ct : canT F h = true := by simp [canT, e2, e6]
        have lp : lid F wv h = pref F wv h := by simp [lid, e6]
        rw [if_pos ct]
        refine ⟨_, List.mem_cons_of_mem _ (List.mem_singleton.mpr rfl), ?_⟩
        rw [List.mem_singleton.mp hp]
        unfold sL eV
        dsimp only
        rw [lp, Rat.intCast_mul]; rfl
      · rw [if_neg (fun z => e6 z.2.1)] at hp
        by_cases e7 : F h 7 = -1
        · rw [if_neg (fun z => z.2.2.1 e7)] at hp
          simp at hp
        · rw [if_pos ⟨e2, by omega, e7, trivial⟩] at hp
          have ct : canT F h = true := by simp [canT, e2, e7]
          have lp : lid F wv h = top F wv h := by simp [lid, e6]
          rw [if_pos ct]
          rcases List.mem_cons.mp hp with z | z
          · refine ⟨_, List.mem_cons_self, ?_⟩
            rw [z]
            unfold sL eV
            dsimp only
            rw [lp, Rat.intCast_mul]; rfl
          · refine ⟨_, List.mem_cons_of_mem _ (List.mem_singleton.mpr rfl), ?_⟩
            rw [List.mem_singleton.mp z]
            unfold sL eV
            dsimp only
            rw [lp, Rat.intCast_mul]; rfl
    · rw [if_neg (fun z => e2 z.1), if_neg (fun z => e2 z.1)] at hp
      simp at hp
theorem stp_edg (hF : FOK n F cv) {h : Nat} (hh : h < n) {s : ZStp} (hs : s ∈ stp F wv false 0 h) : sL s = 0 ∨ ∃ p, p ∈ edg F wv false s0 h ∧ eV p = sL s := by
  have f := hF.hd hh
  unfold stp at hs
  unfold edg
  simp only [tnd_false, Bool.false_eq_true, if_false] at *
  by_cases e0 : F h 0 = 0
  · rw [if_pos e0] at hs; simp at hs
  · rw [if_neg e0] at hs
    by_cases e1 : F h 0 = 1
    · rw [if_pos e1] at hs
      right
      rw [if_pos e1]
      refine ⟨_, List.mem_singleton.mpr rfl, ?_⟩
      rw [List.mem_singleton.mp hs]
      unfold sL eV
      dsimp only
      rw [Rat.intCast_mul, Rat.intCast_mul]
      have a : ((100 : Int) : Rat) = 100 := rfl
      have b : ((1 : Int) : Rat) = 1 := rfl
      rw [a, b]
      grind
    · rw [if_neg e1] at hs
      have e2 : F h 0 = 2 := by omega
      by_cases ct : canT F h = true
      · rw [if_pos ct] at hs
        by_cases e6 : F h 6 = 0
        · have lp : lid F wv h = pref F wv h := by simp [lid, e6]
          rcases List.mem_cons.mp hs with z | z
          · left
            rw [z]
            unfold sL
            dsimp only
            rw [lp, Int.sub_self]
            have : ((0 : Int) : Rat) = 0 := rfl
            rw [this, Rat.mul_zero]
            exact qz _
          · right
            rw [if_neg e1, if_pos ⟨e2, e6, trivial⟩]
            refine ⟨_, List.mem_singleton.mpr rfl, ?_⟩
            rw [List.mem_singleton.mp z]
            unfold sL eV
            dsimp only
            rw [lp, Rat.intCast_mul]; rfl
        · have e7 : F h 7 ≠ -1 := by
            unfold canT at ct
            simp only [decide_eq_true_eq] at ct
            omega
          have lp : lid F wv h = top F wv h := by simp [lid, e6]
          right
          rw [if_neg e1, if_neg (fun z => e6 z.2.1), if_pos ⟨e2, by omega, e7, trivial⟩]
          rcases List.mem_cons.mp hs with z | z
          · refine ⟨_, List.mem_cons_self, ?_⟩
            rw [z]
            unfold sL eV
            dsimp only
            rw [lp, Rat.intCast_mul]; rfl
          · refine ⟨_, List.mem_cons_of_mem _ (List.mem_singleton.mpr rfl), ?_⟩
            rw [List.mem_singleton.mp z]
            unfold sL eV
            dsimp only
            rw [lp, Rat.intCast_mul]; rfl
      · rw [if_neg ct] at hs; simp at hs
theorem lists_eq (hF : FOK n F cv) {w w' : eW} {L M : List Rat} (hL : CB n F cv wv w L) (hM : MB n F cv wv s0 w' M) : L = M := by
  obtain ⟨-, -, -, -, -, -, rs, -, ⟨N, e1, e2, e3, -⟩, -⟩ := hL
  obtain ⟨-, -, rs2, -, ml, -⟩ := hM
  have b6 : tt n F wv false 0 0 = (bf n F wv false 0 (5 + 1) : Rat) := by rw [tt_0 hF, ← bf_6 hF]
  refine Rs_uniq rs rs2 fun x => ?_
  rw [ml x]
  constructor
  · intro hx
    rw [e1] at hx
    rcases List.mem_append.mp hx with z | z
    · obtain ⟨a, b, r, d, e⟩ := (Lr_ok (wv := wv) hF 6).1 x z
      exact ⟨a, .inl ⟨r, d, e⟩⟩
    · obtain ⟨a, x0, s, d, e⟩ := e2 x z
      refine ⟨x0, ?_⟩
      obtain ⟨h, h1, h2⟩ := alls_of' d
      rcases stp_edg (s0 := s0) hF h1 h2 with y | ⟨p, p1, p2⟩
      · rw [y, b6] at e
        exact .inl ⟨5, by omega, e⟩
      · exact .inr ⟨p, edg_in h1 p p1, by rw [p2]; exact e⟩
  · rintro ⟨x0, ⟨r, h1, h2⟩ | ⟨p, h1, h2⟩⟩
    · rw [e1]
      refine List.mem_append_left _ ?_
      rw [h2]
      exact Lr_all hF h1 (by rw [h2] at x0; exact_mod_cast x0)
    · rcases edgs_of h1 with y | ⟨h, y1, y2⟩
      · have : eV p = 0 := by rw [y]; unfold eV; exact qz _
        rw [this, b6] at h2
        rw [e1]
        refine List.mem_append_left _ ?_
        rw [h2]
        exact Lr_all hF (by omega) (by rw [h2] at x0; exact_mod_cast x0)
      · obtain ⟨s, s1, s2⟩ := edg_stp hF y1 y2
        rw [← s2] at h2
        rw [h2]
        exact e3 s (alls_in y1 s s1) (by rw [← h2]; exact x0)
theorem q_breaks (hF : FOK n F cv) (hC : CF c n F cv wv) (hM : MF m n F cv wv) (a1 a2 : Int32) : Qr (f_xx_breaks a1 a2 c) (f_mm_breaks a1 a2 m) c m := by
  have hM0 := hM.km (m0k m)
  unfold f_xx_breaks f_mm_breaks
  obtain ⟨m1, d1, k1, s0, M, mb⟩ := m_layBreaks hF hM0
  rw [d1, obind]
  obtain ⟨⟨c1, L1⟩, e1, f1, cb⟩ := x_list hF hC (k := fun w => some w) (P := fun w => Fr QS c w ∧ ∃ L, CB n F cv wv w L) (fun w L f cb => Ok.ret ⟨f, L, cb⟩)
  obtain ⟨L, cb⟩ := cb
  have ee : ∀ {β : Type} (k : eW → Option β), ((f_fa_arrange (0 : Int32) (0 : Int32) c).bind fun w1 => (f_br_list w1).bind k) = k (c1, L1) := by
    intro β k
    rw [show ((f_fa_arrange (0 : Int32) (0 : Int32) c).bind fun w1 => (f_br_list w1).bind fun w => some w) = ((f_fa_arrange (0 : Int32) (0 : Int32) c).bind fun w1 => f_br_list w1) from by
      congr 1; funext w1; cases f_br_list w1 <;> rfl] at e1
    cases h : f_fa_arrange (0 : Int32) (0 : Int32) c with
    | none => rw [h] at e1; cases e1
    | some w1 =>
      rw [h] at e1
      change f_br_list w1 = _ at e1
      change (f_br_list w1).bind k = _
      rw [e1]; rfl
  rw [ee]
  have le := lists_eq hF cb mb
  subst le
  generalize (c1, L1) = c2 at *
  have bl := cb.2.2.2.2.2.1
  have bm := mb.2.1
  have l36 := mb.2.2.2.2.2.1
  have bl30 : L.length ≤ 30 := by
    obtain ⟨-, -, -, -, -, -, -, -, ⟨N, y1, -, -, y4⟩, -⟩ := cb
    rw [y1, List.length_append]
    have := (Lr_ok (wv := wv) hF 6).2.2.2
    have al := alls_len (F := F) (wv := wv) (told := false) (set := 0) n
    have := hF.1
    omega
  rw [bl.1, bm.1]
  by_cases g : a1 = -1
  · rw [if_neg (fun z => z g), if_neg (fun z => z g)]
    exact Qr.of _ (Ok.ret ⟨rfl, f1⟩) (Ok.ret ⟨rfl, (m0k m).tr k1⟩)
  · rw [if_pos g, if_pos g, show (1 : Int32) = Int32.ofInt 1 from rfl, ← Int32.ofInt_sub, m_in, obind, toI_ofI (by omega) (by omega)]
    dsimp only
    simp only [b2i_0]
    rw [show (0 : Int32).toInt = 0 from rfl]
    have r1 := irange a1
    by_cases h : 0 ≤ a1.toInt ∧ a1.toInt ≤ (L.length : Int) - 1
    · simp only [decide_eq_true h, Bool.true_eq_false, if_false]
      obtain ⟨i, hi, rfl⟩ := hold_of (n := L.length) (a := a1) (by omega)
      obtain ⟨x1, x2⟩ := bl.2 i _ (List.getElem?_eq_getElem hi)
      obtain ⟨y1, y2⟩ := bm.2 i _ (List.getElem?_eq_getElem hi)
      rw [if_neg (by rw [show (0 : Int32) = Int32.ofInt 0 from rfl, ilt (by omega) (by omega) (by omega) (by omega)]; omega), if_neg (by rw [ile (by omega) (by omega) (by omega) (by omega)]; omega), x_isAB, obind]
      dsimp only
      rw [show Int32.ofInt 1 = (1 : Int32) from rfl, m_in01, obind]
      dsimp only
      simp only [b2i_0]
      by_cases j : a2 = 0 ∨ a2 = 1
      · simp only [decide_eq_true j, Bool.true_eq_false, not_false_eq_true, if_true]
        rw [eChk_of (by omega) (by omega) (by omega), eChk_of (by omega) (by omega) (by omega), eChk_of (by omega) (by omega) (by omega), eChk_of (by omega) (by omega) (by omega), icl (by omega) (by omega), nat_i, x1, x2, y1, y2]
        rcases j with rfl | rfl
        · rw [if_neg (fun z => z rfl), if_neg (fun z => z rfl)]
          exact Qr.of _ (Ok.ret ⟨rfl, f1⟩) (Ok.ret ⟨rfl, (m0k m).tr k1⟩)
        · rw [if_pos (by decide), if_pos (by decide)]
          exact Qr.of _ (Ok.ret ⟨rfl, f1⟩) (Ok.ret ⟨rfl, (m0k m).tr k1⟩)
      · simp only [decide_eq_false j, not_true_eq_false, if_false]
        exact Qr.of _ (Ok.ret ⟨rfl, f1⟩) (Ok.ret ⟨rfl, (m0k m).tr k1⟩)
    · simp only [decide_eq_false h, if_true]
      by_cases h0 : a1.toInt < 0
      · rw [if_pos (by rw [iof a1, show (0 : Int32) = Int32.ofInt 0 from rfl, ilt (by omega) (by omega) (by omega) (by omega)]; omega)]
        exact Qr.of _ (Ok.ret ⟨rfl, f1⟩) (Ok.ret ⟨rfl, (m0k m).tr k1⟩)
      · rw [if_neg (by rw [iof a1, show (0 : Int32) = Int32.ofInt 0 from rfl, ilt (by omega) (by omega) (by omega) (by omega)]; omega), if_pos (by rw [iof a1, ile (by omega) (by omega) (by omega) (by omega)]; omega)]
        exact Qr.of _ (Ok.ret ⟨rfl, f1⟩) (Ok.ret ⟨rfl, (m0k m).tr k1⟩)
end
