/-! ===== breaks ===== -/
section
abbrev Rs (L : List Rat) : Prop := L.Pairwise (· < ·)
theorem Rs_uniq : ∀ {L M : List Rat}, Rs L → Rs M → (∀ x, x ∈ L ↔ x ∈ M) → L = M
  | [], [], _, _, _ => rfl
  | [], b :: M, _, _, h => by have := (h b).mpr (by simp); simp at this
  | a :: L, [], _, _, h => by have := (h a).mp (by simp); simp at this
  | a :: L, b :: M, p, q, h => by
    have p1 := List.pairwise_cons.mp p
    have q1 := List.pairwise_cons.mp q
    have e : a = b := by
      rcases List.mem_cons.mp ((h a).mp (by simp)) with x | x
      · exact x
      · rcases List.mem_cons.mp ((h b).mpr (by simp)) with y | y
        · exact y.symm
        · have := q1.1 a x
          have := p1.1 b y
          grind
    subst e
    congr 1
    refine Rs_uniq p1.2 q1.2 fun x => ?_
    constructor
    · intro hx
      rcases List.mem_cons.mp ((h x).mp (List.mem_cons_of_mem _ hx)) with y | y
      · have := p1.1 x hx; rw [y] at this; exact absurd this Rat.lt_irrefl
      · exact y
    · intro hx
      rcases List.mem_cons.mp ((h x).mpr (List.mem_cons_of_mem _ hx)) with y | y
      · have := q1.1 x hx; rw [y] at this; exact absurd this Rat.lt_irrefl
      · exact y
/-- the class's list -/
def BL (w : eW) (L : List Rat) : Prop := w.1 27 2 = Int32.ofInt ((L.length : Nat) : Int) ∧ ∀ i x, L[i]? = some x → w.2 25 i = Int64.ofInt x.num ∧ w.2 26 i = Int64.ofInt ((x.den : Nat) : Int)
def BFr (w w' : eW) : Prop := Fr [25, 26, 27] w w' ∧ (∀ k, k ≠ 2 → w'.1 27 k = w.1 27 k) ∧ w'.2 27 = w.2 27
theorem BFr.rfl {w : eW} : BFr w w := ⟨Fr.rfl, fun _ _ => Eq.refl _, Eq.refl _⟩
theorem BFr.tr {a b c : eW} (h : BFr a b) (k : BFr b c) : BFr a c := ⟨h.1.tr k.1, fun i hi => (k.2.1 i hi).trans (h.2.1 i hi), k.2.2.trans h.2.2⟩
theorem x_b {a b : Int} {x : Rat} (ha : 0 ≤ a) (hb : 0 < b) (hx : (a : Rat) = x * (b : Rat)) : 0 ≤ x.num ∧ x.num ≤ a ∧ 1 ≤ ((x.den : Nat) : Int) ∧ ((x.den : Nat) : Int) ≤ b ∧ 0 ≤ x ∧ (x = 0 ↔ a = 0) := by
  have q := q_low ha hb hx
  have b0 : (0 : Rat) < (b : Rat) := by exact_mod_cast hb
  refine ⟨?_, ?_, ?_, ?_, ?_, (xz hb hx).symm⟩
  · rw [← q.1]; exact Int.ediv_nonneg ha (by omega)
  · rw [← q.1]; exact Int.ediv_le_self _ ha
  · have := x.den_pos; omega
  · rw [← q.2.1]; exact Int.ediv_le_self _ (by omega)
  · apply Classical.byContradiction
    intro z
    have : x * (b : Rat) < 0 * (b : Rat) := (Rat.mul_lt_mul_right b0).mpr (by grind)
    rw [← hx, Rat.zero_mul] at this
    have : a < 0 := by exact_mod_cast this
    omega
theorem num_pos {x : Rat} : 0 < x.num ↔ 0 < x := by
  have e := q_nd x
  have d : (0 : Rat) < ((x.den : Nat) : Rat) := by exact_mod_cast x.den_pos
  constructor
  · intro h
    have : (0 : Rat) < (x.num : Rat) := by exact_mod_cast h
    rw [← e] at this
    exact (Rat.mul_pos_iff_of_pos_right d).mp this
  · intro h
    have := Rat.mul_pos h d
    rw [e] at this
    exact_mod_cast this
theorem br_put {w : eW} {L : List Rat} (h : BL w L) (hl : L.length < 30) {x : Rat} (hx : 0 < x) (hn : x.num < 9223372036854775808) : Ok (f_br_add_J62 (Int64.ofInt x.num) (Int64.ofInt ((x.den : Nat) : Int)) 0 w) fun w' => BFr w w' ∧ BL w' (L ++ [x]) := by
  have n0 := num_pos.mpr hx
  unfold f_br_add_J62
  simp only [lg_cmp_le]
  rw [if_neg (by rw [jlit0, jle (by omega) (by omega) (by omega) (by omega)]; omega), if_neg (by simp), h.1, if_neg (by rw [show (30 : Int32) = Int32.ofInt 30 from rfl, ile (by omega) (by omega) (by omega) (by omega)]; omega), eChk_of (by omega) (by omega) (by omega), eChk_of (by omega) (by omega) (by omega), icl (by omega) (by omega), nat_i, isucc]
  refine Ok.ret ⟨⟨((Fr.rfl.u2 (by decide)).u2 (by decide)).u1 (by decide), fun k hk => by rw [u1n _ _ _ _ _ _ (by omega)]; rfl, by funext k; rw [u1l, u2n _ _ _ _ _ _ (by omega), u2n _ _ _ _ _ _ (by omega)]⟩, by rw [u1s]; simp, fun i y hi => ?_⟩
  rw [u1l]
  rw [List.getElem?_append] at hi
  by_cases z : i < L.length
  · rw [if_pos z] at hi
    rw [u2n _ _ _ _ _ _ (by omega), u2n _ _ _ _ _ _ (by omega), u2n _ _ _ _ _ _ (by omega), u2n _ _ _ _ _ _ (by omega)]
    exact h.2 i y hi
  · rw [if_neg z] at hi
    have : i = L.length := by
      apply Classical.byContradiction
      intro y
      have : ([x] : List Rat)[i - L.length]? = none := List.getElem?_eq_none (by simp; omega)
      rw [this] at hi; cases hi
    subst this
    simp at hi
    subst hi
    rw [u2n _ _ _ _ _ _ (by omega), u2s, u2s]
    exact ⟨rfl, rfl⟩
theorem br_skip {w : eW} {x : Rat} {s0 : Int32} (hn : 0 ≤ x.num) (hn2 : x.num < 9223372036854775808) (h : x = 0 ∨ s0 = 1) (d : Int64) : f_br_add_J62 (Int64.ofInt x.num) d s0 w = some w := by
  unfold f_br_add_J62
  simp only [lg_cmp_le]
  rcases h with h | h
  · rw [if_pos (by rw [h]; decide)]
  · rw [h]
    by_cases e : Int64.ofInt x.num ≤ 0
    · rw [if_pos e]
    · rw [if_neg e, if_pos (by decide)]
theorem br_add {w : eW} {L : List Rat} (h : BL w L) (hl : L.length < 30) (hr : Rs L) (hb : ∀ y, y ∈ L → 0 < y ∧ y.num < 9223372036854775808 ∧ ((y.den : Nat) : Int) < 9223372036854775808) {a b : Int} {x : Rat} (ha : 0 ≤ a) (ha2 : a < 9223372036854775808) (hb0 : 0 < b) (hb2 : b < 9223372036854775808) (hx : (a : Rat) = x * (b : Rat)) (hle : ∀ y, y ∈ L → y ≤ x) : Ok (f_br_add (Int64.ofInt a) (Int64.ofInt b) w) fun w' => BFr w w' ∧ ∃ L', BL w' L' ∧ ((L' = L ∧ (x = 0 ∨ x ∈ L)) ∨ (L' = L ++ [x] ∧ 0 < x ∧ ∀ y, y ∈ L → y < x)) := by
  have xb := x_b ha hb0 hx
  unfold f_br_add
  rw [nu_lowest ha ha2 hb0 hb2 hx, obind]
  dsimp only
  rw [nu_lowest ha ha2 hb0 hb2 hx, obind]
  dsimp only
  rw [if_pos (rfl : (0 : Int32) = 0), if_neg (by decide : ¬ (1 : Int32) = 0), h.1]
  have put : (0 < x → ∀ y, y ∈ L → y < x) → Ok (f_br_add_J62 (Int64.ofInt x.num) (Int64.ofInt ((x.den : Nat) : Int)) 0 w) fun w' => BFr w w' ∧ ∃ L', BL w' L' ∧ ((L' = L ∧ (x = 0 ∨ x ∈ L)) ∨ (L' = L ++ [x] ∧ 0 < x ∧ ∀ y, y ∈ L → y < x)) := fun hy => by
    by_cases z : x = 0
    · rw [br_skip xb.1 (by omega) (.inl z)]
      exact Ok.ret ⟨BFr.rfl, L, h, .inl ⟨rfl, .inl z⟩⟩
    · have x0 : 0 < x := by have := xb.2.2.2.2.1; grind
      refine Ok.imp (br_put h hl x0 (by omega)) ?_
      rintro w' ⟨q1, q2⟩
      exact ⟨q1, _, q2, .inr ⟨rfl, x0, hy x0⟩⟩
  by_cases e : L = []
  · rw [if_pos (by rw [e]; decide)]
    exact put fun _ y hy => by rw [e] at hy; simp at hy
  · have l0 : 0 < L.length := List.length_pos_iff.mpr e
    have hi : L[L.length - 1]? = some (L.getLast e) := by rw [List.getLast_eq_getElem]; exact List.getElem?_eq_getElem (by omega)
    have ml : L.getLast e ∈ L := List.getLast_mem e
    have lb := hb _ ml
    have nl := num_pos.mpr lb.1
    have dl := (L.getLast e).den_pos
    obtain ⟨d1, d2⟩ := h.2 _ _ hi
    have lst : ∀ y, y ∈ L → y = L.getLast e ∨ y < L.getLast e := fun y hy => by
      obtain ⟨j, hj⟩ := List.mem_iff_getElem?.mp hy
      have jl := (List.getElem?_eq_some_iff.mp hj).1
      by_cases z : j = L.length - 1
      · left; rw [z, hi] at hj; cases hj; rfl
      · right
        have := List.pairwise_iff_getElem.mp hr j (L.length - 1) jl (by omega) (by omega)
        rw [(List.getElem?_eq_some_iff.mp hj).2] at this
        rw [List.getLast_eq_getElem]; exact this
    have put' : ¬ L.getLast e = x → (0 < x → ∀ y, y ∈ L → y < x) := fun ne _ y hy => by
      have := hle _ ml
      rcases lst y hy with z | z
      · rw [z]; grind
      · grind
    rw [if_neg (by rw [show (0 : Int32) = Int32.ofInt 0 from rfl, ile (by omega) (by omega) (by omega) (by omega)]; omega), show (1 : Int32) = Int32.ofInt 1 from rfl, ← Int32.ofInt_sub]
    rw [eChk_of (by omega) (by omega) (by omega), icl (by omega) (by omega), show ((L.length : Int) - 1).toNat = L.length - 1 by omega, d1, d2]
    simp only [lg_cmp_eq]
    rw [ite_congr (propext (not_congr (jeq (by omega) (by omega) (by omega) (by omega)))) (fun _ => rfl) (fun _ => rfl)]
    by_cases g1 : (L.getLast e).num = x.num
    · rw [if_neg (fun z => z g1), eChk_of (by omega) (by omega) (by omega), ite_congr (propext (not_congr (jeq (by omega) (by omega) (by omega) (by omega)))) (fun _ => rfl) (fun _ => rfl)]
      by_cases g2 : (((L.getLast e).den : Nat) : Int) = ((x.den : Nat) : Int)
      · rw [if_neg (fun z => z g2)]
        have : L.getLast e = x := num_den.mp ⟨g1, g2⟩
        rw [show Int32.ofInt 1 = (1 : Int32) from rfl, br_skip xb.1 (by omega) (.inr rfl)]
        exact Ok.ret ⟨BFr.rfl, L, h, .inl ⟨rfl, .inr (this ▸ ml)⟩⟩
      · rw [if_pos g2]
        exact put (put' fun z => g2 (by rw [z]))
    · rw [if_pos g1]
      exact put (put' fun z => g1 (by rw [z]))
end
section
variable {n : Nat} {F : Nat → Nat → Int} {wv : Int32} {cv : Int} {c m : eW}
/-- the breaks of the first ranks -/
def Lr (n : Nat) (F : Nat → Nat → Int) (wv : Int32) : Nat → List Rat
  | 0 => []
  | k + 1 => if 0 < rp n F wv false 0 k then Lr n F wv k ++ [(bf n F wv false 0 (k + 1) : Rat)] else Lr n F wv k
theorem Lr_ok (hF : FOK n F cv) : ∀ k, (∀ y, y ∈ Lr n F wv k → 0 < y ∧ y ≤ (bf n F wv false 0 k : Rat) ∧ ∃ r, r < k ∧ y = (bf n F wv false 0 (r + 1) : Rat)) ∧ Rs (Lr n F wv k) ∧ (bf n F wv false 0 k = 0 ∨ (Lr n F wv k).getLast? = some (bf n F wv false 0 k : Rat)) ∧ (Lr n F wv k).length ≤ k
  | 0 => ⟨by simp [Lr], by simp [Lr, Rs], .inl rfl, by simp [Lr]⟩
  | k + 1 => by
    obtain ⟨a, b, d, e⟩ := Lr_ok hF k
    have rn := rp_nn (wv := wv) (told := false) (set := 0) hF k
    have b0 := bf_nn (wv := wv) (told := false) (set := 0) hF k
    have es : bf n F wv false 0 (k + 1) = bf n F wv false 0 k + rp n F wv false 0 k := rfl
    simp only [Lr]
    by_cases g : 0 < rp n F wv false 0 k
    · have lt : (bf n F wv false 0 k : Rat) < (bf n F wv false 0 (k + 1) : Rat) := by exact_mod_cast (show bf n F wv false 0 k < bf n F wv false 0 (k + 1) by omega)
      have p0 : (0 : Rat) < (bf n F wv false 0 (k + 1) : Rat) := by exact_mod_cast (show 0 < bf n F wv false 0 (k + 1) by omega)
      rw [if_pos g]
      refine ⟨fun y hy => ?_, ?_, .inr (by simp), by simp; exact e⟩
      · rcases List.mem_append.mp hy with z | z
        · obtain ⟨z1, z2, r, z3, z4⟩ := a y z
          exact ⟨z1, by grind, r, by omega, z4⟩
        · rw [List.mem_singleton.mp z]
          exact ⟨p0, Rat.le_refl, k, by omega, rfl⟩
      · rw [Rs, List.pairwise_append]
        refine ⟨b, by simp, fun x hx y hy => ?_⟩
        rw [List.mem_singleton.mp hy]
        have := (a x hx).2.1
        grind
    · have e0 : bf n F wv false 0 (k + 1) = bf n F wv false 0 k := by omega
      rw [if_neg g, e0]
      refine ⟨fun y hy => ?_, b, d, by omega⟩
      obtain ⟨z1, z2, r, z3, z4⟩ := a y hy
      exact ⟨z1, z2, r, by omega, z4⟩
theorem Lr_all (hF : FOK n F cv) : ∀ {k r : Nat}, r < k → 0 < bf n F wv false 0 (r + 1) → (bf n F wv false 0 (r + 1) : Rat) ∈ Lr n F wv k
  | 0, r, h, _ => by omega
  | k + 1, r, h, p => by
    have a := Lr_ok (wv := wv) hF k
    have rn := rp_nn (wv := wv) (told := false) (set := 0) hF k
    have es : bf n F wv false 0 (k + 1) = bf n F wv false 0 k + rp n F wv false 0 k := rfl
    simp only [Lr]
    by_cases e : r = k
    · subst e
      by_cases g : 0 < rp n F wv false 0 r
      · rw [if_pos g]; simp
      · rw [if_neg g]
        have e0 : bf n F wv false 0 (r + 1) = bf n F wv false 0 r := by omega
        rw [e0] at p ⊢
        rcases a.2.2.1 with z | z
        · omega
        · exact List.mem_of_getLast? z
    · have := Lr_all (k := k) hF (show r < k by omega) p
      by_cases g : 0 < rp n F wv false 0 k
      · rw [if_pos g]; exact List.mem_append_left _ this
      · rw [if_neg g]; exact this
theorem int_nd (z : Int) : ((z : Rat)).num = z ∧ ((z : Rat)).den = 1 := ⟨Rat.num_intCast z, Rat.den_intCast z⟩
theorem bf_b (hF : FOK n F cv) {r : Nat} (hr : r ≤ 6) : 0 ≤ bf n F wv false 0 r ∧ bf n F wv false 0 r ≤ 12000000000 := by
  have a := bf_nn (wv := wv) (told := false) (set := 0) hF r
  have b := bf_mono (wv := wv) (told := false) (set := 0) hF hr
  have c := bf_6 (wv := wv) (told := false) (set := 0) hF
  have d := ap_b (wv := wv) (told := false) (set := 0) hF
  omega
theorem Lr_b (hF : FOK n F cv) {k : Nat} (hk : k ≤ 6) : ∀ y, y ∈ Lr n F wv k → 0 < y ∧ y.num ≤ 12000000000 ∧ ((y.den : Nat) : Int) = 1 := fun y hy => by
  obtain ⟨z1, z2, r, z3, z4⟩ := (Lr_ok (wv := wv) hF k).1 y hy
  have := bf_b (wv := wv) hF (show r + 1 ≤ 6 by omega)
  have e := int_nd (bf n F wv false 0 (r + 1))
  rw [z4, e.1, e.2]
  exact ⟨by rw [← z4]; exact z1, by omega, rfl⟩
/-- one more rank -/
theorem Lr_step (hF : FOK n F cv) {k : Nat} {L : List Rat} (h : (L = Lr n F wv k ∧ ((bf n F wv false 0 (k + 1) : Rat) = 0 ∨ (bf n F wv false 0 (k + 1) : Rat) ∈ Lr n F wv k)) ∨ (L = Lr n F wv k ++ [(bf n F wv false 0 (k + 1) : Rat)] ∧ 0 < (bf n F wv false 0 (k + 1) : Rat) ∧ ∀ y, y ∈ Lr n F wv k → y < (bf n F wv false 0 (k + 1) : Rat))) : L = Lr n F wv (k + 1) := by
  have a := Lr_ok (wv := wv) hF k
  have rn := rp_nn (wv := wv) (told := false) (set := 0) hF k
  have b0 := bf_nn (wv := wv) (told := false) (set := 0) hF k
  have es : bf n F wv false 0 (k + 1) = bf n F wv false 0 k + rp n F wv false 0 k := rfl
  simp only [Lr]
  by_cases g : 0 < rp n F wv false 0 k
  · rw [if_pos g]
    rcases h with ⟨e, z⟩ | ⟨e, _⟩
    · exfalso
      rcases z with z | z
      · have : bf n F wv false 0 (k + 1) = 0 := by exact_mod_cast z
        omega
      · have := (a.1 _ z).2.1
        have : bf n F wv false 0 (k + 1) ≤ bf n F wv false 0 k := by exact_mod_cast this
        omega
    · exact e
  · rw [if_neg g]
    rcases h with ⟨e, _⟩ | ⟨e, z1, z2⟩
    · exact e
    · exfalso
      have e0 : bf n F wv false 0 (k + 1) = bf n F wv false 0 k := by omega
      rw [e0] at z1 z2
      rcases a.2.2.1 with z | z
      · rw [z] at z1; exact Rat.lt_irrefl z1
      · exact Rat.lt_irrefl (z2 _ (List.mem_of_getLast? z))
end
section
variable {n : Nat} {F : Nat → Nat → Int} {wv : Int32} {cv : Int} {c m : eW}
/-- steps taken and left -/
def Sq (n : Nat) (F : Nat → Nat → Int) (wv : Int32) (t u : List ZStp) (lo : Rat) : Prop := (t ++ u).Perm (alls F wv false 0 n) ∧ 0 ≤ lo ∧ (∀ s, s ∈ t → sL s ≤ lo) ∧ (∀ s, s ∈ u → lo ≤ sL s) ∧ u.Pairwise (fun a b => sL a ≤ sL b)
theorem Sq_step {t u : List ZStp} {s : ZStp} {lo : Rat} (h : Sq n F wv t (s :: u) lo) : Sq n F wv (t ++ [s]) u (sL s) := by
  obtain ⟨a, b, d, e, f⟩ := h
  have f1 := List.pairwise_cons.mp f
  have l := e s (by simp)
  refine ⟨by rw [List.append_assoc]; exact a, by grind, fun x hx => ?_, fun x hx => f1.1 x hx, f1.2⟩
  rcases List.mem_append.mp hx with z | z
  · have := d x z; grind
  · rw [List.mem_singleton.mp z]; exact Rat.le_refl
theorem Sq_tt (hF : FOK n F cv) {t u : List ZStp} {s : ZStp} {lo : Rat} (h : Sq n F wv t (s :: u) lo) (gs : Gs s) : ((AF n F wv false 0 t * s.2.2.1 + AS n F t * s.2.1 : Int) : Rat) = tt n F wv false 0 (sL s) * (s.2.2.1 : Rat) := by
  obtain ⟨a, b, d, e, f⟩ := h
  have f1 := List.pairwise_cons.mp f
  have l := e s (by simp)
  rw [sw_tt hF a (by grind) (fun x hx => by have := d x hx; grind) (fun x hx => by
    rcases List.mem_cons.mp hx with z | z
    · rw [z]; exact Rat.le_refl
    · exact f1.1 x z)]
  have q0 : (0 : Rat) < (s.2.2.1 : Rat) := by exact_mod_cast gs.2.1
  have e1 : sL s * (s.2.2.1 : Rat) = 100 * (s.2.1 : Rat) := by
    unfold sL
    rw [← (qeq q0).mp rfl]
  rw [Rat.intCast_add, Rat.intCast_mul, Rat.intCast_mul]
  grind
theorem tt_nn (hF : FOK n F cv) {v : Rat} (h : 0 ≤ v) : 0 ≤ tt n F wv false 0 v := sm_nn fun i hi => by
  have := vl_mono (wv := wv) (told := false) (set := 0) hF hi (Rat.le_refl : (0 : Rat) ≤ 0) h
  exact Rat.le_trans this.1 this.2
theorem Tk.b {w w' : eW} {t : List ZStp} (h : Tk n F wv false 0 w t) (k : BFr w w') : Tk n F wv false 0 w' t := by
  unfold Tk at *
  rw [(k.1 11 (by decide)).2, (k.1 12 (by decide)).2, (k.1 19 (by decide)).2]
  exact h
theorem tot_b (hF : FOK n F cv) {t u : List ZStp} {s : ZStp} (hp : (t ++ u).Perm (alls F wv false 0 n)) (rq : Rq s.2.1 s.2.2.1) : -54000000000000 ≤ AF n F wv false 0 t * s.2.2.1 + AS n F t * s.2.1 ∧ AF n F wv false 0 t * s.2.2.1 + AS n F t * s.2.1 ≤ 54000000000000 := by
  have ba := AF_b hF hp
  have m1 : -60000000000 * 400 ≤ AF n F wv false 0 t * s.2.2.1 ∧ AF n F wv false 0 t * s.2.2.1 ≤ 60000000000 * 400 := by
    constructor
    · have := Int.mul_le_mul_of_nonneg_right (show -60000000000 ≤ AF n F wv false 0 t by omega) (show 0 ≤ s.2.2.1 by omega)
      omega
    · have := Int.mul_le_mul_of_nonneg_right (show AF n F wv false 0 t ≤ 60000000000 by omega) (show 0 ≤ s.2.2.1 by omega)
      omega
  have m2 : -150000000 * 198000 ≤ AS n F t * s.2.1 ∧ AS n F t * s.2.1 ≤ 150000000 * 198000 := by
    constructor
    · have := Int.mul_le_mul_of_nonneg_right (show -150000000 ≤ AS n F t by omega) (show 0 ≤ s.2.1 by omega)
      omega
    · have := Int.mul_le_mul_of_nonneg_right (show AS n F t ≤ 150000000 by omega) (show 0 ≤ s.2.1 by omega)
      omega
  omega
/-- a break's numbers -/
abbrev Bb (y : Rat) : Prop := 0 < y ∧ y.num ≤ 54000000000000 ∧ ((y.den : Nat) : Int) ≤ 400
/-- what lies in the class's list -/
def CLs (n : Nat) (F : Nat → Nat → Int) (wv : Int32) (L : List Rat) (t : List ZStp) : Prop := ∃ M, L = Lr n F wv 6 ++ M ∧ (∀ x, x ∈ M → (ap n F wv false 0 : Rat) ≤ x ∧ 0 < x ∧ ∃ s, s ∈ t ∧ x = tt n F wv false 0 (sL s)) ∧ (∀ s, s ∈ t → 0 < tt n F wv false 0 (sL s) → tt n F wv false 0 (sL s) ∈ L) ∧ M.length ≤ t.length
theorem steps_loop (hF : FOK n F cv) {ls : List ZStp} (hl : ls.length ≤ 24) (hp : ls.Perm (alls F wv false 0 n)) : ∀ (u t : List ZStp) (f : Nat), ls = t ++ u → u.length < f → ∀ (w : eW) (lo : Rat) (L : List Rat), w.1 19 0 = Int32.ofInt (n : Nat) → SV w ls → Tk n F wv false 0 w t → Sq n F wv t u lo → BL w L → Rs L → (∀ y, y ∈ L → Bb y ∧ y ≤ tt n F wv false 0 lo) → CLs n F wv L t →
    Ok (f_br_list_L60 f (Int32.ofInt (t.length : Nat)) w) fun w' => Fr QS w w' ∧ (∀ k, k ≠ 2 → w'.1 27 k = w.1 27 k) ∧ w'.1 19 = w.1 19 ∧ w'.1 20 = w.1 20 ∧ w'.2 9 = w.2 9 ∧ w'.2 10 = w.2 10 ∧ w'.2 21 = w.2 21 ∧ SV w' ls ∧ ∃ L', BL w' L' ∧ Rs L' ∧ (∀ y, y ∈ L' → Bb y) ∧ CLs n F wv L' ls := by
  have hn := hF.1
  intro u
  induction u with
  | nil =>
    intro t f e hf w lo L hc sv tk sq bl rs hb cl
    obtain ⟨f, rfl⟩ : ∃ g, f = g + 1 := ⟨f - 1, by omega⟩
    rw [List.append_nil] at e
    subst e
    unfold f_br_list_L60
    rw [sv.1, if_pos (by rw [ile (by omega) (by omega) (by omega) (by omega)]; omega)]
    exact Ok.ret ⟨Fr.rfl, fun _ _ => rfl, rfl, rfl, rfl, rfl, rfl, sv, L, bl, rs, fun y hy => (hb y hy).1, cl⟩
  | cons s u ih =>
    intro t f e hf w lo L hc sv tk sq bl rs hb cl
    obtain ⟨f, rfl⟩ : ∃ g, f = g + 1 := ⟨f - 1, by omega⟩
    have hi : ls[t.length]? = some s := by rw [e, List.getElem?_append_right (Nat.le_refl _), Nat.sub_self, List.getElem?_cons_zero]
    have ms : s ∈ alls F wv false 0 n := hp.mem_iff.mp (by rw [e]; simp)
    have gs := alls_good hF n (Nat.le_refl _) s ms
    have rq := alls_rq hF n (Nat.le_refl _) s ms
    have ll : ls.length = t.length + (u.length + 1) := by rw [e, List.length_append, List.length_cons]
    have tb := tot_b (s := s) hF sq.1 rq
    have tv := Sq_tt hF sq gs.2
    have lo1 : lo ≤ sL s := sq.2.2.2.1 s (by simp)
    have sl0 : 0 ≤ sL s := by have := sq.2.1; grind
    have mo : tt n F wv false 0 lo ≤ tt n F wv false 0 (sL s) := tt_mono hF sq.2.1 lo1
    have nn := tt_nn (wv := wv) hF sl0
    have q0 : (0 : Rat) ≤ (s.2.2.1 : Rat) := by exact_mod_cast (show 0 ≤ s.2.2.1 by omega)
    have t0 : 0 ≤ AF n F wv false 0 t * s.2.2.1 + AS n F t * s.2.1 := by
      have : (0 : Rat) ≤ ((AF n F wv false 0 t * s.2.2.1 + AS n F t * s.2.1 : Int) : Rat) := by rw [tv]; exact Rat.mul_nonneg nn q0
      exact_mod_cast this
    have xb := x_b t0 (show 0 < s.2.2.1 by omega) tv
    obtain ⟨ta, ra⟩ := cu_totalAt sv hl tk hi rq
    have l30 : L.length < 30 := by
      obtain ⟨M, c1, c2, c3, c4⟩ := cl
      rw [c1, List.length_append]
      have := (Lr_ok (wv := wv) hF 6).2.2.2
      omega
    unfold f_br_list_L60
    rw [sv.1, if_neg (by rw [ile (by omega) (by omega) (by omega) (by omega)]; omega), ta, obind]
    dsimp only
    rw [ra, obind]
    dsimp only
    rw [i2j (by omega) (by omega)]
    refine Ok.bind (br_add bl l30 rs (fun y hy => by have := (hb y hy).1; exact ⟨this.1, by omega, by omega⟩) t0 (by omega) (by omega) (by omega) tv (fun y hy => by have := (hb y hy).2; grind)) ?_
    rintro w1 ⟨b1, L1, bl1, hL⟩
    have sv1 : SV w1 ls := sv.fr b1.1 (by intro i h1 h2; simp; omega)
    have hc1 : w1.1 19 0 = Int32.ofInt (n : Nat) := by rw [(b1.1 19 (by decide)).1]; exact hc
    refine Ok.bind (cu_take hn hc1 sv1 hl (tk.b b1) hi (by omega)) ?_
    rintro w2 ⟨tf, tk2⟩
    have f27 : w2.1 27 = w1.1 27 := by rw [tf.1]
    have bl2 : BL w2 L1 := by
      refine ⟨by rw [f27]; exact bl1.1, fun i x hx => ?_⟩
      rw [tf.2 25 i (by omega) (by omega) (by omega), tf.2 26 i (by omega) (by omega) (by omega)]
      exact bl1.2 i x hx
    have key : Rs L1 ∧ (∀ y, y ∈ L1 → Bb y ∧ y ≤ tt n F wv false 0 (sL s)) ∧ CLs n F wv L1 (t ++ [s]) := by
      obtain ⟨M, c1, c2, c3, c4⟩ := cl
      rcases hL with ⟨rfl, hx⟩ | ⟨rfl, x0, hy⟩
      · refine ⟨rs, fun y hy => ⟨(hb y hy).1, by have := (hb y hy).2; grind⟩, M, c1, fun x hx => ?_, fun s' hs' p => ?_, by simp; omega⟩
        · obtain ⟨d1, d0, s', d2, d3⟩ := c2 x hx
          exact ⟨d1, d0, s', List.mem_append_left _ d2, d3⟩
        · rcases List.mem_append.mp hs' with z | z
          · exact c3 s' z p
          · rw [List.mem_singleton.mp z] at p ⊢
            rcases hx with hx | hx
            · rw [hx] at p; exact absurd p Rat.lt_irrefl
            · exact hx
      · refine ⟨?_, fun y hy' => ?_, M ++ [tt n F wv false 0 (sL s)], by rw [c1, List.append_assoc], fun x hx => ?_, fun s' hs' p => ?_, by simp; omega⟩
        · rw [Rs, List.pairwise_append]
          refine ⟨rs, by simp, fun a ha b hb' => ?_⟩
          rw [List.mem_singleton.mp hb']
          exact hy a ha
        · rcases List.mem_append.mp hy' with z | z
          · exact ⟨(hb y z).1, Rat.le_of_lt (hy y z)⟩
          · rw [List.mem_singleton.mp z]
            exact ⟨⟨x0, by omega, by omega⟩, Rat.le_refl⟩
        · rcases List.mem_append.mp hx with z | z
          · obtain ⟨d1, d0, s', d2, d3⟩ := c2 x z
            exact ⟨d1, d0, s', List.mem_append_left _ d2, d3⟩
          · rw [List.mem_singleton.mp z]
            refine ⟨?_, x0, s, by simp, rfl⟩
            rw [← tt_0 hF]
            exact tt_mono hF Rat.le_refl sl0
        · rcases List.mem_append.mp hs' with z | z
          · exact List.mem_append_left _ (c3 s' z p)
          · rw [List.mem_singleton.mp z]; simp
    have := ih (t ++ [s]) f (by rw [List.append_assoc]; exact e) (by rw [List.length_cons] at hf; omega) w2 (sL s) L1 (by rw [tf.1]; exact hc1) (sv1.tfr tf) (tk2 gs.1) (Sq_step sq) bl2 key.1 key.2.1 key.2.2
    rw [List.length_append, List.length_singleton, ← isucc] at this
    refine Ok.imp this ?_
    rintro w' ⟨q1, q2, q3, q4, q5, q6, q7, q8⟩
    refine ⟨((b1.1.sub (by decide)).tr (tf.fr.sub (by decide))).tr q1, fun k hk => by rw [q2 k hk, f27, b1.2.1 k hk], by rw [q3, tf.1, (b1.1 19 (by decide)).1], by rw [q4, tf.1, (b1.1 20 (by decide)).1], ?_, ?_, ?_, q8⟩
    · rw [q5]; funext k; rw [tf.2 9 k (by omega) (by omega) (by omega), (b1.1 9 (by decide)).2]
    · rw [q6]; funext k; rw [tf.2 10 k (by omega) (by omega) (by omega), (b1.1 10 (by decide)).2]
    · rw [q7]; funext k; rw [tf.2 21 k (by omega) (by omega) (by omega), (b1.1 21 (by decide)).2]
/-- the class has its list -/
def CB (n : Nat) (F : Nat → Nat → Int) (cv : Int) (wv : Int32) (w : eW) (L : List Rat) : Prop := CF w n F cv wv ∧ Hd F wv false 0 w n ∧ (∀ r, r < 6 → w.2 21 r = Int64.ofInt (rp n F wv false 0 r)) ∧ Rk F w n ∧ (∃ ls : List ZStp, ls.Perm (alls F wv false 0 n) ∧ ls.Pairwise (fun x y => sL x ≤ sL y) ∧ SV w ls) ∧ BL w L ∧ Rs L ∧ (∀ y, y ∈ L → Bb y) ∧ CLs n F wv L (alls F wv false 0 n) ∧ w.1 27 3 = Int32.ofInt (((Lr n F wv 6).length : Nat) : Int)
theorem CLs_perm {L : List Rat} {t u : List ZStp} (h : CLs n F wv L t) (p : t.Perm u) : CLs n F wv L u := by
  obtain ⟨M, a, b, d, e⟩ := h
  exact ⟨M, a, fun x hx => by obtain ⟨y1, y0, s, y2, y3⟩ := b x hx; exact ⟨y1, y0, s, p.mem_iff.mp y2, y3⟩, fun s hs => d s (p.mem_iff.mpr hs), by rw [← p.length_eq]; exact e⟩
theorem ranks_loop (hF : FOK n F cv) : ∀ (d r f : Nat), r + d = 6 → d < f → ∀ w : eW, CF w n F cv wv → Arr n F wv false 0 w → BL w (Lr n F wv r) → Ok (f_br_list_L10 f (Int64.ofInt (bf n F wv false 0 r)) (Int32.ofInt (r : Nat)) w) fun w' => Fr QS w w' ∧ ∃ L, CB n F cv wv w' L := by
  have hn := hF.1
  intro d
  induction d with
  | zero =>
    intro r f hr hf w hC ar bl
    obtain ⟨f, rfl⟩ : ∃ g, f = g + 1 := ⟨f - 1, by omega⟩
    have : r = 6 := by omega
    subst this
    unfold f_br_list_L10
    rw [if_pos (by decide), bl.1]
    have p1 : Fr QS w (eU1 w 27 3 (Int32.ofInt (((Lr n F wv 6).length : Nat) : Int))) := Fr.rfl.u1 (by decide)
    obtain ⟨hd, pf, ⟨ls, l1, l2, l3⟩, rk⟩ := ar
    have hd1 : Hd F wv false 0 (eU1 w 27 3 (Int32.ofInt (((Lr n F wv 6).length : Nat) : Int))) n := ⟨by rw [u1n _ _ _ _ _ _ (by omega)]; exact hd.1, hd.2⟩
    refine Ok.bind (cu_restart hF hd1) ?_
    rintro w1 ⟨tf, tk⟩
    have sv1 : SV w1 ls := (l3.fr (S := [27]) (Fr.rfl.u1 (by decide)) (by intro i h1 h2; simp; omega)).tfr tf
    have ll := l1.length_eq
    have al := alls_len (F := F) (wv := wv) (told := false) (set := 0) n
    have bl1 : BL w1 (Lr n F wv 6) := by
      refine ⟨by rw [tf.1, u1n _ _ _ _ _ _ (by omega)]; exact bl.1, fun i x hx => ?_⟩
      rw [tf.2 25 i (by omega) (by omega) (by omega), tf.2 26 i (by omega) (by omega) (by omega)]
      exact bl.2 i x hx
    have ok := Lr_ok (wv := wv) hF 6
    have lb := Lr_b (wv := wv) hF (Nat.le_refl 6)
    refine Ok.imp (steps_loop hF (by omega) l1 ls [] eFu rfl (by rw [eFu_eq]; omega) w1 0 (Lr n F wv 6) (by rw [tf.1]; exact hd1.1) sv1 tk ⟨by simpa using l1, Rat.le_refl, by simp, fun s hs => ?_, l2⟩ bl1 ok.2.1 (fun y hy => ?_) ⟨[], by simp, by simp, by simp, by simp⟩) ?_
    · exact sL_nn (alls_good hF n (Nat.le_refl _) s (l1.mem_iff.mp hs)).2
    · have := lb y hy
      refine ⟨⟨this.1, by omega, by omega⟩, ?_⟩
      rw [tt_0 hF, ← bf_6 hF]
      exact (ok.1 y hy).2.1
    · rintro w' ⟨q1, q2, q3, q4, q5, q6, q7, q8, L, q9, q10, q11, q12⟩
      have fr : Fr QS w w' := (p1.tr (tf.fr.sub (by decide))).tr q1
      have t9 : ∀ k, w1.2 9 k = w.2 9 k := fun k => tf.2 9 k (by omega) (by omega) (by omega)
      have t10 : ∀ k, w1.2 10 k = w.2 10 k := fun k => tf.2 10 k (by omega) (by omega) (by omega)
      have t21 : ∀ k, w1.2 21 k = w.2 21 k := fun k => tf.2 21 k (by omega) (by omega) (by omega)
      refine ⟨fr, L, hC.q fr, ⟨by rw [q3, tf.1, u1n _ _ _ _ _ _ (by omega)]; exact hd.1, fun h hh => by rw [q5, q6, t9, t10]; exact hd.2 h hh⟩, fun r hr => by rw [q7, t21]; exact pf.2 r hr, fun h hh => by rw [q4, tf.1, u1n _ _ _ _ _ _ (by omega)]; exact rk h hh, ⟨ls, l1, l2, q8⟩, q9, q10, q11, CLs_perm q12 l1, ?_⟩
      rw [q2 3 (by omega), tf.1, u1s]
  | succ d ih =>
    intro r f hr hf w hC ar bl
    obtain ⟨f, rfl⟩ : ∃ g, f = g + 1 := ⟨f - 1, by omega⟩
    unfold f_br_list_L10
    have ok := Lr_ok (wv := wv) hF r
    have lb := Lr_b (wv := wv) hF (show r ≤ 6 by omega)
    have b1 := bf_b (wv := wv) hF (show r + 1 ≤ 6 by omega)
    have mo := bf_mono (wv := wv) (told := false) (set := 0) hF (show r ≤ r + 1 by omega)
    rw [if_neg (by rw [show (5 : Int32) = Int32.ofInt 5 from rfl, ilt (by omega) (by omega) (by omega) (by omega)]; omega), eChk_of (by omega) (by omega) (by omega), icl (by omega) (by omega), nat_i, ar.2.1.2 r (by omega), ← Int64.ofInt_add, show bf n F wv false 0 r + rp n F wv false 0 r = bf n F wv false 0 (r + 1) from rfl, isucc]
    refine Ok.bind (br_add bl (by have := ok.2.2.2; omega) ok.2.1 (fun y hy => by have := lb y hy; exact ⟨this.1, by omega, by omega⟩) b1.1 (by omega) (b := 1) (x := (bf n F wv false 0 (r + 1) : Rat)) (by omega) (by omega) (Rat.mul_one _).symm (fun y hy => ?_)) ?_
    · have a := (ok.1 y hy).2.1
      have : (bf n F wv false 0 r : Rat) ≤ (bf n F wv false 0 (r + 1) : Rat) := by exact_mod_cast mo
      grind
    · rintro w1 ⟨b1, L1, bl1, hL⟩
      have e := Lr_step hF hL
      subst e
      have f1 : Fr QS w w1 := b1.1.sub (by decide)
      have ar1 : Arr n F wv false 0 w1 := by
        obtain ⟨hd, pf, ⟨ls, l1, l2, l3⟩, rk⟩ := ar
        refine ⟨⟨by rw [(b1.1 19 (by decide)).1]; exact hd.1, fun h hh => by rw [(b1.1 9 (by decide)).2, (b1.1 10 (by decide)).2]; exact hd.2 h hh⟩, ⟨by rw [(b1.1 24 (by decide)).2]; exact pf.1, fun k hk => by rw [(b1.1 21 (by decide)).2]; exact pf.2 k hk⟩, ⟨ls, l1, l2, l3.fr b1.1 (by intro i h1 h2; simp; omega)⟩, fun h hh => by rw [(b1.1 20 (by decide)).1]; exact rk h hh⟩
      refine Ok.imp (ih (r + 1) f (by omega) (by omega) w1 (hC.q f1) ar1 bl1) ?_
      rintro w' ⟨q1, q2⟩
      exact ⟨f1.tr q1, q2⟩
theorem x_list (hF : FOK n F cv) (hC : CF c n F cv wv) {β : Type} {P : β → Prop} {k : eW → Option β} (hk : ∀ w L, Fr QS c w → CB n F cv wv w L → Ok (k w) P) : Ok ((f_fa_arrange (0 : Int32) (0 : Int32) c).bind fun w1 => (f_br_list w1).bind k) P := by
  refine Ok.bind (fa_arrange (told := false) (set := 0) hF hC) ?_
  rintro w1 ⟨f1, -, ar⟩
  have f1' : Fr QS c w1 := f1.sub (by decide)
  unfold f_br_list
  have f2 : Fr [27] w1 (eU1 w1 27 2 0) := Fr.rfl.u1 (by decide)
  have ar1 : Arr n F wv false 0 (eU1 w1 27 2 0) := by
    obtain ⟨hd, pf, ⟨ls, l1, l2, l3⟩, rk⟩ := ar
    exact ⟨⟨by rw [u1n _ _ _ _ _ _ (by omega)]; exact hd.1, hd.2⟩, pf, ⟨ls, l1, l2, l3.fr f2 (by intro i h1 h2; simp; omega)⟩, fun h hh => by rw [u1n _ _ _ _ _ _ (by omega)]; exact rk h hh⟩
  refine Ok.bind (ranks_loop hF 6 0 eFu (by omega) (by rw [eFu_eq]; omega) _ ((hC.q f1').q (f2.sub (by decide))) ar1 ⟨by rw [u1s]; rfl, fun i x hx => by simp [Lr] at hx⟩) ?_
  rintro w ⟨q1, L, q2⟩
  exact hk w L ((f1'.tr (f2.sub (by decide))).tr q1) q2
end
