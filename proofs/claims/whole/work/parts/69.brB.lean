section
variable {n : Nat} {F : Nat → Nat → Int} {wv : Int32} {cv : Int} {c m : eW}
/-- the reference's list -/
def BM (w : eW) (L : List Rat) : Prop := w.1 24 47 = Int32.ofInt ((L.length : Nat) : Int) ∧ ∀ i x, L[i]? = some x → w.2 19 i = Int64.ofInt x.num ∧ w.2 20 i = Int64.ofInt ((x.den : Nat) : Int)
def Kb (w w' : eW) : Prop := (∀ i k, ¬ (i = 24 ∧ k = 47) → w'.1 i k = w.1 i k) ∧ ∀ i k, i ≠ 19 → i ≠ 20 → w'.2 i k = w.2 i k
theorem Kb.rfl {w : eW} : Kb w w := ⟨fun _ _ _ => Eq.refl _, fun _ _ _ _ => Eq.refl _⟩
theorem Kb.tr {a b c : eW} (h : Kb a b) (k : Kb b c) : Kb a c := ⟨fun i j e => (k.1 i j e).trans (h.1 i j e), fun i j e f => (k.2 i j e f).trans (h.2 i j e f)⟩
theorem Kb.km {a b : eW} (h : Kb a b) : Km a b := fun i k h1 h2 => ⟨h.1 i k (by omega), h.2 i k (by omega) (by omega)⟩
theorem MT.kb {told : Bool} {set : Int32} {w w' : eW} (h : MT w n F cv wv told set) (k : Kb w w') : MT w' n F cv wv told set := ⟨h.1.km k.km, by rw [k.1 24 36 (by omega)]; exact h.2.1, by rw [k.1 24 35 (by omega)]; exact h.2.2⟩
theorem EV.kb {w w' : eW} {l : List (Int × Int)} (h : EV w l) (k : Kb w w') : EV w' l := ⟨by rw [k.1 24 34 (by omega)]; exact h.1, fun i p hp => by rw [k.2 12 i (by omega) (by omega), k.2 13 i (by omega) (by omega)]; exact h.2 i p hp⟩
theorem BM.kf {w w' : eW} {L : List Rat} (h : BM w L) (k : KF w w') : BM w' L := ⟨by rw [k.1]; exact h.1, fun i x hx => by rw [k.2 19 (by omega) (by omega), k.2 20 (by omega) (by omega)]; exact h.2 i x hx⟩
/-- numbers of a break or of what is held against it -/
abbrev Bm (y : Rat) : Prop := 0 < y ∧ y.num ≤ 2000000000000000 ∧ ((y.den : Nat) : Int) ≤ 40000
theorem shift_loop {A B : List Rat} {x : Rat} {a b g : Int} (hl : A.length + B.length < 48) (hg : 0 < g) (hg2 : g < 9223372036854775808) (ha : 0 ≤ a) (ha2 : a < 9223372036854775808) (hb : 0 ≤ b) (hb2 : b < 9223372036854775808) (ex : a / g = x.num) (ed : b / g = ((x.den : Nat) : Int)) : ∀ (d i f : Nat), A.length + d = i → i ≤ A.length + B.length → d < f → ∀ w : eW, w.1 24 47 = Int32.ofInt (((A ++ B).length : Nat) : Int) → (∀ j y, j < i → (A ++ B)[j]? = some y → w.2 19 j = Int64.ofInt y.num ∧ w.2 20 j = Int64.ofInt ((y.den : Nat) : Int)) → (∀ j y, i ≤ j → (A ++ B)[j]? = some y → w.2 19 (j + 1) = Int64.ofInt y.num ∧ w.2 20 (j + 1) = Int64.ofInt ((y.den : Nat) : Int)) → Ok (f_mm_puts_L92 f (Int64.ofInt a) (Int64.ofInt b) (Int64.ofInt g) (Int32.ofInt (A.length : Nat)) (Int32.ofInt (i : Nat)) w) fun w' => Kb w w' ∧ BM w' (A ++ x :: B) := by
  have ng : ¬ (Int64.ofInt g = 0) := by rw [jlit0, jeq (by omega) (by omega) (by omega) (by omega)]; omega
  intro d
  induction d with
  | zero =>
    intro i f hi hil hf w h47 hlo hhi
    obtain ⟨f, rfl⟩ : ∃ g, f = g + 1 := ⟨f - 1, by omega⟩
    have : i = A.length := by omega
    subst this
    unfold f_mm_puts_L92
    rw [if_pos (by rw [ile (by omega) (by omega) (by omega) (by omega)]; omega), if_neg ng, eChk_of (by omega) (by omega) (by omega), if_neg ng, eChk_of (by omega) (by omega) (by omega), icl (by omega) (by omega), nat_i, jdiv ha ha2 hg hg2, jdiv hb hb2 hg hg2, ex, ed, h47, isucc]
    refine Ok.ret ⟨⟨fun i k e => by rw [u1n _ _ _ _ _ _ (by omega)]; rfl, fun i k e1 e2 => by rw [u1l, u2n _ _ _ _ _ _ (by omega), u2n _ _ _ _ _ _ (by omega)]⟩, by rw [u1s]; congr 1; simp only [List.length_append, List.length_cons]; omega, fun j y hj => ?_⟩
    rw [u1l]
    by_cases z : j < A.length
    · rw [List.getElem?_append_left z] at hj
      rw [u2n _ _ _ _ _ _ (by omega), u2n _ _ _ _ _ _ (by omega), u2n _ _ _ _ _ _ (by omega), u2n _ _ _ _ _ _ (by omega)]
      exact hlo j y z (by rw [List.getElem?_append_left z]; exact hj)
    · rw [List.getElem?_append_right (by omega)] at hj
      by_cases e : j = A.length
      · subst e
        simp at hj
        subst hj
        rw [u2n _ _ _ _ _ _ (by omega), u2s, u2s]
        exact ⟨rfl, rfl⟩
      · obtain ⟨q, rfl⟩ : ∃ q, j = q + 1 := ⟨j - 1, by omega⟩
        rw [show q + 1 - A.length = (q - A.length) + 1 by omega, List.getElem?_cons_succ] at hj
        rw [u2n _ _ _ _ _ _ (by omega), u2n _ _ _ _ _ _ (by omega), u2n _ _ _ _ _ _ (by omega), u2n _ _ _ _ _ _ (by omega)]
        exact hhi q y (by omega) (by rw [List.getElem?_append_right (by omega)]; exact hj)
  | succ d ih =>
    intro i f hi hil hf w h47 hlo hhi
    obtain ⟨f, rfl⟩ : ∃ g, f = g + 1 := ⟨f - 1, by omega⟩
    unfold f_mm_puts_L92
    rw [if_neg (by rw [ile (by omega) (by omega) (by omega) (by omega)]; omega), show (-1 : Int32) = Int32.ofInt (-1) from rfl, show (1 : Int32) = Int32.ofInt 1 from rfl, ← Int32.ofInt_sub, eChk_of (by omega) (by omega) (by omega), eChk_of (by omega) (by omega) (by omega), eChk_of (by omega) (by omega) (by omega), eChk_of (by omega) (by omega) (by omega), ← Int32.ofInt_add, icl (by omega) (by omega), icl (by omega) (by omega), nat_i, show ((i : Int) - 1).toNat = i - 1 by omega, show (i : Int) + -1 = ((i - 1 : Nat) : Int) by omega]
    have il : i - 1 < (A ++ B).length := by simp; omega
    have hx : (A ++ B)[i - 1]? = some (A ++ B)[i - 1] := List.getElem?_eq_getElem il
    have hv := hlo (i - 1) _ (by omega) hx
    have k1 : Kb w (eU2 (eU2 w 19 i (w.2 19 (i - 1))) 20 i (w.2 20 (i - 1))) := ⟨fun _ _ _ => rfl, fun j k e1 e2 => by rw [u2n _ _ _ _ _ _ (by omega), u2n _ _ _ _ _ _ (by omega)]⟩
    refine Ok.imp (ih (i - 1) f (by omega) (by omega) (by omega) _ h47 ?_ ?_) ?_
    · intro j y hj hy
      rw [u2n _ _ _ _ _ _ (by omega), u2n _ _ _ _ _ _ (by omega), u2n _ _ _ _ _ _ (by omega), u2n _ _ _ _ _ _ (by omega)]
      exact hlo j y (by omega) hy
    · intro j y hj hy
      by_cases e : j = i - 1
      · subst e
        rw [hx] at hy
        cases hy
        rw [show i - 1 + 1 = i by omega, u2n _ _ _ _ _ _ (by omega), u2s, u2s]
        exact hv
      · rw [u2n _ _ _ _ _ _ (by omega), u2n _ _ _ _ _ _ (by omega), u2n _ _ _ _ _ _ (by omega), u2n _ _ _ _ _ _ (by omega)]
        exact hhi j y (by omega) hy
    · rintro w' ⟨q1, q2⟩
      exact ⟨k1.tr q1, q2⟩
def Ins (L : List Rat) (x : Rat) (w w' : eW) : Prop := Kb w w' ∧ ∃ L', BM w' L' ∧ Rs L' ∧ (∀ y, y ∈ L' ↔ y ∈ L ∨ y = x) ∧ L'.length ≤ L.length + 1
theorem find_loop {x : Rat} {a b g : Int} (hx : (a : Rat) = x * (b : Rat)) (ha : 0 < a) (ha2 : a ≤ 2000000000000000) (hb : 0 < b) (hb2 : b ≤ 40000) (hg : 0 < g) (hg2 : g ≤ b) (ex : a / g = x.num) (ed : b / g = ((x.den : Nat) : Int)) : ∀ (B A : List Rat) (f : Nat), B.length < f → A.length + B.length < 48 → ∀ w : eW, BM w (A ++ B) → Rs (A ++ B) → (∀ y, y ∈ A ++ B → Bm y) → (∀ y, y ∈ A → y < x) → Ok (f_mm_puts_L17 f (Int64.ofInt a) (Int64.ofInt b) (Int64.ofInt g) (Int32.ofInt (A.length : Nat)) w) fun w' => Ins (A ++ B) x w w' := by
  have ins : ∀ (B A : List Rat), A.length + B.length < 48 → ∀ w : eW, BM w (A ++ B) → Rs (A ++ B) → (∀ y, y ∈ A → y < x) → (∀ y, y ∈ B → x < y) → Ok (f_mm_puts_L92 eFu (Int64.ofInt a) (Int64.ofInt b) (Int64.ofInt g) (Int32.ofInt (A.length : Nat)) (w.1 24 47) w) fun w' => Ins (A ++ B) x w w' := by
    intro B A hl w bm rs hA hB
    rw [bm.1]
    have e : (A ++ B).length = A.length + B.length := List.length_append
    rw [e]
    refine Ok.imp (shift_loop (A := A) (B := B) (x := x) hl hg (by omega) (by omega) (by omega) (by omega) (by omega) ex ed B.length (A.length + B.length) eFu rfl (Nat.le_refl _) (by rw [eFu_eq]; omega) w bm.1 (fun j y _ hy => bm.2 j y hy) (fun j y hj hy => by
      have := (List.getElem?_eq_some_iff.mp hy).1
      omega)) ?_
    rintro w' ⟨q1, q2⟩
    have rs2 := List.pairwise_append.mp rs
    refine ⟨q1, _, q2, ?_, fun y => ?_, by simp; omega⟩
    · rw [Rs, List.pairwise_append]
      refine ⟨rs2.1, List.pairwise_cons.mpr ⟨hB, rs2.2.1⟩, fun p hp q hq => ?_⟩
      rcases List.mem_cons.mp hq with z | z
      · rw [z]; exact hA p hp
      · exact rs2.2.2 p hp q z
    · rw [List.mem_append, List.mem_cons, List.mem_append]
      constructor
      · rintro (z | z | z)
        · exact .inl (.inl z)
        · exact .inr z
        · exact .inl (.inr z)
      · rintro ((z | z) | z)
        · exact .inl z
        · exact .inr (.inr z)
        · exact .inr (.inl z)
  intro B
  induction B with
  | nil =>
    intro A f hf hl w bm rs hb' hA
    obtain ⟨f, rfl⟩ : ∃ g, f = g + 1 := ⟨f - 1, by omega⟩
    unfold f_mm_puts_L17
    have c1 : w.1 24 47 ≤ Int32.ofInt (A.length : Nat) := by
      rw [bm.1]
      simp only [List.append_nil, List.length_nil] at *
      rw [ile (by omega) (by omega) (by omega) (by omega)]; omega
    rw [if_pos c1, if_pos c1]
    exact ins [] A hl w bm rs hA (by simp)
  | cons y B ih =>
    intro A f hf hl w bm rs hb' hA
    obtain ⟨f, rfl⟩ : ∃ g, f = g + 1 := ⟨f - 1, by omega⟩
    have hl' : A.length + (B.length + 1) < 48 := hl
    have hy : (A ++ y :: B)[A.length]? = some y := by rw [List.getElem?_append_right (Nat.le_refl _), Nat.sub_self, List.getElem?_cons_zero]
    obtain ⟨d1, d2⟩ := bm.2 _ _ hy
    have yb := hb' y (by simp)
    have y1 := num_pos.mpr yb.1
    have y2 := y.den_pos
    have c1 : ¬ (w.1 24 47 ≤ Int32.ofInt (A.length : Nat)) := by
      rw [bm.1, ile (by simp; omega) (by simp; omega) (by omega) (by omega)]; simp; omega
    have dp := mul_le4 (a := ((y.den : Nat) : Int)) (b := b) (A := 40000) (B := 40000) (by omega) (by omega) (by omega) (by omega)
    have ag := m_against (a := y.num) (b := ((y.den : Nat) : Int)) (c := a) (d := b) (by omega) (by omega) (by omega) (by omega) (by omega) (by omega) (by omega) (by omega) (by omega) w
    have sg := sgn_rat (show 0 < ((y.den : Nat) : Int) by omega) hb (qnd y) hx
    have rs2 := List.pairwise_append.mp rs
    have rs3 := List.pairwise_cons.mp rs2.2.1
    unfold f_mm_puts_L17
    rw [if_neg c1, eChk_of (by omega) (by omega) (by omega), eChk_of (by omega) (by omega) (by omega), icl (by omega) (by omega), nat_i, d1, d2, ag, obind]
    dsimp only
    rw [if_neg c1, d1, d2]
    generalize y.num * b - a * ((y.den : Nat) : Int) = zz at *
    by_cases g1 : zz < 0
    · rw [sgn_n g1, if_neg (by decide), isucc]
      have := ih (A ++ [y]) f (by rw [List.length_cons] at hf; omega) (by simp; omega) w (by rw [List.append_assoc]; exact bm) (by rw [List.append_assoc]; exact rs) (by rw [List.append_assoc]; exact hb') (fun z hz => by
        rcases List.mem_append.mp hz with h | h
        · exact hA z h
        · rw [List.mem_singleton.mp h]; exact sg.1.mp g1)
      rw [List.length_append, List.length_singleton, List.append_assoc] at this
      exact this
    · rw [if_pos (by unfold sgn; rw [if_neg g1]; split <;> decide), eChk_of (by omega) (by omega) (by omega), eChk_of (by omega) (by omega) (by omega), ag, obind]
      dsimp only
      by_cases g2 : zz = 0
      · have e := sg.2.mp g2
        rw [g2, show sgn 0 = 0 from rfl, if_neg (fun z => z rfl)]
        exact Ok.ret ⟨Kb.rfl, _, bm, rs, fun z => ⟨fun h => .inl h, fun h => by
          rcases h with h | h
          · exact h
          · rw [h, ← e]; simp⟩, by omega⟩
      · rw [sgn_p (by omega), if_pos (by decide)]
        have lt : x < y := by
          have n1 : ¬ y < x := fun t => g1 (sg.1.mpr t)
          have n2 : ¬ y = x := fun t => g2 (sg.2.mpr t)
          grind
        refine ins (y :: B) A hl w bm rs hA fun z hz => ?_
        rcases List.mem_cons.mp hz with h | h
        · rw [h]; exact lt
        · have := rs3.1 z h; grind
theorem m_puts {L : List Rat} {w : eW} (bm : BM w L) (rs : Rs L) (hb' : ∀ y, y ∈ L → Bm y) (hl : L.length < 48) {x : Rat} {a b : Int} (hx : (a : Rat) = x * (b : Rat)) (ha : 0 ≤ a) (ha2 : a ≤ 2000000000000000) (hb : 0 < b) (hb2 : b ≤ 40000) : Ok (f_mm_puts (Int64.ofInt a) (Int64.ofInt b) w) fun w' => Kb w w' ∧ ∃ L', BM w' L' ∧ Rs L' ∧ (∀ y, y ∈ L' ↔ y ∈ L ∨ (y = x ∧ 0 < x)) ∧ (∀ y, y ∈ L' → Bm y) ∧ L'.length ≤ L.length + 1 := by
  have xb := x_b ha hb hx
  unfold f_mm_puts
  simp only [lg_cmp_eq]
  refine Ok.iff (e := ¬ a = 0) (not_congr (by rw [jlit0, jeq (by omega) (by omega) (by omega) (by omega)])) (fun e => ?_) (fun e => ?_)
  · have q := q_low ha hb hx
    have x0 : 0 < x := by
      have := xb.2.2.2.2.1
      have : ¬ x = 0 := fun z => e (xb.2.2.2.2.2.mp z)
      grind
    rw [m_common ha (by omega) (by omega) (by omega), obind]
    refine Ok.imp (find_loop hx (by omega) ha2 hb hb2 (show 0 < ((Int.gcd a b : Nat) : Int) by omega) q.2.2.2 q.1 q.2.1 L [] eFu (by rw [eFu_eq]; omega) (by simpa using hl) w bm rs hb' (by simp)) ?_
    rintro w' ⟨q1, L', q2, q3, q4, q5⟩
    rw [List.nil_append] at *
    refine ⟨q1, L', q2, q3, fun y => ?_, fun y hy => ?_, q5⟩
    · rw [q4 y]
      constructor
      · rintro (z | z)
        · exact .inl z
        · exact .inr ⟨z, x0⟩
      · rintro (z | z)
        · exact .inl z
        · exact .inr z.1
    · rcases (q4 y).mp hy with z | z
      · exact hb' y z
      · rw [z]; exact ⟨x0, by omega, by omega⟩
  · have e0 : a = 0 := by omega
    have x0 := xb.2.2.2.2.2.mpr e0
    exact Ok.ret ⟨Kb.rfl, L, bm, rs, fun y => ⟨fun h => .inl h, fun h => by
      rcases h with h | h
      · exact h
      · rw [x0] at h; exact absurd h.2 Rat.lt_irrefl⟩, hb', by omega⟩
end
