/-! ===== worlds: what is left as it was ===== -/
def Fr (S : List Nat) (w w' : eW) : Prop := ∀ i, i ∉ S → w'.1 i = w.1 i ∧ w'.2 i = w.2 i
theorem Fr.rfl {S : List Nat} {w : eW} : Fr S w w := fun _ _ => ⟨Eq.refl _, Eq.refl _⟩
theorem Fr.trans {S T : List Nat} {a b c : eW} (h : Fr S a b) (k : Fr T b c) (hS : ∀ i, i ∈ T → i ∈ S) : Fr S a c := fun i hi => by
  have p := h i hi
  have q := k i (fun z => hi (hS i z))
  exact ⟨q.1.trans p.1, q.2.trans p.2⟩
theorem Fr.tr {S : List Nat} {a b c : eW} (h : Fr S a b) (k : Fr S b c) : Fr S a c := h.trans k fun _ z => z
theorem Fr.sub {S T : List Nat} {a b : eW} (h : Fr T a b) (hS : ∀ i, i ∈ T → i ∈ S) : Fr S a b := fun i hi => h i fun z => hi (hS i z)
theorem Fr.u1 {S : List Nat} {a b : eW} {i k : Nat} {x : Int32} (h : Fr S a b) (hi : i ∈ S) : Fr S a (eU1 b i k x) := fun j hj => by
  have p := h j hj
  have : j ≠ i := fun z => hj (z ▸ hi)
  refine ⟨?_, p.2⟩
  rw [← p.1]
  funext q
  simp only [eU1, if_neg this]
theorem Fr.u2 {S : List Nat} {a b : eW} {i k : Nat} {x : Int64} (h : Fr S a b) (hi : i ∈ S) : Fr S a (eU2 b i k x) := fun j hj => by
  have p := h j hj
  have : j ≠ i := fun z => hj (z ▸ hi)
  refine ⟨p.1, ?_⟩
  rw [← p.2]
  funext q
  simp only [eU2, if_neg this]
theorem u1s (w : eW) (i k : Nat) (x : Int32) : (eU1 w i k x).1 i k = x := by simp only [eU1, if_true]
theorem u1n (w : eW) (i k j l : Nat) (x : Int32) (h : j ≠ i ∨ l ≠ k) : (eU1 w i k x).1 j l = w.1 j l := by
  simp only [eU1]
  by_cases c : j = i
  · rw [if_pos c, if_neg (by omega)]
  · rw [if_neg c]
theorem u1l (w : eW) (i k : Nat) (x : Int32) : (eU1 w i k x).2 = w.2 := rfl
theorem u2s (w : eW) (i k : Nat) (x : Int64) : (eU2 w i k x).2 i k = x := by simp only [eU2, if_true]
theorem u2n (w : eW) (i k j l : Nat) (x : Int64) (h : j ≠ i ∨ l ≠ k) : (eU2 w i k x).2 j l = w.2 j l := by
  simp only [eU2]
  by_cases c : j = i
  · rw [if_pos c, if_neg (by omega)]
  · rw [if_neg c]
theorem u2l (w : eW) (i k : Nat) (x : Int64) : (eU2 w i k x).1 = w.1 := rfl
theorem CF.fr {c c' : eW} {n : Nat} {F : Nat → Nat → Int} {cv : Int} {wv : Int32} {S : List Nat} (h : CF c n F cv wv) (k : Fr S c c') (h7 : 7 ∉ S) (h8 : 8 ∉ S) : CF c' n F cv wv := by
  have a := (k 7 h7).1
  have b := (k 8 h8).1
  unfold CF at *
  rw [a, b]
  exact h
theorem nat_i (h : Nat) : ((h : Int)).toNat = h := Int.toNat_natCast h
/-! ===== the curves ===== -/
theorem cu_isLater {w : eW} {x y : Nat} {rx qx ry qy : Int} (hx : x < 24) (hy : y < 24) (e1 : w.1 15 x = Int32.ofInt rx) (e2 : w.1 16 x = Int32.ofInt qx) (e3 : w.1 15 y = Int32.ofInt ry) (e4 : w.1 16 y = Int32.ofInt qy) (b1 : 0 ≤ rx ∧ rx ≤ 198000) (b2 : 0 ≤ qx ∧ qx ≤ 400) (b3 : 0 ≤ ry ∧ ry ≤ 198000) (b4 : 0 ≤ qy ∧ qy ≤ 400) : f_cu_isLater (Int32.ofInt x) (Int32.ofInt y) w = some (b2i (decide (ry * qx < rx * qy)), w) := by
  have m1 := mul_le4 b1.1 b1.2 b4.1 b4.2
  have m2 := mul_le4 b3.1 b3.2 b2.1 b2.2
  unfold f_cu_isLater
  simp (disch := omega) only [eChk_of, icl, nat_i, e1, e2, e3, e4, i2j, ← Int64.ofInt_mul, lg_cmp_le, jle]
  by_cases h : ry * qx < rx * qy
  · rw [if_neg (by omega), decide_eq_true h]; rfl
  · rw [if_pos (by omega), decide_eq_false h]; rfl
abbrev Rq (r q : Int) : Prop := 0 ≤ r ∧ r ≤ 198000 ∧ 0 < q ∧ q ≤ 400
theorem addStep_loop {L : Nat} (hL : L < 24) {R Q : Nat → Int} {r q : Int} (hr : Rq r q) : ∀ (a f : Nat), a < f → a ≤ L → ∀ w : eW, w.1 19 7 = Int32.ofInt L → (∀ i, i < a → Rq (R i) (Q i) ∧ ∃ x, x < 24 ∧ w.1 13 i = Int32.ofInt (x : Nat) ∧ w.1 15 x = Int32.ofInt (R i) ∧ w.1 16 x = Int32.ofInt (Q i)) → w.1 15 L = Int32.ofInt r → w.1 16 L = Int32.ofInt q →
    Ok (f_cu_addStep_L79 f (Int32.ofInt a) w) fun w' => ∃ b, b ≤ a ∧ (∀ i, b ≤ i → i < a → r * Q i < R i * q) ∧ (0 < b → ¬ (r * Q (b - 1) < R (b - 1) * q)) ∧ w'.2 = w.2 ∧ (∀ i k, i ≠ 13 → ¬ (i = 19 ∧ k = 7) → w'.1 i k = w.1 i k) ∧ w'.1 19 7 = Int32.ofInt ((L + 1 : Nat) : Int) ∧ (∀ i, i < b → w'.1 13 i = w.1 13 i) ∧ w'.1 13 b = Int32.ofInt L ∧ (∀ i, b ≤ i → i < a → w'.1 13 (i + 1) = w.1 13 i) ∧ ∀ i, a < i → w'.1 13 i = w.1 13 i := by
  have fin : ∀ (a : Nat), a ≤ L → ∀ w : eW, w.1 19 7 = Int32.ofInt L → (0 < a → ¬ (r * Q (a - 1) < R (a - 1) * q)) → Ok (eChk (Int32.ofInt a) 24 (some (eU1 (eU1 w 13 (Int32.toNatClampNeg (Int32.ofInt a)) (w.1 19 7)) 19 7 ((w.1 19 7) + 1)))) fun w' => ∃ b, b ≤ a ∧ (∀ i, b ≤ i → i < a → r * Q i < R i * q) ∧ (0 < b → ¬ (r * Q (b - 1) < R (b - 1) * q)) ∧ w'.2 = w.2 ∧ (∀ i k, i ≠ 13 → ¬ (i = 19 ∧ k = 7) → w'.1 i k = w.1 i k) ∧ w'.1 19 7 = Int32.ofInt ((L + 1 : Nat) : Int) ∧ (∀ i, i < b → w'.1 13 i = w.1 13 i) ∧ w'.1 13 b = Int32.ofInt L ∧ (∀ i, b ≤ i → i < a → w'.1 13 (i + 1) = w.1 13 i) ∧ ∀ i, a < i → w'.1 13 i = w.1 13 i := by
    intro a ha w e h
    rw [eChk_of (by omega) (by omega) (by omega), icl (by omega) (by omega), nat_i, e]
    refine Ok.ret ⟨a, Nat.le_refl _, by omega, h, rfl, ?_, ?_, ?_, ?_, by omega, ?_⟩
    · intro i k h1 h2
      rw [u1n _ _ _ _ _ _ (by omega), u1n _ _ _ _ _ _ (by omega)]
    · rw [u1s]
      rw [show (1 : Int32) = Int32.ofInt 1 from rfl, ← Int32.ofInt_add]; rfl
    · intro i hi
      rw [u1n _ _ _ _ _ _ (by omega), u1n _ _ _ _ _ _ (by omega)]
    · rw [u1n _ _ _ _ _ _ (by omega), u1s]
    · intro i hi
      rw [u1n _ _ _ _ _ _ (by omega), u1n _ _ _ _ _ _ (by omega)]
  intro a
  induction a with
  | zero =>
    intro f hf ha w e hi h1 h2
    obtain ⟨f, rfl⟩ : ∃ g, f = g + 1 := ⟨f - 1, by omega⟩
    unfold f_cu_addStep_L79
    rw [if_pos (by simp (disch := omega) only [ilit, ile]; omega)]
    exact fin 0 (by omega) w e (by omega)
  | succ a ih =>
    intro f hf ha w e hi h1 h2
    obtain ⟨f, rfl⟩ : ∃ g, f = g + 1 := ⟨f - 1, by omega⟩
    unfold f_cu_addStep_L79
    obtain ⟨hq, x, x24, ex, e15, e16⟩ := hi a (by omega)
    rw [if_neg (by simp (disch := omega) only [ilit, ile]; omega), show Int32.ofInt ((a + 1 : Nat) : Int) - 1 = Int32.ofInt (a : Nat) by rw [show (1 : Int32) = Int32.ofInt 1 from rfl, ← Int32.ofInt_sub]; congr 1; omega, show Int32.ofInt ((a + 1 : Nat) : Int) + -1 = Int32.ofInt (a : Nat) by rw [show (-1 : Int32) = Int32.ofInt (-1) from rfl, ← Int32.ofInt_add]; congr 1; omega, eChk_of (by omega) (by omega) (by omega), icl (a := (a : Int)) (by omega) (by omega), nat_i, ex, e, cu_isLater x24 hL e15 e16 h1 h2 (by omega) (by omega) (by omega) (by omega), obind]
    simp only [b2i_0, decide_eq_false_iff_not]
    by_cases c : r * Q a < R a * q
    · rw [if_neg (fun z => z c), eChk_of (by omega) (by omega) (by omega), eChk_of (by omega) (by omega) (by omega), icl (by omega) (by omega), nat_i, ex]
      refine Ok.imp (ih f (by omega) (by omega) (eU1 w 13 (a + 1) (Int32.ofInt (x : Nat))) (by rw [u1n _ _ _ _ _ _ (by omega)]; exact e) ?_ (by rw [u1n _ _ _ _ _ _ (by omega)]; exact h1) (by rw [u1n _ _ _ _ _ _ (by omega)]; exact h2)) ?_
      · intro i hia
        obtain ⟨g1, y, g2, g3, g4, g5⟩ := hi i (by omega)
        exact ⟨g1, y, g2, by rw [u1n _ _ _ _ _ _ (by omega)]; exact g3, by rw [u1n _ _ _ _ _ _ (by omega)]; exact g4, by rw [u1n _ _ _ _ _ _ (by omega)]; exact g5⟩
      · rintro w' ⟨b, b1, b2, b3, b4, b5, b6, b7, b8, b9, b10⟩
        refine ⟨b, by omega, ?_, b3, b4, ?_, b6, ?_, b8, ?_, ?_⟩
        · intro i h3 h4
          by_cases z : i = a
          · subst z; exact c
          · exact b2 i h3 (by omega)
        · intro i k h3 h4
          rw [b5 i k h3 h4, u1n _ _ _ _ _ _ (by omega)]
        · intro i h3
          rw [b7 i h3, u1n _ _ _ _ _ _ (by omega)]
        · intro i h3 h4
          by_cases z : i = a
          · subst z
            rw [b10 (i + 1) (by omega), u1s, ex]
          · rw [b9 i h3 (by omega), u1n _ _ _ _ _ _ (by omega)]
        · intro i h3
          rw [b10 i (by omega), u1n _ _ _ _ _ _ (by omega)]
    · rw [if_pos c]
      exact fin (a + 1) (by omega) w e (fun _ => by rw [show a + 1 - 1 = a from rfl]; exact c)
theorem getD_in {l : List ZStp} {i : Nat} {d : ZStp} (h : i < l.length) : l.getD i d = l[i] := by simp [List.getD, h]
/-- the steps, in the order of their levels -/
def SV (w : eW) (ls : List ZStp) : Prop := w.1 19 7 = Int32.ofInt ((ls.length : Nat) : Int) ∧ ∀ i s, ls[i]? = some s → ∃ x : Nat, x < ls.length ∧ w.1 13 i = Int32.ofInt (x : Nat) ∧ w.1 14 x = Int32.ofInt (s.1 : Nat) ∧ w.1 15 x = Int32.ofInt s.2.1 ∧ w.1 16 x = Int32.ofInt s.2.2.1 ∧ w.2 17 x = Int64.ofInt s.2.2.2.1 ∧ w.2 18 x = Int64.ofInt s.2.2.2.2
theorem SV.fr {w w' : eW} {ls : List ZStp} {S : List Nat} (h : SV w ls) (k : Fr S w w') (hS : ∀ i, 13 ≤ i → i ≤ 19 → i ∉ S) : SV w' ls := by
  unfold SV at *
  rw [(k 13 (hS 13 (by omega) (by omega))).1, (k 14 (hS 14 (by omega) (by omega))).1, (k 15 (hS 15 (by omega) (by omega))).1, (k 16 (hS 16 (by omega) (by omega))).1, (k 19 (hS 19 (by omega) (by omega))).1, (k 17 (hS 17 (by omega) (by omega))).2, (k 18 (hS 18 (by omega) (by omega))).2]
  exact h
/-- cells of steps alone differ -/
def SFr (w w' : eW) : Prop := Fr [13, 14, 15, 16, 17, 18, 19] w w' ∧ w'.2 19 = w.2 19 ∧ ∀ k, k ≠ 7 → w'.1 19 k = w.1 19 k
theorem cu_addStep {w : eW} {ls : List ZStp} (hv : SV w ls) (hl : ls.length < 24) (hg : ∀ s, s ∈ ls → Rq s.2.1 s.2.2.1) {m : Nat} (hm : m < 12) (hc : w.1 19 0 = Int32.ofInt ((m + 1 : Nat) : Int)) {r q fb sb : Int} (hr : Rq r q) :
    Ok (f_cu_addStep (Int32.ofInt r) (Int32.ofInt q) (Int64.ofInt fb) (Int64.ofInt sb) w) fun w' => SFr w w' ∧ ∃ a b, ls = a ++ b ∧ SV w' (a ++ (m, r, q, fb, sb) :: b) ∧ (∀ s, s ∈ b → r * s.2.2.1 < s.2.1 * q) ∧ (∀ s, a.getLast? = some s → ¬ (r * s.2.2.1 < s.2.1 * q)) := by
  obtain ⟨e7, hv⟩ := hv
  unfold f_cu_addStep
  rw [e7, hc]
  rw [if_neg (by simp (disch := omega) only [ilit, ile]; omega), if_pos (by simp (disch := omega) only [ilit, ieq]; omega)]
  simp (disch := omega) only [eChk_of, icl, nat_i]
  have e1 : Int32.ofInt ((m + 1 : Nat) : Int) - 1 = Int32.ofInt (m : Nat) := by rw [show (1 : Int32) = Int32.ofInt 1 from rfl, ← Int32.ofInt_sub]; congr 1; omega
  rw [e1]
  generalize hw1 : eU2 (eU2 (eU1 (eU1 (eU1 w 14 ls.length (Int32.ofInt (m : Nat))) 15 ls.length (Int32.ofInt r)) 16 ls.length (Int32.ofInt q)) 17 ls.length (Int64.ofInt fb)) 18 ls.length (Int64.ofInt sb) = w1
  have r13 : w1.1 13 = w.1 13 := by rw [← hw1]; funext k; rw [u2l, u2l, u1n _ _ _ _ _ _ (by omega), u1n _ _ _ _ _ _ (by omega), u1n _ _ _ _ _ _ (by omega)]
  have r19 : w1.1 19 = w.1 19 := by rw [← hw1]; funext k; rw [u2l, u2l, u1n _ _ _ _ _ _ (by omega), u1n _ _ _ _ _ _ (by omega), u1n _ _ _ _ _ _ (by omega)]
  have r14 : ∀ k, k ≠ ls.length → w1.1 14 k = w.1 14 k ∧ w1.1 15 k = w.1 15 k ∧ w1.1 16 k = w.1 16 k ∧ w1.2 17 k = w.2 17 k ∧ w1.2 18 k = w.2 18 k := by
    intro k hk
    rw [← hw1]
    refine ⟨?_, ?_, ?_, ?_, ?_⟩
    · rw [u2l, u2l, u1n _ _ _ _ _ _ (by omega), u1n _ _ _ _ _ _ (by omega), u1n _ _ _ _ _ _ (by omega)]
    · rw [u2l, u2l, u1n _ _ _ _ _ _ (by omega), u1n _ _ _ _ _ _ (by omega), u1n _ _ _ _ _ _ (by omega)]
    · rw [u2l, u2l, u1n _ _ _ _ _ _ (by omega), u1n _ _ _ _ _ _ (by omega), u1n _ _ _ _ _ _ (by omega)]
    · rw [u2n _ _ _ _ _ _ (by omega), u2n _ _ _ _ _ _ (by omega)]; rfl
    · rw [u2n _ _ _ _ _ _ (by omega), u2n _ _ _ _ _ _ (by omega)]; rfl
  have n14 : w1.1 14 ls.length = Int32.ofInt (m : Nat) ∧ w1.1 15 ls.length = Int32.ofInt r ∧ w1.1 16 ls.length = Int32.ofInt q ∧ w1.2 17 ls.length = Int64.ofInt fb ∧ w1.2 18 ls.length = Int64.ofInt sb := by
    rw [← hw1]
    refine ⟨?_, ?_, ?_, ?_, ?_⟩
    · rw [u2l, u2l, u1n _ _ _ _ _ _ (by omega), u1n _ _ _ _ _ _ (by omega), u1s]
    · rw [u2l, u2l, u1n _ _ _ _ _ _ (by omega), u1s]
    · rw [u2l, u2l, u1s]
    · rw [u2n _ _ _ _ _ _ (by omega), u2s]
    · rw [u2s]
  have f1 : Fr [13, 14, 15, 16, 17, 18, 19] w w1 := by
    rw [← hw1]
    exact ((((Fr.rfl.u1 (by decide)).u1 (by decide)).u1 (by decide)).u2 (by decide)).u2 (by decide)
  have l19 : w1.2 19 = w.2 19 := by rw [← hw1]; funext k; rw [u2n _ _ _ _ _ _ (by omega), u2n _ _ _ _ _ _ (by omega)]; rfl
  clear hw1
  refine Ok.imp (addStep_loop (L := ls.length) hl (R := fun i => (ls.getD i (0, 0, 1, 0, 0)).2.1) (Q := fun i => (ls.getD i (0, 0, 1, 0, 0)).2.2.1) hr ls.length eFu (by rw [eFu_eq]; omega) (Nat.le_refl _) w1 (by rw [r19]; exact e7) ?_ n14.2.1 n14.2.2.1) ?_
  · intro i hi
    have hi' : ls[i]? = some ls[i] := List.getElem?_eq_getElem hi
    rw [getD_in hi]
    refine ⟨hg _ (List.getElem_mem hi), ?_⟩
    obtain ⟨x, x1, x2, x3, x4, x5, x6⟩ := hv i _ hi'
    exact ⟨x, by omega, by rw [r13]; exact x2, by rw [(r14 x (by omega)).2.1]; exact x4, by rw [(r14 x (by omega)).2.2.1]; exact x5⟩
  · rintro w' ⟨b, b1, b2, b3, b4, b5, b6, b7, b8, b9, b10⟩
    refine ⟨⟨?_, by rw [b4, l19], fun k hk => by rw [b5 19 k (by omega) (by omega), r19]⟩, ls.take b, ls.drop b, (List.take_append_drop b ls).symm, ⟨?_, ?_⟩, ?_, ?_⟩
    · refine f1.tr fun i hi => ⟨?_, by rw [b4]⟩
      funext k
      simp only [List.mem_cons, List.not_mem_nil, or_false, not_or] at hi
      exact b5 i k (by omega) (by omega)
    · rw [b6]
      congr 2
      rw [List.length_append, List.length_cons, List.length_take, List.length_drop]
      omega
    · have len : (List.take b ls ++ (m, r, q, fb, sb) :: List.drop b ls).length = ls.length + 1 := by
        rw [List.length_append, List.length_cons, List.length_take, List.length_drop]
        omega
      have keep : ∀ x, x < ls.length → w'.1 14 x = w.1 14 x ∧ w'.1 15 x = w.1 15 x ∧ w'.1 16 x = w.1 16 x ∧ w'.2 17 x = w.2 17 x ∧ w'.2 18 x = w.2 18 x := by
        intro x hx
        have := r14 x (by omega)
        rw [b5 14 x (by omega) (by omega), b5 15 x (by omega) (by omega), b5 16 x (by omega) (by omega), b4]
        exact this
      intro i s hi
      rw [len]
      rcases Nat.lt_trichotomy i b with c | c | c
      · rw [List.getElem?_append_left (by rw [List.length_take]; omega), List.getElem?_take_of_lt c] at hi
        obtain ⟨x, x1, x2, x3, x4, x5, x6, x7⟩ := hv i s hi
        have kk := keep x x1
        exact ⟨x, by omega, by rw [b7 i c, r13]; exact x2, by rw [kk.1]; exact x3, by rw [kk.2.1]; exact x4, by rw [kk.2.2.1]; exact x5, by rw [kk.2.2.2.1]; exact x6, by rw [kk.2.2.2.2]; exact x7⟩
      · subst c
        rw [List.getElem?_append_right (by rw [List.length_take]; omega), List.length_take, Nat.min_eq_left b1, Nat.sub_self, List.getElem?_cons_zero] at hi
        cases hi
        refine ⟨ls.length, by omega, b8, ?_, ?_, ?_, ?_, ?_⟩
        · rw [b5 14 _ (by omega) (by omega)]; exact n14.1
        · rw [b5 15 _ (by omega) (by omega)]; exact n14.2.1
        · rw [b5 16 _ (by omega) (by omega)]; exact n14.2.2.1
        · rw [b4]; exact n14.2.2.2.1
        · rw [b4]; exact n14.2.2.2.2
      · obtain ⟨j, rfl⟩ : ∃ j, i = j + 1 := ⟨i - 1, by omega⟩
        rw [List.getElem?_append_right (by rw [List.length_take]; omega), List.length_take, Nat.min_eq_left b1, show j + 1 - b = (j - b) + 1 by omega, List.getElem?_cons_succ, List.getElem?_drop, show b + (j - b) = j by omega] at hi
        have hj : j < ls.length := (List.getElem?_eq_some_iff.mp hi).1
        obtain ⟨x, x1, x2, x3, x4, x5, x6, x7⟩ := hv j s hi
        have kk := keep x x1
        exact ⟨x, by omega, by rw [b9 j (by omega) hj, r13]; exact x2, by rw [kk.1]; exact x3, by rw [kk.2.1]; exact x4, by rw [kk.2.2.1]; exact x5, by rw [kk.2.2.2.1]; exact x6, by rw [kk.2.2.2.2]; exact x7⟩
    · intro s h
      obtain ⟨i, hi, rfl⟩ := List.getElem_of_mem h
      rw [List.length_drop] at hi
      have := b2 (b + i) (by omega) (by omega)
      rw [getD_in (by omega)] at this
      rw [List.getElem_drop]
      exact this
    · intro s h
      rw [List.getLast?_eq_getElem?, List.length_take, Nat.min_eq_left b1] at h
      by_cases z : b = 0
      · subst z
        simp at h
      · rw [List.getElem?_take_of_lt (by omega)] at h
        have hj : b - 1 < ls.length := by omega
        rw [List.getElem?_eq_getElem hj] at h
        cases h
        have := b3 (by omega)
        rw [getD_in hj] at this
        exact this
theorem ins_ok {a b : List ZStp} {s : ZStp} (hp : (a ++ b).Pairwise (fun x y => sL x ≤ sL y)) (hb : ∀ x, x ∈ b → sL s < sL x) (ha : ∀ x, a.getLast? = some x → sL x ≤ sL s) : (a ++ s :: b).Pairwise (fun x y => sL x ≤ sL y) := by
  rw [List.pairwise_append] at hp ⊢
  obtain ⟨h1, h2, h3⟩ := hp
  have all : ∀ x, x ∈ a → sL x ≤ sL s := by
    rcases List.eq_nil_or_concat a with e | ⟨c, l, e⟩
    · rw [e]; simp
    · have hl := ha l (by rw [e]; simp)
      intro x hx
      rw [e] at h1 hx
      rw [List.concat_eq_append] at h1 hx
      rw [List.pairwise_append] at h1
      rcases List.mem_append.mp hx with hx | hx
      · have := h1.2.2 x hx l (by simp)
        grind
      · simp at hx
        rw [hx]; exact hl
  refine ⟨h1, List.pairwise_cons.mpr ⟨fun x hx => by have := hb x hx; grind, h2⟩, ?_⟩
  intro x hx y hy
  rcases List.mem_cons.mp hy with hy | hy
  · rw [hy]; exact all x hx
  · exact h3 x hx y hy
