/-! ===== the text: words and tokens ===== -/
section
/-- a word as a number -/
def cod : List Nat → Nat → Nat
  | [], a => a
  | b :: l, a => cod l (a * 32 + b)
theorem cod_app : ∀ (l k : List Nat) (a : Nat), cod (l ++ k) a = cod k (cod l a)
  | [], k, a => rfl
  | b :: l, k, a => by simp only [List.cons_append, cod]; exact cod_app l k _
/-- letters -/
abbrev Lt (l : List Nat) : Prop := ∀ b, b ∈ l → 1 ≤ b ∧ b ≤ 26
theorem cod_lt : ∀ {l : List Nat} {a : Nat}, Lt l → cod l a < (a + 1) * 32 ^ l.length
  | [], a, _ => by simp [cod]
  | b :: l, a, h => by
    have hb := h b (by simp)
    have ih := cod_lt (l := l) (a := a * 32 + b) fun x hx => h x (List.mem_cons_of_mem _ hx)
    simp only [cod, List.length_cons]
    have e : (a + 1) * 32 ^ (l.length + 1) = ((a + 1) * 32) * 32 ^ l.length := by rw [Nat.pow_succ]; grind
    rw [e]
    have : (a * 32 + b + 1) * 32 ^ l.length ≤ ((a + 1) * 32) * 32 ^ l.length := Nat.mul_le_mul_right _ (by omega)
    omega
theorem cod_snoc (l : List Nat) (b : Nat) : cod (l ++ [b]) 0 = cod l 0 * 32 + b := by rw [cod_app]; rfl
theorem cod_inj : ∀ {n : Nat} {l k : List Nat}, l.length ≤ n → Lt l → Lt k → cod l 0 = cod k 0 → l = k
  | 0, l, k, hn, hl, hk, e => by
    have : l = [] := List.length_eq_zero_iff.mp (by omega)
    subst this
    rcases List.eq_nil_or_concat k with z | ⟨k', b, z⟩
    · exact z.symm
    · exfalso
      rw [z] at e hk
      rw [List.concat_eq_append, cod_snoc] at e
      have := hk b (by simp)
      simp only [cod] at e
      omega
  | n + 1, l, k, hn, hl, hk, e => by
    rcases List.eq_nil_or_concat l with z | ⟨l', b, z⟩
    · subst z
      exact cod_inj (n := 0) (by simp) hl hk e
    · rcases List.eq_nil_or_concat k with y | ⟨k', d, y⟩
      · exfalso
        rw [z, y] at e
        rw [List.concat_eq_append, cod_snoc] at e
        have := hl b (by rw [z]; simp)
        simp only [cod] at e
        omega
      · rw [z, y] at e
        rw [List.concat_eq_append, List.concat_eq_append, cod_snoc, cod_snoc] at e
        have h1 := hl b (by rw [z]; simp)
        have h2 := hk d (by rw [y]; simp)
        have : b = d := by omega
        have e2 : cod l' 0 = cod k' 0 := by omega
        rw [z, y]
        rw [z, List.concat_eq_append, List.length_append] at hn
        rw [cod_inj (n := n) (by simp at hn; omega) (fun x hx => hl x (by rw [z]; simp [hx])) (fun x hx => hk x (by rw [y]; simp [hx])) e2, this]
/-- a word as both hold it -/
def WR (x : Int64) (a b : Int32) : Prop := ∃ ws : List Nat, Lt ws ∧ ws.length ≤ 7 ∧ x = Int64.ofInt ((cod ws 0 : Nat) : Int) ∧ a = Int32.ofInt ((cod (ws.take 5) 0 : Nat) : Int) ∧ b = Int32.ofInt ((cod (ws.drop 5) 0 : Nat) : Int)
theorem cod_b {ws : List Nat} {n : Nat} (h : Lt ws) (hn : ws.length ≤ n) : cod ws 0 < 32 ^ n := by
  have a := cod_lt (a := 0) h
  have b : 32 ^ ws.length ≤ 32 ^ n := Nat.pow_le_pow_right (by omega) hn
  omega
theorem Lt_take {ws : List Nat} {n : Nat} (h : Lt ws) : Lt (ws.take n) := fun b hb => h b (List.mem_of_mem_take hb)
theorem Lt_drop {ws : List Nat} {n : Nat} (h : Lt ws) : Lt (ws.drop n) := fun b hb => h b (List.mem_of_mem_drop hb)
theorem WR_eq {x y : Int64} {a b a' b' : Int32} (h : WR x a b) (k : WR y a' b') : (x = y) ↔ (a = a' ∧ b = b') := by
  obtain ⟨v, v1, v2, v3, v4, v5⟩ := h
  obtain ⟨w, w1, w2, w3, w4, w5⟩ := k
  have p7 : (32 : Nat) ^ 7 = 34359738368 := by decide
  have p5 : (32 : Nat) ^ 5 = 33554432 := by decide
  have b1 := cod_b v1 v2
  have b2 := cod_b w1 w2
  have t1 := cod_b (n := 5) (Lt_take (n := 5) v1) (by simp; omega)
  have t2 := cod_b (n := 5) (Lt_take (n := 5) w1) (by simp; omega)
  have d1 := cod_b (n := 5) (Lt_drop (n := 5) v1) (by simp; omega)
  have d2 := cod_b (n := 5) (Lt_drop (n := 5) w1) (by simp; omega)
  rw [v3, w3, v4, w4, v5, w5, jeq (by omega) (by omega) (by omega) (by omega), ieq (by omega) (by omega) (by omega) (by omega), ieq (by omega) (by omega) (by omega) (by omega)]
  constructor
  · intro e
    have := cod_inj (Nat.le_refl _) v1 w1 (by omega)
    rw [this]
    exact ⟨rfl, rfl⟩
  · rintro ⟨e1, e2⟩
    have q1 := cod_inj (Nat.le_refl _) (Lt_take v1) (Lt_take w1) (show cod (v.take 5) 0 = cod (w.take 5) 0 by omega)
    have q2 := cod_inj (Nat.le_refl _) (Lt_drop v1) (Lt_drop w1) (show cod (v.drop 5) 0 = cod (w.drop 5) 0 by omega)
    have : v = w := by rw [← List.take_append_drop 5 v, ← List.take_append_drop 5 w, q1, q2]
    rw [this]
/-- the kept words of both -/
def kwA : List Int32 := [3650991, 16273711, 3540595, 3197637, 52, 591307, 21279923, 18927919, 20186697, 3120, 26379852]
def kwB : List Int32 := [14, 14, 0, 0, 0, 0, 0, 0, 455, 0, 25]
def kwL : List (List Nat) := [[3, 15, 13, 13, 15, 14], [15, 16, 20, 9, 15, 14], [3, 12, 1, 19, 19], [3, 1, 18, 22, 5], [1, 20], [18, 1, 14, 11], [20, 9, 13, 5, 19], [18, 1, 20, 9, 15], [19, 8, 1, 18, 9, 14, 7], [3, 1, 16], [25, 5, 1, 18, 12, 25]]
theorem kw_ok : ∀ i : Fin 11, (∀ b, b ∈ kwL.getD i [] → 1 ≤ b ∧ b ≤ 26) ∧ (kwL.getD i []).length ≤ 7 ∧ (kst 65).2 i = Int64.ofInt ((cod (kwL.getD i []) 0 : Nat) : Int) ∧ kwA.getD i 0 = Int32.ofInt ((cod ((kwL.getD i []).take 5) 0 : Nat) : Int) ∧ kwB.getD i 0 = Int32.ofInt ((cod ((kwL.getD i []).drop 5) 0 : Nat) : Int) := by decide +kernel
theorem kw_WR {i : Nat} (h : i < 11) : WR ((kst 65).2 i) (kwA.getD i 0) (kwB.getD i 0) := by
  have := kw_ok ⟨i, h⟩
  exact ⟨_, this.1, this.2.1, this.2.2.1, this.2.2.2.1, this.2.2.2.2⟩
theorem kw_ne : ∀ i j : Fin 11, i ≠ j → (kst 65).2 i ≠ (kst 65).2 j := by decide +kernel
end
