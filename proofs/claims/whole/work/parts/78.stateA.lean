/-! ===== what both hold: the state, and those before it ===== -/
abbrev ZS : Type := (Nat → Nat → Int) × Int32 × Bool × (Nat → Int32) × Nat × (Nat → Int) × (Nat → Int)
/-- a good state: the firm, what is waived, whether a sale is closed, its fields, guesses -/
def SOK (n : Nat) (cv : Int) (s : ZS) : Prop := FOK n s.1 cv ∧ s.2.2.2.2.1 ≤ 8 ∧ (∀ i, i < s.2.2.2.2.1 → 0 ≤ s.2.2.2.2.2.1 i ∧ s.2.2.2.2.2.1 i ≤ 9999999 ∧ 1 ≤ s.2.2.2.2.2.2 i ∧ s.2.2.2.2.2.2 i ≤ 1000) ∧ (s.2.2.1 = true → ∃ he de : Int, s.2.2.2.1 2 = Int32.ofInt he ∧ s.2.2.2.1 3 = Int32.ofInt de ∧ 0 ≤ he ∧ 0 ≤ de ∧ he + de ≤ 9999999)
def CS (n : Nat) (cv : Int) (c : eW) (s : ZS) : Prop := CF c n s.1 cv s.2.1 ∧ c.1 32 0 = b2i s.2.2.1 ∧ (∀ k, 1 ≤ k → k ≤ 4 → c.1 32 k = s.2.2.2.1 k) ∧ c.1 35 2 = Int32.ofInt ((s.2.2.2.2.1 : Nat) : Int) ∧ ∀ i, i < s.2.2.2.2.1 → c.1 33 i = Int32.ofInt (s.2.2.2.2.2.1 i) ∧ c.1 34 i = Int32.ofInt (s.2.2.2.2.2.2 i)
def MS (n : Nat) (cv : Int) (m : eW) (s : ZS) : Prop := MF m n s.1 cv s.2.1 ∧ m.1 24 59 = b2i s.2.2.1 ∧ (∀ k, 1 ≤ k → k ≤ 4 → m.1 24 (54 + k) = s.2.2.2.1 k) ∧ m.1 24 54 = Int32.ofInt ((s.2.2.2.2.1 : Nat) : Int) ∧ ∀ i, i < s.2.2.2.2.1 → m.1 22 i = Int32.ofInt (s.2.2.2.2.2.1 i) ∧ m.1 23 i = Int32.ofInt (s.2.2.2.2.2.2 i)
/-- a row of the class: how the state before it comes back -/
def Dl (n : Nat) (c : eW) (p : Nat) (s t : ZS) : Prop :=
  (c.1 36 (p * 8) = 0 ∧ t.1 = s.1 ∧ t.2.1 = s.2.1 ∧ t.2.2.2.2 = s.2.2.2.2 ∧ c.1 36 (p * 8 + 3) = b2i t.2.2.1 ∧ ∀ k, 1 ≤ k → k ≤ 4 → c.1 36 (p * 8 + 3 + k) = t.2.2.2.1 k) ∨
  (c.1 36 (p * 8) = 1 ∧ t.1 = s.1 ∧ t.2.1 = s.2.1 ∧ t.2.2.1 = s.2.2.1 ∧ t.2.2.2.1 = s.2.2.2.1 ∧ t.2.2.2.2.1 + 1 = s.2.2.2.2.1 ∧ ∀ i, i < t.2.2.2.2.1 → t.2.2.2.2.2.1 i = s.2.2.2.2.2.1 i ∧ t.2.2.2.2.2.2 i = s.2.2.2.2.2.2 i) ∨
  (c.1 36 (p * 8) = 2 ∧ ∃ h : Nat, h < n ∧ c.1 36 (p * 8 + 1) = Int32.ofInt (h : Nat) ∧ c.1 36 (p * 8 + 2) = Int32.ofInt (t.1 h 1) ∧ t.1 = upf s.1 h 1 (t.1 h 1) ∧ t.2 = s.2) ∨
  (c.1 36 (p * 8) = 3 ∧ c.1 36 (p * 8 + 2) = t.2.1 ∧ t.1 = s.1 ∧ t.2.2 = s.2.2) ∨
  (c.1 36 (p * 8) = 4 ∧ ∃ h : Nat, h < n ∧ c.1 36 (p * 8 + 1) = Int32.ofInt (h : Nat) ∧ c.1 36 (p * 8 + 2) = Int32.ofInt (t.1 h 3) ∧ t.1 = upf s.1 h 3 (t.1 h 3) ∧ t.2 = s.2)
def Hs (n : Nat) (c : eW) : Nat → ZS → List ZS → Prop
  | _, _, [] => True
  | p, s, t :: l => Dl n c p s t ∧ Hs n c ((p + 11) % 12) t l
/-- a slot of the reference: the state as it was -/
def Sn (n : Nat) (m : eW) (p : Nat) (s : ZS) : Prop := (∀ h, h < n → m.1 21 (p + h) = Int32.ofInt (s.1 h 1) ∧ (s.1 h 0 = 2 → m.1 21 (p + 12 + h) = Int32.ofInt (s.1 h 3))) ∧ (∀ i, i < s.2.2.2.2.1 → m.1 21 (p + 24 + i) = Int32.ofInt (s.2.2.2.2.2.1 i) ∧ m.1 21 (p + 32 + i) = Int32.ofInt (s.2.2.2.2.2.2 i)) ∧ m.1 21 (p + 40) = Int32.ofInt ((s.2.2.2.2.1 : Nat) : Int) ∧ m.1 21 (p + 41) = s.2.1 ∧ m.1 21 (p + 42) = b2i s.2.2.1 ∧ ∀ k, 1 ≤ k → k ≤ 4 → m.1 21 (p + 42 + k) = s.2.2.2.1 k
/-- those before it are like it but for what acts change -/
def Li (n : Nat) (s t : ZS) : Prop := ∀ h k, h < n → k < 10 → k ≠ 1 → k ≠ 3 → t.1 h k = s.1 h k
def AR (n : Nat) (cv : Int) (c m : eW) (s : ZS) (l : List ZS) : Prop := l.length ≤ 12 ∧ (∀ t, t ∈ l → SOK n cv t ∧ Li n s t) ∧ c.1 37 2 = Int32.ofInt ((l.length : Nat) : Int) ∧ m.1 24 53 = Int32.ofInt ((l.length : Nat) : Int) ∧ (∃ p : Nat, p < 12 ∧ c.1 37 1 = Int32.ofInt (p : Nat) ∧ Hs n c p s l) ∧ ∀ j t, l[j]? = some t → Sn n m (48 * (l.length - 1 - j)) t
section
variable {n : Nat} {F : Nat → Nat → Int} {wv : Int32} {cv : Int} {c m : eW}
theorem Dl.cg {c' : eW} {p : Nat} {s t : ZS} (h : Dl n c p s t) (e : ∀ i, i < 8 → c'.1 36 (p * 8 + i) = c.1 36 (p * 8 + i)) : Dl n c' p s t := by
  have e0 := e 0 (by omega)
  rw [Nat.add_zero] at e0
  unfold Dl at *
  rw [e0, e 1 (by omega), e 2 (by omega), e 3 (by omega)]
  rcases h with h | h
  · left
    refine ⟨h.1, h.2.1, h.2.2.1, h.2.2.2.1, h.2.2.2.2.1, fun k k1 k2 => ?_⟩
    rw [show p * 8 + 3 + k = p * 8 + (3 + k) by omega, e (3 + k) (by omega), ← Nat.add_assoc]
    exact h.2.2.2.2.2 k k1 k2
  · exact .inr h
/-- rows that are kept -/
theorem Hs.cg {c' : eW} {q : Nat} : ∀ {l : List ZS} {p : Nat} {s : ZS}, p < 12 → q < 12 → (∀ d, d < l.length → (p + 12 - d) % 12 ≠ q) → l.length ≤ 12 → (∀ r i, r < 12 → r ≠ q → i < 8 → c'.1 36 (r * 8 + i) = c.1 36 (r * 8 + i)) → Hs n c p s l → Hs n c' p s l
  | [], _, _, _, _, _, _, _, _ => trivial
  | t :: l, p, s, hp, hq, hd, hl, e, h => by
    have d0 := hd 0 (by simp)
    refine ⟨h.1.cg fun i hi => e p i hp (by omega) hi, ?_⟩
    refine Hs.cg (l := l) (Nat.mod_lt _ (by omega)) hq (fun d hdl => ?_) (by rw [List.length_cons] at hl; omega) e h.2
    have := hd (d + 1) (by rw [List.length_cons]; omega)
    have hl' : l.length + 1 ≤ 12 := hl
    omega
theorem Hs_take : ∀ {l : List ZS} {p k : Nat} {s : ZS}, Hs n c p s l → Hs n c p s (l.take k)
  | [], _, _, _, _ => by simp [Hs]
  | t :: l, p, 0, s, _ => trivial
  | t :: l, p, k + 1, s, h => ⟨h.1, Hs_take h.2⟩
theorem Sn.cg {m' : eW} {p : Nat} {s : ZS} (h8 : s.2.2.2.2.1 ≤ 8) (hn : n ≤ 12) {q : Nat} (h : Sn n m p s) (e : ∀ i, i < 48 → m'.1 21 (q + i) = m.1 21 (p + i)) : Sn n m' q s := by
  obtain ⟨a, b, d, f, g, k⟩ := h
  refine ⟨fun h hh => ?_, fun i hi => ?_, by rw [e 40 (by omega)]; exact d, by rw [e 41 (by omega)]; exact f, by rw [e 42 (by omega)]; exact g, fun i i1 i2 => ?_⟩
  · rw [e h (by omega), Nat.add_assoc, e (12 + h) (by omega), ← Nat.add_assoc]; exact a h hh
  · rw [Nat.add_assoc, Nat.add_assoc, e (24 + i) (by omega), e (32 + i) (by omega), ← Nat.add_assoc, ← Nat.add_assoc]; exact b i hi
  · rw [Nat.add_assoc, e (42 + i) (by omega), ← Nat.add_assoc]; exact k i i1 i2
/-! the reference keeps -/
def Kk (w w' : eW) : Prop := w'.2 = w.2 ∧ (∀ i k, i ≠ 21 → ¬ (i = 24 ∧ k = 53) → w'.1 i k = w.1 i k)
theorem Kk.rfl {w : eW} : Kk w w := ⟨Eq.refl _, fun _ _ _ _ => Eq.refl _⟩
theorem Kk.tr {a b c : eW} (h : Kk a b) (k : Kk b c) : Kk a c := ⟨k.1.trans h.1, fun i j e f => (k.2 i j e f).trans (h.2 i j e f)⟩
theorem Kk.u {a b : eW} {k : Nat} {x : Int32} (h : Kk a b) : Kk a (eU1 b 21 k x) := ⟨h.1, fun i j e f => by rw [u1n _ _ _ _ _ _ (by omega)]; exact h.2 i j e f⟩
theorem MS.kk {m' : eW} {s : ZS} (h : MS n cv m s) (k : Kk m m') : MS n cv m' s := by
  obtain ⟨a, b, d, e, f⟩ := h
  refine ⟨?_, by rw [k.2 24 59 (by omega) (by omega)]; exact b, fun i i1 i2 => by rw [k.2 24 _ (by omega) (by omega)]; exact d i i1 i2, by rw [k.2 24 54 (by omega) (by omega)]; exact e, fun i hi => by rw [k.2 22 i (by omega) (by omega), k.2 23 i (by omega) (by omega)]; exact f i hi⟩
  unfold MF at *
  rw [k.2 24 1 (by omega) (by omega), k.2 24 2 (by omega) (by omega), k.2 24 16 (by omega) (by omega)]
  refine ⟨a.1, a.2.1, a.2.2.1, fun j hj => ?_⟩
  have g := a.2.2.2 j hj
  rw [k.2 0 j (by omega) (by omega), k.2 1 j (by omega) (by omega), k.2 2 j (by omega) (by omega)]
  refine ⟨g.1, g.2.1, g.2.2.1, fun h2 i h3 h4 => ?_⟩
  rw [k.2 i j (by omega) (by omega)]
  exact g.2.2.2 h2 i h3 h4
/-- all but one slot -/
def Ko (p : Nat) (w w' : eW) : Prop := ∀ i, ¬ (p ≤ i ∧ i < p + 48) → w'.1 21 i = w.1 21 i
theorem iadd {a b : Nat} : Int32.ofInt (a : Nat) + Int32.ofInt (b : Nat) = Int32.ofInt ((a + b : Nat) : Int) := by
  rw [← Int32.ofInt_add]; congr 1
theorem iadd' {a : Nat} (b : Nat) : Int32.ofInt (a : Nat) + (OfNat.ofNat b : Int32) = Int32.ofInt ((a + b : Nat) : Int) := by
  rw [ilit, ← Int32.ofInt_add]; congr 1
theorem keep_J {p : Nat} (hp : p + 48 ≤ 576) {a : Nat} (ha : m.1 24 53 = Int32.ofInt (a : Nat)) (f : Int32) : ∃ m', f_mm_keep_J197 (Int32.ofInt (p : Nat)) f (Int32.ofInt ((p + 42 : Nat) : Int)) m = some m' ∧ Kk m m' ∧ m'.1 24 53 = Int32.ofInt ((a + 1 : Nat) : Int) ∧ (∀ i, ¬ (p + 42 ≤ i ∧ i ≤ p + 46) → m'.1 21 i = m.1 21 i) ∧ m'.1 21 (p + 42) = f ∧ ∀ k, 1 ≤ k → k ≤ 4 → m'.1 21 (p + 42 + k) = m.1 24 (54 + k) := by
  unfold f_mm_keep_J197
  rw [iadd' 43, iadd' 44, iadd' 45, iadd' 46]
  rw [eChk_of (by omega) (by omega) (by omega), eChk_of (by omega) (by omega) (by omega), eChk_of (by omega) (by omega) (by omega), eChk_of (by omega) (by omega) (by omega), eChk_of (by omega) (by omega) (by omega)]
  simp only [icl (show -2147483648 ≤ ((p + 42 : Nat) : Int) by omega) (by omega), icl (show -2147483648 ≤ ((p + 43 : Nat) : Int) by omega) (by omega), icl (show -2147483648 ≤ ((p + 44 : Nat) : Int) by omega) (by omega), icl (show -2147483648 ≤ ((p + 45 : Nat) : Int) by omega) (by omega), icl (show -2147483648 ≤ ((p + 46 : Nat) : Int) by omega) (by omega), nat_i, ha, isucc]
  refine ⟨_, rfl, ⟨rfl, fun i k e1 e2 => ?_⟩, by rw [u1s], fun i hi => ?_, ?_, fun k k1 k2 => ?_⟩
  · rw [u1n _ _ _ _ _ _ (by omega), u1n _ _ _ _ _ _ (by omega), u1n _ _ _ _ _ _ (by omega), u1n _ _ _ _ _ _ (by omega), u1n _ _ _ _ _ _ (by omega), u1n _ _ _ _ _ _ (by omega)]
  · rw [u1n _ _ _ _ _ _ (by omega), u1n _ _ _ _ _ _ (by omega), u1n _ _ _ _ _ _ (by omega), u1n _ _ _ _ _ _ (by omega), u1n _ _ _ _ _ _ (by omega), u1n _ _ _ _ _ _ (by omega)]
  · rw [u1n _ _ _ _ _ _ (by omega), u1n _ _ _ _ _ _ (by omega), u1n _ _ _ _ _ _ (by omega), u1n _ _ _ _ _ _ (by omega), u1n _ _ _ _ _ _ (by omega), u1s]
  · rcases (show k = 1 ∨ k = 2 ∨ k = 3 ∨ k = 4 by omega) with rfl | rfl | rfl | rfl
    · rw [u1n _ _ _ _ _ _ (by omega), u1n _ _ _ _ _ _ (by omega), u1n _ _ _ _ _ _ (by omega), u1n _ _ _ _ _ _ (by omega), u1s]
    · rw [u1n _ _ _ _ _ _ (by omega), u1n _ _ _ _ _ _ (by omega), u1n _ _ _ _ _ _ (by omega), u1s]
    · rw [u1n _ _ _ _ _ _ (by omega), u1n _ _ _ _ _ _ (by omega), u1s]
    · rw [u1n _ _ _ _ _ _ (by omega), u1s]
theorem keep_L105 {p : Nat} (hp : p + 48 ≤ 576) {a : Nat} : ∀ (d k f : Nat), k + d = 8 → d < f → ∀ w : eW, w.1 24 53 = Int32.ofInt (a : Nat) → (∀ i, i < k → w.1 21 (p + 24 + i) = w.1 22 i ∧ w.1 21 (p + 32 + i) = w.1 23 i) → Ok (f_mm_keep_L105 f (Int32.ofInt (p : Nat)) (Int32.ofInt (k : Nat)) w) fun w' => Kk w w' ∧ w'.1 24 53 = Int32.ofInt ((a + 1 : Nat) : Int) ∧ (∀ i, ¬ (p + 24 ≤ i ∧ i < p + 48) → w'.1 21 i = w.1 21 i) ∧ (∀ i, i < 8 → w'.1 21 (p + 24 + i) = w.1 22 i ∧ w'.1 21 (p + 32 + i) = w.1 23 i) ∧ w'.1 21 (p + 40) = w.1 24 54 ∧ w'.1 21 (p + 41) = w.1 24 16 ∧ w'.1 21 (p + 42) = (if w.1 24 59 = 0 then 0 else 1) ∧ ∀ k, 1 ≤ k → k ≤ 4 → w'.1 21 (p + 42 + k) = w.1 24 (54 + k) := by
  intro d
  induction d with
  | zero =>
    intro k f hk hf w ha hw
    obtain ⟨f, rfl⟩ : ∃ g, f = g + 1 := ⟨f - 1, by omega⟩
    have : k = 8 := by omega
    subst this
    unfold f_mm_keep_L105
    rw [if_pos (by decide), iadd' 40, iadd' 41, iadd' 42, eChk_of (by omega) (by omega) (by omega), eChk_of (by omega) (by omega) (by omega)]
    simp only [icl (show -2147483648 ≤ ((p + 40 : Nat) : Int) by omega) (by omega), icl (show -2147483648 ≤ ((p + 41 : Nat) : Int) by omega) (by omega), nat_i]
    have k1 : Kk w (eU1 (eU1 w 21 (p + 40) (w.1 24 54)) 21 (p + 41) (w.1 24 16)) := Kk.rfl.u.u
    have fin : ∀ x : Int32, x = (if w.1 24 59 = 0 then 0 else 1) → Ok (f_mm_keep_J197 (Int32.ofInt (p : Nat)) x (Int32.ofInt ((p + 42 : Nat) : Int)) (eU1 (eU1 w 21 (p + 40) (w.1 24 54)) 21 (p + 41) (w.1 24 16))) fun w' => Kk w w' ∧ w'.1 24 53 = Int32.ofInt ((a + 1 : Nat) : Int) ∧ (∀ i, ¬ (p + 24 ≤ i ∧ i < p + 48) → w'.1 21 i = w.1 21 i) ∧ (∀ i, i < 8 → w'.1 21 (p + 24 + i) = w.1 22 i ∧ w'.1 21 (p + 32 + i) = w.1 23 i) ∧ w'.1 21 (p + 40) = w.1 24 54 ∧ w'.1 21 (p + 41) = w.1 24 16 ∧ w'.1 21 (p + 42) = (if w.1 24 59 = 0 then 0 else 1) ∧ ∀ k, 1 ≤ k → k ≤ 4 → w'.1 21 (p + 42 + k) = w.1 24 (54 + k) := fun x hx => by
      obtain ⟨m', e1, e2, e3, e4, e5, e6⟩ := keep_J (m := eU1 (eU1 w 21 (p + 40) (w.1 24 54)) 21 (p + 41) (w.1 24 16)) hp (a := a) (by rw [u1n _ _ _ _ _ _ (by omega), u1n _ _ _ _ _ _ (by omega)]; exact ha) x
      refine ⟨m', e1, k1.tr e2, e3, fun i hi => ?_, fun i hi => ?_, ?_, ?_, by rw [e5, hx], fun k k1 k2 => ?_⟩
      · rw [e4 i (by omega), u1n _ _ _ _ _ _ (by omega), u1n _ _ _ _ _ _ (by omega)]
      · rw [e4 _ (by omega), e4 _ (by omega), u1n _ _ _ _ _ _ (by omega), u1n _ _ _ _ _ _ (by omega), u1n _ _ _ _ _ _ (by omega), u1n _ _ _ _ _ _ (by omega)]; exact hw i hi
      · rw [e4 _ (by omega), u1n _ _ _ _ _ _ (by omega), u1s]
      · rw [e4 _ (by omega), u1s]
      · rw [e6 k k1 k2, u1n _ _ _ _ _ _ (by omega), u1n _ _ _ _ _ _ (by omega)]
    refine Ok.br (fun g => fin 0 (by rw [if_pos g])) (fun g => fin 1 (by rw [if_neg g]))
  | succ d ih =>
    intro k f hk hf w ha hw
    obtain ⟨f, rfl⟩ : ∃ g, f = g + 1 := ⟨f - 1, by omega⟩
    unfold f_mm_keep_L105
    rw [if_neg (by rw [show (8 : Int32) = Int32.ofInt 8 from rfl, ile (by omega) (by omega) (by omega) (by omega)]; omega), iadd' 24, iadd' 32, iadd, iadd, eChk_of (by omega) (by omega) (by omega), eChk_of (by omega) (by omega) (by omega), eChk_of (by omega) (by omega) (by omega), eChk_of (by omega) (by omega) (by omega)]
    simp only [icl (show -2147483648 ≤ ((p + 24 + k : Nat) : Int) by omega) (by omega), icl (show -2147483648 ≤ ((p + 32 + k : Nat) : Int) by omega) (by omega), icl (show -2147483648 ≤ ((k : Nat) : Int) by omega) (by omega), nat_i, isucc]
    have k1 : Kk w (eU1 (eU1 w 21 (p + 24 + k) (w.1 22 k)) 21 (p + 32 + k) (w.1 23 k)) := Kk.rfl.u.u
    refine Ok.imp (ih (k + 1) f (by omega) (by omega) _ (by rw [u1n _ _ _ _ _ _ (by omega), u1n _ _ _ _ _ _ (by omega)]; exact ha) fun i hi => ?_) ?_
    · rw [k1.2 22 i (by omega) (by omega), k1.2 23 i (by omega) (by omega)]
      by_cases z : i = k
      · subst z
        rw [u1n _ _ _ _ _ _ (by omega), u1s, u1s]
        exact ⟨rfl, rfl⟩
      · rw [u1n _ _ _ _ _ _ (by omega), u1n _ _ _ _ _ _ (by omega), u1n _ _ _ _ _ _ (by omega), u1n _ _ _ _ _ _ (by omega)]
        exact hw i (by omega)
    · rintro w' ⟨q1, q2, q3, q4, q5, q6, q7, q8⟩
      refine ⟨k1.tr q1, q2, fun i hi => ?_, fun i hi => ?_, ?_, ?_, ?_, fun k k1' k2 => ?_⟩
      · rw [q3 i hi, u1n _ _ _ _ _ _ (by omega), u1n _ _ _ _ _ _ (by omega)]
      · have := q4 i hi
        rw [k1.2 22 i (by omega) (by omega), k1.2 23 i (by omega) (by omega)] at this
        exact this
      · rw [q5, k1.2 24 54 (by omega) (by omega)]
      · rw [q6, k1.2 24 16 (by omega) (by omega)]
      · rw [q7, k1.2 24 59 (by omega) (by omega)]
      · rw [q8 k k1' k2, k1.2 24 _ (by omega) (by omega)]
theorem keep_L60 {p : Nat} (hp : p + 48 ≤ 576) {a : Nat} : ∀ (d k f : Nat), k + d = 12 → d < f → ∀ w : eW, w.1 24 53 = Int32.ofInt (a : Nat) → (∀ i, i < k → w.1 21 (p + i) = w.1 1 i ∧ w.1 21 (p + 12 + i) = w.1 3 i) → Ok (f_mm_keep_L60 f (Int32.ofInt (p : Nat)) (Int32.ofInt (k : Nat)) w) fun w' => Kk w w' ∧ w'.1 24 53 = Int32.ofInt ((a + 1 : Nat) : Int) ∧ Ko p w w' ∧ (∀ i, i < 12 → w'.1 21 (p + i) = w.1 1 i ∧ w'.1 21 (p + 12 + i) = w.1 3 i) ∧ (∀ i, i < 8 → w'.1 21 (p + 24 + i) = w.1 22 i ∧ w'.1 21 (p + 32 + i) = w.1 23 i) ∧ w'.1 21 (p + 40) = w.1 24 54 ∧ w'.1 21 (p + 41) = w.1 24 16 ∧ w'.1 21 (p + 42) = (if w.1 24 59 = 0 then 0 else 1) ∧ ∀ k, 1 ≤ k → k ≤ 4 → w'.1 21 (p + 42 + k) = w.1 24 (54 + k) := by
  intro d
  induction d with
  | zero =>
    intro k f hk hf w ha hw
    obtain ⟨f, rfl⟩ : ∃ g, f = g + 1 := ⟨f - 1, by omega⟩
    have : k = 12 := by omega
    subst this
    unfold f_mm_keep_L60
    rw [if_pos (by decide)]
    refine Ok.imp (keep_L105 hp 8 0 eFu (by omega) (by rw [eFu_eq]; omega) w ha (by omega)) ?_
    rintro w' ⟨q1, q2, q3, q4, q5⟩
    exact ⟨q1, q2, fun i hi => q3 i (by omega), fun i hi => by rw [q3 _ (by omega), q3 _ (by omega)]; exact hw i hi, q4, q5⟩
  | succ d ih =>
    intro k f hk hf w ha hw
    obtain ⟨f, rfl⟩ : ∃ g, f = g + 1 := ⟨f - 1, by omega⟩
    unfold f_mm_keep_L60
    rw [if_neg (by rw [show (12 : Int32) = Int32.ofInt 12 from rfl, ile (by omega) (by omega) (by omega) (by omega)]; omega), iadd' 12, iadd, iadd, eChk_of (by omega) (by omega) (by omega), eChk_of (by omega) (by omega) (by omega), eChk_of (by omega) (by omega) (by omega), eChk_of (by omega) (by omega) (by omega)]
    simp only [icl (show -2147483648 ≤ ((p + k : Nat) : Int) by omega) (by omega), icl (show -2147483648 ≤ ((p + 12 + k : Nat) : Int) by omega) (by omega), icl (show -2147483648 ≤ ((k : Nat) : Int) by omega) (by omega), nat_i, isucc]
    have k1 : Kk w (eU1 (eU1 w 21 (p + k) (w.1 1 k)) 21 (p + 12 + k) (w.1 3 k)) := Kk.rfl.u.u
    refine Ok.imp (ih (k + 1) f (by omega) (by omega) _ (by rw [u1n _ _ _ _ _ _ (by omega), u1n _ _ _ _ _ _ (by omega)]; exact ha) fun i hi => ?_) ?_
    · rw [k1.2 1 i (by omega) (by omega), k1.2 3 i (by omega) (by omega)]
      by_cases z : i = k
      · subst z
        rw [u1n _ _ _ _ _ _ (by omega), u1s, u1s]
        exact ⟨rfl, rfl⟩
      · rw [u1n _ _ _ _ _ _ (by omega), u1n _ _ _ _ _ _ (by omega), u1n _ _ _ _ _ _ (by omega), u1n _ _ _ _ _ _ (by omega)]
        exact hw i (by omega)
    · rintro w' ⟨q1, q2, q3, q4, q5, q6, q7, q8, q9⟩
      refine ⟨k1.tr q1, q2, fun i hi => ?_, fun i hi => ?_, fun i hi => ?_, ?_, ?_, ?_, fun k k1' k2 => ?_⟩
      · rw [q3 i hi, u1n _ _ _ _ _ _ (by omega), u1n _ _ _ _ _ _ (by omega)]
      · have := q4 i hi
        rw [k1.2 1 i (by omega) (by omega), k1.2 3 i (by omega) (by omega)] at this
        exact this
      · have := q5 i hi
        rw [k1.2 22 i (by omega) (by omega), k1.2 23 i (by omega) (by omega)] at this
        exact this
      · rw [q6, k1.2 24 54 (by omega) (by omega)]
      · rw [q7, k1.2 24 16 (by omega) (by omega)]
      · rw [q8, k1.2 24 59 (by omega) (by omega)]
      · rw [q9 k k1' k2, k1.2 24 _ (by omega) (by omega)]
/-- the slot as it is laid is the state's -/
theorem keep_Sn {s : ZS} (hs : SOK n cv s) {w w' : eW} (hM : MS n cv w s) {p : Nat} (h1 : ∀ i, i < 12 → w'.1 21 (p + i) = w.1 1 i ∧ w'.1 21 (p + 12 + i) = w.1 3 i) (h2 : ∀ i, i < 8 → w'.1 21 (p + 24 + i) = w.1 22 i ∧ w'.1 21 (p + 32 + i) = w.1 23 i) (h3 : w'.1 21 (p + 40) = w.1 24 54) (h4 : w'.1 21 (p + 41) = w.1 24 16) (h5 : w'.1 21 (p + 42) = (if w.1 24 59 = 0 then 0 else 1)) (h6 : ∀ k, 1 ≤ k → k ≤ 4 → w'.1 21 (p + 42 + k) = w.1 24 (54 + k)) : Sn n w' p s := by
  obtain ⟨a, b, d, e, f⟩ := hM
  have hn := hs.1.1
  have g8 := hs.2.1
  refine ⟨fun h hh => ⟨by rw [(h1 h (by omega)).1]; exact (a.2.2.2 h hh).2.1, fun h2 => by rw [(h1 h (by omega)).2]; exact (a.2.2.2 h hh).2.2.2 h2 3 (by omega) (by omega)⟩, fun i hi => by rw [(h2 i (by omega)).1, (h2 i (by omega)).2]; exact f i hi, by rw [h3]; exact e, by rw [h4]; exact a.2.2.1, ?_, fun k k1 k2 => by rw [h6 k k1 k2]; exact d k k1 k2⟩
  rw [h5, b]
  cases s.2.2.1 <;> decide
end
