/-! ===== what a function answers: some, with a property ===== -/
def Ok {α : Type} (x : Option α) (P : α → Prop) : Prop := ∃ a, x = some a ∧ P a
theorem Ok.ret {α : Type} {P : α → Prop} {a : α} (h : P a) : Ok (some a) P := ⟨a, rfl, h⟩
theorem Ok.imp {α : Type} {P Q : α → Prop} {x : Option α} (h : Ok x P) (k : ∀ a, P a → Q a) : Ok x Q := h.elim fun a ha => ⟨a, ha.1, k a ha.2⟩
theorem Ok.bind {α β : Type} {P : α → Prop} {Q : β → Prop} {x : Option α} {f : α → Option β} (h : Ok x P) (k : ∀ a, P a → Ok (f a) Q) : Ok (x.bind f) Q := by
  obtain ⟨a, rfl, h2⟩ := h
  exact k a h2
theorem Ok.br {α : Type} {P : α → Prop} {c : Prop} {d : Decidable c} {x y : Option α} (h1 : c → Ok x P) (h2 : ¬ c → Ok y P) : Ok (@ite _ c d x y) P := by
  by_cases h : c
  · rw [if_pos h]; exact h1 h
  · rw [if_neg h]; exact h2 h
theorem Ok.iff {α : Type} {P : α → Prop} {c e : Prop} {d : Decidable c} {x y : Option α} (he : c ↔ e) (h1 : e → Ok x P) (h2 : ¬ e → Ok y P) : Ok (@ite _ c d x y) P := Ok.br (fun h => h1 (he.mp h)) (fun h => h2 (fun z => h (he.mpr z)))
theorem Ok.pos {α : Type} {P : α → Prop} {c : Prop} {d : Decidable c} {x y : Option α} (hc : c) (h1 : Ok x P) : Ok (@ite _ c d x y) P := by rw [if_pos hc]; exact h1
theorem Ok.neg {α : Type} {P : α → Prop} {c : Prop} {d : Decidable c} {x y : Option α} (hc : ¬ c) (h1 : Ok y P) : Ok (@ite _ c d x y) P := by rw [if_neg hc]; exact h1
theorem Ok.chk {α : Type} {P : α → Prop} {a : Int} {n : Nat} {x : Option α} (h1 : 0 ≤ a) (h2 : a < n) (h3 : n ≤ 2147483648) (h : Ok x P) : Ok (eChk (Int32.ofInt a) n x) P := by rw [eChk_of h1 h2 h3]; exact h
theorem Ok.eq {α : Type} {P : α → Prop} {x : Option α} {a : α} (h : Ok x P) (hx : x = some a) : P a := by
  obtain ⟨b, h1, h2⟩ := h
  rw [hx] at h1
  cases h1
  exact h2
theorem ilit (n : Nat) : (OfNat.ofNat n : Int32) = Int32.ofInt (n : Int) := (Int32.ofInt_eq_ofNat (n := n)).symm
theorem jlit (n : Nat) : (OfNat.ofNat n : Int64) = Int64.ofInt (n : Int) := (Int64.ofInt_eq_ofNat (n := n)).symm
/-- the firm, told by numbers: n holders, F h k what is told of a holder (0 kind, 1 shares, 2 strike or price, 3 rank, 4 times, 5 ratio, 6 sharing, 7 cap, 8 rate, 9 years) -/
def cntK (F : Nat → Nat → Int) (k : Int) : Nat → Nat
  | 0 => 0
  | h + 1 => cntK F k h + (if F h 0 = k then 1 else 0)
abbrev HOK (F : Nat → Nat → Int) (h : Nat) : Prop := (F h 0 = 0 ∨ F h 0 = 1 ∨ F h 0 = 2) ∧ 1 ≤ F h 1 ∧ F h 1 ≤ 9999 ∧ (F h 0 = 0 → F h 2 = 0) ∧ (F h 0 = 1 → 1 ≤ F h 2 ∧ F h 2 ≤ 999) ∧ (F h 0 = 2 → 1 ≤ F h 2 ∧ F h 2 ≤ 99) ∧ (F h 0 ≠ 2 → F h 3 = 0 ∧ F h 4 = 100 ∧ F h 5 = 100 ∧ F h 6 = 0 ∧ F h 7 = -1 ∧ F h 8 = 0 ∧ F h 9 = 0) ∧ 0 ≤ F h 3 ∧ F h 3 ≤ 5 ∧ 0 ≤ F h 4 ∧ F h 4 ≤ 400 ∧ 1 ≤ F h 5 ∧ F h 5 ≤ 400 ∧ (F h 6 = 0 ∨ F h 6 = 1) ∧ -1 ≤ F h 7 ∧ F h 7 ≤ 2000 ∧ (F h 6 = 0 → F h 7 = -1) ∧ 0 ≤ F h 8 ∧ F h 8 ≤ 30 ∧ 0 ≤ F h 9 ∧ F h 9 ≤ 20
def FOK (n : Nat) (F : Nat → Nat → Int) (cv : Int) : Prop := n ≤ 12 ∧ 0 ≤ cv ∧ cv ≤ 50 ∧ cntK F 0 n ≤ 3 ∧ cntK F 1 n ≤ 3 ∧ cntK F 2 n ≤ 6 ∧ ∀ h, h < n → HOK F h
/-- the class holds the firm -/
def CF (c : eW) (n : Nat) (F : Nat → Nat → Int) (cv : Int) (wv : Int32) : Prop := c.1 8 0 = Int32.ofInt n ∧ c.1 8 1 = Int32.ofInt cv ∧ c.1 8 2 = wv ∧ ∀ h k, h < n → k < 10 → c.1 7 (h * 10 + k) = Int32.ofInt (F h k)
/-- the reference holds the firm -/
def MF (m : eW) (n : Nat) (F : Nat → Nat → Int) (cv : Int) (wv : Int32) : Prop := m.1 24 1 = Int32.ofInt n ∧ m.1 24 2 = Int32.ofInt cv ∧ m.1 24 16 = wv ∧ ∀ h, h < n → m.1 0 h = Int32.ofInt (F h 0) ∧ m.1 1 h = Int32.ofInt (F h 1) ∧ (F h 0 ≠ 0 → m.1 2 h = Int32.ofInt (F h 2)) ∧ (F h 0 = 2 → ∀ k, 3 ≤ k → k < 10 → m.1 k h = Int32.ofInt (F h k))
