section
variable {n : Nat} {cv : Int} {c m : eW} {s : ZS} {l : List ZS}
/-! the reference goes back -/
def Ku (w w' : eW) : Prop := w'.2 = w.2 ∧ ∀ i k, i ≠ 1 → i ≠ 3 → i ≠ 22 → i ≠ 23 → ¬ (i = 24 ∧ (k = 16 ∨ (54 ≤ k ∧ k ≤ 59))) → w'.1 i k = w.1 i k
theorem Ku.tr {a b c : eW} (h : Ku a b) (k : Ku b c) : Ku a c := ⟨k.1.trans h.1, fun i j h1 h2 h3 h4 h5 => (k.2 i j h1 h2 h3 h4 h5).trans (h.2 i j h1 h2 h3 h4 h5)⟩
theorem undo_L79 {p : Nat} (hp : p + 48 ≤ 576) {b : Bool} : ∀ (d k f : Nat), k + d = 8 → d < f → ∀ w : eW, w.1 21 (p + 42) = b2i b → (∀ i, i < k → w.1 22 i = w.1 21 (p + 24 + i) ∧ w.1 23 i = w.1 21 (p + 32 + i)) → ∃ w', f_mm_undo_L79 f (Int32.ofInt (p : Nat)) (Int32.ofInt (k : Nat)) w = some (1, w') ∧ Ku w w' ∧ w'.1 1 = w.1 1 ∧ w'.1 3 = w.1 3 ∧ (∀ i, i < 8 → w'.1 22 i = w.1 21 (p + 24 + i) ∧ w'.1 23 i = w.1 21 (p + 32 + i)) ∧ w'.1 24 54 = w.1 21 (p + 40) ∧ w'.1 24 16 = w.1 21 (p + 41) ∧ w'.1 24 59 = b2i b ∧ ∀ k, 1 ≤ k → k ≤ 4 → w'.1 24 (54 + k) = w.1 21 (p + 42 + k) := by
  intro d
  induction d with
  | zero =>
    intro k f hk hf w hb hw
    obtain ⟨f, rfl⟩ : ∃ g, f = g + 1 := ⟨f - 1, by omega⟩
    have : k = 8 := by omega
    subst this
    unfold f_mm_undo_L79
    rw [if_pos (by decide), iadd' 40, iadd' 41, iadd' 42, eChk_of (by omega) (by omega) (by omega), eChk_of (by omega) (by omega) (by omega), eChk_of (by omega) (by omega) (by omega)]
    simp only [icl (show -2147483648 ≤ ((p + 40 : Nat) : Int) by omega) (by omega), icl (show -2147483648 ≤ ((p + 41 : Nat) : Int) by omega) (by omega), icl (show -2147483648 ≤ ((p + 42 : Nat) : Int) by omega) (by omega), nat_i, hb]
    have key : ∀ x : Int32, x = b2i b → ∃ w', f_mm_undo_J170 (Int32.ofInt (p : Nat)) x (eU1 (eU1 w 24 54 (w.1 21 (p + 40))) 24 16 (w.1 21 (p + 41))) = some (1, w') ∧ Ku w w' ∧ w'.1 1 = w.1 1 ∧ w'.1 3 = w.1 3 ∧ (∀ i, i < 8 → w'.1 22 i = w.1 21 (p + 24 + i) ∧ w'.1 23 i = w.1 21 (p + 32 + i)) ∧ w'.1 24 54 = w.1 21 (p + 40) ∧ w'.1 24 16 = w.1 21 (p + 41) ∧ w'.1 24 59 = b2i b ∧ ∀ k, 1 ≤ k → k ≤ 4 → w'.1 24 (54 + k) = w.1 21 (p + 42 + k) := fun x hx => by
      unfold f_mm_undo_J170
      rw [if_pos (by rw [hx]; exact b2i_01 b), iadd' 43, iadd' 44, iadd' 45, iadd' 46, eChk_of (by omega) (by omega) (by omega), eChk_of (by omega) (by omega) (by omega), eChk_of (by omega) (by omega) (by omega), eChk_of (by omega) (by omega) (by omega)]
      simp only [icl (show -2147483648 ≤ ((p + 43 : Nat) : Int) by omega) (by omega), icl (show -2147483648 ≤ ((p + 44 : Nat) : Int) by omega) (by omega), icl (show -2147483648 ≤ ((p + 45 : Nat) : Int) by omega) (by omega), icl (show -2147483648 ≤ ((p + 46 : Nat) : Int) by omega) (by omega), nat_i]
      refine ⟨_, rfl, ⟨rfl, fun i k h1 h2 h3 h4 h5 => ?_⟩, ?_, ?_, fun i hi => ?_, ?_, ?_, ?_, fun k k1 k2 => ?_⟩
      · rw [u1n _ _ _ _ _ _ (by omega), u1n _ _ _ _ _ _ (by omega), u1n _ _ _ _ _ _ (by omega), u1n _ _ _ _ _ _ (by omega), u1n _ _ _ _ _ _ (by omega), u1n _ _ _ _ _ _ (by omega), u1n _ _ _ _ _ _ (by omega)]
      · funext j; rw [u1n _ _ _ _ _ _ (by omega), u1n _ _ _ _ _ _ (by omega), u1n _ _ _ _ _ _ (by omega), u1n _ _ _ _ _ _ (by omega), u1n _ _ _ _ _ _ (by omega), u1n _ _ _ _ _ _ (by omega), u1n _ _ _ _ _ _ (by omega)]
      · funext j; rw [u1n _ _ _ _ _ _ (by omega), u1n _ _ _ _ _ _ (by omega), u1n _ _ _ _ _ _ (by omega), u1n _ _ _ _ _ _ (by omega), u1n _ _ _ _ _ _ (by omega), u1n _ _ _ _ _ _ (by omega), u1n _ _ _ _ _ _ (by omega)]
      · have a1 : ∀ j q, j = 22 ∨ j = 23 → (eU1 (eU1 (eU1 (eU1 (eU1 (eU1 (eU1 w 24 54 (w.1 21 (p + 40))) 24 16 (w.1 21 (p + 41))) 24 59 x) 24 55 ((eU1 (eU1 w 24 54 (w.1 21 (p + 40))) 24 16 (w.1 21 (p + 41))).1 21 (p + 43))) 24 56 ((eU1 (eU1 w 24 54 (w.1 21 (p + 40))) 24 16 (w.1 21 (p + 41))).1 21 (p + 44))) 24 57 ((eU1 (eU1 w 24 54 (w.1 21 (p + 40))) 24 16 (w.1 21 (p + 41))).1 21 (p + 45))) 24 58 ((eU1 (eU1 w 24 54 (w.1 21 (p + 40))) 24 16 (w.1 21 (p + 41))).1 21 (p + 46))).1 j q = w.1 j q := fun j q hj => by
          rw [u1n _ _ _ _ _ _ (by omega), u1n _ _ _ _ _ _ (by omega), u1n _ _ _ _ _ _ (by omega), u1n _ _ _ _ _ _ (by omega), u1n _ _ _ _ _ _ (by omega), u1n _ _ _ _ _ _ (by omega), u1n _ _ _ _ _ _ (by omega)]
        rw [a1 22 i (.inl rfl), a1 23 i (.inr rfl)]
        exact hw i hi
      · rw [u1n _ _ _ _ _ _ (by omega), u1n _ _ _ _ _ _ (by omega), u1n _ _ _ _ _ _ (by omega), u1n _ _ _ _ _ _ (by omega), u1n _ _ _ _ _ _ (by omega), u1n _ _ _ _ _ _ (by omega), u1s]
      · rw [u1n _ _ _ _ _ _ (by omega), u1n _ _ _ _ _ _ (by omega), u1n _ _ _ _ _ _ (by omega), u1n _ _ _ _ _ _ (by omega), u1n _ _ _ _ _ _ (by omega), u1s]
      · rw [u1n _ _ _ _ _ _ (by omega), u1n _ _ _ _ _ _ (by omega), u1n _ _ _ _ _ _ (by omega), u1n _ _ _ _ _ _ (by omega), u1s]; exact hx
      · have b21 : ∀ q, (eU1 (eU1 w 24 54 (w.1 21 (p + 40))) 24 16 (w.1 21 (p + 41))).1 21 q = w.1 21 q := fun q => by rw [u1n _ _ _ _ _ _ (by omega), u1n _ _ _ _ _ _ (by omega)]
        rcases (show k = 1 ∨ k = 2 ∨ k = 3 ∨ k = 4 by omega) with rfl | rfl | rfl | rfl
        · rw [u1n _ _ _ _ _ _ (by omega), u1n _ _ _ _ _ _ (by omega), u1n _ _ _ _ _ _ (by omega), u1s, b21]
        · rw [u1n _ _ _ _ _ _ (by omega), u1n _ _ _ _ _ _ (by omega), u1s, b21]
        · rw [u1n _ _ _ _ _ _ (by omega), u1s, b21]
        · rw [u1s, b21]
    cases b
    · rw [if_pos (by decide)]; exact key 0 rfl
    · rw [if_neg (by decide)]; exact key 1 rfl
  | succ d ih =>
    intro k f hk hf w hb hw
    obtain ⟨f, rfl⟩ : ∃ g, f = g + 1 := ⟨f - 1, by omega⟩
    unfold f_mm_undo_L79
    rw [if_neg (by rw [show (8 : Int32) = Int32.ofInt 8 from rfl, ile (by omega) (by omega) (by omega) (by omega)]; omega), iadd' 24, iadd' 32, iadd, iadd, eChk_of (by omega) (by omega) (by omega), eChk_of (by omega) (by omega) (by omega), eChk_of (by omega) (by omega) (by omega), eChk_of (by omega) (by omega) (by omega)]
    simp only [icl (show -2147483648 ≤ ((p + 24 + k : Nat) : Int) by omega) (by omega), icl (show -2147483648 ≤ ((p + 32 + k : Nat) : Int) by omega) (by omega), icl (show -2147483648 ≤ ((k : Nat) : Int) by omega) (by omega), nat_i, isucc]
    have k1 : Ku w (eU1 (eU1 w 22 k (w.1 21 (p + 24 + k))) 23 k (w.1 21 (p + 32 + k))) := ⟨rfl, fun i j h1 h2 h3 h4 h5 => by rw [u1n _ _ _ _ _ _ (by omega), u1n _ _ _ _ _ _ (by omega)]⟩
    have b21 : ∀ q, (eU1 (eU1 w 22 k (w.1 21 (p + 24 + k))) 23 k (w.1 21 (p + 32 + k))).1 21 q = w.1 21 q := fun q => by rw [u1n _ _ _ _ _ _ (by omega), u1n _ _ _ _ _ _ (by omega)]
    obtain ⟨w', e0, e1, e2, e3, e4, e5, e6, e7, e8⟩ := ih (k + 1) f (by omega) (by omega) (eU1 (eU1 w 22 k (w.1 21 (p + 24 + k))) 23 k (w.1 21 (p + 32 + k))) (by rw [b21]; exact hb) (fun i hi => by
      rw [b21, b21]
      by_cases z : i = k
      · subst z
        rw [u1n _ _ _ _ _ _ (by omega), u1s, u1s]; exact ⟨rfl, rfl⟩
      · rw [u1n _ _ _ _ _ _ (by omega), u1n _ _ _ _ _ _ (by omega), u1n _ _ _ _ _ _ (by omega), u1n _ _ _ _ _ _ (by omega)]; exact hw i (by omega))
    refine ⟨w', e0, k1.tr e1, ?_, ?_, fun i hi => by have := e4 i hi; rw [b21, b21] at this; exact this, by rw [e5, b21], by rw [e6, b21], e7, fun q q1 q2 => by rw [e8 q q1 q2, b21]⟩
    · rw [e2]; funext j; rw [u1n _ _ _ _ _ _ (by omega), u1n _ _ _ _ _ _ (by omega)]
    · rw [e3]; funext j; rw [u1n _ _ _ _ _ _ (by omega), u1n _ _ _ _ _ _ (by omega)]
theorem undo_L34 {p : Nat} (hp : p + 48 ≤ 576) {b : Bool} : ∀ (d k f : Nat), k + d = 12 → d < f → ∀ w : eW, w.1 21 (p + 42) = b2i b → (∀ i, i < k → w.1 1 i = w.1 21 (p + i) ∧ w.1 3 i = w.1 21 (p + 12 + i)) → ∃ w', f_mm_undo_L34 f (Int32.ofInt (p : Nat)) (Int32.ofInt (k : Nat)) w = some (1, w') ∧ Ku w w' ∧ (∀ i, i < 12 → w'.1 1 i = w.1 21 (p + i) ∧ w'.1 3 i = w.1 21 (p + 12 + i)) ∧ (∀ i, i < 8 → w'.1 22 i = w.1 21 (p + 24 + i) ∧ w'.1 23 i = w.1 21 (p + 32 + i)) ∧ w'.1 24 54 = w.1 21 (p + 40) ∧ w'.1 24 16 = w.1 21 (p + 41) ∧ w'.1 24 59 = b2i b ∧ ∀ k, 1 ≤ k → k ≤ 4 → w'.1 24 (54 + k) = w.1 21 (p + 42 + k) := by
  intro d
  induction d with
  | zero =>
    intro k f hk hf w hb hw
    obtain ⟨f, rfl⟩ : ∃ g, f = g + 1 := ⟨f - 1, by omega⟩
    have : k = 12 := by omega
    subst this
    unfold f_mm_undo_L34
    rw [if_pos (by decide)]
    obtain ⟨w', e0, e1, e2, e3, e4⟩ := undo_L79 hp 8 0 eFu (by omega) (by rw [eFu_eq]; omega) w hb (by omega)
    exact ⟨w', e0, e1, fun i hi => by rw [e2, e3]; exact hw i hi, e4⟩
  | succ d ih =>
    intro k f hk hf w hb hw
    obtain ⟨f, rfl⟩ : ∃ g, f = g + 1 := ⟨f - 1, by omega⟩
    unfold f_mm_undo_L34
    rw [if_neg (by rw [show (12 : Int32) = Int32.ofInt 12 from rfl, ile (by omega) (by omega) (by omega) (by omega)]; omega), iadd' 12, iadd, iadd, eChk_of (by omega) (by omega) (by omega), eChk_of (by omega) (by omega) (by omega), eChk_of (by omega) (by omega) (by omega), eChk_of (by omega) (by omega) (by omega)]
    simp only [icl (show -2147483648 ≤ ((p + k : Nat) : Int) by omega) (by omega), icl (show -2147483648 ≤ ((p + 12 + k : Nat) : Int) by omega) (by omega), icl (show -2147483648 ≤ ((k : Nat) : Int) by omega) (by omega), nat_i, isucc]
    have k1 : Ku w (eU1 (eU1 w 1 k (w.1 21 (p + k))) 3 k (w.1 21 (p + 12 + k))) := ⟨rfl, fun i j h1 h2 h3 h4 h5 => by rw [u1n _ _ _ _ _ _ (by omega), u1n _ _ _ _ _ _ (by omega)]⟩
    have b21 : ∀ q, (eU1 (eU1 w 1 k (w.1 21 (p + k))) 3 k (w.1 21 (p + 12 + k))).1 21 q = w.1 21 q := fun q => by rw [u1n _ _ _ _ _ _ (by omega), u1n _ _ _ _ _ _ (by omega)]
    obtain ⟨w', e0, e1, e3, e4, e5, e6, e7, e8⟩ := ih (k + 1) f (by omega) (by omega) (eU1 (eU1 w 1 k (w.1 21 (p + k))) 3 k (w.1 21 (p + 12 + k))) (by rw [b21]; exact hb) (fun i hi => by
      rw [b21, b21]
      by_cases z : i = k
      · subst z
        rw [u1n _ _ _ _ _ _ (by omega), u1s, u1s]; exact ⟨rfl, rfl⟩
      · rw [u1n _ _ _ _ _ _ (by omega), u1n _ _ _ _ _ _ (by omega), u1n _ _ _ _ _ _ (by omega), u1n _ _ _ _ _ _ (by omega)]; exact hw i (by omega))
    exact ⟨w', e0, k1.tr e1, fun i hi => by have := e3 i hi; rw [b21, b21] at this; exact this, fun i hi => by have := e4 i hi; rw [b21, b21] at this; exact this, by rw [e5, b21], by rw [e6, b21], e7, fun q q1 q2 => by rw [e8 q q1 q2, b21]⟩
/-! the class goes back -/
theorem ac_drop {p q : Nat} (hp : p < 12) (hq : 1 ≤ q) (hq2 : q ≤ 12) (h1 : c.1 37 1 = Int32.ofInt (p : Nat)) (h2 : c.1 37 2 = Int32.ofInt (q : Nat)) : f_ac_dropLatest c = some (eU1 (eU1 c 37 1 (Int32.ofInt (((p + 11) % 12 : Nat) : Int))) 37 2 (Int32.ofInt ((q - 1 : Nat) : Int))) := by
  unfold f_ac_dropLatest
  have e1 : ((c.1 37 1 + (12 : Int32)) - (1 : Int32)) - ((c.1 37 1 + (12 : Int32)) - (1 : Int32)) / (12 : Int32) * (12 : Int32) = Int32.ofInt (((p + 11) % 12 : Nat) : Int) := by
    rw [h1, show (12 : Int32) = Int32.ofInt 12 from rfl, show (1 : Int32) = Int32.ofInt 1 from rfl, ← Int32.ofInt_add, ← Int32.ofInt_sub, imod (by omega) (by omega) (by omega) (by omega)]
    congr 1
    omega
  have e2 : (if (c.1 37 2 - (1 : Int32)) < (0 : Int32) then (0 : Int32) else (c.1 37 2 - (1 : Int32))) = Int32.ofInt ((q - 1 : Nat) : Int) := by
    rw [h2, show (1 : Int32) = Int32.ofInt 1 from rfl, ← Int32.ofInt_sub, if_neg (by rw [show (0 : Int32) = Int32.ofInt 0 from rfl, ilt (by omega) (by omega) (by omega) (by omega)]; omega)]
    congr 1
    omega
  rw [e1, e2]
theorem a_undo (h : RA n cv c m s l) : Ar n cv (f_xx_undo c) (f_mm_undo m) c m := by
  obtain ⟨hs, hC, hM, l12, hl, hc2, hm53, ⟨p, p1, p2, p3⟩, hsn⟩ := id h
  have hn := hs.1.1
  unfold f_xx_undo f_mm_undo
  rw [hc2, hm53]
  cases l with
  | nil =>
    rw [if_neg (by exact fun z => z rfl), if_neg (by exact fun z => z rfl)]
    exact Ar.no h _
  | cons t l =>
    simp only [List.length_cons] at l12 hc2 hm53 hsn ⊢
    have nz : ¬ (Int32.ofInt ((l.length + 1 : Nat) : Int) = 0) := by rw [show (0 : Int32) = Int32.ofInt 0 from rfl, ieq (by omega) (by omega) (by omega) (by omega)]; omega
    rw [if_pos nz, if_pos nz]
    obtain ⟨ht, hli⟩ := hl t (by simp)
    -- the reference
    have sn := hsn 0 t rfl
    rw [show l.length + 1 - 1 - 0 = l.length by omega] at sn
    have e53 : Int32.ofInt ((l.length + 1 : Nat) : Int) - (1 : Int32) = Int32.ofInt ((l.length : Nat) : Int) := by rw [show (1 : Int32) = Int32.ofInt 1 from rfl, ← Int32.ofInt_sub]; congr 1; omega
    rw [e53, show (48 : Int32) * Int32.ofInt ((l.length : Nat) : Int) = Int32.ofInt ((48 * l.length : Nat) : Int) by rw [show (48 : Int32) = Int32.ofInt 48 from rfl, ← Int32.ofInt_mul]; congr 1]
    have w21 : ∀ q, (eU1 (eU1 m 24 0 0) 24 53 (Int32.ofInt ((l.length : Nat) : Int))).1 21 q = m.1 21 q := fun q => by rw [u1n _ _ _ _ _ _ (by omega), u1n _ _ _ _ _ _ (by omega)]
    obtain ⟨m', e0, e1, e2, e3, e4, e5, e6, e7⟩ := undo_L34 (p := 48 * l.length) (by omega) (b := t.2.2.1) 12 0 eFu (by omega) (by rw [eFu_eq]; omega) (eU1 (eU1 m 24 0 0) 24 53 (Int32.ofInt ((l.length : Nat) : Int))) (by rw [w21]; exact sn.2.2.2.2.1) (by omega)
    have e0' : f_mm_undo_L34 eFu (Int32.ofInt ((48 * l.length : Nat) : Int)) 0 (eU1 (eU1 m 24 0 0) 24 53 (Int32.ofInt ((l.length : Nat) : Int))) = some (1, m') := e0
    rw [e0']
    simp only [w21] at e2 e3 e4 e5 e7
    have kM : ∀ i k, i ≠ 1 → i ≠ 3 → i ≠ 22 → i ≠ 23 → ¬ (i = 24 ∧ (k = 0 ∨ k = 16 ∨ (53 ≤ k ∧ k ≤ 59))) → m'.1 i k = m.1 i k := fun i k h1 h2 h3 h4 h5 => by
      rw [e1.2 i k h1 h2 h3 h4 (by omega), u1n _ _ _ _ _ _ (by omega), u1n _ _ _ _ _ _ (by omega)]
    have ms : MS n cv m' t := by
      obtain ⟨q1, q2, q3, q4, q5⟩ := hM
      obtain ⟨t1, t2, t3, t4⟩ := q1
      refine ⟨⟨by rw [kM 24 1 (by omega) (by omega) (by omega) (by omega) (by omega)]; exact t1, by rw [kM 24 2 (by omega) (by omega) (by omega) (by omega) (by omega)]; exact t2, by rw [e5]; exact sn.2.2.2.1, fun i hi => ?_⟩, e6, fun k k1 k2 => by rw [e7 k k1 k2]; exact sn.2.2.2.2.2 k k1 k2, by rw [e4]; exact sn.2.2.1, fun i hi => by rw [(e3 i (by have := ht.2.1; omega)).1, (e3 i (by have := ht.2.1; omega)).2]; exact sn.2.1 i hi⟩
      have q := t4 i hi
      have l0 := hli i 0 hi (by omega) (by omega) (by omega)
      have l2 := hli i 2 hi (by omega) (by omega) (by omega)
      refine ⟨by rw [kM 0 i (by omega) (by omega) (by omega) (by omega) (by omega), l0]; exact q.1, by rw [(e2 i (by omega)).1]; exact (sn.1 i hi).1, fun z => by rw [kM 2 i (by omega) (by omega) (by omega) (by omega) (by omega), l2]; exact q.2.2.1 (by rw [← l0]; exact z), fun z k k1 k2 => ?_⟩
      by_cases k3 : k = 3
      · subst k3
        rw [(e2 i (by omega)).2]; exact (sn.1 i hi).2 z
      · rw [kM k i (by omega) (by omega) (by omega) (by omega) (by omega), hli i k hi (by omega) (by omega) k3]
        exact q.2.2.2 (by rw [← l0]; exact z) k k1 k2
    have kA : Ka m m' := fun i k h1 h2 h3 h4 h5 h6 => ⟨kM i k h1 h2 h4 h5 h6, by rw [e1.1]; rfl⟩
    have fin : ∀ c', (∀ i, i ≠ 7 → i ≠ 8 → i ≠ 32 → i ≠ 35 → i ≠ 37 → c'.1 i = c.1 i) → c'.2 = c.2 → c'.1 37 1 = Int32.ofInt (((p + 11) % 12 : Nat) : Int) → c'.1 37 2 = Int32.ofInt ((l.length : Nat) : Int) → CS n cv c' t → Ar n cv (some ((1 : Int32), c')) (some (1, m')) c m := by
      intro c' u1 u2 u3 u4 u5
      refine ⟨_, c', m', t, l, rfl, rfl, fun i hi => ⟨u1 i (fun z => hi (by rw [z]; decide)) (fun z => hi (by rw [z]; decide)) (fun z => hi (by rw [z]; decide)) (fun z => hi (by rw [z]; decide)) (fun z => hi (by rw [z]; decide)), by rw [u2]⟩, kA, ht, u5, ms, by omega, fun u hu => ?_, u4, ?_, ⟨(p + 11) % 12, Nat.mod_lt _ (by omega), u3, p3.2.same (u1 36 (by omega) (by omega) (by omega) (by omega) (by omega))⟩, fun j u hj => ?_⟩
      · have := hl u (List.mem_cons_of_mem _ hu)
        exact ⟨this.1, fun i k a b d f => by rw [this.2 i k a b d f, hli i k a b d f]⟩
      · rw [e1.2 24 53 (by omega) (by omega) (by omega) (by omega) (by omega), u1s]
      · have jl := (List.getElem?_eq_some_iff.mp hj).1
        have := hsn (j + 1) u (by rw [List.getElem?_cons_succ]; exact hj)
        rw [show l.length + 1 - 1 - (j + 1) = l.length - 1 - j by omega] at this
        refine this.cg (hl u (List.mem_cons_of_mem _ (List.mem_of_getElem? hj))).1.2.1 hn fun i hi => ?_
        exact kM 21 _ (by omega) (by omega) (by omega) (by omega) (by omega)
    -- the class
    rw [show (1 : Int32) = Int32.ofInt ((1 : Nat) : Int) from rfl, ac_latest p1 (by omega) p2, obind]
    dsimp only
    rw [show (2 : Int32) = Int32.ofInt ((2 : Nat) : Int) from rfl, ac_latest p1 (by omega) p2, obind]
    dsimp only
    rw [show (0 : Int32) = Int32.ofInt ((0 : Nat) : Int) from rfl, ac_latest p1 (by omega) p2, obind, Nat.add_zero]
    dsimp only
    have drop : ∀ w : eW, w.1 37 = c.1 37 → f_ac_dropLatest w = some (eU1 (eU1 w 37 1 (Int32.ofInt (((p + 11) % 12 : Nat) : Int))) 37 2 (Int32.ofInt ((l.length : Nat) : Int))) := fun w hw => by
      have := ac_drop (c := w) p1 (show 1 ≤ l.length + 1 by omega) l12 (by rw [hw]; exact p2) (by rw [hw]; exact hc2)
      rw [show l.length + 1 - 1 = l.length by omega] at this
      exact this
    have done : ∀ w : eW, (∀ i, i ≠ 7 → i ≠ 8 → i ≠ 32 → i ≠ 35 → w.1 i = c.1 i) → w.2 = c.2 → CS n cv w t → Ar n cv ((f_ac_dropLatest w).bind fun w5 => (some ((1 : Int32), w5))) (some (1, m')) c m := fun w u1' u2' u3' => by
      rw [drop w (u1' 37 (by omega) (by omega) (by omega) (by omega)), obind]
      refine fin _ (fun i h1 h2 h3 h4 h5 => ?_) u2' (by rw [u1n _ _ _ _ _ _ (by omega), u1s]) (by rw [u1s]) ?_
      · rw [← u1' i h1 h2 h3 h4]; funext k; rw [u1n _ _ _ _ _ _ (by omega), u1n _ _ _ _ _ _ (by omega)]
      · exact Ck.cs u3' ⟨rfl, fun i h1 h2 => by funext k; rw [u1n _ _ _ _ _ _ (by omega), u1n _ _ _ _ _ _ (by omega)]⟩
    obtain ⟨q1, q2, q3, q4, q5⟩ := hC
    obtain ⟨dd, -⟩ := p3
    rcases dd with ⟨d0, d1, d2, d3, d4, d5⟩ | ⟨d0, d1, d2, d3, d4, d5, d6⟩ | ⟨d0, i, hi, d1, d2, d3, d4⟩ | ⟨d0, d1, d2, d3⟩ | ⟨d0, i, hi, d1, d2, d3, d4⟩
    · rw [d0, if_pos (by decide)]
      unfold f_ac_giveBackSale
      have k3 := ac_latest (c := c) p1 (k := 3) (by omega) p2
      rw [show (3 : Int32) = Int32.ofInt ((3 : Nat) : Int) from rfl, k3, obind]
      dsimp only
      rw [d4]
      have body : ∀ x : Int32, x = b2i t.2.2.1 → ((f_ac_latest (4 : Int32) (eU1 c 32 0 x)).bind fun p2 => ((f_ac_latest (5 : Int32) (eU1 p2.2 32 1 p2.1)).bind fun p3 => ((f_ac_latest (6 : Int32) (eU1 p3.2 32 2 p3.1)).bind fun p4 => ((f_ac_latest (7 : Int32) (eU1 p4.2 32 3 p4.1)).bind fun p5 => (some (eU1 p5.2 32 4 p5.1)))))) = some (eU1 (eU1 (eU1 (eU1 (eU1 c 32 0 x) 32 1 (t.2.2.2.1 1)) 32 2 (t.2.2.2.1 2)) 32 3 (t.2.2.2.1 3)) 32 4 (t.2.2.2.1 4)) := fun x hx => by
        have r : ∀ k, 1 ≤ k → k ≤ 4 → ∀ w : eW, w.1 37 1 = c.1 37 1 → w.1 36 = c.1 36 → f_ac_latest (Int32.ofInt ((3 + k : Nat) : Int)) w = some (t.2.2.2.1 k, w) := fun k k1 k2 w a b => by
          rw [ac_latest p1 (by omega) (by rw [a]; exact p2), b, ← d5 k k1 k2, Nat.add_assoc]
        have z37 : ∀ (w : eW) (k : Nat) (y : Int32), (eU1 w 32 k y).1 37 1 = w.1 37 1 := fun w k y => u1n _ _ _ _ _ _ (by omega)
        have z36 : ∀ (w : eW) (k : Nat) (y : Int32), (eU1 w 32 k y).1 36 = w.1 36 := fun w k y => by funext j; exact u1n _ _ _ _ _ _ (by omega)
        rw [show (4 : Int32) = Int32.ofInt ((3 + 1 : Nat) : Int) from rfl, r 1 (by omega) (by omega) _ (z37 _ _ _) (z36 _ _ _), obind]
        dsimp only
        rw [show (5 : Int32) = Int32.ofInt ((3 + 2 : Nat) : Int) from rfl, r 2 (by omega) (by omega) _ (by rw [z37, z37]) (by rw [z36, z36]), obind]
        dsimp only
        rw [show (6 : Int32) = Int32.ofInt ((3 + 3 : Nat) : Int) from rfl, r 3 (by omega) (by omega) _ (by rw [z37, z37, z37]) (by rw [z36, z36, z36]), obind]
        dsimp only
        rw [show (7 : Int32) = Int32.ofInt ((3 + 4 : Nat) : Int) from rfl, r 4 (by omega) (by omega) _ (by rw [z37, z37, z37, z37]) (by rw [z36, z36, z36, z36]), obind]
      have cs' : CS n cv (eU1 (eU1 (eU1 (eU1 (eU1 c 32 0 (b2i t.2.2.1)) 32 1 (t.2.2.2.1 1)) 32 2 (t.2.2.2.1 2)) 32 3 (t.2.2.2.1 3)) 32 4 (t.2.2.2.1 4)) t := by
        refine ⟨?_, ?_, fun k k1 k2 => ?_, ?_, fun j hj => ?_⟩
        · rw [d1, d2]
          exact CFu (CFu (CFu (CFu (CFu q1 (by omega) (by omega)) (by omega) (by omega)) (by omega) (by omega)) (by omega) (by omega)) (by omega) (by omega)
        · rw [u1n _ _ _ _ _ _ (by omega), u1n _ _ _ _ _ _ (by omega), u1n _ _ _ _ _ _ (by omega), u1n _ _ _ _ _ _ (by omega), u1s]
        · rcases (show k = 1 ∨ k = 2 ∨ k = 3 ∨ k = 4 by omega) with rfl | rfl | rfl | rfl
          · rw [u1n _ _ _ _ _ _ (by omega), u1n _ _ _ _ _ _ (by omega), u1n _ _ _ _ _ _ (by omega), u1s]
          · rw [u1n _ _ _ _ _ _ (by omega), u1n _ _ _ _ _ _ (by omega), u1s]
          · rw [u1n _ _ _ _ _ _ (by omega), u1s]
          · rw [u1s]
        · rw [u1n _ _ _ _ _ _ (by omega), u1n _ _ _ _ _ _ (by omega), u1n _ _ _ _ _ _ (by omega), u1n _ _ _ _ _ _ (by omega), u1n _ _ _ _ _ _ (by omega), d3]; exact q4
        · rw [d3] at hj ⊢
          rw [u1n _ _ _ _ _ _ (by omega), u1n _ _ _ _ _ _ (by omega), u1n _ _ _ _ _ _ (by omega), u1n _ _ _ _ _ _ (by omega), u1n _ _ _ _ _ _ (by omega), u1n _ _ _ _ _ _ (by omega), u1n _ _ _ _ _ _ (by omega), u1n _ _ _ _ _ _ (by omega), u1n _ _ _ _ _ _ (by omega), u1n _ _ _ _ _ _ (by omega)]; exact q5 j hj
      have cl : ∀ i, i ≠ 7 → i ≠ 8 → i ≠ 32 → i ≠ 35 → (eU1 (eU1 (eU1 (eU1 (eU1 c 32 0 (b2i t.2.2.1)) 32 1 (t.2.2.2.1 1)) 32 2 (t.2.2.2.1 2)) 32 3 (t.2.2.2.1 3)) 32 4 (t.2.2.2.1 4)).1 i = c.1 i := fun i h1 h2 h3 h4 => by
        funext k; rw [u1n _ _ _ _ _ _ (by omega), u1n _ _ _ _ _ _ (by omega), u1n _ _ _ _ _ _ (by omega), u1n _ _ _ _ _ _ (by omega), u1n _ _ _ _ _ _ (by omega)]
      cases hb : t.2.2.1
      · rw [hb] at cs' cl body
        rw [if_pos (by decide), body 0 rfl, obind]
        exact done _ cl rfl cs'
      · rw [hb] at cs' cl body
        rw [if_neg (by decide), body 1 rfl, obind]
        exact done _ cl rfl cs'
    · rw [d0, if_neg (by decide), if_pos (by decide)]
      unfold f_gu_dropLatest
      have g8 := hs.2.1
      rw [q4, if_neg (by rw [show (0 : Int32) = Int32.ofInt 0 from rfl, ile (by omega) (by omega) (by omega) (by omega)]; omega), obind]
      refine done _ (fun i h1 h2 h3 h4 => by funext k; rw [u1n _ _ _ _ _ _ (by omega)]) rfl ⟨?_, ?_, fun k k1 k2 => ?_, ?_, fun j hj => ?_⟩
      · rw [d1, d2]; exact CFu q1 (by omega) (by omega)
      · rw [u1n _ _ _ _ _ _ (by omega), d3]; exact q2
      · rw [u1n _ _ _ _ _ _ (by omega), d4]; exact q3 k k1 k2
      · rw [u1s, show (1 : Int32) = Int32.ofInt 1 from rfl, ← Int32.ofInt_sub]; congr 1; omega
      · rw [u1n _ _ _ _ _ _ (by omega), u1n _ _ _ _ _ _ (by omega), (d6 j hj).1, (d6 j hj).2]; exact q5 j (by omega)
    · rw [d0, if_neg (by decide), if_neg (by decide), if_pos (by decide), d1, d2, c_put hs.1 q1 hi (by omega), obind]
      have e : t = (upf s.1 i 1 (t.1 i 1), s.2) := Prod.ext d3 d4
      have cs' := CS.upf (s := s) (k := 1) (by omega) (h := i) (t := t.1 i 1) ⟨q1, q2, q3, q4, q5⟩
      rw [← e] at cs'
      exact done _ (fun j h1 h2 h3 h4 => by funext k; rw [u1n _ _ _ _ _ _ (by omega)]) rfl cs'
    · rw [d0, if_neg (by decide), if_neg (by decide), if_neg (by decide), if_pos rfl, d1]
      have e : t = (s.1, t.2.1, s.2.2) := Prod.ext d2 (Prod.ext rfl d3)
      have cs' := CS.w (s := s) (x := t.2.1) ⟨q1, q2, q3, q4, q5⟩
      rw [← e] at cs'
      exact done _ (fun j h1 h2 h3 h4 => by funext k; rw [u1n _ _ _ _ _ _ (by omega)]) rfl cs'
    · rw [d0, if_neg (by decide), if_neg (by decide), if_neg (by decide), if_neg (by decide), d1, d2, show (3 : Int32) = Int32.ofInt ((3 : Nat) : Int) from rfl, c_put hs.1 q1 hi (by omega), obind]
      have e : t = (upf s.1 i 3 (t.1 i 3), s.2) := Prod.ext d3 d4
      have cs' := CS.upf (s := s) (k := 3) (by omega) (h := i) (t := t.1 i 3) ⟨q1, q2, q3, q4, q5⟩
      rw [← e] at cs'
      exact done _ (fun j h1 h2 h3 h4 => by funext k; rw [u1n _ _ _ _ _ _ (by omega)]) rfl cs'
end
