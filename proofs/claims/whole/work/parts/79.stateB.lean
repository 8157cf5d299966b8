section
variable {n : Nat} {F : Nat → Nat → Int} {wv : Int32} {cv : Int} {c m : eW}
theorem shift12 (w0 : eW) (h53 : w0.1 24 53 = Int32.ofInt 12) : ∀ (d k f : Nat), k + d = 576 → d < f → 48 ≤ k → ∀ w : eW, Kk w0 w → w.1 24 53 = Int32.ofInt 12 → (∀ i, i < k - 48 → w.1 21 i = w0.1 21 (i + 48)) → (∀ i, k - 48 ≤ i → w.1 21 i = w0.1 21 i) → ∃ w', Kk w0 w' ∧ w'.1 24 53 = Int32.ofInt 11 ∧ (∀ i, i < 528 → w'.1 21 i = w0.1 21 (i + 48)) ∧ f_mm_keep_L12 f (Int32.ofInt (k : Nat)) w = f_mm_keep_L60 eFu (Int32.ofInt ((528 : Nat) : Int)) 0 w' := by
  intro d
  induction d with
  | zero =>
    intro k f hk hf h48 w kk h5 hlo hhi
    obtain ⟨f, rfl⟩ : ∃ g, f = g + 1 := ⟨f - 1, by omega⟩
    have : k = 576 := by omega
    subst this
    unfold f_mm_keep_L12
    rw [if_pos (by decide), h5]
    exact ⟨eU1 w 24 53 (Int32.ofInt 12 - 1), ⟨kk.1, fun i j e f => by rw [u1n _ _ _ _ _ _ (by omega)]; exact kk.2 i j e f⟩, by rw [u1s]; rfl, fun i hi => by rw [u1n _ _ _ _ _ _ (by omega)]; exact hlo i (by omega), rfl⟩
  | succ d ih =>
    intro k f hk hf h48 w kk h5 hlo hhi
    obtain ⟨f, rfl⟩ : ∃ g, f = g + 1 := ⟨f - 1, by omega⟩
    unfold f_mm_keep_L12
    rw [if_neg (by rw [show (576 : Int32) = Int32.ofInt 576 from rfl, ile (by omega) (by omega) (by omega) (by omega)]; omega), show (48 : Int32) = Int32.ofInt 48 from rfl, ← Int32.ofInt_sub, eChk_of (by omega) (by omega) (by omega), eChk_of (by omega) (by omega) (by omega), icl (by omega) (by omega), icl (by omega) (by omega), nat_i, show ((k : Int) - 48).toNat = k - 48 by omega, isucc]
    refine ih (k + 1) f (by omega) (by omega) (by omega) _ kk.u (by rw [u1n _ _ _ _ _ _ (by omega)]; exact h5) (fun i hi => ?_) (fun i hi => ?_)
    · by_cases z : i = k - 48
      · subst z
        rw [u1s, hhi k (by omega), show k - 48 + 48 = k by omega]
      · rw [u1n _ _ _ _ _ _ (by omega)]; exact hlo i (by omega)
    · rw [u1n _ _ _ _ _ _ (by omega)]; exact hhi i (by omega)
theorem m_keep {s : ZS} {l : List ZS} (hs : SOK n cv s) (hM : MS n cv m s) (ar : AR n cv c m s l) : Ok (f_mm_keep m) fun m' => Kk m m' ∧ m'.1 24 53 = Int32.ofInt ((((s :: l).take 12).length : Nat) : Int) ∧ ∀ j t, ((s :: l).take 12)[j]? = some t → Sn n m' (48 * (((s :: l).take 12).length - 1 - j)) t := by
  obtain ⟨l12, hl, -, h53, -, hsn⟩ := ar
  have hn := hs.1.1
  unfold f_mm_keep
  rw [h53]
  by_cases z : l.length = 12
  · rw [if_neg (by rw [z]; exact fun y => y rfl)]
    obtain ⟨w', k1, k2, k3, k4⟩ := shift12 m (by rw [h53, z]; rfl) 528 48 eFu (by omega) (by rw [eFu_eq]; omega) (by omega) m Kk.rfl (by rw [h53, z]; rfl) (by omega) (fun _ _ => rfl)
    have k4' : f_mm_keep_L12 eFu 48 m = _ := k4
    rw [k4']
    refine Ok.imp (keep_L60 (p := 528) (by omega) (a := 11) 12 0 eFu (by omega) (by rw [eFu_eq]; omega) w' k2 (by omega)) ?_
    rintro w'' ⟨q1, q2, q3, q4, q5, q6, q7, q8, q9⟩
    have e12 : ((s :: l).take 12).length = 12 := by simp; omega
    refine ⟨k1.tr q1, by rw [q2, e12], fun j t hj => ?_⟩
    rw [e12]
    cases j with
    | zero =>
      simp at hj
      subst hj
      exact keep_Sn hs (hM.kk k1) q4 q5 q6 q7 q8 q9
    | succ j =>
      rw [List.take_succ_cons, List.getElem?_cons_succ] at hj
      have jl := (List.getElem?_eq_some_iff.mp hj).1
      rw [List.length_take] at jl
      rw [List.getElem?_take_of_lt (by omega)] at hj
      have h1 := hsn j t hj
      rw [z] at h1
      refine h1.cg (hl t (List.mem_of_getElem? hj)).1.2.1 hn fun i hi => ?_
      rw [q3 _ (by omega), k3 _ (by omega), show 48 * (12 - 1 - (j + 1)) + i + 48 = 48 * (12 - 1 - j) + i by omega]
  · rw [if_pos (by rw [show (12 : Int32) = Int32.ofInt 12 from rfl, ieq (by omega) (by omega) (by omega) (by omega)]; omega), show (48 : Int32) = Int32.ofInt 48 from rfl, ← Int32.ofInt_mul, show (48 : Int) * (l.length : Int) = ((48 * l.length : Nat) : Int) by omega]
    refine Ok.imp (keep_L60 (p := 48 * l.length) (by omega) (a := l.length) 12 0 eFu (by omega) (by rw [eFu_eq]; omega) m h53 (by omega)) ?_
    rintro w'' ⟨q1, q2, q3, q4, q5, q6, q7, q8, q9⟩
    have e12 : (s :: l).take 12 = s :: l := List.take_of_length_le (by simp; omega)
    rw [e12]
    refine ⟨q1, by rw [q2]; rfl, fun j t hj => ?_⟩
    cases j with
    | zero =>
      simp at hj
      subst hj
      exact keep_Sn hs hM q4 q5 q6 q7 q8 q9
    | succ j =>
      rw [List.getElem?_cons_succ] at hj
      have jl := (List.getElem?_eq_some_iff.mp hj).1
      have h1 := hsn j t hj
      refine h1.cg (hl t (List.mem_of_getElem? hj)).1.2.1 hn fun i hi => ?_
      rw [List.length_cons, show l.length + 1 - 1 - (j + 1) = l.length - 1 - j by omega, q3 _ (by omega)]
/-! the class keeps -/
def Ck (w w' : eW) : Prop := w'.2 = w.2 ∧ ∀ i, i ≠ 36 → i ≠ 37 → w'.1 i = w.1 i
theorem Ck.tr {a b c : eW} (h : Ck a b) (k : Ck b c) : Ck a c := ⟨k.1.trans h.1, fun i e f => (k.2 i e f).trans (h.2 i e f)⟩
theorem ac_put {p : Nat} (hp : p < 12) {k : Nat} (hk : k < 8) (h : c.1 37 1 = Int32.ofInt (p : Nat)) (x : Int32) : f_ac_put (Int32.ofInt (k : Nat)) x c = some (eU1 c 36 (p * 8 + k) x) := by
  unfold f_ac_put
  rw [h, show (8 : Int32) = Int32.ofInt (8 : Nat) from rfl, ← Int32.ofInt_mul, ← Int32.ofInt_add, if_neg (by rw [show (0 : Int32) = Int32.ofInt 0 from rfl, ilt (by omega) (by omega) (by omega) (by omega)]; omega), if_neg (by rw [show (96 : Int32) = Int32.ofInt 96 from rfl, ile (by omega) (by omega) (by omega) (by omega)]; omega), eChk_of (by omega) (by omega) (by omega), icl (by omega) (by omega), show ((p : Int) * (8 : Nat) + k).toNat = p * 8 + k by omega]
theorem ac_latest {p : Nat} (hp : p < 12) {k : Nat} (hk : k < 8) (h : c.1 37 1 = Int32.ofInt (p : Nat)) : f_ac_latest (Int32.ofInt (k : Nat)) c = some (c.1 36 (p * 8 + k), c) := by
  unfold f_ac_latest
  rw [h, show (8 : Int32) = Int32.ofInt (8 : Nat) from rfl, ← Int32.ofInt_mul, ← Int32.ofInt_add, if_neg (by rw [show (0 : Int32) = Int32.ofInt 0 from rfl, ilt (by omega) (by omega) (by omega) (by omega)]; omega), if_neg (by rw [show (96 : Int32) = Int32.ofInt 96 from rfl, ile (by omega) (by omega) (by omega) (by omega)]; omega), eChk_of (by omega) (by omega) (by omega), icl (by omega) (by omega), show ((p : Int) * (8 : Nat) + k).toNat = p * 8 + k by omega]
theorem ac_keep {p q : Nat} (hp : p < 12) (hq : q ≤ 12) (h1 : c.1 37 1 = Int32.ofInt (p : Nat)) (h2 : c.1 37 2 = Int32.ofInt (q : Nat)) (x y z : Int32) : ∃ c', f_ac_keep x y z c = some c' ∧ Ck c c' ∧ c'.1 37 1 = Int32.ofInt (((p + 1) % 12 : Nat) : Int) ∧ c'.1 37 2 = Int32.ofInt ((min (q + 1) 12 : Nat) : Int) ∧ (∀ r i, r < 12 → r ≠ (p + 1) % 12 → i < 8 → c'.1 36 (r * 8 + i) = c.1 36 (r * 8 + i)) ∧ c'.1 36 ((p + 1) % 12 * 8) = x ∧ c'.1 36 ((p + 1) % 12 * 8 + 1) = y ∧ c'.1 36 ((p + 1) % 12 * 8 + 2) = z := by
  have m12 : (p + 1) % 12 < 12 := Nat.mod_lt _ (by omega)
  unfold f_ac_keep
  have e1 : (c.1 37 1 + (1 : Int32)) - (c.1 37 1 + (1 : Int32)) / (12 : Int32) * (12 : Int32) = Int32.ofInt (((p + 1) % 12 : Nat) : Int) := by
    rw [h1, isucc, show (12 : Int32) = Int32.ofInt 12 from rfl, imod (by omega) (by omega) (by omega) (by omega)]
    congr 1
  have e2 : (if (12 : Int32) < (c.1 37 2 + (1 : Int32)) then (12 : Int32) else (c.1 37 2 + (1 : Int32))) = Int32.ofInt ((min (q + 1) 12 : Nat) : Int) := by
    rw [h2, isucc]
    by_cases g : 12 < q + 1
    · rw [if_pos (by rw [show (12 : Int32) = Int32.ofInt 12 from rfl, ilt (by omega) (by omega) (by omega) (by omega)]; omega), Nat.min_eq_right (by omega)]; rfl
    · rw [if_neg (by rw [show (12 : Int32) = Int32.ofInt 12 from rfl, ilt (by omega) (by omega) (by omega) (by omega)]; omega), Nat.min_eq_left (by omega)]
  rw [e1, e2]
  generalize (p + 1) % 12 = r at *
  have a0 : (eU1 (eU1 c 37 1 (Int32.ofInt (r : Nat))) 37 2 (Int32.ofInt ((min (q + 1) 12 : Nat) : Int))).1 37 1 = Int32.ofInt (r : Nat) := by rw [u1n _ _ _ _ _ _ (by omega), u1s]
  rw [show (0 : Int32) = Int32.ofInt ((0 : Nat) : Int) from rfl, ac_put m12 (by omega) a0, obind, show (1 : Int32) = Int32.ofInt ((1 : Nat) : Int) from rfl, ac_put m12 (by omega) (by rw [u1n _ _ _ _ _ _ (by omega)]; exact a0), obind, show (2 : Int32) = Int32.ofInt ((2 : Nat) : Int) from rfl, ac_put m12 (by omega) (by rw [u1n _ _ _ _ _ _ (by omega), u1n _ _ _ _ _ _ (by omega)]; exact a0), obind]
  refine ⟨_, rfl, ⟨rfl, fun i h3 h4 => by funext k; rw [u1n _ _ _ _ _ _ (by omega), u1n _ _ _ _ _ _ (by omega), u1n _ _ _ _ _ _ (by omega), u1n _ _ _ _ _ _ (by omega), u1n _ _ _ _ _ _ (by omega)]⟩, ?_, ?_, fun i k h3 h4 h5 => ?_, ?_, ?_, ?_⟩
  · rw [u1n _ _ _ _ _ _ (by omega), u1n _ _ _ _ _ _ (by omega), u1n _ _ _ _ _ _ (by omega)]; exact a0
  · rw [u1n _ _ _ _ _ _ (by omega), u1n _ _ _ _ _ _ (by omega), u1n _ _ _ _ _ _ (by omega), u1s]
  · rw [u1n _ _ _ _ _ _ (by omega), u1n _ _ _ _ _ _ (by omega), u1n _ _ _ _ _ _ (by omega), u1n _ _ _ _ _ _ (by omega), u1n _ _ _ _ _ _ (by omega)]
  · rw [u1n _ _ _ _ _ _ (by omega), u1n _ _ _ _ _ _ (by omega)]
    exact u1s _ _ _ _
  · rw [u1n _ _ _ _ _ _ (by omega), u1s]
  · rw [u1s]
/-- the history with one act more -/
theorem Hs_new {c c' : eW} {p : Nat} (hp : p < 12) {s t : ZS} {l : List ZS} (hl : l.length ≤ 12) (h : Hs n c p s l) (e : ∀ r i, r < 12 → r ≠ (p + 1) % 12 → i < 8 → c'.1 36 (r * 8 + i) = c.1 36 (r * 8 + i)) (d : Dl n c' ((p + 1) % 12) t s) : Hs n c' ((p + 1) % 12) t ((s :: l).take 12) := by
  rw [List.take_succ_cons]
  refine ⟨d, ?_⟩
  rw [show ((p + 1) % 12 + 11) % 12 = p by omega]
  refine Hs.cg (c := c) hp (q := (p + 1) % 12) (Nat.mod_lt _ (by omega)) (fun d hd => ?_) (by rw [List.length_take]; omega) e (Hs_take h)
  rw [List.length_take] at hd
  omega
end
section
variable {n : Nat} {cv : Int} {c m : eW}
/-- both hold the state, and those before it -/
def RA (n : Nat) (cv : Int) (c m : eW) (s : ZS) (l : List ZS) : Prop := SOK n cv s ∧ CS n cv c s ∧ MS n cv m s ∧ AR n cv c m s l
def CSS : List Nat := [7, 8, 32, 33, 34, 35, 36, 37]
/-- what an act may change of the reference's world -/
def Ka (w w' : eW) : Prop := ∀ i k, i ≠ 1 → i ≠ 3 → i ≠ 21 → i ≠ 22 → i ≠ 23 → ¬ (i = 24 ∧ (k = 0 ∨ k = 16 ∨ (53 ≤ k ∧ k ≤ 59))) → w'.1 i k = w.1 i k ∧ w'.2 i k = w.2 i k
def Ar {α : Type} (n : Nat) (cv : Int) (x y : Option (α × eW)) (c m : eW) : Prop := ∃ r c' m' s l, x = some (r, c') ∧ y = some (r, m') ∧ Fr CSS c c' ∧ Ka m m' ∧ RA n cv c' m' s l
theorem Ka.z : Ka m (eU1 m 24 0 0) := fun i k h1 h2 h3 h4 h5 h6 => ⟨u1n _ _ _ _ _ _ (by omega), rfl⟩
theorem CS.q {c' : eW} {s : ZS} (h : CS n cv c s) (k : Fr QS c c') : CS n cv c' s := by
  obtain ⟨a, b, d, e, f⟩ := h
  refine ⟨a.q k, by rw [(k 32 (by decide)).1]; exact b, fun i => by rw [(k 32 (by decide)).1]; exact d i, by rw [(k 35 (by decide)).1]; exact e, fun i => by rw [(k 33 (by decide)).1, (k 34 (by decide)).1]; exact f i⟩
theorem MS.q {m' : eW} {s : ZS} (h : MS n cv m s) (k : Km m m') : MS n cv m' s := by
  obtain ⟨a, b, d, e, f⟩ := h
  refine ⟨a.km k, by rw [(k 24 59 (by omega) (by omega)).1]; exact b, fun i i1 i2 => by rw [(k 24 _ (by omega) (by omega)).1]; exact d i i1 i2, by rw [(k 24 54 (by omega) (by omega)).1]; exact e, fun i => by rw [(k 22 i (by omega) (by omega)).1, (k 23 i (by omega) (by omega)).1]; exact f i⟩
theorem Hs.same {c' : eW} (e : c'.1 36 = c.1 36) : ∀ {l : List ZS} {p : Nat} {s : ZS}, Hs n c p s l → Hs n c' p s l
  | [], _, _, _ => trivial
  | t :: l, p, s, h => ⟨h.1.cg fun i _ => by rw [e], Hs.same e h.2⟩
theorem AR.q {c' m' : eW} {s : ZS} {l : List ZS} (hs : SOK n cv s) (h : AR n cv c m s l) (k : c'.1 36 = c.1 36) (k2 : c'.1 37 = c.1 37) (e : m'.1 21 = m.1 21) (e2 : m'.1 24 53 = m.1 24 53) : AR n cv c' m' s l := by
  obtain ⟨a, b, d, f, ⟨p, p1, p2, p3⟩, g⟩ := h
  have hn := hs.1.1
  refine ⟨a, b, by rw [k2]; exact d, by rw [e2]; exact f, ⟨p, p1, by rw [k2]; exact p2, p3.same k⟩, fun j t hj => ?_⟩
  exact (g j t hj).cg (b t (List.mem_of_getElem? hj)).1.2.1 hn fun i hi => by rw [e]
theorem RA.q {c' m' : eW} {s : ZS} {l : List ZS} (h : RA n cv c m s l) (k : Fr QS c c') (e : Km m m') : RA n cv c' m' s l :=
  ⟨h.1, h.2.1.q k, h.2.2.1.q e, h.2.2.2.q h.1 (k 36 (by decide)).1 (k 37 (by decide)).1 (funext fun i => (e 21 i (by omega) (by omega)).1) (e 24 53 (by omega) (by omega)).1⟩
/-- a call that is refused -/
theorem Ar.no {α : Type} {s : ZS} {l : List ZS} (h : RA n cv c m s l) (r : α) : Ar n cv (some (r, c)) (some (r, eU1 m 24 0 0)) c m := ⟨r, c, _, s, l, rfl, rfl, Fr.rfl, Ka.z, h.q Fr.rfl (m0k m)⟩
theorem Ck.fr {c' : eW} (h : Ck c c') : Fr [36, 37] c c' := fun i hi => ⟨h.2 i (fun z => hi (by rw [z]; decide)) (fun z => hi (by rw [z]; decide)), by rw [h.1]⟩
/-- an act is done: what is owed for the new state -/
theorem act_fin {s t : ZS} {l : List ZS} (h : RA n cv c m s l) {c1 c2 m1 m2 : eW} {p : Nat} (hp : p < 12) (e1 : c.1 37 1 = Int32.ofInt (p : Nat)) (hh : Hs n c p s l)
    (r1 : c1.1 37 1 = Int32.ofInt (((p + 1) % 12 : Nat) : Int)) (r2 : c1.1 37 2 = Int32.ofInt ((min (l.length + 1) 12 : Nat) : Int)) (r3 : ∀ r i, r < 12 → r ≠ (p + 1) % 12 → i < 8 → c1.1 36 (r * 8 + i) = c.1 36 (r * 8 + i))
    (g1 : c2.1 36 = c1.1 36) (g2 : c2.1 37 = c1.1 37)
    (k1 : m1.1 24 53 = Int32.ofInt ((((s :: l).take 12).length : Nat) : Int)) (k2 : ∀ j t, ((s :: l).take 12)[j]? = some t → Sn n m1 (48 * (((s :: l).take 12).length - 1 - j)) t)
    (g3 : m2.1 21 = m1.1 21) (g4 : m2.1 24 53 = m1.1 24 53)
    (ts : SOK n cv t) (tc : CS n cv c2 t) (tm : MS n cv m2 t) (td : Dl n c1 ((p + 1) % 12) t s) (tl : Li n t s) : RA n cv c2 m2 t ((s :: l).take 12) := by
  have hn := ts.1.1
  have ar := h.2.2.2
  have l12 := ar.1
  refine ⟨ts, tc, tm, by rw [List.length_take]; omega, fun u hu => ?_, ?_, by rw [g4]; exact k1, ⟨(p + 1) % 12, Nat.mod_lt _ (by omega), by rw [g2]; exact r1, (Hs_new hp l12 hh r3 td).same g1⟩, fun j u hj => ?_⟩
  · have hu2 : u ∈ s :: l := List.mem_of_mem_take hu
    rcases List.mem_cons.mp hu2 with z | z
    · rw [z]; exact ⟨h.1, tl⟩
    · have := ar.2.1 u z
      exact ⟨this.1, fun i k a b d f => by rw [this.2 i k a b d f, tl i k a b d f]⟩
  · rw [g2, r2, List.length_take, List.length_cons, Nat.min_comm]
  · refine (k2 j u hj).cg ?_ hn fun i hi => by rw [g3]
    have hu2 : u ∈ s :: l := List.mem_of_mem_take (List.mem_of_getElem? hj)
    rcases List.mem_cons.mp hu2 with z | z
    · rw [z]; exact h.1.2.1
    · exact (ar.2.1 u z).1.2.1
/-- the class keeps a sale -/
theorem ac_keepSale {p q : Nat} (hp : p < 12) (hq : q ≤ 12) (h1 : c.1 37 1 = Int32.ofInt (p : Nat)) (h2 : c.1 37 2 = Int32.ofInt (q : Nat)) {cl : Bool} (hc : c.1 32 0 = b2i cl) : ∃ c', f_ac_keepSale c = some c' ∧ Ck c c' ∧ c'.1 37 1 = Int32.ofInt (((p + 1) % 12 : Nat) : Int) ∧ c'.1 37 2 = Int32.ofInt ((min (q + 1) 12 : Nat) : Int) ∧ (∀ r i, r < 12 → r ≠ (p + 1) % 12 → i < 8 → c'.1 36 (r * 8 + i) = c.1 36 (r * 8 + i)) ∧ c'.1 36 ((p + 1) % 12 * 8) = 0 ∧ c'.1 36 ((p + 1) % 12 * 8 + 3) = b2i cl ∧ ∀ k, 1 ≤ k → k ≤ 4 → c'.1 36 ((p + 1) % 12 * 8 + 3 + k) = c.1 32 k := by
  have m12 : (p + 1) % 12 < 12 := Nat.mod_lt _ (by omega)
  obtain ⟨c1, e0, e1, e2, e3, e4, e5, e6, e7⟩ := ac_keep hp hq h1 h2 0 0 0
  generalize (p + 1) % 12 = r at *
  have f32 : ∀ k, c1.1 32 k = c.1 32 k := fun k => by rw [e1.2 32 (by omega) (by omega)]
  have key : ∀ x : Int32, x = b2i cl → ∃ c', ((f_ac_put (3 : Int32) x c1).bind fun w2 => ((f_ac_put (4 : Int32) (w2.1 32 1) w2).bind fun w3 => ((f_ac_put (5 : Int32) (w3.1 32 2) w3).bind fun w4 => ((f_ac_put (6 : Int32) (w4.1 32 3) w4).bind fun w5 => ((f_ac_put (7 : Int32) (w5.1 32 4) w5).bind fun w6 => (some w6)))))) = some c' ∧ Ck c c' ∧ c'.1 37 1 = Int32.ofInt (r : Nat) ∧ c'.1 37 2 = Int32.ofInt ((min (q + 1) 12 : Nat) : Int) ∧ (∀ r' i, r' < 12 → r' ≠ r → i < 8 → c'.1 36 (r' * 8 + i) = c.1 36 (r' * 8 + i)) ∧ c'.1 36 (r * 8) = 0 ∧ c'.1 36 (r * 8 + 3) = b2i cl ∧ ∀ k, 1 ≤ k → k ≤ 4 → c'.1 36 (r * 8 + 3 + k) = c.1 32 k := fun x hx => by
    rw [show (3 : Int32) = Int32.ofInt ((3 : Nat) : Int) from rfl, ac_put m12 (by omega) e2, obind, show (4 : Int32) = Int32.ofInt ((4 : Nat) : Int) from rfl, ac_put m12 (by omega) (by rw [u1n _ _ _ _ _ _ (by omega)]; exact e2), obind, show (5 : Int32) = Int32.ofInt ((5 : Nat) : Int) from rfl, ac_put m12 (by omega) (by rw [u1n _ _ _ _ _ _ (by omega), u1n _ _ _ _ _ _ (by omega)]; exact e2), obind, show (6 : Int32) = Int32.ofInt ((6 : Nat) : Int) from rfl, ac_put m12 (by omega) (by rw [u1n _ _ _ _ _ _ (by omega), u1n _ _ _ _ _ _ (by omega), u1n _ _ _ _ _ _ (by omega)]; exact e2), obind, show (7 : Int32) = Int32.ofInt ((7 : Nat) : Int) from rfl, ac_put m12 (by omega) (by rw [u1n _ _ _ _ _ _ (by omega), u1n _ _ _ _ _ _ (by omega), u1n _ _ _ _ _ _ (by omega), u1n _ _ _ _ _ _ (by omega)]; exact e2), obind]
    refine ⟨_, rfl, ⟨e1.1, fun i a b => ?_⟩, ?_, ?_, fun r' i a b d => ?_, ?_, ?_, fun k k1 k2 => ?_⟩
    · rw [← e1.2 i a b]; funext k
      rw [u1n _ _ _ _ _ _ (by omega), u1n _ _ _ _ _ _ (by omega), u1n _ _ _ _ _ _ (by omega), u1n _ _ _ _ _ _ (by omega), u1n _ _ _ _ _ _ (by omega)]
    · rw [u1n _ _ _ _ _ _ (by omega), u1n _ _ _ _ _ _ (by omega), u1n _ _ _ _ _ _ (by omega), u1n _ _ _ _ _ _ (by omega), u1n _ _ _ _ _ _ (by omega)]; exact e2
    · rw [u1n _ _ _ _ _ _ (by omega), u1n _ _ _ _ _ _ (by omega), u1n _ _ _ _ _ _ (by omega), u1n _ _ _ _ _ _ (by omega), u1n _ _ _ _ _ _ (by omega)]; exact e3
    · rw [u1n _ _ _ _ _ _ (by omega), u1n _ _ _ _ _ _ (by omega), u1n _ _ _ _ _ _ (by omega), u1n _ _ _ _ _ _ (by omega), u1n _ _ _ _ _ _ (by omega)]; exact e4 r' i a b d
    · rw [u1n _ _ _ _ _ _ (by omega), u1n _ _ _ _ _ _ (by omega), u1n _ _ _ _ _ _ (by omega), u1n _ _ _ _ _ _ (by omega), u1n _ _ _ _ _ _ (by omega)]; exact e5
    · rw [u1n _ _ _ _ _ _ (by omega), u1n _ _ _ _ _ _ (by omega), u1n _ _ _ _ _ _ (by omega), u1n _ _ _ _ _ _ (by omega), u1s]; exact hx
    · rcases (show k = 1 ∨ k = 2 ∨ k = 3 ∨ k = 4 by omega) with rfl | rfl | rfl | rfl
      · rw [u1n _ _ _ _ _ _ (by omega), u1n _ _ _ _ _ _ (by omega), u1n _ _ _ _ _ _ (by omega), u1s, u1n _ _ _ _ _ _ (by omega), f32]
      · rw [u1n _ _ _ _ _ _ (by omega), u1n _ _ _ _ _ _ (by omega), u1s, u1n _ _ _ _ _ _ (by omega), u1n _ _ _ _ _ _ (by omega), f32]
      · rw [u1n _ _ _ _ _ _ (by omega), u1s, u1n _ _ _ _ _ _ (by omega), u1n _ _ _ _ _ _ (by omega), u1n _ _ _ _ _ _ (by omega), f32]
      · rw [u1s, u1n _ _ _ _ _ _ (by omega), u1n _ _ _ _ _ _ (by omega), u1n _ _ _ _ _ _ (by omega), u1n _ _ _ _ _ _ (by omega), f32]
  unfold f_ac_keepSale
  rw [e0, obind, f32, hc]
  cases cl
  · rw [if_pos (by decide)]; exact key 0 rfl
  · rw [if_neg (by decide)]; exact key 1 rfl
end
