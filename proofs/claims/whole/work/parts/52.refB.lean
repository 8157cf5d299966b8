section
variable {n : Nat} {F : Nat → Nat → Int} {wv : Int32} {told : Bool} {set : Int32} {cv : Int}
theorem eins_ok {a b : List (Int × Int)} {s : Int × Int} (hp : (a ++ b).Pairwise (fun x y => eV x ≤ eV y)) (hb : ∀ x, x ∈ b → eV s < eV x) (ha : ∀ x, a.getLast? = some x → eV x ≤ eV s) : (a ++ s :: b).Pairwise (fun x y => eV x ≤ eV y) := by
  rw [List.pairwise_append] at hp ⊢
  obtain ⟨h1, h2, h3⟩ := hp
  have all : ∀ x, x ∈ a → eV x ≤ eV s := by
    rcases List.eq_nil_or_concat a with e | ⟨c, l, e⟩
    · rw [e]; simp
    · have hl := ha l (by rw [e]; simp)
      intro x hx
      rw [e] at h1 hx
      rw [List.concat_eq_append] at h1 hx
      rw [List.pairwise_append] at h1
      rcases List.mem_append.mp hx with hx | hx
      · have := h1.2.2 x hx l (by simp)
        grind
      · simp at hx
        rw [hx]; exact hl
  refine ⟨h1, List.pairwise_cons.mpr ⟨fun x hx => by have := hb x hx; grind, h2⟩, ?_⟩
  intro x hx y hy
  rcases List.mem_cons.mp hy with hy | hy
  · rw [hy]; exact all x hx
  · exact h3 x hx y hy
def ES (w : eW) (l : List (Int × Int)) : Prop := ∃ l' : List (Int × Int), l'.Perm l ∧ l'.Pairwise (fun x y => eV x ≤ eV y) ∧ EV w l'
theorem m_edge {w : eW} {l : List (Int × Int)} (h : ES w l) (hl : l.length < 30) (hg : ∀ p, p ∈ l → Eb p) {p : Int × Int} (hp : Eb p) : Ok (f_mm_edge (Int64.ofInt p.1) (Int64.ofInt p.2) w) fun w' => KE w w' ∧ ES w' (l ++ [p]) := by
  obtain ⟨l', h1, h2, h3, h4⟩ := h
  have ll := h1.length_eq
  have hg' : ∀ q, q ∈ l' → Eb q := fun q hq => hg q (h1.mem_iff.mp hq)
  unfold f_mm_edge
  rw [h3]
  refine Ok.imp (edge_loop (l := l') (by omega) hg' hp l'.length eFu (by rw [eFu_eq]; omega) (Nat.le_refl _) w h3 (fun i q _ hq => h4 i q hq)) ?_
  rintro w' ⟨b, b1, b2, b3, b4, b5, b6, b7, b8, b9, b10⟩
  refine ⟨b4, l'.take b ++ p :: l'.drop b, ?_, ?_, ?_, ?_⟩
  · refine List.perm_middle.trans ?_
    rw [List.take_append_drop]
    exact (List.Perm.cons _ h1).trans (List.perm_append_comm (l₁ := [p]) (l₂ := l))
  · refine eins_ok (by rw [List.take_append_drop]; exact h2) ?_ ?_
    · intro x hx
      obtain ⟨i, hi, rfl⟩ := List.getElem_of_mem hx
      rw [List.length_drop] at hi
      rw [List.getElem_drop]
      have hb := hg' l'[b + i] (List.getElem_mem _)
      rw [eV_lt hp.2.1 hb.2.1]
      exact b2 (b + i) _ (by omega) (by omega) (List.getElem?_eq_getElem _)
    · intro x hx
      rw [List.getLast?_eq_getElem?, List.length_take, Nat.min_eq_left b1] at hx
      by_cases z : b = 0
      · subst z
        simp at hx
      · rw [List.getElem?_take_of_lt (by omega)] at hx
        have hb := hg' x (List.mem_of_getElem? hx)
        rw [← Rat.not_lt, eV_lt hp.2.1 hb.2.1]
        exact b3 x (by omega) hx
  · rw [b5]
    congr 2
    rw [List.length_append, List.length_cons, List.length_take, List.length_drop]
    omega
  · intro i q hi
    rcases Nat.lt_trichotomy i b with c | c | c
    · rw [List.getElem?_append_left (by rw [List.length_take]; omega), List.getElem?_take_of_lt c] at hi
      rw [(b6 i c).1, (b6 i c).2]
      exact h4 i q hi
    · subst c
      rw [List.getElem?_append_right (by rw [List.length_take]; omega), List.length_take, Nat.min_eq_left b1, Nat.sub_self, List.getElem?_cons_zero] at hi
      cases hi
      exact ⟨b7, b8⟩
    · obtain ⟨j, rfl⟩ : ∃ j, i = j + 1 := ⟨i - 1, by omega⟩
      rw [List.getElem?_append_right (by rw [List.length_take]; omega), List.length_take, Nat.min_eq_left b1, show j + 1 - b = (j - b) + 1 by omega, List.getElem?_cons_succ, List.getElem?_drop, show b + (j - b) = j by omega] at hi
      have hj : j < l'.length := (List.getElem?_eq_some_iff.mp hi).1
      rw [(b9 j (by omega) hj).1, (b9 j (by omega) hj).2]
      exact h4 j q hi
theorem edgs_good (hF : FOK n F cv) : ∀ k, k ≤ n → ∀ p, p ∈ edgs F wv told set k → Eb p
  | 0, _, p, hp => by
    simp only [edgs, List.mem_singleton] at hp
    subst hp
    exact ⟨by decide, by decide, by decide, by decide⟩
  | k + 1, hk, p, hp => by
    simp only [edgs, List.mem_append] at hp
    rcases hp with hp | hp
    · exact edgs_good hF k (by omega) p hp
    · exact edg_good hF (by omega) p hp
theorem edg_len (h : Nat) : (edg F wv told set h).length ≤ 2 := by
  unfold edg
  repeat' split
  all_goals simp
theorem edgs_len : ∀ k, (edgs F wv told set k).length ≤ 2 * k + 1
  | 0 => by simp [edgs]
  | k + 1 => by
    have := edgs_len k
    have := edg_len (F := F) (wv := wv) (told := told) (set := set) k
    simp only [edgs, List.length_append]
    omega
theorem edges_loop (hF : FOK n F cv) : ∀ (d k f : Nat), k + d = n → d < f → ∀ w : eW, MT w n F cv wv told set → ES w (edgs F wv told set k) →
    Ok (f_mm_layEdges_L13 f (Int32.ofInt (k : Nat)) w) fun w' => KE w w' ∧ ES w' (edgs F wv told set n) := by
  have hn := hF.1
  intro d
  induction d with
  | zero =>
    intro k f hk hf w hM es
    obtain ⟨f, rfl⟩ : ∃ g, f = g + 1 := ⟨f - 1, by omega⟩
    obtain rfl : k = n := by omega
    unfold f_mm_layEdges_L13
    rw [hM.many, if_pos (by rw [ile (by omega) (by omega) (by omega) (by omega)]; omega)]
    exact Ok.ret ⟨⟨fun _ _ _ => rfl, fun _ _ _ => rfl⟩, es⟩
  | succ d ih =>
    intro k f hk hf w hM es
    obtain ⟨f, rfl⟩ : ∃ g, f = g + 1 := ⟨f - 1, by omega⟩
    have hkn : k < n := by omega
    have fh := hF.hd hkn
    have e := hM.1.2.2.2 k hkn
    have pb := pref_b (wv := wv) hF hkn
    have len := edgs_len (F := F) (wv := wv) (told := told) (set := set) k
    have G := edgs_good (wv := wv) (told := told) (set := set) hF k (by omega)
    have Ge := edg_good (wv := wv) (told := told) (set := set) hF hkn
    -- what comes behind this holder
    have next : ∀ w2, KE w w2 → ES w2 (edgs F wv told set k ++ edg F wv told set k) → Ok (f_mm_layEdges_L13 f (Int32.ofInt ((k + 1 : Nat) : Int)) w2) fun w' => KE w w' ∧ ES w' (edgs F wv told set n) := by
      intro w2 k2 es2
      refine Ok.imp (ih (k + 1) f (by omega) (by omega) w2 (hM.kl k2.kl) es2) ?_
      rintro w' ⟨q1, q2⟩
      exact ⟨k2.tr q1, q2⟩
    have none_ : edg F wv told set k = [] → Ok (f_mm_layEdges_L13 f (Int32.ofInt ((k + 1 : Nat) : Int)) w) fun w' => KE w w' ∧ ES w' (edgs F wv told set n) := by
      intro en
      exact next w ⟨fun _ _ _ => rfl, fun _ _ _ => rfl⟩ (by rw [en, List.append_nil]; exact es)
    have key100 : ∀ a : Int, (100 : Int64) * Int64.ofInt a = Int64.ofInt (100 * a) := fun a => by rw [jlit100, ← Int64.ofInt_mul]
    have tp : w.1 24 36 = b2i told := hM.2.1
    have join : edg F wv told set k = (if F k 0 = 2 ∧ F k 6 = 1 ∧ F k 7 ≠ -1 ∧ tnd told set F k = false then
    (if told = true then [(100 * (top F wv k - pref F wv k), F k 5)] else [(100 * (top F wv k - pref F wv k), F k 5), (100 * top F wv k, F k 5)])
  else []) → Ok (f_mm_layEdges_J100 (f_mm_layEdges_L13 f) (Int32.ofInt (k : Nat)) w) fun w' => KE w w' ∧ ES w' (edgs F wv told set n) := by
      intro ee
      unfold f_mm_layEdges_J100
      simp (disch := omega) only [eChk_of, icl, nat_i, e.1, isucc]
      by_cases h2 : F k 0 = 2
      · have e3 := e.2.2.2 h2
        rw [if_neg (by rw [h2]; exact fun z => z rfl), e3 6 (by omega) (by omega), e3 7 (by omega) (by omega)]
        by_cases h6 : F k 6 = 1
        · rw [if_neg (by rw [h6]; exact fun z => z rfl)]
          by_cases h7 : F k 7 = -1
          · rw [if_pos (by rw [h7]; decide)]
            exact none_ (by rw [ee, if_neg (fun z => z.2.2.1 h7)])
          · rw [if_neg (by rw [show (0 : Int32) = Int32.ofInt 0 from rfl, ilt (by omega) (by omega) (by omega) (by omega)]; omega), m_isTurned hF hM.1 hM.2.1 hM.2.2 hkn, obind]
            simp only [b2i_0]
            by_cases ht : tnd told set F k = false
            · have hc : canT F k = true := by unfold canT; simp only [decide_eq_true_eq]; exact ⟨h2, .inr h7⟩
              have l := lid_b (wv := wv) hF hkn hc
              rw [show lid F wv k = top F wv k by unfold lid; rw [if_neg (by omega)]] at l
              rw [if_pos ⟨h2, h6, h7, ht⟩] at ee
              rw [if_neg (fun z => z ht), m_topOf hF hM.1 hkn h2 h7, obind]
              dsimp only
              rw [m_prefOf hF hM.1 hkn, obind]
              dsimp only
              rw [e3 5 (by omega) (by omega), ← Int32.ofInt_sub, i2j (by omega) (by omega), i2j (by omega) (by omega), key100]
              have m1 : (100 * (top F wv k - pref F wv k), F k 5) ∈ edg F wv told set k := by rw [ee]; split <;> simp
              refine Ok.bind (m_edge es (by omega) G (p := (100 * (top F wv k - pref F wv k), F k 5)) (Ge _ m1)) ?_
              rintro w2 ⟨k2, es2⟩
              have hM2 := hM.kl k2.kl
              rw [hM2.2.1]
              simp only [b2i_0]
              by_cases tf : told = false
              · rw [if_neg (fun z => z tf), m_topOf hF hM2.1 hkn h2 h7, obind]
                dsimp only
                rw [(hM2.1.2.2.2 k hkn).2.2.2 h2 5 (by omega) (by omega), i2j (by omega) (by omega), i2j (by omega) (by omega), key100]
                rw [if_neg (by rw [tf]; decide)] at ee
                have m2 : (100 * top F wv k, F k 5) ∈ edg F wv told set k := by rw [ee]; simp
                refine Ok.bind (m_edge es2 (by rw [List.length_append, List.length_singleton]; omega) ?_ (p := (100 * top F wv k, F k 5)) (Ge _ m2)) ?_
                · intro q hq
                  rcases List.mem_append.mp hq with hq | hq
                  · exact G q hq
                  · rw [List.mem_singleton.mp hq]; exact Ge _ m1
                · rintro w3 ⟨k3, es3⟩
                  refine next w3 (k2.tr k3) ?_
                  rw [ee]
                  rw [List.append_assoc] at es3
                  exact es3
              · rw [if_pos tf]
                refine next w2 k2 ?_
                rw [ee, if_pos (by simpa using tf)]
                exact es2
            · rw [if_pos ht]
              exact none_ (by rw [ee, if_neg (fun z => ht z.2.2.2)])
        · rw [if_pos (by rw [show (1 : Int32) = Int32.ofInt 1 from rfl, ieq (by omega) (by omega) (by omega) (by omega)]; exact h6)]
          exact none_ (by rw [ee, if_neg (fun z => h6 z.2.1)])
      · rw [if_pos (by rw [show (2 : Int32) = Int32.ofInt 2 from rfl, ieq (by omega) (by omega) (by omega) (by omega)]; exact h2)]
        exact none_ (by rw [ee, if_neg (fun z => h2 z.1)])
    unfold f_mm_layEdges_L13
    rw [hM.many, if_neg (by rw [ile (by omega) (by omega) (by omega) (by omega)]; omega)]
    simp (disch := omega) only [eChk_of, icl, nat_i, e.1, isucc]
    by_cases h1 : F k 0 = 1
    · have g := fh.2.2.2.2.1 h1
      rw [if_neg (by rw [h1]; exact fun z => z rfl), e.2.2.1 (by omega), i2j (by omega) (by omega), key100]
      have ee : edg F wv told set k = [(100 * F k 2, 1)] := by unfold edg; rw [if_pos h1]
      refine Ok.bind (m_edge es (by omega) G (p := (100 * F k 2, 1)) (Ge _ (by rw [ee]; simp))) ?_
      rintro w2 ⟨k2, es2⟩
      exact next w2 k2 (by rw [ee]; exact es2)
    · rw [if_pos (by rw [show (1 : Int32) = Int32.ofInt 1 from rfl, ieq (by omega) (by omega) (by omega) (by omega)]; exact h1)]
      by_cases h2 : F k 0 = 2
      · have e3 := e.2.2.2 h2
        rw [if_neg (by rw [h2]; exact fun z => z rfl), e3 6 (by omega) (by omega), tp]
        by_cases h6 : F k 6 = 0
        · rw [if_neg (by rw [h6]; exact fun z => z rfl)]
          simp only [b2i_0]
          by_cases tf : told = false
          · rw [if_neg (fun z => z tf), m_prefOf hF hM.1 hkn, obind]
            dsimp only
            rw [e3 5 (by omega) (by omega), i2j (by omega) (by omega), i2j (by omega) (by omega), key100]
            have ee : edg F wv told set k = [(100 * pref F wv k, F k 5)] := by unfold edg; rw [if_neg h1, if_pos ⟨h2, h6, tf⟩]
            refine Ok.bind (m_edge es (by omega) G (p := (100 * pref F wv k, F k 5)) (Ge _ (by rw [ee]; simp))) ?_
            rintro w2 ⟨k2, es2⟩
            exact next w2 k2 (by rw [ee]; exact es2)
          · rw [if_pos tf]
            exact join (by unfold edg; rw [if_neg h1, if_neg (fun z => tf z.2.2)])
        · rw [if_pos (by rw [show (0 : Int32) = Int32.ofInt 0 from rfl, ieq (by omega) (by omega) (by omega) (by omega)]; exact h6)]
          exact join (by unfold edg; rw [if_neg h1, if_neg (fun z => h6 z.2.1)])
      · rw [if_pos (by rw [show (2 : Int32) = Int32.ofInt 2 from rfl, ieq (by omega) (by omega) (by omega) (by omega)]; exact h2)]
        exact join (by unfold edg; rw [if_neg h1, if_neg (fun z => h2 z.1)])
theorem m_layEdges (hF : FOK n F cv) {w : eW} (hM : MT w n F cv wv told set) : Ok (f_mm_layEdges w) fun w' => KE w w' ∧ ES w' (edgs F wv told set n) := by
  unfold f_mm_layEdges
  have k0 : KE w (eU1 w 24 34 0) := ⟨fun i k h => u1n _ _ _ _ _ _ (by omega), fun _ _ _ => rfl⟩
  refine Ok.bind (m_edge (w := eU1 w 24 34 0) (l := []) ⟨[], .refl _, by simp, by rw [u1s]; rfl, by simp⟩ (by decide) (by simp) (p := (0, 1)) ⟨by decide, by decide, by decide, by decide⟩) ?_
  rintro w1 ⟨k1, es⟩
  refine Ok.imp (edges_loop hF n 0 eFu (by omega) (by rw [eFu_eq]; have := hF.1; omega) w1 (hM.kl (k0.tr k1).kl) es) ?_
  rintro w' ⟨q1, q2⟩
  exact ⟨(k0.tr k1).tr q1, q2⟩
end
section
variable {n : Nat} {F : Nat → Nat → Int} {wv : Int32} {told : Bool} {set : Int32} {cv : Int}
def KC (k : Nat) (w w' : eW) : Prop := w'.1 = w.1 ∧ ∀ i j, ¬ (i = 14 ∧ j = k) → ¬ (i = 15 ∧ j = k) → w'.2 i j = w.2 i j
theorem KC.kl {k : Nat} {w w' : eW} (h : KC k w w') : KL w w' := fun i j h1 h2 => ⟨by rw [h.1], h.2 i j (by omega) (by omega)⟩
theorem KC.rfl {k : Nat} {w : eW} : KC k w w := ⟨Eq.refl _, fun _ _ _ _ => Eq.refl _⟩
theorem KC.u2 {k i : Nat} {w v : eW} {x : Int64} (h : KC k w v) (hi : i = 14 ∨ i = 15) : KC k w (eU2 v i k x) := ⟨h.1, fun a b h1 h2 => by rw [u2n _ _ _ _ _ _ (by omega)]; exact h.2 a b h1 h2⟩
theorem KC.tr {k : Nat} {a b c : eW} (h : KC k a b) (g : KC k b c) : KC k a c := ⟨g.1.trans h.1, fun i j h1 h2 => (g.2 i j h1 h2).trans (h.2 i j h1 h2)⟩
theorem eV_cmp {p : Int × Int} (hp : Eb p) {a q : Int} : (100 * (a : Rat) ≤ eV p * (q : Rat)) ↔ 100 * a * p.2 ≤ p.1 * q := by
  have d : (0 : Rat) < (p.2 : Rat) := by exact_mod_cast hp.2.1
  have e : eV p * (p.2 : Rat) = (p.1 : Rat) := Rat.div_mul_cancel (by grind)
  have : (100 * a * p.2 ≤ p.1 * q) ↔ ((100 * a * p.2 : Int) : Rat) ≤ ((p.1 * q : Int) : Rat) := Rat.intCast_le_intCast.symm
  rw [this]
  simp only [Rat.intCast_mul]
  constructor
  · intro h
    have g := Rat.mul_le_mul_of_nonneg_right h (Rat.le_of_lt d)
    rw [Rat.mul_assoc (eV p), Rat.mul_comm (q : Rat), ← Rat.mul_assoc, e] at g
    exact g
  · intro h
    rw [← e, Rat.mul_assoc (eV p), Rat.mul_comm (p.2 : Rat) (q : Rat), ← Rat.mul_assoc] at h
    exact Rat.le_of_mul_le_mul_right h d
theorem eV_cmp1 {p : Int × Int} (hp : Eb p) {a : Int} : (100 * (a : Rat) ≤ eV p) ↔ 100 * a * p.2 ≤ p.1 := by
  have := eV_cmp hp (a := a) (q := 1)
  rw [Int.mul_one] at this
  rw [← this]
  grind
theorem m_layClass (hF : FOK n F cv) {k : Nat} (hk : k < n) (h2 : F k 0 = 2) {p : Int × Int} (hp : Eb p) {w : eW} (hM : MT w n F cv wv told set) (e14 : w.2 14 k = Int64.ofInt (fst_ told set F wv k)) (e15 : w.2 15 k = 0) :
    Ok (f_mm_layClass (Int32.ofInt (k : Nat)) (Int64.ofInt p.1) (Int64.ofInt p.2) w) fun w' => KC k w w' ∧ w'.2 14 k = Int64.ofInt (rfx F wv told set k (eV p)) ∧ w'.2 15 k = Int64.ofInt (gor F wv told set k (eV p)) := by
  have hn := hF.1
  have fh := hF.hd hk
  have e := hM.1.2.2.2 k hk
  have e3 := e.2.2.2 h2
  have pb := pref_b (wv := wv) hF hk
  have n0 : ¬ F k 0 = 0 := by omega
  have n1 : ¬ F k 0 = 1 := by omega
  have key100 : ∀ a : Int, (100 : Int64) * Int64.ofInt a = Int64.ofInt (100 * a) := fun a => by rw [jlit100, ← Int64.ofInt_mul]
  have up := mul_le4 (a := p.1) (b := F k 5) (A := 19800000) (B := 400) (by omega) (by omega) (by omega) (by omega)
  unfold f_mm_layClass
  rw [m_isTurned hF hM.1 hM.2.1 hM.2.2 hk]
  simp (disch := omega) only [eChk_of, icl, nat_i, obind, b2i_0]
  rw [e3 5 (by omega) (by omega), e3 6 (by omega) (by omega), e3 7 (by omega) (by omega), i2j (by omega) (by omega), ← Int64.ofInt_mul]
  have goes : ∀ (hg : gor F wv told set k (eV p) = F k 5) (hf : rfx F wv told set k (eV p) = fst_ told set F wv k), Ok (some (eU2 w 15 k (Int64.ofInt (F k 5)))) fun w' => KC k w w' ∧ w'.2 14 k = Int64.ofInt (rfx F wv told set k (eV p)) ∧ w'.2 15 k = Int64.ofInt (gor F wv told set k (eV p)) := by
    intro hg hf
    refine Ok.ret ⟨KC.rfl.u2 (by omega), ?_, ?_⟩
    · rw [u2n _ _ _ _ _ _ (by omega), e14, hf]
    · rw [u2s, hg]
  by_cases ht : tnd told set F k = true
  · rw [if_pos (by simp [ht])]
    have hor : tnd told set F k = true ∨ canT F k = false := .inl ht
    exact goes (by unfold gor; rw [if_neg n0, if_neg n1, if_pos hor]) (by unfold rfx; rw [if_neg n0, if_neg n1, if_pos hor])
  have ht' : tnd told set F k = false := by simpa using ht
  rw [if_neg (fun z => z ht')]
  have ef : fst_ told set F wv k = pref F wv k := by unfold fst_; rw [if_neg ht]
  have join : canT F k = true → Ok (f_mm_layClass_J54 (Int32.ofInt (k : Nat)) (Int64.ofInt p.2) (Int64.ofInt (p.1 * F k 5)) w) fun w' => KC k w w' ∧ w'.2 14 k = Int64.ofInt (rfx F wv told set k (eV p)) ∧ w'.2 15 k = Int64.ofInt (gor F wv told set k (eV p)) := by
    intro hc
    have hor : ¬ (tnd told set F k = true ∨ canT F k = false) := by simp [ht, hc]
    have l := lid_b (wv := wv) hF hk hc
    unfold rfx gor
    rw [if_neg n0, if_neg n1, if_neg hor, if_neg n0, if_neg n1, if_neg hor]
    simp only [eV_cmp hp, ← Rat.intCast_sub]
    unfold f_mm_layClass_J54
    simp (disch := omega) only [eChk_of, icl, nat_i]
    rw [e3 6 (by omega) (by omega), hM.2.1]
    simp only [b2i_0]
    by_cases h6 : F k 6 = 0
    · rw [if_neg (by rw [h6]; exact fun z => z rfl), if_pos h6, if_pos h6]
      have m1 := mul_le4 (a := 100 * pref F wv k) (b := p.2) (A := 9900000) (B := 400) (by omega) (by omega) (by omega) (by omega)
      have no : Ok (f_mm_layClass_J94 (Int32.ofInt (k : Nat)) 0 w) fun w' => KC k w w' ∧ w'.2 14 k = Int64.ofInt (pref F wv k) ∧ w'.2 15 k = Int64.ofInt 0 := by
        unfold f_mm_layClass_J94
        rw [if_pos rfl, m_prefOf hF hM.1 hk, obind]
        simp (disch := omega) only [eChk_of, icl, nat_i, if_true, i2j]
        refine Ok.ret ⟨(KC.rfl.u2 (by omega)).u2 (by omega), ?_, u2s _ _ _ _⟩
        rw [u2n _ _ _ _ _ _ (by omega), u2s]
      have yes : Ok (f_mm_layClass_J94 (Int32.ofInt (k : Nat)) 1 w) fun w' => KC k w w' ∧ w'.2 14 k = Int64.ofInt 0 ∧ w'.2 15 k = Int64.ofInt (F k 5) := by
        unfold f_mm_layClass_J94
        rw [if_neg (by decide), if_neg (by decide)]
        simp (disch := omega) only [eChk_of, icl, nat_i]
        rw [e3 5 (by omega) (by omega), i2j (by omega) (by omega)]
        refine Ok.ret ⟨(KC.rfl.u2 (by omega)).u2 (by omega), ?_, u2s _ _ _ _⟩
        rw [u2n _ _ _ _ _ _ (by omega), u2s]; rfl
      by_cases tf : told = false
      · rw [if_neg (fun z => z tf), m_prefOf hF hM.1 hk, obind]
        dsimp only
        rw [i2j (by omega) (by omega), key100, ← Int64.ofInt_mul]
        simp (disch := omega) only [lg_cmp_lt, jlt]
        by_cases c : 100 * pref F wv k * p.2 ≤ p.1 * F k 5
        · rw [if_neg (by omega), if_pos ⟨tf, c⟩, if_pos ⟨tf, c⟩]
          exact yes
        · rw [if_pos (by omega), if_neg (fun z => c z.2), if_neg (fun z => c z.2)]
          exact no
      · rw [if_pos tf, if_neg (fun z => tf z.1), if_neg (fun z => tf z.1)]
        exact no
    · rw [if_pos (by rw [show (0 : Int32) = Int32.ofInt 0 from rfl, ieq (by omega) (by omega) (by omega) (by omega)]; exact h6), if_neg h6, if_neg h6]
      have h7 : F k 7 ≠ -1 := by
        unfold canT at hc
        simp only [decide_eq_true_eq] at hc
        omega
      rw [show lid F wv k = top F wv k by unfold lid; rw [if_neg h6]] at l
      have m1 := mul_le4 (a := 100 * top F wv k) (b := p.2) (A := 19800000) (B := 400) (by omega) (by omega) (by omega) (by omega)
      have m2 := mul_le4 (a := 100 * (top F wv k - pref F wv k)) (b := p.2) (A := 19800000) (B := 400) (by omega) (by omega) (by omega) (by omega)
      have rest : Ok (f_mm_layClass_J191 (Int32.ofInt (k : Nat)) (Int64.ofInt p.2) (Int64.ofInt (p.1 * F k 5)) w) fun w' => KC k w w' ∧ w'.2 14 k = Int64.ofInt (if 100 * (top F wv k - pref F wv k) * p.2 ≤ p.1 * F k 5 then top F wv k else pref F wv k) ∧ w'.2 15 k = Int64.ofInt (if 100 * (top F wv k - pref F wv k) * p.2 ≤ p.1 * F k 5 then 0 else F k 5) := by
        unfold f_mm_layClass_J191
        rw [m_topOf hF hM.1 hk h2 h7, obind]
        dsimp only
        rw [m_prefOf hF hM.1 hk, obind]
        dsimp only
        rw [← Int32.ofInt_sub, i2j (by omega) (by omega), key100, ← Int64.ofInt_mul, m_topOf hF hM.1 hk h2 h7, obind]
        simp (disch := omega) only [lg_cmp_lt, jlt, eChk_of, icl, nat_i]
        rw [e3 5 (by omega) (by omega), i2j (by omega) (by omega), i2j (by omega) (by omega)]
        by_cases c : 100 * (top F wv k - pref F wv k) * p.2 ≤ p.1 * F k 5
        · rw [if_neg (by omega), if_pos c, if_pos c]
          refine Ok.ret ⟨KC.rfl.u2 (by omega), u2s _ _ _ _, ?_⟩
          rw [u2n _ _ _ _ _ _ (by omega), e15]; rfl
        · rw [if_pos (by omega), if_neg c, if_neg c]
          refine Ok.ret ⟨KC.rfl.u2 (by omega), ?_, u2s _ _ _ _⟩
          rw [u2n _ _ _ _ _ _ (by omega), e14, ef]
      by_cases tf : told = false
      · rw [if_neg (fun z => z tf), m_topOf hF hM.1 hk h2 h7, obind]
        dsimp only
        rw [i2j (by omega) (by omega), key100, ← Int64.ofInt_mul]
        simp (disch := omega) only [lg_cmp_lt, jlt]
        by_cases c : 100 * top F wv k * p.2 ≤ p.1 * F k 5
        · have c' : told = false ∧ 100 * top F wv k * p.2 ≤ p.1 * F k 5 := ⟨tf, c⟩
          rw [if_neg (by omega), if_pos c', if_pos c', e3 5 (by omega) (by omega), i2j (by omega) (by omega)]
          refine Ok.ret ⟨(KC.rfl.u2 (by omega)).u2 (by omega), ?_, u2s _ _ _ _⟩
          rw [u2n _ _ _ _ _ _ (by omega), u2s]; rfl
        · have c' : ¬ (told = false ∧ 100 * top F wv k * p.2 ≤ p.1 * F k 5) := fun z => c z.2
          rw [if_pos (by omega), if_neg c', if_neg c']
          exact rest
      · have c' : ¬ (told = false ∧ 100 * top F wv k * p.2 ≤ p.1 * F k 5) := fun z => tf z.1
        rw [if_pos tf, if_neg c', if_neg c']
        exact rest
  by_cases h6 : F k 6 = 1
  · rw [if_neg (by rw [h6]; exact fun z => z rfl)]
    by_cases h7 : F k 7 = -1
    · rw [if_neg (by rw [h7]; decide)]
      have hor : tnd told set F k = true ∨ canT F k = false := .inr (by unfold canT; simp only [decide_eq_false_iff_not]; omega)
      exact goes (by unfold gor; rw [if_neg n0, if_neg n1, if_pos hor]) (by unfold rfx; rw [if_neg n0, if_neg n1, if_pos hor])
    · rw [if_pos (by rw [show (0 : Int32) = Int32.ofInt 0 from rfl, ile (by omega) (by omega) (by omega) (by omega)]; omega)]
      exact join (by unfold canT; simp only [decide_eq_true_eq]; exact ⟨h2, .inr h7⟩)
  · rw [if_pos (by rw [show (1 : Int32) = Int32.ofInt 1 from rfl, ieq (by omega) (by omega) (by omega) (by omega)]; exact h6)]
    exact join (by unfold canT; simp only [decide_eq_true_eq]; exact ⟨h2, .inl (by omega)⟩)
end
