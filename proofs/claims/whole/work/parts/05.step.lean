section EST
variable {p : Program} {l : Launch} {e : Env} {R : Room} {s : State} {m : MethodId} {args : Array Value} {below : List Frame} {meth : Method} {c : Code} {cc : ByteArray} {own : String} {nL : Nat} {ad : Nat → Nat} {D : va_G} {cA : Nat → ClassId} {cl : List vw_C} {SH : List eSh} {SS : List eS} {Ts : List Cond} {ret : Option FieldType}
def eWorld (ad : Nat → Nat) (D : va_G) (cA : Nat → ClassId) (cl : List vw_C) (SH : List eSh) (SS : List eS) (w : eW) (U : State) : Prop := va_P D cl (eWs ad cA w 0 SH) U.heap ∧ va_K D cl (eTys cA) U ∧ eInj ad SH.length ∧ eStat ad SH.length SS U
def ePost (ad : Nat → Nat) (D : va_G) (cA : Nat → ClassId) (cl : List vw_C) (SH : List eSh) (v : Option Value) (w' : eW) : Array Value → State → Outcome → State → Prop := fun _ st oc t => oc = .returned (v.map (eC ad)) ∧ va_P D cl (eWs ad cA w' 0 SH) t.heap ∧ va_F (eA ad SH.length) st t
def eMet (l : Launch) (ad : Nat → Nat) (D : va_G) (cA : Nat → ClassId) (cl : List vw_C) (SH : List eSh) (SS : List eS) (y : MethodName) (ws : List Cond) (rm : Room) (as : List Value) (w : eW) (v : Option Value) (w' : eW) : Prop := Met l y ws rm (va_Pc (as.map (eC ad)) (eWorld ad D cA cl SH SS w)) (ePost ad D cA cl SH v w') 0 0 (eA ad SH.length)
/-- a call's words and room, its callee's contract -/
def eCal (l : Launch) (R : Room) (ad : Nat → Nat) (D : va_G) (cA : Nat → ClassId) (cl : List vw_C) (SH : List eSh) (SS : List eS) (Ts : List Cond) (own : String) (ix n : Nat) (z : Int) (as : List Value) (w : eW) (v : Option Value) (w' : eW) : Prop :=
  ∃ (y : MethodName) (bytes : ByteArray) (maxL : Nat) (ret : Option FieldType) (ws ws' : List Cond) (rm : Room), eMet l ad D cA cl SH SS y ws rm as w v w' ∧ ws = Cond.code y bytes maxL ret :: ws' ∧ rm.cells = 0 ∧ rm.slots = 0 ∧ (rm.frames + 1 ≤ R.frames ∧ 8 + (maxL + 11) + rm.locals ≤ R.locals) ∧ (y.cls ≠ "java/lang/invoke/MethodHandle" ∧ y.cls ≠ "java/lang/invoke/VarHandle" ∧ (parseMethodDescriptor y.desc).map (fun d => d.parameters.length) = some n) ∧ (match z with
    | .negSucc _ => GoodIn Ts (va_wsS own ix y ws)
    | .ofNat ci => GoodIn Ts (wsV own ix y.cls y ws) ∧ ∃ (T : u_T) (N : Nat), cl[ci]? = some (y.cls, T, N))
theorem eStat.moved {n : Nat} {u U : State} (h : eStat ad n SS u) (hvm : u.vm.Alike U.vm) (hq : ∀ a : Nat, a < u.heap.size → ¬ eA ad n a → U.heap[a]? = u.heap[a]?) : eStat ad n SS U := fun k q hk => ⟨(h k q hk).1.imp id (fun z => (z.moved hvm).kept hq), ((h k q hk).2.moved hvm).kept hq⟩
theorem eWorld.blind {as : List Value} {w : eW} : FrameBlind (va_Pc (as.map (eC ad)) (eWorld ad D cA cl SH SS w)) := by
  intro a U g mk h
  obtain ⟨h1, h2, h3, h4, h5⟩ := h
  exact ⟨h1, h2, va_K.moved (u := U) (U := U.calling g mk a) (Vm.Alike.refl U.vm) h3, h4, eStat.moved (u := U) (U := U.calling g mk a) h5 (Vm.Alike.refl U.vm) (fun _ _ _ => rfl)⟩
theorem eWorld.pre {as : List Value} {w : eW} {H : Heap} {locs : List Loc} (hK : va_K D cl (eTys cA) s) (hi : eInj ad SH.length) (hst : eStat ad SH.length SS s) (hP : va_P D cl (eWs ad cA w 0 SH) H) (hS : va_S (eA ad SH.length) s.heap H locs) : ∀ U : State, U.heap = H → s.WarmedH U.vm → va_Pc (as.map (eC ad)) (eWorld ad D cA cl SH SS w) (as.map (eC ad)).toArray U := fun U hU hW => ⟨rfl, by rw [hU]; exact hP, va_K.moved hW.alike hK, hi, eStat.moved hst hW.alike (fun a h1 h2 => by rw [hU]; exact hS.2.1 a h1 h2)⟩
theorem eCall_W {cells slots : Nat} {Q : State → Prop} {H : Heap} {locs : List Loc} {pc : Nat} {ls : Array Slot} {st0 rest : List Value} {a : Array Value} {v : Option Value} {w' : eW} (hr : va_Run p l e R s m args below meth c H locs cells slots 0 0 (F0 m pc ls st0) rest (ePost ad D cA cl SH v w' a) (eA ad SH.length)) (hS : va_S (eA ad SH.length) s.heap H locs)
    (kk : ∀ (H1 : Heap) (locs1 : List Loc), va_P D cl (eWs ad cA w' 0 SH) H1 → va_S (eA ad SH.length) s.heap H1 locs1 → W p l e R s m args below meth c H1 locs1 cells slots Q (F0 m (pc + 3) ls ((v.map (eC ad)).toList ++ rest))) : W p l e R s m args below meth c H locs cells slots Q (F0 m pc ls st0) := by
  intro T hT X
  obtain ⟨v1, st₀, t, T', L, h0, X', hL, e1, e2, ⟨hv, hp, hz, hk⟩, st⟩ := hr T hT X
  cases hv
  rw [h0] at hz hk
  obtain ⟨t2, a1, b1⟩ := kk T'.heap (locs ++ L) (by rw [e1]; exact hp)
    ⟨Nat.le_trans hS.1 (by rw [e1]; exact hz), fun q h1 h2 => by rw [e1, hk q (Nat.lt_of_lt_of_le h1 hS.1) h2]; exact hS.2.1 q h1 h2, fun q hq => by
      rcases List.mem_append.mp hq with h | h
      · exact hS.2.2 q h
      · exact hL q h⟩ T' rfl X'
  exact ⟨t2, st t2 a1, b1⟩
theorem eFv_C (w : eW) (o k : Nat) (f : Nat × Nat) : eC ad (eFv (fun a => a) w o k f) = eFv ad w o k f := by
  unfold eFv
  split <;> rfl
theorem eToList (v : Option Value) (st : List Value) : (v.toList ++ st).map (eC ad) = (v.map (eC ad)).toList ++ st.map (eC ad) := by cases v <;> simp
/-- what a method's answer is by its type -/
def eRet (ret : Option FieldType) (v : Option Value) : Prop := match v with
  | none => ret = none
  | some (.int r) => ret = some .int ∨ (ret = some .boolean ∧ (r = 0 ∨ r = 1))
  | some (.long _) => ret = some .long
  | some (.double _) => ret = some .double
  | some (.float _) => ret = some .float
  | some (.ref _) => ∃ t, ret = some (.array t)
  | _ => False
def eQ {ρ : Type} (ad : Nat → Nat) (D : va_G) (cA : Nat → ClassId) (cl : List vw_C) (SH : List eSh) (rt : Option Value → eW → Option ρ) (x : ρ) : Array Value → State → Outcome → State → Prop := fun a st oc t => ∃ (v : Option Value) (w' : eW), rt v w' = some x ∧ ePost ad D cA cl SH v w' a st oc t
theorem eBr_go {ρ : Type} {x : ρ} {k : Nat → Option ρ} {pc : Nat} {off : Int} {cnd : Prop} {d : Decidable cnd} (h : eBr k pc off cnd d = some x) : ∃ t : Nat, (pc : Int) + off = (t : Int) ∧ (cnd → k t = some x) ∧ (¬ cnd → k (pc + 3) = some x) := by
  unfold eBr at h
  split at h
  · rename_i t ht
    refine ⟨t, eTo_some ht, fun hc => ?_, fun hc => ?_⟩
    · rw [if_pos hc] at h; exact h
    · rw [if_neg hc] at h; exact h
  · cases h
theorem eSw_go {ρ : Type} {x : ρ} {k : Nat → Option ρ} {pc : Nat} {v : Int32} {dflt : Int} : ∀ (os : List Int) (lo : Int), -2147483648 ≤ lo → lo + os.length ≤ 2147483648 → eSw k pc v dflt lo os = some x → (∃ (j : Nat) (o : Int) (t : Nat), os[j]? = some o ∧ v.toInt = lo + j ∧ (pc : Int) + o = (t : Int) ∧ k t = some x) ∨ ((v.toInt < lo ∨ lo + os.length ≤ v.toInt) ∧ ∃ t : Nat, (pc : Int) + dflt = (t : Int) ∧ k t = some x)
  | [], lo, _, _, h => by
    refine Or.inr ⟨by simp; omega, ?_⟩
    unfold eSw at h
    split at h
    · rename_i t ht
      exact ⟨t, eTo_some ht, h⟩
    · cases h
  | o :: os, lo, h1, h2, h => by
    simp only [List.length_cons, Int.natCast_add, Int.cast_ofNat_Int] at h2
    unfold eSw at h
    by_cases hv : v = Int32.ofInt lo
    · rw [if_pos hv] at h
      split at h
      · rename_i t ht
        refine Or.inl ⟨0, o, t, rfl, ?_, eTo_some ht, h⟩
        rw [hv, Int32.toInt_ofInt_of_le (by omega) (by omega)]
        simp
      · cases h
    · rw [if_neg hv] at h
      have hne : v.toInt ≠ lo := fun z => hv (by rw [← z, Int32.ofInt_toInt])
      rcases eSw_go os (lo + 1) (by omega) (by omega) h with ⟨j, o2, t, a1, a2, a3, a4⟩ | ⟨a1, a2⟩
      · exact Or.inl ⟨j + 1, o2, t, by simpa using a1, by rw [a2]; simp; omega, a3, a4⟩
      · refine Or.inr ⟨?_, a2⟩
        simp only [List.length_cons, Int.natCast_add, Int.cast_ofNat_Int]
        omega
theorem eChk_go {ρ : Type} {x : ρ} {i : Int32} {n : Nat} {v : Option ρ} (h : eChk i n v = some x) : vp_in i n ∧ v = some x := by
  unfold eChk at h
  split at h
  · rename_i hi
    exact ⟨hi, h⟩
  · cases h
theorem eBif {ρ : Type} {x : ρ} {b : Bool} {v : Option ρ} (h : (bif b then v else none) = some x) : b = true ∧ v = some x := by
  cases b with
  | true => exact ⟨rfl, h⟩
  | false => cases h
theorem eTys_1 : (eTys cA)[0]? = some (cA 0, .int) := rfl
end EST
