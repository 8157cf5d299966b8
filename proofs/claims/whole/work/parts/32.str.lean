def RJ0 : String := "java/lang/String"
abbrev cJ0_length_8abf5 : ByteArray := prog_17_method_54_code
def yJ0_length_8abf5 : MethodName := ⟨RJ0, "length", "()I"⟩
abbrev cJ0_charAt_5068e : ByteArray := prog_17_method_56_code
def yJ0_charAt_5068e : MethodName := ⟨RJ0, "charAt", "(I)C"⟩
abbrev cJ0_coder_7d493 : ByteArray := prog_17_method_152_code
def yJ0_coder_7d493 : MethodName := ⟨RJ0, "coder", "()B"⟩
abbrev cJ0_isLatin1_aae02 : ByteArray := prog_17_method_154_code
def yJ0_isLatin1_aae02 : MethodName := ⟨RJ0, "isLatin1", "()Z"⟩
abbrev cJ0_checkIndex_df160 : ByteArray := prog_17_method_155_code
def yJ0_checkIndex_df160 : MethodName := ⟨RJ0, "checkIndex", "(II)V"⟩
def RJ1 : String := "java/lang/StringLatin1"
abbrev cJ1_charAt_3b067 : ByteArray := prog_18_method_2_code
def yJ1_charAt_3b067 : MethodName := ⟨RJ1, "charAt", "([BI)C"⟩
def RJ2 : String := "java/lang/StringUTF16"
def RJ3 : String := "jdk/internal/util/Preconditions"
abbrev cJ3_checkIndex_8e157 : ByteArray := prog_21_method_11_code
def yJ3_checkIndex_8e157 : MethodName := ⟨RJ3, "checkIndex", "(IILjava/util/function/BiFunction;)I"⟩
theorem dJ0_length_8abf5_0 : decode cJ0_length_8abf5 0 = .ok (.aload_n 0, 1) := by decide +kernel
theorem dJ0_length_8abf5_1 : decode cJ0_length_8abf5 1 = .ok (.getfield 9, 3) := by decide +kernel
theorem dJ0_length_8abf5_4 : decode cJ0_length_8abf5 4 = .ok (.arraylength, 1) := by decide +kernel
theorem dJ0_length_8abf5_5 : decode cJ0_length_8abf5 5 = .ok (.aload_n 0, 1) := by decide +kernel
theorem dJ0_length_8abf5_6 : decode cJ0_length_8abf5 6 = .ok (.invokevirtual 335, 3) := by decide +kernel
theorem dJ0_length_8abf5_9 : decode cJ0_length_8abf5 9 = .ok (.ishr, 1) := by decide +kernel
theorem dJ0_length_8abf5_10 : decode cJ0_length_8abf5 10 = .ok (.ireturn, 1) := by decide +kernel
theorem dJ0_coder_7d493_0 : decode cJ0_coder_7d493 0 = .ok (.getstatic 38, 3) := by decide +kernel
theorem dJ0_coder_7d493_3 : decode cJ0_coder_7d493 3 = .ok (.ifCond .eq 10, 3) := by decide +kernel
theorem dJ0_coder_7d493_6 : decode cJ0_coder_7d493 6 = .ok (.aload_n 0, 1) := by decide +kernel
theorem dJ0_coder_7d493_7 : decode cJ0_coder_7d493 7 = .ok (.getfield 15, 3) := by decide +kernel
theorem dJ0_coder_7d493_10 : decode cJ0_coder_7d493 10 = .ok (.goto 4, 3) := by decide +kernel
theorem dJ0_coder_7d493_13 : decode cJ0_coder_7d493 13 = .ok (.iconst 1, 1) := by decide +kernel
theorem dJ0_coder_7d493_14 : decode cJ0_coder_7d493 14 = .ok (.ireturn, 1) := by decide +kernel
theorem dJ0_isLatin1_aae02_0 : decode cJ0_isLatin1_aae02 0 = .ok (.getstatic 38, 3) := by decide +kernel
theorem dJ0_isLatin1_aae02_3 : decode cJ0_isLatin1_aae02 3 = .ok (.ifCond .eq 14, 3) := by decide +kernel
theorem dJ0_isLatin1_aae02_6 : decode cJ0_isLatin1_aae02 6 = .ok (.aload_n 0, 1) := by decide +kernel
theorem dJ0_isLatin1_aae02_7 : decode cJ0_isLatin1_aae02 7 = .ok (.getfield 15, 3) := by decide +kernel
theorem dJ0_isLatin1_aae02_10 : decode cJ0_isLatin1_aae02 10 = .ok (.ifCond .ne 7, 3) := by decide +kernel
theorem dJ0_isLatin1_aae02_13 : decode cJ0_isLatin1_aae02 13 = .ok (.iconst 1, 1) := by decide +kernel
theorem dJ0_isLatin1_aae02_14 : decode cJ0_isLatin1_aae02 14 = .ok (.goto 4, 3) := by decide +kernel
theorem dJ0_isLatin1_aae02_17 : decode cJ0_isLatin1_aae02 17 = .ok (.iconst 0, 1) := by decide +kernel
theorem dJ0_isLatin1_aae02_18 : decode cJ0_isLatin1_aae02 18 = .ok (.ireturn, 1) := by decide +kernel
theorem dJ0_charAt_5068e_0 : decode cJ0_charAt_5068e 0 = .ok (.aload_n 0, 1) := by decide +kernel
theorem dJ0_charAt_5068e_1 : decode cJ0_charAt_5068e 1 = .ok (.invokevirtual 492, 3) := by decide +kernel
theorem dJ0_charAt_5068e_4 : decode cJ0_charAt_5068e 4 = .ok (.ifCond .eq 12, 3) := by decide +kernel
theorem dJ0_charAt_5068e_7 : decode cJ0_charAt_5068e 7 = .ok (.aload_n 0, 1) := by decide +kernel
theorem dJ0_charAt_5068e_8 : decode cJ0_charAt_5068e 8 = .ok (.getfield 9, 3) := by decide +kernel
theorem dJ0_charAt_5068e_11 : decode cJ0_charAt_5068e 11 = .ok (.iload_n 1, 1) := by decide +kernel
theorem dJ0_charAt_5068e_12 : decode cJ0_charAt_5068e 12 = .ok (.invokestatic 495, 3) := by decide +kernel
theorem dJ0_charAt_5068e_15 : decode cJ0_charAt_5068e 15 = .ok (.ireturn, 1) := by decide +kernel
theorem dJ1_charAt_3b067_0 : decode cJ1_charAt_3b067 0 = .ok (.iload_n 1, 1) := by decide +kernel
theorem dJ1_charAt_3b067_1 : decode cJ1_charAt_3b067 1 = .ok (.aload_n 0, 1) := by decide +kernel
theorem dJ1_charAt_3b067_2 : decode cJ1_charAt_3b067 2 = .ok (.arraylength, 1) := by decide +kernel
theorem dJ1_charAt_3b067_3 : decode cJ1_charAt_3b067 3 = .ok (.invokestatic 9, 3) := by decide +kernel
theorem dJ1_charAt_3b067_6 : decode cJ1_charAt_3b067 6 = .ok (.aload_n 0, 1) := by decide +kernel
theorem dJ1_charAt_3b067_7 : decode cJ1_charAt_3b067 7 = .ok (.iload_n 1, 1) := by decide +kernel
theorem dJ1_charAt_3b067_8 : decode cJ1_charAt_3b067 8 = .ok (.baload, 1) := by decide +kernel
theorem dJ1_charAt_3b067_9 : decode cJ1_charAt_3b067 9 = .ok (.sipush 255, 3) := by decide +kernel
theorem dJ1_charAt_3b067_12 : decode cJ1_charAt_3b067 12 = .ok (.iand, 1) := by decide +kernel
theorem dJ1_charAt_3b067_13 : decode cJ1_charAt_3b067 13 = .ok (.i2c, 1) := by decide +kernel
theorem dJ1_charAt_3b067_14 : decode cJ1_charAt_3b067 14 = .ok (.ireturn, 1) := by decide +kernel
theorem dJ0_checkIndex_df160_0 : decode cJ0_checkIndex_df160 0 = .ok (.iload_n 0, 1) := by decide +kernel
theorem dJ0_checkIndex_df160_1 : decode cJ0_checkIndex_df160 1 = .ok (.iload_n 1, 1) := by decide +kernel
theorem dJ0_checkIndex_df160_2 : decode cJ0_checkIndex_df160 2 = .ok (.getstatic 1053, 3) := by decide +kernel
theorem dJ0_checkIndex_df160_5 : decode cJ0_checkIndex_df160 5 = .ok (.invokestatic 1059, 3) := by decide +kernel
theorem dJ0_checkIndex_df160_8 : decode cJ0_checkIndex_df160 8 = .ok (.pop, 1) := by decide +kernel
theorem dJ0_checkIndex_df160_9 : decode cJ0_checkIndex_df160 9 = .ok (.return_, 1) := by decide +kernel
theorem dJ3_checkIndex_8e157_0 : decode cJ3_checkIndex_8e157 0 = .ok (.iload_n 0, 1) := by decide +kernel
theorem dJ3_checkIndex_8e157_1 : decode cJ3_checkIndex_8e157 1 = .ok (.ifCond .lt 8, 3) := by decide +kernel
theorem dJ3_checkIndex_8e157_4 : decode cJ3_checkIndex_8e157 4 = .ok (.iload_n 0, 1) := by decide +kernel
theorem dJ3_checkIndex_8e157_5 : decode cJ3_checkIndex_8e157 5 = .ok (.iload_n 1, 1) := by decide +kernel
theorem dJ3_checkIndex_8e157_6 : decode cJ3_checkIndex_8e157 6 = .ok (.if_icmp .lt 10, 3) := by decide +kernel
theorem dJ3_checkIndex_8e157_16 : decode cJ3_checkIndex_8e157 16 = .ok (.iload_n 0, 1) := by decide +kernel
theorem dJ3_checkIndex_8e157_17 : decode cJ3_checkIndex_8e157 17 = .ok (.ireturn, 1) := by decide +kernel
set_option maxRecDepth 100000 in
set_option maxHeartbeats 4000000 in
theorem wcJ0_coder_7d493 : Cond.code yJ0_coder_7d493 cJ0_coder_7d493 1 (some .byte) ∈ eTb := tb1 105 rfl rfl
set_option maxRecDepth 100000 in
set_option maxHeartbeats 4000000 in
theorem wnJ0_coder_7d493 : Cond.initialized yJ0_coder_7d493.cls ∈ eTb := tb1 5 rfl rfl
theorem hdJ0_coder_7d493 : yJ0_coder_7d493.cls ≠ "java/lang/invoke/MethodHandle" ∧ yJ0_coder_7d493.cls ≠ "java/lang/invoke/VarHandle" ∧ (parseMethodDescriptor yJ0_coder_7d493.desc).map (fun d => d.parameters.length) = some 0 := by decide +kernel
set_option maxRecDepth 100000 in
set_option maxHeartbeats 4000000 in
theorem wiJ0_coder_7d493 : Cond.instanceMethod yJ0_coder_7d493 ∈ eTb := tb1 103 rfl rfl
set_option maxRecDepth 100000 in
set_option maxHeartbeats 4000000 in
theorem wlJ0_coder_7d493 : Cond.selects yJ0_coder_7d493.cls yJ0_coder_7d493 yJ0_coder_7d493 ∈ eTb := tb1 104 rfl rfl
set_option maxRecDepth 100000 in
set_option maxHeartbeats 4000000 in
theorem wcJ0_isLatin1_aae02 : Cond.code yJ0_isLatin1_aae02 cJ0_isLatin1_aae02 1 (some .boolean) ∈ eTb := tb1 115 rfl rfl
set_option maxRecDepth 100000 in
set_option maxHeartbeats 4000000 in
theorem wnJ0_isLatin1_aae02 : Cond.initialized yJ0_isLatin1_aae02.cls ∈ eTb := tb1 5 rfl rfl
theorem hdJ0_isLatin1_aae02 : yJ0_isLatin1_aae02.cls ≠ "java/lang/invoke/MethodHandle" ∧ yJ0_isLatin1_aae02.cls ≠ "java/lang/invoke/VarHandle" ∧ (parseMethodDescriptor yJ0_isLatin1_aae02.desc).map (fun d => d.parameters.length) = some 0 := by decide +kernel
set_option maxRecDepth 100000 in
set_option maxHeartbeats 4000000 in
theorem wiJ0_isLatin1_aae02 : Cond.instanceMethod yJ0_isLatin1_aae02 ∈ eTb := tb1 113 rfl rfl
set_option maxRecDepth 100000 in
set_option maxHeartbeats 4000000 in
theorem wlJ0_isLatin1_aae02 : Cond.selects yJ0_isLatin1_aae02.cls yJ0_isLatin1_aae02 yJ0_isLatin1_aae02 ∈ eTb := tb1 114 rfl rfl
set_option maxRecDepth 100000 in
set_option maxHeartbeats 4000000 in
theorem wcJ0_length_8abf5 : Cond.code yJ0_length_8abf5 cJ0_length_8abf5 1 (some .int) ∈ eTb := tb1 101 rfl rfl
set_option maxRecDepth 100000 in
set_option maxHeartbeats 4000000 in
theorem wnJ0_length_8abf5 : Cond.initialized yJ0_length_8abf5.cls ∈ eTb := tb1 5 rfl rfl
theorem hdJ0_length_8abf5 : yJ0_length_8abf5.cls ≠ "java/lang/invoke/MethodHandle" ∧ yJ0_length_8abf5.cls ≠ "java/lang/invoke/VarHandle" ∧ (parseMethodDescriptor yJ0_length_8abf5.desc).map (fun d => d.parameters.length) = some 0 := by decide +kernel
set_option maxRecDepth 100000 in
set_option maxHeartbeats 4000000 in
theorem wiJ0_length_8abf5 : Cond.instanceMethod yJ0_length_8abf5 ∈ eTb := tb1 99 rfl rfl
set_option maxRecDepth 100000 in
set_option maxHeartbeats 4000000 in
theorem wlJ0_length_8abf5 : Cond.selects yJ0_length_8abf5.cls yJ0_length_8abf5 yJ0_length_8abf5 ∈ eTb := tb1 100 rfl rfl
set_option maxRecDepth 100000 in
set_option maxHeartbeats 4000000 in
theorem wcJ0_charAt_5068e : Cond.code yJ0_charAt_5068e cJ0_charAt_5068e 2 (some .char) ∈ eTb := tb1 111 rfl rfl
set_option maxRecDepth 100000 in
set_option maxHeartbeats 4000000 in
theorem wnJ0_charAt_5068e : Cond.initialized yJ0_charAt_5068e.cls ∈ eTb := tb1 5 rfl rfl
theorem hdJ0_charAt_5068e : yJ0_charAt_5068e.cls ≠ "java/lang/invoke/MethodHandle" ∧ yJ0_charAt_5068e.cls ≠ "java/lang/invoke/VarHandle" ∧ (parseMethodDescriptor yJ0_charAt_5068e.desc).map (fun d => d.parameters.length) = some 1 := by decide +kernel
set_option maxRecDepth 100000 in
set_option maxHeartbeats 4000000 in
theorem wiJ0_charAt_5068e : Cond.instanceMethod yJ0_charAt_5068e ∈ eTb := tb1 109 rfl rfl
set_option maxRecDepth 100000 in
set_option maxHeartbeats 4000000 in
theorem wlJ0_charAt_5068e : Cond.selects yJ0_charAt_5068e.cls yJ0_charAt_5068e yJ0_charAt_5068e ∈ eTb := tb1 110 rfl rfl
set_option maxRecDepth 100000 in
set_option maxHeartbeats 4000000 in
theorem wcJ1_charAt_3b067 : Cond.code yJ1_charAt_3b067 cJ1_charAt_3b067 2 (some .char) ∈ eTb := tb1 118 rfl rfl
set_option maxRecDepth 100000 in
set_option maxHeartbeats 4000000 in
theorem wnJ1_charAt_3b067 : Cond.initialized yJ1_charAt_3b067.cls ∈ eTb := tb1 6 rfl rfl
theorem hdJ1_charAt_3b067 : yJ1_charAt_3b067.cls ≠ "java/lang/invoke/MethodHandle" ∧ yJ1_charAt_3b067.cls ≠ "java/lang/invoke/VarHandle" ∧ (parseMethodDescriptor yJ1_charAt_3b067.desc).map (fun d => d.parameters.length) = some 2 := by decide +kernel
set_option maxRecDepth 100000 in
set_option maxHeartbeats 4000000 in
theorem wsJ1_charAt_3b067 : Cond.static yJ1_charAt_3b067 ∈ eTb := tb1 117 rfl rfl
set_option maxRecDepth 100000 in
set_option maxHeartbeats 4000000 in
theorem wcJ0_checkIndex_df160 : Cond.code yJ0_checkIndex_df160 cJ0_checkIndex_df160 2 none ∈ eTb := tb1 121 rfl rfl
set_option maxRecDepth 100000 in
set_option maxHeartbeats 4000000 in
theorem wnJ0_checkIndex_df160 : Cond.initialized yJ0_checkIndex_df160.cls ∈ eTb := tb1 5 rfl rfl
theorem hdJ0_checkIndex_df160 : yJ0_checkIndex_df160.cls ≠ "java/lang/invoke/MethodHandle" ∧ yJ0_checkIndex_df160.cls ≠ "java/lang/invoke/VarHandle" ∧ (parseMethodDescriptor yJ0_checkIndex_df160.desc).map (fun d => d.parameters.length) = some 2 := by decide +kernel
set_option maxRecDepth 100000 in
set_option maxHeartbeats 4000000 in
theorem wsJ0_checkIndex_df160 : Cond.static yJ0_checkIndex_df160 ∈ eTb := tb1 120 rfl rfl
set_option maxRecDepth 100000 in
set_option maxHeartbeats 4000000 in
theorem wcJ3_checkIndex_8e157 : Cond.code yJ3_checkIndex_8e157 cJ3_checkIndex_8e157 3 (some .int) ∈ eTb := tb1 126 rfl rfl
set_option maxRecDepth 100000 in
set_option maxHeartbeats 4000000 in
theorem wnJ3_checkIndex_8e157 : Cond.initialized yJ3_checkIndex_8e157.cls ∈ eTb := tb1 7 rfl rfl
theorem hdJ3_checkIndex_8e157 : yJ3_checkIndex_8e157.cls ≠ "java/lang/invoke/MethodHandle" ∧ yJ3_checkIndex_8e157.cls ≠ "java/lang/invoke/VarHandle" ∧ (parseMethodDescriptor yJ3_checkIndex_8e157.desc).map (fun d => d.parameters.length) = some 3 := by decide +kernel
set_option maxRecDepth 100000 in
set_option maxHeartbeats 4000000 in
theorem wsJ3_checkIndex_8e157 : Cond.static yJ3_checkIndex_8e157 ∈ eTb := tb1 125 rfl rfl
def kText : String := "common option class carve at rank times ratio sharing cap yearly "
def kByt : List Int32 := [99, 111, 109, 109, 111, 110, 32, 111, 112, 116, 105, 111, 110, 32, 99, 108, 97, 115, 115, 32, 99, 97, 114, 118, 101, 32, 97, 116, 32, 114, 97, 110, 107, 32, 116, 105, 109, 101, 115, 32, 114, 97, 116, 105, 111, 32, 115, 104, 97, 114, 105, 110, 103, 32, 99, 97, 112, 32, 121, 101, 97, 114, 108, 121, 32]
/-- the reader's text: a String with its bytes, outside of A; two statics of the JDK -/
def eKS (aK aV : Nat) (A : Nat → Prop) (U : State) : Prop := vk_R "ExitFalls$Reader" 33 kText aK U ∧ va_O "java/lang/String" aK A U U.heap ∧ va_OF "java/lang/String" "coder" "B" (.int 0) aK A U U.heap ∧ va_OF "java/lang/String" "value" "[B" (.ref aV) aK A U U.heap ∧ va_T .byte aV 65 (fun j => .int (kByt.getD j 0)) A U U.heap ∧ va_Z "java/lang/String" "COMPACT_STRINGS" "Z" (.int 1) A U U.heap ∧ va_Zq "jdk/internal/util/Preconditions" "SIOOBE_FORMATTER" "Ljava/util/function/BiFunction;" A U U.heap
theorem eKS.sub {aK aV : Nat} {A B : Nat → Prop} {u U : State} (h : eKS aK aV A u) (hW : u.WarmedH U.vm) (hq : ∀ a : Nat, a < u.heap.size → ¬ A a → U.heap[a]? = u.heap[a]?) (hAB : ∀ q, B q → A q) : eKS aK aV B U :=
  ⟨h.1.warm hW, ((h.2.1.moved hW.alike).kept hq).narrow hAB, ((h.2.2.1.moved hW.alike).kept hq).narrow hAB, ((h.2.2.2.1.moved hW.alike).kept hq).narrow hAB, ((h.2.2.2.2.1.moved hW.alike).kept hq).narrow hAB, ((h.2.2.2.2.2.1.moved hW.alike).kept hq).narrow hAB, ((h.2.2.2.2.2.2.moved hW.alike).kept hq).narrow hAB⟩
theorem eKS.call {aK aV : Nat} {A : Nat → Prop} {U : State} {g : JFrame} {mk : MethodId} {a : Array Value} (h : eKS aK aV A U) : eKS aK aV A (U.calling g mk a) :=
  ⟨h.1.same rfl, h.2.1.moved (Vm.Alike.refl U.vm), h.2.2.1.moved (Vm.Alike.refl U.vm), h.2.2.2.1.moved (Vm.Alike.refl U.vm), h.2.2.2.2.1.moved (Vm.Alike.refl U.vm), h.2.2.2.2.2.1.moved (Vm.Alike.refl U.vm), h.2.2.2.2.2.2.moved (Vm.Alike.refl U.vm)⟩
theorem eKS.go {aK aV : Nat} {A : Nat → Prop} {s U : State} {H : Heap} {locs : List Loc} (h : eKS aK aV A s) (hS : va_S A s.heap H locs) (hU : U.heap = H) (hW : s.WarmedH U.vm) : eKS aK aV A U := h.sub hW (fun a h1 h2 => by rw [hU]; exact hS.2.1 a h1 h2) (fun _ z => z)
section
variable {p : Program} {l : Launch} {e : Env} {R : Room} {s : State} {m : MethodId} {args : Array Value} {below : List Frame} {meth : Method} {c : Code} {H : Heap} {locs : List Loc} {cells slots : Nat} {Q : State → Prop}
/-- behind a call that leaves the heap as it was -/
theorem kS_int {A : Nat → Prop} {pc : Nat} {ls : Array Slot} {st0 rest : List Value} {a : Array Value} {post : Int32 → Prop} (hr : va_Run p l e R s m args below meth c H locs cells slots 0 0 (F0 m pc ls st0) rest (vp_Si post a) (fun _ => False)) (hS : va_S A s.heap H locs) (kk : ∀ r : Int32, post r → ∀ locs1 : List Loc, (∀ q ∈ locs1, q ∈ locs) → va_S A s.heap H locs1 → W p l e R s m args below meth c H locs1 cells slots Q (F0 m (pc + 3) ls (.int r :: rest))) : W p l e R s m args below meth c H locs cells slots Q (F0 m pc ls st0) := by
  intro T hT X
  obtain ⟨v1, st₀, t, T', L, h0, X', hL, e1, e2, ⟨r, hv, hp, hh⟩, st⟩ := hr T hT X
  cases hv
  have hT' : T'.heap = H := by rw [e1, hh, h0]
  obtain ⟨t2, a1, b1⟩ := kk r hp (locs ++ L) (fun q hq => (List.mem_append.mp hq).elim id (fun z => (hL q z).elim)) ⟨hS.1, hS.2.1, fun q hq => (List.mem_append.mp hq).elim (hS.2.2 q) (fun z => (hL q z).elim)⟩ T' hT' X'
  exact ⟨t2, st t2 a1, b1⟩
theorem kS_void {A : Nat → Prop} {pc : Nat} {ls : Array Slot} {st0 rest : List Value} {a : Array Value} (hr : va_Run p l e R s m args below meth c H locs cells slots 0 0 (F0 m pc ls st0) rest (va_Sv (fun _ => True) a) (fun _ => False)) (hS : va_S A s.heap H locs) (kk : ∀ locs1 : List Loc, (∀ q ∈ locs1, q ∈ locs) → va_S A s.heap H locs1 → W p l e R s m args below meth c H locs1 cells slots Q (F0 m (pc + 3) ls rest)) : W p l e R s m args below meth c H locs cells slots Q (F0 m pc ls st0) := by
  intro T hT X
  obtain ⟨v1, st₀, t, T', L, h0, X', hL, e1, e2, ⟨hv, hp, hh⟩, st⟩ := hr T hT X
  cases hv
  have hT' : T'.heap = H := by rw [e1, hh, h0]
  obtain ⟨t2, a1, b1⟩ := kk (locs ++ L) (fun q hq => (List.mem_append.mp hq).elim id (fun z => (hL q z).elim)) ⟨hS.1, hS.2.1, fun q hq => (List.mem_append.mp hq).elim (hS.2.2 q) (fun z => (hL q z).elim)⟩ T' hT' X'
  exact ⟨t2, st t2 a1, b1⟩
end
set_option maxRecDepth 100000 in
set_option maxHeartbeats 4000000 in
theorem cs_coder (l : Launch) (aK aV : Nat) (A : Nat → Prop) : Met l yJ0_coder_7d493 (eWd yJ0_coder_7d493 cJ0_coder_7d493 1 (some .byte)) { frames := 0, cells := 0, slots := 0, locals := 0 } (va_Pc [.ref aK] (eKS aK aV A)) (vp_Si (fun r => r = 0)) 0 0 (fun _ => False) := by
  refine Met.ofW (cc := cJ0_coder_7d493) (maxL := 1) (ret := (some .byte)) (by decide +kernel) rfl ?_
  intro p e s m args below meth c s₁ B hml hv
  obtain ⟨rfl, hE⟩ := hv
  have hx := B.exec
  have hb := B.bytes
  have hr := B.returns
  have hts := atoms_spec (ws := (eWd yJ0_coder_7d493 cJ0_coder_7d493 1 (some .byte))) B.pre
  have hown : s.vm.findClass RJ0 = some m.cls := findClass_of_methodNamed B.named
  have hlocks := B.notSynchronized
  have hS : va_S A s.heap s.heap [] := va_S.rf
  have hl := lv_entry ([.ref aK]) (n := 1) (Nat.le_of_ble_eq_true rfl)
  rw [lg_entry_eq]
  generalize (lg_sl ([.ref aK]) ++ List.replicate (1 - (lg_sl ([.ref aK])).length) Slot.unset).toArray = ls at hl ⊢
  have hl : lv_has ls 1 [(0, .ref aK)] := hl
  refine va_gets hx hb hE.2.2.2.2.2.1 hS hown (hts (.fieldLink RJ0 38 "java/lang/String" "COMPACT_STRINGS" "Z") (eTb_wd _ (tb1 106 rfl rfl))) (fun _ z => z) dJ0_coder_7d493_0 ?_
  refine lv_if_eq (tgt := 13) hx hb dJ0_coder_7d493_3 (by decide) (fun z => absurd z (by decide)) (fun _ => ?_)
  refine lv_aload_n hx hb dJ0_coder_7d493_6 rfl (lv_at hl 0 rfl) ?_
  refine vk_getf hx hb hE.2.2.1 hS hown (hts (.fieldLink RJ0 15 "java/lang/String" "coder" "B") (eTb_wd _ (tb7 172 rfl rfl))) (fun _ z => z) dJ0_coder_7d493_7 ?_
  refine lv_goto (tgt := 14) hx hb dJ0_coder_7d493_10 (by decide) ?_
  exact W.zret hx hb hr rfl (fun t ht hW => ⟨0, rfl, rfl, ht⟩) (fun q hq => absurd hq List.not_mem_nil) dJ0_coder_7d493_14
set_option maxRecDepth 100000 in
set_option maxHeartbeats 4000000 in
theorem cs_isLatin1 (l : Launch) (aK aV : Nat) (A : Nat → Prop) : Met l yJ0_isLatin1_aae02 (eWd yJ0_isLatin1_aae02 cJ0_isLatin1_aae02 1 (some .boolean)) { frames := 0, cells := 0, slots := 0, locals := 0 } (va_Pc [.ref aK] (eKS aK aV A)) (vp_Si (fun r => r = 1)) 0 0 (fun _ => False) := by
  refine Met.ofW (cc := cJ0_isLatin1_aae02) (maxL := 1) (ret := (some .boolean)) (by decide +kernel) rfl ?_
  intro p e s m args below meth c s₁ B hml hv
  obtain ⟨rfl, hE⟩ := hv
  have hx := B.exec
  have hb := B.bytes
  have hr := B.returns
  have hts := atoms_spec (ws := (eWd yJ0_isLatin1_aae02 cJ0_isLatin1_aae02 1 (some .boolean))) B.pre
  have hown : s.vm.findClass RJ0 = some m.cls := findClass_of_methodNamed B.named
  have hlocks := B.notSynchronized
  have hS : va_S A s.heap s.heap [] := va_S.rf
  have hl := lv_entry ([.ref aK]) (n := 1) (Nat.le_of_ble_eq_true rfl)
  rw [lg_entry_eq]
  generalize (lg_sl ([.ref aK]) ++ List.replicate (1 - (lg_sl ([.ref aK])).length) Slot.unset).toArray = ls at hl ⊢
  have hl : lv_has ls 1 [(0, .ref aK)] := hl
  refine va_gets hx hb hE.2.2.2.2.2.1 hS hown (hts (.fieldLink RJ0 38 "java/lang/String" "COMPACT_STRINGS" "Z") (eTb_wd _ (tb1 106 rfl rfl))) (fun _ z => z) dJ0_isLatin1_aae02_0 ?_
  refine lv_if_eq (tgt := 17) hx hb dJ0_isLatin1_aae02_3 (by decide) (fun z => absurd z (by decide)) (fun _ => ?_)
  refine lv_aload_n hx hb dJ0_isLatin1_aae02_6 rfl (lv_at hl 0 rfl) ?_
  refine vk_getf hx hb hE.2.2.1 hS hown (hts (.fieldLink RJ0 15 "java/lang/String" "coder" "B") (eTb_wd _ (tb7 172 rfl rfl))) (fun _ z => z) dJ0_isLatin1_aae02_7 ?_
  refine lv_if_ne (tgt := 17) hx hb dJ0_isLatin1_aae02_10 (by decide) (fun z => absurd rfl z) (fun _ => ?_)
  refine lv_iconst (v := 1) hx hb dJ0_isLatin1_aae02_13 (by decide) ?_
  refine lv_goto (tgt := 18) hx hb dJ0_isLatin1_aae02_14 (by decide) ?_
  exact W.zret hx hb hr rfl (fun t ht hW => ⟨1, rfl, rfl, ht⟩) (fun q hq => absurd hq List.not_mem_nil) dJ0_isLatin1_aae02_18
set_option maxRecDepth 100000 in
set_option maxHeartbeats 4000000 in
theorem cs_length (l : Launch) (aK aV : Nat) (A : Nat → Prop) : Met l yJ0_length_8abf5 (eWd yJ0_length_8abf5 cJ0_length_8abf5 1 (some .int)) { frames := 1, cells := 0, slots := 0, locals := 20 } (va_Pc [.ref aK] (eKS aK aV A)) (vp_Si (fun r => r = 65)) 0 0 (fun _ => False) := by
  refine Met.ofW (cc := cJ0_length_8abf5) (maxL := 1) (ret := (some .int)) (by decide +kernel) rfl ?_
  intro p e s m args below meth c s₁ B hml hv
  obtain ⟨rfl, hE⟩ := hv
  have hx := B.exec
  have hb := B.bytes
  have hr := B.returns
  have hts := atoms_spec (ws := (eWd yJ0_length_8abf5 cJ0_length_8abf5 1 (some .int))) B.pre
  have hown : s.vm.findClass RJ0 = some m.cls := findClass_of_methodNamed B.named
  have hlocks := B.notSynchronized
  have hS : va_S A s.heap s.heap [] := va_S.rf
  have hl := lv_entry ([.ref aK]) (n := 1) (Nat.le_of_ble_eq_true rfl)
  rw [lg_entry_eq]
  generalize (lg_sl ([.ref aK]) ++ List.replicate (1 - (lg_sl ([.ref aK])).length) Slot.unset).toArray = ls at hl ⊢
  have hl : lv_has ls 1 [(0, .ref aK)] := hl
  refine lv_aload_n hx hb dJ0_length_8abf5_0 rfl (lv_at hl 0 rfl) ?_
  refine vk_getf hx hb hE.2.2.2.1 hS hown (hts (.fieldLink RJ0 9 "java/lang/String" "value" "[B") (eTb_wd _ (tb7 171 rfl rfl))) (fun _ z => z) dJ0_length_8abf5_1 ?_
  refine va_tlen hx hb hE.2.2.2.2.1 hS (v := 65) rfl dJ0_length_8abf5_4 ?_
  refine lv_aload_n hx hb dJ0_length_8abf5_5 rfl (lv_at hl 0 rfl) ?_
  refine kS_int (va_runV (As := []) (rest := [.int 65]) ⟨hx, hb, hml, hown, hts⟩ (cs_coder l aK aV A) (cwV 0 hts (eGoodV eTb_wd (tb1 102 rfl rfl) wiJ0_coder_7d493 wlJ0_coder_7d493 wnJ0_coder_7d493 wcJ0_coder_7d493) rfl rfl rfl ⟨rfl, hdJ0_coder_7d493⟩ ⟨Nat.le_of_ble_eq_true rfl, Nat.le_of_ble_eq_true rfl⟩) ⟨fun a U g mk q => ⟨q.1, q.2.call⟩, (by obtain ⟨cell, g1, g2, g3, -⟩ := hE.2.1.kept hS.2.1; exact ⟨cell, g1, g2, g3⟩), fun U hU hW => ⟨rfl, hE.go hS hU hW⟩⟩ rfl rfl hl.1 rfl (lv_room (Nat.le_of_ble_eq_true rfl)) dJ0_length_8abf5_6 ⟨Nat.zero_le _, Nat.zero_le _⟩) hS (fun r hr9 locs hloc hS => ?_)
  subst hr9
  refine lv_ishr hx hb dJ0_length_8abf5_9 ?_
  exact W.iret hx hb hr (fun t ht hW => ⟨65, rfl, rfl, ht⟩) (fun q hq => absurd (hloc q hq) List.not_mem_nil) dJ0_length_8abf5_10
set_option maxRecDepth 100000 in
set_option maxHeartbeats 4000000 in
theorem cs_pcheck (l : Launch) (i n : Int32) (v : Value) (h1 : ¬ i < 0) (h2 : i < n) (hv : v.category = 1) : Met l yJ3_checkIndex_8e157 (eWd yJ3_checkIndex_8e157 cJ3_checkIndex_8e157 3 (some .int)) { frames := 0, cells := 0, slots := 0, locals := 0 } (va_Pc [.int i, .int n, v] (fun _ => True)) (vp_Si (fun r => r = i)) 0 0 (fun _ => False) := by
  refine Met.ofW (cc := cJ3_checkIndex_8e157) (maxL := 3) (ret := (some .int)) (by decide +kernel) rfl ?_
  intro p e s m args below meth c s₁ B hml hv9
  obtain ⟨rfl, -⟩ := hv9
  have hx := B.exec
  have hb := B.bytes
  have hr := B.returns
  have hlocks := B.notSynchronized
  have hlen : (lg_sl [.int i, .int n, v]).length ≤ 3 := by
    have e1 : (Value.int i).category = 1 := rfl
    have e2 : (Value.int n).category = 1 := rfl
    simp [lg_sl, hv, e1, e2]
  have hl := lv_entry [.int i, .int n, v] (n := 3) hlen
  rw [lg_entry_eq]
  generalize (lg_sl ([.int i, .int n, v]) ++ List.replicate (3 - (lg_sl ([.int i, .int n, v])).length) Slot.unset).toArray = ls at hl ⊢
  have hl : lv_has ls 3 [(0, .int i), (1, .int n)] := lv_sub hl [0, 1] rfl
  refine lv_iload_n hx hb dJ3_checkIndex_8e157_0 rfl (lv_at hl 0 rfl) ?_
  refine lv_if_lt (tgt := 9) hx hb dJ3_checkIndex_8e157_1 (by decide) (fun z => absurd z h1) (fun _ => ?_)
  refine lv_iload_n hx hb dJ3_checkIndex_8e157_4 rfl (lv_at hl 0 rfl) ?_
  refine lv_iload_n hx hb dJ3_checkIndex_8e157_5 rfl (lv_at hl 1 rfl) ?_
  refine lv_icmp_lt (tgt := 16) hx hb dJ3_checkIndex_8e157_6 (by decide) (fun _ => ?_) (fun z => absurd h2 z)
  refine lv_iload_n hx hb dJ3_checkIndex_8e157_16 rfl (lv_at hl 0 rfl) ?_
  exact W.iret hx hb hr (fun t ht hW => ⟨i, rfl, rfl, ht⟩) (fun q hq => absurd hq List.not_mem_nil) dJ3_checkIndex_8e157_17
set_option maxRecDepth 100000 in
set_option maxHeartbeats 4000000 in
theorem cs_scheck (l : Launch) (aK aV : Nat) (A : Nat → Prop) (i n : Int32) (h1 : ¬ i < 0) (h2 : i < n) : Met l yJ0_checkIndex_df160 (eWd yJ0_checkIndex_df160 cJ0_checkIndex_df160 2 none) { frames := 1, cells := 0, slots := 0, locals := 22 } (va_Pc [.int i, .int n] (eKS aK aV A)) (va_Sv (fun _ => True)) 0 0 (fun _ => False) := by
  refine Met.ofW (cc := cJ0_checkIndex_df160) (maxL := 2) (ret := none) (by decide +kernel) rfl ?_
  intro p e s m args below meth c s₁ B hml hv
  obtain ⟨rfl, hE⟩ := hv
  have hx := B.exec
  have hb := B.bytes
  have hr := B.returns
  have hts := atoms_spec (ws := (eWd yJ0_checkIndex_df160 cJ0_checkIndex_df160 2 none)) B.pre
  have hown : s.vm.findClass RJ0 = some m.cls := findClass_of_methodNamed B.named
  have hlocks := B.notSynchronized
  have hS : va_S A s.heap s.heap [] := va_S.rf
  have hl := lv_entry ([.int i, .int n]) (n := 2) (Nat.le_of_ble_eq_true rfl)
  rw [lg_entry_eq]
  generalize (lg_sl ([.int i, .int n]) ++ List.replicate (2 - (lg_sl ([.int i, .int n])).length) Slot.unset).toArray = ls at hl ⊢
  have hl : lv_has ls 2 [(0, .int i), (1, .int n)] := hl
  refine lv_iload_n hx hb dJ0_checkIndex_df160_0 rfl (lv_at hl 0 rfl) ?_
  refine lv_iload_n hx hb dJ0_checkIndex_df160_1 rfl (lv_at hl 1 rfl) ?_
  obtain ⟨v, hv, hZ⟩ : ∃ v : Value, v.category = 1 ∧ va_Z "jdk/internal/util/Preconditions" "SIOOBE_FORMATTER" "Ljava/util/function/BiFunction;" v A s s.heap := by
    rcases hE.2.2.2.2.2.2 with h | ⟨t, h⟩
    · exact ⟨_, rfl, h⟩
    · exact ⟨_, rfl, h⟩
  refine va_gets hx hb hZ hS hown (hts (.fieldLink RJ0 1053 "jdk/internal/util/Preconditions" "SIOOBE_FORMATTER" "Ljava/util/function/BiFunction;") (eTb_wd _ (tb1 122 rfl rfl))) (fun _ z => z) dJ0_checkIndex_df160_2 ?_
  refine kS_int (va_runS (As := [.int i, .int n, v]) (rest := []) ⟨hx, hb, hml, hown, hts⟩ (cs_pcheck l i n v h1 h2 hv) (va_cwS 3 hts (eGoodS eTb_wd (tb1 124 rfl rfl) wsJ3_checkIndex_8e157 wnJ3_checkIndex_8e157 wcJ3_checkIndex_8e157) rfl rfl rfl hdJ3_checkIndex_8e157 ⟨Nat.le_of_ble_eq_true rfl, Nat.le_of_ble_eq_true rfl⟩) ⟨fun a U g mk q => ⟨q.1, trivial⟩, fun U hU hW => ⟨rfl, trivial⟩⟩ rfl rfl hl.1 rfl (lv_room (Nat.le_of_ble_eq_true rfl)) dJ0_checkIndex_df160_5 ⟨Nat.zero_le _, Nat.zero_le _⟩) hS (fun r hr9 locs hloc hS => ?_)
  refine lv_pop hx hb dJ0_checkIndex_df160_8 rfl ?_
  exact W.vret hx hb hr (fun t ht hW => ⟨rfl, trivial, ht⟩) (fun q hq => absurd (hloc q hq) List.not_mem_nil) dJ0_checkIndex_df160_9
def kCh (k : Nat) : Int32 := (((kByt.getD k 0) &&& 255).toUInt32 % 65536).toInt32
set_option maxRecDepth 100000 in
set_option maxHeartbeats 4000000 in
theorem cs_lcharAt (l : Launch) (aK aV : Nat) (A : Nat → Prop) (k : Nat) (hk : k < 65) : Met l yJ1_charAt_3b067 (eWd yJ1_charAt_3b067 cJ1_charAt_3b067 2 (some .char)) { frames := 2, cells := 0, slots := 0, locals := 43 } (va_Pc [.ref aV, .int (nI k)] (eKS aK aV A)) (vp_Si (fun r => r = kCh k)) 0 0 (fun _ => False) := by
  refine Met.ofW (cc := cJ1_charAt_3b067) (maxL := 2) (ret := (some .char)) (by decide +kernel) rfl ?_
  intro p e s m args below meth c s₁ B hml hv
  obtain ⟨rfl, hE⟩ := hv
  have hx := B.exec
  have hb := B.bytes
  have hr := B.returns
  have hts := atoms_spec (ws := (eWd yJ1_charAt_3b067 cJ1_charAt_3b067 2 (some .char))) B.pre
  have hown : s.vm.findClass RJ1 = some m.cls := findClass_of_methodNamed B.named
  have hlocks := B.notSynchronized
  have hS : va_S A s.heap s.heap [] := va_S.rf
  have hl := lv_entry ([.ref aV, .int (nI k)]) (n := 2) (Nat.le_of_ble_eq_true rfl)
  rw [lg_entry_eq]
  generalize (lg_sl ([.ref aV, .int (nI k)]) ++ List.replicate (2 - (lg_sl ([.ref aV, .int (nI k)])).length) Slot.unset).toArray = ls at hl ⊢
  have hl : lv_has ls 2 [(0, .ref aV), (1, .int (nI k))] := hl
  have hin : vp_in (nI k) 65 := vp_in_nI hk (by omega)
  have hlt : nI k < 65 := nI_lt (a := k) (b := 65) hk (by omega)
  refine lv_iload_n hx hb dJ1_charAt_3b067_0 rfl (lv_at hl 1 rfl) ?_
  refine lv_aload_n hx hb dJ1_charAt_3b067_1 rfl (lv_at hl 0 rfl) ?_
  refine va_tlen hx hb hE.2.2.2.2.1 hS (v := 65) rfl dJ1_charAt_3b067_2 ?_
  refine kS_void (va_runS (As := [.int (nI k), .int 65]) (rest := []) ⟨hx, hb, hml, hown, hts⟩ (cs_scheck l aK aV A (nI k) 65 (nI_pos (by omega)) hlt) (va_cwS 2 hts (eGoodS eTb_wd (tb1 119 rfl rfl) wsJ0_checkIndex_df160 wnJ0_checkIndex_df160 wcJ0_checkIndex_df160) rfl rfl rfl hdJ0_checkIndex_df160 ⟨Nat.le_of_ble_eq_true rfl, Nat.le_of_ble_eq_true rfl⟩) ⟨fun a U g mk q => ⟨q.1, q.2.call⟩, fun U hU hW => ⟨rfl, hE.go hS hU hW⟩⟩ rfl rfl hl.1 rfl (lv_room (Nat.le_of_ble_eq_true rfl)) dJ1_charAt_3b067_3 ⟨Nat.zero_le _, Nat.zero_le _⟩) hS (fun locs hloc hS => ?_)
  refine lv_aload_n hx hb dJ1_charAt_3b067_6 rfl (lv_at hl 0 rfl) ?_
  refine lv_iload_n hx hb dJ1_charAt_3b067_7 rfl (lv_at hl 1 rfl) ?_
  refine va_tb hx hb hE.2.2.2.2.1 hS hin (v := .int (kByt.getD k 0)) (by rw [nI_clamp (by omega)]) dJ1_charAt_3b067_8 ?_
  refine lv_sipush (v := 255) hx hb dJ1_charAt_3b067_9 (by decide) ?_
  refine lv_iand hx hb dJ1_charAt_3b067_12 ?_
  refine lv_i2c (v := kCh k) hx hb dJ1_charAt_3b067_13 rfl ?_
  have hnar : narrow .char (.int (kCh k)) = .int (kCh k) := pk_nc _
  exact W.zret hx hb hr hnar (fun t ht hW => ⟨kCh k, rfl, rfl, ht⟩) (fun q hq => absurd (hloc q hq) List.not_mem_nil) dJ1_charAt_3b067_14
set_option maxRecDepth 100000 in
set_option maxHeartbeats 4000000 in
theorem cs_charAt (l : Launch) (aK aV : Nat) (A : Nat → Prop) (k : Nat) (hk : k < 65) : Met l yJ0_charAt_5068e (eWd yJ0_charAt_5068e cJ0_charAt_5068e 2 (some .char)) { frames := 3, cells := 0, slots := 0, locals := 64 } (va_Pc [.ref aK, .int (nI k)] (eKS aK aV A)) (vp_Si (fun r => r = kCh k)) 0 0 (fun _ => False) := by
  refine Met.ofW (cc := cJ0_charAt_5068e) (maxL := 2) (ret := (some .char)) (by decide +kernel) rfl ?_
  intro p e s m args below meth c s₁ B hml hv
  obtain ⟨rfl, hE⟩ := hv
  have hx := B.exec
  have hb := B.bytes
  have hr := B.returns
  have hts := atoms_spec (ws := (eWd yJ0_charAt_5068e cJ0_charAt_5068e 2 (some .char))) B.pre
  have hown : s.vm.findClass RJ0 = some m.cls := findClass_of_methodNamed B.named
  have hlocks := B.notSynchronized
  have hS : va_S A s.heap s.heap [] := va_S.rf
  have hl := lv_entry ([.ref aK, .int (nI k)]) (n := 2) (Nat.le_of_ble_eq_true rfl)
  rw [lg_entry_eq]
  generalize (lg_sl ([.ref aK, .int (nI k)]) ++ List.replicate (2 - (lg_sl ([.ref aK, .int (nI k)])).length) Slot.unset).toArray = ls at hl ⊢
  have hl : lv_has ls 2 [(0, .ref aK), (1, .int (nI k))] := hl
  refine lv_aload_n hx hb dJ0_charAt_5068e_0 rfl (lv_at hl 0 rfl) ?_
  refine kS_int (va_runV (As := []) (rest := []) ⟨hx, hb, hml, hown, hts⟩ (cs_isLatin1 l aK aV A) (cwV 0 hts (eGoodV eTb_wd (tb1 112 rfl rfl) wiJ0_isLatin1_aae02 wlJ0_isLatin1_aae02 wnJ0_isLatin1_aae02 wcJ0_isLatin1_aae02) rfl rfl rfl ⟨rfl, hdJ0_isLatin1_aae02⟩ ⟨Nat.le_of_ble_eq_true rfl, Nat.le_of_ble_eq_true rfl⟩) ⟨fun a U g mk q => ⟨q.1, q.2.call⟩, (by obtain ⟨cell, g1, g2, g3, -⟩ := hE.2.1.kept hS.2.1; exact ⟨cell, g1, g2, g3⟩), fun U hU hW => ⟨rfl, hE.go hS hU hW⟩⟩ rfl rfl hl.1 rfl (lv_room (Nat.le_of_ble_eq_true rfl)) dJ0_charAt_5068e_1 ⟨Nat.zero_le _, Nat.zero_le _⟩) hS (fun r hr9 locs hloc hS => ?_)
  subst hr9
  refine lv_if_eq (tgt := 16) hx hb dJ0_charAt_5068e_4 (by decide) (fun z => absurd z (by decide)) (fun _ => ?_)
  refine lv_aload_n hx hb dJ0_charAt_5068e_7 rfl (lv_at hl 0 rfl) ?_
  refine vk_getf hx hb hE.2.2.2.1 hS hown (hts (.fieldLink RJ0 9 "java/lang/String" "value" "[B") (eTb_wd _ (tb7 171 rfl rfl))) (fun _ z => z) dJ0_charAt_5068e_8 ?_
  refine lv_iload_n hx hb dJ0_charAt_5068e_11 rfl (lv_at hl 1 rfl) ?_
  refine kS_int (va_runS (As := [.ref aV, .int (nI k)]) (rest := []) ⟨hx, hb, hml, hown, hts⟩ (cs_lcharAt l aK aV A k hk) (va_cwS 2 hts (eGoodS eTb_wd (tb1 116 rfl rfl) wsJ1_charAt_3b067 wnJ1_charAt_3b067 wcJ1_charAt_3b067) rfl rfl rfl hdJ1_charAt_3b067 ⟨Nat.le_of_ble_eq_true rfl, Nat.le_of_ble_eq_true rfl⟩) ⟨fun a U g mk q => ⟨q.1, q.2.call⟩, fun U hU hW => ⟨rfl, hE.go hS hU hW⟩⟩ rfl rfl hl.1 rfl (lv_room (Nat.le_of_ble_eq_true rfl)) dJ0_charAt_5068e_12 ⟨Nat.zero_le _, Nat.zero_le _⟩) hS (fun r hr9 locs2 hloc2 hS => ?_)
  subst hr9
  have hnar : narrow .char (.int (kCh k)) = .int (kCh k) := pk_nc _
  exact W.zret hx hb hr hnar (fun t ht hW => ⟨kCh k, rfl, rfl, ht⟩) (fun q hq => absurd (hloc q (hloc2 q hq)) List.not_mem_nil) dJ0_charAt_5068e_15
def eNst : List (String × Nat × MethodName) := [(RX11, 9, yX10_init), (RX11, 27, yX4_init), (RX11, 34, yX3_init), (RX11, 41, yX1_init), (RX11, 48, yX5_init), (RX11, 55, yX9_init), (RX11, 62, yX6_init), (RX11, 69, yX0_init), (RX3, 11, yX2_init), (RX8, 20, yX4_init)]
def eNs (U : State) : Prop := ∀ q ∈ eNst, va_Nw (.methodLinkNest q.1 q.2.1 q.2.2 "ExitFalls") U
/-- what the constructors stand on beside their cells -/
def eEx (aK aV : Nat) (A : Nat → Prop) (U : State) : Prop := eNs U ∧ eKS aK aV A U
theorem eEx.sub {aK aV : Nat} {A B : Nat → Prop} {u U : State} (h : eEx aK aV A u) (hW : u.WarmedH U.vm) (hq : ∀ a : Nat, a < u.heap.size → ¬ A a → U.heap[a]? = u.heap[a]?) (hAB : ∀ q, B q → A q) : eEx aK aV B U := ⟨fun q hq2 => (h.1 q hq2).warmM hW, h.2.sub hW hq hAB⟩
theorem eEx.call {aK aV : Nat} {A : Nat → Prop} {U : State} {g : JFrame} {mk : MethodId} {a : Array Value} (h : eEx aK aV A U) : eEx aK aV A (U.calling g mk a) := ⟨fun q hq2 => (h.1 q hq2).same rfl rfl, h.2.call⟩
theorem eEx.go {aK aV : Nat} {A B : Nat → Prop} {s U : State} {H : Heap} {locs : List Loc} (h : eEx aK aV A s) (hS : va_S A s.heap H locs) (hU : U.heap = H) (hW : s.WarmedH U.vm) (hAB : ∀ q, B q → A q) : eEx aK aV B U := h.sub hW (fun a h1 h2 => by rw [hU]; exact hS.2.1 a h1 h2) hAB
