theorem hdX11_feed : yX11_feed.cls ≠ "java/lang/invoke/MethodHandle" ∧ yX11_feed.cls ≠ "java/lang/invoke/VarHandle" ∧ (parseMethodDescriptor yX11_feed.desc).map (fun d => d.parameters.length) = some 5 := by decide +kernel
set_option maxRecDepth 100000 in
set_option maxHeartbeats 4000000 in
theorem wcX11_feed : Cond.code yX11_feed cX11_feed 6 (some .int) ∈ eTb := tb2 188 rfl rfl
set_option maxRecDepth 100000 in
set_option maxHeartbeats 4000000 in
theorem wnX11_feed : Cond.initialized yX11_feed.cls ∈ eTb := tb1 1 rfl rfl
set_option maxRecDepth 100000 in
set_option maxHeartbeats 4000000 in
theorem wiX11_feed : Cond.instanceMethod yX11_feed ∈ eTb := tb2 186 rfl rfl
set_option maxRecDepth 100000 in
set_option maxHeartbeats 4000000 in
theorem wlX11_feed : Cond.selects yX11_feed.cls yX11_feed yX11_feed ∈ eTb := tb2 187 rfl rfl
set_option maxRecDepth 100000 in
set_option maxHeartbeats 4000000 in
theorem gvL_13 {Ts : List Cond} (hT : ∀ w ∈ eTb, w ∈ Ts) : GoodIn Ts (wsV RL 13 yX11_feed.cls yX11_feed (eWd yX11_feed cX11_feed 6 (some .int))) ∧ ∃ (T : u_T) (N : Nat), vwCl[10]? = some (yX11_feed.cls, T, N) := ⟨eGoodV hT (tb2 185 rfl rfl) wiX11_feed wlX11_feed wnX11_feed wcX11_feed, TX11, 9, rfl⟩
theorem hdX12_feed : yX12_feed.cls ≠ "java/lang/invoke/MethodHandle" ∧ yX12_feed.cls ≠ "java/lang/invoke/VarHandle" ∧ (parseMethodDescriptor yX12_feed.desc).map (fun d => d.parameters.length) = some 5 := by decide +kernel
set_option maxRecDepth 100000 in
set_option maxHeartbeats 4000000 in
theorem wcX12_feed : Cond.code yX12_feed cX12_feed 6 (some .int) ∈ eTb := tb6 19 rfl rfl
set_option maxRecDepth 100000 in
set_option maxHeartbeats 4000000 in
theorem wnX12_feed : Cond.initialized yX12_feed.cls ∈ eTb := tb1 16 rfl rfl
set_option maxRecDepth 100000 in
set_option maxHeartbeats 4000000 in
theorem wiX12_feed : Cond.instanceMethod yX12_feed ∈ eTb := tb6 17 rfl rfl
set_option maxRecDepth 100000 in
set_option maxHeartbeats 4000000 in
theorem wlX12_feed : Cond.selects yX12_feed.cls yX12_feed yX12_feed ∈ eTb := tb6 18 rfl rfl
set_option maxRecDepth 100000 in
set_option maxHeartbeats 4000000 in
theorem gvL_17 {Ts : List Cond} (hT : ∀ w ∈ eTb, w ∈ Ts) : GoodIn Ts (wsV RL 17 yX12_feed.cls yX12_feed (eWd yX12_feed cX12_feed 6 (some .int))) ∧ ∃ (T : u_T) (N : Nat), vwCl[11]? = some (yX12_feed.cls, T, N) := ⟨eGoodV hT (tb6 16 rfl rfl) wiX12_feed wlX12_feed wnX12_feed wcX12_feed, TX12, 60, rfl⟩
theorem hdX11_end : yX11_end.cls ≠ "java/lang/invoke/MethodHandle" ∧ yX11_end.cls ≠ "java/lang/invoke/VarHandle" ∧ (parseMethodDescriptor yX11_end.desc).map (fun d => d.parameters.length) = some 1 := by decide +kernel
set_option maxRecDepth 100000 in
set_option maxHeartbeats 4000000 in
theorem wcX11_end : Cond.code yX11_end cX11_end 2 (some .int) ∈ eTb := tb2 196 rfl rfl
set_option maxRecDepth 100000 in
set_option maxHeartbeats 4000000 in
theorem wnX11_end : Cond.initialized yX11_end.cls ∈ eTb := tb1 1 rfl rfl
set_option maxRecDepth 100000 in
set_option maxHeartbeats 4000000 in
theorem wiX11_end : Cond.instanceMethod yX11_end ∈ eTb := tb2 194 rfl rfl
set_option maxRecDepth 100000 in
set_option maxHeartbeats 4000000 in
theorem wlX11_end : Cond.selects yX11_end.cls yX11_end yX11_end ∈ eTb := tb2 195 rfl rfl
set_option maxRecDepth 100000 in
set_option maxHeartbeats 4000000 in
theorem gvL_18 {Ts : List Cond} (hT : ∀ w ∈ eTb, w ∈ Ts) : GoodIn Ts (wsV RL 18 yX11_end.cls yX11_end (eWd yX11_end cX11_end 2 (some .int))) ∧ ∃ (T : u_T) (N : Nat), vwCl[10]? = some (yX11_end.cls, T, N) := ⟨eGoodV hT (tb2 193 rfl rfl) wiX11_end wlX11_end wnX11_end wcX11_end, TX11, 9, rfl⟩
theorem hdX12_end : yX12_end.cls ≠ "java/lang/invoke/MethodHandle" ∧ yX12_end.cls ≠ "java/lang/invoke/VarHandle" ∧ (parseMethodDescriptor yX12_end.desc).map (fun d => d.parameters.length) = some 1 := by decide +kernel
set_option maxRecDepth 100000 in
set_option maxHeartbeats 4000000 in
theorem wcX12_end : Cond.code yX12_end cX12_end 2 (some .int) ∈ eTb := tb6 27 rfl rfl
set_option maxRecDepth 100000 in
set_option maxHeartbeats 4000000 in
theorem wnX12_end : Cond.initialized yX12_end.cls ∈ eTb := tb1 16 rfl rfl
set_option maxRecDepth 100000 in
set_option maxHeartbeats 4000000 in
theorem wiX12_end : Cond.instanceMethod yX12_end ∈ eTb := tb6 25 rfl rfl
set_option maxRecDepth 100000 in
set_option maxHeartbeats 4000000 in
theorem wlX12_end : Cond.selects yX12_end.cls yX12_end yX12_end ∈ eTb := tb6 26 rfl rfl
set_option maxRecDepth 100000 in
set_option maxHeartbeats 4000000 in
theorem gvL_22 {Ts : List Cond} (hT : ∀ w ∈ eTb, w ∈ Ts) : GoodIn Ts (wsV RL 22 yX12_end.cls yX12_end (eWd yX12_end cX12_end 2 (some .int))) ∧ ∃ (T : u_T) (N : Nat), vwCl[11]? = some (yX12_end.cls, T, N) := ⟨eGoodV hT (tb6 24 rfl rfl) wiX12_end wlX12_end wnX12_end wcX12_end, TX12, 60, rfl⟩
theorem hdX11_text : yX11_text.cls ≠ "java/lang/invoke/MethodHandle" ∧ yX11_text.cls ≠ "java/lang/invoke/VarHandle" ∧ (parseMethodDescriptor yX11_text.desc).map (fun d => d.parameters.length) = some 0 := by decide +kernel
set_option maxRecDepth 100000 in
set_option maxHeartbeats 4000000 in
theorem wcX11_text : Cond.code yX11_text cX11_text 2 (some .int) ∈ eTb := tb2 204 rfl rfl
set_option maxRecDepth 100000 in
set_option maxHeartbeats 4000000 in
theorem wnX11_text : Cond.initialized yX11_text.cls ∈ eTb := tb1 1 rfl rfl
set_option maxRecDepth 100000 in
set_option maxHeartbeats 4000000 in
theorem wiX11_text : Cond.instanceMethod yX11_text ∈ eTb := tb2 202 rfl rfl
set_option maxRecDepth 100000 in
set_option maxHeartbeats 4000000 in
theorem wlX11_text : Cond.selects yX11_text.cls yX11_text yX11_text ∈ eTb := tb2 203 rfl rfl
set_option maxRecDepth 100000 in
set_option maxHeartbeats 4000000 in
theorem gvL_23 {Ts : List Cond} (hT : ∀ w ∈ eTb, w ∈ Ts) : GoodIn Ts (wsV RL 23 yX11_text.cls yX11_text (eWd yX11_text cX11_text 2 (some .int))) ∧ ∃ (T : u_T) (N : Nat), vwCl[10]? = some (yX11_text.cls, T, N) := ⟨eGoodV hT (tb2 201 rfl rfl) wiX11_text wlX11_text wnX11_text wcX11_text, TX11, 9, rfl⟩
theorem hdX12_text : yX12_text.cls ≠ "java/lang/invoke/MethodHandle" ∧ yX12_text.cls ≠ "java/lang/invoke/VarHandle" ∧ (parseMethodDescriptor yX12_text.desc).map (fun d => d.parameters.length) = some 0 := by decide +kernel
set_option maxRecDepth 100000 in
set_option maxHeartbeats 4000000 in
theorem wcX12_text : Cond.code yX12_text cX12_text 2 (some .int) ∈ eTb := tb6 34 rfl rfl
set_option maxRecDepth 100000 in
set_option maxHeartbeats 4000000 in
theorem wnX12_text : Cond.initialized yX12_text.cls ∈ eTb := tb1 16 rfl rfl
set_option maxRecDepth 100000 in
set_option maxHeartbeats 4000000 in
theorem wiX12_text : Cond.instanceMethod yX12_text ∈ eTb := tb6 32 rfl rfl
set_option maxRecDepth 100000 in
set_option maxHeartbeats 4000000 in
theorem wlX12_text : Cond.selects yX12_text.cls yX12_text yX12_text ∈ eTb := tb6 33 rfl rfl
set_option maxRecDepth 100000 in
set_option maxHeartbeats 4000000 in
theorem gvL_27 {Ts : List Cond} (hT : ∀ w ∈ eTb, w ∈ Ts) : GoodIn Ts (wsV RL 27 yX12_text.cls yX12_text (eWd yX12_text cX12_text 2 (some .int))) ∧ ∃ (T : u_T) (N : Nat), vwCl[11]? = some (yX12_text.cls, T, N) := ⟨eGoodV hT (tb6 31 rfl rfl) wiX12_text wlX12_text wnX12_text wcX12_text, TX12, 60, rfl⟩
theorem hdX11_fault : yX11_fault.cls ≠ "java/lang/invoke/MethodHandle" ∧ yX11_fault.cls ≠ "java/lang/invoke/VarHandle" ∧ (parseMethodDescriptor yX11_fault.desc).map (fun d => d.parameters.length) = some 1 := by decide +kernel
set_option maxRecDepth 100000 in
set_option maxHeartbeats 4000000 in
theorem wcX11_fault : Cond.code yX11_fault cX11_fault 2 (some .int) ∈ eTb := tb3 77 rfl rfl
set_option maxRecDepth 100000 in
set_option maxHeartbeats 4000000 in
theorem wnX11_fault : Cond.initialized yX11_fault.cls ∈ eTb := tb1 1 rfl rfl
set_option maxRecDepth 100000 in
set_option maxHeartbeats 4000000 in
theorem wiX11_fault : Cond.instanceMethod yX11_fault ∈ eTb := tb3 75 rfl rfl
set_option maxRecDepth 100000 in
set_option maxHeartbeats 4000000 in
theorem wlX11_fault : Cond.selects yX11_fault.cls yX11_fault yX11_fault ∈ eTb := tb3 76 rfl rfl
set_option maxRecDepth 100000 in
set_option maxHeartbeats 4000000 in
theorem gvL_28 {Ts : List Cond} (hT : ∀ w ∈ eTb, w ∈ Ts) : GoodIn Ts (wsV RL 28 yX11_fault.cls yX11_fault (eWd yX11_fault cX11_fault 2 (some .int))) ∧ ∃ (T : u_T) (N : Nat), vwCl[10]? = some (yX11_fault.cls, T, N) := ⟨eGoodV hT (tb3 74 rfl rfl) wiX11_fault wlX11_fault wnX11_fault wcX11_fault, TX11, 9, rfl⟩
theorem hdX12_fault : yX12_fault.cls ≠ "java/lang/invoke/MethodHandle" ∧ yX12_fault.cls ≠ "java/lang/invoke/VarHandle" ∧ (parseMethodDescriptor yX12_fault.desc).map (fun d => d.parameters.length) = some 1 := by decide +kernel
set_option maxRecDepth 100000 in
set_option maxHeartbeats 4000000 in
theorem wcX12_fault : Cond.code yX12_fault cX12_fault 2 (some .int) ∈ eTb := tb6 114 rfl rfl
set_option maxRecDepth 100000 in
set_option maxHeartbeats 4000000 in
theorem wnX12_fault : Cond.initialized yX12_fault.cls ∈ eTb := tb1 16 rfl rfl
set_option maxRecDepth 100000 in
set_option maxHeartbeats 4000000 in
theorem wiX12_fault : Cond.instanceMethod yX12_fault ∈ eTb := tb6 112 rfl rfl
set_option maxRecDepth 100000 in
set_option maxHeartbeats 4000000 in
theorem wlX12_fault : Cond.selects yX12_fault.cls yX12_fault yX12_fault ∈ eTb := tb6 113 rfl rfl
set_option maxRecDepth 100000 in
set_option maxHeartbeats 4000000 in
theorem gvL_31 {Ts : List Cond} (hT : ∀ w ∈ eTb, w ∈ Ts) : GoodIn Ts (wsV RL 31 yX12_fault.cls yX12_fault (eWd yX12_fault cX12_fault 2 (some .int))) ∧ ∃ (T : u_T) (N : Nat), vwCl[11]? = some (yX12_fault.cls, T, N) := ⟨eGoodV hT (tb6 111 rfl rfl) wiX12_fault wlX12_fault wnX12_fault wcX12_fault, TX12, 60, rfl⟩
theorem hdX11_about : yX11_about.cls ≠ "java/lang/invoke/MethodHandle" ∧ yX11_about.cls ≠ "java/lang/invoke/VarHandle" ∧ (parseMethodDescriptor yX11_about.desc).map (fun d => d.parameters.length) = some 1 := by decide +kernel
set_option maxRecDepth 100000 in
set_option maxHeartbeats 4000000 in
theorem wcX11_about : Cond.code yX11_about cX11_about 2 (some .int) ∈ eTb := tb3 81 rfl rfl
set_option maxRecDepth 100000 in
set_option maxHeartbeats 4000000 in
theorem wnX11_about : Cond.initialized yX11_about.cls ∈ eTb := tb1 1 rfl rfl
set_option maxRecDepth 100000 in
set_option maxHeartbeats 4000000 in
theorem wiX11_about : Cond.instanceMethod yX11_about ∈ eTb := tb3 79 rfl rfl
set_option maxRecDepth 100000 in
set_option maxHeartbeats 4000000 in
theorem wlX11_about : Cond.selects yX11_about.cls yX11_about yX11_about ∈ eTb := tb3 80 rfl rfl
set_option maxRecDepth 100000 in
set_option maxHeartbeats 4000000 in
theorem gvL_32 {Ts : List Cond} (hT : ∀ w ∈ eTb, w ∈ Ts) : GoodIn Ts (wsV RL 32 yX11_about.cls yX11_about (eWd yX11_about cX11_about 2 (some .int))) ∧ ∃ (T : u_T) (N : Nat), vwCl[10]? = some (yX11_about.cls, T, N) := ⟨eGoodV hT (tb3 78 rfl rfl) wiX11_about wlX11_about wnX11_about wcX11_about, TX11, 9, rfl⟩
theorem hdX12_about : yX12_about.cls ≠ "java/lang/invoke/MethodHandle" ∧ yX12_about.cls ≠ "java/lang/invoke/VarHandle" ∧ (parseMethodDescriptor yX12_about.desc).map (fun d => d.parameters.length) = some 1 := by decide +kernel
set_option maxRecDepth 100000 in
set_option maxHeartbeats 4000000 in
theorem wcX12_about : Cond.code yX12_about cX12_about 2 (some .int) ∈ eTb := tb6 118 rfl rfl
set_option maxRecDepth 100000 in
set_option maxHeartbeats 4000000 in
theorem wnX12_about : Cond.initialized yX12_about.cls ∈ eTb := tb1 16 rfl rfl
set_option maxRecDepth 100000 in
set_option maxHeartbeats 4000000 in
theorem wiX12_about : Cond.instanceMethod yX12_about ∈ eTb := tb6 116 rfl rfl
set_option maxRecDepth 100000 in
set_option maxHeartbeats 4000000 in
theorem wlX12_about : Cond.selects yX12_about.cls yX12_about yX12_about ∈ eTb := tb6 117 rfl rfl
set_option maxRecDepth 100000 in
set_option maxHeartbeats 4000000 in
theorem gvL_35 {Ts : List Cond} (hT : ∀ w ∈ eTb, w ∈ Ts) : GoodIn Ts (wsV RL 35 yX12_about.cls yX12_about (eWd yX12_about cX12_about 2 (some .int))) ∧ ∃ (T : u_T) (N : Nat), vwCl[11]? = some (yX12_about.cls, T, N) := ⟨eGoodV hT (tb6 115 rfl rfl) wiX12_about wlX12_about wnX12_about wcX12_about, TX12, 60, rfl⟩
theorem hdX11_holder : yX11_holder.cls ≠ "java/lang/invoke/MethodHandle" ∧ yX11_holder.cls ≠ "java/lang/invoke/VarHandle" ∧ (parseMethodDescriptor yX11_holder.desc).map (fun d => d.parameters.length) = some 2 := by decide +kernel
set_option maxRecDepth 100000 in
set_option maxHeartbeats 4000000 in
theorem wcX11_holder : Cond.code yX11_holder cX11_holder 5 (some .int) ∈ eTb := tb3 85 rfl rfl
set_option maxRecDepth 100000 in
set_option maxHeartbeats 4000000 in
theorem wnX11_holder : Cond.initialized yX11_holder.cls ∈ eTb := tb1 1 rfl rfl
set_option maxRecDepth 100000 in
set_option maxHeartbeats 4000000 in
theorem wiX11_holder : Cond.instanceMethod yX11_holder ∈ eTb := tb3 83 rfl rfl
set_option maxRecDepth 100000 in
set_option maxHeartbeats 4000000 in
theorem wlX11_holder : Cond.selects yX11_holder.cls yX11_holder yX11_holder ∈ eTb := tb3 84 rfl rfl
set_option maxRecDepth 100000 in
set_option maxHeartbeats 4000000 in
theorem gvL_36 {Ts : List Cond} (hT : ∀ w ∈ eTb, w ∈ Ts) : GoodIn Ts (wsV RL 36 yX11_holder.cls yX11_holder (eWd yX11_holder cX11_holder 5 (some .int))) ∧ ∃ (T : u_T) (N : Nat), vwCl[10]? = some (yX11_holder.cls, T, N) := ⟨eGoodV hT (tb3 82 rfl rfl) wiX11_holder wlX11_holder wnX11_holder wcX11_holder, TX11, 9, rfl⟩
theorem hdX12_holder : yX12_holder.cls ≠ "java/lang/invoke/MethodHandle" ∧ yX12_holder.cls ≠ "java/lang/invoke/VarHandle" ∧ (parseMethodDescriptor yX12_holder.desc).map (fun d => d.parameters.length) = some 2 := by decide +kernel
set_option maxRecDepth 100000 in
set_option maxHeartbeats 4000000 in
theorem wcX12_holder : Cond.code yX12_holder cX12_holder 3 (some .int) ∈ eTb := tb6 122 rfl rfl
set_option maxRecDepth 100000 in
set_option maxHeartbeats 4000000 in
theorem wnX12_holder : Cond.initialized yX12_holder.cls ∈ eTb := tb1 16 rfl rfl
set_option maxRecDepth 100000 in
set_option maxHeartbeats 4000000 in
theorem wiX12_holder : Cond.instanceMethod yX12_holder ∈ eTb := tb6 120 rfl rfl
set_option maxRecDepth 100000 in
set_option maxHeartbeats 4000000 in
theorem wlX12_holder : Cond.selects yX12_holder.cls yX12_holder yX12_holder ∈ eTb := tb6 121 rfl rfl
set_option maxRecDepth 100000 in
set_option maxHeartbeats 4000000 in
theorem gvL_40 {Ts : List Cond} (hT : ∀ w ∈ eTb, w ∈ Ts) : GoodIn Ts (wsV RL 40 yX12_holder.cls yX12_holder (eWd yX12_holder cX12_holder 3 (some .int))) ∧ ∃ (T : u_T) (N : Nat), vwCl[11]? = some (yX12_holder.cls, T, N) := ⟨eGoodV hT (tb6 119 rfl rfl) wiX12_holder wlX12_holder wnX12_holder wcX12_holder, TX12, 60, rfl⟩
theorem hdX11_has : yX11_has.cls ≠ "java/lang/invoke/MethodHandle" ∧ yX11_has.cls ≠ "java/lang/invoke/VarHandle" ∧ (parseMethodDescriptor yX11_has.desc).map (fun d => d.parameters.length) = some 3 := by decide +kernel
set_option maxRecDepth 100000 in
set_option maxHeartbeats 4000000 in
theorem wcX11_has : Cond.code yX11_has cX11_has 4 (some .long) ∈ eTb := tb3 103 rfl rfl
set_option maxRecDepth 100000 in
set_option maxHeartbeats 4000000 in
theorem wnX11_has : Cond.initialized yX11_has.cls ∈ eTb := tb1 1 rfl rfl
set_option maxRecDepth 100000 in
set_option maxHeartbeats 4000000 in
theorem wiX11_has : Cond.instanceMethod yX11_has ∈ eTb := tb3 101 rfl rfl
set_option maxRecDepth 100000 in
set_option maxHeartbeats 4000000 in
theorem wlX11_has : Cond.selects yX11_has.cls yX11_has yX11_has ∈ eTb := tb3 102 rfl rfl
set_option maxRecDepth 100000 in
set_option maxHeartbeats 4000000 in
theorem gvL_41 {Ts : List Cond} (hT : ∀ w ∈ eTb, w ∈ Ts) : GoodIn Ts (wsV RL 41 yX11_has.cls yX11_has (eWd yX11_has cX11_has 4 (some .long))) ∧ ∃ (T : u_T) (N : Nat), vwCl[10]? = some (yX11_has.cls, T, N) := ⟨eGoodV hT (tb3 100 rfl rfl) wiX11_has wlX11_has wnX11_has wcX11_has, TX11, 9, rfl⟩
theorem hdX12_has : yX12_has.cls ≠ "java/lang/invoke/MethodHandle" ∧ yX12_has.cls ≠ "java/lang/invoke/VarHandle" ∧ (parseMethodDescriptor yX12_has.desc).map (fun d => d.parameters.length) = some 3 := by decide +kernel
set_option maxRecDepth 100000 in
set_option maxHeartbeats 4000000 in
theorem wcX12_has : Cond.code yX12_has cX12_has 4 (some .long) ∈ eTb := tb6 137 rfl rfl
set_option maxRecDepth 100000 in
set_option maxHeartbeats 4000000 in
theorem wnX12_has : Cond.initialized yX12_has.cls ∈ eTb := tb1 16 rfl rfl
set_option maxRecDepth 100000 in
set_option maxHeartbeats 4000000 in
theorem wiX12_has : Cond.instanceMethod yX12_has ∈ eTb := tb6 135 rfl rfl
set_option maxRecDepth 100000 in
set_option maxHeartbeats 4000000 in
theorem wlX12_has : Cond.selects yX12_has.cls yX12_has yX12_has ∈ eTb := tb6 136 rfl rfl
set_option maxRecDepth 100000 in
set_option maxHeartbeats 4000000 in
theorem gvL_45 {Ts : List Cond} (hT : ∀ w ∈ eTb, w ∈ Ts) : GoodIn Ts (wsV RL 45 yX12_has.cls yX12_has (eWd yX12_has cX12_has 4 (some .long))) ∧ ∃ (T : u_T) (N : Nat), vwCl[11]? = some (yX12_has.cls, T, N) := ⟨eGoodV hT (tb6 134 rfl rfl) wiX12_has wlX12_has wnX12_has wcX12_has, TX12, 60, rfl⟩
theorem hdX11_state : yX11_state.cls ≠ "java/lang/invoke/MethodHandle" ∧ yX11_state.cls ≠ "java/lang/invoke/VarHandle" ∧ (parseMethodDescriptor yX11_state.desc).map (fun d => d.parameters.length) = some 2 := by decide +kernel
set_option maxRecDepth 100000 in
set_option maxHeartbeats 4000000 in
theorem wcX11_state : Cond.code yX11_state cX11_state 3 (some .int) ∈ eTb := tb3 225 rfl rfl
set_option maxRecDepth 100000 in
set_option maxHeartbeats 4000000 in
theorem wnX11_state : Cond.initialized yX11_state.cls ∈ eTb := tb1 1 rfl rfl
set_option maxRecDepth 100000 in
set_option maxHeartbeats 4000000 in
theorem wiX11_state : Cond.instanceMethod yX11_state ∈ eTb := tb3 223 rfl rfl
set_option maxRecDepth 100000 in
set_option maxHeartbeats 4000000 in
theorem wlX11_state : Cond.selects yX11_state.cls yX11_state yX11_state ∈ eTb := tb3 224 rfl rfl
set_option maxRecDepth 100000 in
set_option maxHeartbeats 4000000 in
theorem gvL_46 {Ts : List Cond} (hT : ∀ w ∈ eTb, w ∈ Ts) : GoodIn Ts (wsV RL 46 yX11_state.cls yX11_state (eWd yX11_state cX11_state 3 (some .int))) ∧ ∃ (T : u_T) (N : Nat), vwCl[10]? = some (yX11_state.cls, T, N) := ⟨eGoodV hT (tb3 222 rfl rfl) wiX11_state wlX11_state wnX11_state wcX11_state, TX11, 9, rfl⟩
theorem hdX12_state : yX12_state.cls ≠ "java/lang/invoke/MethodHandle" ∧ yX12_state.cls ≠ "java/lang/invoke/VarHandle" ∧ (parseMethodDescriptor yX12_state.desc).map (fun d => d.parameters.length) = some 2 := by decide +kernel
set_option maxRecDepth 100000 in
set_option maxHeartbeats 4000000 in
theorem wcX12_state : Cond.code yX12_state cX12_state 3 (some .int) ∈ eTb := tb6 230 rfl rfl
set_option maxRecDepth 100000 in
set_option maxHeartbeats 4000000 in
theorem wnX12_state : Cond.initialized yX12_state.cls ∈ eTb := tb1 16 rfl rfl
set_option maxRecDepth 100000 in
set_option maxHeartbeats 4000000 in
theorem wiX12_state : Cond.instanceMethod yX12_state ∈ eTb := tb6 228 rfl rfl
set_option maxRecDepth 100000 in
set_option maxHeartbeats 4000000 in
theorem wlX12_state : Cond.selects yX12_state.cls yX12_state yX12_state ∈ eTb := tb6 229 rfl rfl
set_option maxRecDepth 100000 in
set_option maxHeartbeats 4000000 in
theorem gvL_49 {Ts : List Cond} (hT : ∀ w ∈ eTb, w ∈ Ts) : GoodIn Ts (wsV RL 49 yX12_state.cls yX12_state (eWd yX12_state cX12_state 3 (some .int))) ∧ ∃ (T : u_T) (N : Nat), vwCl[11]? = some (yX12_state.cls, T, N) := ⟨eGoodV hT (tb6 227 rfl rfl) wiX12_state wlX12_state wnX12_state wcX12_state, TX12, 60, rfl⟩
theorem hdX11_paid : yX11_paid.cls ≠ "java/lang/invoke/MethodHandle" ∧ yX11_paid.cls ≠ "java/lang/invoke/VarHandle" ∧ (parseMethodDescriptor yX11_paid.desc).map (fun d => d.parameters.length) = some 2 := by decide +kernel
set_option maxRecDepth 100000 in
set_option maxHeartbeats 4000000 in
theorem wcX11_paid : Cond.code yX11_paid cX11_paid 3 (some .int) ∈ eTb := tb3 234 rfl rfl
set_option maxRecDepth 100000 in
set_option maxHeartbeats 4000000 in
theorem wnX11_paid : Cond.initialized yX11_paid.cls ∈ eTb := tb1 1 rfl rfl
set_option maxRecDepth 100000 in
set_option maxHeartbeats 4000000 in
theorem wiX11_paid : Cond.instanceMethod yX11_paid ∈ eTb := tb3 232 rfl rfl
set_option maxRecDepth 100000 in
set_option maxHeartbeats 4000000 in
theorem wlX11_paid : Cond.selects yX11_paid.cls yX11_paid yX11_paid ∈ eTb := tb3 233 rfl rfl
set_option maxRecDepth 100000 in
set_option maxHeartbeats 4000000 in
theorem gvL_50 {Ts : List Cond} (hT : ∀ w ∈ eTb, w ∈ Ts) : GoodIn Ts (wsV RL 50 yX11_paid.cls yX11_paid (eWd yX11_paid cX11_paid 3 (some .int))) ∧ ∃ (T : u_T) (N : Nat), vwCl[10]? = some (yX11_paid.cls, T, N) := ⟨eGoodV hT (tb3 231 rfl rfl) wiX11_paid wlX11_paid wnX11_paid wcX11_paid, TX11, 9, rfl⟩
theorem hdX12_paid : yX12_paid.cls ≠ "java/lang/invoke/MethodHandle" ∧ yX12_paid.cls ≠ "java/lang/invoke/VarHandle" ∧ (parseMethodDescriptor yX12_paid.desc).map (fun d => d.parameters.length) = some 2 := by decide +kernel
set_option maxRecDepth 100000 in
set_option maxHeartbeats 4000000 in
theorem wcX12_paid : Cond.code yX12_paid cX12_paid 3 (some .int) ∈ eTb := tb6 238 rfl rfl
set_option maxRecDepth 100000 in
set_option maxHeartbeats 4000000 in
theorem wnX12_paid : Cond.initialized yX12_paid.cls ∈ eTb := tb1 16 rfl rfl
set_option maxRecDepth 100000 in
set_option maxHeartbeats 4000000 in
theorem wiX12_paid : Cond.instanceMethod yX12_paid ∈ eTb := tb6 236 rfl rfl
set_option maxRecDepth 100000 in
set_option maxHeartbeats 4000000 in
theorem wlX12_paid : Cond.selects yX12_paid.cls yX12_paid yX12_paid ∈ eTb := tb6 237 rfl rfl
set_option maxRecDepth 100000 in
set_option maxHeartbeats 4000000 in
theorem gvL_53 {Ts : List Cond} (hT : ∀ w ∈ eTb, w ∈ Ts) : GoodIn Ts (wsV RL 53 yX12_paid.cls yX12_paid (eWd yX12_paid cX12_paid 3 (some .int))) ∧ ∃ (T : u_T) (N : Nat), vwCl[11]? = some (yX12_paid.cls, T, N) := ⟨eGoodV hT (tb6 235 rfl rfl) wiX12_paid wlX12_paid wnX12_paid wcX12_paid, TX12, 60, rfl⟩
theorem hdX11_level : yX11_level.cls ≠ "java/lang/invoke/MethodHandle" ∧ yX11_level.cls ≠ "java/lang/invoke/VarHandle" ∧ (parseMethodDescriptor yX11_level.desc).map (fun d => d.parameters.length) = some 2 := by decide +kernel
set_option maxRecDepth 100000 in
set_option maxHeartbeats 4000000 in
theorem wcX11_level : Cond.code yX11_level cX11_level 3 (some .long) ∈ eTb := tb4 6 rfl rfl
set_option maxRecDepth 100000 in
set_option maxHeartbeats 4000000 in
theorem wnX11_level : Cond.initialized yX11_level.cls ∈ eTb := tb1 1 rfl rfl
set_option maxRecDepth 100000 in
set_option maxHeartbeats 4000000 in
theorem wiX11_level : Cond.instanceMethod yX11_level ∈ eTb := tb4 4 rfl rfl
set_option maxRecDepth 100000 in
set_option maxHeartbeats 4000000 in
theorem wlX11_level : Cond.selects yX11_level.cls yX11_level yX11_level ∈ eTb := tb4 5 rfl rfl
set_option maxRecDepth 100000 in
set_option maxHeartbeats 4000000 in
theorem gvL_54 {Ts : List Cond} (hT : ∀ w ∈ eTb, w ∈ Ts) : GoodIn Ts (wsV RL 54 yX11_level.cls yX11_level (eWd yX11_level cX11_level 3 (some .long))) ∧ ∃ (T : u_T) (N : Nat), vwCl[10]? = some (yX11_level.cls, T, N) := ⟨eGoodV hT (tb4 3 rfl rfl) wiX11_level wlX11_level wnX11_level wcX11_level, TX11, 9, rfl⟩
theorem hdX12_level : yX12_level.cls ≠ "java/lang/invoke/MethodHandle" ∧ yX12_level.cls ≠ "java/lang/invoke/VarHandle" ∧ (parseMethodDescriptor yX12_level.desc).map (fun d => d.parameters.length) = some 2 := by decide +kernel
set_option maxRecDepth 100000 in
set_option maxHeartbeats 4000000 in
theorem wcX12_level : Cond.code yX12_level cX12_level 3 (some .long) ∈ eTb := tb6 226 rfl rfl
set_option maxRecDepth 100000 in
set_option maxHeartbeats 4000000 in
theorem wnX12_level : Cond.initialized yX12_level.cls ∈ eTb := tb1 16 rfl rfl
set_option maxRecDepth 100000 in
set_option maxHeartbeats 4000000 in
theorem wiX12_level : Cond.instanceMethod yX12_level ∈ eTb := tb6 224 rfl rfl
set_option maxRecDepth 100000 in
set_option maxHeartbeats 4000000 in
theorem wlX12_level : Cond.selects yX12_level.cls yX12_level yX12_level ∈ eTb := tb6 225 rfl rfl
set_option maxRecDepth 100000 in
set_option maxHeartbeats 4000000 in
theorem gvL_58 {Ts : List Cond} (hT : ∀ w ∈ eTb, w ∈ Ts) : GoodIn Ts (wsV RL 58 yX12_level.cls yX12_level (eWd yX12_level cX12_level 3 (some .long))) ∧ ∃ (T : u_T) (N : Nat), vwCl[11]? = some (yX12_level.cls, T, N) := ⟨eGoodV hT (tb6 223 rfl rfl) wiX12_level wlX12_level wnX12_level wcX12_level, TX12, 60, rfl⟩
theorem hdX11_least : yX11_least.cls ≠ "java/lang/invoke/MethodHandle" ∧ yX11_least.cls ≠ "java/lang/invoke/VarHandle" ∧ (parseMethodDescriptor yX11_least.desc).map (fun d => d.parameters.length) = some 2 := by decide +kernel
set_option maxRecDepth 100000 in
set_option maxHeartbeats 4000000 in
theorem wcX11_least : Cond.code yX11_least cX11_least 4 (some .int) ∈ eTb := tb4 10 rfl rfl
set_option maxRecDepth 100000 in
set_option maxHeartbeats 4000000 in
theorem wnX11_least : Cond.initialized yX11_least.cls ∈ eTb := tb1 1 rfl rfl
set_option maxRecDepth 100000 in
set_option maxHeartbeats 4000000 in
theorem wiX11_least : Cond.instanceMethod yX11_least ∈ eTb := tb4 8 rfl rfl
set_option maxRecDepth 100000 in
set_option maxHeartbeats 4000000 in
theorem wlX11_least : Cond.selects yX11_least.cls yX11_least yX11_least ∈ eTb := tb4 9 rfl rfl
set_option maxRecDepth 100000 in
set_option maxHeartbeats 4000000 in
theorem gvL_59 {Ts : List Cond} (hT : ∀ w ∈ eTb, w ∈ Ts) : GoodIn Ts (wsV RL 59 yX11_least.cls yX11_least (eWd yX11_least cX11_least 4 (some .int))) ∧ ∃ (T : u_T) (N : Nat), vwCl[10]? = some (yX11_least.cls, T, N) := ⟨eGoodV hT (tb4 7 rfl rfl) wiX11_least wlX11_least wnX11_least wcX11_least, TX11, 9, rfl⟩
theorem hdX12_least : yX12_least.cls ≠ "java/lang/invoke/MethodHandle" ∧ yX12_least.cls ≠ "java/lang/invoke/VarHandle" ∧ (parseMethodDescriptor yX12_least.desc).map (fun d => d.parameters.length) = some 2 := by decide +kernel
set_option maxRecDepth 100000 in
set_option maxHeartbeats 4000000 in
theorem wcX12_least : Cond.code yX12_least cX12_least 6 (some .int) ∈ eTb := tb7 10 rfl rfl
set_option maxRecDepth 100000 in
set_option maxHeartbeats 4000000 in
theorem wnX12_least : Cond.initialized yX12_least.cls ∈ eTb := tb1 16 rfl rfl
set_option maxRecDepth 100000 in
set_option maxHeartbeats 4000000 in
theorem wiX12_least : Cond.instanceMethod yX12_least ∈ eTb := tb7 8 rfl rfl
set_option maxRecDepth 100000 in
set_option maxHeartbeats 4000000 in
theorem wlX12_least : Cond.selects yX12_least.cls yX12_least yX12_least ∈ eTb := tb7 9 rfl rfl
set_option maxRecDepth 100000 in
set_option maxHeartbeats 4000000 in
theorem gvL_62 {Ts : List Cond} (hT : ∀ w ∈ eTb, w ∈ Ts) : GoodIn Ts (wsV RL 62 yX12_least.cls yX12_least (eWd yX12_least cX12_least 6 (some .int))) ∧ ∃ (T : u_T) (N : Nat), vwCl[11]? = some (yX12_least.cls, T, N) := ⟨eGoodV hT (tb7 7 rfl rfl) wiX12_least wlX12_least wnX12_least wcX12_least, TX12, 60, rfl⟩
theorem hdX11_flat : yX11_flat.cls ≠ "java/lang/invoke/MethodHandle" ∧ yX11_flat.cls ≠ "java/lang/invoke/VarHandle" ∧ (parseMethodDescriptor yX11_flat.desc).map (fun d => d.parameters.length) = some 3 := by decide +kernel
set_option maxRecDepth 100000 in
set_option maxHeartbeats 4000000 in
theorem wcX11_flat : Cond.code yX11_flat cX11_flat 8 (some .int) ∈ eTb := tb4 32 rfl rfl
set_option maxRecDepth 100000 in
set_option maxHeartbeats 4000000 in
theorem wnX11_flat : Cond.initialized yX11_flat.cls ∈ eTb := tb1 1 rfl rfl
set_option maxRecDepth 100000 in
set_option maxHeartbeats 4000000 in
theorem wiX11_flat : Cond.instanceMethod yX11_flat ∈ eTb := tb4 30 rfl rfl
set_option maxRecDepth 100000 in
set_option maxHeartbeats 4000000 in
theorem wlX11_flat : Cond.selects yX11_flat.cls yX11_flat yX11_flat ∈ eTb := tb4 31 rfl rfl
set_option maxRecDepth 100000 in
set_option maxHeartbeats 4000000 in
theorem gvL_63 {Ts : List Cond} (hT : ∀ w ∈ eTb, w ∈ Ts) : GoodIn Ts (wsV RL 63 yX11_flat.cls yX11_flat (eWd yX11_flat cX11_flat 8 (some .int))) ∧ ∃ (T : u_T) (N : Nat), vwCl[10]? = some (yX11_flat.cls, T, N) := ⟨eGoodV hT (tb4 29 rfl rfl) wiX11_flat wlX11_flat wnX11_flat wcX11_flat, TX11, 9, rfl⟩
theorem hdX12_flat : yX12_flat.cls ≠ "java/lang/invoke/MethodHandle" ∧ yX12_flat.cls ≠ "java/lang/invoke/VarHandle" ∧ (parseMethodDescriptor yX12_flat.desc).map (fun d => d.parameters.length) = some 3 := by decide +kernel
set_option maxRecDepth 100000 in
set_option maxHeartbeats 4000000 in
theorem wcX12_flat : Cond.code yX12_flat cX12_flat 7 (some .int) ∈ eTb := tb7 18 rfl rfl
set_option maxRecDepth 100000 in
set_option maxHeartbeats 4000000 in
theorem wnX12_flat : Cond.initialized yX12_flat.cls ∈ eTb := tb1 16 rfl rfl
set_option maxRecDepth 100000 in
set_option maxHeartbeats 4000000 in
theorem wiX12_flat : Cond.instanceMethod yX12_flat ∈ eTb := tb7 16 rfl rfl
set_option maxRecDepth 100000 in
set_option maxHeartbeats 4000000 in
theorem wlX12_flat : Cond.selects yX12_flat.cls yX12_flat yX12_flat ∈ eTb := tb7 17 rfl rfl
set_option maxRecDepth 100000 in
set_option maxHeartbeats 4000000 in
theorem gvL_67 {Ts : List Cond} (hT : ∀ w ∈ eTb, w ∈ Ts) : GoodIn Ts (wsV RL 67 yX12_flat.cls yX12_flat (eWd yX12_flat cX12_flat 7 (some .int))) ∧ ∃ (T : u_T) (N : Nat), vwCl[11]? = some (yX12_flat.cls, T, N) := ⟨eGoodV hT (tb7 15 rfl rfl) wiX12_flat wlX12_flat wnX12_flat wcX12_flat, TX12, 60, rfl⟩
theorem hdX11_unpaid : yX11_unpaid.cls ≠ "java/lang/invoke/MethodHandle" ∧ yX11_unpaid.cls ≠ "java/lang/invoke/VarHandle" ∧ (parseMethodDescriptor yX11_unpaid.desc).map (fun d => d.parameters.length) = some 1 := by decide +kernel
set_option maxRecDepth 100000 in
set_option maxHeartbeats 4000000 in
theorem wcX11_unpaid : Cond.code yX11_unpaid cX11_unpaid 3 (some .int) ∈ eTb := tb4 36 rfl rfl
set_option maxRecDepth 100000 in
set_option maxHeartbeats 4000000 in
theorem wnX11_unpaid : Cond.initialized yX11_unpaid.cls ∈ eTb := tb1 1 rfl rfl
set_option maxRecDepth 100000 in
set_option maxHeartbeats 4000000 in
theorem wiX11_unpaid : Cond.instanceMethod yX11_unpaid ∈ eTb := tb4 34 rfl rfl
set_option maxRecDepth 100000 in
set_option maxHeartbeats 4000000 in
theorem wlX11_unpaid : Cond.selects yX11_unpaid.cls yX11_unpaid yX11_unpaid ∈ eTb := tb4 35 rfl rfl
set_option maxRecDepth 100000 in
set_option maxHeartbeats 4000000 in
theorem gvL_68 {Ts : List Cond} (hT : ∀ w ∈ eTb, w ∈ Ts) : GoodIn Ts (wsV RL 68 yX11_unpaid.cls yX11_unpaid (eWd yX11_unpaid cX11_unpaid 3 (some .int))) ∧ ∃ (T : u_T) (N : Nat), vwCl[10]? = some (yX11_unpaid.cls, T, N) := ⟨eGoodV hT (tb4 33 rfl rfl) wiX11_unpaid wlX11_unpaid wnX11_unpaid wcX11_unpaid, TX11, 9, rfl⟩
theorem hdX12_unpaid : yX12_unpaid.cls ≠ "java/lang/invoke/MethodHandle" ∧ yX12_unpaid.cls ≠ "java/lang/invoke/VarHandle" ∧ (parseMethodDescriptor yX12_unpaid.desc).map (fun d => d.parameters.length) = some 1 := by decide +kernel
set_option maxRecDepth 100000 in
set_option maxHeartbeats 4000000 in
theorem wcX12_unpaid : Cond.code yX12_unpaid cX12_unpaid 5 (some .int) ∈ eTb := tb7 31 rfl rfl
set_option maxRecDepth 100000 in
set_option maxHeartbeats 4000000 in
theorem wnX12_unpaid : Cond.initialized yX12_unpaid.cls ∈ eTb := tb1 16 rfl rfl
set_option maxRecDepth 100000 in
set_option maxHeartbeats 4000000 in
theorem wiX12_unpaid : Cond.instanceMethod yX12_unpaid ∈ eTb := tb7 29 rfl rfl
set_option maxRecDepth 100000 in
set_option maxHeartbeats 4000000 in
theorem wlX12_unpaid : Cond.selects yX12_unpaid.cls yX12_unpaid yX12_unpaid ∈ eTb := tb7 30 rfl rfl
set_option maxRecDepth 100000 in
set_option maxHeartbeats 4000000 in
theorem gvL_71 {Ts : List Cond} (hT : ∀ w ∈ eTb, w ∈ Ts) : GoodIn Ts (wsV RL 71 yX12_unpaid.cls yX12_unpaid (eWd yX12_unpaid cX12_unpaid 5 (some .int))) ∧ ∃ (T : u_T) (N : Nat), vwCl[11]? = some (yX12_unpaid.cls, T, N) := ⟨eGoodV hT (tb7 28 rfl rfl) wiX12_unpaid wlX12_unpaid wnX12_unpaid wcX12_unpaid, TX12, 60, rfl⟩
theorem hdX11_wants : yX11_wants.cls ≠ "java/lang/invoke/MethodHandle" ∧ yX11_wants.cls ≠ "java/lang/invoke/VarHandle" ∧ (parseMethodDescriptor yX11_wants.desc).map (fun d => d.parameters.length) = some 3 := by decide +kernel
set_option maxRecDepth 100000 in
set_option maxHeartbeats 4000000 in
theorem wcX11_wants : Cond.code yX11_wants cX11_wants 9 (some .int) ∈ eTb := tb4 41 rfl rfl
set_option maxRecDepth 100000 in
set_option maxHeartbeats 4000000 in
theorem wnX11_wants : Cond.initialized yX11_wants.cls ∈ eTb := tb1 1 rfl rfl
set_option maxRecDepth 100000 in
set_option maxHeartbeats 4000000 in
theorem wiX11_wants : Cond.instanceMethod yX11_wants ∈ eTb := tb4 39 rfl rfl
set_option maxRecDepth 100000 in
set_option maxHeartbeats 4000000 in
theorem wlX11_wants : Cond.selects yX11_wants.cls yX11_wants yX11_wants ∈ eTb := tb4 40 rfl rfl
set_option maxRecDepth 100000 in
set_option maxHeartbeats 4000000 in
theorem gvL_72 {Ts : List Cond} (hT : ∀ w ∈ eTb, w ∈ Ts) : GoodIn Ts (wsV RL 72 yX11_wants.cls yX11_wants (eWd yX11_wants cX11_wants 9 (some .int))) ∧ ∃ (T : u_T) (N : Nat), vwCl[10]? = some (yX11_wants.cls, T, N) := ⟨eGoodV hT (tb4 38 rfl rfl) wiX11_wants wlX11_wants wnX11_wants wcX11_wants, TX11, 9, rfl⟩
theorem hdX12_wants : yX12_wants.cls ≠ "java/lang/invoke/MethodHandle" ∧ yX12_wants.cls ≠ "java/lang/invoke/VarHandle" ∧ (parseMethodDescriptor yX12_wants.desc).map (fun d => d.parameters.length) = some 3 := by decide +kernel
set_option maxRecDepth 100000 in
set_option maxHeartbeats 4000000 in
theorem wcX12_wants : Cond.code yX12_wants cX12_wants 7 (some .int) ∈ eTb := tb7 35 rfl rfl
set_option maxRecDepth 100000 in
set_option maxHeartbeats 4000000 in
theorem wnX12_wants : Cond.initialized yX12_wants.cls ∈ eTb := tb1 16 rfl rfl
set_option maxRecDepth 100000 in
set_option maxHeartbeats 4000000 in
theorem wiX12_wants : Cond.instanceMethod yX12_wants ∈ eTb := tb7 33 rfl rfl
set_option maxRecDepth 100000 in
set_option maxHeartbeats 4000000 in
theorem wlX12_wants : Cond.selects yX12_wants.cls yX12_wants yX12_wants ∈ eTb := tb7 34 rfl rfl
set_option maxRecDepth 100000 in
set_option maxHeartbeats 4000000 in
theorem gvL_75 {Ts : List Cond} (hT : ∀ w ∈ eTb, w ∈ Ts) : GoodIn Ts (wsV RL 75 yX12_wants.cls yX12_wants (eWd yX12_wants cX12_wants 7 (some .int))) ∧ ∃ (T : u_T) (N : Nat), vwCl[11]? = some (yX12_wants.cls, T, N) := ⟨eGoodV hT (tb7 32 rfl rfl) wiX12_wants wlX12_wants wnX12_wants wcX12_wants, TX12, 60, rfl⟩
theorem hdX11_dilutes : yX11_dilutes.cls ≠ "java/lang/invoke/MethodHandle" ∧ yX11_dilutes.cls ≠ "java/lang/invoke/VarHandle" ∧ (parseMethodDescriptor yX11_dilutes.desc).map (fun d => d.parameters.length) = some 4 := by decide +kernel
set_option maxRecDepth 100000 in
set_option maxHeartbeats 4000000 in
theorem wcX11_dilutes : Cond.code yX11_dilutes cX11_dilutes 8 (some .int) ∈ eTb := tb4 47 rfl rfl
set_option maxRecDepth 100000 in
set_option maxHeartbeats 4000000 in
theorem wnX11_dilutes : Cond.initialized yX11_dilutes.cls ∈ eTb := tb1 1 rfl rfl
set_option maxRecDepth 100000 in
set_option maxHeartbeats 4000000 in
theorem wiX11_dilutes : Cond.instanceMethod yX11_dilutes ∈ eTb := tb4 45 rfl rfl
set_option maxRecDepth 100000 in
set_option maxHeartbeats 4000000 in
theorem wlX11_dilutes : Cond.selects yX11_dilutes.cls yX11_dilutes yX11_dilutes ∈ eTb := tb4 46 rfl rfl
set_option maxRecDepth 100000 in
set_option maxHeartbeats 4000000 in
theorem gvL_76 {Ts : List Cond} (hT : ∀ w ∈ eTb, w ∈ Ts) : GoodIn Ts (wsV RL 76 yX11_dilutes.cls yX11_dilutes (eWd yX11_dilutes cX11_dilutes 8 (some .int))) ∧ ∃ (T : u_T) (N : Nat), vwCl[10]? = some (yX11_dilutes.cls, T, N) := ⟨eGoodV hT (tb4 44 rfl rfl) wiX11_dilutes wlX11_dilutes wnX11_dilutes wcX11_dilutes, TX11, 9, rfl⟩
theorem hdX12_dilutes : yX12_dilutes.cls ≠ "java/lang/invoke/MethodHandle" ∧ yX12_dilutes.cls ≠ "java/lang/invoke/VarHandle" ∧ (parseMethodDescriptor yX12_dilutes.desc).map (fun d => d.parameters.length) = some 4 := by decide +kernel
set_option maxRecDepth 100000 in
set_option maxHeartbeats 4000000 in
theorem wcX12_dilutes : Cond.code yX12_dilutes cX12_dilutes 7 (some .int) ∈ eTb := tb7 39 rfl rfl
set_option maxRecDepth 100000 in
set_option maxHeartbeats 4000000 in
theorem wnX12_dilutes : Cond.initialized yX12_dilutes.cls ∈ eTb := tb1 16 rfl rfl
set_option maxRecDepth 100000 in
set_option maxHeartbeats 4000000 in
theorem wiX12_dilutes : Cond.instanceMethod yX12_dilutes ∈ eTb := tb7 37 rfl rfl
set_option maxRecDepth 100000 in
set_option maxHeartbeats 4000000 in
theorem wlX12_dilutes : Cond.selects yX12_dilutes.cls yX12_dilutes yX12_dilutes ∈ eTb := tb7 38 rfl rfl
set_option maxRecDepth 100000 in
set_option maxHeartbeats 4000000 in
theorem gvL_80 {Ts : List Cond} (hT : ∀ w ∈ eTb, w ∈ Ts) : GoodIn Ts (wsV RL 80 yX12_dilutes.cls yX12_dilutes (eWd yX12_dilutes cX12_dilutes 7 (some .int))) ∧ ∃ (T : u_T) (N : Nat), vwCl[11]? = some (yX12_dilutes.cls, T, N) := ⟨eGoodV hT (tb7 36 rfl rfl) wiX12_dilutes wlX12_dilutes wnX12_dilutes wcX12_dilutes, TX12, 60, rfl⟩
theorem hdX11_prefers : yX11_prefers.cls ≠ "java/lang/invoke/MethodHandle" ∧ yX11_prefers.cls ≠ "java/lang/invoke/VarHandle" ∧ (parseMethodDescriptor yX11_prefers.desc).map (fun d => d.parameters.length) = some 2 := by decide +kernel
set_option maxRecDepth 100000 in
set_option maxHeartbeats 4000000 in
theorem wcX11_prefers : Cond.code yX11_prefers cX11_prefers 3 (some .int) ∈ eTb := tb4 56 rfl rfl
set_option maxRecDepth 100000 in
set_option maxHeartbeats 4000000 in
theorem wnX11_prefers : Cond.initialized yX11_prefers.cls ∈ eTb := tb1 1 rfl rfl
set_option maxRecDepth 100000 in
set_option maxHeartbeats 4000000 in
theorem wiX11_prefers : Cond.instanceMethod yX11_prefers ∈ eTb := tb4 54 rfl rfl
set_option maxRecDepth 100000 in
set_option maxHeartbeats 4000000 in
theorem wlX11_prefers : Cond.selects yX11_prefers.cls yX11_prefers yX11_prefers ∈ eTb := tb4 55 rfl rfl
set_option maxRecDepth 100000 in
set_option maxHeartbeats 4000000 in
theorem gvL_81 {Ts : List Cond} (hT : ∀ w ∈ eTb, w ∈ Ts) : GoodIn Ts (wsV RL 81 yX11_prefers.cls yX11_prefers (eWd yX11_prefers cX11_prefers 3 (some .int))) ∧ ∃ (T : u_T) (N : Nat), vwCl[10]? = some (yX11_prefers.cls, T, N) := ⟨eGoodV hT (tb4 53 rfl rfl) wiX11_prefers wlX11_prefers wnX11_prefers wcX11_prefers, TX11, 9, rfl⟩
theorem hdX12_prefers : yX12_prefers.cls ≠ "java/lang/invoke/MethodHandle" ∧ yX12_prefers.cls ≠ "java/lang/invoke/VarHandle" ∧ (parseMethodDescriptor yX12_prefers.desc).map (fun d => d.parameters.length) = some 2 := by decide +kernel
set_option maxRecDepth 100000 in
set_option maxHeartbeats 4000000 in
theorem wcX12_prefers : Cond.code yX12_prefers cX12_prefers 3 (some .int) ∈ eTb := tb7 44 rfl rfl
set_option maxRecDepth 100000 in
set_option maxHeartbeats 4000000 in
theorem wnX12_prefers : Cond.initialized yX12_prefers.cls ∈ eTb := tb1 16 rfl rfl
set_option maxRecDepth 100000 in
set_option maxHeartbeats 4000000 in
theorem wiX12_prefers : Cond.instanceMethod yX12_prefers ∈ eTb := tb7 42 rfl rfl
set_option maxRecDepth 100000 in
set_option maxHeartbeats 4000000 in
theorem wlX12_prefers : Cond.selects yX12_prefers.cls yX12_prefers yX12_prefers ∈ eTb := tb7 43 rfl rfl
set_option maxRecDepth 100000 in
set_option maxHeartbeats 4000000 in
theorem gvL_84 {Ts : List Cond} (hT : ∀ w ∈ eTb, w ∈ Ts) : GoodIn Ts (wsV RL 84 yX12_prefers.cls yX12_prefers (eWd yX12_prefers cX12_prefers 3 (some .int))) ∧ ∃ (T : u_T) (N : Nat), vwCl[11]? = some (yX12_prefers.cls, T, N) := ⟨eGoodV hT (tb7 41 rfl rfl) wiX12_prefers wlX12_prefers wnX12_prefers wcX12_prefers, TX12, 60, rfl⟩
theorem hdX11_votes : yX11_votes.cls ≠ "java/lang/invoke/MethodHandle" ∧ yX11_votes.cls ≠ "java/lang/invoke/VarHandle" ∧ (parseMethodDescriptor yX11_votes.desc).map (fun d => d.parameters.length) = some 1 := by decide +kernel
set_option maxRecDepth 100000 in
set_option maxHeartbeats 4000000 in
theorem wcX11_votes : Cond.code yX11_votes cX11_votes 2 (some .int) ∈ eTb := tb4 74 rfl rfl
set_option maxRecDepth 100000 in
set_option maxHeartbeats 4000000 in
theorem wnX11_votes : Cond.initialized yX11_votes.cls ∈ eTb := tb1 1 rfl rfl
set_option maxRecDepth 100000 in
set_option maxHeartbeats 4000000 in
theorem wiX11_votes : Cond.instanceMethod yX11_votes ∈ eTb := tb4 72 rfl rfl
set_option maxRecDepth 100000 in
set_option maxHeartbeats 4000000 in
theorem wlX11_votes : Cond.selects yX11_votes.cls yX11_votes yX11_votes ∈ eTb := tb4 73 rfl rfl
set_option maxRecDepth 100000 in
set_option maxHeartbeats 4000000 in
theorem gvL_85 {Ts : List Cond} (hT : ∀ w ∈ eTb, w ∈ Ts) : GoodIn Ts (wsV RL 85 yX11_votes.cls yX11_votes (eWd yX11_votes cX11_votes 2 (some .int))) ∧ ∃ (T : u_T) (N : Nat), vwCl[10]? = some (yX11_votes.cls, T, N) := ⟨eGoodV hT (tb4 71 rfl rfl) wiX11_votes wlX11_votes wnX11_votes wcX11_votes, TX11, 9, rfl⟩
theorem hdX12_votes : yX12_votes.cls ≠ "java/lang/invoke/MethodHandle" ∧ yX12_votes.cls ≠ "java/lang/invoke/VarHandle" ∧ (parseMethodDescriptor yX12_votes.desc).map (fun d => d.parameters.length) = some 1 := by decide +kernel
set_option maxRecDepth 100000 in
set_option maxHeartbeats 4000000 in
theorem wcX12_votes : Cond.code yX12_votes cX12_votes 2 (some .int) ∈ eTb := tb7 52 rfl rfl
set_option maxRecDepth 100000 in
set_option maxHeartbeats 4000000 in
theorem wnX12_votes : Cond.initialized yX12_votes.cls ∈ eTb := tb1 16 rfl rfl
set_option maxRecDepth 100000 in
set_option maxHeartbeats 4000000 in
theorem wiX12_votes : Cond.instanceMethod yX12_votes ∈ eTb := tb7 50 rfl rfl
set_option maxRecDepth 100000 in
set_option maxHeartbeats 4000000 in
theorem wlX12_votes : Cond.selects yX12_votes.cls yX12_votes yX12_votes ∈ eTb := tb7 51 rfl rfl
set_option maxRecDepth 100000 in
set_option maxHeartbeats 4000000 in
theorem gvL_88 {Ts : List Cond} (hT : ∀ w ∈ eTb, w ∈ Ts) : GoodIn Ts (wsV RL 88 yX12_votes.cls yX12_votes (eWd yX12_votes cX12_votes 2 (some .int))) ∧ ∃ (T : u_T) (N : Nat), vwCl[11]? = some (yX12_votes.cls, T, N) := ⟨eGoodV hT (tb7 49 rfl rfl) wiX12_votes wlX12_votes wnX12_votes wcX12_votes, TX12, 60, rfl⟩
theorem hdX11_passes : yX11_passes.cls ≠ "java/lang/invoke/MethodHandle" ∧ yX11_passes.cls ≠ "java/lang/invoke/VarHandle" ∧ (parseMethodDescriptor yX11_passes.desc).map (fun d => d.parameters.length) = some 2 := by decide +kernel
set_option maxRecDepth 100000 in
set_option maxHeartbeats 4000000 in
theorem wcX11_passes : Cond.code yX11_passes cX11_passes 4 (some .int) ∈ eTb := tb4 86 rfl rfl
set_option maxRecDepth 100000 in
set_option maxHeartbeats 4000000 in
theorem wnX11_passes : Cond.initialized yX11_passes.cls ∈ eTb := tb1 1 rfl rfl
set_option maxRecDepth 100000 in
set_option maxHeartbeats 4000000 in
theorem wiX11_passes : Cond.instanceMethod yX11_passes ∈ eTb := tb4 84 rfl rfl
set_option maxRecDepth 100000 in
set_option maxHeartbeats 4000000 in
theorem wlX11_passes : Cond.selects yX11_passes.cls yX11_passes yX11_passes ∈ eTb := tb4 85 rfl rfl
set_option maxRecDepth 100000 in
set_option maxHeartbeats 4000000 in
theorem gvL_89 {Ts : List Cond} (hT : ∀ w ∈ eTb, w ∈ Ts) : GoodIn Ts (wsV RL 89 yX11_passes.cls yX11_passes (eWd yX11_passes cX11_passes 4 (some .int))) ∧ ∃ (T : u_T) (N : Nat), vwCl[10]? = some (yX11_passes.cls, T, N) := ⟨eGoodV hT (tb4 83 rfl rfl) wiX11_passes wlX11_passes wnX11_passes wcX11_passes, TX11, 9, rfl⟩
theorem hdX12_passes : yX12_passes.cls ≠ "java/lang/invoke/MethodHandle" ∧ yX12_passes.cls ≠ "java/lang/invoke/VarHandle" ∧ (parseMethodDescriptor yX12_passes.desc).map (fun d => d.parameters.length) = some 2 := by decide +kernel
set_option maxRecDepth 100000 in
set_option maxHeartbeats 4000000 in
theorem wcX12_passes : Cond.code yX12_passes cX12_passes 4 (some .int) ∈ eTb := tb7 60 rfl rfl
set_option maxRecDepth 100000 in
set_option maxHeartbeats 4000000 in
theorem wnX12_passes : Cond.initialized yX12_passes.cls ∈ eTb := tb1 16 rfl rfl
set_option maxRecDepth 100000 in
set_option maxHeartbeats 4000000 in
theorem wiX12_passes : Cond.instanceMethod yX12_passes ∈ eTb := tb7 58 rfl rfl
set_option maxRecDepth 100000 in
set_option maxHeartbeats 4000000 in
theorem wlX12_passes : Cond.selects yX12_passes.cls yX12_passes yX12_passes ∈ eTb := tb7 59 rfl rfl
set_option maxRecDepth 100000 in
set_option maxHeartbeats 4000000 in
theorem gvL_92 {Ts : List Cond} (hT : ∀ w ∈ eTb, w ∈ Ts) : GoodIn Ts (wsV RL 92 yX12_passes.cls yX12_passes (eWd yX12_passes cX12_passes 4 (some .int))) ∧ ∃ (T : u_T) (N : Nat), vwCl[11]? = some (yX12_passes.cls, T, N) := ⟨eGoodV hT (tb7 57 rfl rfl) wiX12_passes wlX12_passes wnX12_passes wcX12_passes, TX12, 60, rfl⟩
theorem hdX11_breaks : yX11_breaks.cls ≠ "java/lang/invoke/MethodHandle" ∧ yX11_breaks.cls ≠ "java/lang/invoke/VarHandle" ∧ (parseMethodDescriptor yX11_breaks.desc).map (fun d => d.parameters.length) = some 2 := by decide +kernel
set_option maxRecDepth 100000 in
set_option maxHeartbeats 4000000 in
theorem wcX11_breaks : Cond.code yX11_breaks cX11_breaks 3 (some .long) ∈ eTb := tb4 90 rfl rfl
set_option maxRecDepth 100000 in
set_option maxHeartbeats 4000000 in
theorem wnX11_breaks : Cond.initialized yX11_breaks.cls ∈ eTb := tb1 1 rfl rfl
set_option maxRecDepth 100000 in
set_option maxHeartbeats 4000000 in
theorem wiX11_breaks : Cond.instanceMethod yX11_breaks ∈ eTb := tb4 88 rfl rfl
set_option maxRecDepth 100000 in
set_option maxHeartbeats 4000000 in
theorem wlX11_breaks : Cond.selects yX11_breaks.cls yX11_breaks yX11_breaks ∈ eTb := tb4 89 rfl rfl
set_option maxRecDepth 100000 in
set_option maxHeartbeats 4000000 in
theorem gvL_93 {Ts : List Cond} (hT : ∀ w ∈ eTb, w ∈ Ts) : GoodIn Ts (wsV RL 93 yX11_breaks.cls yX11_breaks (eWd yX11_breaks cX11_breaks 3 (some .long))) ∧ ∃ (T : u_T) (N : Nat), vwCl[10]? = some (yX11_breaks.cls, T, N) := ⟨eGoodV hT (tb4 87 rfl rfl) wiX11_breaks wlX11_breaks wnX11_breaks wcX11_breaks, TX11, 9, rfl⟩
theorem hdX12_breaks : yX12_breaks.cls ≠ "java/lang/invoke/MethodHandle" ∧ yX12_breaks.cls ≠ "java/lang/invoke/VarHandle" ∧ (parseMethodDescriptor yX12_breaks.desc).map (fun d => d.parameters.length) = some 2 := by decide +kernel
set_option maxRecDepth 100000 in
set_option maxHeartbeats 4000000 in
theorem wcX12_breaks : Cond.code yX12_breaks cX12_breaks 3 (some .long) ∈ eTb := tb7 64 rfl rfl
set_option maxRecDepth 100000 in
set_option maxHeartbeats 4000000 in
theorem wnX12_breaks : Cond.initialized yX12_breaks.cls ∈ eTb := tb1 16 rfl rfl
set_option maxRecDepth 100000 in
set_option maxHeartbeats 4000000 in
theorem wiX12_breaks : Cond.instanceMethod yX12_breaks ∈ eTb := tb7 62 rfl rfl
set_option maxRecDepth 100000 in
set_option maxHeartbeats 4000000 in
theorem wlX12_breaks : Cond.selects yX12_breaks.cls yX12_breaks yX12_breaks ∈ eTb := tb7 63 rfl rfl
set_option maxRecDepth 100000 in
set_option maxHeartbeats 4000000 in
theorem gvL_96 {Ts : List Cond} (hT : ∀ w ∈ eTb, w ∈ Ts) : GoodIn Ts (wsV RL 96 yX12_breaks.cls yX12_breaks (eWd yX12_breaks cX12_breaks 3 (some .long))) ∧ ∃ (T : u_T) (N : Nat), vwCl[11]? = some (yX12_breaks.cls, T, N) := ⟨eGoodV hT (tb7 61 rfl rfl) wiX12_breaks wlX12_breaks wnX12_breaks wcX12_breaks, TX12, 60, rfl⟩
theorem hdX11_part : yX11_part.cls ≠ "java/lang/invoke/MethodHandle" ∧ yX11_part.cls ≠ "java/lang/invoke/VarHandle" ∧ (parseMethodDescriptor yX11_part.desc).map (fun d => d.parameters.length) = some 3 := by decide +kernel
set_option maxRecDepth 100000 in
set_option maxHeartbeats 4000000 in
theorem wcX11_part : Cond.code yX11_part cX11_part 4 (some .long) ∈ eTb := tb4 107 rfl rfl
set_option maxRecDepth 100000 in
set_option maxHeartbeats 4000000 in
theorem wnX11_part : Cond.initialized yX11_part.cls ∈ eTb := tb1 1 rfl rfl
set_option maxRecDepth 100000 in
set_option maxHeartbeats 4000000 in
theorem wiX11_part : Cond.instanceMethod yX11_part ∈ eTb := tb4 105 rfl rfl
set_option maxRecDepth 100000 in
set_option maxHeartbeats 4000000 in
theorem wlX11_part : Cond.selects yX11_part.cls yX11_part yX11_part ∈ eTb := tb4 106 rfl rfl
set_option maxRecDepth 100000 in
set_option maxHeartbeats 4000000 in
theorem gvL_97 {Ts : List Cond} (hT : ∀ w ∈ eTb, w ∈ Ts) : GoodIn Ts (wsV RL 97 yX11_part.cls yX11_part (eWd yX11_part cX11_part 4 (some .long))) ∧ ∃ (T : u_T) (N : Nat), vwCl[10]? = some (yX11_part.cls, T, N) := ⟨eGoodV hT (tb4 104 rfl rfl) wiX11_part wlX11_part wnX11_part wcX11_part, TX11, 9, rfl⟩
theorem hdX12_part : yX12_part.cls ≠ "java/lang/invoke/MethodHandle" ∧ yX12_part.cls ≠ "java/lang/invoke/VarHandle" ∧ (parseMethodDescriptor yX12_part.desc).map (fun d => d.parameters.length) = some 3 := by decide +kernel
set_option maxRecDepth 100000 in
set_option maxHeartbeats 4000000 in
theorem wcX12_part : Cond.code yX12_part cX12_part 6 (some .long) ∈ eTb := tb7 83 rfl rfl
set_option maxRecDepth 100000 in
set_option maxHeartbeats 4000000 in
theorem wnX12_part : Cond.initialized yX12_part.cls ∈ eTb := tb1 16 rfl rfl
set_option maxRecDepth 100000 in
set_option maxHeartbeats 4000000 in
theorem wiX12_part : Cond.instanceMethod yX12_part ∈ eTb := tb7 81 rfl rfl
set_option maxRecDepth 100000 in
set_option maxHeartbeats 4000000 in
theorem wlX12_part : Cond.selects yX12_part.cls yX12_part yX12_part ∈ eTb := tb7 82 rfl rfl
set_option maxRecDepth 100000 in
set_option maxHeartbeats 4000000 in
theorem gvL_100 {Ts : List Cond} (hT : ∀ w ∈ eTb, w ∈ Ts) : GoodIn Ts (wsV RL 100 yX12_part.cls yX12_part (eWd yX12_part cX12_part 6 (some .long))) ∧ ∃ (T : u_T) (N : Nat), vwCl[11]? = some (yX12_part.cls, T, N) := ⟨eGoodV hT (tb7 80 rfl rfl) wiX12_part wlX12_part wnX12_part wcX12_part, TX12, 60, rfl⟩
theorem hdX11_chosen : yX11_chosen.cls ≠ "java/lang/invoke/MethodHandle" ∧ yX11_chosen.cls ≠ "java/lang/invoke/VarHandle" ∧ (parseMethodDescriptor yX11_chosen.desc).map (fun d => d.parameters.length) = some 4 := by decide +kernel
set_option maxRecDepth 100000 in
set_option maxHeartbeats 4000000 in
theorem wcX11_chosen : Cond.code yX11_chosen cX11_chosen 5 (some .long) ∈ eTb := tb4 132 rfl rfl
set_option maxRecDepth 100000 in
set_option maxHeartbeats 4000000 in
theorem wnX11_chosen : Cond.initialized yX11_chosen.cls ∈ eTb := tb1 1 rfl rfl
set_option maxRecDepth 100000 in
set_option maxHeartbeats 4000000 in
theorem wiX11_chosen : Cond.instanceMethod yX11_chosen ∈ eTb := tb4 130 rfl rfl
set_option maxRecDepth 100000 in
set_option maxHeartbeats 4000000 in
theorem wlX11_chosen : Cond.selects yX11_chosen.cls yX11_chosen yX11_chosen ∈ eTb := tb4 131 rfl rfl
set_option maxRecDepth 100000 in
set_option maxHeartbeats 4000000 in
theorem gvL_101 {Ts : List Cond} (hT : ∀ w ∈ eTb, w ∈ Ts) : GoodIn Ts (wsV RL 101 yX11_chosen.cls yX11_chosen (eWd yX11_chosen cX11_chosen 5 (some .long))) ∧ ∃ (T : u_T) (N : Nat), vwCl[10]? = some (yX11_chosen.cls, T, N) := ⟨eGoodV hT (tb4 129 rfl rfl) wiX11_chosen wlX11_chosen wnX11_chosen wcX11_chosen, TX11, 9, rfl⟩
theorem hdX12_chosen : yX12_chosen.cls ≠ "java/lang/invoke/MethodHandle" ∧ yX12_chosen.cls ≠ "java/lang/invoke/VarHandle" ∧ (parseMethodDescriptor yX12_chosen.desc).map (fun d => d.parameters.length) = some 4 := by decide +kernel
set_option maxRecDepth 100000 in
set_option maxHeartbeats 4000000 in
theorem wcX12_chosen : Cond.code yX12_chosen cX12_chosen 5 (some .long) ∈ eTb := tb7 91 rfl rfl
set_option maxRecDepth 100000 in
set_option maxHeartbeats 4000000 in
theorem wnX12_chosen : Cond.initialized yX12_chosen.cls ∈ eTb := tb1 16 rfl rfl
set_option maxRecDepth 100000 in
set_option maxHeartbeats 4000000 in
theorem wiX12_chosen : Cond.instanceMethod yX12_chosen ∈ eTb := tb7 89 rfl rfl
set_option maxRecDepth 100000 in
set_option maxHeartbeats 4000000 in
theorem wlX12_chosen : Cond.selects yX12_chosen.cls yX12_chosen yX12_chosen ∈ eTb := tb7 90 rfl rfl
set_option maxRecDepth 100000 in
set_option maxHeartbeats 4000000 in
theorem gvL_105 {Ts : List Cond} (hT : ∀ w ∈ eTb, w ∈ Ts) : GoodIn Ts (wsV RL 105 yX12_chosen.cls yX12_chosen (eWd yX12_chosen cX12_chosen 5 (some .long))) ∧ ∃ (T : u_T) (N : Nat), vwCl[11]? = some (yX12_chosen.cls, T, N) := ⟨eGoodV hT (tb7 88 rfl rfl) wiX12_chosen wlX12_chosen wnX12_chosen wcX12_chosen, TX12, 60, rfl⟩
theorem hdX11_steady : yX11_steady.cls ≠ "java/lang/invoke/MethodHandle" ∧ yX11_steady.cls ≠ "java/lang/invoke/VarHandle" ∧ (parseMethodDescriptor yX11_steady.desc).map (fun d => d.parameters.length) = some 2 := by decide +kernel
set_option maxRecDepth 100000 in
set_option maxHeartbeats 4000000 in
theorem wcX11_steady : Cond.code yX11_steady cX11_steady 4 (some .int) ∈ eTb := tb4 136 rfl rfl
set_option maxRecDepth 100000 in
set_option maxHeartbeats 4000000 in
theorem wnX11_steady : Cond.initialized yX11_steady.cls ∈ eTb := tb1 1 rfl rfl
set_option maxRecDepth 100000 in
set_option maxHeartbeats 4000000 in
theorem wiX11_steady : Cond.instanceMethod yX11_steady ∈ eTb := tb4 134 rfl rfl
set_option maxRecDepth 100000 in
set_option maxHeartbeats 4000000 in
theorem wlX11_steady : Cond.selects yX11_steady.cls yX11_steady yX11_steady ∈ eTb := tb4 135 rfl rfl
set_option maxRecDepth 100000 in
set_option maxHeartbeats 4000000 in
theorem gvL_106 {Ts : List Cond} (hT : ∀ w ∈ eTb, w ∈ Ts) : GoodIn Ts (wsV RL 106 yX11_steady.cls yX11_steady (eWd yX11_steady cX11_steady 4 (some .int))) ∧ ∃ (T : u_T) (N : Nat), vwCl[10]? = some (yX11_steady.cls, T, N) := ⟨eGoodV hT (tb4 133 rfl rfl) wiX11_steady wlX11_steady wnX11_steady wcX11_steady, TX11, 9, rfl⟩
theorem hdX12_steady : yX12_steady.cls ≠ "java/lang/invoke/MethodHandle" ∧ yX12_steady.cls ≠ "java/lang/invoke/VarHandle" ∧ (parseMethodDescriptor yX12_steady.desc).map (fun d => d.parameters.length) = some 2 := by decide +kernel
set_option maxRecDepth 100000 in
set_option maxHeartbeats 4000000 in
theorem wcX12_steady : Cond.code yX12_steady cX12_steady 3 (some .int) ∈ eTb := tb7 99 rfl rfl
set_option maxRecDepth 100000 in
set_option maxHeartbeats 4000000 in
theorem wnX12_steady : Cond.initialized yX12_steady.cls ∈ eTb := tb1 16 rfl rfl
set_option maxRecDepth 100000 in
set_option maxHeartbeats 4000000 in
theorem wiX12_steady : Cond.instanceMethod yX12_steady ∈ eTb := tb7 97 rfl rfl
set_option maxRecDepth 100000 in
set_option maxHeartbeats 4000000 in
theorem wlX12_steady : Cond.selects yX12_steady.cls yX12_steady yX12_steady ∈ eTb := tb7 98 rfl rfl
set_option maxRecDepth 100000 in
set_option maxHeartbeats 4000000 in
theorem gvL_109 {Ts : List Cond} (hT : ∀ w ∈ eTb, w ∈ Ts) : GoodIn Ts (wsV RL 109 yX12_steady.cls yX12_steady (eWd yX12_steady cX12_steady 3 (some .int))) ∧ ∃ (T : u_T) (N : Nat), vwCl[11]? = some (yX12_steady.cls, T, N) := ⟨eGoodV hT (tb7 96 rfl rfl) wiX12_steady wlX12_steady wnX12_steady wcX12_steady, TX12, 60, rfl⟩
theorem hdX11_steadies : yX11_steadies.cls ≠ "java/lang/invoke/MethodHandle" ∧ yX11_steadies.cls ≠ "java/lang/invoke/VarHandle" ∧ (parseMethodDescriptor yX11_steadies.desc).map (fun d => d.parameters.length) = some 2 := by decide +kernel
set_option maxRecDepth 100000 in
set_option maxHeartbeats 4000000 in
theorem wcX11_steadies : Cond.code yX11_steadies cX11_steadies 3 (some .int) ∈ eTb := tb4 173 rfl rfl
set_option maxRecDepth 100000 in
set_option maxHeartbeats 4000000 in
theorem wnX11_steadies : Cond.initialized yX11_steadies.cls ∈ eTb := tb1 1 rfl rfl
set_option maxRecDepth 100000 in
set_option maxHeartbeats 4000000 in
theorem wiX11_steadies : Cond.instanceMethod yX11_steadies ∈ eTb := tb4 171 rfl rfl
set_option maxRecDepth 100000 in
set_option maxHeartbeats 4000000 in
theorem wlX11_steadies : Cond.selects yX11_steadies.cls yX11_steadies yX11_steadies ∈ eTb := tb4 172 rfl rfl
set_option maxRecDepth 100000 in
set_option maxHeartbeats 4000000 in
theorem gvL_110 {Ts : List Cond} (hT : ∀ w ∈ eTb, w ∈ Ts) : GoodIn Ts (wsV RL 110 yX11_steadies.cls yX11_steadies (eWd yX11_steadies cX11_steadies 3 (some .int))) ∧ ∃ (T : u_T) (N : Nat), vwCl[10]? = some (yX11_steadies.cls, T, N) := ⟨eGoodV hT (tb4 170 rfl rfl) wiX11_steadies wlX11_steadies wnX11_steadies wcX11_steadies, TX11, 9, rfl⟩
theorem hdX12_steadies : yX12_steadies.cls ≠ "java/lang/invoke/MethodHandle" ∧ yX12_steadies.cls ≠ "java/lang/invoke/VarHandle" ∧ (parseMethodDescriptor yX12_steadies.desc).map (fun d => d.parameters.length) = some 2 := by decide +kernel
set_option maxRecDepth 100000 in
set_option maxHeartbeats 4000000 in
theorem wcX12_steadies : Cond.code yX12_steadies cX12_steadies 6 (some .int) ∈ eTb := tb7 107 rfl rfl
set_option maxRecDepth 100000 in
set_option maxHeartbeats 4000000 in
theorem wnX12_steadies : Cond.initialized yX12_steadies.cls ∈ eTb := tb1 16 rfl rfl
set_option maxRecDepth 100000 in
set_option maxHeartbeats 4000000 in
theorem wiX12_steadies : Cond.instanceMethod yX12_steadies ∈ eTb := tb7 105 rfl rfl
set_option maxRecDepth 100000 in
set_option maxHeartbeats 4000000 in
theorem wlX12_steadies : Cond.selects yX12_steadies.cls yX12_steadies yX12_steadies ∈ eTb := tb7 106 rfl rfl
set_option maxRecDepth 100000 in
set_option maxHeartbeats 4000000 in
theorem gvL_113 {Ts : List Cond} (hT : ∀ w ∈ eTb, w ∈ Ts) : GoodIn Ts (wsV RL 113 yX12_steadies.cls yX12_steadies (eWd yX12_steadies cX12_steadies 6 (some .int))) ∧ ∃ (T : u_T) (N : Nat), vwCl[11]? = some (yX12_steadies.cls, T, N) := ⟨eGoodV hT (tb7 104 rfl rfl) wiX12_steadies wlX12_steadies wnX12_steadies wcX12_steadies, TX12, 60, rfl⟩
theorem hdX11_close : yX11_close.cls ≠ "java/lang/invoke/MethodHandle" ∧ yX11_close.cls ≠ "java/lang/invoke/VarHandle" ∧ (parseMethodDescriptor yX11_close.desc).map (fun d => d.parameters.length) = some 2 := by decide +kernel
set_option maxRecDepth 100000 in
set_option maxHeartbeats 4000000 in
theorem wcX11_close : Cond.code yX11_close cX11_close 3 (some .int) ∈ eTb := tb4 190 rfl rfl
set_option maxRecDepth 100000 in
set_option maxHeartbeats 4000000 in
theorem wnX11_close : Cond.initialized yX11_close.cls ∈ eTb := tb1 1 rfl rfl
set_option maxRecDepth 100000 in
set_option maxHeartbeats 4000000 in
theorem wiX11_close : Cond.instanceMethod yX11_close ∈ eTb := tb4 188 rfl rfl
set_option maxRecDepth 100000 in
set_option maxHeartbeats 4000000 in
theorem wlX11_close : Cond.selects yX11_close.cls yX11_close yX11_close ∈ eTb := tb4 189 rfl rfl
set_option maxRecDepth 100000 in
set_option maxHeartbeats 4000000 in
theorem gvL_114 {Ts : List Cond} (hT : ∀ w ∈ eTb, w ∈ Ts) : GoodIn Ts (wsV RL 114 yX11_close.cls yX11_close (eWd yX11_close cX11_close 3 (some .int))) ∧ ∃ (T : u_T) (N : Nat), vwCl[10]? = some (yX11_close.cls, T, N) := ⟨eGoodV hT (tb4 187 rfl rfl) wiX11_close wlX11_close wnX11_close wcX11_close, TX11, 9, rfl⟩
theorem hdX12_close : yX12_close.cls ≠ "java/lang/invoke/MethodHandle" ∧ yX12_close.cls ≠ "java/lang/invoke/VarHandle" ∧ (parseMethodDescriptor yX12_close.desc).map (fun d => d.parameters.length) = some 2 := by decide +kernel
set_option maxRecDepth 100000 in
set_option maxHeartbeats 4000000 in
theorem wcX12_close : Cond.code yX12_close cX12_close 3 (some .int) ∈ eTb := tb7 115 rfl rfl
set_option maxRecDepth 100000 in
set_option maxHeartbeats 4000000 in
theorem wnX12_close : Cond.initialized yX12_close.cls ∈ eTb := tb1 16 rfl rfl
set_option maxRecDepth 100000 in
set_option maxHeartbeats 4000000 in
theorem wiX12_close : Cond.instanceMethod yX12_close ∈ eTb := tb7 113 rfl rfl
set_option maxRecDepth 100000 in
set_option maxHeartbeats 4000000 in
theorem wlX12_close : Cond.selects yX12_close.cls yX12_close yX12_close ∈ eTb := tb7 114 rfl rfl
set_option maxRecDepth 100000 in
set_option maxHeartbeats 4000000 in
theorem gvL_117 {Ts : List Cond} (hT : ∀ w ∈ eTb, w ∈ Ts) : GoodIn Ts (wsV RL 117 yX12_close.cls yX12_close (eWd yX12_close cX12_close 3 (some .int))) ∧ ∃ (T : u_T) (N : Nat), vwCl[11]? = some (yX12_close.cls, T, N) := ⟨eGoodV hT (tb7 112 rfl rfl) wiX12_close wlX12_close wnX12_close wcX12_close, TX12, 60, rfl⟩
theorem hdX11_release : yX11_release.cls ≠ "java/lang/invoke/MethodHandle" ∧ yX11_release.cls ≠ "java/lang/invoke/VarHandle" ∧ (parseMethodDescriptor yX11_release.desc).map (fun d => d.parameters.length) = some 2 := by decide +kernel
set_option maxRecDepth 100000 in
set_option maxHeartbeats 4000000 in
theorem wcX11_release : Cond.code yX11_release cX11_release 3 (some .int) ∈ eTb := tb4 214 rfl rfl
set_option maxRecDepth 100000 in
set_option maxHeartbeats 4000000 in
theorem wnX11_release : Cond.initialized yX11_release.cls ∈ eTb := tb1 1 rfl rfl
set_option maxRecDepth 100000 in
set_option maxHeartbeats 4000000 in
theorem wiX11_release : Cond.instanceMethod yX11_release ∈ eTb := tb4 212 rfl rfl
set_option maxRecDepth 100000 in
set_option maxHeartbeats 4000000 in
theorem wlX11_release : Cond.selects yX11_release.cls yX11_release yX11_release ∈ eTb := tb4 213 rfl rfl
set_option maxRecDepth 100000 in
set_option maxHeartbeats 4000000 in
theorem gvL_118 {Ts : List Cond} (hT : ∀ w ∈ eTb, w ∈ Ts) : GoodIn Ts (wsV RL 118 yX11_release.cls yX11_release (eWd yX11_release cX11_release 3 (some .int))) ∧ ∃ (T : u_T) (N : Nat), vwCl[10]? = some (yX11_release.cls, T, N) := ⟨eGoodV hT (tb4 211 rfl rfl) wiX11_release wlX11_release wnX11_release wcX11_release, TX11, 9, rfl⟩
theorem hdX12_release : yX12_release.cls ≠ "java/lang/invoke/MethodHandle" ∧ yX12_release.cls ≠ "java/lang/invoke/VarHandle" ∧ (parseMethodDescriptor yX12_release.desc).map (fun d => d.parameters.length) = some 2 := by decide +kernel
set_option maxRecDepth 100000 in
set_option maxHeartbeats 4000000 in
theorem wcX12_release : Cond.code yX12_release cX12_release 3 (some .int) ∈ eTb := tb7 123 rfl rfl
set_option maxRecDepth 100000 in
set_option maxHeartbeats 4000000 in
theorem wnX12_release : Cond.initialized yX12_release.cls ∈ eTb := tb1 16 rfl rfl
set_option maxRecDepth 100000 in
set_option maxHeartbeats 4000000 in
theorem wiX12_release : Cond.instanceMethod yX12_release ∈ eTb := tb7 121 rfl rfl
set_option maxRecDepth 100000 in
set_option maxHeartbeats 4000000 in
theorem wlX12_release : Cond.selects yX12_release.cls yX12_release yX12_release ∈ eTb := tb7 122 rfl rfl
set_option maxRecDepth 100000 in
set_option maxHeartbeats 4000000 in
theorem gvL_122 {Ts : List Cond} (hT : ∀ w ∈ eTb, w ∈ Ts) : GoodIn Ts (wsV RL 122 yX12_release.cls yX12_release (eWd yX12_release cX12_release 3 (some .int))) ∧ ∃ (T : u_T) (N : Nat), vwCl[11]? = some (yX12_release.cls, T, N) := ⟨eGoodV hT (tb7 120 rfl rfl) wiX12_release wlX12_release wnX12_release wcX12_release, TX12, 60, rfl⟩
theorem hdX11_sale : yX11_sale.cls ≠ "java/lang/invoke/MethodHandle" ∧ yX11_sale.cls ≠ "java/lang/invoke/VarHandle" ∧ (parseMethodDescriptor yX11_sale.desc).map (fun d => d.parameters.length) = some 1 := by decide +kernel
set_option maxRecDepth 100000 in
set_option maxHeartbeats 4000000 in
theorem wcX11_sale : Cond.code yX11_sale cX11_sale 2 (some .int) ∈ eTb := tb4 222 rfl rfl
set_option maxRecDepth 100000 in
set_option maxHeartbeats 4000000 in
theorem wnX11_sale : Cond.initialized yX11_sale.cls ∈ eTb := tb1 1 rfl rfl
set_option maxRecDepth 100000 in
set_option maxHeartbeats 4000000 in
theorem wiX11_sale : Cond.instanceMethod yX11_sale ∈ eTb := tb4 220 rfl rfl
set_option maxRecDepth 100000 in
set_option maxHeartbeats 4000000 in
theorem wlX11_sale : Cond.selects yX11_sale.cls yX11_sale yX11_sale ∈ eTb := tb4 221 rfl rfl
set_option maxRecDepth 100000 in
set_option maxHeartbeats 4000000 in
theorem gvL_123 {Ts : List Cond} (hT : ∀ w ∈ eTb, w ∈ Ts) : GoodIn Ts (wsV RL 123 yX11_sale.cls yX11_sale (eWd yX11_sale cX11_sale 2 (some .int))) ∧ ∃ (T : u_T) (N : Nat), vwCl[10]? = some (yX11_sale.cls, T, N) := ⟨eGoodV hT (tb4 219 rfl rfl) wiX11_sale wlX11_sale wnX11_sale wcX11_sale, TX11, 9, rfl⟩
theorem hdX12_sale : yX12_sale.cls ≠ "java/lang/invoke/MethodHandle" ∧ yX12_sale.cls ≠ "java/lang/invoke/VarHandle" ∧ (parseMethodDescriptor yX12_sale.desc).map (fun d => d.parameters.length) = some 1 := by decide +kernel
set_option maxRecDepth 100000 in
set_option maxHeartbeats 4000000 in
theorem wcX12_sale : Cond.code yX12_sale cX12_sale 3 (some .int) ∈ eTb := tb7 127 rfl rfl
set_option maxRecDepth 100000 in
set_option maxHeartbeats 4000000 in
theorem wnX12_sale : Cond.initialized yX12_sale.cls ∈ eTb := tb1 16 rfl rfl
set_option maxRecDepth 100000 in
set_option maxHeartbeats 4000000 in
theorem wiX12_sale : Cond.instanceMethod yX12_sale ∈ eTb := tb7 125 rfl rfl
set_option maxRecDepth 100000 in
set_option maxHeartbeats 4000000 in
theorem wlX12_sale : Cond.selects yX12_sale.cls yX12_sale yX12_sale ∈ eTb := tb7 126 rfl rfl
set_option maxRecDepth 100000 in
set_option maxHeartbeats 4000000 in
theorem gvL_126 {Ts : List Cond} (hT : ∀ w ∈ eTb, w ∈ Ts) : GoodIn Ts (wsV RL 126 yX12_sale.cls yX12_sale (eWd yX12_sale cX12_sale 3 (some .int))) ∧ ∃ (T : u_T) (N : Nat), vwCl[11]? = some (yX12_sale.cls, T, N) := ⟨eGoodV hT (tb7 124 rfl rfl) wiX12_sale wlX12_sale wnX12_sale wcX12_sale, TX12, 60, rfl⟩
theorem hdX11_guess : yX11_guess.cls ≠ "java/lang/invoke/MethodHandle" ∧ yX11_guess.cls ≠ "java/lang/invoke/VarHandle" ∧ (parseMethodDescriptor yX11_guess.desc).map (fun d => d.parameters.length) = some 2 := by decide +kernel
set_option maxRecDepth 100000 in
set_option maxHeartbeats 4000000 in
theorem wcX11_guess : Cond.code yX11_guess cX11_guess 3 (some .int) ∈ eTb := tb4 230 rfl rfl
set_option maxRecDepth 100000 in
set_option maxHeartbeats 4000000 in
theorem wnX11_guess : Cond.initialized yX11_guess.cls ∈ eTb := tb1 1 rfl rfl
set_option maxRecDepth 100000 in
set_option maxHeartbeats 4000000 in
theorem wiX11_guess : Cond.instanceMethod yX11_guess ∈ eTb := tb4 228 rfl rfl
set_option maxRecDepth 100000 in
set_option maxHeartbeats 4000000 in
theorem wlX11_guess : Cond.selects yX11_guess.cls yX11_guess yX11_guess ∈ eTb := tb4 229 rfl rfl
set_option maxRecDepth 100000 in
set_option maxHeartbeats 4000000 in
theorem gvL_127 {Ts : List Cond} (hT : ∀ w ∈ eTb, w ∈ Ts) : GoodIn Ts (wsV RL 127 yX11_guess.cls yX11_guess (eWd yX11_guess cX11_guess 3 (some .int))) ∧ ∃ (T : u_T) (N : Nat), vwCl[10]? = some (yX11_guess.cls, T, N) := ⟨eGoodV hT (tb4 227 rfl rfl) wiX11_guess wlX11_guess wnX11_guess wcX11_guess, TX11, 9, rfl⟩
theorem hdX12_guess : yX12_guess.cls ≠ "java/lang/invoke/MethodHandle" ∧ yX12_guess.cls ≠ "java/lang/invoke/VarHandle" ∧ (parseMethodDescriptor yX12_guess.desc).map (fun d => d.parameters.length) = some 2 := by decide +kernel
set_option maxRecDepth 100000 in
set_option maxHeartbeats 4000000 in
theorem wcX12_guess : Cond.code yX12_guess cX12_guess 3 (some .int) ∈ eTb := tb7 131 rfl rfl
set_option maxRecDepth 100000 in
set_option maxHeartbeats 4000000 in
theorem wnX12_guess : Cond.initialized yX12_guess.cls ∈ eTb := tb1 16 rfl rfl
set_option maxRecDepth 100000 in
set_option maxHeartbeats 4000000 in
theorem wiX12_guess : Cond.instanceMethod yX12_guess ∈ eTb := tb7 129 rfl rfl
set_option maxRecDepth 100000 in
set_option maxHeartbeats 4000000 in
theorem wlX12_guess : Cond.selects yX12_guess.cls yX12_guess yX12_guess ∈ eTb := tb7 130 rfl rfl
set_option maxRecDepth 100000 in
set_option maxHeartbeats 4000000 in
theorem gvL_130 {Ts : List Cond} (hT : ∀ w ∈ eTb, w ∈ Ts) : GoodIn Ts (wsV RL 130 yX12_guess.cls yX12_guess (eWd yX12_guess cX12_guess 3 (some .int))) ∧ ∃ (T : u_T) (N : Nat), vwCl[11]? = some (yX12_guess.cls, T, N) := ⟨eGoodV hT (tb7 128 rfl rfl) wiX12_guess wlX12_guess wnX12_guess wcX12_guess, TX12, 60, rfl⟩
theorem hdX11_mean : yX11_mean.cls ≠ "java/lang/invoke/MethodHandle" ∧ yX11_mean.cls ≠ "java/lang/invoke/VarHandle" ∧ (parseMethodDescriptor yX11_mean.desc).map (fun d => d.parameters.length) = some 1 := by decide +kernel
set_option maxRecDepth 100000 in
set_option maxHeartbeats 4000000 in
theorem wcX11_mean : Cond.code yX11_mean cX11_mean 6 (some .long) ∈ eTb := tb4 239 rfl rfl
set_option maxRecDepth 100000 in
set_option maxHeartbeats 4000000 in
theorem wnX11_mean : Cond.initialized yX11_mean.cls ∈ eTb := tb1 1 rfl rfl
set_option maxRecDepth 100000 in
set_option maxHeartbeats 4000000 in
theorem wiX11_mean : Cond.instanceMethod yX11_mean ∈ eTb := tb4 237 rfl rfl
set_option maxRecDepth 100000 in
set_option maxHeartbeats 4000000 in
theorem wlX11_mean : Cond.selects yX11_mean.cls yX11_mean yX11_mean ∈ eTb := tb4 238 rfl rfl
set_option maxRecDepth 100000 in
set_option maxHeartbeats 4000000 in
theorem gvL_131 {Ts : List Cond} (hT : ∀ w ∈ eTb, w ∈ Ts) : GoodIn Ts (wsV RL 131 yX11_mean.cls yX11_mean (eWd yX11_mean cX11_mean 6 (some .long))) ∧ ∃ (T : u_T) (N : Nat), vwCl[10]? = some (yX11_mean.cls, T, N) := ⟨eGoodV hT (tb4 236 rfl rfl) wiX11_mean wlX11_mean wnX11_mean wcX11_mean, TX11, 9, rfl⟩
theorem hdX12_mean : yX12_mean.cls ≠ "java/lang/invoke/MethodHandle" ∧ yX12_mean.cls ≠ "java/lang/invoke/VarHandle" ∧ (parseMethodDescriptor yX12_mean.desc).map (fun d => d.parameters.length) = some 1 := by decide +kernel
set_option maxRecDepth 100000 in
set_option maxHeartbeats 4000000 in
theorem wcX12_mean : Cond.code yX12_mean cX12_mean 6 (some .long) ∈ eTb := tb7 135 rfl rfl
set_option maxRecDepth 100000 in
set_option maxHeartbeats 4000000 in
theorem wnX12_mean : Cond.initialized yX12_mean.cls ∈ eTb := tb1 16 rfl rfl
set_option maxRecDepth 100000 in
set_option maxHeartbeats 4000000 in
theorem wiX12_mean : Cond.instanceMethod yX12_mean ∈ eTb := tb7 133 rfl rfl
set_option maxRecDepth 100000 in
set_option maxHeartbeats 4000000 in
theorem wlX12_mean : Cond.selects yX12_mean.cls yX12_mean yX12_mean ∈ eTb := tb7 134 rfl rfl
set_option maxRecDepth 100000 in
set_option maxHeartbeats 4000000 in
theorem gvL_135 {Ts : List Cond} (hT : ∀ w ∈ eTb, w ∈ Ts) : GoodIn Ts (wsV RL 135 yX12_mean.cls yX12_mean (eWd yX12_mean cX12_mean 6 (some .long))) ∧ ∃ (T : u_T) (N : Nat), vwCl[11]? = some (yX12_mean.cls, T, N) := ⟨eGoodV hT (tb7 132 rfl rfl) wiX12_mean wlX12_mean wnX12_mean wcX12_mean, TX12, 60, rfl⟩
theorem hdX11_multiple : yX11_multiple.cls ≠ "java/lang/invoke/MethodHandle" ∧ yX11_multiple.cls ≠ "java/lang/invoke/VarHandle" ∧ (parseMethodDescriptor yX11_multiple.desc).map (fun d => d.parameters.length) = some 2 := by decide +kernel
set_option maxRecDepth 100000 in
set_option maxHeartbeats 4000000 in
theorem wcX11_multiple : Cond.code yX11_multiple cX11_multiple 5 (some .int) ∈ eTb := tb5 13 rfl rfl
set_option maxRecDepth 100000 in
set_option maxHeartbeats 4000000 in
theorem wnX11_multiple : Cond.initialized yX11_multiple.cls ∈ eTb := tb1 1 rfl rfl
set_option maxRecDepth 100000 in
set_option maxHeartbeats 4000000 in
theorem wiX11_multiple : Cond.instanceMethod yX11_multiple ∈ eTb := tb5 11 rfl rfl
set_option maxRecDepth 100000 in
set_option maxHeartbeats 4000000 in
theorem wlX11_multiple : Cond.selects yX11_multiple.cls yX11_multiple yX11_multiple ∈ eTb := tb5 12 rfl rfl
set_option maxRecDepth 100000 in
set_option maxHeartbeats 4000000 in
theorem gvL_136 {Ts : List Cond} (hT : ∀ w ∈ eTb, w ∈ Ts) : GoodIn Ts (wsV RL 136 yX11_multiple.cls yX11_multiple (eWd yX11_multiple cX11_multiple 5 (some .int))) ∧ ∃ (T : u_T) (N : Nat), vwCl[10]? = some (yX11_multiple.cls, T, N) := ⟨eGoodV hT (tb5 10 rfl rfl) wiX11_multiple wlX11_multiple wnX11_multiple wcX11_multiple, TX11, 9, rfl⟩
theorem hdX12_multiple : yX12_multiple.cls ≠ "java/lang/invoke/MethodHandle" ∧ yX12_multiple.cls ≠ "java/lang/invoke/VarHandle" ∧ (parseMethodDescriptor yX12_multiple.desc).map (fun d => d.parameters.length) = some 2 := by decide +kernel
set_option maxRecDepth 100000 in
set_option maxHeartbeats 4000000 in
theorem wcX12_multiple : Cond.code yX12_multiple cX12_multiple 4 (some .int) ∈ eTb := tb7 149 rfl rfl
set_option maxRecDepth 100000 in
set_option maxHeartbeats 4000000 in
theorem wnX12_multiple : Cond.initialized yX12_multiple.cls ∈ eTb := tb1 16 rfl rfl
set_option maxRecDepth 100000 in
set_option maxHeartbeats 4000000 in
theorem wiX12_multiple : Cond.instanceMethod yX12_multiple ∈ eTb := tb7 147 rfl rfl
set_option maxRecDepth 100000 in
set_option maxHeartbeats 4000000 in
theorem wlX12_multiple : Cond.selects yX12_multiple.cls yX12_multiple yX12_multiple ∈ eTb := tb7 148 rfl rfl
set_option maxRecDepth 100000 in
set_option maxHeartbeats 4000000 in
theorem gvL_139 {Ts : List Cond} (hT : ∀ w ∈ eTb, w ∈ Ts) : GoodIn Ts (wsV RL 139 yX12_multiple.cls yX12_multiple (eWd yX12_multiple cX12_multiple 4 (some .int))) ∧ ∃ (T : u_T) (N : Nat), vwCl[11]? = some (yX12_multiple.cls, T, N) := ⟨eGoodV hT (tb7 146 rfl rfl) wiX12_multiple wlX12_multiple wnX12_multiple wcX12_multiple, TX12, 60, rfl⟩
theorem hdX11_yields : yX11_yields.cls ≠ "java/lang/invoke/MethodHandle" ∧ yX11_yields.cls ≠ "java/lang/invoke/VarHandle" ∧ (parseMethodDescriptor yX11_yields.desc).map (fun d => d.parameters.length) = some 3 := by decide +kernel
set_option maxRecDepth 100000 in
set_option maxHeartbeats 4000000 in
theorem wcX11_yields : Cond.code yX11_yields cX11_yields 12 (some .int) ∈ eTb := tb5 28 rfl rfl
set_option maxRecDepth 100000 in
set_option maxHeartbeats 4000000 in
theorem wnX11_yields : Cond.initialized yX11_yields.cls ∈ eTb := tb1 1 rfl rfl
set_option maxRecDepth 100000 in
set_option maxHeartbeats 4000000 in
theorem wiX11_yields : Cond.instanceMethod yX11_yields ∈ eTb := tb5 26 rfl rfl
set_option maxRecDepth 100000 in
set_option maxHeartbeats 4000000 in
theorem wlX11_yields : Cond.selects yX11_yields.cls yX11_yields yX11_yields ∈ eTb := tb5 27 rfl rfl
set_option maxRecDepth 100000 in
set_option maxHeartbeats 4000000 in
theorem gvL_140 {Ts : List Cond} (hT : ∀ w ∈ eTb, w ∈ Ts) : GoodIn Ts (wsV RL 140 yX11_yields.cls yX11_yields (eWd yX11_yields cX11_yields 12 (some .int))) ∧ ∃ (T : u_T) (N : Nat), vwCl[10]? = some (yX11_yields.cls, T, N) := ⟨eGoodV hT (tb5 25 rfl rfl) wiX11_yields wlX11_yields wnX11_yields wcX11_yields, TX11, 9, rfl⟩
theorem hdX12_yields : yX12_yields.cls ≠ "java/lang/invoke/MethodHandle" ∧ yX12_yields.cls ≠ "java/lang/invoke/VarHandle" ∧ (parseMethodDescriptor yX12_yields.desc).map (fun d => d.parameters.length) = some 3 := by decide +kernel
set_option maxRecDepth 100000 in
set_option maxHeartbeats 4000000 in
theorem wcX12_yields : Cond.code yX12_yields cX12_yields 11 (some .int) ∈ eTb := tb7 157 rfl rfl
set_option maxRecDepth 100000 in
set_option maxHeartbeats 4000000 in
theorem wnX12_yields : Cond.initialized yX12_yields.cls ∈ eTb := tb1 16 rfl rfl
set_option maxRecDepth 100000 in
set_option maxHeartbeats 4000000 in
theorem wiX12_yields : Cond.instanceMethod yX12_yields ∈ eTb := tb7 155 rfl rfl
set_option maxRecDepth 100000 in
set_option maxHeartbeats 4000000 in
theorem wlX12_yields : Cond.selects yX12_yields.cls yX12_yields yX12_yields ∈ eTb := tb7 156 rfl rfl
set_option maxRecDepth 100000 in
set_option maxHeartbeats 4000000 in
theorem gvL_143 {Ts : List Cond} (hT : ∀ w ∈ eTb, w ∈ Ts) : GoodIn Ts (wsV RL 143 yX12_yields.cls yX12_yields (eWd yX12_yields cX12_yields 11 (some .int))) ∧ ∃ (T : u_T) (N : Nat), vwCl[11]? = some (yX12_yields.cls, T, N) := ⟨eGoodV hT (tb7 154 rfl rfl) wiX12_yields wlX12_yields wnX12_yields wcX12_yields, TX12, 60, rfl⟩
theorem hdX11_grant : yX11_grant.cls ≠ "java/lang/invoke/MethodHandle" ∧ yX11_grant.cls ≠ "java/lang/invoke/VarHandle" ∧ (parseMethodDescriptor yX11_grant.desc).map (fun d => d.parameters.length) = some 2 := by decide +kernel
set_option maxRecDepth 100000 in
set_option maxHeartbeats 4000000 in
theorem wcX11_grant : Cond.code yX11_grant cX11_grant 4 (some .int) ∈ eTb := tb5 36 rfl rfl
set_option maxRecDepth 100000 in
set_option maxHeartbeats 4000000 in
theorem wnX11_grant : Cond.initialized yX11_grant.cls ∈ eTb := tb1 1 rfl rfl
set_option maxRecDepth 100000 in
set_option maxHeartbeats 4000000 in
theorem wiX11_grant : Cond.instanceMethod yX11_grant ∈ eTb := tb5 34 rfl rfl
set_option maxRecDepth 100000 in
set_option maxHeartbeats 4000000 in
theorem wlX11_grant : Cond.selects yX11_grant.cls yX11_grant yX11_grant ∈ eTb := tb5 35 rfl rfl
set_option maxRecDepth 100000 in
set_option maxHeartbeats 4000000 in
theorem gvL_144 {Ts : List Cond} (hT : ∀ w ∈ eTb, w ∈ Ts) : GoodIn Ts (wsV RL 144 yX11_grant.cls yX11_grant (eWd yX11_grant cX11_grant 4 (some .int))) ∧ ∃ (T : u_T) (N : Nat), vwCl[10]? = some (yX11_grant.cls, T, N) := ⟨eGoodV hT (tb5 33 rfl rfl) wiX11_grant wlX11_grant wnX11_grant wcX11_grant, TX11, 9, rfl⟩
theorem hdX12_grant : yX12_grant.cls ≠ "java/lang/invoke/MethodHandle" ∧ yX12_grant.cls ≠ "java/lang/invoke/VarHandle" ∧ (parseMethodDescriptor yX12_grant.desc).map (fun d => d.parameters.length) = some 2 := by decide +kernel
set_option maxRecDepth 100000 in
set_option maxHeartbeats 4000000 in
theorem wcX12_grant : Cond.code yX12_grant cX12_grant 3 (some .int) ∈ eTb := tb7 162 rfl rfl
set_option maxRecDepth 100000 in
set_option maxHeartbeats 4000000 in
theorem wnX12_grant : Cond.initialized yX12_grant.cls ∈ eTb := tb1 16 rfl rfl
set_option maxRecDepth 100000 in
set_option maxHeartbeats 4000000 in
theorem wiX12_grant : Cond.instanceMethod yX12_grant ∈ eTb := tb7 160 rfl rfl
set_option maxRecDepth 100000 in
set_option maxHeartbeats 4000000 in
theorem wlX12_grant : Cond.selects yX12_grant.cls yX12_grant yX12_grant ∈ eTb := tb7 161 rfl rfl
set_option maxRecDepth 100000 in
set_option maxHeartbeats 4000000 in
theorem gvL_147 {Ts : List Cond} (hT : ∀ w ∈ eTb, w ∈ Ts) : GoodIn Ts (wsV RL 147 yX12_grant.cls yX12_grant (eWd yX12_grant cX12_grant 3 (some .int))) ∧ ∃ (T : u_T) (N : Nat), vwCl[11]? = some (yX12_grant.cls, T, N) := ⟨eGoodV hT (tb7 159 rfl rfl) wiX12_grant wlX12_grant wnX12_grant wcX12_grant, TX12, 60, rfl⟩
theorem hdX11_waive : yX11_waive.cls ≠ "java/lang/invoke/MethodHandle" ∧ yX11_waive.cls ≠ "java/lang/invoke/VarHandle" ∧ (parseMethodDescriptor yX11_waive.desc).map (fun d => d.parameters.length) = some 2 := by decide +kernel
set_option maxRecDepth 100000 in
set_option maxHeartbeats 4000000 in
theorem wcX11_waive : Cond.code yX11_waive cX11_waive 3 (some .boolean) ∈ eTb := tb5 40 rfl rfl
set_option maxRecDepth 100000 in
set_option maxHeartbeats 4000000 in
theorem wnX11_waive : Cond.initialized yX11_waive.cls ∈ eTb := tb1 1 rfl rfl
set_option maxRecDepth 100000 in
set_option maxHeartbeats 4000000 in
theorem wiX11_waive : Cond.instanceMethod yX11_waive ∈ eTb := tb5 38 rfl rfl
set_option maxRecDepth 100000 in
set_option maxHeartbeats 4000000 in
theorem wlX11_waive : Cond.selects yX11_waive.cls yX11_waive yX11_waive ∈ eTb := tb5 39 rfl rfl
set_option maxRecDepth 100000 in
set_option maxHeartbeats 4000000 in
theorem gvL_148 {Ts : List Cond} (hT : ∀ w ∈ eTb, w ∈ Ts) : GoodIn Ts (wsV RL 148 yX11_waive.cls yX11_waive (eWd yX11_waive cX11_waive 3 (some .boolean))) ∧ ∃ (T : u_T) (N : Nat), vwCl[10]? = some (yX11_waive.cls, T, N) := ⟨eGoodV hT (tb5 37 rfl rfl) wiX11_waive wlX11_waive wnX11_waive wcX11_waive, TX11, 9, rfl⟩
theorem hdX12_waive : yX12_waive.cls ≠ "java/lang/invoke/MethodHandle" ∧ yX12_waive.cls ≠ "java/lang/invoke/VarHandle" ∧ (parseMethodDescriptor yX12_waive.desc).map (fun d => d.parameters.length) = some 2 := by decide +kernel
set_option maxRecDepth 100000 in
set_option maxHeartbeats 4000000 in
theorem wcX12_waive : Cond.code yX12_waive cX12_waive 3 (some .boolean) ∈ eTb := tb7 166 rfl rfl
set_option maxRecDepth 100000 in
set_option maxHeartbeats 4000000 in
theorem wnX12_waive : Cond.initialized yX12_waive.cls ∈ eTb := tb1 16 rfl rfl
set_option maxRecDepth 100000 in
set_option maxHeartbeats 4000000 in
theorem wiX12_waive : Cond.instanceMethod yX12_waive ∈ eTb := tb7 164 rfl rfl
set_option maxRecDepth 100000 in
set_option maxHeartbeats 4000000 in
theorem wlX12_waive : Cond.selects yX12_waive.cls yX12_waive yX12_waive ∈ eTb := tb7 165 rfl rfl
set_option maxRecDepth 100000 in
set_option maxHeartbeats 4000000 in
theorem gvL_152 {Ts : List Cond} (hT : ∀ w ∈ eTb, w ∈ Ts) : GoodIn Ts (wsV RL 152 yX12_waive.cls yX12_waive (eWd yX12_waive cX12_waive 3 (some .boolean))) ∧ ∃ (T : u_T) (N : Nat), vwCl[11]? = some (yX12_waive.cls, T, N) := ⟨eGoodV hT (tb7 163 rfl rfl) wiX12_waive wlX12_waive wnX12_waive wcX12_waive, TX12, 60, rfl⟩
theorem hdX11_rank : yX11_rank.cls ≠ "java/lang/invoke/MethodHandle" ∧ yX11_rank.cls ≠ "java/lang/invoke/VarHandle" ∧ (parseMethodDescriptor yX11_rank.desc).map (fun d => d.parameters.length) = some 2 := by decide +kernel
set_option maxRecDepth 100000 in
set_option maxHeartbeats 4000000 in
theorem wcX11_rank : Cond.code yX11_rank cX11_rank 4 (some .int) ∈ eTb := tb5 45 rfl rfl
set_option maxRecDepth 100000 in
set_option maxHeartbeats 4000000 in
theorem wnX11_rank : Cond.initialized yX11_rank.cls ∈ eTb := tb1 1 rfl rfl
set_option maxRecDepth 100000 in
set_option maxHeartbeats 4000000 in
theorem wiX11_rank : Cond.instanceMethod yX11_rank ∈ eTb := tb5 43 rfl rfl
set_option maxRecDepth 100000 in
set_option maxHeartbeats 4000000 in
theorem wlX11_rank : Cond.selects yX11_rank.cls yX11_rank yX11_rank ∈ eTb := tb5 44 rfl rfl
set_option maxRecDepth 100000 in
set_option maxHeartbeats 4000000 in
theorem gvL_153 {Ts : List Cond} (hT : ∀ w ∈ eTb, w ∈ Ts) : GoodIn Ts (wsV RL 153 yX11_rank.cls yX11_rank (eWd yX11_rank cX11_rank 4 (some .int))) ∧ ∃ (T : u_T) (N : Nat), vwCl[10]? = some (yX11_rank.cls, T, N) := ⟨eGoodV hT (tb5 42 rfl rfl) wiX11_rank wlX11_rank wnX11_rank wcX11_rank, TX11, 9, rfl⟩
theorem hdX12_rank : yX12_rank.cls ≠ "java/lang/invoke/MethodHandle" ∧ yX12_rank.cls ≠ "java/lang/invoke/VarHandle" ∧ (parseMethodDescriptor yX12_rank.desc).map (fun d => d.parameters.length) = some 2 := by decide +kernel
set_option maxRecDepth 100000 in
set_option maxHeartbeats 4000000 in
theorem wcX12_rank : Cond.code yX12_rank cX12_rank 4 (some .int) ∈ eTb := tb7 170 rfl rfl
set_option maxRecDepth 100000 in
set_option maxHeartbeats 4000000 in
theorem wnX12_rank : Cond.initialized yX12_rank.cls ∈ eTb := tb1 16 rfl rfl
set_option maxRecDepth 100000 in
set_option maxHeartbeats 4000000 in
theorem wiX12_rank : Cond.instanceMethod yX12_rank ∈ eTb := tb7 168 rfl rfl
set_option maxRecDepth 100000 in
set_option maxHeartbeats 4000000 in
theorem wlX12_rank : Cond.selects yX12_rank.cls yX12_rank yX12_rank ∈ eTb := tb7 169 rfl rfl
set_option maxRecDepth 100000 in
set_option maxHeartbeats 4000000 in
theorem gvL_156 {Ts : List Cond} (hT : ∀ w ∈ eTb, w ∈ Ts) : GoodIn Ts (wsV RL 156 yX12_rank.cls yX12_rank (eWd yX12_rank cX12_rank 4 (some .int))) ∧ ∃ (T : u_T) (N : Nat), vwCl[11]? = some (yX12_rank.cls, T, N) := ⟨eGoodV hT (tb7 167 rfl rfl) wiX12_rank wlX12_rank wnX12_rank wcX12_rank, TX12, 60, rfl⟩
theorem hdX11_undo : yX11_undo.cls ≠ "java/lang/invoke/MethodHandle" ∧ yX11_undo.cls ≠ "java/lang/invoke/VarHandle" ∧ (parseMethodDescriptor yX11_undo.desc).map (fun d => d.parameters.length) = some 0 := by decide +kernel
set_option maxRecDepth 100000 in
set_option maxHeartbeats 4000000 in
theorem wcX11_undo : Cond.code yX11_undo cX11_undo 3 (some .boolean) ∈ eTb := tb5 49 rfl rfl
set_option maxRecDepth 100000 in
set_option maxHeartbeats 4000000 in
theorem wnX11_undo : Cond.initialized yX11_undo.cls ∈ eTb := tb1 1 rfl rfl
set_option maxRecDepth 100000 in
set_option maxHeartbeats 4000000 in
theorem wiX11_undo : Cond.instanceMethod yX11_undo ∈ eTb := tb5 47 rfl rfl
set_option maxRecDepth 100000 in
set_option maxHeartbeats 4000000 in
theorem wlX11_undo : Cond.selects yX11_undo.cls yX11_undo yX11_undo ∈ eTb := tb5 48 rfl rfl
set_option maxRecDepth 100000 in
set_option maxHeartbeats 4000000 in
theorem gvL_157 {Ts : List Cond} (hT : ∀ w ∈ eTb, w ∈ Ts) : GoodIn Ts (wsV RL 157 yX11_undo.cls yX11_undo (eWd yX11_undo cX11_undo 3 (some .boolean))) ∧ ∃ (T : u_T) (N : Nat), vwCl[10]? = some (yX11_undo.cls, T, N) := ⟨eGoodV hT (tb5 46 rfl rfl) wiX11_undo wlX11_undo wnX11_undo wcX11_undo, TX11, 9, rfl⟩
theorem hdX12_undo : yX12_undo.cls ≠ "java/lang/invoke/MethodHandle" ∧ yX12_undo.cls ≠ "java/lang/invoke/VarHandle" ∧ (parseMethodDescriptor yX12_undo.desc).map (fun d => d.parameters.length) = some 0 := by decide +kernel
set_option maxRecDepth 100000 in
set_option maxHeartbeats 4000000 in
theorem wcX12_undo : Cond.code yX12_undo cX12_undo 3 (some .boolean) ∈ eTb := tb7 111 rfl rfl
set_option maxRecDepth 100000 in
set_option maxHeartbeats 4000000 in
theorem wnX12_undo : Cond.initialized yX12_undo.cls ∈ eTb := tb1 16 rfl rfl
set_option maxRecDepth 100000 in
set_option maxHeartbeats 4000000 in
theorem wiX12_undo : Cond.instanceMethod yX12_undo ∈ eTb := tb7 109 rfl rfl
set_option maxRecDepth 100000 in
set_option maxHeartbeats 4000000 in
theorem wlX12_undo : Cond.selects yX12_undo.cls yX12_undo yX12_undo ∈ eTb := tb7 110 rfl rfl
set_option maxRecDepth 100000 in
set_option maxHeartbeats 4000000 in
theorem gvL_161 {Ts : List Cond} (hT : ∀ w ∈ eTb, w ∈ Ts) : GoodIn Ts (wsV RL 161 yX12_undo.cls yX12_undo (eWd yX12_undo cX12_undo 3 (some .boolean))) ∧ ∃ (T : u_T) (N : Nat), vwCl[11]? = some (yX12_undo.cls, T, N) := ⟨eGoodV hT (tb7 108 rfl rfl) wiX12_undo wlX12_undo wnX12_undo wcX12_undo, TX12, 60, rfl⟩
def rL (v : Option Value) (w : eW) : Option eW := match v with
  | some (.int r) => if r = 1 then some w else none
  | _ => none
theorem rL_ret {v : Option Value} {w x : eW} (h : rL v w = some x) : v = some (.int 1) := by
  unfold rL at h
  split at h
  · split at h
    · rename_i r hr; rw [hr]
    · cases h
  · cases h
section
variable {p : Program} {l : Launch} {e : Env} {s : State} {m : MethodId} {args : Array Value} {below : List Frame} {meth : Method} {c : Code} {ad : Nat → Nat} {D : va_G} {cA : Nat → ClassId}
theorem lk_law {xs : List Int32} : ∀ q ∈ rs_law, eLnk room_1 vwCl eTb (SSl xs) SHl.length RL q.1 q.2 := List.forall_mem_cons.mpr ⟨trivial, List.forall_mem_cons.mpr ⟨trivial, List.forall_mem_cons.mpr ⟨trivial, List.forall_mem_cons.mpr ⟨trivial, List.forall_mem_cons.mpr ⟨trivial, List.forall_mem_cons.mpr ⟨trivial, List.forall_mem_cons.mpr ⟨trivial, List.forall_mem_cons.mpr ⟨trivial, List.forall_mem_cons.mpr ⟨trivial, List.forall_mem_cons.mpr ⟨trivial, List.forall_mem_cons.mpr ⟨trivial, List.forall_mem_cons.mpr ⟨trivial, List.forall_mem_cons.mpr ⟨trivial, List.forall_mem_cons.mpr ⟨trivial, List.forall_mem_cons.mpr ⟨trivial, List.forall_mem_cons.mpr ⟨trivial, List.forall_mem_cons.mpr ⟨trivial, List.forall_mem_cons.mpr ⟨trivial, List.forall_mem_cons.mpr ⟨trivial, List.forall_mem_cons.mpr ⟨trivial, List.forall_mem_cons.mpr ⟨trivial, List.forall_mem_cons.mpr ⟨trivial, List.forall_mem_cons.mpr ⟨trivial, List.forall_mem_cons.mpr ⟨trivial, List.forall_mem_cons.mpr ⟨trivial, List.forall_mem_cons.mpr ⟨trivial, List.forall_mem_cons.mpr ⟨trivial, List.forall_mem_cons.mpr ⟨trivial, List.forall_mem_cons.mpr ⟨trivial, List.forall_mem_cons.mpr ⟨trivial, List.forall_mem_cons.mpr ⟨trivial, List.forall_mem_cons.mpr ⟨trivial, List.forall_mem_cons.mpr ⟨trivial, List.forall_mem_cons.mpr ⟨trivial, List.forall_mem_cons.mpr ⟨trivial, List.forall_mem_cons.mpr ⟨trivial, List.forall_mem_cons.mpr ⟨trivial, List.forall_mem_cons.mpr ⟨trivial, List.forall_mem_cons.mpr ⟨trivial, List.forall_mem_cons.mpr ⟨trivial, List.forall_mem_cons.mpr ⟨trivial, List.forall_mem_cons.mpr ⟨trivial, List.forall_mem_cons.mpr ⟨trivial, List.forall_mem_cons.mpr ⟨trivial, List.forall_mem_cons.mpr ⟨trivial, List.forall_mem_cons.mpr ⟨trivial, List.forall_mem_cons.mpr ⟨trivial, List.forall_mem_cons.mpr ⟨trivial, List.forall_mem_cons.mpr ⟨trivial, List.forall_mem_cons.mpr ⟨trivial, List.forall_mem_cons.mpr ⟨trivial, List.forall_mem_cons.mpr ⟨trivial, List.forall_mem_cons.mpr ⟨trivial, List.forall_mem_cons.mpr ⟨trivial, List.forall_mem_cons.mpr ⟨trivial, List.forall_mem_cons.mpr ⟨trivial, List.forall_mem_cons.mpr ⟨trivial, List.forall_mem_cons.mpr ⟨trivial, List.forall_mem_cons.mpr ⟨trivial, List.forall_mem_cons.mpr ⟨trivial, List.forall_mem_cons.mpr ⟨trivial, List.forall_mem_cons.mpr ⟨trivial, List.forall_mem_cons.mpr ⟨trivial, List.forall_mem_cons.mpr ⟨trivial, List.forall_mem_cons.mpr ⟨trivial, List.forall_mem_cons.mpr ⟨trivial, List.forall_mem_cons.mpr ⟨trivial, List.forall_mem_cons.mpr ⟨trivial, fun _ h => absurd h List.not_mem_nil⟩⟩⟩⟩⟩⟩⟩⟩⟩⟩⟩⟩⟩⟩⟩⟩⟩⟩⟩⟩⟩⟩⟩⟩⟩⟩⟩⟩⟩⟩⟩⟩⟩⟩⟩⟩⟩⟩⟩⟩⟩⟩⟩⟩⟩⟩⟩⟩⟩⟩⟩⟩⟩⟩⟩⟩⟩⟩⟩⟩⟩⟩⟩⟩⟩⟩⟩⟩
set_option maxRecDepth 100000 in
set_option maxHeartbeats 4000000 in
theorem hc_law {xs : List Int32} {x : eW} : ∀ q ∈ rs_law, eHc l room_1 ad D cA vwCl SHl (SSl xs) eTb RL cs_law x q := List.forall_mem_cons.mpr ⟨(fun as w k h => let ⟨v, w2, h1, h2⟩ := okL_xx_feed as w k x h; ⟨v, w2, h1, eCal_of h2 ⟨rfl, rfl⟩ hdX11_feed (gvL_13 (fun _ z => z))⟩), List.forall_mem_cons.mpr ⟨(fun as w k h => let ⟨v, w2, h1, h2⟩ := okL_mm_feed as w k x h; ⟨v, w2, h1, eCal_of h2 ⟨rfl, rfl⟩ hdX12_feed (gvL_17 (fun _ z => z))⟩), List.forall_mem_cons.mpr ⟨(fun as w k h => let ⟨v, w2, h1, h2⟩ := okL_xx_end as w k x h; ⟨v, w2, h1, eCal_of h2 ⟨rfl, rfl⟩ hdX11_end (gvL_18 (fun _ z => z))⟩), List.forall_mem_cons.mpr ⟨(fun as w k h => let ⟨v, w2, h1, h2⟩ := okL_mm_end as w k x h; ⟨v, w2, h1, eCal_of h2 ⟨rfl, rfl⟩ hdX12_end (gvL_22 (fun _ z => z))⟩), List.forall_mem_cons.mpr ⟨(fun as w k h => let ⟨v, w2, h1, h2⟩ := okL_xx_text as w k x h; ⟨v, w2, h1, eCal_of h2 ⟨rfl, rfl⟩ hdX11_text (gvL_23 (fun _ z => z))⟩), List.forall_mem_cons.mpr ⟨(fun as w k h => let ⟨v, w2, h1, h2⟩ := okL_mm_text as w k x h; ⟨v, w2, h1, eCal_of h2 ⟨rfl, rfl⟩ hdX12_text (gvL_27 (fun _ z => z))⟩), List.forall_mem_cons.mpr ⟨(fun as w k h => let ⟨v, w2, h1, h2⟩ := okL_xx_fault as w k x h; ⟨v, w2, h1, eCal_of h2 ⟨rfl, rfl⟩ hdX11_fault (gvL_28 (fun _ z => z))⟩), List.forall_mem_cons.mpr ⟨(fun as w k h => let ⟨v, w2, h1, h2⟩ := okL_mm_fault as w k x h; ⟨v, w2, h1, eCal_of h2 ⟨rfl, rfl⟩ hdX12_fault (gvL_31 (fun _ z => z))⟩), List.forall_mem_cons.mpr ⟨(fun as w k h => let ⟨v, w2, h1, h2⟩ := okL_xx_about as w k x h; ⟨v, w2, h1, eCal_of h2 ⟨rfl, rfl⟩ hdX11_about (gvL_32 (fun _ z => z))⟩), List.forall_mem_cons.mpr ⟨(fun as w k h => let ⟨v, w2, h1, h2⟩ := okL_mm_about as w k x h; ⟨v, w2, h1, eCal_of h2 ⟨rfl, rfl⟩ hdX12_about (gvL_35 (fun _ z => z))⟩), List.forall_mem_cons.mpr ⟨(fun as w k h => let ⟨v, w2, h1, h2⟩ := okL_xx_holder as w k x h; ⟨v, w2, h1, eCal_of h2 ⟨rfl, rfl⟩ hdX11_holder (gvL_36 (fun _ z => z))⟩), List.forall_mem_cons.mpr ⟨(fun as w k h => let ⟨v, w2, h1, h2⟩ := okL_mm_holder as w k x h; ⟨v, w2, h1, eCal_of h2 ⟨rfl, rfl⟩ hdX12_holder (gvL_40 (fun _ z => z))⟩), List.forall_mem_cons.mpr ⟨(fun as w k h => let ⟨v, w2, h1, h2⟩ := okL_xx_has as w k x h; ⟨v, w2, h1, eCal_of h2 ⟨rfl, rfl⟩ hdX11_has (gvL_41 (fun _ z => z))⟩), List.forall_mem_cons.mpr ⟨(fun as w k h => let ⟨v, w2, h1, h2⟩ := okL_mm_has as w k x h; ⟨v, w2, h1, eCal_of h2 ⟨rfl, rfl⟩ hdX12_has (gvL_45 (fun _ z => z))⟩), List.forall_mem_cons.mpr ⟨(fun as w k h => let ⟨v, w2, h1, h2⟩ := okL_xx_state as w k x h; ⟨v, w2, h1, eCal_of h2 ⟨rfl, rfl⟩ hdX11_state (gvL_46 (fun _ z => z))⟩), List.forall_mem_cons.mpr ⟨(fun as w k h => let ⟨v, w2, h1, h2⟩ := okL_mm_state as w k x h; ⟨v, w2, h1, eCal_of h2 ⟨rfl, rfl⟩ hdX12_state (gvL_49 (fun _ z => z))⟩), List.forall_mem_cons.mpr ⟨(fun as w k h => let ⟨v, w2, h1, h2⟩ := okL_xx_paid as w k x h; ⟨v, w2, h1, eCal_of h2 ⟨rfl, rfl⟩ hdX11_paid (gvL_50 (fun _ z => z))⟩), List.forall_mem_cons.mpr ⟨(fun as w k h => let ⟨v, w2, h1, h2⟩ := okL_mm_paid as w k x h; ⟨v, w2, h1, eCal_of h2 ⟨rfl, rfl⟩ hdX12_paid (gvL_53 (fun _ z => z))⟩), List.forall_mem_cons.mpr ⟨(fun as w k h => let ⟨v, w2, h1, h2⟩ := okL_xx_level as w k x h; ⟨v, w2, h1, eCal_of h2 ⟨rfl, rfl⟩ hdX11_level (gvL_54 (fun _ z => z))⟩), List.forall_mem_cons.mpr ⟨(fun as w k h => let ⟨v, w2, h1, h2⟩ := okL_mm_level as w k x h; ⟨v, w2, h1, eCal_of h2 ⟨rfl, rfl⟩ hdX12_level (gvL_58 (fun _ z => z))⟩), List.forall_mem_cons.mpr ⟨(fun as w k h => let ⟨v, w2, h1, h2⟩ := okL_xx_least as w k x h; ⟨v, w2, h1, eCal_of h2 ⟨rfl, rfl⟩ hdX11_least (gvL_59 (fun _ z => z))⟩), List.forall_mem_cons.mpr ⟨(fun as w k h => let ⟨v, w2, h1, h2⟩ := okL_mm_least as w k x h; ⟨v, w2, h1, eCal_of h2 ⟨rfl, rfl⟩ hdX12_least (gvL_62 (fun _ z => z))⟩), List.forall_mem_cons.mpr ⟨(fun as w k h => let ⟨v, w2, h1, h2⟩ := okL_xx_flat as w k x h; ⟨v, w2, h1, eCal_of h2 ⟨rfl, rfl⟩ hdX11_flat (gvL_63 (fun _ z => z))⟩), List.forall_mem_cons.mpr ⟨(fun as w k h => let ⟨v, w2, h1, h2⟩ := okL_mm_flat as w k x h; ⟨v, w2, h1, eCal_of h2 ⟨rfl, rfl⟩ hdX12_flat (gvL_67 (fun _ z => z))⟩), List.forall_mem_cons.mpr ⟨(fun as w k h => let ⟨v, w2, h1, h2⟩ := okL_xx_unpaid as w k x h; ⟨v, w2, h1, eCal_of h2 ⟨rfl, rfl⟩ hdX11_unpaid (gvL_68 (fun _ z => z))⟩), List.forall_mem_cons.mpr ⟨(fun as w k h => let ⟨v, w2, h1, h2⟩ := okL_mm_unpaid as w k x h; ⟨v, w2, h1, eCal_of h2 ⟨rfl, rfl⟩ hdX12_unpaid (gvL_71 (fun _ z => z))⟩), List.forall_mem_cons.mpr ⟨(fun as w k h => let ⟨v, w2, h1, h2⟩ := okL_xx_wants as w k x h; ⟨v, w2, h1, eCal_of h2 ⟨rfl, rfl⟩ hdX11_wants (gvL_72 (fun _ z => z))⟩), List.forall_mem_cons.mpr ⟨(fun as w k h => let ⟨v, w2, h1, h2⟩ := okL_mm_wants as w k x h; ⟨v, w2, h1, eCal_of h2 ⟨rfl, rfl⟩ hdX12_wants (gvL_75 (fun _ z => z))⟩), List.forall_mem_cons.mpr ⟨(fun as w k h => let ⟨v, w2, h1, h2⟩ := okL_xx_dilutes as w k x h; ⟨v, w2, h1, eCal_of h2 ⟨rfl, rfl⟩ hdX11_dilutes (gvL_76 (fun _ z => z))⟩), List.forall_mem_cons.mpr ⟨(fun as w k h => let ⟨v, w2, h1, h2⟩ := okL_mm_dilutes as w k x h; ⟨v, w2, h1, eCal_of h2 ⟨rfl, rfl⟩ hdX12_dilutes (gvL_80 (fun _ z => z))⟩), List.forall_mem_cons.mpr ⟨(fun as w k h => let ⟨v, w2, h1, h2⟩ := okL_xx_prefers as w k x h; ⟨v, w2, h1, eCal_of h2 ⟨rfl, rfl⟩ hdX11_prefers (gvL_81 (fun _ z => z))⟩), List.forall_mem_cons.mpr ⟨(fun as w k h => let ⟨v, w2, h1, h2⟩ := okL_mm_prefers as w k x h; ⟨v, w2, h1, eCal_of h2 ⟨rfl, rfl⟩ hdX12_prefers (gvL_84 (fun _ z => z))⟩), List.forall_mem_cons.mpr ⟨(fun as w k h => let ⟨v, w2, h1, h2⟩ := okL_xx_votes as w k x h; ⟨v, w2, h1, eCal_of h2 ⟨rfl, rfl⟩ hdX11_votes (gvL_85 (fun _ z => z))⟩), List.forall_mem_cons.mpr ⟨(fun as w k h => let ⟨v, w2, h1, h2⟩ := okL_mm_votes as w k x h; ⟨v, w2, h1, eCal_of h2 ⟨rfl, rfl⟩ hdX12_votes (gvL_88 (fun _ z => z))⟩), List.forall_mem_cons.mpr ⟨(fun as w k h => let ⟨v, w2, h1, h2⟩ := okL_xx_passes as w k x h; ⟨v, w2, h1, eCal_of h2 ⟨rfl, rfl⟩ hdX11_passes (gvL_89 (fun _ z => z))⟩), List.forall_mem_cons.mpr ⟨(fun as w k h => let ⟨v, w2, h1, h2⟩ := okL_mm_passes as w k x h; ⟨v, w2, h1, eCal_of h2 ⟨rfl, rfl⟩ hdX12_passes (gvL_92 (fun _ z => z))⟩), List.forall_mem_cons.mpr ⟨(fun as w k h => let ⟨v, w2, h1, h2⟩ := okL_xx_breaks as w k x h; ⟨v, w2, h1, eCal_of h2 ⟨rfl, rfl⟩ hdX11_breaks (gvL_93 (fun _ z => z))⟩), List.forall_mem_cons.mpr ⟨(fun as w k h => let ⟨v, w2, h1, h2⟩ := okL_mm_breaks as w k x h; ⟨v, w2, h1, eCal_of h2 ⟨rfl, rfl⟩ hdX12_breaks (gvL_96 (fun _ z => z))⟩), List.forall_mem_cons.mpr ⟨(fun as w k h => let ⟨v, w2, h1, h2⟩ := okL_xx_part as w k x h; ⟨v, w2, h1, eCal_of h2 ⟨rfl, rfl⟩ hdX11_part (gvL_97 (fun _ z => z))⟩), List.forall_mem_cons.mpr ⟨(fun as w k h => let ⟨v, w2, h1, h2⟩ := okL_mm_part as w k x h; ⟨v, w2, h1, eCal_of h2 ⟨rfl, rfl⟩ hdX12_part (gvL_100 (fun _ z => z))⟩), List.forall_mem_cons.mpr ⟨(fun as w k h => let ⟨v, w2, h1, h2⟩ := okL_xx_chosen as w k x h; ⟨v, w2, h1, eCal_of h2 ⟨rfl, rfl⟩ hdX11_chosen (gvL_101 (fun _ z => z))⟩), List.forall_mem_cons.mpr ⟨(fun as w k h => let ⟨v, w2, h1, h2⟩ := okL_mm_chosen as w k x h; ⟨v, w2, h1, eCal_of h2 ⟨rfl, rfl⟩ hdX12_chosen (gvL_105 (fun _ z => z))⟩), List.forall_mem_cons.mpr ⟨(fun as w k h => let ⟨v, w2, h1, h2⟩ := okL_xx_steady as w k x h; ⟨v, w2, h1, eCal_of h2 ⟨rfl, rfl⟩ hdX11_steady (gvL_106 (fun _ z => z))⟩), List.forall_mem_cons.mpr ⟨(fun as w k h => let ⟨v, w2, h1, h2⟩ := okL_mm_steady as w k x h; ⟨v, w2, h1, eCal_of h2 ⟨rfl, rfl⟩ hdX12_steady (gvL_109 (fun _ z => z))⟩), List.forall_mem_cons.mpr ⟨(fun as w k h => let ⟨v, w2, h1, h2⟩ := okL_xx_steadies as w k x h; ⟨v, w2, h1, eCal_of h2 ⟨rfl, rfl⟩ hdX11_steadies (gvL_110 (fun _ z => z))⟩), List.forall_mem_cons.mpr ⟨(fun as w k h => let ⟨v, w2, h1, h2⟩ := okL_mm_steadies as w k x h; ⟨v, w2, h1, eCal_of h2 ⟨rfl, rfl⟩ hdX12_steadies (gvL_113 (fun _ z => z))⟩), List.forall_mem_cons.mpr ⟨(fun as w k h => let ⟨v, w2, h1, h2⟩ := okL_xx_close as w k x h; ⟨v, w2, h1, eCal_of h2 ⟨rfl, rfl⟩ hdX11_close (gvL_114 (fun _ z => z))⟩), List.forall_mem_cons.mpr ⟨(fun as w k h => let ⟨v, w2, h1, h2⟩ := okL_mm_close as w k x h; ⟨v, w2, h1, eCal_of h2 ⟨rfl, rfl⟩ hdX12_close (gvL_117 (fun _ z => z))⟩), List.forall_mem_cons.mpr ⟨(fun as w k h => let ⟨v, w2, h1, h2⟩ := okL_xx_release as w k x h; ⟨v, w2, h1, eCal_of h2 ⟨rfl, rfl⟩ hdX11_release (gvL_118 (fun _ z => z))⟩), List.forall_mem_cons.mpr ⟨(fun as w k h => let ⟨v, w2, h1, h2⟩ := okL_mm_release as w k x h; ⟨v, w2, h1, eCal_of h2 ⟨rfl, rfl⟩ hdX12_release (gvL_122 (fun _ z => z))⟩), List.forall_mem_cons.mpr ⟨(fun as w k h => let ⟨v, w2, h1, h2⟩ := okL_xx_sale as w k x h; ⟨v, w2, h1, eCal_of h2 ⟨rfl, rfl⟩ hdX11_sale (gvL_123 (fun _ z => z))⟩), List.forall_mem_cons.mpr ⟨(fun as w k h => let ⟨v, w2, h1, h2⟩ := okL_mm_sale as w k x h; ⟨v, w2, h1, eCal_of h2 ⟨rfl, rfl⟩ hdX12_sale (gvL_126 (fun _ z => z))⟩), List.forall_mem_cons.mpr ⟨(fun as w k h => let ⟨v, w2, h1, h2⟩ := okL_xx_guess as w k x h; ⟨v, w2, h1, eCal_of h2 ⟨rfl, rfl⟩ hdX11_guess (gvL_127 (fun _ z => z))⟩), List.forall_mem_cons.mpr ⟨(fun as w k h => let ⟨v, w2, h1, h2⟩ := okL_mm_guess as w k x h; ⟨v, w2, h1, eCal_of h2 ⟨rfl, rfl⟩ hdX12_guess (gvL_130 (fun _ z => z))⟩), List.forall_mem_cons.mpr ⟨(fun as w k h => let ⟨v, w2, h1, h2⟩ := okL_xx_mean as w k x h; ⟨v, w2, h1, eCal_of h2 ⟨rfl, rfl⟩ hdX11_mean (gvL_131 (fun _ z => z))⟩), List.forall_mem_cons.mpr ⟨(fun as w k h => let ⟨v, w2, h1, h2⟩ := okL_mm_mean as w k x h; ⟨v, w2, h1, eCal_of h2 ⟨rfl, rfl⟩ hdX12_mean (gvL_135 (fun _ z => z))⟩), List.forall_mem_cons.mpr ⟨(fun as w k h => let ⟨v, w2, h1, h2⟩ := okL_xx_multiple as w k x h; ⟨v, w2, h1, eCal_of h2 ⟨rfl, rfl⟩ hdX11_multiple (gvL_136 (fun _ z => z))⟩), List.forall_mem_cons.mpr ⟨(fun as w k h => let ⟨v, w2, h1, h2⟩ := okL_mm_multiple as w k x h; ⟨v, w2, h1, eCal_of h2 ⟨rfl, rfl⟩ hdX12_multiple (gvL_139 (fun _ z => z))⟩), List.forall_mem_cons.mpr ⟨(fun as w k h => let ⟨v, w2, h1, h2⟩ := okL_xx_yields as w k x h; ⟨v, w2, h1, eCal_of h2 ⟨rfl, rfl⟩ hdX11_yields (gvL_140 (fun _ z => z))⟩), List.forall_mem_cons.mpr ⟨(fun as w k h => let ⟨v, w2, h1, h2⟩ := okL_mm_yields as w k x h; ⟨v, w2, h1, eCal_of h2 ⟨rfl, rfl⟩ hdX12_yields (gvL_143 (fun _ z => z))⟩), List.forall_mem_cons.mpr ⟨(fun as w k h => let ⟨v, w2, h1, h2⟩ := okL_xx_grant as w k x h; ⟨v, w2, h1, eCal_of h2 ⟨rfl, rfl⟩ hdX11_grant (gvL_144 (fun _ z => z))⟩), List.forall_mem_cons.mpr ⟨(fun as w k h => let ⟨v, w2, h1, h2⟩ := okL_mm_grant as w k x h; ⟨v, w2, h1, eCal_of h2 ⟨rfl, rfl⟩ hdX12_grant (gvL_147 (fun _ z => z))⟩), List.forall_mem_cons.mpr ⟨(fun as w k h => let ⟨v, w2, h1, h2⟩ := okL_xx_waive as w k x h; ⟨v, w2, h1, eCal_of h2 ⟨rfl, rfl⟩ hdX11_waive (gvL_148 (fun _ z => z))⟩), List.forall_mem_cons.mpr ⟨(fun as w k h => let ⟨v, w2, h1, h2⟩ := okL_mm_waive as w k x h; ⟨v, w2, h1, eCal_of h2 ⟨rfl, rfl⟩ hdX12_waive (gvL_152 (fun _ z => z))⟩), List.forall_mem_cons.mpr ⟨(fun as w k h => let ⟨v, w2, h1, h2⟩ := okL_xx_rank as w k x h; ⟨v, w2, h1, eCal_of h2 ⟨rfl, rfl⟩ hdX11_rank (gvL_153 (fun _ z => z))⟩), List.forall_mem_cons.mpr ⟨(fun as w k h => let ⟨v, w2, h1, h2⟩ := okL_mm_rank as w k x h; ⟨v, w2, h1, eCal_of h2 ⟨rfl, rfl⟩ hdX12_rank (gvL_156 (fun _ z => z))⟩), List.forall_mem_cons.mpr ⟨(fun as w k h => let ⟨v, w2, h1, h2⟩ := okL_xx_undo as w k x h; ⟨v, w2, h1, eCal_of h2 ⟨rfl, rfl⟩ hdX11_undo (gvL_157 (fun _ z => z))⟩), List.forall_mem_cons.mpr ⟨(fun as w k h => let ⟨v, w2, h1, h2⟩ := okL_mm_undo as w k x h; ⟨v, w2, h1, eCal_of h2 ⟨rfl, rfl⟩ hdX12_undo (gvL_161 (fun _ z => z))⟩), fun _ h => absurd h List.not_mem_nil⟩⟩⟩⟩⟩⟩⟩⟩⟩⟩⟩⟩⟩⟩⟩⟩⟩⟩⟩⟩⟩⟩⟩⟩⟩⟩⟩⟩⟩⟩⟩⟩⟩⟩⟩⟩⟩⟩⟩⟩⟩⟩⟩⟩⟩⟩⟩⟩⟩⟩⟩⟩⟩⟩⟩⟩⟩⟩⟩⟩⟩⟩⟩⟩⟩⟩⟩⟩
noncomputable def kk_law (xs : List Int32) (n : Nat) : eK eW := fun pc L st w => bif Nat.beq pc 18 then (lR L 0 68 (lR L 1 38 (lR L 2 63 ((lI L 3).bind fun a3 => sE st (f_law xs n a3 w))))) else none
set_option maxRecDepth 100000 in
set_option maxHeartbeats 4000000 in
theorem go_law {xs : List Int32} {Q : State → Prop} {x : eW} (hcx : eCx p room_1 s m args meth c code RL 4 ad D cA vwCl SHl (SSl xs) eTb ret) (hret : ∀ (v : Option Value) (w : eW) (i : Instr) (pc : Nat) (H : Heap) (locs : List Loc) (ls : Array Slot), rL v w = some x → eIsRet i v → decode code pc = .ok (i, 1) → va_P D vwCl (eWs ad cA w 0 SHl) H → va_S (eA ad SHl.length) s.heap H locs → W p l e room_1 s m args below meth c H locs 64 3731 Q (F0 m pc ls (v.toList.map (eC ad)))) : ∀ (n : Nat) (a3 : Int32) (w : eW), f_law xs n a3 w = some x → eGo p l e room_1 s m args below meth c 4 ad D cA vwCl SHl 64 3731 Q 18 [some (.ref 68), some (.ref 38), some (.ref 63), some (.int a3)] [] w := by
  intro n
  induction n with
  | zero => intro a3 w h; exact nomatch (show (none : Option eW) = some x from h)
  | succ n ih =>
    intro a3 w h
    have h : eRun SHl (SSl xs) 4 rs_law (eCs cs_law) rL C_law [18] (kk_law xs n) 72 true 18 [some (.ref 68), some (.ref 38), some (.ref 63), some (.int a3)] [] w = some x := h
    refine eRun_goG hcx (eLnk_all lk_law) (eHc_all hc_law) ⟨by decide, by decide⟩ hret dc_law [18] _ (fun pc L st w hK => ?_) 72 true 18 _ _ w h
    unfold kk_law at hK
    rcases eCut hK with ⟨hpc, hK⟩ | hK
    · subst hpc
      obtain ⟨e0, hK1⟩ := lR_some hK
      obtain ⟨e1, hK2⟩ := lR_some hK1
      obtain ⟨e2, hK3⟩ := lR_some hK2
      obtain ⟨a3, e3, hK4⟩ := lI_some hK3
      obtain ⟨hst, hK5⟩ := sE_some hK4
      subst hst
      exact eGo.wk (ih a3 w hK5) (eLe_wk ⟨e0, e1, e2, e3, trivial⟩)
    cases hK
end
