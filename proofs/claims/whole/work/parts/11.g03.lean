theorem hdX12_byteAt : yX12_byteAt.cls ≠ "java/lang/invoke/MethodHandle" ∧ yX12_byteAt.cls ≠ "java/lang/invoke/VarHandle" ∧ (parseMethodDescriptor yX12_byteAt.desc).map (fun d => d.parameters.length) = some 1 := by decide +kernel
set_option maxRecDepth 100000 in
set_option maxHeartbeats 4000000 in
theorem wcX12_byteAt : Cond.code yX12_byteAt cX12_byteAt 2 (some .int) ∈ eTb := tb6 46 rfl rfl
set_option maxRecDepth 100000 in
set_option maxHeartbeats 4000000 in
theorem wnX12_byteAt : Cond.initialized yX12_byteAt.cls ∈ eTb := tb1 16 rfl rfl
set_option maxRecDepth 100000 in
set_option maxHeartbeats 4000000 in
theorem wiX12_byteAt : Cond.instanceMethod yX12_byteAt ∈ eTb := tb6 45 rfl rfl
set_option maxRecDepth 100000 in
set_option maxHeartbeats 4000000 in
theorem wlX12_byteAt : Cond.selects yX12_byteAt.cls yX12_byteAt yX12_byteAt ∈ eTb := tb0 34 rfl rfl
theorem hdX12_canTurn : yX12_canTurn.cls ≠ "java/lang/invoke/MethodHandle" ∧ yX12_canTurn.cls ≠ "java/lang/invoke/VarHandle" ∧ (parseMethodDescriptor yX12_canTurn.desc).map (fun d => d.parameters.length) = some 1 := by decide +kernel
set_option maxRecDepth 100000 in
set_option maxHeartbeats 4000000 in
theorem wcX12_canTurn : Cond.code yX12_canTurn cX12_canTurn 2 (some .boolean) ∈ eTb := tb6 170 rfl rfl
set_option maxRecDepth 100000 in
set_option maxHeartbeats 4000000 in
theorem wnX12_canTurn : Cond.initialized yX12_canTurn.cls ∈ eTb := tb1 16 rfl rfl
set_option maxRecDepth 100000 in
set_option maxHeartbeats 4000000 in
theorem wiX12_canTurn : Cond.instanceMethod yX12_canTurn ∈ eTb := tb6 169 rfl rfl
set_option maxRecDepth 100000 in
set_option maxHeartbeats 4000000 in
theorem wlX12_canTurn : Cond.selects yX12_canTurn.cls yX12_canTurn yX12_canTurn ∈ eTb := tb0 54 rfl rfl
theorem hdX12_common : yX12_common.cls ≠ "java/lang/invoke/MethodHandle" ∧ yX12_common.cls ≠ "java/lang/invoke/VarHandle" ∧ (parseMethodDescriptor yX12_common.desc).map (fun d => d.parameters.length) = some 2 := by decide +kernel
set_option maxRecDepth 100000 in
set_option maxHeartbeats 4000000 in
theorem wcX12_common : Cond.code yX12_common cX12_common 10 (some .long) ∈ eTb := tb6 218 rfl rfl
set_option maxRecDepth 100000 in
set_option maxHeartbeats 4000000 in
theorem wnX12_common : Cond.initialized yX12_common.cls ∈ eTb := tb1 16 rfl rfl
set_option maxRecDepth 100000 in
set_option maxHeartbeats 4000000 in
theorem wsX12_common : Cond.static yX12_common ∈ eTb := tb6 217 rfl rfl
theorem hdX12_edge : yX12_edge.cls ≠ "java/lang/invoke/MethodHandle" ∧ yX12_edge.cls ≠ "java/lang/invoke/VarHandle" ∧ (parseMethodDescriptor yX12_edge.desc).map (fun d => d.parameters.length) = some 2 := by decide +kernel
set_option maxRecDepth 100000 in
set_option maxHeartbeats 4000000 in
theorem wcX12_edge : Cond.code yX12_edge cX12_edge 6 (none) ∈ eTb := tb6 190 rfl rfl
set_option maxRecDepth 100000 in
set_option maxHeartbeats 4000000 in
theorem wnX12_edge : Cond.initialized yX12_edge.cls ∈ eTb := tb1 16 rfl rfl
set_option maxRecDepth 100000 in
set_option maxHeartbeats 4000000 in
theorem wiX12_edge : Cond.instanceMethod yX12_edge ∈ eTb := tb6 189 rfl rfl
set_option maxRecDepth 100000 in
set_option maxHeartbeats 4000000 in
theorem wlX12_edge : Cond.selects yX12_edge.cls yX12_edge yX12_edge ∈ eTb := tb0 59 rfl rfl
theorem hdX12_fails : yX12_fails.cls ≠ "java/lang/invoke/MethodHandle" ∧ yX12_fails.cls ≠ "java/lang/invoke/VarHandle" ∧ (parseMethodDescriptor yX12_fails.desc).map (fun d => d.parameters.length) = some 1 := by decide +kernel
set_option maxRecDepth 100000 in
set_option maxHeartbeats 4000000 in
theorem wcX12_fails : Cond.code yX12_fails cX12_fails 2 (none) ∈ eTb := tb6 74 rfl rfl
set_option maxRecDepth 100000 in
set_option maxHeartbeats 4000000 in
theorem wnX12_fails : Cond.initialized yX12_fails.cls ∈ eTb := tb1 16 rfl rfl
set_option maxRecDepth 100000 in
set_option maxHeartbeats 4000000 in
theorem wiX12_fails : Cond.instanceMethod yX12_fails ∈ eTb := tb6 73 rfl rfl
set_option maxRecDepth 100000 in
set_option maxHeartbeats 4000000 in
theorem wlX12_fails : Cond.selects yX12_fails.cls yX12_fails yX12_fails ∈ eTb := tb0 39 rfl rfl
theorem hdX12_fallsBy : yX12_fallsBy.cls ≠ "java/lang/invoke/MethodHandle" ∧ yX12_fallsBy.cls ≠ "java/lang/invoke/VarHandle" ∧ (parseMethodDescriptor yX12_fallsBy.desc).map (fun d => d.parameters.length) = some 2 := by decide +kernel
set_option maxRecDepth 100000 in
set_option maxHeartbeats 4000000 in
theorem wcX12_fallsBy : Cond.code yX12_fallsBy cX12_fallsBy 2 (some .long) ∈ eTb := tb6 149 rfl rfl
set_option maxRecDepth 100000 in
set_option maxHeartbeats 4000000 in
theorem wnX12_fallsBy : Cond.initialized yX12_fallsBy.cls ∈ eTb := tb1 16 rfl rfl
set_option maxRecDepth 100000 in
set_option maxHeartbeats 4000000 in
theorem wsX12_fallsBy : Cond.static yX12_fallsBy ∈ eTb := tb6 148 rfl rfl
theorem hdX12_firstOf : yX12_firstOf.cls ≠ "java/lang/invoke/MethodHandle" ∧ yX12_firstOf.cls ≠ "java/lang/invoke/VarHandle" ∧ (parseMethodDescriptor yX12_firstOf.desc).map (fun d => d.parameters.length) = some 1 := by decide +kernel
set_option maxRecDepth 100000 in
set_option maxHeartbeats 4000000 in
theorem wcX12_firstOf : Cond.code yX12_firstOf cX12_firstOf 2 (some .long) ∈ eTb := tb6 162 rfl rfl
set_option maxRecDepth 100000 in
set_option maxHeartbeats 4000000 in
theorem wnX12_firstOf : Cond.initialized yX12_firstOf.cls ∈ eTb := tb1 16 rfl rfl
set_option maxRecDepth 100000 in
set_option maxHeartbeats 4000000 in
theorem wiX12_firstOf : Cond.instanceMethod yX12_firstOf ∈ eTb := tb6 161 rfl rfl
set_option maxRecDepth 100000 in
set_option maxHeartbeats 4000000 in
theorem wlX12_firstOf : Cond.selects yX12_firstOf.cls yX12_firstOf yX12_firstOf ∈ eTb := tb0 52 rfl rfl
theorem hdX12_firsts : yX12_firsts.cls ≠ "java/lang/invoke/MethodHandle" ∧ yX12_firsts.cls ≠ "java/lang/invoke/VarHandle" ∧ (parseMethodDescriptor yX12_firsts.desc).map (fun d => d.parameters.length) = some 0 := by decide +kernel
set_option maxRecDepth 100000 in
set_option maxHeartbeats 4000000 in
theorem wcX12_firsts : Cond.code yX12_firsts cX12_firsts 4 (some .long) ∈ eTb := tb6 158 rfl rfl
set_option maxRecDepth 100000 in
set_option maxHeartbeats 4000000 in
theorem wnX12_firsts : Cond.initialized yX12_firsts.cls ∈ eTb := tb1 16 rfl rfl
set_option maxRecDepth 100000 in
set_option maxHeartbeats 4000000 in
theorem wiX12_firsts : Cond.instanceMethod yX12_firsts ∈ eTb := tb6 157 rfl rfl
set_option maxRecDepth 100000 in
set_option maxHeartbeats 4000000 in
theorem wlX12_firsts : Cond.selects yX12_firsts.cls yX12_firsts yX12_firsts ∈ eTb := tb0 51 rfl rfl
theorem hdX12_firstsOf : yX12_firstsOf.cls ≠ "java/lang/invoke/MethodHandle" ∧ yX12_firstsOf.cls ≠ "java/lang/invoke/VarHandle" ∧ (parseMethodDescriptor yX12_firstsOf.desc).map (fun d => d.parameters.length) = some 1 := by decide +kernel
set_option maxRecDepth 100000 in
set_option maxHeartbeats 4000000 in
theorem wcX12_firstsOf : Cond.code yX12_firstsOf cX12_firstsOf 5 (some .long) ∈ eTb := tb6 182 rfl rfl
set_option maxRecDepth 100000 in
set_option maxHeartbeats 4000000 in
theorem wnX12_firstsOf : Cond.initialized yX12_firstsOf.cls ∈ eTb := tb1 16 rfl rfl
set_option maxRecDepth 100000 in
set_option maxHeartbeats 4000000 in
theorem wiX12_firstsOf : Cond.instanceMethod yX12_firstsOf ∈ eTb := tb6 181 rfl rfl
set_option maxRecDepth 100000 in
set_option maxHeartbeats 4000000 in
theorem wlX12_firstsOf : Cond.selects yX12_firstsOf.cls yX12_firstsOf yX12_firstsOf ∈ eTb := tb0 57 rfl rfl
theorem hdX12_four : yX12_four.cls ≠ "java/lang/invoke/MethodHandle" ∧ yX12_four.cls ≠ "java/lang/invoke/VarHandle" ∧ (parseMethodDescriptor yX12_four.desc).map (fun d => d.parameters.length) = some 1 := by decide +kernel
set_option maxRecDepth 100000 in
set_option maxHeartbeats 4000000 in
theorem wcX12_four : Cond.code yX12_four cX12_four 3 (none) ∈ eTb := tb6 23 rfl rfl
set_option maxRecDepth 100000 in
set_option maxHeartbeats 4000000 in
theorem wnX12_four : Cond.initialized yX12_four.cls ∈ eTb := tb1 16 rfl rfl
set_option maxRecDepth 100000 in
set_option maxHeartbeats 4000000 in
theorem wiX12_four : Cond.instanceMethod yX12_four ∈ eTb := tb6 22 rfl rfl
set_option maxRecDepth 100000 in
set_option maxHeartbeats 4000000 in
theorem wlX12_four : Cond.selects yX12_four.cls yX12_four yX12_four ∈ eTb := tb0 31 rfl rfl
theorem hdX12_goOn : yX12_goOn.cls ≠ "java/lang/invoke/MethodHandle" ∧ yX12_goOn.cls ≠ "java/lang/invoke/VarHandle" ∧ (parseMethodDescriptor yX12_goOn.desc).map (fun d => d.parameters.length) = some 0 := by decide +kernel
set_option maxRecDepth 100000 in
set_option maxHeartbeats 4000000 in
theorem wcX12_goOn : Cond.code yX12_goOn cX12_goOn 3 (none) ∈ eTb := tb6 38 rfl rfl
set_option maxRecDepth 100000 in
set_option maxHeartbeats 4000000 in
theorem wnX12_goOn : Cond.initialized yX12_goOn.cls ∈ eTb := tb1 16 rfl rfl
set_option maxRecDepth 100000 in
set_option maxHeartbeats 4000000 in
theorem wiX12_goOn : Cond.instanceMethod yX12_goOn ∈ eTb := tb6 37 rfl rfl
set_option maxRecDepth 100000 in
set_option maxHeartbeats 4000000 in
theorem wlX12_goOn : Cond.selects yX12_goOn.cls yX12_goOn yX12_goOn ∈ eTb := tb0 32 rfl rfl
theorem hdX12_goesOver : yX12_goesOver.cls ≠ "java/lang/invoke/MethodHandle" ∧ yX12_goesOver.cls ≠ "java/lang/invoke/VarHandle" ∧ (parseMethodDescriptor yX12_goesOver.desc).map (fun d => d.parameters.length) = some 2 := by decide +kernel
set_option maxRecDepth 100000 in
set_option maxHeartbeats 4000000 in
theorem wcX12_goesOver : Cond.code yX12_goesOver cX12_goesOver 4 (some .boolean) ∈ eTb := tb6 110 rfl rfl
set_option maxRecDepth 100000 in
set_option maxHeartbeats 4000000 in
theorem wnX12_goesOver : Cond.initialized yX12_goesOver.cls ∈ eTb := tb1 16 rfl rfl
set_option maxRecDepth 100000 in
set_option maxHeartbeats 4000000 in
theorem wiX12_goesOver : Cond.instanceMethod yX12_goesOver ∈ eTb := tb6 109 rfl rfl
set_option maxRecDepth 100000 in
set_option maxHeartbeats 4000000 in
theorem wlX12_goesOver : Cond.selects yX12_goesOver.cls yX12_goesOver yX12_goesOver ∈ eTb := tb0 46 rfl rfl
theorem hdX12_hasDouble : yX12_hasDouble.cls ≠ "java/lang/invoke/MethodHandle" ∧ yX12_hasDouble.cls ≠ "java/lang/invoke/VarHandle" ∧ (parseMethodDescriptor yX12_hasDouble.desc).map (fun d => d.parameters.length) = some 2 := by decide +kernel
set_option maxRecDepth 100000 in
set_option maxHeartbeats 4000000 in
theorem wcX12_hasDouble : Cond.code yX12_hasDouble cX12_hasDouble 3 (some .double) ∈ eTb := tb7 139 rfl rfl
set_option maxRecDepth 100000 in
set_option maxHeartbeats 4000000 in
theorem wnX12_hasDouble : Cond.initialized yX12_hasDouble.cls ∈ eTb := tb1 16 rfl rfl
set_option maxRecDepth 100000 in
set_option maxHeartbeats 4000000 in
theorem wiX12_hasDouble : Cond.instanceMethod yX12_hasDouble ∈ eTb := tb7 138 rfl rfl
set_option maxRecDepth 100000 in
set_option maxHeartbeats 4000000 in
theorem wlX12_hasDouble : Cond.selects yX12_hasDouble.cls yX12_hasDouble yX12_hasDouble ∈ eTb := tb0 82 rfl rfl
theorem hdX12_hasUnits : yX12_hasUnits.cls ≠ "java/lang/invoke/MethodHandle" ∧ yX12_hasUnits.cls ≠ "java/lang/invoke/VarHandle" ∧ (parseMethodDescriptor yX12_hasUnits.desc).map (fun d => d.parameters.length) = some 3 := by decide +kernel
set_option maxRecDepth 100000 in
set_option maxHeartbeats 4000000 in
theorem wcX12_hasUnits : Cond.code yX12_hasUnits cX12_hasUnits 4 (some .boolean) ∈ eTb := tb7 14 rfl rfl
set_option maxRecDepth 100000 in
set_option maxHeartbeats 4000000 in
theorem wnX12_hasUnits : Cond.initialized yX12_hasUnits.cls ∈ eTb := tb1 16 rfl rfl
set_option maxRecDepth 100000 in
set_option maxHeartbeats 4000000 in
theorem wiX12_hasUnits : Cond.instanceMethod yX12_hasUnits ∈ eTb := tb7 13 rfl rfl
set_option maxRecDepth 100000 in
set_option maxHeartbeats 4000000 in
theorem wlX12_hasUnits : Cond.selects yX12_hasUnits.cls yX12_hasUnits yX12_hasUnits ∈ eTb := tb0 70 rfl rfl
theorem hdX12_in : yX12_in.cls ≠ "java/lang/invoke/MethodHandle" ∧ yX12_in.cls ≠ "java/lang/invoke/VarHandle" ∧ (parseMethodDescriptor yX12_in.desc).map (fun d => d.parameters.length) = some 3 := by decide +kernel
set_option maxRecDepth 100000 in
set_option maxHeartbeats 4000000 in
theorem wcX12_in : Cond.code yX12_in cX12_in 3 (some .boolean) ∈ eTb := tb6 30 rfl rfl
set_option maxRecDepth 100000 in
set_option maxHeartbeats 4000000 in
theorem wnX12_in : Cond.initialized yX12_in.cls ∈ eTb := tb1 16 rfl rfl
set_option maxRecDepth 100000 in
set_option maxHeartbeats 4000000 in
theorem wsX12_in : Cond.static yX12_in ∈ eTb := tb6 29 rfl rfl
theorem hdX12_isAmount : yX12_isAmount.cls ≠ "java/lang/invoke/MethodHandle" ∧ yX12_isAmount.cls ≠ "java/lang/invoke/VarHandle" ∧ (parseMethodDescriptor yX12_isAmount.desc).map (fun d => d.parameters.length) = some 1 := by decide +kernel
set_option maxRecDepth 100000 in
set_option maxHeartbeats 4000000 in
theorem wcX12_isAmount : Cond.code yX12_isAmount cX12_isAmount 1 (some .boolean) ∈ eTb := tb6 140 rfl rfl
set_option maxRecDepth 100000 in
set_option maxHeartbeats 4000000 in
theorem wnX12_isAmount : Cond.initialized yX12_isAmount.cls ∈ eTb := tb1 16 rfl rfl
set_option maxRecDepth 100000 in
set_option maxHeartbeats 4000000 in
theorem wsX12_isAmount : Cond.static yX12_isAmount ∈ eTb := tb6 139 rfl rfl
theorem hdX12_isClass : yX12_isClass.cls ≠ "java/lang/invoke/MethodHandle" ∧ yX12_isClass.cls ≠ "java/lang/invoke/VarHandle" ∧ (parseMethodDescriptor yX12_isClass.desc).map (fun d => d.parameters.length) = some 1 := by decide +kernel
set_option maxRecDepth 100000 in
set_option maxHeartbeats 4000000 in
theorem wcX12_isClass : Cond.code yX12_isClass cX12_isClass 2 (some .boolean) ∈ eTb := tb6 174 rfl rfl
set_option maxRecDepth 100000 in
set_option maxHeartbeats 4000000 in
theorem wnX12_isClass : Cond.initialized yX12_isClass.cls ∈ eTb := tb1 16 rfl rfl
set_option maxRecDepth 100000 in
set_option maxHeartbeats 4000000 in
theorem wiX12_isClass : Cond.instanceMethod yX12_isClass ∈ eTb := tb6 173 rfl rfl
set_option maxRecDepth 100000 in
set_option maxHeartbeats 4000000 in
theorem wlX12_isClass : Cond.selects yX12_isClass.cls yX12_isClass yX12_isClass ∈ eTb := tb0 55 rfl rfl
theorem hdX12_isDigit : yX12_isDigit.cls ≠ "java/lang/invoke/MethodHandle" ∧ yX12_isDigit.cls ≠ "java/lang/invoke/VarHandle" ∧ (parseMethodDescriptor yX12_isDigit.desc).map (fun d => d.parameters.length) = some 1 := by decide +kernel
set_option maxRecDepth 100000 in
set_option maxHeartbeats 4000000 in
theorem wcX12_isDigit : Cond.code yX12_isDigit cX12_isDigit 1 (some .boolean) ∈ eTb := tb6 52 rfl rfl
set_option maxRecDepth 100000 in
set_option maxHeartbeats 4000000 in
theorem wnX12_isDigit : Cond.initialized yX12_isDigit.cls ∈ eTb := tb1 16 rfl rfl
set_option maxRecDepth 100000 in
set_option maxHeartbeats 4000000 in
theorem wsX12_isDigit : Cond.static yX12_isDigit ∈ eTb := tb6 51 rfl rfl
theorem hdX12_isGood : yX12_isGood.cls ≠ "java/lang/invoke/MethodHandle" ∧ yX12_isGood.cls ≠ "java/lang/invoke/VarHandle" ∧ (parseMethodDescriptor yX12_isGood.desc).map (fun d => d.parameters.length) = some 0 := by decide +kernel
set_option maxRecDepth 100000 in
set_option maxHeartbeats 4000000 in
theorem wcX12_isGood : Cond.code yX12_isGood cX12_isGood 1 (some .boolean) ∈ eTb := tb6 42 rfl rfl
set_option maxRecDepth 100000 in
set_option maxHeartbeats 4000000 in
theorem wnX12_isGood : Cond.initialized yX12_isGood.cls ∈ eTb := tb1 16 rfl rfl
set_option maxRecDepth 100000 in
set_option maxHeartbeats 4000000 in
theorem wiX12_isGood : Cond.instanceMethod yX12_isGood ∈ eTb := tb6 41 rfl rfl
set_option maxRecDepth 100000 in
set_option maxHeartbeats 4000000 in
theorem wlX12_isGood : Cond.selects yX12_isGood.cls yX12_isGood yX12_isGood ∈ eTb := tb0 33 rfl rfl
theorem hdX12_isHolder : yX12_isHolder.cls ≠ "java/lang/invoke/MethodHandle" ∧ yX12_isHolder.cls ≠ "java/lang/invoke/VarHandle" ∧ (parseMethodDescriptor yX12_isHolder.desc).map (fun d => d.parameters.length) = some 1 := by decide +kernel
set_option maxRecDepth 100000 in
set_option maxHeartbeats 4000000 in
theorem wcX12_isHolder : Cond.code yX12_isHolder cX12_isHolder 2 (some .boolean) ∈ eTb := tb6 126 rfl rfl
set_option maxRecDepth 100000 in
set_option maxHeartbeats 4000000 in
theorem wnX12_isHolder : Cond.initialized yX12_isHolder.cls ∈ eTb := tb1 16 rfl rfl
set_option maxRecDepth 100000 in
set_option maxHeartbeats 4000000 in
theorem wiX12_isHolder : Cond.instanceMethod yX12_isHolder ∈ eTb := tb6 125 rfl rfl
set_option maxRecDepth 100000 in
set_option maxHeartbeats 4000000 in
theorem wlX12_isHolder : Cond.selects yX12_isHolder.cls yX12_isHolder yX12_isHolder ∈ eTb := tb0 47 rfl rfl
theorem hdX12_isLike : yX12_isLike.cls ≠ "java/lang/invoke/MethodHandle" ∧ yX12_isLike.cls ≠ "java/lang/invoke/VarHandle" ∧ (parseMethodDescriptor yX12_isLike.desc).map (fun d => d.parameters.length) = some 2 := by decide +kernel
set_option maxRecDepth 100000 in
set_option maxHeartbeats 4000000 in
theorem wcX12_isLike : Cond.code yX12_isLike cX12_isLike 3 (some .boolean) ∈ eTb := tb7 27 rfl rfl
set_option maxRecDepth 100000 in
set_option maxHeartbeats 4000000 in
theorem wnX12_isLike : Cond.initialized yX12_isLike.cls ∈ eTb := tb1 16 rfl rfl
set_option maxRecDepth 100000 in
set_option maxHeartbeats 4000000 in
theorem wiX12_isLike : Cond.instanceMethod yX12_isLike ∈ eTb := tb7 26 rfl rfl
set_option maxRecDepth 100000 in
set_option maxHeartbeats 4000000 in
theorem wlX12_isLike : Cond.selects yX12_isLike.cls yX12_isLike yX12_isLike ∈ eTb := tb0 72 rfl rfl
theorem hdX12_isName : yX12_isName.cls ≠ "java/lang/invoke/MethodHandle" ∧ yX12_isName.cls ≠ "java/lang/invoke/VarHandle" ∧ (parseMethodDescriptor yX12_isName.desc).map (fun d => d.parameters.length) = some 0 := by decide +kernel
set_option maxRecDepth 100000 in
set_option maxHeartbeats 4000000 in
theorem wcX12_isName : Cond.code yX12_isName cX12_isName 3 (some .boolean) ∈ eTb := tb6 82 rfl rfl
set_option maxRecDepth 100000 in
set_option maxHeartbeats 4000000 in
theorem wnX12_isName : Cond.initialized yX12_isName.cls ∈ eTb := tb1 16 rfl rfl
set_option maxRecDepth 100000 in
set_option maxHeartbeats 4000000 in
theorem wiX12_isName : Cond.instanceMethod yX12_isName ∈ eTb := tb6 81 rfl rfl
set_option maxRecDepth 100000 in
set_option maxHeartbeats 4000000 in
theorem wlX12_isName : Cond.selects yX12_isName.cls yX12_isName yX12_isName ∈ eTb := tb0 41 rfl rfl
theorem hdX12_isOf : yX12_isOf.cls ≠ "java/lang/invoke/MethodHandle" ∧ yX12_isOf.cls ≠ "java/lang/invoke/VarHandle" ∧ (parseMethodDescriptor yX12_isOf.desc).map (fun d => d.parameters.length) = some 2 := by decide +kernel
set_option maxRecDepth 100000 in
set_option maxHeartbeats 4000000 in
theorem wcX12_isOf : Cond.code yX12_isOf cX12_isOf 2 (some .boolean) ∈ eTb := tb6 133 rfl rfl
set_option maxRecDepth 100000 in
set_option maxHeartbeats 4000000 in
theorem wnX12_isOf : Cond.initialized yX12_isOf.cls ∈ eTb := tb1 16 rfl rfl
set_option maxRecDepth 100000 in
set_option maxHeartbeats 4000000 in
theorem wsX12_isOf : Cond.static yX12_isOf ∈ eTb := tb6 132 rfl rfl
theorem hdX12_isSmall : yX12_isSmall.cls ≠ "java/lang/invoke/MethodHandle" ∧ yX12_isSmall.cls ≠ "java/lang/invoke/VarHandle" ∧ (parseMethodDescriptor yX12_isSmall.desc).map (fun d => d.parameters.length) = some 1 := by decide +kernel
set_option maxRecDepth 100000 in
set_option maxHeartbeats 4000000 in
theorem wcX12_isSmall : Cond.code yX12_isSmall cX12_isSmall 1 (some .boolean) ∈ eTb := tb6 49 rfl rfl
set_option maxRecDepth 100000 in
set_option maxHeartbeats 4000000 in
theorem wnX12_isSmall : Cond.initialized yX12_isSmall.cls ∈ eTb := tb1 16 rfl rfl
set_option maxRecDepth 100000 in
set_option maxHeartbeats 4000000 in
theorem wsX12_isSmall : Cond.static yX12_isSmall ∈ eTb := tb6 48 rfl rfl
theorem hdX12_isSteady : yX12_isSteady.cls ≠ "java/lang/invoke/MethodHandle" ∧ yX12_isSteady.cls ≠ "java/lang/invoke/VarHandle" ∧ (parseMethodDescriptor yX12_isSteady.desc).map (fun d => d.parameters.length) = some 2 := by decide +kernel
set_option maxRecDepth 100000 in
set_option maxHeartbeats 4000000 in
theorem wcX12_isSteady : Cond.code yX12_isSteady cX12_isSteady 8 (some .boolean) ∈ eTb := tb7 103 rfl rfl
set_option maxRecDepth 100000 in
set_option maxHeartbeats 4000000 in
theorem wnX12_isSteady : Cond.initialized yX12_isSteady.cls ∈ eTb := tb1 16 rfl rfl
set_option maxRecDepth 100000 in
set_option maxHeartbeats 4000000 in
theorem wiX12_isSteady : Cond.instanceMethod yX12_isSteady ∈ eTb := tb7 102 rfl rfl
set_option maxRecDepth 100000 in
set_option maxHeartbeats 4000000 in
theorem wlX12_isSteady : Cond.selects yX12_isSteady.cls yX12_isSteady yX12_isSteady ∈ eTb := tb0 80 rfl rfl
theorem hdX12_isTold : yX12_isTold.cls ≠ "java/lang/invoke/MethodHandle" ∧ yX12_isTold.cls ≠ "java/lang/invoke/VarHandle" ∧ (parseMethodDescriptor yX12_isTold.desc).map (fun d => d.parameters.length) = some 0 := by decide +kernel
set_option maxRecDepth 100000 in
set_option maxHeartbeats 4000000 in
theorem wcX12_isTold : Cond.code yX12_isTold cX12_isTold 2 (some .boolean) ∈ eTb := tb6 94 rfl rfl
set_option maxRecDepth 100000 in
set_option maxHeartbeats 4000000 in
theorem wnX12_isTold : Cond.initialized yX12_isTold.cls ∈ eTb := tb1 16 rfl rfl
set_option maxRecDepth 100000 in
set_option maxHeartbeats 4000000 in
theorem wiX12_isTold : Cond.instanceMethod yX12_isTold ∈ eTb := tb6 93 rfl rfl
set_option maxRecDepth 100000 in
set_option maxHeartbeats 4000000 in
theorem wlX12_isTold : Cond.selects yX12_isTold.cls yX12_isTold yX12_isTold ∈ eTb := tb0 42 rfl rfl
theorem hdX12_isTurned : yX12_isTurned.cls ≠ "java/lang/invoke/MethodHandle" ∧ yX12_isTurned.cls ≠ "java/lang/invoke/VarHandle" ∧ (parseMethodDescriptor yX12_isTurned.desc).map (fun d => d.parameters.length) = some 1 := by decide +kernel
set_option maxRecDepth 100000 in
set_option maxHeartbeats 4000000 in
theorem wcX12_isTurned : Cond.code yX12_isTurned cX12_isTurned 2 (some .boolean) ∈ eTb := tb6 166 rfl rfl
set_option maxRecDepth 100000 in
set_option maxHeartbeats 4000000 in
theorem wnX12_isTurned : Cond.initialized yX12_isTurned.cls ∈ eTb := tb1 16 rfl rfl
set_option maxRecDepth 100000 in
set_option maxHeartbeats 4000000 in
theorem wiX12_isTurned : Cond.instanceMethod yX12_isTurned ∈ eTb := tb6 165 rfl rfl
set_option maxRecDepth 100000 in
set_option maxHeartbeats 4000000 in
theorem wlX12_isTurned : Cond.selects yX12_isTurned.cls yX12_isTurned yX12_isTurned ∈ eTb := tb0 53 rfl rfl
theorem hdX12_isWord : yX12_isWord.cls ≠ "java/lang/invoke/MethodHandle" ∧ yX12_isWord.cls ≠ "java/lang/invoke/VarHandle" ∧ (parseMethodDescriptor yX12_isWord.desc).map (fun d => d.parameters.length) = some 2 := by decide +kernel
set_option maxRecDepth 100000 in
set_option maxHeartbeats 4000000 in
theorem wcX12_isWord : Cond.code yX12_isWord cX12_isWord 3 (some .boolean) ∈ eTb := tb6 62 rfl rfl
set_option maxRecDepth 100000 in
set_option maxHeartbeats 4000000 in
theorem wnX12_isWord : Cond.initialized yX12_isWord.cls ∈ eTb := tb1 16 rfl rfl
set_option maxRecDepth 100000 in
set_option maxHeartbeats 4000000 in
theorem wiX12_isWord : Cond.instanceMethod yX12_isWord ∈ eTb := tb6 61 rfl rfl
set_option maxRecDepth 100000 in
set_option maxHeartbeats 4000000 in
theorem wlX12_isWord : Cond.selects yX12_isWord.cls yX12_isWord yX12_isWord ∈ eTb := tb0 36 rfl rfl
theorem hdX12_keep : yX12_keep.cls ≠ "java/lang/invoke/MethodHandle" ∧ yX12_keep.cls ≠ "java/lang/invoke/VarHandle" ∧ (parseMethodDescriptor yX12_keep.desc).map (fun d => d.parameters.length) = some 0 := by decide +kernel
set_option maxRecDepth 100000 in
set_option maxHeartbeats 4000000 in
theorem wcX12_keep : Cond.code yX12_keep cX12_keep 3 (none) ∈ eTb := tb7 119 rfl rfl
set_option maxRecDepth 100000 in
set_option maxHeartbeats 4000000 in
theorem wnX12_keep : Cond.initialized yX12_keep.cls ∈ eTb := tb1 16 rfl rfl
set_option maxRecDepth 100000 in
set_option maxHeartbeats 4000000 in
theorem wiX12_keep : Cond.instanceMethod yX12_keep ∈ eTb := tb7 118 rfl rfl
set_option maxRecDepth 100000 in
set_option maxHeartbeats 4000000 in
theorem wlX12_keep : Cond.selects yX12_keep.cls yX12_keep yX12_keep ∈ eTb := tb0 81 rfl rfl
theorem hdX12_keyword : yX12_keyword.cls ≠ "java/lang/invoke/MethodHandle" ∧ yX12_keyword.cls ≠ "java/lang/invoke/VarHandle" ∧ (parseMethodDescriptor yX12_keyword.desc).map (fun d => d.parameters.length) = some 2 := by decide +kernel
set_option maxRecDepth 100000 in
set_option maxHeartbeats 4000000 in
theorem wcX12_keyword : Cond.code yX12_keyword cX12_keyword 3 (none) ∈ eTb := tb6 102 rfl rfl
set_option maxRecDepth 100000 in
set_option maxHeartbeats 4000000 in
theorem wnX12_keyword : Cond.initialized yX12_keyword.cls ∈ eTb := tb1 16 rfl rfl
set_option maxRecDepth 100000 in
set_option maxHeartbeats 4000000 in
theorem wiX12_keyword : Cond.instanceMethod yX12_keyword ∈ eTb := tb6 101 rfl rfl
set_option maxRecDepth 100000 in
set_option maxHeartbeats 4000000 in
theorem wlX12_keyword : Cond.selects yX12_keyword.cls yX12_keyword yX12_keyword ∈ eTb := tb0 44 rfl rfl
theorem hdX12_lay : yX12_lay.cls ≠ "java/lang/invoke/MethodHandle" ∧ yX12_lay.cls ≠ "java/lang/invoke/VarHandle" ∧ (parseMethodDescriptor yX12_lay.desc).map (fun d => d.parameters.length) = some 1 := by decide +kernel
set_option maxRecDepth 100000 in
set_option maxHeartbeats 4000000 in
theorem wcX12_lay : Cond.code yX12_lay cX12_lay 9 (none) ∈ eTb := tb6 154 rfl rfl
set_option maxRecDepth 100000 in
set_option maxHeartbeats 4000000 in
theorem wnX12_lay : Cond.initialized yX12_lay.cls ∈ eTb := tb1 16 rfl rfl
set_option maxRecDepth 100000 in
set_option maxHeartbeats 4000000 in
theorem wiX12_lay : Cond.instanceMethod yX12_lay ∈ eTb := tb6 153 rfl rfl
set_option maxRecDepth 100000 in
set_option maxHeartbeats 4000000 in
theorem wlX12_lay : Cond.selects yX12_lay.cls yX12_lay yX12_lay ∈ eTb := tb0 50 rfl rfl
theorem hdX12_layBreaks : yX12_layBreaks.cls ≠ "java/lang/invoke/MethodHandle" ∧ yX12_layBreaks.cls ≠ "java/lang/invoke/VarHandle" ∧ (parseMethodDescriptor yX12_layBreaks.desc).map (fun d => d.parameters.length) = some 0 := by decide +kernel
set_option maxRecDepth 100000 in
set_option maxHeartbeats 4000000 in
theorem wcX12_layBreaks : Cond.code yX12_layBreaks cX12_layBreaks 4 (none) ∈ eTb := tb7 68 rfl rfl
set_option maxRecDepth 100000 in
set_option maxHeartbeats 4000000 in
theorem wnX12_layBreaks : Cond.initialized yX12_layBreaks.cls ∈ eTb := tb1 16 rfl rfl
set_option maxRecDepth 100000 in
set_option maxHeartbeats 4000000 in
theorem wiX12_layBreaks : Cond.instanceMethod yX12_layBreaks ∈ eTb := tb7 67 rfl rfl
set_option maxRecDepth 100000 in
set_option maxHeartbeats 4000000 in
theorem wlX12_layBreaks : Cond.selects yX12_layBreaks.cls yX12_layBreaks yX12_layBreaks ∈ eTb := tb0 75 rfl rfl
theorem hdX12_layBy : yX12_layBy.cls ≠ "java/lang/invoke/MethodHandle" ∧ yX12_layBy.cls ≠ "java/lang/invoke/VarHandle" ∧ (parseMethodDescriptor yX12_layBy.desc).map (fun d => d.parameters.length) = some 1 := by decide +kernel
set_option maxRecDepth 100000 in
set_option maxHeartbeats 4000000 in
theorem wcX12_layBy : Cond.code yX12_layBy cX12_layBy 2 (none) ∈ eTb := tb6 146 rfl rfl
set_option maxRecDepth 100000 in
set_option maxHeartbeats 4000000 in
theorem wnX12_layBy : Cond.initialized yX12_layBy.cls ∈ eTb := tb1 16 rfl rfl
set_option maxRecDepth 100000 in
set_option maxHeartbeats 4000000 in
theorem wiX12_layBy : Cond.instanceMethod yX12_layBy ∈ eTb := tb6 145 rfl rfl
set_option maxRecDepth 100000 in
set_option maxHeartbeats 4000000 in
theorem wlX12_layBy : Cond.selects yX12_layBy.cls yX12_layBy yX12_layBy ∈ eTb := tb0 49 rfl rfl
theorem hdX12_layChoice : yX12_layChoice.cls ≠ "java/lang/invoke/MethodHandle" ∧ yX12_layChoice.cls ≠ "java/lang/invoke/VarHandle" ∧ (parseMethodDescriptor yX12_layChoice.desc).map (fun d => d.parameters.length) = some 2 := by decide +kernel
set_option maxRecDepth 100000 in
set_option maxHeartbeats 4000000 in
theorem wcX12_layChoice : Cond.code yX12_layChoice cX12_layChoice 3 (none) ∈ eTb := tb7 95 rfl rfl
set_option maxRecDepth 100000 in
set_option maxHeartbeats 4000000 in
theorem wnX12_layChoice : Cond.initialized yX12_layChoice.cls ∈ eTb := tb1 16 rfl rfl
set_option maxRecDepth 100000 in
set_option maxHeartbeats 4000000 in
theorem wiX12_layChoice : Cond.instanceMethod yX12_layChoice ∈ eTb := tb7 94 rfl rfl
set_option maxRecDepth 100000 in
set_option maxHeartbeats 4000000 in
theorem wlX12_layChoice : Cond.selects yX12_layChoice.cls yX12_layChoice yX12_layChoice ∈ eTb := tb0 79 rfl rfl
theorem hdX12_layClass : yX12_layClass.cls ≠ "java/lang/invoke/MethodHandle" ∧ yX12_layClass.cls ≠ "java/lang/invoke/VarHandle" ∧ (parseMethodDescriptor yX12_layClass.desc).map (fun d => d.parameters.length) = some 3 := by decide +kernel
set_option maxRecDepth 100000 in
set_option maxHeartbeats 4000000 in
theorem wcX12_layClass : Cond.code yX12_layClass cX12_layClass 9 (none) ∈ eTb := tb6 203 rfl rfl
set_option maxRecDepth 100000 in
set_option maxHeartbeats 4000000 in
theorem wnX12_layClass : Cond.initialized yX12_layClass.cls ∈ eTb := tb1 16 rfl rfl
set_option maxRecDepth 100000 in
set_option maxHeartbeats 4000000 in
theorem wiX12_layClass : Cond.instanceMethod yX12_layClass ∈ eTb := tb6 202 rfl rfl
set_option maxRecDepth 100000 in
set_option maxHeartbeats 4000000 in
theorem wlX12_layClass : Cond.selects yX12_layClass.cls yX12_layClass yX12_layClass ∈ eTb := tb0 62 rfl rfl
theorem hdX12_layEdges : yX12_layEdges.cls ≠ "java/lang/invoke/MethodHandle" ∧ yX12_layEdges.cls ≠ "java/lang/invoke/VarHandle" ∧ (parseMethodDescriptor yX12_layEdges.desc).map (fun d => d.parameters.length) = some 0 := by decide +kernel
set_option maxRecDepth 100000 in
set_option maxHeartbeats 4000000 in
theorem wcX12_layEdges : Cond.code yX12_layEdges cX12_layEdges 2 (none) ∈ eTb := tb6 186 rfl rfl
set_option maxRecDepth 100000 in
set_option maxHeartbeats 4000000 in
theorem wnX12_layEdges : Cond.initialized yX12_layEdges.cls ∈ eTb := tb1 16 rfl rfl
set_option maxRecDepth 100000 in
set_option maxHeartbeats 4000000 in
theorem wiX12_layEdges : Cond.instanceMethod yX12_layEdges ∈ eTb := tb6 185 rfl rfl
set_option maxRecDepth 100000 in
set_option maxHeartbeats 4000000 in
theorem wlX12_layEdges : Cond.selects yX12_layEdges.cls yX12_layEdges yX12_layEdges ∈ eTb := tb0 58 rfl rfl
theorem hdX12_layFrom : yX12_layFrom.cls ≠ "java/lang/invoke/MethodHandle" ∧ yX12_layFrom.cls ≠ "java/lang/invoke/VarHandle" ∧ (parseMethodDescriptor yX12_layFrom.desc).map (fun d => d.parameters.length) = some 2 := by decide +kernel
set_option maxRecDepth 100000 in
set_option maxHeartbeats 4000000 in
theorem wcX12_layFrom : Cond.code yX12_layFrom cX12_layFrom 7 (none) ∈ eTb := tb6 198 rfl rfl
set_option maxRecDepth 100000 in
set_option maxHeartbeats 4000000 in
theorem wnX12_layFrom : Cond.initialized yX12_layFrom.cls ∈ eTb := tb1 16 rfl rfl
set_option maxRecDepth 100000 in
set_option maxHeartbeats 4000000 in
theorem wiX12_layFrom : Cond.instanceMethod yX12_layFrom ∈ eTb := tb6 197 rfl rfl
set_option maxRecDepth 100000 in
set_option maxHeartbeats 4000000 in
theorem wlX12_layFrom : Cond.selects yX12_layFrom.cls yX12_layFrom yX12_layFrom ∈ eTb := tb0 61 rfl rfl
theorem hdX12_layLevel : yX12_layLevel.cls ≠ "java/lang/invoke/MethodHandle" ∧ yX12_layLevel.cls ≠ "java/lang/invoke/VarHandle" ∧ (parseMethodDescriptor yX12_layLevel.desc).map (fun d => d.parameters.length) = some 2 := by decide +kernel
set_option maxRecDepth 100000 in
set_option maxHeartbeats 4000000 in
theorem wcX12_layLevel : Cond.code yX12_layLevel cX12_layLevel 8 (none) ∈ eTb := tb6 215 rfl rfl
set_option maxRecDepth 100000 in
set_option maxHeartbeats 4000000 in
theorem wnX12_layLevel : Cond.initialized yX12_layLevel.cls ∈ eTb := tb1 16 rfl rfl
set_option maxRecDepth 100000 in
set_option maxHeartbeats 4000000 in
theorem wiX12_layLevel : Cond.instanceMethod yX12_layLevel ∈ eTb := tb6 214 rfl rfl
set_option maxRecDepth 100000 in
set_option maxHeartbeats 4000000 in
theorem wlX12_layLevel : Cond.selects yX12_layLevel.cls yX12_layLevel yX12_layLevel ∈ eTb := tb0 65 rfl rfl
theorem hdX12_layPaid : yX12_layPaid.cls ≠ "java/lang/invoke/MethodHandle" ∧ yX12_layPaid.cls ≠ "java/lang/invoke/VarHandle" ∧ (parseMethodDescriptor yX12_layPaid.desc).map (fun d => d.parameters.length) = some 1 := by decide +kernel
set_option maxRecDepth 100000 in
set_option maxHeartbeats 4000000 in
theorem wcX12_layPaid : Cond.code yX12_layPaid cX12_layPaid 7 (none) ∈ eTb := tb7 6 rfl rfl
set_option maxRecDepth 100000 in
set_option maxHeartbeats 4000000 in
theorem wnX12_layPaid : Cond.initialized yX12_layPaid.cls ∈ eTb := tb1 16 rfl rfl
set_option maxRecDepth 100000 in
set_option maxHeartbeats 4000000 in
theorem wiX12_layPaid : Cond.instanceMethod yX12_layPaid ∈ eTb := tb7 5 rfl rfl
set_option maxRecDepth 100000 in
set_option maxHeartbeats 4000000 in
theorem wlX12_layPaid : Cond.selects yX12_layPaid.cls yX12_layPaid yX12_layPaid ∈ eTb := tb0 69 rfl rfl
theorem hdX12_layPart : yX12_layPart.cls ≠ "java/lang/invoke/MethodHandle" ∧ yX12_layPart.cls ≠ "java/lang/invoke/VarHandle" ∧ (parseMethodDescriptor yX12_layPart.desc).map (fun d => d.parameters.length) = some 3 := by decide +kernel
set_option maxRecDepth 100000 in
set_option maxHeartbeats 4000000 in
theorem wcX12_layPart : Cond.code yX12_layPart cX12_layPart 11 (none) ∈ eTb := tb7 87 rfl rfl
set_option maxRecDepth 100000 in
set_option maxHeartbeats 4000000 in
theorem wnX12_layPart : Cond.initialized yX12_layPart.cls ∈ eTb := tb1 16 rfl rfl
set_option maxRecDepth 100000 in
set_option maxHeartbeats 4000000 in
theorem wiX12_layPart : Cond.instanceMethod yX12_layPart ∈ eTb := tb7 86 rfl rfl
set_option maxRecDepth 100000 in
set_option maxHeartbeats 4000000 in
theorem wlX12_layPart : Cond.selects yX12_layPart.cls yX12_layPart yX12_layPart ∈ eTb := tb0 78 rfl rfl
theorem hdX12_layRanks : yX12_layRanks.cls ≠ "java/lang/invoke/MethodHandle" ∧ yX12_layRanks.cls ≠ "java/lang/invoke/VarHandle" ∧ (parseMethodDescriptor yX12_layRanks.desc).map (fun d => d.parameters.length) = some 1 := by decide +kernel
set_option maxRecDepth 100000 in
set_option maxHeartbeats 4000000 in
theorem wcX12_layRanks : Cond.code yX12_layRanks cX12_layRanks 11 (none) ∈ eTb := tb6 178 rfl rfl
set_option maxRecDepth 100000 in
set_option maxHeartbeats 4000000 in
theorem wnX12_layRanks : Cond.initialized yX12_layRanks.cls ∈ eTb := tb1 16 rfl rfl
set_option maxRecDepth 100000 in
set_option maxHeartbeats 4000000 in
theorem wiX12_layRanks : Cond.instanceMethod yX12_layRanks ∈ eTb := tb6 177 rfl rfl
set_option maxRecDepth 100000 in
set_option maxHeartbeats 4000000 in
theorem wlX12_layRanks : Cond.selects yX12_layRanks.cls yX12_layRanks yX12_layRanks ∈ eTb := tb0 56 rfl rfl
theorem hdX12_lowest : yX12_lowest.cls ≠ "java/lang/invoke/MethodHandle" ∧ yX12_lowest.cls ≠ "java/lang/invoke/VarHandle" ∧ (parseMethodDescriptor yX12_lowest.desc).map (fun d => d.parameters.length) = some 2 := by decide +kernel
set_option maxRecDepth 100000 in
set_option maxHeartbeats 4000000 in
theorem wcX12_lowest : Cond.code yX12_lowest cX12_lowest 5 (some .long) ∈ eTb := tb6 222 rfl rfl
set_option maxRecDepth 100000 in
set_option maxHeartbeats 4000000 in
theorem wnX12_lowest : Cond.initialized yX12_lowest.cls ∈ eTb := tb1 16 rfl rfl
set_option maxRecDepth 100000 in
set_option maxHeartbeats 4000000 in
theorem wiX12_lowest : Cond.instanceMethod yX12_lowest ∈ eTb := tb6 221 rfl rfl
set_option maxRecDepth 100000 in
set_option maxHeartbeats 4000000 in
theorem wlX12_lowest : Cond.selects yX12_lowest.cls yX12_lowest yX12_lowest ∈ eTb := tb0 66 rfl rfl
theorem hdX12_manyOf : yX12_manyOf.cls ≠ "java/lang/invoke/MethodHandle" ∧ yX12_manyOf.cls ≠ "java/lang/invoke/VarHandle" ∧ (parseMethodDescriptor yX12_manyOf.desc).map (fun d => d.parameters.length) = some 1 := by decide +kernel
set_option maxRecDepth 100000 in
set_option maxHeartbeats 4000000 in
theorem wcX12_manyOf : Cond.code yX12_manyOf cX12_manyOf 4 (some .int) ∈ eTb := tb6 70 rfl rfl
set_option maxRecDepth 100000 in
set_option maxHeartbeats 4000000 in
theorem wnX12_manyOf : Cond.initialized yX12_manyOf.cls ∈ eTb := tb1 16 rfl rfl
set_option maxRecDepth 100000 in
set_option maxHeartbeats 4000000 in
theorem wiX12_manyOf : Cond.instanceMethod yX12_manyOf ∈ eTb := tb6 69 rfl rfl
set_option maxRecDepth 100000 in
set_option maxHeartbeats 4000000 in
theorem wlX12_manyOf : Cond.selects yX12_manyOf.cls yX12_manyOf yX12_manyOf ∈ eTb := tb0 38 rfl rfl
theorem hdX12_number : yX12_number.cls ≠ "java/lang/invoke/MethodHandle" ∧ yX12_number.cls ≠ "java/lang/invoke/VarHandle" ∧ (parseMethodDescriptor yX12_number.desc).map (fun d => d.parameters.length) = some 2 := by decide +kernel
set_option maxRecDepth 100000 in
set_option maxHeartbeats 4000000 in
theorem wcX12_number : Cond.code yX12_number cX12_number 4 (some .int) ∈ eTb := tb6 98 rfl rfl
set_option maxRecDepth 100000 in
set_option maxHeartbeats 4000000 in
theorem wnX12_number : Cond.initialized yX12_number.cls ∈ eTb := tb1 16 rfl rfl
set_option maxRecDepth 100000 in
set_option maxHeartbeats 4000000 in
theorem wiX12_number : Cond.instanceMethod yX12_number ∈ eTb := tb6 97 rfl rfl
set_option maxRecDepth 100000 in
set_option maxHeartbeats 4000000 in
theorem wlX12_number : Cond.selects yX12_number.cls yX12_number yX12_number ∈ eTb := tb0 43 rfl rfl
theorem hdX12_paidOf : yX12_paidOf.cls ≠ "java/lang/invoke/MethodHandle" ∧ yX12_paidOf.cls ≠ "java/lang/invoke/VarHandle" ∧ (parseMethodDescriptor yX12_paidOf.desc).map (fun d => d.parameters.length) = some 2 := by decide +kernel
set_option maxRecDepth 100000 in
set_option maxHeartbeats 4000000 in
theorem wcX12_paidOf : Cond.code yX12_paidOf cX12_paidOf 3 (some .int) ∈ eTb := tb7 2 rfl rfl
set_option maxRecDepth 100000 in
set_option maxHeartbeats 4000000 in
theorem wnX12_paidOf : Cond.initialized yX12_paidOf.cls ∈ eTb := tb1 16 rfl rfl
set_option maxRecDepth 100000 in
set_option maxHeartbeats 4000000 in
theorem wiX12_paidOf : Cond.instanceMethod yX12_paidOf ∈ eTb := tb7 1 rfl rfl
set_option maxRecDepth 100000 in
set_option maxHeartbeats 4000000 in
theorem wlX12_paidOf : Cond.selects yX12_paidOf.cls yX12_paidOf yX12_paidOf ∈ eTb := tb0 68 rfl rfl
theorem hdX12_prefOf : yX12_prefOf.cls ≠ "java/lang/invoke/MethodHandle" ∧ yX12_prefOf.cls ≠ "java/lang/invoke/VarHandle" ∧ (parseMethodDescriptor yX12_prefOf.desc).map (fun d => d.parameters.length) = some 1 := by decide +kernel
set_option maxRecDepth 100000 in
set_option maxHeartbeats 4000000 in
theorem wcX12_prefOf : Cond.code yX12_prefOf cX12_prefOf 2 (some .int) ∈ eTb := tb6 130 rfl rfl
set_option maxRecDepth 100000 in
set_option maxHeartbeats 4000000 in
theorem wnX12_prefOf : Cond.initialized yX12_prefOf.cls ∈ eTb := tb1 16 rfl rfl
set_option maxRecDepth 100000 in
set_option maxHeartbeats 4000000 in
theorem wiX12_prefOf : Cond.instanceMethod yX12_prefOf ∈ eTb := tb6 129 rfl rfl
set_option maxRecDepth 100000 in
set_option maxHeartbeats 4000000 in
theorem wlX12_prefOf : Cond.selects yX12_prefOf.cls yX12_prefOf yX12_prefOf ∈ eTb := tb0 48 rfl rfl
theorem hdX12_prefersOf : yX12_prefersOf.cls ≠ "java/lang/invoke/MethodHandle" ∧ yX12_prefersOf.cls ≠ "java/lang/invoke/VarHandle" ∧ (parseMethodDescriptor yX12_prefersOf.desc).map (fun d => d.parameters.length) = some 2 := by decide +kernel
set_option maxRecDepth 100000 in
set_option maxHeartbeats 4000000 in
theorem wcX12_prefersOf : Cond.code yX12_prefersOf cX12_prefersOf 5 (some .int) ∈ eTb := tb7 48 rfl rfl
set_option maxRecDepth 100000 in
set_option maxHeartbeats 4000000 in
theorem wnX12_prefersOf : Cond.initialized yX12_prefersOf.cls ∈ eTb := tb1 16 rfl rfl
set_option maxRecDepth 100000 in
set_option maxHeartbeats 4000000 in
theorem wiX12_prefersOf : Cond.instanceMethod yX12_prefersOf ∈ eTb := tb7 47 rfl rfl
set_option maxRecDepth 100000 in
set_option maxHeartbeats 4000000 in
theorem wlX12_prefersOf : Cond.selects yX12_prefersOf.cls yX12_prefersOf yX12_prefersOf ∈ eTb := tb0 73 rfl rfl
theorem hdX12_puts : yX12_puts.cls ≠ "java/lang/invoke/MethodHandle" ∧ yX12_puts.cls ≠ "java/lang/invoke/VarHandle" ∧ (parseMethodDescriptor yX12_puts.desc).map (fun d => d.parameters.length) = some 2 := by decide +kernel
set_option maxRecDepth 100000 in
set_option maxHeartbeats 4000000 in
theorem wcX12_puts : Cond.code yX12_puts cX12_puts 9 (none) ∈ eTb := tb7 72 rfl rfl
set_option maxRecDepth 100000 in
set_option maxHeartbeats 4000000 in
theorem wnX12_puts : Cond.initialized yX12_puts.cls ∈ eTb := tb1 16 rfl rfl
set_option maxRecDepth 100000 in
set_option maxHeartbeats 4000000 in
theorem wiX12_puts : Cond.instanceMethod yX12_puts ∈ eTb := tb7 71 rfl rfl
set_option maxRecDepth 100000 in
set_option maxHeartbeats 4000000 in
theorem wlX12_puts : Cond.selects yX12_puts.cls yX12_puts yX12_puts ∈ eTb := tb0 76 rfl rfl
theorem hdX12_readHolder : yX12_readHolder.cls ≠ "java/lang/invoke/MethodHandle" ∧ yX12_readHolder.cls ≠ "java/lang/invoke/VarHandle" ∧ (parseMethodDescriptor yX12_readHolder.desc).map (fun d => d.parameters.length) = some 2 := by decide +kernel
set_option maxRecDepth 100000 in
set_option maxHeartbeats 4000000 in
theorem wcX12_readHolder : Cond.code yX12_readHolder cX12_readHolder 4 (none) ∈ eTb := tb6 66 rfl rfl
set_option maxRecDepth 100000 in
set_option maxHeartbeats 4000000 in
theorem wnX12_readHolder : Cond.initialized yX12_readHolder.cls ∈ eTb := tb1 16 rfl rfl
set_option maxRecDepth 100000 in
set_option maxHeartbeats 4000000 in
theorem wiX12_readHolder : Cond.instanceMethod yX12_readHolder ∈ eTb := tb6 65 rfl rfl
set_option maxRecDepth 100000 in
set_option maxHeartbeats 4000000 in
theorem wlX12_readHolder : Cond.selects yX12_readHolder.cls yX12_readHolder yX12_readHolder ∈ eTb := tb0 37 rfl rfl
theorem hdX12_readLine : yX12_readLine.cls ≠ "java/lang/invoke/MethodHandle" ∧ yX12_readLine.cls ≠ "java/lang/invoke/VarHandle" ∧ (parseMethodDescriptor yX12_readLine.desc).map (fun d => d.parameters.length) = some 0 := by decide +kernel
set_option maxRecDepth 100000 in
set_option maxHeartbeats 4000000 in
theorem wcX12_readLine : Cond.code yX12_readLine cX12_readLine 1 (none) ∈ eTb := tb6 57 rfl rfl
set_option maxRecDepth 100000 in
set_option maxHeartbeats 4000000 in
theorem wnX12_readLine : Cond.initialized yX12_readLine.cls ∈ eTb := tb1 16 rfl rfl
set_option maxRecDepth 100000 in
set_option maxHeartbeats 4000000 in
theorem wiX12_readLine : Cond.instanceMethod yX12_readLine ∈ eTb := tb6 56 rfl rfl
set_option maxRecDepth 100000 in
set_option maxHeartbeats 4000000 in
theorem wlX12_readLine : Cond.selects yX12_readLine.cls yX12_readLine yX12_readLine ∈ eTb := tb0 35 rfl rfl
theorem hdX12_readName : yX12_readName.cls ≠ "java/lang/invoke/MethodHandle" ∧ yX12_readName.cls ≠ "java/lang/invoke/VarHandle" ∧ (parseMethodDescriptor yX12_readName.desc).map (fun d => d.parameters.length) = some 0 := by decide +kernel
set_option maxRecDepth 100000 in
set_option maxHeartbeats 4000000 in
theorem wcX12_readName : Cond.code yX12_readName cX12_readName 1 (none) ∈ eTb := tb6 78 rfl rfl
set_option maxRecDepth 100000 in
set_option maxHeartbeats 4000000 in
theorem wnX12_readName : Cond.initialized yX12_readName.cls ∈ eTb := tb1 16 rfl rfl
set_option maxRecDepth 100000 in
set_option maxHeartbeats 4000000 in
theorem wiX12_readName : Cond.instanceMethod yX12_readName ∈ eTb := tb6 77 rfl rfl
set_option maxRecDepth 100000 in
set_option maxHeartbeats 4000000 in
theorem wlX12_readName : Cond.selects yX12_readName.cls yX12_readName yX12_readName ∈ eTb := tb0 40 rfl rfl
theorem hdX12_readTerms : yX12_readTerms.cls ≠ "java/lang/invoke/MethodHandle" ∧ yX12_readTerms.cls ≠ "java/lang/invoke/VarHandle" ∧ (parseMethodDescriptor yX12_readTerms.desc).map (fun d => d.parameters.length) = some 1 := by decide +kernel
set_option maxRecDepth 100000 in
set_option maxHeartbeats 4000000 in
theorem wcX12_readTerms : Cond.code yX12_readTerms cX12_readTerms 3 (none) ∈ eTb := tb6 106 rfl rfl
set_option maxRecDepth 100000 in
set_option maxHeartbeats 4000000 in
theorem wnX12_readTerms : Cond.initialized yX12_readTerms.cls ∈ eTb := tb1 16 rfl rfl
set_option maxRecDepth 100000 in
set_option maxHeartbeats 4000000 in
theorem wiX12_readTerms : Cond.instanceMethod yX12_readTerms ∈ eTb := tb6 105 rfl rfl
set_option maxRecDepth 100000 in
set_option maxHeartbeats 4000000 in
theorem wlX12_readTerms : Cond.selects yX12_readTerms.cls yX12_readTerms yX12_readTerms ∈ eTb := tb0 45 rfl rfl
theorem hdX12_stateOf : yX12_stateOf.cls ≠ "java/lang/invoke/MethodHandle" ∧ yX12_stateOf.cls ≠ "java/lang/invoke/VarHandle" ∧ (parseMethodDescriptor yX12_stateOf.desc).map (fun d => d.parameters.length) = some 1 := by decide +kernel
set_option maxRecDepth 100000 in
set_option maxHeartbeats 4000000 in
theorem wcX12_stateOf : Cond.code yX12_stateOf cX12_stateOf 7 (some .int) ∈ eTb := tb6 234 rfl rfl
set_option maxRecDepth 100000 in
set_option maxHeartbeats 4000000 in
theorem wnX12_stateOf : Cond.initialized yX12_stateOf.cls ∈ eTb := tb1 16 rfl rfl
set_option maxRecDepth 100000 in
set_option maxHeartbeats 4000000 in
theorem wiX12_stateOf : Cond.instanceMethod yX12_stateOf ∈ eTb := tb6 233 rfl rfl
set_option maxRecDepth 100000 in
set_option maxHeartbeats 4000000 in
theorem wlX12_stateOf : Cond.selects yX12_stateOf.cls yX12_stateOf yX12_stateOf ∈ eTb := tb0 67 rfl rfl
theorem hdX12_topOf : yX12_topOf.cls ≠ "java/lang/invoke/MethodHandle" ∧ yX12_topOf.cls ≠ "java/lang/invoke/VarHandle" ∧ (parseMethodDescriptor yX12_topOf.desc).map (fun d => d.parameters.length) = some 1 := by decide +kernel
set_option maxRecDepth 100000 in
set_option maxHeartbeats 4000000 in
theorem wcX12_topOf : Cond.code yX12_topOf cX12_topOf 3 (some .int) ∈ eTb := tb6 194 rfl rfl
