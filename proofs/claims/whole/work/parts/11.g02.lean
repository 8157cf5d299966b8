set_option maxRecDepth 100000 in
set_option maxHeartbeats 4000000 in
theorem wiX4_isWaived : Cond.instanceMethod yX4_isWaived ∈ eTb := tb3 97 rfl rfl
set_option maxRecDepth 100000 in
set_option maxHeartbeats 4000000 in
theorem wlX4_isWaived : Cond.selects yX4_isWaived.cls yX4_isWaived yX4_isWaived ∈ eTb := tb3 98 rfl rfl
theorem hdX4_lidOf : yX4_lidOf.cls ≠ "java/lang/invoke/MethodHandle" ∧ yX4_lidOf.cls ≠ "java/lang/invoke/VarHandle" ∧ (parseMethodDescriptor yX4_lidOf.desc).map (fun d => d.parameters.length) = some 2 := by decide +kernel
set_option maxRecDepth 100000 in
set_option maxHeartbeats 4000000 in
theorem wcX4_lidOf : Cond.code yX4_lidOf cX4_lidOf 3 (some .int) ∈ eTb := tb3 150 rfl rfl
set_option maxRecDepth 100000 in
set_option maxHeartbeats 4000000 in
theorem wnX4_lidOf : Cond.initialized yX4_lidOf.cls ∈ eTb := tb1 4 rfl rfl
set_option maxRecDepth 100000 in
set_option maxHeartbeats 4000000 in
theorem wiX4_lidOf : Cond.instanceMethod yX4_lidOf ∈ eTb := tb3 148 rfl rfl
set_option maxRecDepth 100000 in
set_option maxHeartbeats 4000000 in
theorem wlX4_lidOf : Cond.selects yX4_lidOf.cls yX4_lidOf yX4_lidOf ∈ eTb := tb3 149 rfl rfl
theorem hdX4_prefOf : yX4_prefOf.cls ≠ "java/lang/invoke/MethodHandle" ∧ yX4_prefOf.cls ≠ "java/lang/invoke/VarHandle" ∧ (parseMethodDescriptor yX4_prefOf.desc).map (fun d => d.parameters.length) = some 1 := by decide +kernel
set_option maxRecDepth 100000 in
set_option maxHeartbeats 4000000 in
theorem wcX4_prefOf : Cond.code yX4_prefOf cX4_prefOf 2 (some .int) ∈ eTb := tb3 91 rfl rfl
set_option maxRecDepth 100000 in
set_option maxHeartbeats 4000000 in
theorem wnX4_prefOf : Cond.initialized yX4_prefOf.cls ∈ eTb := tb1 4 rfl rfl
set_option maxRecDepth 100000 in
set_option maxHeartbeats 4000000 in
theorem wiX4_prefOf : Cond.instanceMethod yX4_prefOf ∈ eTb := tb3 89 rfl rfl
set_option maxRecDepth 100000 in
set_option maxHeartbeats 4000000 in
theorem wlX4_prefOf : Cond.selects yX4_prefOf.cls yX4_prefOf yX4_prefOf ∈ eTb := tb3 90 rfl rfl
theorem hdX4_put : yX4_put.cls ≠ "java/lang/invoke/MethodHandle" ∧ yX4_put.cls ≠ "java/lang/invoke/VarHandle" ∧ (parseMethodDescriptor yX4_put.desc).map (fun d => d.parameters.length) = some 3 := by decide +kernel
set_option maxRecDepth 100000 in
set_option maxHeartbeats 4000000 in
theorem wcX4_put : Cond.code yX4_put cX4_put 4 (none) ∈ eTb := tb3 29 rfl rfl
set_option maxRecDepth 100000 in
set_option maxHeartbeats 4000000 in
theorem wnX4_put : Cond.initialized yX4_put.cls ∈ eTb := tb1 4 rfl rfl
set_option maxRecDepth 100000 in
set_option maxHeartbeats 4000000 in
theorem wiX4_put : Cond.instanceMethod yX4_put ∈ eTb := tb3 27 rfl rfl
set_option maxRecDepth 100000 in
set_option maxHeartbeats 4000000 in
theorem wlX4_put : Cond.selects yX4_put.cls yX4_put yX4_put ∈ eTb := tb3 28 rfl rfl
theorem hdX4_takesShares : yX4_takesShares.cls ≠ "java/lang/invoke/MethodHandle" ∧ yX4_takesShares.cls ≠ "java/lang/invoke/VarHandle" ∧ (parseMethodDescriptor yX4_takesShares.desc).map (fun d => d.parameters.length) = some 2 := by decide +kernel
set_option maxRecDepth 100000 in
set_option maxHeartbeats 4000000 in
theorem wcX4_takesShares : Cond.code yX4_takesShares cX4_takesShares 3 (some .boolean) ∈ eTb := tb4 51 rfl rfl
set_option maxRecDepth 100000 in
set_option maxHeartbeats 4000000 in
theorem wnX4_takesShares : Cond.initialized yX4_takesShares.cls ∈ eTb := tb1 4 rfl rfl
set_option maxRecDepth 100000 in
set_option maxHeartbeats 4000000 in
theorem wiX4_takesShares : Cond.instanceMethod yX4_takesShares ∈ eTb := tb4 49 rfl rfl
set_option maxRecDepth 100000 in
set_option maxHeartbeats 4000000 in
theorem wlX4_takesShares : Cond.selects yX4_takesShares.cls yX4_takesShares yX4_takesShares ∈ eTb := tb4 50 rfl rfl
theorem hdX4_votesOf : yX4_votesOf.cls ≠ "java/lang/invoke/MethodHandle" ∧ yX4_votesOf.cls ≠ "java/lang/invoke/VarHandle" ∧ (parseMethodDescriptor yX4_votesOf.desc).map (fun d => d.parameters.length) = some 1 := by decide +kernel
set_option maxRecDepth 100000 in
set_option maxHeartbeats 4000000 in
theorem wcX4_votesOf : Cond.code yX4_votesOf cX4_votesOf 2 (some .int) ∈ eTb := tb4 82 rfl rfl
set_option maxRecDepth 100000 in
set_option maxHeartbeats 4000000 in
theorem wnX4_votesOf : Cond.initialized yX4_votesOf.cls ∈ eTb := tb1 4 rfl rfl
set_option maxRecDepth 100000 in
set_option maxHeartbeats 4000000 in
theorem wiX4_votesOf : Cond.instanceMethod yX4_votesOf ∈ eTb := tb4 80 rfl rfl
set_option maxRecDepth 100000 in
set_option maxHeartbeats 4000000 in
theorem wlX4_votesOf : Cond.selects yX4_votesOf.cls yX4_votesOf yX4_votesOf ∈ eTb := tb4 81 rfl rfl
theorem hdX5_countSteady : yX5_countSteady.cls ≠ "java/lang/invoke/MethodHandle" ∧ yX5_countSteady.cls ≠ "java/lang/invoke/VarHandle" ∧ (parseMethodDescriptor yX5_countSteady.desc).map (fun d => d.parameters.length) = some 0 := by decide +kernel
set_option maxRecDepth 100000 in
set_option maxHeartbeats 4000000 in
theorem wcX5_countSteady : Cond.code yX5_countSteady cX5_countSteady 3 (some .int) ∈ eTb := tb4 181 rfl rfl
set_option maxRecDepth 100000 in
set_option maxHeartbeats 4000000 in
theorem wnX5_countSteady : Cond.initialized yX5_countSteady.cls ∈ eTb := tb1 12 rfl rfl
set_option maxRecDepth 100000 in
set_option maxHeartbeats 4000000 in
theorem wiX5_countSteady : Cond.instanceMethod yX5_countSteady ∈ eTb := tb4 179 rfl rfl
set_option maxRecDepth 100000 in
set_option maxHeartbeats 4000000 in
theorem wlX5_countSteady : Cond.selects yX5_countSteady.cls yX5_countSteady yX5_countSteady ∈ eTb := tb4 180 rfl rfl
theorem hdX5_gains : yX5_gains.cls ≠ "java/lang/invoke/MethodHandle" ∧ yX5_gains.cls ≠ "java/lang/invoke/VarHandle" ∧ (parseMethodDescriptor yX5_gains.desc).map (fun d => d.parameters.length) = some 3 := by decide +kernel
set_option maxRecDepth 100000 in
set_option maxHeartbeats 4000000 in
theorem wcX5_gains : Cond.code yX5_gains cX5_gains 9 (some .boolean) ∈ eTb := tb4 168 rfl rfl
set_option maxRecDepth 100000 in
set_option maxHeartbeats 4000000 in
theorem wnX5_gains : Cond.initialized yX5_gains.cls ∈ eTb := tb1 12 rfl rfl
set_option maxRecDepth 100000 in
set_option maxHeartbeats 4000000 in
theorem wiX5_gains : Cond.instanceMethod yX5_gains ∈ eTb := tb4 167 rfl rfl
set_option maxRecDepth 100000 in
set_option maxHeartbeats 4000000 in
theorem wlX5_gains : Cond.selects yX5_gains.cls yX5_gains yX5_gains ∈ eTb := tb0 28 rfl rfl
theorem hdX5_gather : yX5_gather.cls ≠ "java/lang/invoke/MethodHandle" ∧ yX5_gather.cls ≠ "java/lang/invoke/VarHandle" ∧ (parseMethodDescriptor yX5_gather.desc).map (fun d => d.parameters.length) = some 1 := by decide +kernel
set_option maxRecDepth 100000 in
set_option maxHeartbeats 4000000 in
theorem wcX5_gather : Cond.code yX5_gather cX5_gather 3 (none) ∈ eTb := tb4 140 rfl rfl
set_option maxRecDepth 100000 in
set_option maxHeartbeats 4000000 in
theorem wnX5_gather : Cond.initialized yX5_gather.cls ∈ eTb := tb1 12 rfl rfl
set_option maxRecDepth 100000 in
set_option maxHeartbeats 4000000 in
theorem wiX5_gather : Cond.instanceMethod yX5_gather ∈ eTb := tb4 138 rfl rfl
set_option maxRecDepth 100000 in
set_option maxHeartbeats 4000000 in
theorem wlX5_gather : Cond.selects yX5_gather.cls yX5_gather yX5_gather ∈ eTb := tb4 139 rfl rfl
theorem hdX5_isSteady : yX5_isSteady.cls ≠ "java/lang/invoke/MethodHandle" ∧ yX5_isSteady.cls ≠ "java/lang/invoke/VarHandle" ∧ (parseMethodDescriptor yX5_isSteady.desc).map (fun d => d.parameters.length) = some 1 := by decide +kernel
set_option maxRecDepth 100000 in
set_option maxHeartbeats 4000000 in
theorem wcX5_isSteady : Cond.code yX5_isSteady cX5_isSteady 3 (some .boolean) ∈ eTb := tb4 164 rfl rfl
set_option maxRecDepth 100000 in
set_option maxHeartbeats 4000000 in
theorem wnX5_isSteady : Cond.initialized yX5_isSteady.cls ∈ eTb := tb1 12 rfl rfl
set_option maxRecDepth 100000 in
set_option maxHeartbeats 4000000 in
theorem wiX5_isSteady : Cond.instanceMethod yX5_isSteady ∈ eTb := tb4 162 rfl rfl
set_option maxRecDepth 100000 in
set_option maxHeartbeats 4000000 in
theorem wlX5_isSteady : Cond.selects yX5_isSteady.cls yX5_isSteady yX5_isSteady ∈ eTb := tb4 163 rfl rfl
theorem hdX5_play : yX5_play.cls ≠ "java/lang/invoke/MethodHandle" ∧ yX5_play.cls ≠ "java/lang/invoke/VarHandle" ∧ (parseMethodDescriptor yX5_play.desc).map (fun d => d.parameters.length) = some 4 := by decide +kernel
set_option maxRecDepth 100000 in
set_option maxHeartbeats 4000000 in
theorem wcX5_play : Cond.code yX5_play cX5_play 7 (none) ∈ eTb := tb4 153 rfl rfl
set_option maxRecDepth 100000 in
set_option maxHeartbeats 4000000 in
theorem wnX5_play : Cond.initialized yX5_play.cls ∈ eTb := tb1 12 rfl rfl
set_option maxRecDepth 100000 in
set_option maxHeartbeats 4000000 in
theorem wiX5_play : Cond.instanceMethod yX5_play ∈ eTb := tb4 152 rfl rfl
set_option maxRecDepth 100000 in
set_option maxHeartbeats 4000000 in
theorem wlX5_play : Cond.selects yX5_play.cls yX5_play yX5_play ∈ eTb := tb0 26 rfl rfl
theorem hdX5_playAll : yX5_playAll.cls ≠ "java/lang/invoke/MethodHandle" ∧ yX5_playAll.cls ≠ "java/lang/invoke/VarHandle" ∧ (parseMethodDescriptor yX5_playAll.desc).map (fun d => d.parameters.length) = some 3 := by decide +kernel
set_option maxRecDepth 100000 in
set_option maxHeartbeats 4000000 in
theorem wcX5_playAll : Cond.code yX5_playAll cX5_playAll 6 (none) ∈ eTb := tb4 177 rfl rfl
set_option maxRecDepth 100000 in
set_option maxHeartbeats 4000000 in
theorem wnX5_playAll : Cond.initialized yX5_playAll.cls ∈ eTb := tb1 12 rfl rfl
set_option maxRecDepth 100000 in
set_option maxHeartbeats 4000000 in
theorem wiX5_playAll : Cond.instanceMethod yX5_playAll ∈ eTb := tb4 175 rfl rfl
set_option maxRecDepth 100000 in
set_option maxHeartbeats 4000000 in
theorem wlX5_playAll : Cond.selects yX5_playAll.cls yX5_playAll yX5_playAll ∈ eTb := tb4 176 rfl rfl
theorem hdX5_playRound : yX5_playRound.cls ≠ "java/lang/invoke/MethodHandle" ∧ yX5_playRound.cls ≠ "java/lang/invoke/VarHandle" ∧ (parseMethodDescriptor yX5_playRound.desc).map (fun d => d.parameters.length) = some 4 := by decide +kernel
set_option maxRecDepth 100000 in
set_option maxHeartbeats 4000000 in
theorem wcX5_playRound : Cond.code yX5_playRound cX5_playRound 7 (none) ∈ eTb := tb4 149 rfl rfl
set_option maxRecDepth 100000 in
set_option maxHeartbeats 4000000 in
theorem wnX5_playRound : Cond.initialized yX5_playRound.cls ∈ eTb := tb1 12 rfl rfl
set_option maxRecDepth 100000 in
set_option maxHeartbeats 4000000 in
theorem wiX5_playRound : Cond.instanceMethod yX5_playRound ∈ eTb := tb4 147 rfl rfl
set_option maxRecDepth 100000 in
set_option maxHeartbeats 4000000 in
theorem wlX5_playRound : Cond.selects yX5_playRound.cls yX5_playRound yX5_playRound ∈ eTb := tb4 148 rfl rfl
theorem hdX5_rowOf : yX5_rowOf.cls ≠ "java/lang/invoke/MethodHandle" ∧ yX5_rowOf.cls ≠ "java/lang/invoke/VarHandle" ∧ (parseMethodDescriptor yX5_rowOf.desc).map (fun d => d.parameters.length) = some 1 := by decide +kernel
set_option maxRecDepth 100000 in
set_option maxHeartbeats 4000000 in
theorem wcX5_rowOf : Cond.code yX5_rowOf cX5_rowOf 4 (some .int) ∈ eTb := tb4 145 rfl rfl
set_option maxRecDepth 100000 in
set_option maxHeartbeats 4000000 in
theorem wnX5_rowOf : Cond.initialized yX5_rowOf.cls ∈ eTb := tb1 12 rfl rfl
set_option maxRecDepth 100000 in
set_option maxHeartbeats 4000000 in
theorem wiX5_rowOf : Cond.instanceMethod yX5_rowOf ∈ eTb := tb4 143 rfl rfl
set_option maxRecDepth 100000 in
set_option maxHeartbeats 4000000 in
theorem wlX5_rowOf : Cond.selects yX5_rowOf.cls yX5_rowOf yX5_rowOf ∈ eTb := tb4 144 rfl rfl
theorem hdX5_setOf : yX5_setOf.cls ≠ "java/lang/invoke/MethodHandle" ∧ yX5_setOf.cls ≠ "java/lang/invoke/VarHandle" ∧ (parseMethodDescriptor yX5_setOf.desc).map (fun d => d.parameters.length) = some 1 := by decide +kernel
set_option maxRecDepth 100000 in
set_option maxHeartbeats 4000000 in
theorem wcX5_setOf : Cond.code yX5_setOf cX5_setOf 4 (some .int) ∈ eTb := tb4 157 rfl rfl
set_option maxRecDepth 100000 in
set_option maxHeartbeats 4000000 in
theorem wnX5_setOf : Cond.initialized yX5_setOf.cls ∈ eTb := tb1 12 rfl rfl
set_option maxRecDepth 100000 in
set_option maxHeartbeats 4000000 in
theorem wiX5_setOf : Cond.instanceMethod yX5_setOf ∈ eTb := tb4 156 rfl rfl
set_option maxRecDepth 100000 in
set_option maxHeartbeats 4000000 in
theorem wlX5_setOf : Cond.selects yX5_setOf.cls yX5_setOf yX5_setOf ∈ eTb := tb0 27 rfl rfl
theorem hdX5_steadySet : yX5_steadySet.cls ≠ "java/lang/invoke/MethodHandle" ∧ yX5_steadySet.cls ≠ "java/lang/invoke/VarHandle" ∧ (parseMethodDescriptor yX5_steadySet.desc).map (fun d => d.parameters.length) = some 1 := by decide +kernel
set_option maxRecDepth 100000 in
set_option maxHeartbeats 4000000 in
theorem wcX5_steadySet : Cond.code yX5_steadySet cX5_steadySet 4 (some .int) ∈ eTb := tb4 186 rfl rfl
set_option maxRecDepth 100000 in
set_option maxHeartbeats 4000000 in
theorem wnX5_steadySet : Cond.initialized yX5_steadySet.cls ∈ eTb := tb1 12 rfl rfl
set_option maxRecDepth 100000 in
set_option maxHeartbeats 4000000 in
theorem wiX5_steadySet : Cond.instanceMethod yX5_steadySet ∈ eTb := tb4 184 rfl rfl
set_option maxRecDepth 100000 in
set_option maxHeartbeats 4000000 in
theorem wlX5_steadySet : Cond.selects yX5_steadySet.cls yX5_steadySet yX5_steadySet ∈ eTb := tb4 185 rfl rfl
theorem hdX6_add : yX6_add.cls ≠ "java/lang/invoke/MethodHandle" ∧ yX6_add.cls ≠ "java/lang/invoke/VarHandle" ∧ (parseMethodDescriptor yX6_add.desc).map (fun d => d.parameters.length) = some 2 := by decide +kernel
set_option maxRecDepth 100000 in
set_option maxHeartbeats 4000000 in
theorem wcX6_add : Cond.code yX6_add cX6_add 3 (none) ∈ eTb := tb4 235 rfl rfl
set_option maxRecDepth 100000 in
set_option maxHeartbeats 4000000 in
theorem wnX6_add : Cond.initialized yX6_add.cls ∈ eTb := tb1 14 rfl rfl
set_option maxRecDepth 100000 in
set_option maxHeartbeats 4000000 in
theorem wiX6_add : Cond.instanceMethod yX6_add ∈ eTb := tb4 233 rfl rfl
set_option maxRecDepth 100000 in
set_option maxHeartbeats 4000000 in
theorem wlX6_add : Cond.selects yX6_add.cls yX6_add yX6_add ∈ eTb := tb4 234 rfl rfl
theorem hdX6_dropLatest : yX6_dropLatest.cls ≠ "java/lang/invoke/MethodHandle" ∧ yX6_dropLatest.cls ≠ "java/lang/invoke/VarHandle" ∧ (parseMethodDescriptor yX6_dropLatest.desc).map (fun d => d.parameters.length) = some 0 := by decide +kernel
set_option maxRecDepth 100000 in
set_option maxHeartbeats 4000000 in
theorem wcX6_dropLatest : Cond.code yX6_dropLatest cX6_dropLatest 1 (none) ∈ eTb := tb5 62 rfl rfl
set_option maxRecDepth 100000 in
set_option maxHeartbeats 4000000 in
theorem wnX6_dropLatest : Cond.initialized yX6_dropLatest.cls ∈ eTb := tb1 14 rfl rfl
set_option maxRecDepth 100000 in
set_option maxHeartbeats 4000000 in
theorem wiX6_dropLatest : Cond.instanceMethod yX6_dropLatest ∈ eTb := tb5 60 rfl rfl
set_option maxRecDepth 100000 in
set_option maxHeartbeats 4000000 in
theorem wlX6_dropLatest : Cond.selects yX6_dropLatest.cls yX6_dropLatest yX6_dropLatest ∈ eTb := tb5 61 rfl rfl
theorem hdX7_asDouble : yX7_asDouble.cls ≠ "java/lang/invoke/MethodHandle" ∧ yX7_asDouble.cls ≠ "java/lang/invoke/VarHandle" ∧ (parseMethodDescriptor yX7_asDouble.desc).map (fun d => d.parameters.length) = some 2 := by decide +kernel
set_option maxRecDepth 100000 in
set_option maxHeartbeats 4000000 in
theorem wcX7_asDouble : Cond.code yX7_asDouble cX7_asDouble 6 (some .double) ∈ eTb := tb5 2 rfl rfl
set_option maxRecDepth 100000 in
set_option maxHeartbeats 4000000 in
theorem wnX7_asDouble : Cond.initialized yX7_asDouble.cls ∈ eTb := tb1 19 rfl rfl
set_option maxRecDepth 100000 in
set_option maxHeartbeats 4000000 in
theorem wsX7_asDouble : Cond.static yX7_asDouble ∈ eTb := tb5 1 rfl rfl
theorem hdX7_asFloat : yX7_asFloat.cls ≠ "java/lang/invoke/MethodHandle" ∧ yX7_asFloat.cls ≠ "java/lang/invoke/VarHandle" ∧ (parseMethodDescriptor yX7_asFloat.desc).map (fun d => d.parameters.length) = some 2 := by decide +kernel
set_option maxRecDepth 100000 in
set_option maxHeartbeats 4000000 in
theorem wcX7_asFloat : Cond.code yX7_asFloat cX7_asFloat 6 (some .float) ∈ eTb := tb5 16 rfl rfl
set_option maxRecDepth 100000 in
set_option maxHeartbeats 4000000 in
theorem wnX7_asFloat : Cond.initialized yX7_asFloat.cls ∈ eTb := tb1 19 rfl rfl
set_option maxRecDepth 100000 in
set_option maxHeartbeats 4000000 in
theorem wsX7_asFloat : Cond.static yX7_asFloat ∈ eTb := tb5 15 rfl rfl
theorem hdX7_bitsOfDouble : yX7_bitsOfDouble.cls ≠ "java/lang/invoke/MethodHandle" ∧ yX7_bitsOfDouble.cls ≠ "java/lang/invoke/VarHandle" ∧ (parseMethodDescriptor yX7_bitsOfDouble.desc).map (fun d => d.parameters.length) = some 1 := by decide +kernel
set_option maxRecDepth 100000 in
set_option maxHeartbeats 4000000 in
theorem wcX7_bitsOfDouble : Cond.code yX7_bitsOfDouble cX7_bitsOfDouble 7 (some .long) ∈ eTb := tb5 6 rfl rfl
set_option maxRecDepth 100000 in
set_option maxHeartbeats 4000000 in
theorem wnX7_bitsOfDouble : Cond.initialized yX7_bitsOfDouble.cls ∈ eTb := tb1 19 rfl rfl
set_option maxRecDepth 100000 in
set_option maxHeartbeats 4000000 in
theorem wsX7_bitsOfDouble : Cond.static yX7_bitsOfDouble ∈ eTb := tb5 5 rfl rfl
theorem hdX7_bitsOfFloat : yX7_bitsOfFloat.cls ≠ "java/lang/invoke/MethodHandle" ∧ yX7_bitsOfFloat.cls ≠ "java/lang/invoke/VarHandle" ∧ (parseMethodDescriptor yX7_bitsOfFloat.desc).map (fun d => d.parameters.length) = some 1 := by decide +kernel
set_option maxRecDepth 100000 in
set_option maxHeartbeats 4000000 in
theorem wcX7_bitsOfFloat : Cond.code yX7_bitsOfFloat cX7_bitsOfFloat 4 (some .int) ∈ eTb := tb5 23 rfl rfl
set_option maxRecDepth 100000 in
set_option maxHeartbeats 4000000 in
theorem wnX7_bitsOfFloat : Cond.initialized yX7_bitsOfFloat.cls ∈ eTb := tb1 19 rfl rfl
set_option maxRecDepth 100000 in
set_option maxHeartbeats 4000000 in
theorem wsX7_bitsOfFloat : Cond.static yX7_bitsOfFloat ∈ eTb := tb5 22 rfl rfl
theorem hdX7_commonDivisor : yX7_commonDivisor.cls ≠ "java/lang/invoke/MethodHandle" ∧ yX7_commonDivisor.cls ≠ "java/lang/invoke/VarHandle" ∧ (parseMethodDescriptor yX7_commonDivisor.desc).map (fun d => d.parameters.length) = some 2 := by decide +kernel
set_option maxRecDepth 100000 in
set_option maxHeartbeats 4000000 in
theorem wcX7_commonDivisor : Cond.code yX7_commonDivisor cX7_commonDivisor 11 (some .long) ∈ eTb := tb3 217 rfl rfl
set_option maxRecDepth 100000 in
set_option maxHeartbeats 4000000 in
theorem wnX7_commonDivisor : Cond.initialized yX7_commonDivisor.cls ∈ eTb := tb1 19 rfl rfl
set_option maxRecDepth 100000 in
set_option maxHeartbeats 4000000 in
theorem wsX7_commonDivisor : Cond.static yX7_commonDivisor ∈ eTb := tb3 216 rfl rfl
theorem hdX7_compareFractions : yX7_compareFractions.cls ≠ "java/lang/invoke/MethodHandle" ∧ yX7_compareFractions.cls ≠ "java/lang/invoke/VarHandle" ∧ (parseMethodDescriptor yX7_compareFractions.desc).map (fun d => d.parameters.length) = some 4 := by decide +kernel
set_option maxRecDepth 100000 in
set_option maxHeartbeats 4000000 in
theorem wcX7_compareFractions : Cond.code yX7_compareFractions cX7_compareFractions 22 (some .int) ∈ eTb := tb4 25 rfl rfl
set_option maxRecDepth 100000 in
set_option maxHeartbeats 4000000 in
theorem wnX7_compareFractions : Cond.initialized yX7_compareFractions.cls ∈ eTb := tb1 19 rfl rfl
set_option maxRecDepth 100000 in
set_option maxHeartbeats 4000000 in
theorem wsX7_compareFractions : Cond.static yX7_compareFractions ∈ eTb := tb4 24 rfl rfl
theorem hdX7_grown : yX7_grown.cls ≠ "java/lang/invoke/MethodHandle" ∧ yX7_grown.cls ≠ "java/lang/invoke/VarHandle" ∧ (parseMethodDescriptor yX7_grown.desc).map (fun d => d.parameters.length) = some 3 := by decide +kernel
set_option maxRecDepth 100000 in
set_option maxHeartbeats 4000000 in
theorem wcX7_grown : Cond.code yX7_grown cX7_grown 7 (some .double) ∈ eTb := tb5 31 rfl rfl
set_option maxRecDepth 100000 in
set_option maxHeartbeats 4000000 in
theorem wnX7_grown : Cond.initialized yX7_grown.cls ∈ eTb := tb1 19 rfl rfl
set_option maxRecDepth 100000 in
set_option maxHeartbeats 4000000 in
theorem wsX7_grown : Cond.static yX7_grown ∈ eTb := tb5 30 rfl rfl
theorem hdX7_lowest : yX7_lowest.cls ≠ "java/lang/invoke/MethodHandle" ∧ yX7_lowest.cls ≠ "java/lang/invoke/VarHandle" ∧ (parseMethodDescriptor yX7_lowest.desc).map (fun d => d.parameters.length) = some 3 := by decide +kernel
set_option maxRecDepth 100000 in
set_option maxHeartbeats 4000000 in
theorem wcX7_lowest : Cond.code yX7_lowest cX7_lowest 7 (some .long) ∈ eTb := tb3 214 rfl rfl
set_option maxRecDepth 100000 in
set_option maxHeartbeats 4000000 in
theorem wnX7_lowest : Cond.initialized yX7_lowest.cls ∈ eTb := tb1 19 rfl rfl
set_option maxRecDepth 100000 in
set_option maxHeartbeats 4000000 in
theorem wsX7_lowest : Cond.static yX7_lowest ∈ eTb := tb3 213 rfl rfl
theorem hdX8_keptWord : yX8_keptWord.cls ≠ "java/lang/invoke/MethodHandle" ∧ yX8_keptWord.cls ≠ "java/lang/invoke/VarHandle" ∧ (parseMethodDescriptor yX8_keptWord.desc).map (fun d => d.parameters.length) = some 0 := by decide +kernel
set_option maxRecDepth 100000 in
set_option maxHeartbeats 4000000 in
theorem wcX8_keptWord : Cond.code yX8_keptWord cX8_keptWord 2 (some .int) ∈ eTb := tb3 6 rfl rfl
set_option maxRecDepth 100000 in
set_option maxHeartbeats 4000000 in
theorem wnX8_keptWord : Cond.initialized yX8_keptWord.cls ∈ eTb := tb1 3 rfl rfl
set_option maxRecDepth 100000 in
set_option maxHeartbeats 4000000 in
theorem wiX8_keptWord : Cond.instanceMethod yX8_keptWord ∈ eTb := tb3 5 rfl rfl
set_option maxRecDepth 100000 in
set_option maxHeartbeats 4000000 in
theorem wlX8_keptWord : Cond.selects yX8_keptWord.cls yX8_keptWord yX8_keptWord ∈ eTb := tb0 3 rfl rfl
theorem hdX8_lineOf : yX8_lineOf.cls ≠ "java/lang/invoke/MethodHandle" ∧ yX8_lineOf.cls ≠ "java/lang/invoke/VarHandle" ∧ (parseMethodDescriptor yX8_lineOf.desc).map (fun d => d.parameters.length) = some 1 := by decide +kernel
set_option maxRecDepth 100000 in
set_option maxHeartbeats 4000000 in
theorem wcX8_lineOf : Cond.code yX8_lineOf cX8_lineOf 1 (some (.array .int)) ∈ eTb := tb3 37 rfl rfl
set_option maxRecDepth 100000 in
set_option maxHeartbeats 4000000 in
theorem wnX8_lineOf : Cond.initialized yX8_lineOf.cls ∈ eTb := tb1 3 rfl rfl
set_option maxRecDepth 100000 in
set_option maxHeartbeats 4000000 in
theorem wsX8_lineOf : Cond.static yX8_lineOf ∈ eTb := tb3 36 rfl rfl
theorem hdX8_mostOf : yX8_mostOf.cls ≠ "java/lang/invoke/MethodHandle" ∧ yX8_mostOf.cls ≠ "java/lang/invoke/VarHandle" ∧ (parseMethodDescriptor yX8_mostOf.desc).map (fun d => d.parameters.length) = some 1 := by decide +kernel
set_option maxRecDepth 100000 in
set_option maxHeartbeats 4000000 in
theorem wcX8_mostOf : Cond.code yX8_mostOf cX8_mostOf 1 (some .int) ∈ eTb := tb3 21 rfl rfl
set_option maxRecDepth 100000 in
set_option maxHeartbeats 4000000 in
theorem wnX8_mostOf : Cond.initialized yX8_mostOf.cls ∈ eTb := tb1 3 rfl rfl
set_option maxRecDepth 100000 in
set_option maxHeartbeats 4000000 in
theorem wsX8_mostOf : Cond.static yX8_mostOf ∈ eTb := tb3 20 rfl rfl
theorem hdX8_readAll : yX8_readAll.cls ≠ "java/lang/invoke/MethodHandle" ∧ yX8_readAll.cls ≠ "java/lang/invoke/VarHandle" ∧ (parseMethodDescriptor yX8_readAll.desc).map (fun d => d.parameters.length) = some 0 := by decide +kernel
set_option maxRecDepth 100000 in
set_option maxHeartbeats 4000000 in
theorem wcX8_readAll : Cond.code yX8_readAll cX8_readAll 2 (some .boolean) ∈ eTb := tb2 208 rfl rfl
set_option maxRecDepth 100000 in
set_option maxHeartbeats 4000000 in
theorem wnX8_readAll : Cond.initialized yX8_readAll.cls ∈ eTb := tb1 3 rfl rfl
set_option maxRecDepth 100000 in
set_option maxHeartbeats 4000000 in
theorem wiX8_readAll : Cond.instanceMethod yX8_readAll ∈ eTb := tb2 206 rfl rfl
set_option maxRecDepth 100000 in
set_option maxHeartbeats 4000000 in
theorem wlX8_readAll : Cond.selects yX8_readAll.cls yX8_readAll yX8_readAll ∈ eTb := tb2 207 rfl rfl
theorem hdX8_readItems : yX8_readItems.cls ≠ "java/lang/invoke/MethodHandle" ∧ yX8_readItems.cls ≠ "java/lang/invoke/VarHandle" ∧ (parseMethodDescriptor yX8_readItems.desc).map (fun d => d.parameters.length) = some 1 := by decide +kernel
set_option maxRecDepth 100000 in
set_option maxHeartbeats 4000000 in
theorem wcX8_readItems : Cond.code yX8_readItems cX8_readItems 6 (some .boolean) ∈ eTb := tb3 49 rfl rfl
set_option maxRecDepth 100000 in
set_option maxHeartbeats 4000000 in
theorem wnX8_readItems : Cond.initialized yX8_readItems.cls ∈ eTb := tb1 3 rfl rfl
set_option maxRecDepth 100000 in
set_option maxHeartbeats 4000000 in
theorem wiX8_readItems : Cond.instanceMethod yX8_readItems ∈ eTb := tb3 48 rfl rfl
set_option maxRecDepth 100000 in
set_option maxHeartbeats 4000000 in
theorem wlX8_readItems : Cond.selects yX8_readItems.cls yX8_readItems yX8_readItems ∈ eTb := tb0 5 rfl rfl
theorem hdX8_readLine : yX8_readLine.cls ≠ "java/lang/invoke/MethodHandle" ∧ yX8_readLine.cls ≠ "java/lang/invoke/VarHandle" ∧ (parseMethodDescriptor yX8_readLine.desc).map (fun d => d.parameters.length) = some 0 := by decide +kernel
set_option maxRecDepth 100000 in
set_option maxHeartbeats 4000000 in
theorem wcX8_readLine : Cond.code yX8_readLine cX8_readLine 2 (some .boolean) ∈ eTb := tb3 2 rfl rfl
set_option maxRecDepth 100000 in
set_option maxHeartbeats 4000000 in
theorem wnX8_readLine : Cond.initialized yX8_readLine.cls ∈ eTb := tb1 3 rfl rfl
set_option maxRecDepth 100000 in
set_option maxHeartbeats 4000000 in
theorem wiX8_readLine : Cond.instanceMethod yX8_readLine ∈ eTb := tb3 1 rfl rfl
set_option maxRecDepth 100000 in
set_option maxHeartbeats 4000000 in
theorem wlX8_readLine : Cond.selects yX8_readLine.cls yX8_readLine yX8_readLine ∈ eTb := tb0 2 rfl rfl
theorem hdX8_readName : yX8_readName.cls ≠ "java/lang/invoke/MethodHandle" ∧ yX8_readName.cls ≠ "java/lang/invoke/VarHandle" ∧ (parseMethodDescriptor yX8_readName.desc).map (fun d => d.parameters.length) = some 0 := by decide +kernel
set_option maxRecDepth 100000 in
set_option maxHeartbeats 4000000 in
theorem wcX8_readName : Cond.code yX8_readName cX8_readName 3 (some .boolean) ∈ eTb := tb3 58 rfl rfl
set_option maxRecDepth 100000 in
set_option maxHeartbeats 4000000 in
theorem wnX8_readName : Cond.initialized yX8_readName.cls ∈ eTb := tb1 3 rfl rfl
set_option maxRecDepth 100000 in
set_option maxHeartbeats 4000000 in
theorem wiX8_readName : Cond.instanceMethod yX8_readName ∈ eTb := tb3 57 rfl rfl
set_option maxRecDepth 100000 in
set_option maxHeartbeats 4000000 in
theorem wlX8_readName : Cond.selects yX8_readName.cls yX8_readName yX8_readName ∈ eTb := tb0 7 rfl rfl
theorem hdX8_readNumber : yX8_readNumber.cls ≠ "java/lang/invoke/MethodHandle" ∧ yX8_readNumber.cls ≠ "java/lang/invoke/VarHandle" ∧ (parseMethodDescriptor yX8_readNumber.desc).map (fun d => d.parameters.length) = some 3 := by decide +kernel
set_option maxRecDepth 100000 in
set_option maxHeartbeats 4000000 in
theorem wcX8_readNumber : Cond.code yX8_readNumber cX8_readNumber 4 (some .boolean) ∈ eTb := tb3 53 rfl rfl
set_option maxRecDepth 100000 in
set_option maxHeartbeats 4000000 in
theorem wnX8_readNumber : Cond.initialized yX8_readNumber.cls ∈ eTb := tb1 3 rfl rfl
set_option maxRecDepth 100000 in
set_option maxHeartbeats 4000000 in
theorem wiX8_readNumber : Cond.instanceMethod yX8_readNumber ∈ eTb := tb3 52 rfl rfl
set_option maxRecDepth 100000 in
set_option maxHeartbeats 4000000 in
theorem wlX8_readNumber : Cond.selects yX8_readNumber.cls yX8_readNumber yX8_readNumber ∈ eTb := tb0 6 rfl rfl
theorem hdX8_readSign : yX8_readSign.cls ≠ "java/lang/invoke/MethodHandle" ∧ yX8_readSign.cls ≠ "java/lang/invoke/VarHandle" ∧ (parseMethodDescriptor yX8_readSign.desc).map (fun d => d.parameters.length) = some 0 := by decide +kernel
set_option maxRecDepth 100000 in
set_option maxHeartbeats 4000000 in
theorem wcX8_readSign : Cond.code yX8_readSign cX8_readSign 1 (some .boolean) ∈ eTb := tb3 66 rfl rfl
set_option maxRecDepth 100000 in
set_option maxHeartbeats 4000000 in
theorem wnX8_readSign : Cond.initialized yX8_readSign.cls ∈ eTb := tb1 3 rfl rfl
set_option maxRecDepth 100000 in
set_option maxHeartbeats 4000000 in
theorem wiX8_readSign : Cond.instanceMethod yX8_readSign ∈ eTb := tb3 65 rfl rfl
set_option maxRecDepth 100000 in
set_option maxHeartbeats 4000000 in
theorem wlX8_readSign : Cond.selects yX8_readSign.cls yX8_readSign yX8_readSign ∈ eTb := tb0 9 rfl rfl
theorem hdX8_readWord : yX8_readWord.cls ≠ "java/lang/invoke/MethodHandle" ∧ yX8_readWord.cls ≠ "java/lang/invoke/VarHandle" ∧ (parseMethodDescriptor yX8_readWord.desc).map (fun d => d.parameters.length) = some 1 := by decide +kernel
set_option maxRecDepth 100000 in
set_option maxHeartbeats 4000000 in
theorem wcX8_readWord : Cond.code yX8_readWord cX8_readWord 2 (some .boolean) ∈ eTb := tb3 62 rfl rfl
set_option maxRecDepth 100000 in
set_option maxHeartbeats 4000000 in
theorem wnX8_readWord : Cond.initialized yX8_readWord.cls ∈ eTb := tb1 3 rfl rfl
set_option maxRecDepth 100000 in
set_option maxHeartbeats 4000000 in
theorem wiX8_readWord : Cond.instanceMethod yX8_readWord ∈ eTb := tb3 61 rfl rfl
set_option maxRecDepth 100000 in
set_option maxHeartbeats 4000000 in
theorem wlX8_readWord : Cond.selects yX8_readWord.cls yX8_readWord yX8_readWord ∈ eTb := tb0 8 rfl rfl
theorem hdX8_refuse : yX8_refuse.cls ≠ "java/lang/invoke/MethodHandle" ∧ yX8_refuse.cls ≠ "java/lang/invoke/VarHandle" ∧ (parseMethodDescriptor yX8_refuse.desc).map (fun d => d.parameters.length) = some 1 := by decide +kernel
set_option maxRecDepth 100000 in
set_option maxHeartbeats 4000000 in
theorem wcX8_refuse : Cond.code yX8_refuse cX8_refuse 2 (some .boolean) ∈ eTb := tb3 10 rfl rfl
set_option maxRecDepth 100000 in
set_option maxHeartbeats 4000000 in
theorem wnX8_refuse : Cond.initialized yX8_refuse.cls ∈ eTb := tb1 3 rfl rfl
set_option maxRecDepth 100000 in
set_option maxHeartbeats 4000000 in
theorem wiX8_refuse : Cond.instanceMethod yX8_refuse ∈ eTb := tb3 9 rfl rfl
set_option maxRecDepth 100000 in
set_option maxHeartbeats 4000000 in
theorem wlX8_refuse : Cond.selects yX8_refuse.cls yX8_refuse yX8_refuse ∈ eTb := tb0 4 rfl rfl
theorem hdX9_closeBy : yX9_closeBy.cls ≠ "java/lang/invoke/MethodHandle" ∧ yX9_closeBy.cls ≠ "java/lang/invoke/VarHandle" ∧ (parseMethodDescriptor yX9_closeBy.desc).map (fun d => d.parameters.length) = some 2 := by decide +kernel
set_option maxRecDepth 100000 in
set_option maxHeartbeats 4000000 in
theorem wcX9_closeBy : Cond.code yX9_closeBy cX9_closeBy 3 (none) ∈ eTb := tb4 209 rfl rfl
set_option maxRecDepth 100000 in
set_option maxHeartbeats 4000000 in
theorem wnX9_closeBy : Cond.initialized yX9_closeBy.cls ∈ eTb := tb1 13 rfl rfl
set_option maxRecDepth 100000 in
set_option maxHeartbeats 4000000 in
theorem wiX9_closeBy : Cond.instanceMethod yX9_closeBy ∈ eTb := tb4 207 rfl rfl
set_option maxRecDepth 100000 in
set_option maxHeartbeats 4000000 in
theorem wlX9_closeBy : Cond.selects yX9_closeBy.cls yX9_closeBy yX9_closeBy ∈ eTb := tb4 208 rfl rfl
theorem hdX9_letGo : yX9_letGo.cls ≠ "java/lang/invoke/MethodHandle" ∧ yX9_letGo.cls ≠ "java/lang/invoke/VarHandle" ∧ (parseMethodDescriptor yX9_letGo.desc).map (fun d => d.parameters.length) = some 2 := by decide +kernel
set_option maxRecDepth 100000 in
set_option maxHeartbeats 4000000 in
theorem wcX9_letGo : Cond.code yX9_letGo cX9_letGo 3 (none) ∈ eTb := tb4 218 rfl rfl
set_option maxRecDepth 100000 in
set_option maxHeartbeats 4000000 in
theorem wnX9_letGo : Cond.initialized yX9_letGo.cls ∈ eTb := tb1 13 rfl rfl
set_option maxRecDepth 100000 in
set_option maxHeartbeats 4000000 in
theorem wiX9_letGo : Cond.instanceMethod yX9_letGo ∈ eTb := tb4 216 rfl rfl
set_option maxRecDepth 100000 in
set_option maxHeartbeats 4000000 in
theorem wlX9_letGo : Cond.selects yX9_letGo.cls yX9_letGo yX9_letGo ∈ eTb := tb4 217 rfl rfl
theorem hdX10_cut : yX10_cut.cls ≠ "java/lang/invoke/MethodHandle" ∧ yX10_cut.cls ≠ "java/lang/invoke/VarHandle" ∧ (parseMethodDescriptor yX10_cut.desc).map (fun d => d.parameters.length) = some 1 := by decide +kernel
set_option maxRecDepth 100000 in
set_option maxHeartbeats 4000000 in
theorem wcX10_cut : Cond.code yX10_cut cX10_cut 2 (some .boolean) ∈ eTb := tb2 200 rfl rfl
set_option maxRecDepth 100000 in
set_option maxHeartbeats 4000000 in
theorem wnX10_cut : Cond.initialized yX10_cut.cls ∈ eTb := tb1 2 rfl rfl
set_option maxRecDepth 100000 in
set_option maxHeartbeats 4000000 in
theorem wiX10_cut : Cond.instanceMethod yX10_cut ∈ eTb := tb2 198 rfl rfl
set_option maxRecDepth 100000 in
set_option maxHeartbeats 4000000 in
theorem wlX10_cut : Cond.selects yX10_cut.cls yX10_cut yX10_cut ∈ eTb := tb2 199 rfl rfl
theorem hdX10_isBlank : yX10_isBlank.cls ≠ "java/lang/invoke/MethodHandle" ∧ yX10_isBlank.cls ≠ "java/lang/invoke/VarHandle" ∧ (parseMethodDescriptor yX10_isBlank.desc).map (fun d => d.parameters.length) = some 1 := by decide +kernel
set_option maxRecDepth 100000 in
set_option maxHeartbeats 4000000 in
theorem wcX10_isBlank : Cond.code yX10_isBlank cX10_isBlank 1 (some .boolean) ∈ eTb := tb2 223 rfl rfl
set_option maxRecDepth 100000 in
set_option maxHeartbeats 4000000 in
theorem wnX10_isBlank : Cond.initialized yX10_isBlank.cls ∈ eTb := tb1 2 rfl rfl
set_option maxRecDepth 100000 in
set_option maxHeartbeats 4000000 in
theorem wsX10_isBlank : Cond.static yX10_isBlank ∈ eTb := tb2 222 rfl rfl
theorem hdX10_isDigit : yX10_isDigit.cls ≠ "java/lang/invoke/MethodHandle" ∧ yX10_isDigit.cls ≠ "java/lang/invoke/VarHandle" ∧ (parseMethodDescriptor yX10_isDigit.desc).map (fun d => d.parameters.length) = some 1 := by decide +kernel
set_option maxRecDepth 100000 in
set_option maxHeartbeats 4000000 in
theorem wcX10_isDigit : Cond.code yX10_isDigit cX10_isDigit 1 (some .boolean) ∈ eTb := tb2 234 rfl rfl
set_option maxRecDepth 100000 in
set_option maxHeartbeats 4000000 in
theorem wnX10_isDigit : Cond.initialized yX10_isDigit.cls ∈ eTb := tb1 2 rfl rfl
set_option maxRecDepth 100000 in
set_option maxHeartbeats 4000000 in
theorem wsX10_isDigit : Cond.static yX10_isDigit ∈ eTb := tb2 233 rfl rfl
theorem hdX10_isLetter : yX10_isLetter.cls ≠ "java/lang/invoke/MethodHandle" ∧ yX10_isLetter.cls ≠ "java/lang/invoke/VarHandle" ∧ (parseMethodDescriptor yX10_isLetter.desc).map (fun d => d.parameters.length) = some 1 := by decide +kernel
set_option maxRecDepth 100000 in
set_option maxHeartbeats 4000000 in
theorem wcX10_isLetter : Cond.code yX10_isLetter cX10_isLetter 1 (some .boolean) ∈ eTb := tb2 226 rfl rfl
set_option maxRecDepth 100000 in
set_option maxHeartbeats 4000000 in
theorem wnX10_isLetter : Cond.initialized yX10_isLetter.cls ∈ eTb := tb1 2 rfl rfl
set_option maxRecDepth 100000 in
set_option maxHeartbeats 4000000 in
theorem wsX10_isLetter : Cond.static yX10_isLetter ∈ eTb := tb2 225 rfl rfl
theorem hdX10_put : yX10_put.cls ≠ "java/lang/invoke/MethodHandle" ∧ yX10_put.cls ≠ "java/lang/invoke/VarHandle" ∧ (parseMethodDescriptor yX10_put.desc).map (fun d => d.parameters.length) = some 1 := by decide +kernel
set_option maxRecDepth 100000 in
set_option maxHeartbeats 4000000 in
theorem wcX10_put : Cond.code yX10_put cX10_put 3 (none) ∈ eTb := tb2 192 rfl rfl
set_option maxRecDepth 100000 in
set_option maxHeartbeats 4000000 in
theorem wnX10_put : Cond.initialized yX10_put.cls ∈ eTb := tb1 2 rfl rfl
set_option maxRecDepth 100000 in
set_option maxHeartbeats 4000000 in
theorem wiX10_put : Cond.instanceMethod yX10_put ∈ eTb := tb2 190 rfl rfl
set_option maxRecDepth 100000 in
set_option maxHeartbeats 4000000 in
theorem wlX10_put : Cond.selects yX10_put.cls yX10_put yX10_put ∈ eTb := tb2 191 rfl rfl
theorem hdX10_rewind : yX10_rewind.cls ≠ "java/lang/invoke/MethodHandle" ∧ yX10_rewind.cls ≠ "java/lang/invoke/VarHandle" ∧ (parseMethodDescriptor yX10_rewind.desc).map (fun d => d.parameters.length) = some 0 := by decide +kernel
set_option maxRecDepth 100000 in
set_option maxHeartbeats 4000000 in
theorem wcX10_rewind : Cond.code yX10_rewind cX10_rewind 1 (none) ∈ eTb := tb2 216 rfl rfl
set_option maxRecDepth 100000 in
set_option maxHeartbeats 4000000 in
theorem wnX10_rewind : Cond.initialized yX10_rewind.cls ∈ eTb := tb1 2 rfl rfl
set_option maxRecDepth 100000 in
set_option maxHeartbeats 4000000 in
theorem wiX10_rewind : Cond.instanceMethod yX10_rewind ∈ eTb := tb2 214 rfl rfl
set_option maxRecDepth 100000 in
set_option maxHeartbeats 4000000 in
theorem wlX10_rewind : Cond.selects yX10_rewind.cls yX10_rewind yX10_rewind ∈ eTb := tb2 215 rfl rfl
theorem hdX10_scan : yX10_scan.cls ≠ "java/lang/invoke/MethodHandle" ∧ yX10_scan.cls ≠ "java/lang/invoke/VarHandle" ∧ (parseMethodDescriptor yX10_scan.desc).map (fun d => d.parameters.length) = some 0 := by decide +kernel
set_option maxRecDepth 100000 in
set_option maxHeartbeats 4000000 in
theorem wcX10_scan : Cond.code yX10_scan cX10_scan 1 (none) ∈ eTb := tb2 220 rfl rfl
set_option maxRecDepth 100000 in
set_option maxHeartbeats 4000000 in
theorem wnX10_scan : Cond.initialized yX10_scan.cls ∈ eTb := tb1 2 rfl rfl
set_option maxRecDepth 100000 in
set_option maxHeartbeats 4000000 in
theorem wiX10_scan : Cond.instanceMethod yX10_scan ∈ eTb := tb2 218 rfl rfl
set_option maxRecDepth 100000 in
set_option maxHeartbeats 4000000 in
theorem wlX10_scan : Cond.selects yX10_scan.cls yX10_scan yX10_scan ∈ eTb := tb2 219 rfl rfl
theorem hdX10_scanNumber : yX10_scanNumber.cls ≠ "java/lang/invoke/MethodHandle" ∧ yX10_scanNumber.cls ≠ "java/lang/invoke/VarHandle" ∧ (parseMethodDescriptor yX10_scanNumber.desc).map (fun d => d.parameters.length) = some 0 := by decide +kernel
set_option maxRecDepth 100000 in
set_option maxHeartbeats 4000000 in
theorem wcX10_scanNumber : Cond.code yX10_scanNumber cX10_scanNumber 2 (none) ∈ eTb := tb2 238 rfl rfl
set_option maxRecDepth 100000 in
set_option maxHeartbeats 4000000 in
theorem wnX10_scanNumber : Cond.initialized yX10_scanNumber.cls ∈ eTb := tb1 2 rfl rfl
set_option maxRecDepth 100000 in
set_option maxHeartbeats 4000000 in
theorem wiX10_scanNumber : Cond.instanceMethod yX10_scanNumber ∈ eTb := tb2 237 rfl rfl
set_option maxRecDepth 100000 in
set_option maxHeartbeats 4000000 in
theorem wlX10_scanNumber : Cond.selects yX10_scanNumber.cls yX10_scanNumber yX10_scanNumber ∈ eTb := tb0 1 rfl rfl
theorem hdX10_scanWord : yX10_scanWord.cls ≠ "java/lang/invoke/MethodHandle" ∧ yX10_scanWord.cls ≠ "java/lang/invoke/VarHandle" ∧ (parseMethodDescriptor yX10_scanWord.desc).map (fun d => d.parameters.length) = some 0 := by decide +kernel
set_option maxRecDepth 100000 in
set_option maxHeartbeats 4000000 in
theorem wcX10_scanWord : Cond.code yX10_scanWord cX10_scanWord 1 (none) ∈ eTb := tb2 230 rfl rfl
set_option maxRecDepth 100000 in
set_option maxHeartbeats 4000000 in
theorem wnX10_scanWord : Cond.initialized yX10_scanWord.cls ∈ eTb := tb1 2 rfl rfl
set_option maxRecDepth 100000 in
set_option maxHeartbeats 4000000 in
theorem wiX10_scanWord : Cond.instanceMethod yX10_scanWord ∈ eTb := tb2 229 rfl rfl
set_option maxRecDepth 100000 in
set_option maxHeartbeats 4000000 in
theorem wlX10_scanWord : Cond.selects yX10_scanWord.cls yX10_scanWord yX10_scanWord ∈ eTb := tb0 0 rfl rfl
theorem hdX10_withLetter : yX10_withLetter.cls ≠ "java/lang/invoke/MethodHandle" ∧ yX10_withLetter.cls ≠ "java/lang/invoke/VarHandle" ∧ (parseMethodDescriptor yX10_withLetter.desc).map (fun d => d.parameters.length) = some 2 := by decide +kernel
set_option maxRecDepth 100000 in
set_option maxHeartbeats 4000000 in
theorem wcX10_withLetter : Cond.code yX10_withLetter cX10_withLetter 3 (some .long) ∈ eTb := tb1 148 rfl rfl
set_option maxRecDepth 100000 in
set_option maxHeartbeats 4000000 in
theorem wnX10_withLetter : Cond.initialized yX10_withLetter.cls ∈ eTb := tb1 2 rfl rfl
set_option maxRecDepth 100000 in
set_option maxHeartbeats 4000000 in
theorem wsX10_withLetter : Cond.static yX10_withLetter ∈ eTb := tb1 147 rfl rfl
theorem hdX12_against : yX12_against.cls ≠ "java/lang/invoke/MethodHandle" ∧ yX12_against.cls ≠ "java/lang/invoke/VarHandle" ∧ (parseMethodDescriptor yX12_against.desc).map (fun d => d.parameters.length) = some 4 := by decide +kernel
set_option maxRecDepth 100000 in
set_option maxHeartbeats 4000000 in
theorem wcX12_against : Cond.code yX12_against cX12_against 16 (some .int) ∈ eTb := tb7 75 rfl rfl
set_option maxRecDepth 100000 in
set_option maxHeartbeats 4000000 in
theorem wnX12_against : Cond.initialized yX12_against.cls ∈ eTb := tb1 16 rfl rfl
set_option maxRecDepth 100000 in
set_option maxHeartbeats 4000000 in
theorem wsX12_against : Cond.static yX12_against ∈ eTb := tb7 74 rfl rfl
theorem hdX12_allAt : yX12_allAt.cls ≠ "java/lang/invoke/MethodHandle" ∧ yX12_allAt.cls ≠ "java/lang/invoke/VarHandle" ∧ (parseMethodDescriptor yX12_allAt.desc).map (fun d => d.parameters.length) = some 1 := by decide +kernel
set_option maxRecDepth 100000 in
set_option maxHeartbeats 4000000 in
theorem wcX12_allAt : Cond.code yX12_allAt cX12_allAt 2 (some .long) ∈ eTb := tb7 79 rfl rfl
set_option maxRecDepth 100000 in
set_option maxHeartbeats 4000000 in
theorem wnX12_allAt : Cond.initialized yX12_allAt.cls ∈ eTb := tb1 16 rfl rfl
set_option maxRecDepth 100000 in
set_option maxHeartbeats 4000000 in
theorem wiX12_allAt : Cond.instanceMethod yX12_allAt ∈ eTb := tb7 78 rfl rfl
set_option maxRecDepth 100000 in
set_option maxHeartbeats 4000000 in
theorem wlX12_allAt : Cond.selects yX12_allAt.cls yX12_allAt yX12_allAt ∈ eTb := tb0 77 rfl rfl
theorem hdX12_allFixed : yX12_allFixed.cls ≠ "java/lang/invoke/MethodHandle" ∧ yX12_allFixed.cls ≠ "java/lang/invoke/VarHandle" ∧ (parseMethodDescriptor yX12_allFixed.desc).map (fun d => d.parameters.length) = some 0 := by decide +kernel
set_option maxRecDepth 100000 in
set_option maxHeartbeats 4000000 in
theorem wcX12_allFixed : Cond.code yX12_allFixed cX12_allFixed 4 (some .long) ∈ eTb := tb6 211 rfl rfl
set_option maxRecDepth 100000 in
set_option maxHeartbeats 4000000 in
theorem wnX12_allFixed : Cond.initialized yX12_allFixed.cls ∈ eTb := tb1 16 rfl rfl
set_option maxRecDepth 100000 in
set_option maxHeartbeats 4000000 in
theorem wiX12_allFixed : Cond.instanceMethod yX12_allFixed ∈ eTb := tb6 210 rfl rfl
set_option maxRecDepth 100000 in
set_option maxHeartbeats 4000000 in
theorem wlX12_allFixed : Cond.selects yX12_allFixed.cls yX12_allFixed yX12_allFixed ∈ eTb := tb0 64 rfl rfl
theorem hdX12_allGoes : yX12_allGoes.cls ≠ "java/lang/invoke/MethodHandle" ∧ yX12_allGoes.cls ≠ "java/lang/invoke/VarHandle" ∧ (parseMethodDescriptor yX12_allGoes.desc).map (fun d => d.parameters.length) = some 0 := by decide +kernel
set_option maxRecDepth 100000 in
set_option maxHeartbeats 4000000 in
theorem wcX12_allGoes : Cond.code yX12_allGoes cX12_allGoes 4 (some .long) ∈ eTb := tb6 207 rfl rfl
set_option maxRecDepth 100000 in
set_option maxHeartbeats 4000000 in
theorem wnX12_allGoes : Cond.initialized yX12_allGoes.cls ∈ eTb := tb1 16 rfl rfl
set_option maxRecDepth 100000 in
set_option maxHeartbeats 4000000 in
theorem wiX12_allGoes : Cond.instanceMethod yX12_allGoes ∈ eTb := tb6 206 rfl rfl
set_option maxRecDepth 100000 in
set_option maxHeartbeats 4000000 in
theorem wlX12_allGoes : Cond.selects yX12_allGoes.cls yX12_allGoes yX12_allGoes ∈ eTb := tb0 63 rfl rfl
theorem hdX12_asksFor : yX12_asksFor.cls ≠ "java/lang/invoke/MethodHandle" ∧ yX12_asksFor.cls ≠ "java/lang/invoke/VarHandle" ∧ (parseMethodDescriptor yX12_asksFor.desc).map (fun d => d.parameters.length) = some 2 := by decide +kernel
set_option maxRecDepth 100000 in
set_option maxHeartbeats 4000000 in
theorem wcX12_asksFor : Cond.code yX12_asksFor cX12_asksFor 3 (none) ∈ eTb := tb7 22 rfl rfl
set_option maxRecDepth 100000 in
set_option maxHeartbeats 4000000 in
theorem wnX12_asksFor : Cond.initialized yX12_asksFor.cls ∈ eTb := tb1 16 rfl rfl
set_option maxRecDepth 100000 in
set_option maxHeartbeats 4000000 in
theorem wiX12_asksFor : Cond.instanceMethod yX12_asksFor ∈ eTb := tb7 21 rfl rfl
set_option maxRecDepth 100000 in
set_option maxHeartbeats 4000000 in
theorem wlX12_asksFor : Cond.selects yX12_asksFor.cls yX12_asksFor yX12_asksFor ∈ eTb := tb0 71 rfl rfl
theorem hdX12_bitsOf : yX12_bitsOf.cls ≠ "java/lang/invoke/MethodHandle" ∧ yX12_bitsOf.cls ≠ "java/lang/invoke/VarHandle" ∧ (parseMethodDescriptor yX12_bitsOf.desc).map (fun d => d.parameters.length) = some 1 := by decide +kernel
set_option maxRecDepth 100000 in
set_option maxHeartbeats 4000000 in
theorem wcX12_bitsOf : Cond.code yX12_bitsOf cX12_bitsOf 6 (some .long) ∈ eTb := tb7 142 rfl rfl
set_option maxRecDepth 100000 in
set_option maxHeartbeats 4000000 in
theorem wnX12_bitsOf : Cond.initialized yX12_bitsOf.cls ∈ eTb := tb1 16 rfl rfl
set_option maxRecDepth 100000 in
set_option maxHeartbeats 4000000 in
theorem wsX12_bitsOf : Cond.static yX12_bitsOf ∈ eTb := tb7 141 rfl rfl
theorem hdX12_bitsOfFloat : yX12_bitsOfFloat.cls ≠ "java/lang/invoke/MethodHandle" ∧ yX12_bitsOfFloat.cls ≠ "java/lang/invoke/VarHandle" ∧ (parseMethodDescriptor yX12_bitsOfFloat.desc).map (fun d => d.parameters.length) = some 1 := by decide +kernel
set_option maxRecDepth 100000 in
set_option maxHeartbeats 4000000 in
theorem wcX12_bitsOfFloat : Cond.code yX12_bitsOfFloat cX12_bitsOfFloat 3 (some .int) ∈ eTb := tb7 152 rfl rfl
set_option maxRecDepth 100000 in
set_option maxHeartbeats 4000000 in
theorem wnX12_bitsOfFloat : Cond.initialized yX12_bitsOfFloat.cls ∈ eTb := tb1 16 rfl rfl
set_option maxRecDepth 100000 in
set_option maxHeartbeats 4000000 in
theorem wsX12_bitsOfFloat : Cond.static yX12_bitsOfFloat ∈ eTb := tb7 151 rfl rfl
