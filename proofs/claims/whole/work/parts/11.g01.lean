set_option maxRecDepth 100000 in
set_option maxHeartbeats 4000000 in
theorem wnX11_isUnits : Cond.initialized yX11_isUnits.cls ∈ eTb := tb1 1 rfl rfl
set_option maxRecDepth 100000 in
set_option maxHeartbeats 4000000 in
theorem wsX11_isUnits : Cond.static yX11_isUnits ∈ eTb := tb4 12 rfl rfl
theorem hdX11_pour : yX11_pour.cls ≠ "java/lang/invoke/MethodHandle" ∧ yX11_pour.cls ≠ "java/lang/invoke/VarHandle" ∧ (parseMethodDescriptor yX11_pour.desc).map (fun d => d.parameters.length) = some 1 := by decide +kernel
set_option maxRecDepth 100000 in
set_option maxHeartbeats 4000000 in
theorem wcX11_pour : Cond.code yX11_pour cX11_pour 2 (none) ∈ eTb := tb3 119 rfl rfl
set_option maxRecDepth 100000 in
set_option maxHeartbeats 4000000 in
theorem wnX11_pour : Cond.initialized yX11_pour.cls ∈ eTb := tb1 1 rfl rfl
set_option maxRecDepth 100000 in
set_option maxHeartbeats 4000000 in
theorem wiX11_pour : Cond.instanceMethod yX11_pour ∈ eTb := tb3 118 rfl rfl
set_option maxRecDepth 100000 in
set_option maxHeartbeats 4000000 in
theorem wlX11_pour : Cond.selects yX11_pour.cls yX11_pour yX11_pour ∈ eTb := tb0 11 rfl rfl
theorem hdX11_saleOf : yX11_saleOf.cls ≠ "java/lang/invoke/MethodHandle" ∧ yX11_saleOf.cls ≠ "java/lang/invoke/VarHandle" ∧ (parseMethodDescriptor yX11_saleOf.desc).map (fun d => d.parameters.length) = some 1 := by decide +kernel
set_option maxRecDepth 100000 in
set_option maxHeartbeats 4000000 in
theorem wcX11_saleOf : Cond.code yX11_saleOf cX11_saleOf 3 (some .int) ∈ eTb := tb4 226 rfl rfl
set_option maxRecDepth 100000 in
set_option maxHeartbeats 4000000 in
theorem wnX11_saleOf : Cond.initialized yX11_saleOf.cls ∈ eTb := tb1 1 rfl rfl
set_option maxRecDepth 100000 in
set_option maxHeartbeats 4000000 in
theorem wiX11_saleOf : Cond.instanceMethod yX11_saleOf ∈ eTb := tb4 225 rfl rfl
set_option maxRecDepth 100000 in
set_option maxHeartbeats 4000000 in
theorem wlX11_saleOf : Cond.selects yX11_saleOf.cls yX11_saleOf yX11_saleOf ∈ eTb := tb0 30 rfl rfl
theorem hdX11_thoseWithMore : yX11_thoseWithMore.cls ≠ "java/lang/invoke/MethodHandle" ∧ yX11_thoseWithMore.cls ≠ "java/lang/invoke/VarHandle" ∧ (parseMethodDescriptor yX11_thoseWithMore.desc).map (fun d => d.parameters.length) = some 2 := by decide +kernel
set_option maxRecDepth 100000 in
set_option maxHeartbeats 4000000 in
theorem wcX11_thoseWithMore : Cond.code yX11_thoseWithMore cX11_thoseWithMore 5 (some .int) ∈ eTb := tb4 60 rfl rfl
set_option maxRecDepth 100000 in
set_option maxHeartbeats 4000000 in
theorem wnX11_thoseWithMore : Cond.initialized yX11_thoseWithMore.cls ∈ eTb := tb1 1 rfl rfl
set_option maxRecDepth 100000 in
set_option maxHeartbeats 4000000 in
theorem wiX11_thoseWithMore : Cond.instanceMethod yX11_thoseWithMore ∈ eTb := tb4 59 rfl rfl
set_option maxRecDepth 100000 in
set_option maxHeartbeats 4000000 in
theorem wlX11_thoseWithMore : Cond.selects yX11_thoseWithMore.cls yX11_thoseWithMore yX11_thoseWithMore ∈ eTb := tb0 20 rfl rfl
theorem hdX11_unitsFor : yX11_unitsFor.cls ≠ "java/lang/invoke/MethodHandle" ∧ yX11_unitsFor.cls ≠ "java/lang/invoke/VarHandle" ∧ (parseMethodDescriptor yX11_unitsFor.desc).map (fun d => d.parameters.length) = some 2 := by decide +kernel
set_option maxRecDepth 100000 in
set_option maxHeartbeats 4000000 in
theorem wcX11_unitsFor : Cond.code yX11_unitsFor cX11_unitsFor 3 (some .int) ∈ eTb := tb3 238 rfl rfl
set_option maxRecDepth 100000 in
set_option maxHeartbeats 4000000 in
theorem wnX11_unitsFor : Cond.initialized yX11_unitsFor.cls ∈ eTb := tb1 1 rfl rfl
set_option maxRecDepth 100000 in
set_option maxHeartbeats 4000000 in
theorem wiX11_unitsFor : Cond.instanceMethod yX11_unitsFor ∈ eTb := tb3 237 rfl rfl
set_option maxRecDepth 100000 in
set_option maxHeartbeats 4000000 in
theorem wlX11_unitsFor : Cond.selects yX11_unitsFor.cls yX11_unitsFor yX11_unitsFor ∈ eTb := tb0 18 rfl rfl
theorem hdX11_votesTogether : yX11_votesTogether.cls ≠ "java/lang/invoke/MethodHandle" ∧ yX11_votesTogether.cls ≠ "java/lang/invoke/VarHandle" ∧ (parseMethodDescriptor yX11_votesTogether.desc).map (fun d => d.parameters.length) = some 1 := by decide +kernel
set_option maxRecDepth 100000 in
set_option maxHeartbeats 4000000 in
theorem wcX11_votesTogether : Cond.code yX11_votesTogether cX11_votesTogether 4 (some .int) ∈ eTb := tb4 78 rfl rfl
set_option maxRecDepth 100000 in
set_option maxHeartbeats 4000000 in
theorem wnX11_votesTogether : Cond.initialized yX11_votesTogether.cls ∈ eTb := tb1 1 rfl rfl
set_option maxRecDepth 100000 in
set_option maxHeartbeats 4000000 in
theorem wiX11_votesTogether : Cond.instanceMethod yX11_votesTogether ∈ eTb := tb4 77 rfl rfl
set_option maxRecDepth 100000 in
set_option maxHeartbeats 4000000 in
theorem wlX11_votesTogether : Cond.selects yX11_votesTogether.cls yX11_votesTogether yX11_votesTogether ∈ eTb := tb0 21 rfl rfl
theorem hdX0_dropLatest : yX0_dropLatest.cls ≠ "java/lang/invoke/MethodHandle" ∧ yX0_dropLatest.cls ≠ "java/lang/invoke/VarHandle" ∧ (parseMethodDescriptor yX0_dropLatest.desc).map (fun d => d.parameters.length) = some 0 := by decide +kernel
set_option maxRecDepth 100000 in
set_option maxHeartbeats 4000000 in
theorem wcX0_dropLatest : Cond.code yX0_dropLatest cX0_dropLatest 1 (none) ∈ eTb := tb5 66 rfl rfl
set_option maxRecDepth 100000 in
set_option maxHeartbeats 4000000 in
theorem wnX0_dropLatest : Cond.initialized yX0_dropLatest.cls ∈ eTb := tb1 15 rfl rfl
set_option maxRecDepth 100000 in
set_option maxHeartbeats 4000000 in
theorem wiX0_dropLatest : Cond.instanceMethod yX0_dropLatest ∈ eTb := tb5 64 rfl rfl
set_option maxRecDepth 100000 in
set_option maxHeartbeats 4000000 in
theorem wlX0_dropLatest : Cond.selects yX0_dropLatest.cls yX0_dropLatest yX0_dropLatest ∈ eTb := tb5 65 rfl rfl
theorem hdX0_giveBackSale : yX0_giveBackSale.cls ≠ "java/lang/invoke/MethodHandle" ∧ yX0_giveBackSale.cls ≠ "java/lang/invoke/VarHandle" ∧ (parseMethodDescriptor yX0_giveBackSale.desc).map (fun d => d.parameters.length) = some 1 := by decide +kernel
set_option maxRecDepth 100000 in
set_option maxHeartbeats 4000000 in
theorem wcX0_giveBackSale : Cond.code yX0_giveBackSale cX0_giveBackSale 2 (none) ∈ eTb := tb5 57 rfl rfl
set_option maxRecDepth 100000 in
set_option maxHeartbeats 4000000 in
theorem wnX0_giveBackSale : Cond.initialized yX0_giveBackSale.cls ∈ eTb := tb1 15 rfl rfl
set_option maxRecDepth 100000 in
set_option maxHeartbeats 4000000 in
theorem wiX0_giveBackSale : Cond.instanceMethod yX0_giveBackSale ∈ eTb := tb5 55 rfl rfl
set_option maxRecDepth 100000 in
set_option maxHeartbeats 4000000 in
theorem wlX0_giveBackSale : Cond.selects yX0_giveBackSale.cls yX0_giveBackSale yX0_giveBackSale ∈ eTb := tb5 56 rfl rfl
theorem hdX0_keep : yX0_keep.cls ≠ "java/lang/invoke/MethodHandle" ∧ yX0_keep.cls ≠ "java/lang/invoke/VarHandle" ∧ (parseMethodDescriptor yX0_keep.desc).map (fun d => d.parameters.length) = some 3 := by decide +kernel
set_option maxRecDepth 100000 in
set_option maxHeartbeats 4000000 in
theorem wcX0_keep : Cond.code yX0_keep cX0_keep 4 (none) ∈ eTb := tb4 198 rfl rfl
set_option maxRecDepth 100000 in
set_option maxHeartbeats 4000000 in
theorem wnX0_keep : Cond.initialized yX0_keep.cls ∈ eTb := tb1 15 rfl rfl
set_option maxRecDepth 100000 in
set_option maxHeartbeats 4000000 in
theorem wiX0_keep : Cond.instanceMethod yX0_keep ∈ eTb := tb4 196 rfl rfl
set_option maxRecDepth 100000 in
set_option maxHeartbeats 4000000 in
theorem wlX0_keep : Cond.selects yX0_keep.cls yX0_keep yX0_keep ∈ eTb := tb4 197 rfl rfl
theorem hdX0_keepSale : yX0_keepSale.cls ≠ "java/lang/invoke/MethodHandle" ∧ yX0_keepSale.cls ≠ "java/lang/invoke/VarHandle" ∧ (parseMethodDescriptor yX0_keepSale.desc).map (fun d => d.parameters.length) = some 1 := by decide +kernel
set_option maxRecDepth 100000 in
set_option maxHeartbeats 4000000 in
theorem wcX0_keepSale : Cond.code yX0_keepSale cX0_keepSale 2 (none) ∈ eTb := tb4 194 rfl rfl
set_option maxRecDepth 100000 in
set_option maxHeartbeats 4000000 in
theorem wnX0_keepSale : Cond.initialized yX0_keepSale.cls ∈ eTb := tb1 15 rfl rfl
set_option maxRecDepth 100000 in
set_option maxHeartbeats 4000000 in
theorem wiX0_keepSale : Cond.instanceMethod yX0_keepSale ∈ eTb := tb4 192 rfl rfl
set_option maxRecDepth 100000 in
set_option maxHeartbeats 4000000 in
theorem wlX0_keepSale : Cond.selects yX0_keepSale.cls yX0_keepSale yX0_keepSale ∈ eTb := tb4 193 rfl rfl
theorem hdX0_latest : yX0_latest.cls ≠ "java/lang/invoke/MethodHandle" ∧ yX0_latest.cls ≠ "java/lang/invoke/VarHandle" ∧ (parseMethodDescriptor yX0_latest.desc).map (fun d => d.parameters.length) = some 1 := by decide +kernel
set_option maxRecDepth 100000 in
set_option maxHeartbeats 4000000 in
theorem wcX0_latest : Cond.code yX0_latest cX0_latest 3 (some .int) ∈ eTb := tb5 53 rfl rfl
set_option maxRecDepth 100000 in
set_option maxHeartbeats 4000000 in
theorem wnX0_latest : Cond.initialized yX0_latest.cls ∈ eTb := tb1 15 rfl rfl
set_option maxRecDepth 100000 in
set_option maxHeartbeats 4000000 in
theorem wiX0_latest : Cond.instanceMethod yX0_latest ∈ eTb := tb5 51 rfl rfl
set_option maxRecDepth 100000 in
set_option maxHeartbeats 4000000 in
theorem wlX0_latest : Cond.selects yX0_latest.cls yX0_latest yX0_latest ∈ eTb := tb5 52 rfl rfl
theorem hdX0_put : yX0_put.cls ≠ "java/lang/invoke/MethodHandle" ∧ yX0_put.cls ≠ "java/lang/invoke/VarHandle" ∧ (parseMethodDescriptor yX0_put.desc).map (fun d => d.parameters.length) = some 2 := by decide +kernel
set_option maxRecDepth 100000 in
set_option maxHeartbeats 4000000 in
theorem wcX0_put : Cond.code yX0_put cX0_put 4 (none) ∈ eTb := tb4 205 rfl rfl
set_option maxRecDepth 100000 in
set_option maxHeartbeats 4000000 in
theorem wnX0_put : Cond.initialized yX0_put.cls ∈ eTb := tb1 15 rfl rfl
set_option maxRecDepth 100000 in
set_option maxHeartbeats 4000000 in
theorem wiX0_put : Cond.instanceMethod yX0_put ∈ eTb := tb4 204 rfl rfl
set_option maxRecDepth 100000 in
set_option maxHeartbeats 4000000 in
theorem wlX0_put : Cond.selects yX0_put.cls yX0_put yX0_put ∈ eTb := tb0 29 rfl rfl
theorem hdX1_add : yX1_add.cls ≠ "java/lang/invoke/MethodHandle" ∧ yX1_add.cls ≠ "java/lang/invoke/VarHandle" ∧ (parseMethodDescriptor yX1_add.desc).map (fun d => d.parameters.length) = some 2 := by decide +kernel
set_option maxRecDepth 100000 in
set_option maxHeartbeats 4000000 in
theorem wcX1_add : Cond.code yX1_add cX1_add 10 (none) ∈ eTb := tb4 98 rfl rfl
set_option maxRecDepth 100000 in
set_option maxHeartbeats 4000000 in
theorem wnX1_add : Cond.initialized yX1_add.cls ∈ eTb := tb1 11 rfl rfl
set_option maxRecDepth 100000 in
set_option maxHeartbeats 4000000 in
theorem wiX1_add : Cond.instanceMethod yX1_add ∈ eTb := tb4 97 rfl rfl
set_option maxRecDepth 100000 in
set_option maxHeartbeats 4000000 in
theorem wlX1_add : Cond.selects yX1_add.cls yX1_add yX1_add ∈ eTb := tb0 22 rfl rfl
theorem hdX1_findPart : yX1_findPart.cls ≠ "java/lang/invoke/MethodHandle" ∧ yX1_findPart.cls ≠ "java/lang/invoke/VarHandle" ∧ (parseMethodDescriptor yX1_findPart.desc).map (fun d => d.parameters.length) = some 3 := by decide +kernel
set_option maxRecDepth 100000 in
set_option maxHeartbeats 4000000 in
theorem wcX1_findPart : Cond.code yX1_findPart cX1_findPart 4 (none) ∈ eTb := tb4 111 rfl rfl
set_option maxRecDepth 100000 in
set_option maxHeartbeats 4000000 in
theorem wnX1_findPart : Cond.initialized yX1_findPart.cls ∈ eTb := tb1 11 rfl rfl
set_option maxRecDepth 100000 in
set_option maxHeartbeats 4000000 in
theorem wiX1_findPart : Cond.instanceMethod yX1_findPart ∈ eTb := tb4 109 rfl rfl
set_option maxRecDepth 100000 in
set_option maxHeartbeats 4000000 in
theorem wlX1_findPart : Cond.selects yX1_findPart.cls yX1_findPart yX1_findPart ∈ eTb := tb4 110 rfl rfl
theorem hdX1_findPartByLevel : yX1_findPartByLevel.cls ≠ "java/lang/invoke/MethodHandle" ∧ yX1_findPartByLevel.cls ≠ "java/lang/invoke/VarHandle" ∧ (parseMethodDescriptor yX1_findPartByLevel.desc).map (fun d => d.parameters.length) = some 3 := by decide +kernel
set_option maxRecDepth 100000 in
set_option maxHeartbeats 4000000 in
theorem wcX1_findPartByLevel : Cond.code yX1_findPartByLevel cX1_findPartByLevel 5 (none) ∈ eTb := tb4 127 rfl rfl
set_option maxRecDepth 100000 in
set_option maxHeartbeats 4000000 in
theorem wnX1_findPartByLevel : Cond.initialized yX1_findPartByLevel.cls ∈ eTb := tb1 11 rfl rfl
set_option maxRecDepth 100000 in
set_option maxHeartbeats 4000000 in
theorem wiX1_findPartByLevel : Cond.instanceMethod yX1_findPartByLevel ∈ eTb := tb4 126 rfl rfl
set_option maxRecDepth 100000 in
set_option maxHeartbeats 4000000 in
theorem wlX1_findPartByLevel : Cond.selects yX1_findPartByLevel.cls yX1_findPartByLevel yX1_findPartByLevel ∈ eTb := tb0 25 rfl rfl
theorem hdX1_findPartOfRank : yX1_findPartOfRank.cls ≠ "java/lang/invoke/MethodHandle" ∧ yX1_findPartOfRank.cls ≠ "java/lang/invoke/VarHandle" ∧ (parseMethodDescriptor yX1_findPartOfRank.desc).map (fun d => d.parameters.length) = some 3 := by decide +kernel
set_option maxRecDepth 100000 in
set_option maxHeartbeats 4000000 in
theorem wcX1_findPartOfRank : Cond.code yX1_findPartOfRank cX1_findPartOfRank 7 (none) ∈ eTb := tb4 115 rfl rfl
set_option maxRecDepth 100000 in
set_option maxHeartbeats 4000000 in
theorem wnX1_findPartOfRank : Cond.initialized yX1_findPartOfRank.cls ∈ eTb := tb1 11 rfl rfl
set_option maxRecDepth 100000 in
set_option maxHeartbeats 4000000 in
theorem wiX1_findPartOfRank : Cond.instanceMethod yX1_findPartOfRank ∈ eTb := tb4 114 rfl rfl
set_option maxRecDepth 100000 in
set_option maxHeartbeats 4000000 in
theorem wlX1_findPartOfRank : Cond.selects yX1_findPartOfRank.cls yX1_findPartOfRank yX1_findPartOfRank ∈ eTb := tb0 23 rfl rfl
theorem hdX1_list : yX1_list.cls ≠ "java/lang/invoke/MethodHandle" ∧ yX1_list.cls ≠ "java/lang/invoke/VarHandle" ∧ (parseMethodDescriptor yX1_list.desc).map (fun d => d.parameters.length) = some 1 := by decide +kernel
set_option maxRecDepth 100000 in
set_option maxHeartbeats 4000000 in
theorem wcX1_list : Cond.code yX1_list cX1_list 6 (none) ∈ eTb := tb4 94 rfl rfl
set_option maxRecDepth 100000 in
set_option maxHeartbeats 4000000 in
theorem wnX1_list : Cond.initialized yX1_list.cls ∈ eTb := tb1 11 rfl rfl
set_option maxRecDepth 100000 in
set_option maxHeartbeats 4000000 in
theorem wiX1_list : Cond.instanceMethod yX1_list ∈ eTb := tb4 92 rfl rfl
set_option maxRecDepth 100000 in
set_option maxHeartbeats 4000000 in
theorem wlX1_list : Cond.selects yX1_list.cls yX1_list yX1_list ∈ eTb := tb4 93 rfl rfl
theorem hdX1_setPart : yX1_setPart.cls ≠ "java/lang/invoke/MethodHandle" ∧ yX1_setPart.cls ≠ "java/lang/invoke/VarHandle" ∧ (parseMethodDescriptor yX1_setPart.desc).map (fun d => d.parameters.length) = some 2 := by decide +kernel
set_option maxRecDepth 100000 in
set_option maxHeartbeats 4000000 in
theorem wcX1_setPart : Cond.code yX1_setPart cX1_setPart 5 (none) ∈ eTb := tb4 123 rfl rfl
set_option maxRecDepth 100000 in
set_option maxHeartbeats 4000000 in
theorem wnX1_setPart : Cond.initialized yX1_setPart.cls ∈ eTb := tb1 11 rfl rfl
set_option maxRecDepth 100000 in
set_option maxHeartbeats 4000000 in
theorem wiX1_setPart : Cond.instanceMethod yX1_setPart ∈ eTb := tb4 122 rfl rfl
set_option maxRecDepth 100000 in
set_option maxHeartbeats 4000000 in
theorem wlX1_setPart : Cond.selects yX1_setPart.cls yX1_setPart yX1_setPart ∈ eTb := tb0 24 rfl rfl
theorem hdX2_addHolder : yX2_addHolder.cls ≠ "java/lang/invoke/MethodHandle" ∧ yX2_addHolder.cls ≠ "java/lang/invoke/VarHandle" ∧ (parseMethodDescriptor yX2_addHolder.desc).map (fun d => d.parameters.length) = some 2 := by decide +kernel
set_option maxRecDepth 100000 in
set_option maxHeartbeats 4000000 in
theorem wcX2_addHolder : Cond.code yX2_addHolder cX2_addHolder 5 (none) ∈ eTb := tb3 141 rfl rfl
set_option maxRecDepth 100000 in
set_option maxHeartbeats 4000000 in
theorem wnX2_addHolder : Cond.initialized yX2_addHolder.cls ∈ eTb := tb1 10 rfl rfl
set_option maxRecDepth 100000 in
set_option maxHeartbeats 4000000 in
theorem wiX2_addHolder : Cond.instanceMethod yX2_addHolder ∈ eTb := tb3 139 rfl rfl
set_option maxRecDepth 100000 in
set_option maxHeartbeats 4000000 in
theorem wlX2_addHolder : Cond.selects yX2_addHolder.cls yX2_addHolder yX2_addHolder ∈ eTb := tb3 140 rfl rfl
theorem hdX2_addStep : yX2_addStep.cls ≠ "java/lang/invoke/MethodHandle" ∧ yX2_addStep.cls ≠ "java/lang/invoke/VarHandle" ∧ (parseMethodDescriptor yX2_addStep.desc).map (fun d => d.parameters.length) = some 4 := by decide +kernel
set_option maxRecDepth 100000 in
set_option maxHeartbeats 4000000 in
theorem wcX2_addStep : Cond.code yX2_addStep cX2_addStep 8 (none) ∈ eTb := tb3 157 rfl rfl
set_option maxRecDepth 100000 in
set_option maxHeartbeats 4000000 in
theorem wnX2_addStep : Cond.initialized yX2_addStep.cls ∈ eTb := tb1 10 rfl rfl
set_option maxRecDepth 100000 in
set_option maxHeartbeats 4000000 in
theorem wiX2_addStep : Cond.instanceMethod yX2_addStep ∈ eTb := tb3 155 rfl rfl
set_option maxRecDepth 100000 in
set_option maxHeartbeats 4000000 in
theorem wlX2_addStep : Cond.selects yX2_addStep.cls yX2_addStep yX2_addStep ∈ eTb := tb3 156 rfl rfl
theorem hdX2_clear : yX2_clear.cls ≠ "java/lang/invoke/MethodHandle" ∧ yX2_clear.cls ≠ "java/lang/invoke/VarHandle" ∧ (parseMethodDescriptor yX2_clear.desc).map (fun d => d.parameters.length) = some 0 := by decide +kernel
set_option maxRecDepth 100000 in
set_option maxHeartbeats 4000000 in
theorem wcX2_clear : Cond.code yX2_clear cX2_clear 1 (none) ∈ eTb := tb3 127 rfl rfl
set_option maxRecDepth 100000 in
set_option maxHeartbeats 4000000 in
theorem wnX2_clear : Cond.initialized yX2_clear.cls ∈ eTb := tb1 10 rfl rfl
set_option maxRecDepth 100000 in
set_option maxHeartbeats 4000000 in
theorem wiX2_clear : Cond.instanceMethod yX2_clear ∈ eTb := tb3 125 rfl rfl
set_option maxRecDepth 100000 in
set_option maxHeartbeats 4000000 in
theorem wlX2_clear : Cond.selects yX2_clear.cls yX2_clear yX2_clear ∈ eTb := tb3 126 rfl rfl
theorem hdX2_isLater : yX2_isLater.cls ≠ "java/lang/invoke/MethodHandle" ∧ yX2_isLater.cls ≠ "java/lang/invoke/VarHandle" ∧ (parseMethodDescriptor yX2_isLater.desc).map (fun d => d.parameters.length) = some 2 := by decide +kernel
set_option maxRecDepth 100000 in
set_option maxHeartbeats 4000000 in
theorem wcX2_isLater : Cond.code yX2_isLater cX2_isLater 3 (some .boolean) ∈ eTb := tb3 161 rfl rfl
set_option maxRecDepth 100000 in
set_option maxHeartbeats 4000000 in
theorem wnX2_isLater : Cond.initialized yX2_isLater.cls ∈ eTb := tb1 10 rfl rfl
set_option maxRecDepth 100000 in
set_option maxHeartbeats 4000000 in
theorem wiX2_isLater : Cond.instanceMethod yX2_isLater ∈ eTb := tb3 160 rfl rfl
set_option maxRecDepth 100000 in
set_option maxHeartbeats 4000000 in
theorem wlX2_isLater : Cond.selects yX2_isLater.cls yX2_isLater yX2_isLater ∈ eTb := tb0 14 rfl rfl
theorem hdX2_ratioAt : yX2_ratioAt.cls ≠ "java/lang/invoke/MethodHandle" ∧ yX2_ratioAt.cls ≠ "java/lang/invoke/VarHandle" ∧ (parseMethodDescriptor yX2_ratioAt.desc).map (fun d => d.parameters.length) = some 1 := by decide +kernel
set_option maxRecDepth 100000 in
set_option maxHeartbeats 4000000 in
theorem wcX2_ratioAt : Cond.code yX2_ratioAt cX2_ratioAt 2 (some .int) ∈ eTb := tb3 203 rfl rfl
set_option maxRecDepth 100000 in
set_option maxHeartbeats 4000000 in
theorem wnX2_ratioAt : Cond.initialized yX2_ratioAt.cls ∈ eTb := tb1 10 rfl rfl
set_option maxRecDepth 100000 in
set_option maxHeartbeats 4000000 in
theorem wiX2_ratioAt : Cond.instanceMethod yX2_ratioAt ∈ eTb := tb3 201 rfl rfl
set_option maxRecDepth 100000 in
set_option maxHeartbeats 4000000 in
theorem wlX2_ratioAt : Cond.selects yX2_ratioAt.cls yX2_ratioAt yX2_ratioAt ∈ eTb := tb3 202 rfl rfl
theorem hdX2_restart : yX2_restart.cls ≠ "java/lang/invoke/MethodHandle" ∧ yX2_restart.cls ≠ "java/lang/invoke/VarHandle" ∧ (parseMethodDescriptor yX2_restart.desc).map (fun d => d.parameters.length) = some 0 := by decide +kernel
set_option maxRecDepth 100000 in
set_option maxHeartbeats 4000000 in
theorem wcX2_restart : Cond.code yX2_restart cX2_restart 2 (none) ∈ eTb := tb3 195 rfl rfl
set_option maxRecDepth 100000 in
set_option maxHeartbeats 4000000 in
theorem wnX2_restart : Cond.initialized yX2_restart.cls ∈ eTb := tb1 10 rfl rfl
set_option maxRecDepth 100000 in
set_option maxHeartbeats 4000000 in
theorem wiX2_restart : Cond.instanceMethod yX2_restart ∈ eTb := tb3 193 rfl rfl
set_option maxRecDepth 100000 in
set_option maxHeartbeats 4000000 in
theorem wlX2_restart : Cond.selects yX2_restart.cls yX2_restart yX2_restart ∈ eTb := tb3 194 rfl rfl
theorem hdX2_sweep : yX2_sweep.cls ≠ "java/lang/invoke/MethodHandle" ∧ yX2_sweep.cls ≠ "java/lang/invoke/VarHandle" ∧ (parseMethodDescriptor yX2_sweep.desc).map (fun d => d.parameters.length) = some 3 := by decide +kernel
set_option maxRecDepth 100000 in
set_option maxHeartbeats 4000000 in
theorem wcX2_sweep : Cond.code yX2_sweep cX2_sweep 11 (none) ∈ eTb := tb3 191 rfl rfl
set_option maxRecDepth 100000 in
set_option maxHeartbeats 4000000 in
theorem wnX2_sweep : Cond.initialized yX2_sweep.cls ∈ eTb := tb1 10 rfl rfl
set_option maxRecDepth 100000 in
set_option maxHeartbeats 4000000 in
theorem wiX2_sweep : Cond.instanceMethod yX2_sweep ∈ eTb := tb3 189 rfl rfl
set_option maxRecDepth 100000 in
set_option maxHeartbeats 4000000 in
theorem wlX2_sweep : Cond.selects yX2_sweep.cls yX2_sweep yX2_sweep ∈ eTb := tb3 190 rfl rfl
theorem hdX2_take : yX2_take.cls ≠ "java/lang/invoke/MethodHandle" ∧ yX2_take.cls ≠ "java/lang/invoke/VarHandle" ∧ (parseMethodDescriptor yX2_take.desc).map (fun d => d.parameters.length) = some 1 := by decide +kernel
set_option maxRecDepth 100000 in
set_option maxHeartbeats 4000000 in
theorem wcX2_take : Cond.code yX2_take cX2_take 4 (none) ∈ eTb := tb3 207 rfl rfl
set_option maxRecDepth 100000 in
set_option maxHeartbeats 4000000 in
theorem wnX2_take : Cond.initialized yX2_take.cls ∈ eTb := tb1 10 rfl rfl
set_option maxRecDepth 100000 in
set_option maxHeartbeats 4000000 in
theorem wiX2_take : Cond.instanceMethod yX2_take ∈ eTb := tb3 205 rfl rfl
set_option maxRecDepth 100000 in
set_option maxHeartbeats 4000000 in
theorem wlX2_take : Cond.selects yX2_take.cls yX2_take yX2_take ∈ eTb := tb3 206 rfl rfl
theorem hdX2_totalAt : yX2_totalAt.cls ≠ "java/lang/invoke/MethodHandle" ∧ yX2_totalAt.cls ≠ "java/lang/invoke/VarHandle" ∧ (parseMethodDescriptor yX2_totalAt.desc).map (fun d => d.parameters.length) = some 1 := by decide +kernel
set_option maxRecDepth 100000 in
set_option maxHeartbeats 4000000 in
theorem wcX2_totalAt : Cond.code yX2_totalAt cX2_totalAt 3 (some .long) ∈ eTb := tb3 199 rfl rfl
set_option maxRecDepth 100000 in
set_option maxHeartbeats 4000000 in
theorem wnX2_totalAt : Cond.initialized yX2_totalAt.cls ∈ eTb := tb1 10 rfl rfl
set_option maxRecDepth 100000 in
set_option maxHeartbeats 4000000 in
theorem wiX2_totalAt : Cond.instanceMethod yX2_totalAt ∈ eTb := tb3 197 rfl rfl
set_option maxRecDepth 100000 in
set_option maxHeartbeats 4000000 in
theorem wlX2_totalAt : Cond.selects yX2_totalAt.cls yX2_totalAt yX2_totalAt ∈ eTb := tb3 198 rfl rfl
theorem hdX3_aboveOf : yX3_aboveOf.cls ≠ "java/lang/invoke/MethodHandle" ∧ yX3_aboveOf.cls ≠ "java/lang/invoke/VarHandle" ∧ (parseMethodDescriptor yX3_aboveOf.desc).map (fun d => d.parameters.length) = some 1 := by decide +kernel
set_option maxRecDepth 100000 in
set_option maxHeartbeats 4000000 in
theorem wcX3_aboveOf : Cond.code yX3_aboveOf cX3_aboveOf 2 (some .long) ∈ eTb := tb3 211 rfl rfl
set_option maxRecDepth 100000 in
set_option maxHeartbeats 4000000 in
theorem wnX3_aboveOf : Cond.initialized yX3_aboveOf.cls ∈ eTb := tb1 9 rfl rfl
set_option maxRecDepth 100000 in
set_option maxHeartbeats 4000000 in
theorem wiX3_aboveOf : Cond.instanceMethod yX3_aboveOf ∈ eTb := tb3 209 rfl rfl
set_option maxRecDepth 100000 in
set_option maxHeartbeats 4000000 in
theorem wlX3_aboveOf : Cond.selects yX3_aboveOf.cls yX3_aboveOf yX3_aboveOf ∈ eTb := tb3 210 rfl rfl
theorem hdX3_addClass : yX3_addClass.cls ≠ "java/lang/invoke/MethodHandle" ∧ yX3_addClass.cls ≠ "java/lang/invoke/VarHandle" ∧ (parseMethodDescriptor yX3_addClass.desc).map (fun d => d.parameters.length) = some 4 := by decide +kernel
set_option maxRecDepth 100000 in
set_option maxHeartbeats 4000000 in
theorem wcX3_addClass : Cond.code yX3_addClass cX3_addClass 13 (none) ∈ eTb := tb3 133 rfl rfl
set_option maxRecDepth 100000 in
set_option maxHeartbeats 4000000 in
theorem wnX3_addClass : Cond.initialized yX3_addClass.cls ∈ eTb := tb1 9 rfl rfl
set_option maxRecDepth 100000 in
set_option maxHeartbeats 4000000 in
theorem wiX3_addClass : Cond.instanceMethod yX3_addClass ∈ eTb := tb3 132 rfl rfl
set_option maxRecDepth 100000 in
set_option maxHeartbeats 4000000 in
theorem wlX3_addClass : Cond.selects yX3_addClass.cls yX3_addClass yX3_addClass ∈ eTb := tb0 12 rfl rfl
theorem hdX3_addOther : yX3_addOther.cls ≠ "java/lang/invoke/MethodHandle" ∧ yX3_addOther.cls ≠ "java/lang/invoke/VarHandle" ∧ (parseMethodDescriptor yX3_addOther.desc).map (fun d => d.parameters.length) = some 2 := by decide +kernel
set_option maxRecDepth 100000 in
set_option maxHeartbeats 4000000 in
theorem wcX3_addOther : Cond.code yX3_addOther cX3_addOther 8 (none) ∈ eTb := tb3 165 rfl rfl
set_option maxRecDepth 100000 in
set_option maxHeartbeats 4000000 in
theorem wnX3_addOther : Cond.initialized yX3_addOther.cls ∈ eTb := tb1 9 rfl rfl
set_option maxRecDepth 100000 in
set_option maxHeartbeats 4000000 in
theorem wiX3_addOther : Cond.instanceMethod yX3_addOther ∈ eTb := tb3 164 rfl rfl
set_option maxRecDepth 100000 in
set_option maxHeartbeats 4000000 in
theorem wlX3_addOther : Cond.selects yX3_addOther.cls yX3_addOther yX3_addOther ∈ eTb := tb0 15 rfl rfl
theorem hdX3_arrange : yX3_arrange.cls ≠ "java/lang/invoke/MethodHandle" ∧ yX3_arrange.cls ≠ "java/lang/invoke/VarHandle" ∧ (parseMethodDescriptor yX3_arrange.desc).map (fun d => d.parameters.length) = some 3 := by decide +kernel
set_option maxRecDepth 100000 in
set_option maxHeartbeats 4000000 in
theorem wcX3_arrange : Cond.code yX3_arrange cX3_arrange 5 (none) ∈ eTb := tb3 123 rfl rfl
set_option maxRecDepth 100000 in
set_option maxHeartbeats 4000000 in
theorem wnX3_arrange : Cond.initialized yX3_arrange.cls ∈ eTb := tb1 9 rfl rfl
set_option maxRecDepth 100000 in
set_option maxHeartbeats 4000000 in
theorem wiX3_arrange : Cond.instanceMethod yX3_arrange ∈ eTb := tb3 121 rfl rfl
set_option maxRecDepth 100000 in
set_option maxHeartbeats 4000000 in
theorem wlX3_arrange : Cond.selects yX3_arrange.cls yX3_arrange yX3_arrange ∈ eTb := tb3 122 rfl rfl
theorem hdX3_countPrefs : yX3_countPrefs.cls ≠ "java/lang/invoke/MethodHandle" ∧ yX3_countPrefs.cls ≠ "java/lang/invoke/VarHandle" ∧ (parseMethodDescriptor yX3_countPrefs.desc).map (fun d => d.parameters.length) = some 2 := by decide +kernel
set_option maxRecDepth 100000 in
set_option maxHeartbeats 4000000 in
theorem wcX3_countPrefs : Cond.code yX3_countPrefs cX3_countPrefs 4 (none) ∈ eTb := tb3 146 rfl rfl
set_option maxRecDepth 100000 in
set_option maxHeartbeats 4000000 in
theorem wnX3_countPrefs : Cond.initialized yX3_countPrefs.cls ∈ eTb := tb1 9 rfl rfl
set_option maxRecDepth 100000 in
set_option maxHeartbeats 4000000 in
theorem wiX3_countPrefs : Cond.instanceMethod yX3_countPrefs ∈ eTb := tb3 145 rfl rfl
set_option maxRecDepth 100000 in
set_option maxHeartbeats 4000000 in
theorem wlX3_countPrefs : Cond.selects yX3_countPrefs.cls yX3_countPrefs yX3_countPrefs ∈ eTb := tb0 13 rfl rfl
theorem hdX3_firstUnpaid : yX3_firstUnpaid.cls ≠ "java/lang/invoke/MethodHandle" ∧ yX3_firstUnpaid.cls ≠ "java/lang/invoke/VarHandle" ∧ (parseMethodDescriptor yX3_firstUnpaid.desc).map (fun d => d.parameters.length) = some 1 := by decide +kernel
set_option maxRecDepth 100000 in
set_option maxHeartbeats 4000000 in
theorem wcX3_firstUnpaid : Cond.code yX3_firstUnpaid cX3_firstUnpaid 6 (some .int) ∈ eTb := tb3 183 rfl rfl
set_option maxRecDepth 100000 in
set_option maxHeartbeats 4000000 in
theorem wnX3_firstUnpaid : Cond.initialized yX3_firstUnpaid.cls ∈ eTb := tb1 9 rfl rfl
set_option maxRecDepth 100000 in
set_option maxHeartbeats 4000000 in
theorem wiX3_firstUnpaid : Cond.instanceMethod yX3_firstUnpaid ∈ eTb := tb3 181 rfl rfl
set_option maxRecDepth 100000 in
set_option maxHeartbeats 4000000 in
theorem wlX3_firstUnpaid : Cond.selects yX3_firstUnpaid.cls yX3_firstUnpaid yX3_firstUnpaid ∈ eTb := tb3 182 rfl rfl
theorem hdX3_hasMoreThanRemembered : yX3_hasMoreThanRemembered.cls ≠ "java/lang/invoke/MethodHandle" ∧ yX3_hasMoreThanRemembered.cls ≠ "java/lang/invoke/VarHandle" ∧ (parseMethodDescriptor yX3_hasMoreThanRemembered.desc).map (fun d => d.parameters.length) = some 1 := by decide +kernel
set_option maxRecDepth 100000 in
set_option maxHeartbeats 4000000 in
theorem wcX3_hasMoreThanRemembered : Cond.code yX3_hasMoreThanRemembered cX3_hasMoreThanRemembered 2 (some .boolean) ∈ eTb := tb4 69 rfl rfl
set_option maxRecDepth 100000 in
set_option maxHeartbeats 4000000 in
theorem wnX3_hasMoreThanRemembered : Cond.initialized yX3_hasMoreThanRemembered.cls ∈ eTb := tb1 9 rfl rfl
set_option maxRecDepth 100000 in
set_option maxHeartbeats 4000000 in
theorem wiX3_hasMoreThanRemembered : Cond.instanceMethod yX3_hasMoreThanRemembered ∈ eTb := tb4 67 rfl rfl
set_option maxRecDepth 100000 in
set_option maxHeartbeats 4000000 in
theorem wlX3_hasMoreThanRemembered : Cond.selects yX3_hasMoreThanRemembered.cls yX3_hasMoreThanRemembered yX3_hasMoreThanRemembered ∈ eTb := tb4 68 rfl rfl
theorem hdX3_pour : yX3_pour.cls ≠ "java/lang/invoke/MethodHandle" ∧ yX3_pour.cls ≠ "java/lang/invoke/VarHandle" ∧ (parseMethodDescriptor yX3_pour.desc).map (fun d => d.parameters.length) = some 1 := by decide +kernel
set_option maxRecDepth 100000 in
set_option maxHeartbeats 4000000 in
theorem wcX3_pour : Cond.code yX3_pour cX3_pour 3 (none) ∈ eTb := tb3 175 rfl rfl
set_option maxRecDepth 100000 in
set_option maxHeartbeats 4000000 in
theorem wnX3_pour : Cond.initialized yX3_pour.cls ∈ eTb := tb1 9 rfl rfl
set_option maxRecDepth 100000 in
set_option maxHeartbeats 4000000 in
theorem wiX3_pour : Cond.instanceMethod yX3_pour ∈ eTb := tb3 173 rfl rfl
set_option maxRecDepth 100000 in
set_option maxHeartbeats 4000000 in
theorem wlX3_pour : Cond.selects yX3_pour.cls yX3_pour yX3_pour ∈ eTb := tb3 174 rfl rfl
theorem hdX3_pourByLevel : yX3_pourByLevel.cls ≠ "java/lang/invoke/MethodHandle" ∧ yX3_pourByLevel.cls ≠ "java/lang/invoke/VarHandle" ∧ (parseMethodDescriptor yX3_pourByLevel.desc).map (fun d => d.parameters.length) = some 1 := by decide +kernel
set_option maxRecDepth 100000 in
set_option maxHeartbeats 4000000 in
theorem wcX3_pourByLevel : Cond.code yX3_pourByLevel cX3_pourByLevel 7 (none) ∈ eTb := tb3 187 rfl rfl
set_option maxRecDepth 100000 in
set_option maxHeartbeats 4000000 in
theorem wnX3_pourByLevel : Cond.initialized yX3_pourByLevel.cls ∈ eTb := tb1 9 rfl rfl
set_option maxRecDepth 100000 in
set_option maxHeartbeats 4000000 in
theorem wiX3_pourByLevel : Cond.instanceMethod yX3_pourByLevel ∈ eTb := tb3 186 rfl rfl
set_option maxRecDepth 100000 in
set_option maxHeartbeats 4000000 in
theorem wlX3_pourByLevel : Cond.selects yX3_pourByLevel.cls yX3_pourByLevel yX3_pourByLevel ∈ eTb := tb0 17 rfl rfl
theorem hdX3_pourByRanks : yX3_pourByRanks.cls ≠ "java/lang/invoke/MethodHandle" ∧ yX3_pourByRanks.cls ≠ "java/lang/invoke/VarHandle" ∧ (parseMethodDescriptor yX3_pourByRanks.desc).map (fun d => d.parameters.length) = some 1 := by decide +kernel
set_option maxRecDepth 100000 in
set_option maxHeartbeats 4000000 in
theorem wcX3_pourByRanks : Cond.code yX3_pourByRanks cX3_pourByRanks 9 (none) ∈ eTb := tb3 179 rfl rfl
set_option maxRecDepth 100000 in
set_option maxHeartbeats 4000000 in
theorem wnX3_pourByRanks : Cond.initialized yX3_pourByRanks.cls ∈ eTb := tb1 9 rfl rfl
set_option maxRecDepth 100000 in
set_option maxHeartbeats 4000000 in
theorem wiX3_pourByRanks : Cond.instanceMethod yX3_pourByRanks ∈ eTb := tb3 178 rfl rfl
set_option maxRecDepth 100000 in
set_option maxHeartbeats 4000000 in
theorem wlX3_pourByRanks : Cond.selects yX3_pourByRanks.cls yX3_pourByRanks yX3_pourByRanks ∈ eTb := tb0 16 rfl rfl
theorem hdX3_rankOf : yX3_rankOf.cls ≠ "java/lang/invoke/MethodHandle" ∧ yX3_rankOf.cls ≠ "java/lang/invoke/VarHandle" ∧ (parseMethodDescriptor yX3_rankOf.desc).map (fun d => d.parameters.length) = some 1 := by decide +kernel
set_option maxRecDepth 100000 in
set_option maxHeartbeats 4000000 in
theorem wcX3_rankOf : Cond.code yX3_rankOf cX3_rankOf 2 (some .int) ∈ eTb := tb4 119 rfl rfl
set_option maxRecDepth 100000 in
set_option maxHeartbeats 4000000 in
theorem wnX3_rankOf : Cond.initialized yX3_rankOf.cls ∈ eTb := tb1 9 rfl rfl
set_option maxRecDepth 100000 in
set_option maxHeartbeats 4000000 in
theorem wiX3_rankOf : Cond.instanceMethod yX3_rankOf ∈ eTb := tb4 117 rfl rfl
set_option maxRecDepth 100000 in
set_option maxHeartbeats 4000000 in
theorem wlX3_rankOf : Cond.selects yX3_rankOf.cls yX3_rankOf yX3_rankOf ∈ eTb := tb4 118 rfl rfl
theorem hdX3_reaches : yX3_reaches.cls ≠ "java/lang/invoke/MethodHandle" ∧ yX3_reaches.cls ≠ "java/lang/invoke/VarHandle" ∧ (parseMethodDescriptor yX3_reaches.desc).map (fun d => d.parameters.length) = some 4 := by decide +kernel
set_option maxRecDepth 100000 in
set_option maxHeartbeats 4000000 in
theorem wcX3_reaches : Cond.code yX3_reaches cX3_reaches 8 (some .boolean) ∈ eTb := tb4 22 rfl rfl
set_option maxRecDepth 100000 in
set_option maxHeartbeats 4000000 in
theorem wnX3_reaches : Cond.initialized yX3_reaches.cls ∈ eTb := tb1 9 rfl rfl
set_option maxRecDepth 100000 in
set_option maxHeartbeats 4000000 in
theorem wiX3_reaches : Cond.instanceMethod yX3_reaches ∈ eTb := tb4 20 rfl rfl
set_option maxRecDepth 100000 in
set_option maxHeartbeats 4000000 in
theorem wlX3_reaches : Cond.selects yX3_reaches.cls yX3_reaches yX3_reaches ∈ eTb := tb4 21 rfl rfl
theorem hdX3_remember : yX3_remember.cls ≠ "java/lang/invoke/MethodHandle" ∧ yX3_remember.cls ≠ "java/lang/invoke/VarHandle" ∧ (parseMethodDescriptor yX3_remember.desc).map (fun d => d.parameters.length) = some 0 := by decide +kernel
set_option maxRecDepth 100000 in
set_option maxHeartbeats 4000000 in
theorem wcX3_remember : Cond.code yX3_remember cX3_remember 1 (none) ∈ eTb := tb4 64 rfl rfl
set_option maxRecDepth 100000 in
set_option maxHeartbeats 4000000 in
theorem wnX3_remember : Cond.initialized yX3_remember.cls ∈ eTb := tb1 9 rfl rfl
set_option maxRecDepth 100000 in
set_option maxHeartbeats 4000000 in
theorem wiX3_remember : Cond.instanceMethod yX3_remember ∈ eTb := tb4 62 rfl rfl
set_option maxRecDepth 100000 in
set_option maxHeartbeats 4000000 in
theorem wlX3_remember : Cond.selects yX3_remember.cls yX3_remember yX3_remember ∈ eTb := tb4 63 rfl rfl
theorem hdX3_stateOf : yX3_stateOf.cls ≠ "java/lang/invoke/MethodHandle" ∧ yX3_stateOf.cls ≠ "java/lang/invoke/VarHandle" ∧ (parseMethodDescriptor yX3_stateOf.desc).map (fun d => d.parameters.length) = some 2 := by decide +kernel
set_option maxRecDepth 100000 in
set_option maxHeartbeats 4000000 in
theorem wcX3_stateOf : Cond.code yX3_stateOf cX3_stateOf 12 (some .int) ∈ eTb := tb3 229 rfl rfl
set_option maxRecDepth 100000 in
set_option maxHeartbeats 4000000 in
theorem wnX3_stateOf : Cond.initialized yX3_stateOf.cls ∈ eTb := tb1 9 rfl rfl
set_option maxRecDepth 100000 in
set_option maxHeartbeats 4000000 in
theorem wiX3_stateOf : Cond.instanceMethod yX3_stateOf ∈ eTb := tb3 227 rfl rfl
set_option maxRecDepth 100000 in
set_option maxHeartbeats 4000000 in
theorem wlX3_stateOf : Cond.selects yX3_stateOf.cls yX3_stateOf yX3_stateOf ∈ eTb := tb3 228 rfl rfl
theorem hdX3_unitsOf : yX3_unitsOf.cls ≠ "java/lang/invoke/MethodHandle" ∧ yX3_unitsOf.cls ≠ "java/lang/invoke/VarHandle" ∧ (parseMethodDescriptor yX3_unitsOf.desc).map (fun d => d.parameters.length) = some 2 := by decide +kernel
set_option maxRecDepth 100000 in
set_option maxHeartbeats 4000000 in
theorem wcX3_unitsOf : Cond.code yX3_unitsOf cX3_unitsOf 13 (some .int) ∈ eTb := tb4 2 rfl rfl
set_option maxRecDepth 100000 in
set_option maxHeartbeats 4000000 in
theorem wnX3_unitsOf : Cond.initialized yX3_unitsOf.cls ∈ eTb := tb1 9 rfl rfl
set_option maxRecDepth 100000 in
set_option maxHeartbeats 4000000 in
theorem wiX3_unitsOf : Cond.instanceMethod yX3_unitsOf ∈ eTb := tb4 0 rfl rfl
set_option maxRecDepth 100000 in
set_option maxHeartbeats 4000000 in
theorem wlX3_unitsOf : Cond.selects yX3_unitsOf.cls yX3_unitsOf yX3_unitsOf ∈ eTb := tb4 1 rfl rfl
theorem hdX4_add : yX4_add.cls ≠ "java/lang/invoke/MethodHandle" ∧ yX4_add.cls ≠ "java/lang/invoke/VarHandle" ∧ (parseMethodDescriptor yX4_add.desc).map (fun d => d.parameters.length) = some 1 := by decide +kernel
set_option maxRecDepth 100000 in
set_option maxHeartbeats 4000000 in
theorem wcX4_add : Cond.code yX4_add cX4_add 4 (some .boolean) ∈ eTb := tb3 25 rfl rfl
set_option maxRecDepth 100000 in
set_option maxHeartbeats 4000000 in
theorem wnX4_add : Cond.initialized yX4_add.cls ∈ eTb := tb1 4 rfl rfl
set_option maxRecDepth 100000 in
set_option maxHeartbeats 4000000 in
theorem wiX4_add : Cond.instanceMethod yX4_add ∈ eTb := tb3 23 rfl rfl
set_option maxRecDepth 100000 in
set_option maxHeartbeats 4000000 in
theorem wlX4_add : Cond.selects yX4_add.cls yX4_add yX4_add ∈ eTb := tb3 24 rfl rfl
theorem hdX4_become : yX4_become.cls ≠ "java/lang/invoke/MethodHandle" ∧ yX4_become.cls ≠ "java/lang/invoke/VarHandle" ∧ (parseMethodDescriptor yX4_become.desc).map (fun d => d.parameters.length) = some 1 := by decide +kernel
set_option maxRecDepth 100000 in
set_option maxHeartbeats 4000000 in
theorem wcX4_become : Cond.code yX4_become cX4_become 2 (none) ∈ eTb := tb3 70 rfl rfl
set_option maxRecDepth 100000 in
set_option maxHeartbeats 4000000 in
theorem wnX4_become : Cond.initialized yX4_become.cls ∈ eTb := tb1 4 rfl rfl
set_option maxRecDepth 100000 in
set_option maxHeartbeats 4000000 in
theorem wiX4_become : Cond.instanceMethod yX4_become ∈ eTb := tb3 68 rfl rfl
set_option maxRecDepth 100000 in
set_option maxHeartbeats 4000000 in
theorem wlX4_become : Cond.selects yX4_become.cls yX4_become yX4_become ∈ eTb := tb3 69 rfl rfl
theorem hdX4_canTurn : yX4_canTurn.cls ≠ "java/lang/invoke/MethodHandle" ∧ yX4_canTurn.cls ≠ "java/lang/invoke/VarHandle" ∧ (parseMethodDescriptor yX4_canTurn.desc).map (fun d => d.parameters.length) = some 1 := by decide +kernel
set_option maxRecDepth 100000 in
set_option maxHeartbeats 4000000 in
theorem wcX4_canTurn : Cond.code yX4_canTurn cX4_canTurn 2 (some .boolean) ∈ eTb := tb3 137 rfl rfl
set_option maxRecDepth 100000 in
set_option maxHeartbeats 4000000 in
theorem wnX4_canTurn : Cond.initialized yX4_canTurn.cls ∈ eTb := tb1 4 rfl rfl
set_option maxRecDepth 100000 in
set_option maxHeartbeats 4000000 in
theorem wiX4_canTurn : Cond.instanceMethod yX4_canTurn ∈ eTb := tb3 135 rfl rfl
set_option maxRecDepth 100000 in
set_option maxHeartbeats 4000000 in
theorem wlX4_canTurn : Cond.selects yX4_canTurn.cls yX4_canTurn yX4_canTurn ∈ eTb := tb3 136 rfl rfl
theorem hdX4_clear : yX4_clear.cls ≠ "java/lang/invoke/MethodHandle" ∧ yX4_clear.cls ≠ "java/lang/invoke/VarHandle" ∧ (parseMethodDescriptor yX4_clear.desc).map (fun d => d.parameters.length) = some 0 := by decide +kernel
set_option maxRecDepth 100000 in
set_option maxHeartbeats 4000000 in
theorem wcX4_clear : Cond.code yX4_clear cX4_clear 1 (none) ∈ eTb := tb2 212 rfl rfl
set_option maxRecDepth 100000 in
set_option maxHeartbeats 4000000 in
theorem wnX4_clear : Cond.initialized yX4_clear.cls ∈ eTb := tb1 4 rfl rfl
set_option maxRecDepth 100000 in
set_option maxHeartbeats 4000000 in
theorem wiX4_clear : Cond.instanceMethod yX4_clear ∈ eTb := tb2 210 rfl rfl
set_option maxRecDepth 100000 in
set_option maxHeartbeats 4000000 in
theorem wlX4_clear : Cond.selects yX4_clear.cls yX4_clear yX4_clear ∈ eTb := tb2 211 rfl rfl
theorem hdX4_costOf : yX4_costOf.cls ≠ "java/lang/invoke/MethodHandle" ∧ yX4_costOf.cls ≠ "java/lang/invoke/VarHandle" ∧ (parseMethodDescriptor yX4_costOf.desc).map (fun d => d.parameters.length) = some 1 := by decide +kernel
set_option maxRecDepth 100000 in
set_option maxHeartbeats 4000000 in
theorem wcX4_costOf : Cond.code yX4_costOf cX4_costOf 2 (some .int) ∈ eTb := tb5 20 rfl rfl
set_option maxRecDepth 100000 in
set_option maxHeartbeats 4000000 in
theorem wnX4_costOf : Cond.initialized yX4_costOf.cls ∈ eTb := tb1 4 rfl rfl
set_option maxRecDepth 100000 in
set_option maxHeartbeats 4000000 in
theorem wiX4_costOf : Cond.instanceMethod yX4_costOf ∈ eTb := tb5 18 rfl rfl
set_option maxRecDepth 100000 in
set_option maxHeartbeats 4000000 in
theorem wlX4_costOf : Cond.selects yX4_costOf.cls yX4_costOf yX4_costOf ∈ eTb := tb5 19 rfl rfl
theorem hdX4_countOf : yX4_countOf.cls ≠ "java/lang/invoke/MethodHandle" ∧ yX4_countOf.cls ≠ "java/lang/invoke/VarHandle" ∧ (parseMethodDescriptor yX4_countOf.desc).map (fun d => d.parameters.length) = some 1 := by decide +kernel
set_option maxRecDepth 100000 in
set_option maxHeartbeats 4000000 in
theorem wcX4_countOf : Cond.code yX4_countOf cX4_countOf 4 (some .int) ∈ eTb := tb3 14 rfl rfl
set_option maxRecDepth 100000 in
set_option maxHeartbeats 4000000 in
theorem wnX4_countOf : Cond.initialized yX4_countOf.cls ∈ eTb := tb1 4 rfl rfl
set_option maxRecDepth 100000 in
set_option maxHeartbeats 4000000 in
theorem wiX4_countOf : Cond.instanceMethod yX4_countOf ∈ eTb := tb3 12 rfl rfl
set_option maxRecDepth 100000 in
set_option maxHeartbeats 4000000 in
theorem wlX4_countOf : Cond.selects yX4_countOf.cls yX4_countOf yX4_countOf ∈ eTb := tb3 13 rfl rfl
theorem hdX4_fact : yX4_fact.cls ≠ "java/lang/invoke/MethodHandle" ∧ yX4_fact.cls ≠ "java/lang/invoke/VarHandle" ∧ (parseMethodDescriptor yX4_fact.desc).map (fun d => d.parameters.length) = some 2 := by decide +kernel
set_option maxRecDepth 100000 in
set_option maxHeartbeats 4000000 in
theorem wcX4_fact : Cond.code yX4_fact cX4_fact 3 (some .int) ∈ eTb := tb3 18 rfl rfl
set_option maxRecDepth 100000 in
set_option maxHeartbeats 4000000 in
theorem wnX4_fact : Cond.initialized yX4_fact.cls ∈ eTb := tb1 4 rfl rfl
set_option maxRecDepth 100000 in
set_option maxHeartbeats 4000000 in
theorem wiX4_fact : Cond.instanceMethod yX4_fact ∈ eTb := tb3 16 rfl rfl
set_option maxRecDepth 100000 in
set_option maxHeartbeats 4000000 in
theorem wlX4_fact : Cond.selects yX4_fact.cls yX4_fact yX4_fact ∈ eTb := tb3 17 rfl rfl
theorem hdX4_fallsOf : yX4_fallsOf.cls ≠ "java/lang/invoke/MethodHandle" ∧ yX4_fallsOf.cls ≠ "java/lang/invoke/VarHandle" ∧ (parseMethodDescriptor yX4_fallsOf.desc).map (fun d => d.parameters.length) = some 1 := by decide +kernel
set_option maxRecDepth 100000 in
set_option maxHeartbeats 4000000 in
theorem wcX4_fallsOf : Cond.code yX4_fallsOf cX4_fallsOf 2 (some .int) ∈ eTb := tb3 170 rfl rfl
set_option maxRecDepth 100000 in
set_option maxHeartbeats 4000000 in
theorem wnX4_fallsOf : Cond.initialized yX4_fallsOf.cls ∈ eTb := tb1 4 rfl rfl
set_option maxRecDepth 100000 in
set_option maxHeartbeats 4000000 in
theorem wiX4_fallsOf : Cond.instanceMethod yX4_fallsOf ∈ eTb := tb3 168 rfl rfl
set_option maxRecDepth 100000 in
set_option maxHeartbeats 4000000 in
theorem wlX4_fallsOf : Cond.selects yX4_fallsOf.cls yX4_fallsOf yX4_fallsOf ∈ eTb := tb3 169 rfl rfl
theorem hdX4_isClass : yX4_isClass.cls ≠ "java/lang/invoke/MethodHandle" ∧ yX4_isClass.cls ≠ "java/lang/invoke/VarHandle" ∧ (parseMethodDescriptor yX4_isClass.desc).map (fun d => d.parameters.length) = some 1 := by decide +kernel
set_option maxRecDepth 100000 in
set_option maxHeartbeats 4000000 in
theorem wcX4_isClass : Cond.code yX4_isClass cX4_isClass 2 (some .boolean) ∈ eTb := tb3 95 rfl rfl
set_option maxRecDepth 100000 in
set_option maxHeartbeats 4000000 in
theorem wnX4_isClass : Cond.initialized yX4_isClass.cls ∈ eTb := tb1 4 rfl rfl
set_option maxRecDepth 100000 in
set_option maxHeartbeats 4000000 in
theorem wiX4_isClass : Cond.instanceMethod yX4_isClass ∈ eTb := tb3 93 rfl rfl
set_option maxRecDepth 100000 in
set_option maxHeartbeats 4000000 in
theorem wlX4_isClass : Cond.selects yX4_isClass.cls yX4_isClass yX4_isClass ∈ eTb := tb3 94 rfl rfl
theorem hdX4_isHolder : yX4_isHolder.cls ≠ "java/lang/invoke/MethodHandle" ∧ yX4_isHolder.cls ≠ "java/lang/invoke/VarHandle" ∧ (parseMethodDescriptor yX4_isHolder.desc).map (fun d => d.parameters.length) = some 1 := by decide +kernel
set_option maxRecDepth 100000 in
set_option maxHeartbeats 4000000 in
theorem wcX4_isHolder : Cond.code yX4_isHolder cX4_isHolder 2 (some .boolean) ∈ eTb := tb3 33 rfl rfl
set_option maxRecDepth 100000 in
set_option maxHeartbeats 4000000 in
theorem wnX4_isHolder : Cond.initialized yX4_isHolder.cls ∈ eTb := tb1 4 rfl rfl
set_option maxRecDepth 100000 in
set_option maxHeartbeats 4000000 in
theorem wiX4_isHolder : Cond.instanceMethod yX4_isHolder ∈ eTb := tb3 31 rfl rfl
set_option maxRecDepth 100000 in
set_option maxHeartbeats 4000000 in
theorem wlX4_isHolder : Cond.selects yX4_isHolder.cls yX4_isHolder yX4_isHolder ∈ eTb := tb3 32 rfl rfl
theorem hdX4_isWaived : yX4_isWaived.cls ≠ "java/lang/invoke/MethodHandle" ∧ yX4_isWaived.cls ≠ "java/lang/invoke/VarHandle" ∧ (parseMethodDescriptor yX4_isWaived.desc).map (fun d => d.parameters.length) = some 1 := by decide +kernel
set_option maxRecDepth 100000 in
set_option maxHeartbeats 4000000 in
theorem wcX4_isWaived : Cond.code yX4_isWaived cX4_isWaived 2 (some .boolean) ∈ eTb := tb3 99 rfl rfl
set_option maxRecDepth 100000 in
set_option maxHeartbeats 4000000 in
theorem wnX4_isWaived : Cond.initialized yX4_isWaived.cls ∈ eTb := tb1 4 rfl rfl
