set_option maxRecDepth 100000 in
set_option maxHeartbeats 4000000 in
theorem wnX12_topOf : Cond.initialized yX12_topOf.cls ∈ eTb := tb1 16 rfl rfl
set_option maxRecDepth 100000 in
set_option maxHeartbeats 4000000 in
theorem wiX12_topOf : Cond.instanceMethod yX12_topOf ∈ eTb := tb6 193 rfl rfl
set_option maxRecDepth 100000 in
set_option maxHeartbeats 4000000 in
theorem wlX12_topOf : Cond.selects yX12_topOf.cls yX12_topOf yX12_topOf ∈ eTb := tb0 60 rfl rfl
theorem hdX12_votesOf : yX12_votesOf.cls ≠ "java/lang/invoke/MethodHandle" ∧ yX12_votesOf.cls ≠ "java/lang/invoke/VarHandle" ∧ (parseMethodDescriptor yX12_votesOf.desc).map (fun d => d.parameters.length) = some 1 := by decide +kernel
set_option maxRecDepth 100000 in
set_option maxHeartbeats 4000000 in
theorem wcX12_votesOf : Cond.code yX12_votesOf cX12_votesOf 5 (some .int) ∈ eTb := tb7 56 rfl rfl
set_option maxRecDepth 100000 in
set_option maxHeartbeats 4000000 in
theorem wnX12_votesOf : Cond.initialized yX12_votesOf.cls ∈ eTb := tb1 16 rfl rfl
set_option maxRecDepth 100000 in
set_option maxHeartbeats 4000000 in
theorem wiX12_votesOf : Cond.instanceMethod yX12_votesOf ∈ eTb := tb7 55 rfl rfl
set_option maxRecDepth 100000 in
set_option maxHeartbeats 4000000 in
theorem wlX12_votesOf : Cond.selects yX12_votesOf.cls yX12_votesOf yX12_votesOf ∈ eTb := tb0 74 rfl rfl
theorem hdJ13_compare_74951 : yJ13_compare_74951.cls ≠ "java/lang/invoke/MethodHandle" ∧ yJ13_compare_74951.cls ≠ "java/lang/invoke/VarHandle" ∧ (parseMethodDescriptor yJ13_compare_74951.desc).map (fun d => d.parameters.length) = some 2 := by decide +kernel
set_option maxRecDepth 100000 in
set_option maxHeartbeats 4000000 in
theorem wcJ13_compare_74951 : Cond.code yJ13_compare_74951 cJ13_compare_74951 4 (some .int) ∈ eTb := tb4 28 rfl rfl
set_option maxRecDepth 100000 in
set_option maxHeartbeats 4000000 in
theorem wnJ13_compare_74951 : Cond.initialized yJ13_compare_74951.cls ∈ eTb := tb1 20 rfl rfl
set_option maxRecDepth 100000 in
set_option maxHeartbeats 4000000 in
theorem wsJ13_compare_74951 : Cond.static yJ13_compare_74951 ∈ eTb := tb4 27 rfl rfl
set_option maxRecDepth 100000 in
set_option maxHeartbeats 4000000 in
theorem gvX11_78 {Ts : List Cond} (hT : ∀ w ∈ eTb, w ∈ Ts) : GoodIn Ts (wsV RX11 78 yX10_put.cls yX10_put (eWd yX10_put cX10_put 3 none)) ∧ ∃ (T : u_T) (N : Nat), vwCl[9]? = some (yX10_put.cls, T, N) := ⟨eGoodV hT (tb2 189 rfl rfl) wiX10_put wlX10_put wnX10_put wcX10_put, TX10, 7, rfl⟩
set_option maxRecDepth 100000 in
set_option maxHeartbeats 4000000 in
theorem gvX11_82 {Ts : List Cond} (hT : ∀ w ∈ eTb, w ∈ Ts) : GoodIn Ts (wsV RX11 82 yX10_cut.cls yX10_cut (eWd yX10_cut cX10_cut 2 (some .boolean))) ∧ ∃ (T : u_T) (N : Nat), vwCl[9]? = some (yX10_cut.cls, T, N) := ⟨eGoodV hT (tb2 197 rfl rfl) wiX10_cut wlX10_cut wnX10_cut wcX10_cut, TX10, 7, rfl⟩
set_option maxRecDepth 100000 in
set_option maxHeartbeats 4000000 in
theorem gvX11_86 {Ts : List Cond} (hT : ∀ w ∈ eTb, w ∈ Ts) : GoodIn Ts (wsV RX11 86 yX8_readAll.cls yX8_readAll (eWd yX8_readAll cX8_readAll 2 (some .boolean))) ∧ ∃ (T : u_T) (N : Nat), vwCl[7]? = some (yX8_readAll.cls, T, N) := ⟨eGoodV hT (tb2 205 rfl rfl) wiX8_readAll wlX8_readAll wnX8_readAll wcX8_readAll, TX8, 7, rfl⟩
set_option maxRecDepth 100000 in
set_option maxHeartbeats 4000000 in
theorem gvX11_93 {Ts : List Cond} (hT : ∀ w ∈ eTb, w ∈ Ts) : GoodIn Ts (wsV RX11 93 yX4_become.cls yX4_become (eWd yX4_become cX4_become 2 none)) ∧ ∃ (T : u_T) (N : Nat), vwCl[4]? = some (yX4_become.cls, T, N) := ⟨eGoodV hT (tb3 67 rfl rfl) wiX4_become wlX4_become wnX4_become wcX4_become, TX4, 4, rfl⟩
set_option maxRecDepth 100000 in
set_option maxHeartbeats 4000000 in
theorem gvX11_118 {Ts : List Cond} (hT : ∀ w ∈ eTb, w ∈ Ts) : GoodIn Ts (wsV RX11 118 yX4_isHolder.cls yX4_isHolder (eWd yX4_isHolder cX4_isHolder 2 (some .boolean))) ∧ ∃ (T : u_T) (N : Nat), vwCl[4]? = some (yX4_isHolder.cls, T, N) := ⟨eGoodV hT (tb3 86 rfl rfl) wiX4_isHolder wlX4_isHolder wnX4_isHolder wcX4_isHolder, TX4, 4, rfl⟩
set_option maxRecDepth 100000 in
set_option maxHeartbeats 4000000 in
theorem gvX11_121 {Ts : List Cond} (hT : ∀ w ∈ eTb, w ∈ Ts) : GoodIn Ts (wsV RX11 121 yX4_fact.cls yX4_fact (eWd yX4_fact cX4_fact 3 (some .int))) ∧ ∃ (T : u_T) (N : Nat), vwCl[4]? = some (yX4_fact.cls, T, N) := ⟨eGoodV hT (tb3 87 rfl rfl) wiX4_fact wlX4_fact wnX4_fact wcX4_fact, TX4, 4, rfl⟩
set_option maxRecDepth 100000 in
set_option maxHeartbeats 4000000 in
theorem gvX11_125 {Ts : List Cond} (hT : ∀ w ∈ eTb, w ∈ Ts) : GoodIn Ts (wsV RX11 125 yX4_prefOf.cls yX4_prefOf (eWd yX4_prefOf cX4_prefOf 2 (some .int))) ∧ ∃ (T : u_T) (N : Nat), vwCl[4]? = some (yX4_prefOf.cls, T, N) := ⟨eGoodV hT (tb3 88 rfl rfl) wiX4_prefOf wlX4_prefOf wnX4_prefOf wcX4_prefOf, TX4, 4, rfl⟩
set_option maxRecDepth 100000 in
set_option maxHeartbeats 4000000 in
theorem gvX11_129 {Ts : List Cond} (hT : ∀ w ∈ eTb, w ∈ Ts) : GoodIn Ts (wsV RX11 129 yX11_isAsked.cls yX11_isAsked (eWd yX11_isAsked cX11_isAsked 3 (some .boolean))) ∧ ∃ (T : u_T) (N : Nat), vwCl[10]? = some (yX11_isAsked.cls, T, N) := ⟨eGoodV hT (tb3 104 rfl rfl) wiX11_isAsked wlX11_isAsked wnX11_isAsked wcX11_isAsked, TX11, 9, rfl⟩
set_option maxRecDepth 100000 in
set_option maxHeartbeats 4000000 in
theorem gvX11_133 {Ts : List Cond} (hT : ∀ w ∈ eTb, w ∈ Ts) : GoodIn Ts (va_wsS RX11 133 yX11_isAboveOrBelow (eWd yX11_isAboveOrBelow cX11_isAboveOrBelow 1 (some .boolean))) := eGoodS hT (tb3 112 rfl rfl) wsX11_isAboveOrBelow wnX11_isAboveOrBelow wcX11_isAboveOrBelow
set_option maxRecDepth 100000 in
set_option maxHeartbeats 4000000 in
theorem gvX11_138 {Ts : List Cond} (hT : ∀ w ∈ eTb, w ∈ Ts) : GoodIn Ts (wsV RX11 138 yX11_pour.cls yX11_pour (eWd yX11_pour cX11_pour 2 none)) ∧ ∃ (T : u_T) (N : Nat), vwCl[10]? = some (yX11_pour.cls, T, N) := ⟨eGoodV hT (tb3 116 rfl rfl) wiX11_pour wlX11_pour wnX11_pour wcX11_pour, TX11, 9, rfl⟩
set_option maxRecDepth 100000 in
set_option maxHeartbeats 4000000 in
theorem gvX11_141 {Ts : List Cond} (hT : ∀ w ∈ eTb, w ∈ Ts) : GoodIn Ts (wsV RX11 141 yX3_aboveOf.cls yX3_aboveOf (eWd yX3_aboveOf cX3_aboveOf 2 (some .long))) ∧ ∃ (T : u_T) (N : Nat), vwCl[3]? = some (yX3_aboveOf.cls, T, N) := ⟨eGoodV hT (tb3 208 rfl rfl) wiX3_aboveOf wlX3_aboveOf wnX3_aboveOf wcX3_aboveOf, TX3, 10, rfl⟩
set_option maxRecDepth 100000 in
set_option maxHeartbeats 4000000 in
theorem gvX11_149 {Ts : List Cond} (hT : ∀ w ∈ eTb, w ∈ Ts) : GoodIn Ts (va_wsS RX11 149 yX7_lowest (eWd yX7_lowest cX7_lowest 7 (some .long))) := eGoodS hT (tb3 212 rfl rfl) wsX7_lowest wnX7_lowest wcX7_lowest
set_option maxRecDepth 100000 in
set_option maxHeartbeats 4000000 in
theorem gvX11_155 {Ts : List Cond} (hT : ∀ w ∈ eTb, w ∈ Ts) : GoodIn Ts (wsV RX11 155 yX3_stateOf.cls yX3_stateOf (eWd yX3_stateOf cX3_stateOf 12 (some .int))) ∧ ∃ (T : u_T) (N : Nat), vwCl[3]? = some (yX3_stateOf.cls, T, N) := ⟨eGoodV hT (tb3 226 rfl rfl) wiX3_stateOf wlX3_stateOf wnX3_stateOf wcX3_stateOf, TX3, 10, rfl⟩
set_option maxRecDepth 100000 in
set_option maxHeartbeats 4000000 in
theorem gvX11_159 {Ts : List Cond} (hT : ∀ w ∈ eTb, w ∈ Ts) : GoodIn Ts (wsV RX11 159 yX11_unitsFor.cls yX11_unitsFor (eWd yX11_unitsFor cX11_unitsFor 3 (some .int))) ∧ ∃ (T : u_T) (N : Nat), vwCl[10]? = some (yX11_unitsFor.cls, T, N) := ⟨eGoodV hT (tb3 235 rfl rfl) wiX11_unitsFor wlX11_unitsFor wnX11_unitsFor wcX11_unitsFor, TX11, 9, rfl⟩
set_option maxRecDepth 100000 in
set_option maxHeartbeats 4000000 in
theorem gvX11_162 {Ts : List Cond} (hT : ∀ w ∈ eTb, w ∈ Ts) : GoodIn Ts (va_wsS RX11 162 yX11_isAmount (eWd yX11_isAmount cX11_isAmount 1 (some .boolean))) := eGoodS hT (tb3 108 rfl rfl) wsX11_isAmount wnX11_isAmount wcX11_isAmount
set_option maxRecDepth 100000 in
set_option maxHeartbeats 4000000 in
theorem gvX11_171 {Ts : List Cond} (hT : ∀ w ∈ eTb, w ∈ Ts) : GoodIn Ts (va_wsS RX11 171 yX11_isUnits (eWd yX11_isUnits cX11_isUnits 1 (some .boolean))) := eGoodS hT (tb4 11 rfl rfl) wsX11_isUnits wnX11_isUnits wcX11_isUnits
set_option maxRecDepth 100000 in
set_option maxHeartbeats 4000000 in
theorem gvX11_176 {Ts : List Cond} (hT : ∀ w ∈ eTb, w ∈ Ts) : GoodIn Ts (wsV RX11 176 yX11_firstAmount.cls yX11_firstAmount (eWd yX11_firstAmount cX11_firstAmount 11 (some .int))) ∧ ∃ (T : u_T) (N : Nat), vwCl[10]? = some (yX11_firstAmount.cls, T, N) := ⟨eGoodV hT (tb4 14 rfl rfl) wiX11_firstAmount wlX11_firstAmount wnX11_firstAmount wcX11_firstAmount, TX11, 9, rfl⟩
set_option maxRecDepth 100000 in
set_option maxHeartbeats 4000000 in
theorem gvX11_181 {Ts : List Cond} (hT : ∀ w ∈ eTb, w ∈ Ts) : GoodIn Ts (wsV RX11 181 yX3_arrange.cls yX3_arrange (eWd yX3_arrange cX3_arrange 5 none)) ∧ ∃ (T : u_T) (N : Nat), vwCl[3]? = some (yX3_arrange.cls, T, N) := ⟨eGoodV hT (tb3 120 rfl rfl) wiX3_arrange wlX3_arrange wnX3_arrange wcX3_arrange, TX3, 10, rfl⟩
set_option maxRecDepth 100000 in
set_option maxHeartbeats 4000000 in
theorem gvX11_185 {Ts : List Cond} (hT : ∀ w ∈ eTb, w ∈ Ts) : GoodIn Ts (wsV RX11 185 yX4_fallsOf.cls yX4_fallsOf (eWd yX4_fallsOf cX4_fallsOf 2 (some .int))) ∧ ∃ (T : u_T) (N : Nat), vwCl[4]? = some (yX4_fallsOf.cls, T, N) := ⟨eGoodV hT (tb3 167 rfl rfl) wiX4_fallsOf wlX4_fallsOf wnX4_fallsOf wcX4_fallsOf, TX4, 4, rfl⟩
set_option maxRecDepth 100000 in
set_option maxHeartbeats 4000000 in
theorem gvX11_188 {Ts : List Cond} (hT : ∀ w ∈ eTb, w ∈ Ts) : GoodIn Ts (wsV RX11 188 yX3_firstUnpaid.cls yX3_firstUnpaid (eWd yX3_firstUnpaid cX3_firstUnpaid 6 (some .int))) ∧ ∃ (T : u_T) (N : Nat), vwCl[3]? = some (yX3_firstUnpaid.cls, T, N) := ⟨eGoodV hT (tb4 37 rfl rfl) wiX3_firstUnpaid wlX3_firstUnpaid wnX3_firstUnpaid wcX3_firstUnpaid, TX3, 10, rfl⟩
set_option maxRecDepth 100000 in
set_option maxHeartbeats 4000000 in
theorem gvX11_192 {Ts : List Cond} (hT : ∀ w ∈ eTb, w ∈ Ts) : GoodIn Ts (wsV RX11 192 yX4_isClass.cls yX4_isClass (eWd yX4_isClass cX4_isClass 2 (some .boolean))) ∧ ∃ (T : u_T) (N : Nat), vwCl[4]? = some (yX4_isClass.cls, T, N) := ⟨eGoodV hT (tb4 42 rfl rfl) wiX4_isClass wlX4_isClass wnX4_isClass wcX4_isClass, TX4, 4, rfl⟩
set_option maxRecDepth 100000 in
set_option maxHeartbeats 4000000 in
theorem gvX11_195 {Ts : List Cond} (hT : ∀ w ∈ eTb, w ∈ Ts) : GoodIn Ts (wsV RX11 195 yX4_put.cls yX4_put (eWd yX4_put cX4_put 4 none)) ∧ ∃ (T : u_T) (N : Nat), vwCl[4]? = some (yX4_put.cls, T, N) := ⟨eGoodV hT (tb4 43 rfl rfl) wiX4_put wlX4_put wnX4_put wcX4_put, TX4, 4, rfl⟩
set_option maxRecDepth 100000 in
set_option maxHeartbeats 4000000 in
theorem gvX11_198 {Ts : List Cond} (hT : ∀ w ∈ eTb, w ∈ Ts) : GoodIn Ts (wsV RX11 198 yX3_reaches.cls yX3_reaches (eWd yX3_reaches cX3_reaches 8 (some .boolean))) ∧ ∃ (T : u_T) (N : Nat), vwCl[3]? = some (yX3_reaches.cls, T, N) := ⟨eGoodV hT (tb4 19 rfl rfl) wiX3_reaches wlX3_reaches wnX3_reaches wcX3_reaches, TX3, 10, rfl⟩
set_option maxRecDepth 100000 in
set_option maxHeartbeats 4000000 in
theorem gvX11_202 {Ts : List Cond} (hT : ∀ w ∈ eTb, w ∈ Ts) : GoodIn Ts (wsV RX11 202 yX4_takesShares.cls yX4_takesShares (eWd yX4_takesShares cX4_takesShares 3 (some .boolean))) ∧ ∃ (T : u_T) (N : Nat), vwCl[4]? = some (yX4_takesShares.cls, T, N) := ⟨eGoodV hT (tb4 48 rfl rfl) wiX4_takesShares wlX4_takesShares wnX4_takesShares wcX4_takesShares, TX4, 4, rfl⟩
set_option maxRecDepth 100000 in
set_option maxHeartbeats 4000000 in
theorem gvX11_206 {Ts : List Cond} (hT : ∀ w ∈ eTb, w ∈ Ts) : GoodIn Ts (wsV RX11 206 yX11_thoseWithMore.cls yX11_thoseWithMore (eWd yX11_thoseWithMore cX11_thoseWithMore 5 (some .int))) ∧ ∃ (T : u_T) (N : Nat), vwCl[10]? = some (yX11_thoseWithMore.cls, T, N) := ⟨eGoodV hT (tb4 57 rfl rfl) wiX11_thoseWithMore wlX11_thoseWithMore wnX11_thoseWithMore wcX11_thoseWithMore, TX11, 9, rfl⟩
set_option maxRecDepth 100000 in
set_option maxHeartbeats 4000000 in
theorem gvX11_209 {Ts : List Cond} (hT : ∀ w ∈ eTb, w ∈ Ts) : GoodIn Ts (wsV RX11 209 yX11_votesTogether.cls yX11_votesTogether (eWd yX11_votesTogether cX11_votesTogether 4 (some .int))) ∧ ∃ (T : u_T) (N : Nat), vwCl[10]? = some (yX11_votesTogether.cls, T, N) := ⟨eGoodV hT (tb4 75 rfl rfl) wiX11_votesTogether wlX11_votesTogether wnX11_votesTogether wcX11_votesTogether, TX11, 9, rfl⟩
set_option maxRecDepth 100000 in
set_option maxHeartbeats 4000000 in
theorem gvX11_212 {Ts : List Cond} (hT : ∀ w ∈ eTb, w ∈ Ts) : GoodIn Ts (wsV RX11 212 yX1_list.cls yX1_list (eWd yX1_list cX1_list 6 none)) ∧ ∃ (T : u_T) (N : Nat), vwCl[1]? = some (yX1_list.cls, T, N) := ⟨eGoodV hT (tb4 91 rfl rfl) wiX1_list wlX1_list wnX1_list wcX1_list, TX1, 6, rfl⟩
set_option maxRecDepth 100000 in
set_option maxHeartbeats 4000000 in
theorem gvX11_223 {Ts : List Cond} (hT : ∀ w ∈ eTb, w ∈ Ts) : GoodIn Ts (wsV RX11 223 yX1_findPart.cls yX1_findPart (eWd yX1_findPart cX1_findPart 4 none)) ∧ ∃ (T : u_T) (N : Nat), vwCl[1]? = some (yX1_findPart.cls, T, N) := ⟨eGoodV hT (tb4 108 rfl rfl) wiX1_findPart wlX1_findPart wnX1_findPart wcX1_findPart, TX1, 6, rfl⟩
set_option maxRecDepth 100000 in
set_option maxHeartbeats 4000000 in
theorem gvX11_233 {Ts : List Cond} (hT : ∀ w ∈ eTb, w ∈ Ts) : GoodIn Ts (wsV RX11 233 yX3_pour.cls yX3_pour (eWd yX3_pour cX3_pour 3 none)) ∧ ∃ (T : u_T) (N : Nat), vwCl[3]? = some (yX3_pour.cls, T, N) := ⟨eGoodV hT (tb3 172 rfl rfl) wiX3_pour wlX3_pour wnX3_pour wcX3_pour, TX3, 10, rfl⟩
set_option maxRecDepth 100000 in
set_option maxHeartbeats 4000000 in
theorem gvX11_236 {Ts : List Cond} (hT : ∀ w ∈ eTb, w ∈ Ts) : GoodIn Ts (wsV RX11 236 yX5_gather.cls yX5_gather (eWd yX5_gather cX5_gather 3 none)) ∧ ∃ (T : u_T) (N : Nat), vwCl[5]? = some (yX5_gather.cls, T, N) := ⟨eGoodV hT (tb4 137 rfl rfl) wiX5_gather wlX5_gather wnX5_gather wcX5_gather, TX5, 4, rfl⟩
set_option maxRecDepth 100000 in
set_option maxHeartbeats 4000000 in
theorem gvX11_239 {Ts : List Cond} (hT : ∀ w ∈ eTb, w ∈ Ts) : GoodIn Ts (wsV RX11 239 yX5_rowOf.cls yX5_rowOf (eWd yX5_rowOf cX5_rowOf 4 (some .int))) ∧ ∃ (T : u_T) (N : Nat), vwCl[5]? = some (yX5_rowOf.cls, T, N) := ⟨eGoodV hT (tb4 142 rfl rfl) wiX5_rowOf wlX5_rowOf wnX5_rowOf wcX5_rowOf, TX5, 4, rfl⟩
set_option maxRecDepth 100000 in
set_option maxHeartbeats 4000000 in
theorem gvX11_242 {Ts : List Cond} (hT : ∀ w ∈ eTb, w ∈ Ts) : GoodIn Ts (wsV RX11 242 yX5_playRound.cls yX5_playRound (eWd yX5_playRound cX5_playRound 7 none)) ∧ ∃ (T : u_T) (N : Nat), vwCl[5]? = some (yX5_playRound.cls, T, N) := ⟨eGoodV hT (tb4 146 rfl rfl) wiX5_playRound wlX5_playRound wnX5_playRound wcX5_playRound, TX5, 4, rfl⟩
set_option maxRecDepth 100000 in
set_option maxHeartbeats 4000000 in
theorem gvX11_246 {Ts : List Cond} (hT : ∀ w ∈ eTb, w ∈ Ts) : GoodIn Ts (wsV RX11 246 yX5_isSteady.cls yX5_isSteady (eWd yX5_isSteady cX5_isSteady 3 (some .boolean))) ∧ ∃ (T : u_T) (N : Nat), vwCl[5]? = some (yX5_isSteady.cls, T, N) := ⟨eGoodV hT (tb4 161 rfl rfl) wiX5_isSteady wlX5_isSteady wnX5_isSteady wcX5_isSteady, TX5, 4, rfl⟩
set_option maxRecDepth 100000 in
set_option maxHeartbeats 4000000 in
theorem gvX11_249 {Ts : List Cond} (hT : ∀ w ∈ eTb, w ∈ Ts) : GoodIn Ts (wsV RX11 249 yX5_playAll.cls yX5_playAll (eWd yX5_playAll cX5_playAll 6 none)) ∧ ∃ (T : u_T) (N : Nat), vwCl[5]? = some (yX5_playAll.cls, T, N) := ⟨eGoodV hT (tb4 174 rfl rfl) wiX5_playAll wlX5_playAll wnX5_playAll wcX5_playAll, TX5, 4, rfl⟩
set_option maxRecDepth 100000 in
set_option maxHeartbeats 4000000 in
theorem gvX11_253 {Ts : List Cond} (hT : ∀ w ∈ eTb, w ∈ Ts) : GoodIn Ts (wsV RX11 253 yX5_countSteady.cls yX5_countSteady (eWd yX5_countSteady cX5_countSteady 3 (some .int))) ∧ ∃ (T : u_T) (N : Nat), vwCl[5]? = some (yX5_countSteady.cls, T, N) := ⟨eGoodV hT (tb4 178 rfl rfl) wiX5_countSteady wlX5_countSteady wnX5_countSteady wcX5_countSteady, TX5, 4, rfl⟩
set_option maxRecDepth 100000 in
set_option maxHeartbeats 4000000 in
theorem gvX11_257 {Ts : List Cond} (hT : ∀ w ∈ eTb, w ∈ Ts) : GoodIn Ts (wsV RX11 257 yX5_steadySet.cls yX5_steadySet (eWd yX5_steadySet cX5_steadySet 4 (some .int))) ∧ ∃ (T : u_T) (N : Nat), vwCl[5]? = some (yX5_steadySet.cls, T, N) := ⟨eGoodV hT (tb4 183 rfl rfl) wiX5_steadySet wlX5_steadySet wnX5_steadySet wcX5_steadySet, TX5, 4, rfl⟩
set_option maxRecDepth 100000 in
set_option maxHeartbeats 4000000 in
theorem gvX11_260 {Ts : List Cond} (hT : ∀ w ∈ eTb, w ∈ Ts) : GoodIn Ts (wsV RX11 260 yX0_keepSale.cls yX0_keepSale (eWd yX0_keepSale cX0_keepSale 2 none)) ∧ ∃ (T : u_T) (N : Nat), vwCl[0]? = some (yX0_keepSale.cls, T, N) := ⟨eGoodV hT (tb4 191 rfl rfl) wiX0_keepSale wlX0_keepSale wnX0_keepSale wcX0_keepSale, TX0, 3, rfl⟩
set_option maxRecDepth 100000 in
set_option maxHeartbeats 4000000 in
theorem gvX11_264 {Ts : List Cond} (hT : ∀ w ∈ eTb, w ∈ Ts) : GoodIn Ts (wsV RX11 264 yX9_closeBy.cls yX9_closeBy (eWd yX9_closeBy cX9_closeBy 3 none)) ∧ ∃ (T : u_T) (N : Nat), vwCl[8]? = some (yX9_closeBy.cls, T, N) := ⟨eGoodV hT (tb4 206 rfl rfl) wiX9_closeBy wlX9_closeBy wnX9_closeBy wcX9_closeBy, TX9, 5, rfl⟩
set_option maxRecDepth 100000 in
set_option maxHeartbeats 4000000 in
theorem gvX11_274 {Ts : List Cond} (hT : ∀ w ∈ eTb, w ∈ Ts) : GoodIn Ts (wsV RX11 274 yX9_letGo.cls yX9_letGo (eWd yX9_letGo cX9_letGo 3 none)) ∧ ∃ (T : u_T) (N : Nat), vwCl[8]? = some (yX9_letGo.cls, T, N) := ⟨eGoodV hT (tb4 215 rfl rfl) wiX9_letGo wlX9_letGo wnX9_letGo wcX9_letGo, TX9, 5, rfl⟩
set_option maxRecDepth 100000 in
set_option maxHeartbeats 4000000 in
theorem gvX11_284 {Ts : List Cond} (hT : ∀ w ∈ eTb, w ∈ Ts) : GoodIn Ts (wsV RX11 284 yX11_saleOf.cls yX11_saleOf (eWd yX11_saleOf cX11_saleOf 3 (some .int))) ∧ ∃ (T : u_T) (N : Nat), vwCl[10]? = some (yX11_saleOf.cls, T, N) := ⟨eGoodV hT (tb4 223 rfl rfl) wiX11_saleOf wlX11_saleOf wnX11_saleOf wcX11_saleOf, TX11, 9, rfl⟩
set_option maxRecDepth 100000 in
set_option maxHeartbeats 4000000 in
theorem gvX11_287 {Ts : List Cond} (hT : ∀ w ∈ eTb, w ∈ Ts) : GoodIn Ts (wsV RX11 287 yX0_keep.cls yX0_keep (eWd yX0_keep cX0_keep 4 none)) ∧ ∃ (T : u_T) (N : Nat), vwCl[0]? = some (yX0_keep.cls, T, N) := ⟨eGoodV hT (tb4 231 rfl rfl) wiX0_keep wlX0_keep wnX0_keep wcX0_keep, TX0, 3, rfl⟩
set_option maxRecDepth 100000 in
set_option maxHeartbeats 4000000 in
theorem gvX11_290 {Ts : List Cond} (hT : ∀ w ∈ eTb, w ∈ Ts) : GoodIn Ts (wsV RX11 290 yX6_add.cls yX6_add (eWd yX6_add cX6_add 3 none)) ∧ ∃ (T : u_T) (N : Nat), vwCl[6]? = some (yX6_add.cls, T, N) := ⟨eGoodV hT (tb4 232 rfl rfl) wiX6_add wlX6_add wnX6_add wcX6_add, TX6, 3, rfl⟩
set_option maxRecDepth 100000 in
set_option maxHeartbeats 4000000 in
theorem gvX11_300 {Ts : List Cond} (hT : ∀ w ∈ eTb, w ∈ Ts) : GoodIn Ts (va_wsS RX11 300 yX7_asDouble (eWd yX7_asDouble cX7_asDouble 6 (some .double))) := eGoodS hT (tb5 0 rfl rfl) wsX7_asDouble wnX7_asDouble wcX7_asDouble
set_option maxRecDepth 100000 in
set_option maxHeartbeats 4000000 in
theorem gvX11_304 {Ts : List Cond} (hT : ∀ w ∈ eTb, w ∈ Ts) : GoodIn Ts (va_wsS RX11 304 yX7_bitsOfDouble (eWd yX7_bitsOfDouble cX7_bitsOfDouble 7 (some .long))) := eGoodS hT (tb5 4 rfl rfl) wsX7_bitsOfDouble wnX7_bitsOfDouble wcX7_bitsOfDouble
set_option maxRecDepth 100000 in
set_option maxHeartbeats 4000000 in
theorem gvX11_308 {Ts : List Cond} (hT : ∀ w ∈ eTb, w ∈ Ts) : GoodIn Ts (va_wsS RX11 308 yX7_asFloat (eWd yX7_asFloat cX7_asFloat 6 (some .float))) := eGoodS hT (tb5 14 rfl rfl) wsX7_asFloat wnX7_asFloat wcX7_asFloat
set_option maxRecDepth 100000 in
set_option maxHeartbeats 4000000 in
theorem gvX11_312 {Ts : List Cond} (hT : ∀ w ∈ eTb, w ∈ Ts) : GoodIn Ts (wsV RX11 312 yX4_costOf.cls yX4_costOf (eWd yX4_costOf cX4_costOf 2 (some .int))) ∧ ∃ (T : u_T) (N : Nat), vwCl[4]? = some (yX4_costOf.cls, T, N) := ⟨eGoodV hT (tb5 17 rfl rfl) wiX4_costOf wlX4_costOf wnX4_costOf wcX4_costOf, TX4, 4, rfl⟩
set_option maxRecDepth 100000 in
set_option maxHeartbeats 4000000 in
theorem gvX11_315 {Ts : List Cond} (hT : ∀ w ∈ eTb, w ∈ Ts) : GoodIn Ts (va_wsS RX11 315 yX7_bitsOfFloat (eWd yX7_bitsOfFloat cX7_bitsOfFloat 4 (some .int))) := eGoodS hT (tb5 21 rfl rfl) wsX7_bitsOfFloat wnX7_bitsOfFloat wcX7_bitsOfFloat
set_option maxRecDepth 100000 in
set_option maxHeartbeats 4000000 in
theorem gvX11_319 {Ts : List Cond} (hT : ∀ w ∈ eTb, w ∈ Ts) : GoodIn Ts (va_wsS RX11 319 yX7_grown (eWd yX7_grown cX7_grown 7 (some .double))) := eGoodS hT (tb5 29 rfl rfl) wsX7_grown wnX7_grown wcX7_grown
set_option maxRecDepth 100000 in
set_option maxHeartbeats 4000000 in
theorem gvX11_323 {Ts : List Cond} (hT : ∀ w ∈ eTb, w ∈ Ts) : GoodIn Ts (wsV RX11 323 yX4_isWaived.cls yX4_isWaived (eWd yX4_isWaived cX4_isWaived 2 (some .boolean))) ∧ ∃ (T : u_T) (N : Nat), vwCl[4]? = some (yX4_isWaived.cls, T, N) := ⟨eGoodV hT (tb5 41 rfl rfl) wiX4_isWaived wlX4_isWaived wnX4_isWaived wcX4_isWaived, TX4, 4, rfl⟩
set_option maxRecDepth 100000 in
set_option maxHeartbeats 4000000 in
theorem gvX11_326 {Ts : List Cond} (hT : ∀ w ∈ eTb, w ∈ Ts) : GoodIn Ts (wsV RX11 326 yX0_latest.cls yX0_latest (eWd yX0_latest cX0_latest 3 (some .int))) ∧ ∃ (T : u_T) (N : Nat), vwCl[0]? = some (yX0_latest.cls, T, N) := ⟨eGoodV hT (tb5 50 rfl rfl) wiX0_latest wlX0_latest wnX0_latest wcX0_latest, TX0, 3, rfl⟩
set_option maxRecDepth 100000 in
set_option maxHeartbeats 4000000 in
theorem gvX11_329 {Ts : List Cond} (hT : ∀ w ∈ eTb, w ∈ Ts) : GoodIn Ts (wsV RX11 329 yX0_giveBackSale.cls yX0_giveBackSale (eWd yX0_giveBackSale cX0_giveBackSale 2 none)) ∧ ∃ (T : u_T) (N : Nat), vwCl[0]? = some (yX0_giveBackSale.cls, T, N) := ⟨eGoodV hT (tb5 54 rfl rfl) wiX0_giveBackSale wlX0_giveBackSale wnX0_giveBackSale wcX0_giveBackSale, TX0, 3, rfl⟩
set_option maxRecDepth 100000 in
set_option maxHeartbeats 4000000 in
theorem gvX11_332 {Ts : List Cond} (hT : ∀ w ∈ eTb, w ∈ Ts) : GoodIn Ts (wsV RX11 332 yX6_dropLatest.cls yX6_dropLatest (eWd yX6_dropLatest cX6_dropLatest 1 none)) ∧ ∃ (T : u_T) (N : Nat), vwCl[6]? = some (yX6_dropLatest.cls, T, N) := ⟨eGoodV hT (tb5 59 rfl rfl) wiX6_dropLatest wlX6_dropLatest wnX6_dropLatest wcX6_dropLatest, TX6, 3, rfl⟩
set_option maxRecDepth 100000 in
set_option maxHeartbeats 4000000 in
theorem gvX11_335 {Ts : List Cond} (hT : ∀ w ∈ eTb, w ∈ Ts) : GoodIn Ts (wsV RX11 335 yX0_dropLatest.cls yX0_dropLatest (eWd yX0_dropLatest cX0_dropLatest 1 none)) ∧ ∃ (T : u_T) (N : Nat), vwCl[0]? = some (yX0_dropLatest.cls, T, N) := ⟨eGoodV hT (tb5 63 rfl rfl) wiX0_dropLatest wlX0_dropLatest wnX0_dropLatest wcX0_dropLatest, TX0, 3, rfl⟩
set_option maxRecDepth 100000 in
set_option maxHeartbeats 4000000 in
theorem gvX11_336 {Ts : List Cond} (hT : ∀ w ∈ eTb, w ∈ Ts) : GoodIn Ts (wsV RX11 336 yX3_unitsOf.cls yX3_unitsOf (eWd yX3_unitsOf cX3_unitsOf 13 (some .int))) ∧ ∃ (T : u_T) (N : Nat), vwCl[3]? = some (yX3_unitsOf.cls, T, N) := ⟨eGoodV hT (tb3 239 rfl rfl) wiX3_unitsOf wlX3_unitsOf wnX3_unitsOf wcX3_unitsOf, TX3, 10, rfl⟩
set_option maxRecDepth 100000 in
set_option maxHeartbeats 4000000 in
theorem gvX11_340 {Ts : List Cond} (hT : ∀ w ∈ eTb, w ∈ Ts) : GoodIn Ts (wsV RX11 340 yX3_remember.cls yX3_remember (eWd yX3_remember cX3_remember 1 none)) ∧ ∃ (T : u_T) (N : Nat), vwCl[3]? = some (yX3_remember.cls, T, N) := ⟨eGoodV hT (tb4 61 rfl rfl) wiX3_remember wlX3_remember wnX3_remember wcX3_remember, TX3, 10, rfl⟩
set_option maxRecDepth 100000 in
set_option maxHeartbeats 4000000 in
theorem gvX11_343 {Ts : List Cond} (hT : ∀ w ∈ eTb, w ∈ Ts) : GoodIn Ts (wsV RX11 343 yX3_hasMoreThanRemembered.cls yX3_hasMoreThanRemembered (eWd yX3_hasMoreThanRemembered cX3_hasMoreThanRemembered 2 (some .boolean))) ∧ ∃ (T : u_T) (N : Nat), vwCl[3]? = some (yX3_hasMoreThanRemembered.cls, T, N) := ⟨eGoodV hT (tb4 66 rfl rfl) wiX3_hasMoreThanRemembered wlX3_hasMoreThanRemembered wnX3_hasMoreThanRemembered wcX3_hasMoreThanRemembered, TX3, 10, rfl⟩
set_option maxRecDepth 100000 in
set_option maxHeartbeats 4000000 in
theorem gvX11_346 {Ts : List Cond} (hT : ∀ w ∈ eTb, w ∈ Ts) : GoodIn Ts (wsV RX11 346 yX4_votesOf.cls yX4_votesOf (eWd yX4_votesOf cX4_votesOf 2 (some .int))) ∧ ∃ (T : u_T) (N : Nat), vwCl[4]? = some (yX4_votesOf.cls, T, N) := ⟨eGoodV hT (tb4 79 rfl rfl) wiX4_votesOf wlX4_votesOf wnX4_votesOf wcX4_votesOf, TX4, 4, rfl⟩
set_option maxRecDepth 100000 in
set_option maxHeartbeats 4000000 in
theorem gvX0_28 {Ts : List Cond} (hT : ∀ w ∈ eTb, w ∈ Ts) : GoodIn Ts (wsV RX0 28 yX0_put.cls yX0_put (eWd yX0_put cX0_put 4 none)) ∧ ∃ (T : u_T) (N : Nat), vwCl[0]? = some (yX0_put.cls, T, N) := ⟨eGoodV hT (tb4 202 rfl rfl) wiX0_put wlX0_put wnX0_put wcX0_put, TX0, 3, rfl⟩
set_option maxRecDepth 100000 in
set_option maxHeartbeats 4000000 in
theorem gvX0_32 {Ts : List Cond} (hT : ∀ w ∈ eTb, w ∈ Ts) : GoodIn Ts (wsV RX0 32 yX0_keep.cls yX0_keep (eWd yX0_keep cX0_keep 4 none)) ∧ ∃ (T : u_T) (N : Nat), vwCl[0]? = some (yX0_keep.cls, T, N) := ⟨eGoodV hT (tb4 195 rfl rfl) wiX0_keep wlX0_keep wnX0_keep wcX0_keep, TX0, 3, rfl⟩
set_option maxRecDepth 100000 in
set_option maxHeartbeats 4000000 in
theorem gvX0_54 {Ts : List Cond} (hT : ∀ w ∈ eTb, w ∈ Ts) : GoodIn Ts (wsV RX0 54 yX0_latest.cls yX0_latest (eWd yX0_latest cX0_latest 3 (some .int))) ∧ ∃ (T : u_T) (N : Nat), vwCl[0]? = some (yX0_latest.cls, T, N) := ⟨eGoodV hT (tb5 58 rfl rfl) wiX0_latest wlX0_latest wnX0_latest wcX0_latest, TX0, 3, rfl⟩
set_option maxRecDepth 100000 in
set_option maxHeartbeats 4000000 in
theorem gvX1_31 {Ts : List Cond} (hT : ∀ w ∈ eTb, w ∈ Ts) : GoodIn Ts (wsV RX1 31 yX1_add.cls yX1_add (eWd yX1_add cX1_add 10 none)) ∧ ∃ (T : u_T) (N : Nat), vwCl[1]? = some (yX1_add.cls, T, N) := ⟨eGoodV hT (tb4 95 rfl rfl) wiX1_add wlX1_add wnX1_add wcX1_add, TX1, 6, rfl⟩
set_option maxRecDepth 100000 in
set_option maxHeartbeats 4000000 in
theorem gvX1_42 {Ts : List Cond} (hT : ∀ w ∈ eTb, w ∈ Ts) : GoodIn Ts (wsV RX1 42 yX2_restart.cls yX2_restart (eWd yX2_restart cX2_restart 2 none)) ∧ ∃ (T : u_T) (N : Nat), vwCl[2]? = some (yX2_restart.cls, T, N) := ⟨eGoodV hT (tb4 100 rfl rfl) wiX2_restart wlX2_restart wnX2_restart wcX2_restart, TX2, 14, rfl⟩
set_option maxRecDepth 100000 in
set_option maxHeartbeats 4000000 in
theorem gvX1_50 {Ts : List Cond} (hT : ∀ w ∈ eTb, w ∈ Ts) : GoodIn Ts (wsV RX1 50 yX2_totalAt.cls yX2_totalAt (eWd yX2_totalAt cX2_totalAt 3 (some .long))) ∧ ∃ (T : u_T) (N : Nat), vwCl[2]? = some (yX2_totalAt.cls, T, N) := ⟨eGoodV hT (tb4 101 rfl rfl) wiX2_totalAt wlX2_totalAt wnX2_totalAt wcX2_totalAt, TX2, 14, rfl⟩
set_option maxRecDepth 100000 in
set_option maxHeartbeats 4000000 in
theorem gvX1_54 {Ts : List Cond} (hT : ∀ w ∈ eTb, w ∈ Ts) : GoodIn Ts (wsV RX1 54 yX2_ratioAt.cls yX2_ratioAt (eWd yX2_ratioAt cX2_ratioAt 2 (some .int))) ∧ ∃ (T : u_T) (N : Nat), vwCl[2]? = some (yX2_ratioAt.cls, T, N) := ⟨eGoodV hT (tb4 102 rfl rfl) wiX2_ratioAt wlX2_ratioAt wnX2_ratioAt wcX2_ratioAt, TX2, 14, rfl⟩
set_option maxRecDepth 100000 in
set_option maxHeartbeats 4000000 in
theorem gvX1_58 {Ts : List Cond} (hT : ∀ w ∈ eTb, w ∈ Ts) : GoodIn Ts (wsV RX1 58 yX2_take.cls yX2_take (eWd yX2_take cX2_take 4 none)) ∧ ∃ (T : u_T) (N : Nat), vwCl[2]? = some (yX2_take.cls, T, N) := ⟨eGoodV hT (tb4 103 rfl rfl) wiX2_take wlX2_take wnX2_take wcX2_take, TX2, 14, rfl⟩
set_option maxRecDepth 100000 in
set_option maxHeartbeats 4000000 in
theorem gvX1_62 {Ts : List Cond} (hT : ∀ w ∈ eTb, w ∈ Ts) : GoodIn Ts (va_wsS RX1 62 yX7_lowest (eWd yX7_lowest cX7_lowest 7 (some .long))) := eGoodS hT (tb4 99 rfl rfl) wsX7_lowest wnX7_lowest wcX7_lowest
set_option maxRecDepth 100000 in
set_option maxHeartbeats 4000000 in
theorem gvX1_68 {Ts : List Cond} (hT : ∀ w ∈ eTb, w ∈ Ts) : GoodIn Ts (wsV RX1 68 yX1_findPartOfRank.cls yX1_findPartOfRank (eWd yX1_findPartOfRank cX1_findPartOfRank 7 none)) ∧ ∃ (T : u_T) (N : Nat), vwCl[1]? = some (yX1_findPartOfRank.cls, T, N) := ⟨eGoodV hT (tb4 112 rfl rfl) wiX1_findPartOfRank wlX1_findPartOfRank wnX1_findPartOfRank wcX1_findPartOfRank, TX1, 6, rfl⟩
set_option maxRecDepth 100000 in
set_option maxHeartbeats 4000000 in
theorem gvX1_72 {Ts : List Cond} (hT : ∀ w ∈ eTb, w ∈ Ts) : GoodIn Ts (wsV RX1 72 yX1_findPartByLevel.cls yX1_findPartByLevel (eWd yX1_findPartByLevel cX1_findPartByLevel 5 none)) ∧ ∃ (T : u_T) (N : Nat), vwCl[1]? = some (yX1_findPartByLevel.cls, T, N) := ⟨eGoodV hT (tb4 124 rfl rfl) wiX1_findPartByLevel wlX1_findPartByLevel wnX1_findPartByLevel wcX1_findPartByLevel, TX1, 6, rfl⟩
set_option maxRecDepth 100000 in
set_option maxHeartbeats 4000000 in
theorem gvX1_77 {Ts : List Cond} (hT : ∀ w ∈ eTb, w ∈ Ts) : GoodIn Ts (wsV RX1 77 yX3_rankOf.cls yX3_rankOf (eWd yX3_rankOf cX3_rankOf 2 (some .int))) ∧ ∃ (T : u_T) (N : Nat), vwCl[3]? = some (yX3_rankOf.cls, T, N) := ⟨eGoodV hT (tb4 116 rfl rfl) wiX3_rankOf wlX3_rankOf wnX3_rankOf wcX3_rankOf, TX3, 10, rfl⟩
set_option maxRecDepth 100000 in
set_option maxHeartbeats 4000000 in
theorem gvX1_83 {Ts : List Cond} (hT : ∀ w ∈ eTb, w ∈ Ts) : GoodIn Ts (wsV RX1 83 yX1_setPart.cls yX1_setPart (eWd yX1_setPart cX1_setPart 5 none)) ∧ ∃ (T : u_T) (N : Nat), vwCl[1]? = some (yX1_setPart.cls, T, N) := ⟨eGoodV hT (tb4 120 rfl rfl) wiX1_setPart wlX1_setPart wnX1_setPart wcX1_setPart, TX1, 6, rfl⟩
set_option maxRecDepth 100000 in
set_option maxHeartbeats 4000000 in
theorem gvX1_86 {Ts : List Cond} (hT : ∀ w ∈ eTb, w ∈ Ts) : GoodIn Ts (wsV RX1 86 yX2_sweep.cls yX2_sweep (eWd yX2_sweep cX2_sweep 11 none)) ∧ ∃ (T : u_T) (N : Nat), vwCl[2]? = some (yX2_sweep.cls, T, N) := ⟨eGoodV hT (tb4 128 rfl rfl) wiX2_sweep wlX2_sweep wnX2_sweep wcX2_sweep, TX2, 14, rfl⟩
set_option maxRecDepth 100000 in
set_option maxHeartbeats 4000000 in
theorem gvX2_50 {Ts : List Cond} (hT : ∀ w ∈ eTb, w ∈ Ts) : GoodIn Ts (wsV RX2 50 yX2_isLater.cls yX2_isLater (eWd yX2_isLater cX2_isLater 3 (some .boolean))) ∧ ∃ (T : u_T) (N : Nat), vwCl[2]? = some (yX2_isLater.cls, T, N) := ⟨eGoodV hT (tb3 158 rfl rfl) wiX2_isLater wlX2_isLater wnX2_isLater wcX2_isLater, TX2, 14, rfl⟩
set_option maxRecDepth 100000 in
set_option maxHeartbeats 4000000 in
theorem gvX2_61 {Ts : List Cond} (hT : ∀ w ∈ eTb, w ∈ Ts) : GoodIn Ts (wsV RX2 61 yX2_restart.cls yX2_restart (eWd yX2_restart cX2_restart 2 none)) ∧ ∃ (T : u_T) (N : Nat), vwCl[2]? = some (yX2_restart.cls, T, N) := ⟨eGoodV hT (tb3 192 rfl rfl) wiX2_restart wlX2_restart wnX2_restart wcX2_restart, TX2, 14, rfl⟩
set_option maxRecDepth 100000 in
set_option maxHeartbeats 4000000 in
theorem gvX2_64 {Ts : List Cond} (hT : ∀ w ∈ eTb, w ∈ Ts) : GoodIn Ts (wsV RX2 64 yX2_totalAt.cls yX2_totalAt (eWd yX2_totalAt cX2_totalAt 3 (some .long))) ∧ ∃ (T : u_T) (N : Nat), vwCl[2]? = some (yX2_totalAt.cls, T, N) := ⟨eGoodV hT (tb3 196 rfl rfl) wiX2_totalAt wlX2_totalAt wnX2_totalAt wcX2_totalAt, TX2, 14, rfl⟩
set_option maxRecDepth 100000 in
set_option maxHeartbeats 4000000 in
theorem gvX2_68 {Ts : List Cond} (hT : ∀ w ∈ eTb, w ∈ Ts) : GoodIn Ts (wsV RX2 68 yX2_ratioAt.cls yX2_ratioAt (eWd yX2_ratioAt cX2_ratioAt 2 (some .int))) ∧ ∃ (T : u_T) (N : Nat), vwCl[2]? = some (yX2_ratioAt.cls, T, N) := ⟨eGoodV hT (tb3 200 rfl rfl) wiX2_ratioAt wlX2_ratioAt wnX2_ratioAt wcX2_ratioAt, TX2, 14, rfl⟩
set_option maxRecDepth 100000 in
set_option maxHeartbeats 4000000 in
theorem gvX2_72 {Ts : List Cond} (hT : ∀ w ∈ eTb, w ∈ Ts) : GoodIn Ts (wsV RX2 72 yX2_take.cls yX2_take (eWd yX2_take cX2_take 4 none)) ∧ ∃ (T : u_T) (N : Nat), vwCl[2]? = some (yX2_take.cls, T, N) := ⟨eGoodV hT (tb3 204 rfl rfl) wiX2_take wlX2_take wnX2_take wcX2_take, TX2, 14, rfl⟩
set_option maxRecDepth 100000 in
set_option maxHeartbeats 4000000 in
theorem gvX3_42 {Ts : List Cond} (hT : ∀ w ∈ eTb, w ∈ Ts) : GoodIn Ts (wsV RX3 42 yX2_clear.cls yX2_clear (eWd yX2_clear cX2_clear 1 none)) ∧ ∃ (T : u_T) (N : Nat), vwCl[2]? = some (yX2_clear.cls, T, N) := ⟨eGoodV hT (tb3 124 rfl rfl) wiX2_clear wlX2_clear wnX2_clear wcX2_clear, TX2, 14, rfl⟩
set_option maxRecDepth 100000 in
set_option maxHeartbeats 4000000 in
theorem gvX3_54 {Ts : List Cond} (hT : ∀ w ∈ eTb, w ∈ Ts) : GoodIn Ts (wsV RX3 54 yX4_fact.cls yX4_fact (eWd yX4_fact cX4_fact 3 (some .int))) ∧ ∃ (T : u_T) (N : Nat), vwCl[4]? = some (yX4_fact.cls, T, N) := ⟨eGoodV hT (tb3 128 rfl rfl) wiX4_fact wlX4_fact wnX4_fact wcX4_fact, TX4, 4, rfl⟩
set_option maxRecDepth 100000 in
set_option maxHeartbeats 4000000 in
theorem gvX3_58 {Ts : List Cond} (hT : ∀ w ∈ eTb, w ∈ Ts) : GoodIn Ts (wsV RX3 58 yX4_isClass.cls yX4_isClass (eWd yX4_isClass cX4_isClass 2 (some .boolean))) ∧ ∃ (T : u_T) (N : Nat), vwCl[4]? = some (yX4_isClass.cls, T, N) := ⟨eGoodV hT (tb3 129 rfl rfl) wiX4_isClass wlX4_isClass wnX4_isClass wcX4_isClass, TX4, 4, rfl⟩
set_option maxRecDepth 100000 in
set_option maxHeartbeats 4000000 in
theorem gvX3_62 {Ts : List Cond} (hT : ∀ w ∈ eTb, w ∈ Ts) : GoodIn Ts (wsV RX3 62 yX3_addClass.cls yX3_addClass (eWd yX3_addClass cX3_addClass 13 none)) ∧ ∃ (T : u_T) (N : Nat), vwCl[3]? = some (yX3_addClass.cls, T, N) := ⟨eGoodV hT (tb3 130 rfl rfl) wiX3_addClass wlX3_addClass wnX3_addClass wcX3_addClass, TX3, 10, rfl⟩
set_option maxRecDepth 100000 in
set_option maxHeartbeats 4000000 in
theorem gvX3_66 {Ts : List Cond} (hT : ∀ w ∈ eTb, w ∈ Ts) : GoodIn Ts (wsV RX3 66 yX3_addOther.cls yX3_addOther (eWd yX3_addOther cX3_addOther 8 none)) ∧ ∃ (T : u_T) (N : Nat), vwCl[3]? = some (yX3_addOther.cls, T, N) := ⟨eGoodV hT (tb3 162 rfl rfl) wiX3_addOther wlX3_addOther wnX3_addOther wcX3_addOther, TX3, 10, rfl⟩
set_option maxRecDepth 100000 in
set_option maxHeartbeats 4000000 in
theorem gvX3_72 {Ts : List Cond} (hT : ∀ w ∈ eTb, w ∈ Ts) : GoodIn Ts (wsV RX3 72 yX2_addHolder.cls yX2_addHolder (eWd yX2_addHolder cX2_addHolder 5 none)) ∧ ∃ (T : u_T) (N : Nat), vwCl[2]? = some (yX2_addHolder.cls, T, N) := ⟨eGoodV hT (tb3 138 rfl rfl) wiX2_addHolder wlX2_addHolder wnX2_addHolder wcX2_addHolder, TX2, 14, rfl⟩
set_option maxRecDepth 100000 in
set_option maxHeartbeats 4000000 in
theorem gvX3_76 {Ts : List Cond} (hT : ∀ w ∈ eTb, w ∈ Ts) : GoodIn Ts (wsV RX3 76 yX2_addStep.cls yX2_addStep (eWd yX2_addStep cX2_addStep 8 none)) ∧ ∃ (T : u_T) (N : Nat), vwCl[2]? = some (yX2_addStep.cls, T, N) := ⟨eGoodV hT (tb3 154 rfl rfl) wiX2_addStep wlX2_addStep wnX2_addStep wcX2_addStep, TX2, 14, rfl⟩
set_option maxRecDepth 100000 in
set_option maxHeartbeats 4000000 in
theorem gvX3_80 {Ts : List Cond} (hT : ∀ w ∈ eTb, w ∈ Ts) : GoodIn Ts (wsV RX3 80 yX4_canTurn.cls yX4_canTurn (eWd yX4_canTurn cX4_canTurn 2 (some .boolean))) ∧ ∃ (T : u_T) (N : Nat), vwCl[4]? = some (yX4_canTurn.cls, T, N) := ⟨eGoodV hT (tb3 134 rfl rfl) wiX4_canTurn wlX4_canTurn wnX4_canTurn wcX4_canTurn, TX4, 4, rfl⟩
set_option maxRecDepth 100000 in
set_option maxHeartbeats 4000000 in
theorem gvX3_83 {Ts : List Cond} (hT : ∀ w ∈ eTb, w ∈ Ts) : GoodIn Ts (wsV RX3 83 yX4_prefOf.cls yX4_prefOf (eWd yX4_prefOf cX4_prefOf 2 (some .int))) ∧ ∃ (T : u_T) (N : Nat), vwCl[4]? = some (yX4_prefOf.cls, T, N) := ⟨eGoodV hT (tb3 142 rfl rfl) wiX4_prefOf wlX4_prefOf wnX4_prefOf wcX4_prefOf, TX4, 4, rfl⟩
set_option maxRecDepth 100000 in
set_option maxHeartbeats 4000000 in
theorem gvX3_87 {Ts : List Cond} (hT : ∀ w ∈ eTb, w ∈ Ts) : GoodIn Ts (wsV RX3 87 yX3_countPrefs.cls yX3_countPrefs (eWd yX3_countPrefs cX3_countPrefs 4 none)) ∧ ∃ (T : u_T) (N : Nat), vwCl[3]? = some (yX3_countPrefs.cls, T, N) := ⟨eGoodV hT (tb3 143 rfl rfl) wiX3_countPrefs wlX3_countPrefs wnX3_countPrefs wcX3_countPrefs, TX3, 10, rfl⟩
set_option maxRecDepth 100000 in
set_option maxHeartbeats 4000000 in
theorem gvX3_91 {Ts : List Cond} (hT : ∀ w ∈ eTb, w ∈ Ts) : GoodIn Ts (wsV RX3 91 yX4_lidOf.cls yX4_lidOf (eWd yX4_lidOf cX4_lidOf 3 (some .int))) ∧ ∃ (T : u_T) (N : Nat), vwCl[4]? = some (yX4_lidOf.cls, T, N) := ⟨eGoodV hT (tb3 147 rfl rfl) wiX4_lidOf wlX4_lidOf wnX4_lidOf wcX4_lidOf, TX4, 4, rfl⟩
set_option maxRecDepth 100000 in
set_option maxHeartbeats 4000000 in
theorem gvX3_97 {Ts : List Cond} (hT : ∀ w ∈ eTb, w ∈ Ts) : GoodIn Ts (wsV RX3 97 yX3_pourByRanks.cls yX3_pourByRanks (eWd yX3_pourByRanks cX3_pourByRanks 9 none)) ∧ ∃ (T : u_T) (N : Nat), vwCl[3]? = some (yX3_pourByRanks.cls, T, N) := ⟨eGoodV hT (tb3 176 rfl rfl) wiX3_pourByRanks wlX3_pourByRanks wnX3_pourByRanks wcX3_pourByRanks, TX3, 10, rfl⟩
set_option maxRecDepth 100000 in
set_option maxHeartbeats 4000000 in
theorem gvX3_101 {Ts : List Cond} (hT : ∀ w ∈ eTb, w ∈ Ts) : GoodIn Ts (wsV RX3 101 yX3_pourByLevel.cls yX3_pourByLevel (eWd yX3_pourByLevel cX3_pourByLevel 7 none)) ∧ ∃ (T : u_T) (N : Nat), vwCl[3]? = some (yX3_pourByLevel.cls, T, N) := ⟨eGoodV hT (tb3 184 rfl rfl) wiX3_pourByLevel wlX3_pourByLevel wnX3_pourByLevel wcX3_pourByLevel, TX3, 10, rfl⟩
set_option maxRecDepth 100000 in
set_option maxHeartbeats 4000000 in
theorem gvX3_104 {Ts : List Cond} (hT : ∀ w ∈ eTb, w ∈ Ts) : GoodIn Ts (wsV RX3 104 yX3_firstUnpaid.cls yX3_firstUnpaid (eWd yX3_firstUnpaid cX3_firstUnpaid 6 (some .int))) ∧ ∃ (T : u_T) (N : Nat), vwCl[3]? = some (yX3_firstUnpaid.cls, T, N) := ⟨eGoodV hT (tb3 180 rfl rfl) wiX3_firstUnpaid wlX3_firstUnpaid wnX3_firstUnpaid wcX3_firstUnpaid, TX3, 10, rfl⟩
set_option maxRecDepth 100000 in
set_option maxHeartbeats 4000000 in
theorem gvX3_112 {Ts : List Cond} (hT : ∀ w ∈ eTb, w ∈ Ts) : GoodIn Ts (wsV RX3 112 yX2_sweep.cls yX2_sweep (eWd yX2_sweep cX2_sweep 11 none)) ∧ ∃ (T : u_T) (N : Nat), vwCl[2]? = some (yX2_sweep.cls, T, N) := ⟨eGoodV hT (tb3 188 rfl rfl) wiX2_sweep wlX2_sweep wnX2_sweep wcX2_sweep, TX2, 14, rfl⟩
set_option maxRecDepth 100000 in
set_option maxHeartbeats 4000000 in
theorem gvX3_128 {Ts : List Cond} (hT : ∀ w ∈ eTb, w ∈ Ts) : GoodIn Ts (wsV RX3 128 yX3_aboveOf.cls yX3_aboveOf (eWd yX3_aboveOf cX3_aboveOf 2 (some .long))) ∧ ∃ (T : u_T) (N : Nat), vwCl[3]? = some (yX3_aboveOf.cls, T, N) := ⟨eGoodV hT (tb3 230 rfl rfl) wiX3_aboveOf wlX3_aboveOf wnX3_aboveOf wcX3_aboveOf, TX3, 10, rfl⟩
set_option maxRecDepth 100000 in
set_option maxHeartbeats 4000000 in
theorem gvX3_132 {Ts : List Cond} (hT : ∀ w ∈ eTb, w ∈ Ts) : GoodIn Ts (va_wsS RX3 132 yX7_compareFractions (eWd yX7_compareFractions cX7_compareFractions 22 (some .int))) := eGoodS hT (tb4 23 rfl rfl) wsX7_compareFractions wnX7_compareFractions wcX7_compareFractions
set_option maxRecDepth 100000 in
set_option maxHeartbeats 4000000 in
theorem gvX3_144 {Ts : List Cond} (hT : ∀ w ∈ eTb, w ∈ Ts) : GoodIn Ts (wsV RX3 144 yX3_reaches.cls yX3_reaches (eWd yX3_reaches cX3_reaches 8 (some .boolean))) ∧ ∃ (T : u_T) (N : Nat), vwCl[3]? = some (yX3_reaches.cls, T, N) := ⟨eGoodV hT (tb4 70 rfl rfl) wiX3_reaches wlX3_reaches wnX3_reaches wcX3_reaches, TX3, 10, rfl⟩
set_option maxRecDepth 100000 in
set_option maxHeartbeats 4000000 in
theorem gvX4_31 {Ts : List Cond} (hT : ∀ w ∈ eTb, w ∈ Ts) : GoodIn Ts (wsV RX4 31 yX4_put.cls yX4_put (eWd yX4_put cX4_put 4 none)) ∧ ∃ (T : u_T) (N : Nat), vwCl[4]? = some (yX4_put.cls, T, N) := ⟨eGoodV hT (tb3 26 rfl rfl) wiX4_put wlX4_put wnX4_put wcX4_put, TX4, 4, rfl⟩
set_option maxRecDepth 100000 in
set_option maxHeartbeats 4000000 in
theorem gvX4_35 {Ts : List Cond} (hT : ∀ w ∈ eTb, w ∈ Ts) : GoodIn Ts (wsV RX4 35 yX4_isHolder.cls yX4_isHolder (eWd yX4_isHolder cX4_isHolder 2 (some .boolean))) ∧ ∃ (T : u_T) (N : Nat), vwCl[4]? = some (yX4_isHolder.cls, T, N) := ⟨eGoodV hT (tb3 30 rfl rfl) wiX4_isHolder wlX4_isHolder wnX4_isHolder wcX4_isHolder, TX4, 4, rfl⟩
set_option maxRecDepth 100000 in
set_option maxHeartbeats 4000000 in
theorem gvX4_39 {Ts : List Cond} (hT : ∀ w ∈ eTb, w ∈ Ts) : GoodIn Ts (wsV RX4 39 yX4_fact.cls yX4_fact (eWd yX4_fact cX4_fact 3 (some .int))) ∧ ∃ (T : u_T) (N : Nat), vwCl[4]? = some (yX4_fact.cls, T, N) := ⟨eGoodV hT (tb3 15 rfl rfl) wiX4_fact wlX4_fact wnX4_fact wcX4_fact, TX4, 4, rfl⟩
set_option maxRecDepth 100000 in
set_option maxHeartbeats 4000000 in
theorem gvX4_43 {Ts : List Cond} (hT : ∀ w ∈ eTb, w ∈ Ts) : GoodIn Ts (wsV RX4 43 yX4_isClass.cls yX4_isClass (eWd yX4_isClass cX4_isClass 2 (some .boolean))) ∧ ∃ (T : u_T) (N : Nat), vwCl[4]? = some (yX4_isClass.cls, T, N) := ⟨eGoodV hT (tb3 92 rfl rfl) wiX4_isClass wlX4_isClass wnX4_isClass wcX4_isClass, TX4, 4, rfl⟩
set_option maxRecDepth 100000 in
set_option maxHeartbeats 4000000 in
theorem gvX4_46 {Ts : List Cond} (hT : ∀ w ∈ eTb, w ∈ Ts) : GoodIn Ts (wsV RX4 46 yX4_isWaived.cls yX4_isWaived (eWd yX4_isWaived cX4_isWaived 2 (some .boolean))) ∧ ∃ (T : u_T) (N : Nat), vwCl[4]? = some (yX4_isWaived.cls, T, N) := ⟨eGoodV hT (tb3 96 rfl rfl) wiX4_isWaived wlX4_isWaived wnX4_isWaived wcX4_isWaived, TX4, 4, rfl⟩
set_option maxRecDepth 100000 in
set_option maxHeartbeats 4000000 in
theorem gvX5_29 {Ts : List Cond} (hT : ∀ w ∈ eTb, w ∈ Ts) : GoodIn Ts (wsV RX5 29 yX4_canTurn.cls yX4_canTurn (eWd yX4_canTurn cX4_canTurn 2 (some .boolean))) ∧ ∃ (T : u_T) (N : Nat), vwCl[4]? = some (yX4_canTurn.cls, T, N) := ⟨eGoodV hT (tb4 141 rfl rfl) wiX4_canTurn wlX4_canTurn wnX4_canTurn wcX4_canTurn, TX4, 4, rfl⟩
set_option maxRecDepth 100000 in
set_option maxHeartbeats 4000000 in
theorem gvX5_33 {Ts : List Cond} (hT : ∀ w ∈ eTb, w ∈ Ts) : GoodIn Ts (wsV RX5 33 yX5_play.cls yX5_play (eWd yX5_play cX5_play 7 none)) ∧ ∃ (T : u_T) (N : Nat), vwCl[5]? = some (yX5_play.cls, T, N) := ⟨eGoodV hT (tb4 150 rfl rfl) wiX5_play wlX5_play wnX5_play wcX5_play, TX5, 4, rfl⟩
set_option maxRecDepth 100000 in
set_option maxHeartbeats 4000000 in
theorem gvX5_37 {Ts : List Cond} (hT : ∀ w ∈ eTb, w ∈ Ts) : GoodIn Ts (wsV RX5 37 yX5_setOf.cls yX5_setOf (eWd yX5_setOf cX5_setOf 4 (some .int))) ∧ ∃ (T : u_T) (N : Nat), vwCl[5]? = some (yX5_setOf.cls, T, N) := ⟨eGoodV hT (tb4 154 rfl rfl) wiX5_setOf wlX5_setOf wnX5_setOf wcX5_setOf, TX5, 4, rfl⟩
set_option maxRecDepth 100000 in
set_option maxHeartbeats 4000000 in
theorem gvX5_41 {Ts : List Cond} (hT : ∀ w ∈ eTb, w ∈ Ts) : GoodIn Ts (wsV RX5 41 yX3_arrange.cls yX3_arrange (eWd yX3_arrange cX3_arrange 5 none)) ∧ ∃ (T : u_T) (N : Nat), vwCl[3]? = some (yX3_arrange.cls, T, N) := ⟨eGoodV hT (tb4 158 rfl rfl) wiX3_arrange wlX3_arrange wnX3_arrange wcX3_arrange, TX3, 10, rfl⟩
set_option maxRecDepth 100000 in
set_option maxHeartbeats 4000000 in
theorem gvX5_47 {Ts : List Cond} (hT : ∀ w ∈ eTb, w ∈ Ts) : GoodIn Ts (wsV RX5 47 yX3_pour.cls yX3_pour (eWd yX3_pour cX3_pour 3 none)) ∧ ∃ (T : u_T) (N : Nat), vwCl[3]? = some (yX3_pour.cls, T, N) := ⟨eGoodV hT (tb4 159 rfl rfl) wiX3_pour wlX3_pour wnX3_pour wcX3_pour, TX3, 10, rfl⟩
set_option maxRecDepth 100000 in
set_option maxHeartbeats 4000000 in
theorem gvX5_54 {Ts : List Cond} (hT : ∀ w ∈ eTb, w ∈ Ts) : GoodIn Ts (wsV RX5 54 yX3_aboveOf.cls yX3_aboveOf (eWd yX3_aboveOf cX3_aboveOf 2 (some .long))) ∧ ∃ (T : u_T) (N : Nat), vwCl[3]? = some (yX3_aboveOf.cls, T, N) := ⟨eGoodV hT (tb4 160 rfl rfl) wiX3_aboveOf wlX3_aboveOf wnX3_aboveOf wcX3_aboveOf, TX3, 10, rfl⟩
set_option maxRecDepth 100000 in
set_option maxHeartbeats 4000000 in
theorem gvX5_58 {Ts : List Cond} (hT : ∀ w ∈ eTb, w ∈ Ts) : GoodIn Ts (wsV RX5 58 yX5_gains.cls yX5_gains (eWd yX5_gains cX5_gains 9 (some .boolean))) ∧ ∃ (T : u_T) (N : Nat), vwCl[5]? = some (yX5_gains.cls, T, N) := ⟨eGoodV hT (tb4 165 rfl rfl) wiX5_gains wlX5_gains wnX5_gains wcX5_gains, TX5, 4, rfl⟩
set_option maxRecDepth 100000 in
set_option maxHeartbeats 4000000 in
theorem gvX5_62 {Ts : List Cond} (hT : ∀ w ∈ eTb, w ∈ Ts) : GoodIn Ts (va_wsS RX5 62 yX7_compareFractions (eWd yX7_compareFractions cX7_compareFractions 22 (some .int))) := eGoodS hT (tb4 169 rfl rfl) wsX7_compareFractions wnX7_compareFractions wcX7_compareFractions
set_option maxRecDepth 100000 in
set_option maxHeartbeats 4000000 in
theorem gvX5_68 {Ts : List Cond} (hT : ∀ w ∈ eTb, w ∈ Ts) : GoodIn Ts (wsV RX5 68 yX5_isSteady.cls yX5_isSteady (eWd yX5_isSteady cX5_isSteady 3 (some .boolean))) ∧ ∃ (T : u_T) (N : Nat), vwCl[5]? = some (yX5_isSteady.cls, T, N) := ⟨eGoodV hT (tb4 182 rfl rfl) wiX5_isSteady wlX5_isSteady wnX5_isSteady wcX5_isSteady, TX5, 4, rfl⟩
set_option maxRecDepth 100000 in
set_option maxHeartbeats 4000000 in
theorem gvX7_17 {Ts : List Cond} (hT : ∀ w ∈ eTb, w ∈ Ts) : GoodIn Ts (va_wsS RX7 17 yX7_commonDivisor (eWd yX7_commonDivisor cX7_commonDivisor 11 (some .long))) := eGoodS hT (tb3 215 rfl rfl) wsX7_commonDivisor wnX7_commonDivisor wcX7_commonDivisor
set_option maxRecDepth 100000 in
set_option maxHeartbeats 4000000 in
theorem gvX7_22 {Ts : List Cond} (hT : ∀ w ∈ eTb, w ∈ Ts) : GoodIn Ts (va_wsS RX7 22 yJ13_compare_74951 (eWd yJ13_compare_74951 cJ13_compare_74951 4 (some .int))) := eGoodS hT (tb4 26 rfl rfl) wsJ13_compare_74951 wnJ13_compare_74951 wcJ13_compare_74951
set_option maxRecDepth 100000 in
set_option maxHeartbeats 4000000 in
theorem gvX7_28 {Ts : List Cond} (hT : ∀ w ∈ eTb, w ∈ Ts) : GoodIn Ts (va_wsS RX7 28 yX7_lowest (eWd yX7_lowest cX7_lowest 7 (some .long))) := eGoodS hT (tb5 3 rfl rfl) wsX7_lowest wnX7_lowest wcX7_lowest
set_option maxRecDepth 100000 in
set_option maxHeartbeats 4000000 in
theorem gvX8_51 {Ts : List Cond} (hT : ∀ w ∈ eTb, w ∈ Ts) : GoodIn Ts (wsV RX8 51 yX4_clear.cls yX4_clear (eWd yX4_clear cX4_clear 1 none)) ∧ ∃ (T : u_T) (N : Nat), vwCl[4]? = some (yX4_clear.cls, T, N) := ⟨eGoodV hT (tb2 209 rfl rfl) wiX4_clear wlX4_clear wnX4_clear wcX4_clear, TX4, 4, rfl⟩
set_option maxRecDepth 100000 in
set_option maxHeartbeats 4000000 in
theorem gvX8_61 {Ts : List Cond} (hT : ∀ w ∈ eTb, w ∈ Ts) : GoodIn Ts (wsV RX8 61 yX10_rewind.cls yX10_rewind (eWd yX10_rewind cX10_rewind 1 none)) ∧ ∃ (T : u_T) (N : Nat), vwCl[9]? = some (yX10_rewind.cls, T, N) := ⟨eGoodV hT (tb2 213 rfl rfl) wiX10_rewind wlX10_rewind wnX10_rewind wcX10_rewind, TX10, 7, rfl⟩
set_option maxRecDepth 100000 in
set_option maxHeartbeats 4000000 in
theorem gvX8_67 {Ts : List Cond} (hT : ∀ w ∈ eTb, w ∈ Ts) : GoodIn Ts (wsV RX8 67 yX8_readLine.cls yX8_readLine (eWd yX8_readLine cX8_readLine 2 (some .boolean))) ∧ ∃ (T : u_T) (N : Nat), vwCl[7]? = some (yX8_readLine.cls, T, N) := ⟨eGoodV hT (tb2 239 rfl rfl) wiX8_readLine wlX8_readLine wnX8_readLine wcX8_readLine, TX8, 7, rfl⟩
set_option maxRecDepth 100000 in
set_option maxHeartbeats 4000000 in
theorem gvX8_71 {Ts : List Cond} (hT : ∀ w ∈ eTb, w ∈ Ts) : GoodIn Ts (wsV RX8 71 yX8_keptWord.cls yX8_keptWord (eWd yX8_keptWord cX8_keptWord 2 (some .int))) ∧ ∃ (T : u_T) (N : Nat), vwCl[7]? = some (yX8_keptWord.cls, T, N) := ⟨eGoodV hT (tb3 3 rfl rfl) wiX8_keptWord wlX8_keptWord wnX8_keptWord wcX8_keptWord, TX8, 7, rfl⟩
set_option maxRecDepth 100000 in
set_option maxHeartbeats 4000000 in
theorem gvX8_74 {Ts : List Cond} (hT : ∀ w ∈ eTb, w ∈ Ts) : GoodIn Ts (wsV RX8 74 yX8_refuse.cls yX8_refuse (eWd yX8_refuse cX8_refuse 2 (some .boolean))) ∧ ∃ (T : u_T) (N : Nat), vwCl[7]? = some (yX8_refuse.cls, T, N) := ⟨eGoodV hT (tb3 7 rfl rfl) wiX8_refuse wlX8_refuse wnX8_refuse wcX8_refuse, TX8, 7, rfl⟩
set_option maxRecDepth 100000 in
set_option maxHeartbeats 4000000 in
theorem gvX8_78 {Ts : List Cond} (hT : ∀ w ∈ eTb, w ∈ Ts) : GoodIn Ts (wsV RX8 78 yX4_countOf.cls yX4_countOf (eWd yX4_countOf cX4_countOf 4 (some .int))) ∧ ∃ (T : u_T) (N : Nat), vwCl[4]? = some (yX4_countOf.cls, T, N) := ⟨eGoodV hT (tb3 11 rfl rfl) wiX4_countOf wlX4_countOf wnX4_countOf wcX4_countOf, TX4, 4, rfl⟩
set_option maxRecDepth 100000 in
set_option maxHeartbeats 4000000 in
theorem gvX8_82 {Ts : List Cond} (hT : ∀ w ∈ eTb, w ∈ Ts) : GoodIn Ts (va_wsS RX8 82 yX8_mostOf (eWd yX8_mostOf cX8_mostOf 1 (some .int))) := eGoodS hT (tb3 19 rfl rfl) wsX8_mostOf wnX8_mostOf wcX8_mostOf
set_option maxRecDepth 100000 in
set_option maxHeartbeats 4000000 in
theorem gvX8_85 {Ts : List Cond} (hT : ∀ w ∈ eTb, w ∈ Ts) : GoodIn Ts (wsV RX8 85 yX4_add.cls yX4_add (eWd yX4_add cX4_add 4 (some .boolean))) ∧ ∃ (T : u_T) (N : Nat), vwCl[4]? = some (yX4_add.cls, T, N) := ⟨eGoodV hT (tb3 22 rfl rfl) wiX4_add wlX4_add wnX4_add wcX4_add, TX4, 4, rfl⟩
set_option maxRecDepth 100000 in
set_option maxHeartbeats 4000000 in
theorem gvX8_88 {Ts : List Cond} (hT : ∀ w ∈ eTb, w ∈ Ts) : GoodIn Ts (wsV RX8 88 yX10_scan.cls yX10_scan (eWd yX10_scan cX10_scan 1 none)) ∧ ∃ (T : u_T) (N : Nat), vwCl[9]? = some (yX10_scan.cls, T, N) := ⟨eGoodV hT (tb3 34 rfl rfl) wiX10_scan wlX10_scan wnX10_scan wcX10_scan, TX10, 7, rfl⟩
set_option maxRecDepth 100000 in
set_option maxHeartbeats 4000000 in
theorem gvX8_91 {Ts : List Cond} (hT : ∀ w ∈ eTb, w ∈ Ts) : GoodIn Ts (va_wsS RX8 91 yX8_lineOf (eWd yX8_lineOf cX8_lineOf 1 (some (.array .int)))) := eGoodS hT (tb3 35 rfl rfl) wsX8_lineOf wnX8_lineOf wcX8_lineOf
set_option maxRecDepth 100000 in
set_option maxHeartbeats 4000000 in
theorem gvX8_95 {Ts : List Cond} (hT : ∀ w ∈ eTb, w ∈ Ts) : GoodIn Ts (wsV RX8 95 yX8_readItems.cls yX8_readItems (eWd yX8_readItems cX8_readItems 6 (some .boolean))) ∧ ∃ (T : u_T) (N : Nat), vwCl[7]? = some (yX8_readItems.cls, T, N) := ⟨eGoodV hT (tb3 46 rfl rfl) wiX8_readItems wlX8_readItems wnX8_readItems wcX8_readItems, TX8, 7, rfl⟩
set_option maxRecDepth 100000 in
set_option maxHeartbeats 4000000 in
theorem gvX8_112 {Ts : List Cond} (hT : ∀ w ∈ eTb, w ∈ Ts) : GoodIn Ts (wsV RX8 112 yX8_readNumber.cls yX8_readNumber (eWd yX8_readNumber cX8_readNumber 4 (some .boolean))) ∧ ∃ (T : u_T) (N : Nat), vwCl[7]? = some (yX8_readNumber.cls, T, N) := ⟨eGoodV hT (tb3 50 rfl rfl) wiX8_readNumber wlX8_readNumber wnX8_readNumber wcX8_readNumber, TX8, 7, rfl⟩
set_option maxRecDepth 100000 in
set_option maxHeartbeats 4000000 in
theorem gvX8_116 {Ts : List Cond} (hT : ∀ w ∈ eTb, w ∈ Ts) : GoodIn Ts (wsV RX8 116 yX8_readName.cls yX8_readName (eWd yX8_readName cX8_readName 3 (some .boolean))) ∧ ∃ (T : u_T) (N : Nat), vwCl[7]? = some (yX8_readName.cls, T, N) := ⟨eGoodV hT (tb3 55 rfl rfl) wiX8_readName wlX8_readName wnX8_readName wcX8_readName, TX8, 7, rfl⟩
set_option maxRecDepth 100000 in
set_option maxHeartbeats 4000000 in
theorem gvX8_119 {Ts : List Cond} (hT : ∀ w ∈ eTb, w ∈ Ts) : GoodIn Ts (wsV RX8 119 yX8_readWord.cls yX8_readWord (eWd yX8_readWord cX8_readWord 2 (some .boolean))) ∧ ∃ (T : u_T) (N : Nat), vwCl[7]? = some (yX8_readWord.cls, T, N) := ⟨eGoodV hT (tb3 59 rfl rfl) wiX8_readWord wlX8_readWord wnX8_readWord wcX8_readWord, TX8, 7, rfl⟩
set_option maxRecDepth 100000 in
set_option maxHeartbeats 4000000 in
theorem gvX8_122 {Ts : List Cond} (hT : ∀ w ∈ eTb, w ∈ Ts) : GoodIn Ts (wsV RX8 122 yX8_readSign.cls yX8_readSign (eWd yX8_readSign cX8_readSign 1 (some .boolean))) ∧ ∃ (T : u_T) (N : Nat), vwCl[7]? = some (yX8_readSign.cls, T, N) := ⟨eGoodV hT (tb3 63 rfl rfl) wiX8_readSign wlX8_readSign wnX8_readSign wcX8_readSign, TX8, 7, rfl⟩
set_option maxRecDepth 100000 in
set_option maxHeartbeats 4000000 in
theorem gvX8_138 {Ts : List Cond} (hT : ∀ w ∈ eTb, w ∈ Ts) : GoodIn Ts (wsV RX8 138 yX4_put.cls yX4_put (eWd yX4_put cX4_put 4 none)) ∧ ∃ (T : u_T) (N : Nat), vwCl[4]? = some (yX4_put.cls, T, N) := ⟨eGoodV hT (tb3 54 rfl rfl) wiX4_put wlX4_put wnX4_put wcX4_put, TX4, 4, rfl⟩
set_option maxRecDepth 100000 in
set_option maxHeartbeats 4000000 in
theorem gvX10_22 {Ts : List Cond} (hT : ∀ w ∈ eTb, w ∈ Ts) : GoodIn Ts (wsV RX10 22 yX10_scan.cls yX10_scan (eWd yX10_scan cX10_scan 1 none)) ∧ ∃ (T : u_T) (N : Nat), vwCl[9]? = some (yX10_scan.cls, T, N) := ⟨eGoodV hT (tb2 217 rfl rfl) wiX10_scan wlX10_scan wnX10_scan wcX10_scan, TX10, 7, rfl⟩
set_option maxRecDepth 100000 in
set_option maxHeartbeats 4000000 in
theorem gvX10_25 {Ts : List Cond} (hT : ∀ w ∈ eTb, w ∈ Ts) : GoodIn Ts (va_wsS RX10 25 yX10_isBlank (eWd yX10_isBlank cX10_isBlank 1 (some .boolean))) := eGoodS hT (tb2 221 rfl rfl) wsX10_isBlank wnX10_isBlank wcX10_isBlank
set_option maxRecDepth 100000 in
set_option maxHeartbeats 4000000 in
theorem gvX10_35 {Ts : List Cond} (hT : ∀ w ∈ eTb, w ∈ Ts) : GoodIn Ts (va_wsS RX10 35 yX10_isLetter (eWd yX10_isLetter cX10_isLetter 1 (some .boolean))) := eGoodS hT (tb2 224 rfl rfl) wsX10_isLetter wnX10_isLetter wcX10_isLetter
set_option maxRecDepth 100000 in
set_option maxHeartbeats 4000000 in
theorem gvX10_38 {Ts : List Cond} (hT : ∀ w ∈ eTb, w ∈ Ts) : GoodIn Ts (wsV RX10 38 yX10_scanWord.cls yX10_scanWord (eWd yX10_scanWord cX10_scanWord 1 none)) ∧ ∃ (T : u_T) (N : Nat), vwCl[9]? = some (yX10_scanWord.cls, T, N) := ⟨eGoodV hT (tb2 227 rfl rfl) wiX10_scanWord wlX10_scanWord wnX10_scanWord wcX10_scanWord, TX10, 7, rfl⟩
set_option maxRecDepth 100000 in
set_option maxHeartbeats 4000000 in
theorem gvX10_41 {Ts : List Cond} (hT : ∀ w ∈ eTb, w ∈ Ts) : GoodIn Ts (va_wsS RX10 41 yX10_isDigit (eWd yX10_isDigit cX10_isDigit 1 (some .boolean))) := eGoodS hT (tb2 232 rfl rfl) wsX10_isDigit wnX10_isDigit wcX10_isDigit
set_option maxRecDepth 100000 in
set_option maxHeartbeats 4000000 in
theorem gvX10_44 {Ts : List Cond} (hT : ∀ w ∈ eTb, w ∈ Ts) : GoodIn Ts (wsV RX10 44 yX10_scanNumber.cls yX10_scanNumber (eWd yX10_scanNumber cX10_scanNumber 2 none)) ∧ ∃ (T : u_T) (N : Nat), vwCl[9]? = some (yX10_scanNumber.cls, T, N) := ⟨eGoodV hT (tb2 235 rfl rfl) wiX10_scanNumber wlX10_scanNumber wnX10_scanNumber wcX10_scanNumber, TX10, 7, rfl⟩
set_option maxRecDepth 100000 in
set_option maxHeartbeats 4000000 in
theorem gvX10_51 {Ts : List Cond} (hT : ∀ w ∈ eTb, w ∈ Ts) : GoodIn Ts (va_wsS RX10 51 yX10_withLetter (eWd yX10_withLetter cX10_withLetter 3 (some .long))) := eGoodS hT (tb2 231 rfl rfl) wsX10_withLetter wnX10_withLetter wcX10_withLetter
set_option maxRecDepth 100000 in
set_option maxHeartbeats 4000000 in
theorem gvX12_101 {Ts : List Cond} (hT : ∀ w ∈ eTb, w ∈ Ts) : GoodIn Ts (va_wsS RX12 101 yX12_in (eWd yX12_in cX12_in 3 (some .boolean))) := eGoodS hT (tb6 28 rfl rfl) wsX12_in wnX12_in wcX12_in
set_option maxRecDepth 100000 in
set_option maxHeartbeats 4000000 in
theorem gvX12_105 {Ts : List Cond} (hT : ∀ w ∈ eTb, w ∈ Ts) : GoodIn Ts (wsV RX12 105 yX12_isHolder.cls yX12_isHolder (eWd yX12_isHolder cX12_isHolder 2 (some .boolean))) ∧ ∃ (T : u_T) (N : Nat), vwCl[11]? = some (yX12_isHolder.cls, T, N) := ⟨eGoodV hT (tb6 123 rfl rfl) wiX12_isHolder wlX12_isHolder wnX12_isHolder wcX12_isHolder, TX12, 60, rfl⟩
set_option maxRecDepth 100000 in
set_option maxHeartbeats 4000000 in
theorem gvX12_110 {Ts : List Cond} (hT : ∀ w ∈ eTb, w ∈ Ts) : GoodIn Ts (wsV RX12 110 yX12_isClass.cls yX12_isClass (eWd yX12_isClass cX12_isClass 2 (some .boolean))) ∧ ∃ (T : u_T) (N : Nat), vwCl[11]? = some (yX12_isClass.cls, T, N) := ⟨eGoodV hT (tb6 171 rfl rfl) wiX12_isClass wlX12_isClass wnX12_isClass wcX12_isClass, TX12, 60, rfl⟩
set_option maxRecDepth 100000 in
set_option maxHeartbeats 4000000 in
theorem gvX12_116 {Ts : List Cond} (hT : ∀ w ∈ eTb, w ∈ Ts) : GoodIn Ts (va_wsS RX12 116 yX12_isOf (eWd yX12_isOf cX12_isOf 2 (some .boolean))) := eGoodS hT (tb6 131 rfl rfl) wsX12_isOf wnX12_isOf wcX12_isOf
set_option maxRecDepth 100000 in
set_option maxHeartbeats 4000000 in
theorem gvX12_120 {Ts : List Cond} (hT : ∀ w ∈ eTb, w ∈ Ts) : GoodIn Ts (wsV RX12 120 yX12_prefOf.cls yX12_prefOf (eWd yX12_prefOf cX12_prefOf 2 (some .int))) ∧ ∃ (T : u_T) (N : Nat), vwCl[11]? = some (yX12_prefOf.cls, T, N) := ⟨eGoodV hT (tb6 127 rfl rfl) wiX12_prefOf wlX12_prefOf wnX12_prefOf wcX12_prefOf, TX12, 60, rfl⟩
set_option maxRecDepth 100000 in
set_option maxHeartbeats 4000000 in
theorem gvX12_127 {Ts : List Cond} (hT : ∀ w ∈ eTb, w ∈ Ts) : GoodIn Ts (wsV RX12 127 yX12_four.cls yX12_four (eWd yX12_four cX12_four 3 none)) ∧ ∃ (T : u_T) (N : Nat), vwCl[11]? = some (yX12_four.cls, T, N) := ⟨eGoodV hT (tb6 20 rfl rfl) wiX12_four wlX12_four wnX12_four wcX12_four, TX12, 60, rfl⟩
set_option maxRecDepth 100000 in
set_option maxHeartbeats 4000000 in
theorem gvX12_146 {Ts : List Cond} (hT : ∀ w ∈ eTb, w ∈ Ts) : GoodIn Ts (wsV RX12 146 yX12_isGood.cls yX12_isGood (eWd yX12_isGood cX12_isGood 1 (some .boolean))) ∧ ∃ (T : u_T) (N : Nat), vwCl[11]? = some (yX12_isGood.cls, T, N) := ⟨eGoodV hT (tb6 39 rfl rfl) wiX12_isGood wlX12_isGood wnX12_isGood wcX12_isGood, TX12, 60, rfl⟩
set_option maxRecDepth 100000 in
set_option maxHeartbeats 4000000 in
theorem gvX12_153 {Ts : List Cond} (hT : ∀ w ∈ eTb, w ∈ Ts) : GoodIn Ts (wsV RX12 153 yX12_byteAt.cls yX12_byteAt (eWd yX12_byteAt cX12_byteAt 2 (some .int))) ∧ ∃ (T : u_T) (N : Nat), vwCl[11]? = some (yX12_byteAt.cls, T, N) := ⟨eGoodV hT (tb6 43 rfl rfl) wiX12_byteAt wlX12_byteAt wnX12_byteAt wcX12_byteAt, TX12, 60, rfl⟩
set_option maxRecDepth 100000 in
set_option maxHeartbeats 4000000 in
theorem gvX12_162 {Ts : List Cond} (hT : ∀ w ∈ eTb, w ∈ Ts) : GoodIn Ts (va_wsS RX12 162 yX12_isSmall (eWd yX12_isSmall cX12_isSmall 1 (some .boolean))) := eGoodS hT (tb6 47 rfl rfl) wsX12_isSmall wnX12_isSmall wcX12_isSmall
set_option maxRecDepth 100000 in
set_option maxHeartbeats 4000000 in
theorem gvX12_165 {Ts : List Cond} (hT : ∀ w ∈ eTb, w ∈ Ts) : GoodIn Ts (va_wsS RX12 165 yX12_isDigit (eWd yX12_isDigit cX12_isDigit 1 (some .boolean))) := eGoodS hT (tb6 50 rfl rfl) wsX12_isDigit wnX12_isDigit wcX12_isDigit
set_option maxRecDepth 100000 in
set_option maxHeartbeats 4000000 in
theorem gvX12_170 {Ts : List Cond} (hT : ∀ w ∈ eTb, w ∈ Ts) : GoodIn Ts (wsV RX12 170 yX12_isWord.cls yX12_isWord (eWd yX12_isWord cX12_isWord 3 (some .boolean))) ∧ ∃ (T : u_T) (N : Nat), vwCl[11]? = some (yX12_isWord.cls, T, N) := ⟨eGoodV hT (tb6 59 rfl rfl) wiX12_isWord wlX12_isWord wnX12_isWord wcX12_isWord, TX12, 60, rfl⟩
set_option maxRecDepth 100000 in
set_option maxHeartbeats 4000000 in
theorem gvX12_184 {Ts : List Cond} (hT : ∀ w ∈ eTb, w ∈ Ts) : GoodIn Ts (wsV RX12 184 yX12_goOn.cls yX12_goOn (eWd yX12_goOn cX12_goOn 3 none)) ∧ ∃ (T : u_T) (N : Nat), vwCl[11]? = some (yX12_goOn.cls, T, N) := ⟨eGoodV hT (tb6 35 rfl rfl) wiX12_goOn wlX12_goOn wnX12_goOn wcX12_goOn, TX12, 60, rfl⟩
set_option maxRecDepth 100000 in
set_option maxHeartbeats 4000000 in
theorem gvX12_187 {Ts : List Cond} (hT : ∀ w ∈ eTb, w ∈ Ts) : GoodIn Ts (wsV RX12 187 yX12_isName.cls yX12_isName (eWd yX12_isName cX12_isName 3 (some .boolean))) ∧ ∃ (T : u_T) (N : Nat), vwCl[11]? = some (yX12_isName.cls, T, N) := ⟨eGoodV hT (tb6 79 rfl rfl) wiX12_isName wlX12_isName wnX12_isName wcX12_isName, TX12, 60, rfl⟩
set_option maxRecDepth 100000 in
set_option maxHeartbeats 4000000 in
theorem gvX12_190 {Ts : List Cond} (hT : ∀ w ∈ eTb, w ∈ Ts) : GoodIn Ts (wsV RX12 190 yX12_fails.cls yX12_fails (eWd yX12_fails cX12_fails 2 none)) ∧ ∃ (T : u_T) (N : Nat), vwCl[11]? = some (yX12_fails.cls, T, N) := ⟨eGoodV hT (tb6 71 rfl rfl) wiX12_fails wlX12_fails wnX12_fails wcX12_fails, TX12, 60, rfl⟩
set_option maxRecDepth 100000 in
set_option maxHeartbeats 4000000 in
theorem gvX12_193 {Ts : List Cond} (hT : ∀ w ∈ eTb, w ∈ Ts) : GoodIn Ts (wsV RX12 193 yX12_isTold.cls yX12_isTold (eWd yX12_isTold cX12_isTold 2 (some .boolean))) ∧ ∃ (T : u_T) (N : Nat), vwCl[11]? = some (yX12_isTold.cls, T, N) := ⟨eGoodV hT (tb6 91 rfl rfl) wiX12_isTold wlX12_isTold wnX12_isTold wcX12_isTold, TX12, 60, rfl⟩
set_option maxRecDepth 100000 in
set_option maxHeartbeats 4000000 in
theorem gvX12_196 {Ts : List Cond} (hT : ∀ w ∈ eTb, w ∈ Ts) : GoodIn Ts (wsV RX12 196 yX12_manyOf.cls yX12_manyOf (eWd yX12_manyOf cX12_manyOf 4 (some .int))) ∧ ∃ (T : u_T) (N : Nat), vwCl[11]? = some (yX12_manyOf.cls, T, N) := ⟨eGoodV hT (tb6 67 rfl rfl) wiX12_manyOf wlX12_manyOf wnX12_manyOf wcX12_manyOf, TX12, 60, rfl⟩
set_option maxRecDepth 100000 in
set_option maxHeartbeats 4000000 in
theorem gvX12_199 {Ts : List Cond} (hT : ∀ w ∈ eTb, w ∈ Ts) : GoodIn Ts (wsV RX12 199 yX12_readName.cls yX12_readName (eWd yX12_readName cX12_readName 1 none)) ∧ ∃ (T : u_T) (N : Nat), vwCl[11]? = some (yX12_readName.cls, T, N) := ⟨eGoodV hT (tb6 75 rfl rfl) wiX12_readName wlX12_readName wnX12_readName wcX12_readName, TX12, 60, rfl⟩
set_option maxRecDepth 100000 in
set_option maxHeartbeats 4000000 in
theorem gvX12_202 {Ts : List Cond} (hT : ∀ w ∈ eTb, w ∈ Ts) : GoodIn Ts (wsV RX12 202 yX12_number.cls yX12_number (eWd yX12_number cX12_number 4 (some .int))) ∧ ∃ (T : u_T) (N : Nat), vwCl[11]? = some (yX12_number.cls, T, N) := ⟨eGoodV hT (tb6 95 rfl rfl) wiX12_number wlX12_number wnX12_number wcX12_number, TX12, 60, rfl⟩
set_option maxRecDepth 100000 in
set_option maxHeartbeats 4000000 in
theorem gvX12_206 {Ts : List Cond} (hT : ∀ w ∈ eTb, w ∈ Ts) : GoodIn Ts (wsV RX12 206 yX12_keyword.cls yX12_keyword (eWd yX12_keyword cX12_keyword 3 none)) ∧ ∃ (T : u_T) (N : Nat), vwCl[11]? = some (yX12_keyword.cls, T, N) := ⟨eGoodV hT (tb6 99 rfl rfl) wiX12_keyword wlX12_keyword wnX12_keyword wcX12_keyword, TX12, 60, rfl⟩
set_option maxRecDepth 100000 in
set_option maxHeartbeats 4000000 in
theorem gvX12_210 {Ts : List Cond} (hT : ∀ w ∈ eTb, w ∈ Ts) : GoodIn Ts (wsV RX12 210 yX12_readTerms.cls yX12_readTerms (eWd yX12_readTerms cX12_readTerms 3 none)) ∧ ∃ (T : u_T) (N : Nat), vwCl[11]? = some (yX12_readTerms.cls, T, N) := ⟨eGoodV hT (tb6 103 rfl rfl) wiX12_readTerms wlX12_readTerms wnX12_readTerms wcX12_readTerms, TX12, 60, rfl⟩
set_option maxRecDepth 100000 in
set_option maxHeartbeats 4000000 in
theorem gvX12_213 {Ts : List Cond} (hT : ∀ w ∈ eTb, w ∈ Ts) : GoodIn Ts (wsV RX12 213 yX12_goesOver.cls yX12_goesOver (eWd yX12_goesOver cX12_goesOver 4 (some .boolean))) ∧ ∃ (T : u_T) (N : Nat), vwCl[11]? = some (yX12_goesOver.cls, T, N) := ⟨eGoodV hT (tb6 107 rfl rfl) wiX12_goesOver wlX12_goesOver wnX12_goesOver wcX12_goesOver, TX12, 60, rfl⟩
set_option maxRecDepth 100000 in
set_option maxHeartbeats 4000000 in
theorem gvX12_216 {Ts : List Cond} (hT : ∀ w ∈ eTb, w ∈ Ts) : GoodIn Ts (wsV RX12 216 yX12_readHolder.cls yX12_readHolder (eWd yX12_readHolder cX12_readHolder 4 none)) ∧ ∃ (T : u_T) (N : Nat), vwCl[11]? = some (yX12_readHolder.cls, T, N) := ⟨eGoodV hT (tb6 63 rfl rfl) wiX12_readHolder wlX12_readHolder wnX12_readHolder wcX12_readHolder, TX12, 60, rfl⟩
set_option maxRecDepth 100000 in
set_option maxHeartbeats 4000000 in
theorem gvX12_226 {Ts : List Cond} (hT : ∀ w ∈ eTb, w ∈ Ts) : GoodIn Ts (wsV RX12 226 yX12_readLine.cls yX12_readLine (eWd yX12_readLine cX12_readLine 1 none)) ∧ ∃ (T : u_T) (N : Nat), vwCl[11]? = some (yX12_readLine.cls, T, N) := ⟨eGoodV hT (tb6 54 rfl rfl) wiX12_readLine wlX12_readLine wnX12_readLine wcX12_readLine, TX12, 60, rfl⟩
set_option maxRecDepth 100000 in
set_option maxHeartbeats 4000000 in
theorem gvX12_250 {Ts : List Cond} (hT : ∀ w ∈ eTb, w ∈ Ts) : GoodIn Ts (wsV RX12 250 yX12_canTurn.cls yX12_canTurn (eWd yX12_canTurn cX12_canTurn 2 (some .boolean))) ∧ ∃ (T : u_T) (N : Nat), vwCl[11]? = some (yX12_canTurn.cls, T, N) := ⟨eGoodV hT (tb6 167 rfl rfl) wiX12_canTurn wlX12_canTurn wnX12_canTurn wcX12_canTurn, TX12, 60, rfl⟩
set_option maxRecDepth 100000 in
set_option maxHeartbeats 4000000 in
theorem gvX12_253 {Ts : List Cond} (hT : ∀ w ∈ eTb, w ∈ Ts) : GoodIn Ts (wsV RX12 253 yX12_isTurned.cls yX12_isTurned (eWd yX12_isTurned cX12_isTurned 2 (some .boolean))) ∧ ∃ (T : u_T) (N : Nat), vwCl[11]? = some (yX12_isTurned.cls, T, N) := ⟨eGoodV hT (tb6 163 rfl rfl) wiX12_isTurned wlX12_isTurned wnX12_isTurned wcX12_isTurned, TX12, 60, rfl⟩
set_option maxRecDepth 100000 in
set_option maxHeartbeats 4000000 in
theorem gvX12_259 {Ts : List Cond} (hT : ∀ w ∈ eTb, w ∈ Ts) : GoodIn Ts (wsV RX12 259 yX12_edge.cls yX12_edge (eWd yX12_edge cX12_edge 6 none)) ∧ ∃ (T : u_T) (N : Nat), vwCl[11]? = some (yX12_edge.cls, T, N) := ⟨eGoodV hT (tb6 187 rfl rfl) wiX12_edge wlX12_edge wnX12_edge wcX12_edge, TX12, 60, rfl⟩
set_option maxRecDepth 100000 in
set_option maxHeartbeats 4000000 in
theorem gvX12_265 {Ts : List Cond} (hT : ∀ w ∈ eTb, w ∈ Ts) : GoodIn Ts (wsV RX12 265 yX12_topOf.cls yX12_topOf (eWd yX12_topOf cX12_topOf 3 (some .int))) ∧ ∃ (T : u_T) (N : Nat), vwCl[11]? = some (yX12_topOf.cls, T, N) := ⟨eGoodV hT (tb6 191 rfl rfl) wiX12_topOf wlX12_topOf wnX12_topOf wcX12_topOf, TX12, 60, rfl⟩
set_option maxRecDepth 100000 in
set_option maxHeartbeats 4000000 in
theorem gvX12_268 {Ts : List Cond} (hT : ∀ w ∈ eTb, w ∈ Ts) : GoodIn Ts (wsV RX12 268 yX12_firstOf.cls yX12_firstOf (eWd yX12_firstOf cX12_firstOf 2 (some .long))) ∧ ∃ (T : u_T) (N : Nat), vwCl[11]? = some (yX12_firstOf.cls, T, N) := ⟨eGoodV hT (tb6 159 rfl rfl) wiX12_firstOf wlX12_firstOf wnX12_firstOf wcX12_firstOf, TX12, 60, rfl⟩
set_option maxRecDepth 100000 in
set_option maxHeartbeats 4000000 in
theorem gvX12_274 {Ts : List Cond} (hT : ∀ w ∈ eTb, w ∈ Ts) : GoodIn Ts (wsV RX12 274 yX12_layClass.cls yX12_layClass (eWd yX12_layClass cX12_layClass 9 none)) ∧ ∃ (T : u_T) (N : Nat), vwCl[11]? = some (yX12_layClass.cls, T, N) := ⟨eGoodV hT (tb6 200 rfl rfl) wiX12_layClass wlX12_layClass wnX12_layClass wcX12_layClass, TX12, 60, rfl⟩
set_option maxRecDepth 100000 in
set_option maxHeartbeats 4000000 in
theorem gvX12_278 {Ts : List Cond} (hT : ∀ w ∈ eTb, w ∈ Ts) : GoodIn Ts (wsV RX12 278 yX12_firstsOf.cls yX12_firstsOf (eWd yX12_firstsOf cX12_firstsOf 5 (some .long))) ∧ ∃ (T : u_T) (N : Nat), vwCl[11]? = some (yX12_firstsOf.cls, T, N) := ⟨eGoodV hT (tb6 179 rfl rfl) wiX12_firstsOf wlX12_firstsOf wnX12_firstsOf wcX12_firstsOf, TX12, 60, rfl⟩
set_option maxRecDepth 100000 in
set_option maxHeartbeats 4000000 in
theorem gvX12_284 {Ts : List Cond} (hT : ∀ w ∈ eTb, w ∈ Ts) : GoodIn Ts (wsV RX12 284 yX12_firsts.cls yX12_firsts (eWd yX12_firsts cX12_firsts 4 (some .long))) ∧ ∃ (T : u_T) (N : Nat), vwCl[11]? = some (yX12_firsts.cls, T, N) := ⟨eGoodV hT (tb6 155 rfl rfl) wiX12_firsts wlX12_firsts wnX12_firsts wcX12_firsts, TX12, 60, rfl⟩
set_option maxRecDepth 100000 in
set_option maxHeartbeats 4000000 in
theorem gvX12_288 {Ts : List Cond} (hT : ∀ w ∈ eTb, w ∈ Ts) : GoodIn Ts (wsV RX12 288 yX12_layRanks.cls yX12_layRanks (eWd yX12_layRanks cX12_layRanks 11 none)) ∧ ∃ (T : u_T) (N : Nat), vwCl[11]? = some (yX12_layRanks.cls, T, N) := ⟨eGoodV hT (tb6 175 rfl rfl) wiX12_layRanks wlX12_layRanks wnX12_layRanks wcX12_layRanks, TX12, 60, rfl⟩
set_option maxRecDepth 100000 in
set_option maxHeartbeats 4000000 in
theorem gvX12_292 {Ts : List Cond} (hT : ∀ w ∈ eTb, w ∈ Ts) : GoodIn Ts (wsV RX12 292 yX12_layEdges.cls yX12_layEdges (eWd yX12_layEdges cX12_layEdges 2 none)) ∧ ∃ (T : u_T) (N : Nat), vwCl[11]? = some (yX12_layEdges.cls, T, N) := ⟨eGoodV hT (tb6 183 rfl rfl) wiX12_layEdges wlX12_layEdges wnX12_layEdges wcX12_layEdges, TX12, 60, rfl⟩
set_option maxRecDepth 100000 in
set_option maxHeartbeats 4000000 in
theorem gvX12_295 {Ts : List Cond} (hT : ∀ w ∈ eTb, w ∈ Ts) : GoodIn Ts (wsV RX12 295 yX12_layFrom.cls yX12_layFrom (eWd yX12_layFrom cX12_layFrom 7 none)) ∧ ∃ (T : u_T) (N : Nat), vwCl[11]? = some (yX12_layFrom.cls, T, N) := ⟨eGoodV hT (tb6 195 rfl rfl) wiX12_layFrom wlX12_layFrom wnX12_layFrom wcX12_layFrom, TX12, 60, rfl⟩
set_option maxRecDepth 100000 in
set_option maxHeartbeats 4000000 in
theorem gvX12_298 {Ts : List Cond} (hT : ∀ w ∈ eTb, w ∈ Ts) : GoodIn Ts (wsV RX12 298 yX12_allGoes.cls yX12_allGoes (eWd yX12_allGoes cX12_allGoes 4 (some .long))) ∧ ∃ (T : u_T) (N : Nat), vwCl[11]? = some (yX12_allGoes.cls, T, N) := ⟨eGoodV hT (tb6 204 rfl rfl) wiX12_allGoes wlX12_allGoes wnX12_allGoes wcX12_allGoes, TX12, 60, rfl⟩
set_option maxRecDepth 100000 in
set_option maxHeartbeats 4000000 in
theorem gvX12_301 {Ts : List Cond} (hT : ∀ w ∈ eTb, w ∈ Ts) : GoodIn Ts (wsV RX12 301 yX12_allFixed.cls yX12_allFixed (eWd yX12_allFixed cX12_allFixed 4 (some .long))) ∧ ∃ (T : u_T) (N : Nat), vwCl[11]? = some (yX12_allFixed.cls, T, N) := ⟨eGoodV hT (tb6 208 rfl rfl) wiX12_allFixed wlX12_allFixed wnX12_allFixed wcX12_allFixed, TX12, 60, rfl⟩
set_option maxRecDepth 100000 in
set_option maxHeartbeats 4000000 in
theorem gvX12_304 {Ts : List Cond} (hT : ∀ w ∈ eTb, w ∈ Ts) : GoodIn Ts (wsV RX12 304 yX12_layLevel.cls yX12_layLevel (eWd yX12_layLevel cX12_layLevel 8 none)) ∧ ∃ (T : u_T) (N : Nat), vwCl[11]? = some (yX12_layLevel.cls, T, N) := ⟨eGoodV hT (tb6 212 rfl rfl) wiX12_layLevel wlX12_layLevel wnX12_layLevel wcX12_layLevel, TX12, 60, rfl⟩
set_option maxRecDepth 100000 in
set_option maxHeartbeats 4000000 in
theorem gvX12_307 {Ts : List Cond} (hT : ∀ w ∈ eTb, w ∈ Ts) : GoodIn Ts (va_wsS RX12 307 yX12_common (eWd yX12_common cX12_common 10 (some .long))) := eGoodS hT (tb6 216 rfl rfl) wsX12_common wnX12_common wcX12_common
set_option maxRecDepth 100000 in
set_option maxHeartbeats 4000000 in
theorem gvX12_311 {Ts : List Cond} (hT : ∀ w ∈ eTb, w ∈ Ts) : GoodIn Ts (va_wsS RX12 311 yX12_fallsBy (eWd yX12_fallsBy cX12_fallsBy 2 (some .long))) := eGoodS hT (tb6 147 rfl rfl) wsX12_fallsBy wnX12_fallsBy wcX12_fallsBy
set_option maxRecDepth 100000 in
set_option maxHeartbeats 4000000 in
theorem gvX12_315 {Ts : List Cond} (hT : ∀ w ∈ eTb, w ∈ Ts) : GoodIn Ts (wsV RX12 315 yX12_lay.cls yX12_lay (eWd yX12_lay cX12_lay 9 none)) ∧ ∃ (T : u_T) (N : Nat), vwCl[11]? = some (yX12_lay.cls, T, N) := ⟨eGoodV hT (tb6 151 rfl rfl) wiX12_lay wlX12_lay wnX12_lay wcX12_lay, TX12, 60, rfl⟩
set_option maxRecDepth 100000 in
set_option maxHeartbeats 4000000 in
theorem gvX12_318 {Ts : List Cond} (hT : ∀ w ∈ eTb, w ∈ Ts) : GoodIn Ts (va_wsS RX12 318 yX12_isAmount (eWd yX12_isAmount cX12_isAmount 1 (some .boolean))) := eGoodS hT (tb6 138 rfl rfl) wsX12_isAmount wnX12_isAmount wcX12_isAmount
set_option maxRecDepth 100000 in
set_option maxHeartbeats 4000000 in
theorem gvX12_323 {Ts : List Cond} (hT : ∀ w ∈ eTb, w ∈ Ts) : GoodIn Ts (wsV RX12 323 yX12_layBy.cls yX12_layBy (eWd yX12_layBy cX12_layBy 2 none)) ∧ ∃ (T : u_T) (N : Nat), vwCl[11]? = some (yX12_layBy.cls, T, N) := ⟨eGoodV hT (tb6 143 rfl rfl) wiX12_layBy wlX12_layBy wnX12_layBy wcX12_layBy, TX12, 60, rfl⟩
set_option maxRecDepth 100000 in
set_option maxHeartbeats 4000000 in
theorem gvX12_326 {Ts : List Cond} (hT : ∀ w ∈ eTb, w ∈ Ts) : GoodIn Ts (wsV RX12 326 yX12_lowest.cls yX12_lowest (eWd yX12_lowest cX12_lowest 5 (some .long))) ∧ ∃ (T : u_T) (N : Nat), vwCl[11]? = some (yX12_lowest.cls, T, N) := ⟨eGoodV hT (tb6 219 rfl rfl) wiX12_lowest wlX12_lowest wnX12_lowest wcX12_lowest, TX12, 60, rfl⟩
set_option maxRecDepth 100000 in
set_option maxHeartbeats 4000000 in
theorem gvX12_330 {Ts : List Cond} (hT : ∀ w ∈ eTb, w ∈ Ts) : GoodIn Ts (wsV RX12 330 yX12_stateOf.cls yX12_stateOf (eWd yX12_stateOf cX12_stateOf 7 (some .int))) ∧ ∃ (T : u_T) (N : Nat), vwCl[11]? = some (yX12_stateOf.cls, T, N) := ⟨eGoodV hT (tb6 231 rfl rfl) wiX12_stateOf wlX12_stateOf wnX12_stateOf wcX12_stateOf, TX12, 60, rfl⟩
set_option maxRecDepth 100000 in
set_option maxHeartbeats 4000000 in
theorem gvX12_333 {Ts : List Cond} (hT : ∀ w ∈ eTb, w ∈ Ts) : GoodIn Ts (wsV RX12 333 yX12_layPaid.cls yX12_layPaid (eWd yX12_layPaid cX12_layPaid 7 none)) ∧ ∃ (T : u_T) (N : Nat), vwCl[11]? = some (yX12_layPaid.cls, T, N) := ⟨eGoodV hT (tb7 3 rfl rfl) wiX12_layPaid wlX12_layPaid wnX12_layPaid wcX12_layPaid, TX12, 60, rfl⟩
set_option maxRecDepth 100000 in
set_option maxHeartbeats 4000000 in
theorem gvX12_336 {Ts : List Cond} (hT : ∀ w ∈ eTb, w ∈ Ts) : GoodIn Ts (wsV RX12 336 yX12_paidOf.cls yX12_paidOf (eWd yX12_paidOf cX12_paidOf 3 (some .int))) ∧ ∃ (T : u_T) (N : Nat), vwCl[11]? = some (yX12_paidOf.cls, T, N) := ⟨eGoodV hT (tb6 239 rfl rfl) wiX12_paidOf wlX12_paidOf wnX12_paidOf wcX12_paidOf, TX12, 60, rfl⟩
set_option maxRecDepth 100000 in
set_option maxHeartbeats 4000000 in
theorem gvX12_339 {Ts : List Cond} (hT : ∀ w ∈ eTb, w ∈ Ts) : GoodIn Ts (wsV RX12 339 yX12_hasUnits.cls yX12_hasUnits (eWd yX12_hasUnits cX12_hasUnits 4 (some .boolean))) ∧ ∃ (T : u_T) (N : Nat), vwCl[11]? = some (yX12_hasUnits.cls, T, N) := ⟨eGoodV hT (tb7 11 rfl rfl) wiX12_hasUnits wlX12_hasUnits wnX12_hasUnits wcX12_hasUnits, TX12, 60, rfl⟩
set_option maxRecDepth 100000 in
set_option maxHeartbeats 4000000 in
theorem gvX12_348 {Ts : List Cond} (hT : ∀ w ∈ eTb, w ∈ Ts) : GoodIn Ts (wsV RX12 348 yX12_asksFor.cls yX12_asksFor (eWd yX12_asksFor cX12_asksFor 3 none)) ∧ ∃ (T : u_T) (N : Nat), vwCl[11]? = some (yX12_asksFor.cls, T, N) := ⟨eGoodV hT (tb7 19 rfl rfl) wiX12_asksFor wlX12_asksFor wnX12_asksFor wcX12_asksFor, TX12, 60, rfl⟩
set_option maxRecDepth 100000 in
set_option maxHeartbeats 4000000 in
theorem gvX12_352 {Ts : List Cond} (hT : ∀ w ∈ eTb, w ∈ Ts) : GoodIn Ts (wsV RX12 352 yX12_isLike.cls yX12_isLike (eWd yX12_isLike cX12_isLike 3 (some .boolean))) ∧ ∃ (T : u_T) (N : Nat), vwCl[11]? = some (yX12_isLike.cls, T, N) := ⟨eGoodV hT (tb7 24 rfl rfl) wiX12_isLike wlX12_isLike wnX12_isLike wcX12_isLike, TX12, 60, rfl⟩
set_option maxRecDepth 100000 in
set_option maxHeartbeats 4000000 in
theorem gvX12_356 {Ts : List Cond} (hT : ∀ w ∈ eTb, w ∈ Ts) : GoodIn Ts (wsV RX12 356 yX12_prefersOf.cls yX12_prefersOf (eWd yX12_prefersOf cX12_prefersOf 5 (some .int))) ∧ ∃ (T : u_T) (N : Nat), vwCl[11]? = some (yX12_prefersOf.cls, T, N) := ⟨eGoodV hT (tb7 45 rfl rfl) wiX12_prefersOf wlX12_prefersOf wnX12_prefersOf wcX12_prefersOf, TX12, 60, rfl⟩
set_option maxRecDepth 100000 in
set_option maxHeartbeats 4000000 in
theorem gvX12_359 {Ts : List Cond} (hT : ∀ w ∈ eTb, w ∈ Ts) : GoodIn Ts (wsV RX12 359 yX12_votesOf.cls yX12_votesOf (eWd yX12_votesOf cX12_votesOf 5 (some .int))) ∧ ∃ (T : u_T) (N : Nat), vwCl[11]? = some (yX12_votesOf.cls, T, N) := ⟨eGoodV hT (tb7 53 rfl rfl) wiX12_votesOf wlX12_votesOf wnX12_votesOf wcX12_votesOf, TX12, 60, rfl⟩
set_option maxRecDepth 100000 in
set_option maxHeartbeats 4000000 in
theorem gvX12_365 {Ts : List Cond} (hT : ∀ w ∈ eTb, w ∈ Ts) : GoodIn Ts (va_wsS RX12 365 yX12_against (eWd yX12_against cX12_against 16 (some .int))) := eGoodS hT (tb7 73 rfl rfl) wsX12_against wnX12_against wcX12_against
set_option maxRecDepth 100000 in
set_option maxHeartbeats 4000000 in
theorem gvX12_369 {Ts : List Cond} (hT : ∀ w ∈ eTb, w ∈ Ts) : GoodIn Ts (wsV RX12 369 yX12_puts.cls yX12_puts (eWd yX12_puts cX12_puts 9 none)) ∧ ∃ (T : u_T) (N : Nat), vwCl[11]? = some (yX12_puts.cls, T, N) := ⟨eGoodV hT (tb7 69 rfl rfl) wiX12_puts wlX12_puts wnX12_puts wcX12_puts, TX12, 60, rfl⟩
set_option maxRecDepth 100000 in
set_option maxHeartbeats 4000000 in
theorem gvX12_372 {Ts : List Cond} (hT : ∀ w ∈ eTb, w ∈ Ts) : GoodIn Ts (wsV RX12 372 yX12_allAt.cls yX12_allAt (eWd yX12_allAt cX12_allAt 2 (some .long))) ∧ ∃ (T : u_T) (N : Nat), vwCl[11]? = some (yX12_allAt.cls, T, N) := ⟨eGoodV hT (tb7 76 rfl rfl) wiX12_allAt wlX12_allAt wnX12_allAt wcX12_allAt, TX12, 60, rfl⟩
set_option maxRecDepth 100000 in
set_option maxHeartbeats 4000000 in
theorem gvX12_375 {Ts : List Cond} (hT : ∀ w ∈ eTb, w ∈ Ts) : GoodIn Ts (wsV RX12 375 yX12_layBreaks.cls yX12_layBreaks (eWd yX12_layBreaks cX12_layBreaks 4 none)) ∧ ∃ (T : u_T) (N : Nat), vwCl[11]? = some (yX12_layBreaks.cls, T, N) := ⟨eGoodV hT (tb7 65 rfl rfl) wiX12_layBreaks wlX12_layBreaks wnX12_layBreaks wcX12_layBreaks, TX12, 60, rfl⟩
set_option maxRecDepth 100000 in
set_option maxHeartbeats 4000000 in
theorem gvX12_384 {Ts : List Cond} (hT : ∀ w ∈ eTb, w ∈ Ts) : GoodIn Ts (wsV RX12 384 yX12_layPart.cls yX12_layPart (eWd yX12_layPart cX12_layPart 11 none)) ∧ ∃ (T : u_T) (N : Nat), vwCl[11]? = some (yX12_layPart.cls, T, N) := ⟨eGoodV hT (tb7 84 rfl rfl) wiX12_layPart wlX12_layPart wnX12_layPart wcX12_layPart, TX12, 60, rfl⟩
set_option maxRecDepth 100000 in
set_option maxHeartbeats 4000000 in
theorem gvX12_387 {Ts : List Cond} (hT : ∀ w ∈ eTb, w ∈ Ts) : GoodIn Ts (wsV RX12 387 yX12_layChoice.cls yX12_layChoice (eWd yX12_layChoice cX12_layChoice 3 none)) ∧ ∃ (T : u_T) (N : Nat), vwCl[11]? = some (yX12_layChoice.cls, T, N) := ⟨eGoodV hT (tb7 92 rfl rfl) wiX12_layChoice wlX12_layChoice wnX12_layChoice wcX12_layChoice, TX12, 60, rfl⟩
set_option maxRecDepth 100000 in
set_option maxHeartbeats 4000000 in
theorem gvX12_390 {Ts : List Cond} (hT : ∀ w ∈ eTb, w ∈ Ts) : GoodIn Ts (wsV RX12 390 yX12_isSteady.cls yX12_isSteady (eWd yX12_isSteady cX12_isSteady 8 (some .boolean))) ∧ ∃ (T : u_T) (N : Nat), vwCl[11]? = some (yX12_isSteady.cls, T, N) := ⟨eGoodV hT (tb7 100 rfl rfl) wiX12_isSteady wlX12_isSteady wnX12_isSteady wcX12_isSteady, TX12, 60, rfl⟩
set_option maxRecDepth 100000 in
set_option maxHeartbeats 4000000 in
theorem gvX12_405 {Ts : List Cond} (hT : ∀ w ∈ eTb, w ∈ Ts) : GoodIn Ts (wsV RX12 405 yX12_keep.cls yX12_keep (eWd yX12_keep cX12_keep 3 none)) ∧ ∃ (T : u_T) (N : Nat), vwCl[11]? = some (yX12_keep.cls, T, N) := ⟨eGoodV hT (tb7 116 rfl rfl) wiX12_keep wlX12_keep wnX12_keep wcX12_keep, TX12, 60, rfl⟩
set_option maxRecDepth 100000 in
set_option maxHeartbeats 4000000 in
theorem gvX12_415 {Ts : List Cond} (hT : ∀ w ∈ eTb, w ∈ Ts) : GoodIn Ts (wsV RX12 415 yX12_hasDouble.cls yX12_hasDouble (eWd yX12_hasDouble cX12_hasDouble 3 (some .double))) ∧ ∃ (T : u_T) (N : Nat), vwCl[11]? = some (yX12_hasDouble.cls, T, N) := ⟨eGoodV hT (tb7 136 rfl rfl) wiX12_hasDouble wlX12_hasDouble wnX12_hasDouble wcX12_hasDouble, TX12, 60, rfl⟩
set_option maxRecDepth 100000 in
set_option maxHeartbeats 4000000 in
theorem gvX12_419 {Ts : List Cond} (hT : ∀ w ∈ eTb, w ∈ Ts) : GoodIn Ts (va_wsS RX12 419 yX12_bitsOf (eWd yX12_bitsOf cX12_bitsOf 6 (some .long))) := eGoodS hT (tb7 140 rfl rfl) wsX12_bitsOf wnX12_bitsOf wcX12_bitsOf
set_option maxRecDepth 100000 in
set_option maxHeartbeats 4000000 in
theorem gvX12_423 {Ts : List Cond} (hT : ∀ w ∈ eTb, w ∈ Ts) : GoodIn Ts (va_wsS RX12 423 yX12_bitsOfFloat (eWd yX12_bitsOfFloat cX12_bitsOfFloat 3 (some .int))) := eGoodS hT (tb7 150 rfl rfl) wsX12_bitsOfFloat wnX12_bitsOfFloat wcX12_bitsOfFloat
