theorem dc_law : eDec code C_law := by
  intro pc i hi
  have hl : pc < 1376 := by
    unfold eAt at hi
    split at hi
    · rename_i l hl
      have := (List.getElem?_eq_some_iff.mp hl).1
      have e : C_law.length = 86 := rfl
      omega
    · cases hi
  by_cases h0 : pc < 48
  · exact eDecP_ok (eDecR_ok dcl_0 (by omega) (by omega)) hi
  by_cases h48 : pc < 96
  · exact eDecP_ok (eDecR_ok dcl_48 (by omega) (by omega)) hi
  by_cases h96 : pc < 144
  · exact eDecP_ok (eDecR_ok dcl_96 (by omega) (by omega)) hi
  by_cases h144 : pc < 192
  · exact eDecP_ok (eDecR_ok dcl_144 (by omega) (by omega)) hi
  by_cases h192 : pc < 240
  · exact eDecP_ok (eDecR_ok dcl_192 (by omega) (by omega)) hi
  by_cases h240 : pc < 288
  · exact eDecP_ok (eDecR_ok dcl_240 (by omega) (by omega)) hi
  by_cases h288 : pc < 336
  · exact eDecP_ok (eDecR_ok dcl_288 (by omega) (by omega)) hi
  by_cases h336 : pc < 384
  · exact eDecP_ok (eDecR_ok dcl_336 (by omega) (by omega)) hi
  by_cases h384 : pc < 432
  · exact eDecP_ok (eDecR_ok dcl_384 (by omega) (by omega)) hi
  by_cases h432 : pc < 480
  · exact eDecP_ok (eDecR_ok dcl_432 (by omega) (by omega)) hi
  by_cases h480 : pc < 528
  · exact eDecP_ok (eDecR_ok dcl_480 (by omega) (by omega)) hi
  by_cases h528 : pc < 576
  · exact eDecP_ok (eDecR_ok dcl_528 (by omega) (by omega)) hi
  by_cases h576 : pc < 624
  · exact eDecP_ok (eDecR_ok dcl_576 (by omega) (by omega)) hi
  by_cases h624 : pc < 672
  · exact eDecP_ok (eDecR_ok dcl_624 (by omega) (by omega)) hi
  by_cases h672 : pc < 720
  · exact eDecP_ok (eDecR_ok dcl_672 (by omega) (by omega)) hi
  by_cases h720 : pc < 768
  · exact eDecP_ok (eDecR_ok dcl_720 (by omega) (by omega)) hi
  by_cases h768 : pc < 816
  · exact eDecP_ok (eDecR_ok dcl_768 (by omega) (by omega)) hi
  by_cases h816 : pc < 864
  · exact eDecP_ok (eDecR_ok dcl_816 (by omega) (by omega)) hi
  by_cases h864 : pc < 912
  · exact eDecP_ok (eDecR_ok dcl_864 (by omega) (by omega)) hi
  by_cases h912 : pc < 960
  · exact eDecP_ok (eDecR_ok dcl_912 (by omega) (by omega)) hi
  by_cases h960 : pc < 1008
  · exact eDecP_ok (eDecR_ok dcl_960 (by omega) (by omega)) hi
  by_cases h1008 : pc < 1056
  · exact eDecP_ok (eDecR_ok dcl_1008 (by omega) (by omega)) hi
  by_cases h1056 : pc < 1104
  · exact eDecP_ok (eDecR_ok dcl_1056 (by omega) (by omega)) hi
  by_cases h1104 : pc < 1152
  · exact eDecP_ok (eDecR_ok dcl_1104 (by omega) (by omega)) hi
  by_cases h1152 : pc < 1200
  · exact eDecP_ok (eDecR_ok dcl_1152 (by omega) (by omega)) hi
  by_cases h1200 : pc < 1248
  · exact eDecP_ok (eDecR_ok dcl_1200 (by omega) (by omega)) hi
  by_cases h1248 : pc < 1296
  · exact eDecP_ok (eDecR_ok dcl_1248 (by omega) (by omega)) hi
  by_cases h1296 : pc < 1344
  · exact eDecP_ok (eDecR_ok dcl_1296 (by omega) (by omega)) hi
  by_cases h1344 : pc < 1392
  · exact eDecP_ok (eDecR_ok dcl_1344 (by omega) (by omega)) hi
  omega
