set_option maxRecDepth 100000 in
set_option maxHeartbeats 4000000 in
theorem wfX0 : ∀ w ∈ u_ws RX0 TX0 3, w ∈ eTb := List.forall_mem_map.mpr (fun k hk => by
  have hk := List.mem_range.mp hk
  match k, hk with
  | 0, _ => exact tb2 150 rfl rfl
  | 1, _ => exact tb2 152 rfl rfl
  | 2, _ => exact tb2 154 rfl rfl
)
set_option maxRecDepth 100000 in
set_option maxHeartbeats 4000000 in
theorem wfX1 : ∀ w ∈ u_ws RX1 TX1 6, w ∈ eTb := List.forall_mem_map.mpr (fun k hk => by
  have hk := List.mem_range.mp hk
  match k, hk with
  | 0, _ => exact tb2 57 rfl rfl
  | 1, _ => exact tb2 59 rfl rfl
  | 2, _ => exact tb2 61 rfl rfl
  | 3, _ => exact tb2 63 rfl rfl
  | 4, _ => exact tb2 65 rfl rfl
  | 5, _ => exact tb2 67 rfl rfl
)
set_option maxRecDepth 100000 in
set_option maxHeartbeats 4000000 in
theorem wfX10 : ∀ w ∈ u_ws RX10 TX10 7, w ∈ eTb := List.forall_mem_map.mpr (fun k hk => by
  have hk := List.mem_range.mp hk
  match k, hk with
  | 0, _ => exact tb1 47 rfl rfl
  | 1, _ => exact tb1 49 rfl rfl
  | 2, _ => exact tb1 51 rfl rfl
  | 3, _ => exact tb1 53 rfl rfl
  | 4, _ => exact tb1 55 rfl rfl
  | 5, _ => exact tb1 57 rfl rfl
  | 6, _ => exact tb1 59 rfl rfl
)
set_option maxRecDepth 100000 in
set_option maxHeartbeats 4000000 in
theorem wfX11 : ∀ w ∈ u_ws RX11 TX11 9, w ∈ eTb := List.forall_mem_map.mpr (fun k hk => by
  have hk := List.mem_range.mp hk
  match k, hk with
  | 0, _ => exact tb2 166 rfl rfl
  | 1, _ => exact tb2 168 rfl rfl
  | 2, _ => exact tb2 170 rfl rfl
  | 3, _ => exact tb2 172 rfl rfl
  | 4, _ => exact tb2 174 rfl rfl
  | 5, _ => exact tb2 176 rfl rfl
  | 6, _ => exact tb2 178 rfl rfl
  | 7, _ => exact tb2 180 rfl rfl
  | 8, _ => exact tb2 182 rfl rfl
)
set_option maxRecDepth 100000 in
set_option maxHeartbeats 4000000 in
theorem wfX12 : ∀ w ∈ u_ws RX12 TX12 60, w ∈ eTb := List.forall_mem_map.mpr (fun k hk => by
  have hk := List.mem_range.mp hk
  match k, hk with
  | 0, _ => exact tb5 134 rfl rfl
  | 1, _ => exact tb5 136 rfl rfl
  | 2, _ => exact tb5 138 rfl rfl
  | 3, _ => exact tb5 140 rfl rfl
  | 4, _ => exact tb5 142 rfl rfl
  | 5, _ => exact tb5 144 rfl rfl
  | 6, _ => exact tb5 146 rfl rfl
  | 7, _ => exact tb5 148 rfl rfl
  | 8, _ => exact tb5 150 rfl rfl
  | 9, _ => exact tb5 152 rfl rfl
  | 10, _ => exact tb5 154 rfl rfl
  | 11, _ => exact tb5 156 rfl rfl
  | 12, _ => exact tb5 158 rfl rfl
  | 13, _ => exact tb5 160 rfl rfl
  | 14, _ => exact tb5 162 rfl rfl
  | 15, _ => exact tb5 164 rfl rfl
  | 16, _ => exact tb5 166 rfl rfl
  | 17, _ => exact tb5 168 rfl rfl
  | 18, _ => exact tb5 170 rfl rfl
  | 19, _ => exact tb5 172 rfl rfl
  | 20, _ => exact tb5 174 rfl rfl
  | 21, _ => exact tb5 176 rfl rfl
  | 22, _ => exact tb5 178 rfl rfl
  | 23, _ => exact tb5 180 rfl rfl
  | 24, _ => exact tb5 182 rfl rfl
  | 25, _ => exact tb5 184 rfl rfl
  | 26, _ => exact tb5 186 rfl rfl
  | 27, _ => exact tb5 188 rfl rfl
  | 28, _ => exact tb5 190 rfl rfl
  | 29, _ => exact tb5 192 rfl rfl
  | 30, _ => exact tb5 194 rfl rfl
  | 31, _ => exact tb5 196 rfl rfl
  | 32, _ => exact tb5 198 rfl rfl
  | 33, _ => exact tb5 200 rfl rfl
  | 34, _ => exact tb5 202 rfl rfl
  | 35, _ => exact tb5 204 rfl rfl
  | 36, _ => exact tb5 206 rfl rfl
  | 37, _ => exact tb5 208 rfl rfl
  | 38, _ => exact tb5 210 rfl rfl
  | 39, _ => exact tb5 212 rfl rfl
  | 40, _ => exact tb5 214 rfl rfl
  | 41, _ => exact tb5 216 rfl rfl
  | 42, _ => exact tb5 218 rfl rfl
  | 43, _ => exact tb5 220 rfl rfl
  | 44, _ => exact tb5 222 rfl rfl
  | 45, _ => exact tb5 224 rfl rfl
  | 46, _ => exact tb5 226 rfl rfl
  | 47, _ => exact tb5 228 rfl rfl
  | 48, _ => exact tb5 230 rfl rfl
  | 49, _ => exact tb5 232 rfl rfl
  | 50, _ => exact tb5 234 rfl rfl
  | 51, _ => exact tb5 236 rfl rfl
  | 52, _ => exact tb5 238 rfl rfl
  | 53, _ => exact tb6 0 rfl rfl
  | 54, _ => exact tb6 2 rfl rfl
  | 55, _ => exact tb6 4 rfl rfl
  | 56, _ => exact tb6 6 rfl rfl
  | 57, _ => exact tb6 8 rfl rfl
  | 58, _ => exact tb6 10 rfl rfl
  | 59, _ => exact tb6 12 rfl rfl
  | k + 60, hk => exact absurd hk (by omega)
)
set_option maxRecDepth 100000 in
set_option maxHeartbeats 4000000 in
theorem wfX2 : ∀ w ∈ u_ws RX2 TX2 14, w ∈ eTb := List.forall_mem_map.mpr (fun k hk => by
  have hk := List.mem_range.mp hk
  match k, hk with
  | 0, _ => exact tb1 214 rfl rfl
  | 1, _ => exact tb1 216 rfl rfl
  | 2, _ => exact tb1 218 rfl rfl
  | 3, _ => exact tb1 220 rfl rfl
  | 4, _ => exact tb1 222 rfl rfl
  | 5, _ => exact tb1 224 rfl rfl
  | 6, _ => exact tb1 226 rfl rfl
  | 7, _ => exact tb1 228 rfl rfl
  | 8, _ => exact tb1 230 rfl rfl
  | 9, _ => exact tb1 232 rfl rfl
  | 10, _ => exact tb1 234 rfl rfl
  | 11, _ => exact tb1 236 rfl rfl
  | 12, _ => exact tb1 238 rfl rfl
  | 13, _ => exact tb2 0 rfl rfl
)
set_option maxRecDepth 100000 in
set_option maxHeartbeats 4000000 in
theorem wfX3 : ∀ w ∈ u_ws RX3 TX3 10, w ∈ eTb := List.forall_mem_map.mpr (fun k hk => by
  have hk := List.mem_range.mp hk
  match k, hk with
  | 0, _ => exact tb2 19 rfl rfl
  | 1, _ => exact tb2 21 rfl rfl
  | 2, _ => exact tb2 23 rfl rfl
  | 3, _ => exact tb2 25 rfl rfl
  | 4, _ => exact tb2 27 rfl rfl
  | 5, _ => exact tb2 29 rfl rfl
  | 6, _ => exact tb2 31 rfl rfl
  | 7, _ => exact tb2 33 rfl rfl
  | 8, _ => exact tb2 35 rfl rfl
  | 9, _ => exact tb2 37 rfl rfl
)
set_option maxRecDepth 100000 in
set_option maxHeartbeats 4000000 in
theorem wfX4 : ∀ w ∈ u_ws RX4 TX4 4, w ∈ eTb := List.forall_mem_map.mpr (fun k hk => by
  have hk := List.mem_range.mp hk
  match k, hk with
  | 0, _ => exact tb1 86 rfl rfl
  | 1, _ => exact tb1 88 rfl rfl
  | 2, _ => exact tb1 90 rfl rfl
  | 3, _ => exact tb1 92 rfl rfl
)
set_option maxRecDepth 100000 in
set_option maxHeartbeats 4000000 in
theorem wfX5 : ∀ w ∈ u_ws RX5 TX5 4, w ∈ eTb := List.forall_mem_map.mpr (fun k hk => by
  have hk := List.mem_range.mp hk
  match k, hk with
  | 0, _ => exact tb2 80 rfl rfl
  | 1, _ => exact tb2 82 rfl rfl
  | 2, _ => exact tb2 84 rfl rfl
  | 3, _ => exact tb2 86 rfl rfl
)
set_option maxRecDepth 100000 in
set_option maxHeartbeats 4000000 in
theorem wfX6 : ∀ w ∈ u_ws RX6 TX6 3, w ∈ eTb := List.forall_mem_map.mpr (fun k hk => by
  have hk := List.mem_range.mp hk
  match k, hk with
  | 0, _ => exact tb2 133 rfl rfl
  | 1, _ => exact tb2 135 rfl rfl
  | 2, _ => exact tb2 137 rfl rfl
)
set_option maxRecDepth 100000 in
set_option maxHeartbeats 4000000 in
theorem wfX8 : ∀ w ∈ u_ws RX8 TX8 7, w ∈ eTb := List.forall_mem_map.mpr (fun k hk => by
  have hk := List.mem_range.mp hk
  match k, hk with
  | 0, _ => exact tb1 160 rfl rfl
  | 1, _ => exact tb1 162 rfl rfl
  | 2, _ => exact tb1 164 rfl rfl
  | 3, _ => exact tb1 166 rfl rfl
  | 4, _ => exact tb1 168 rfl rfl
  | 5, _ => exact tb1 170 rfl rfl
  | 6, _ => exact tb1 172 rfl rfl
)
set_option maxRecDepth 100000 in
set_option maxHeartbeats 4000000 in
theorem wfX9 : ∀ w ∈ u_ws RX9 TX9 5, w ∈ eTb := List.forall_mem_map.mpr (fun k hk => by
  have hk := List.mem_range.mp hk
  match k, hk with
  | 0, _ => exact tb2 110 rfl rfl
  | 1, _ => exact tb2 112 rfl rfl
  | 2, _ => exact tb2 114 rfl rfl
  | 3, _ => exact tb2 116 rfl rfl
  | 4, _ => exact tb2 118 rfl rfl
)
set_option maxRecDepth 100000 in
set_option maxHeartbeats 4000000 in
theorem lkX11_10 {R : Room} {Ts : List Cond} {SS : List eS} {n : Nat} (hT : ∀ w ∈ eTb, w ∈ Ts) : eLnk R vwCl Ts SS n RX11 10 (0, 10, 0, 2) := ⟨RX11, TX11, 9, tyX11, rfl, by decide, Or.inl rfl, fun w h => hT w (wfX11 w h), tyX11_ok, nmX11, hT _ (tb2 157 rfl rfl)⟩
set_option maxRecDepth 100000 in
set_option maxHeartbeats 4000000 in
theorem lkX11_21 {R : Room} {Ts : List Cond} {SS : List eS} {n : Nat} (hT : ∀ w ∈ eTb, w ∈ Ts) : eLnk R vwCl Ts SS n RX11 21 (0, 10, 1, 2) := ⟨RX11, TX11, 9, tyX11, rfl, by decide, Or.inl rfl, fun w h => hT w (wfX11 w h), tyX11_ok, nmX11, hT _ (tb2 158 rfl rfl)⟩
set_option maxRecDepth 100000 in
set_option maxHeartbeats 4000000 in
theorem lkX11_28 {R : Room} {Ts : List Cond} {SS : List eS} {n : Nat} (hT : ∀ w ∈ eTb, w ∈ Ts) : eLnk R vwCl Ts SS n RX11 28 (0, 10, 2, 2) := ⟨RX11, TX11, 9, tyX11, rfl, by decide, Or.inl rfl, fun w h => hT w (wfX11 w h), tyX11_ok, nmX11, hT _ (tb2 159 rfl rfl)⟩
set_option maxRecDepth 100000 in
set_option maxHeartbeats 4000000 in
theorem lkX11_35 {R : Room} {Ts : List Cond} {SS : List eS} {n : Nat} (hT : ∀ w ∈ eTb, w ∈ Ts) : eLnk R vwCl Ts SS n RX11 35 (0, 10, 3, 2) := ⟨RX11, TX11, 9, tyX11, rfl, by decide, Or.inl rfl, fun w h => hT w (wfX11 w h), tyX11_ok, nmX11, hT _ (tb2 160 rfl rfl)⟩
set_option maxRecDepth 100000 in
set_option maxHeartbeats 4000000 in
theorem lkX11_42 {R : Room} {Ts : List Cond} {SS : List eS} {n : Nat} (hT : ∀ w ∈ eTb, w ∈ Ts) : eLnk R vwCl Ts SS n RX11 42 (0, 10, 4, 2) := ⟨RX11, TX11, 9, tyX11, rfl, by decide, Or.inl rfl, fun w h => hT w (wfX11 w h), tyX11_ok, nmX11, hT _ (tb2 161 rfl rfl)⟩
set_option maxRecDepth 100000 in
set_option maxHeartbeats 4000000 in
theorem lkX11_49 {R : Room} {Ts : List Cond} {SS : List eS} {n : Nat} (hT : ∀ w ∈ eTb, w ∈ Ts) : eLnk R vwCl Ts SS n RX11 49 (0, 10, 5, 2) := ⟨RX11, TX11, 9, tyX11, rfl, by decide, Or.inl rfl, fun w h => hT w (wfX11 w h), tyX11_ok, nmX11, hT _ (tb2 162 rfl rfl)⟩
set_option maxRecDepth 100000 in
set_option maxHeartbeats 4000000 in
theorem lkX11_56 {R : Room} {Ts : List Cond} {SS : List eS} {n : Nat} (hT : ∀ w ∈ eTb, w ∈ Ts) : eLnk R vwCl Ts SS n RX11 56 (0, 10, 6, 2) := ⟨RX11, TX11, 9, tyX11, rfl, by decide, Or.inl rfl, fun w h => hT w (wfX11 w h), tyX11_ok, nmX11, hT _ (tb2 163 rfl rfl)⟩
set_option maxRecDepth 100000 in
set_option maxHeartbeats 4000000 in
theorem lkX11_63 {R : Room} {Ts : List Cond} {SS : List eS} {n : Nat} (hT : ∀ w ∈ eTb, w ∈ Ts) : eLnk R vwCl Ts SS n RX11 63 (0, 10, 7, 2) := ⟨RX11, TX11, 9, tyX11, rfl, by decide, Or.inl rfl, fun w h => hT w (wfX11 w h), tyX11_ok, nmX11, hT _ (tb2 164 rfl rfl)⟩
set_option maxRecDepth 100000 in
set_option maxHeartbeats 4000000 in
theorem lkX11_70 {R : Room} {Ts : List Cond} {SS : List eS} {n : Nat} (hT : ∀ w ∈ eTb, w ∈ Ts) : eLnk R vwCl Ts SS n RX11 70 (0, 10, 8, 2) := ⟨RX11, TX11, 9, tyX11, rfl, by decide, Or.inl rfl, fun w h => hT w (wfX11 w h), tyX11_ok, nmX11, hT _ (tb2 165 rfl rfl)⟩
set_option maxRecDepth 100000 in
set_option maxHeartbeats 4000000 in
theorem lkX11_74 {R : Room} {Ts : List Cond} {SS : List eS} {n : Nat} (hT : ∀ w ∈ eTb, w ∈ Ts) : eLnk R vwCl Ts SS n RX11 74 (0, 9, 1, 0) := ⟨RX10, TX10, 7, tyX10, rfl, by decide, Or.inr ⟨rfl, tyX10_ok 1 (by decide)⟩, fun w h => hT w (wfX10 w h), tyX10_ok, nmX10, hT _ (tb1 36 rfl rfl)⟩
set_option maxRecDepth 100000 in
set_option maxHeartbeats 4000000 in
theorem lkX11_90 {R : Room} {Ts : List Cond} {SS : List eS} {n : Nat} (hT : ∀ w ∈ eTb, w ∈ Ts) : eLnk R vwCl Ts SS n RX11 90 (0, 7, 4, 2) := ⟨RX8, TX8, 7, tyX8, rfl, by decide, Or.inl rfl, fun w h => hT w (wfX8 w h), tyX8_ok, nmX8, hT _ (tb1 155 rfl rfl)⟩
set_option maxRecDepth 100000 in
set_option maxHeartbeats 4000000 in
theorem lkX11_97 {R : Room} {Ts : List Cond} {SS : List eS} {n : Nat} (hT : ∀ w ∈ eTb, w ∈ Ts) : eLnk R vwCl Ts SS n RX11 97 (0, 8, 0, 3) := ⟨RX9, TX9, 5, tyX9, rfl, by decide, Or.inr ⟨rfl, tyX9_ok 0 (by decide)⟩, fun w h => hT w (wfX9 w h), tyX9_ok, nmX9, hT _ (tb2 97 rfl rfl)⟩
set_option maxRecDepth 100000 in
set_option maxHeartbeats 4000000 in
theorem lkX11_101 {R : Room} {Ts : List Cond} {SS : List eS} {n : Nat} (hT : ∀ w ∈ eTb, w ∈ Ts) : eLnk R vwCl Ts SS n RX11 101 (0, 6, 2, 0) := ⟨RX6, TX6, 3, tyX6, rfl, by decide, Or.inr ⟨rfl, tyX6_ok 2 (by decide)⟩, fun w h => hT w (wfX6 w h), tyX6_ok, nmX6, hT _ (tb2 132 rfl rfl)⟩
set_option maxRecDepth 100000 in
set_option maxHeartbeats 4000000 in
theorem lkX11_104 {R : Room} {Ts : List Cond} {SS : List eS} {n : Nat} (hT : ∀ w ∈ eTb, w ∈ Ts) : eLnk R vwCl Ts SS n RX11 104 (0, 0, 2, 0) := ⟨RX0, TX0, 3, tyX0, rfl, by decide, Or.inr ⟨rfl, tyX0_ok 2 (by decide)⟩, fun w h => hT w (wfX0 w h), tyX0_ok, nmX0, hT _ (tb2 149 rfl rfl)⟩
set_option maxRecDepth 100000 in
set_option maxHeartbeats 4000000 in
theorem lkX11_105 {R : Room} {Ts : List Cond} {SS : List eS} {n : Nat} (hT : ∀ w ∈ eTb, w ∈ Ts) : eLnk R vwCl Ts SS n RX11 105 (0, 4, 0, 0) := ⟨RX4, TX4, 4, tyX4, rfl, by decide, Or.inr ⟨rfl, tyX4_ok 0 (by decide)⟩, fun w h => hT w (wfX4 w h), tyX4_ok, nmX4, hT _ (tb1 78 rfl rfl)⟩
set_option maxRecDepth 100000 in
set_option maxHeartbeats 4000000 in
theorem lkX11_106 {R : Room} {Ts : List Cond} {SS : List eS} {n : Nat} (hT : ∀ w ∈ eTb, w ∈ Ts) : eLnk R vwCl Ts SS n RX11 106 (0, 7, 5, 0) := ⟨RX8, TX8, 7, tyX8, rfl, by decide, Or.inr ⟨rfl, tyX8_ok 5 (by decide)⟩, fun w h => hT w (wfX8 w h), tyX8_ok, nmX8, hT _ (tb1 157 rfl rfl)⟩
set_option maxRecDepth 100000 in
set_option maxHeartbeats 4000000 in
theorem lkX11_109 {R : Room} {Ts : List Cond} {SS : List eS} {n : Nat} (hT : ∀ w ∈ eTb, w ∈ Ts) : eLnk R vwCl Ts SS n RX11 109 (0, 7, 6, 0) := ⟨RX8, TX8, 7, tyX8, rfl, by decide, Or.inr ⟨rfl, tyX8_ok 6 (by decide)⟩, fun w h => hT w (wfX8 w h), tyX8_ok, nmX8, hT _ (tb1 159 rfl rfl)⟩
set_option maxRecDepth 100000 in
set_option maxHeartbeats 4000000 in
theorem lkX11_112 {R : Room} {Ts : List Cond} {SS : List eS} {n : Nat} (hT : ∀ w ∈ eTb, w ∈ Ts) : eLnk R vwCl Ts SS n RX11 112 (0, 4, 1, 0) := ⟨RX4, TX4, 4, tyX4, rfl, by decide, Or.inr ⟨rfl, tyX4_ok 1 (by decide)⟩, fun w h => hT w (wfX4 w h), tyX4_ok, nmX4, hT _ (tb1 81 rfl rfl)⟩
set_option maxRecDepth 100000 in
set_option maxHeartbeats 4000000 in
theorem lkX11_115 {R : Room} {Ts : List Cond} {SS : List eS} {n : Nat} (hT : ∀ w ∈ eTb, w ∈ Ts) : eLnk R vwCl Ts SS n RX11 115 (0, 4, 2, 0) := ⟨RX4, TX4, 4, tyX4, rfl, by decide, Or.inr ⟨rfl, tyX4_ok 2 (by decide)⟩, fun w h => hT w (wfX4 w h), tyX4_ok, nmX4, hT _ (tb1 84 rfl rfl)⟩
set_option maxRecDepth 100000 in
set_option maxHeartbeats 4000000 in
theorem lkX11_136 {R : Room} {Ts : List Cond} {SS : List eS} {n : Nat} (hT : ∀ w ∈ eTb, w ∈ Ts) : eLnk R vwCl Ts SS n RX11 136 (3, 0, 0, -2) := hT _ (tb3 115 rfl rfl)
set_option maxRecDepth 100000 in
set_option maxHeartbeats 4000000 in
theorem lkX11_145 {R : Room} {Ts : List Cond} {SS : List eS} {n : Nat} (hT : ∀ w ∈ eTb, w ∈ Ts) : eLnk R vwCl Ts SS n RX11 145 (0, 3, 5, 1) := ⟨RX3, TX3, 10, tyX3, rfl, by decide, Or.inr ⟨rfl, tyX3_ok 5 (by decide)⟩, fun w h => hT w (wfX3 w h), tyX3_ok, nmX3, hT _ (tb2 12 rfl rfl)⟩
set_option maxRecDepth 100000 in
set_option maxHeartbeats 4000000 in
theorem lkX11_165 {R : Room} {Ts : List Cond} {SS : List eS} {n : Nat} (hT : ∀ w ∈ eTb, w ∈ Ts) : eLnk R vwCl Ts SS n RX11 165 (0, 3, 6, 1) := ⟨RX3, TX3, 10, tyX3, rfl, by decide, Or.inr ⟨rfl, tyX3_ok 6 (by decide)⟩, fun w h => hT w (wfX3 w h), tyX3_ok, nmX3, hT _ (tb2 14 rfl rfl)⟩
set_option maxRecDepth 100000 in
set_option maxHeartbeats 4000000 in
theorem lkX11_168 {R : Room} {Ts : List Cond} {SS : List eS} {n : Nat} (hT : ∀ w ∈ eTb, w ∈ Ts) : eLnk R vwCl Ts SS n RX11 168 (0, 3, 7, 1) := ⟨RX3, TX3, 10, tyX3, rfl, by decide, Or.inr ⟨rfl, tyX3_ok 7 (by decide)⟩, fun w h => hT w (wfX3 w h), tyX3_ok, nmX3, hT _ (tb2 16 rfl rfl)⟩
set_option maxRecDepth 100000 in
set_option maxHeartbeats 4000000 in
theorem lkX11_174 {R : Room} {Ts : List Cond} {SS : List eS} {n : Nat} (hT : ∀ w ∈ eTb, w ∈ Ts) : eLnk R vwCl Ts SS n RX11 174 (3, 0, 0, 100) := hT _ (tb3 171 rfl rfl)
set_option maxRecDepth 100000 in
set_option maxHeartbeats 4000000 in
theorem lkX11_180 {R : Room} {Ts : List Cond} {SS : List eS} {n : Nat} (hT : ∀ w ∈ eTb, w ∈ Ts) : eLnk R vwCl Ts SS n RX11 180 (2, 0, 0, 9999999) := hT _ (tb3 111 rfl rfl)
set_option maxRecDepth 100000 in
set_option maxHeartbeats 4000000 in
theorem lkX11_205 {R : Room} {Ts : List Cond} {SS : List eS} {n : Nat} (hT : ∀ w ∈ eTb, w ∈ Ts) : eLnk R vwCl Ts SS n RX11 205 (2, 0, 0, -1000000000) := hT _ (tb4 52 rfl rfl)
set_option maxRecDepth 100000 in
set_option maxHeartbeats 4000000 in
theorem lkX11_216 {R : Room} {Ts : List Cond} {SS : List eS} {n : Nat} (hT : ∀ w ∈ eTb, w ∈ Ts) : eLnk R vwCl Ts SS n RX11 216 (0, 1, 2, 0) := ⟨RX1, TX1, 6, tyX1, rfl, by decide, Or.inr ⟨rfl, tyX1_ok 2 (by decide)⟩, fun w h => hT w (wfX1 w h), tyX1_ok, nmX1, hT _ (tb2 51 rfl rfl)⟩
set_option maxRecDepth 100000 in
set_option maxHeartbeats 4000000 in
theorem lkX11_217 {R : Room} {Ts : List Cond} {SS : List eS} {n : Nat} (hT : ∀ w ∈ eTb, w ∈ Ts) : eLnk R vwCl Ts SS n RX11 217 (0, 1, 0, 2) := ⟨RX1, TX1, 6, tyX1, rfl, by decide, Or.inl rfl, fun w h => hT w (wfX1 w h), tyX1_ok, nmX1, hT _ (tb2 47 rfl rfl)⟩
set_option maxRecDepth 100000 in
set_option maxHeartbeats 4000000 in
theorem lkX11_221 {R : Room} {Ts : List Cond} {SS : List eS} {n : Nat} (hT : ∀ w ∈ eTb, w ∈ Ts) : eLnk R vwCl Ts SS n RX11 221 (0, 1, 1, 2) := ⟨RX1, TX1, 6, tyX1, rfl, by decide, Or.inl rfl, fun w h => hT w (wfX1 w h), tyX1_ok, nmX1, hT _ (tb2 49 rfl rfl)⟩
set_option maxRecDepth 100000 in
set_option maxHeartbeats 4000000 in
theorem lkX11_227 {R : Room} {Ts : List Cond} {SS : List eS} {n : Nat} (hT : ∀ w ∈ eTb, w ∈ Ts) : eLnk R vwCl Ts SS n RX11 227 (0, 1, 4, 1) := ⟨RX1, TX1, 6, tyX1, rfl, by decide, Or.inr ⟨rfl, tyX1_ok 4 (by decide)⟩, fun w h => hT w (wfX1 w h), tyX1_ok, nmX1, hT _ (tb2 54 rfl rfl)⟩
set_option maxRecDepth 100000 in
set_option maxHeartbeats 4000000 in
theorem lkX11_230 {R : Room} {Ts : List Cond} {SS : List eS} {n : Nat} (hT : ∀ w ∈ eTb, w ∈ Ts) : eLnk R vwCl Ts SS n RX11 230 (0, 1, 5, 1) := ⟨RX1, TX1, 6, tyX1, rfl, by decide, Or.inr ⟨rfl, tyX1_ok 5 (by decide)⟩, fun w h => hT w (wfX1 w h), tyX1_ok, nmX1, hT _ (tb2 56 rfl rfl)⟩
set_option maxRecDepth 100000 in
set_option maxHeartbeats 4000000 in
theorem lkX11_268 {R : Room} {Ts : List Cond} {SS : List eS} {n : Nat} (hT : ∀ w ∈ eTb, w ∈ Ts) : eLnk R vwCl Ts SS n RX11 268 (0, 8, 3, 0) := ⟨RX9, TX9, 5, tyX9, rfl, by decide, Or.inr ⟨rfl, tyX9_ok 3 (by decide)⟩, fun w h => hT w (wfX9 w h), tyX9_ok, nmX9, hT _ (tb2 106 rfl rfl)⟩
set_option maxRecDepth 100000 in
set_option maxHeartbeats 4000000 in
theorem lkX11_271 {R : Room} {Ts : List Cond} {SS : List eS} {n : Nat} (hT : ∀ w ∈ eTb, w ∈ Ts) : eLnk R vwCl Ts SS n RX11 271 (0, 8, 2, 0) := ⟨RX9, TX9, 5, tyX9, rfl, by decide, Or.inr ⟨rfl, tyX9_ok 2 (by decide)⟩, fun w h => hT w (wfX9 w h), tyX9_ok, nmX9, hT _ (tb2 103 rfl rfl)⟩
set_option maxRecDepth 100000 in
set_option maxHeartbeats 4000000 in
theorem lkX11_278 {R : Room} {Ts : List Cond} {SS : List eS} {n : Nat} (hT : ∀ w ∈ eTb, w ∈ Ts) : eLnk R vwCl Ts SS n RX11 278 (0, 8, 1, 0) := ⟨RX9, TX9, 5, tyX9, rfl, by decide, Or.inr ⟨rfl, tyX9_ok 1 (by decide)⟩, fun w h => hT w (wfX9 w h), tyX9_ok, nmX9, hT _ (tb2 100 rfl rfl)⟩
set_option maxRecDepth 100000 in
set_option maxHeartbeats 4000000 in
theorem lkX11_281 {R : Room} {Ts : List Cond} {SS : List eS} {n : Nat} (hT : ∀ w ∈ eTb, w ∈ Ts) : eLnk R vwCl Ts SS n RX11 281 (0, 8, 4, 0) := ⟨RX9, TX9, 5, tyX9, rfl, by decide, Or.inr ⟨rfl, tyX9_ok 4 (by decide)⟩, fun w h => hT w (wfX9 w h), tyX9_ok, nmX9, hT _ (tb2 109 rfl rfl)⟩
set_option maxRecDepth 100000 in
set_option maxHeartbeats 4000000 in
theorem lkX11_293 {R : Room} {Ts : List Cond} {SS : List eS} {n : Nat} (hT : ∀ w ∈ eTb, w ∈ Ts) : eLnk R vwCl Ts SS n RX11 293 (0, 6, 0, 2) := ⟨RX6, TX6, 3, tyX6, rfl, by decide, Or.inl rfl, fun w h => hT w (wfX6 w h), tyX6_ok, nmX6, hT _ (tb2 128 rfl rfl)⟩
set_option maxRecDepth 100000 in
set_option maxHeartbeats 4000000 in
theorem lkX11_297 {R : Room} {Ts : List Cond} {SS : List eS} {n : Nat} (hT : ∀ w ∈ eTb, w ∈ Ts) : eLnk R vwCl Ts SS n RX11 297 (0, 6, 1, 2) := ⟨RX6, TX6, 3, tyX6, rfl, by decide, Or.inl rfl, fun w h => hT w (wfX6 w h), tyX6_ok, nmX6, hT _ (tb2 130 rfl rfl)⟩
set_option maxRecDepth 100000 in
set_option maxHeartbeats 4000000 in
theorem lkX11_339 {R : Room} {Ts : List Cond} {SS : List eS} {n : Nat} (hT : ∀ w ∈ eTb, w ∈ Ts) : eLnk R vwCl Ts SS n RX11 339 (2, 0, 0, 10000000) := hT _ (tb4 18 rfl rfl)
set_option maxRecDepth 100000 in
set_option maxHeartbeats 4000000 in
theorem lkX0_11 {R : Room} {Ts : List Cond} {SS : List eS} {n : Nat} (hT : ∀ w ∈ eTb, w ∈ Ts) : eLnk R vwCl Ts SS n RX0 11 (0, 0, 0, 2) := ⟨RX0, TX0, 3, tyX0, rfl, by decide, Or.inl rfl, fun w h => hT w (wfX0 w h), tyX0_ok, nmX0, hT _ (tb2 146 rfl rfl)⟩
set_option maxRecDepth 100000 in
set_option maxHeartbeats 4000000 in
theorem lkX0_15 {R : Room} {Ts : List Cond} {SS : List eS} {n : Nat} (hT : ∀ w ∈ eTb, w ∈ Ts) : eLnk R vwCl Ts SS n RX0 15 (0, 0, 1, 0) := ⟨RX0, TX0, 3, tyX0, rfl, by decide, Or.inr ⟨rfl, tyX0_ok 1 (by decide)⟩, fun w h => hT w (wfX0 w h), tyX0_ok, nmX0, hT _ (tb2 147 rfl rfl)⟩
set_option maxRecDepth 100000 in
set_option maxHeartbeats 4000000 in
theorem lkX0_19 {R : Room} {Ts : List Cond} {SS : List eS} {n : Nat} (hT : ∀ w ∈ eTb, w ∈ Ts) : eLnk R vwCl Ts SS n RX0 19 (0, 0, 2, 0) := ⟨RX0, TX0, 3, tyX0, rfl, by decide, Or.inr ⟨rfl, tyX0_ok 2 (by decide)⟩, fun w h => hT w (wfX0 w h), tyX0_ok, nmX0, hT _ (tb2 148 rfl rfl)⟩
set_option maxRecDepth 100000 in
set_option maxHeartbeats 4000000 in
theorem lkX0_22 {R : Room} {Ts : List Cond} {SS : List eS} {n : Nat} (hR : 1 ≤ R.frames ∧ 60 ≤ R.locals) (hT : ∀ w ∈ eTb, w ∈ Ts) : eLnk R vwCl Ts SS n RX0 22 (6, 1, 0, 0) := ⟨hR.1, hR.2, hT _ (tb4 199 rfl rfl), hT _ (tb4 200 rfl rfl), hT _ (tb1 18 rfl rfl), hT _ (tb4 201 rfl rfl)⟩
set_option maxRecDepth 100000 in
set_option maxHeartbeats 4000000 in
theorem lkX0_36 {R : Room} {Ts : List Cond} {SS : List eS} {n : Nat} (hT : ∀ w ∈ eTb, w ∈ Ts) : eLnk R vwCl Ts SS n RX0 36 (0, 8, 0, 3) := ⟨RX9, TX9, 5, tyX9, rfl, by decide, Or.inr ⟨rfl, tyX9_ok 0 (by decide)⟩, fun w h => hT w (wfX9 w h), tyX9_ok, nmX9, hT _ (tb2 96 rfl rfl)⟩
set_option maxRecDepth 100000 in
set_option maxHeartbeats 4000000 in
theorem lkX0_42 {R : Room} {Ts : List Cond} {SS : List eS} {n : Nat} (hT : ∀ w ∈ eTb, w ∈ Ts) : eLnk R vwCl Ts SS n RX0 42 (0, 8, 1, 0) := ⟨RX9, TX9, 5, tyX9, rfl, by decide, Or.inr ⟨rfl, tyX9_ok 1 (by decide)⟩, fun w h => hT w (wfX9 w h), tyX9_ok, nmX9, hT _ (tb2 99 rfl rfl)⟩
set_option maxRecDepth 100000 in
set_option maxHeartbeats 4000000 in
theorem lkX0_45 {R : Room} {Ts : List Cond} {SS : List eS} {n : Nat} (hT : ∀ w ∈ eTb, w ∈ Ts) : eLnk R vwCl Ts SS n RX0 45 (0, 8, 2, 0) := ⟨RX9, TX9, 5, tyX9, rfl, by decide, Or.inr ⟨rfl, tyX9_ok 2 (by decide)⟩, fun w h => hT w (wfX9 w h), tyX9_ok, nmX9, hT _ (tb2 102 rfl rfl)⟩
set_option maxRecDepth 100000 in
set_option maxHeartbeats 4000000 in
theorem lkX0_48 {R : Room} {Ts : List Cond} {SS : List eS} {n : Nat} (hT : ∀ w ∈ eTb, w ∈ Ts) : eLnk R vwCl Ts SS n RX0 48 (0, 8, 3, 0) := ⟨RX9, TX9, 5, tyX9, rfl, by decide, Or.inr ⟨rfl, tyX9_ok 3 (by decide)⟩, fun w h => hT w (wfX9 w h), tyX9_ok, nmX9, hT _ (tb2 105 rfl rfl)⟩
set_option maxRecDepth 100000 in
set_option maxHeartbeats 4000000 in
theorem lkX0_51 {R : Room} {Ts : List Cond} {SS : List eS} {n : Nat} (hT : ∀ w ∈ eTb, w ∈ Ts) : eLnk R vwCl Ts SS n RX0 51 (0, 8, 4, 0) := ⟨RX9, TX9, 5, tyX9, rfl, by decide, Or.inr ⟨rfl, tyX9_ok 4 (by decide)⟩, fun w h => hT w (wfX9 w h), tyX9_ok, nmX9, hT _ (tb2 108 rfl rfl)⟩
set_option maxRecDepth 100000 in
set_option maxHeartbeats 4000000 in
theorem lkX0_58 {R : Room} {Ts : List Cond} {SS : List eS} {n : Nat} (hR : 1 ≤ R.frames ∧ 60 ≤ R.locals) (hT : ∀ w ∈ eTb, w ∈ Ts) : eLnk R vwCl Ts SS n RX0 58 (6, 0, 0, 0) := ⟨hR.1, hR.2, hT _ (tb5 67 rfl rfl), hT _ (tb3 152 rfl rfl), hT _ (tb1 18 rfl rfl), hT _ (tb3 153 rfl rfl)⟩
set_option maxRecDepth 100000 in
set_option maxHeartbeats 4000000 in
theorem lkX1_11 {R : Room} {Ts : List Cond} {SS : List eS} {n : Nat} (hT : ∀ w ∈ eTb, w ∈ Ts) : eLnk R vwCl Ts SS n RX1 11 (0, 1, 0, 2) := ⟨RX1, TX1, 6, tyX1, rfl, by decide, Or.inl rfl, fun w h => hT w (wfX1 w h), tyX1_ok, nmX1, hT _ (tb2 46 rfl rfl)⟩
set_option maxRecDepth 100000 in
set_option maxHeartbeats 4000000 in
theorem lkX1_15 {R : Room} {Ts : List Cond} {SS : List eS} {n : Nat} (hT : ∀ w ∈ eTb, w ∈ Ts) : eLnk R vwCl Ts SS n RX1 15 (0, 1, 1, 2) := ⟨RX1, TX1, 6, tyX1, rfl, by decide, Or.inl rfl, fun w h => hT w (wfX1 w h), tyX1_ok, nmX1, hT _ (tb2 48 rfl rfl)⟩
set_option maxRecDepth 100000 in
set_option maxHeartbeats 4000000 in
theorem lkX1_18 {R : Room} {Ts : List Cond} {SS : List eS} {n : Nat} (hT : ∀ w ∈ eTb, w ∈ Ts) : eLnk R vwCl Ts SS n RX1 18 (0, 1, 5, 1) := ⟨RX1, TX1, 6, tyX1, rfl, by decide, Or.inr ⟨rfl, tyX1_ok 5 (by decide)⟩, fun w h => hT w (wfX1 w h), tyX1_ok, nmX1, hT _ (tb2 55 rfl rfl)⟩
set_option maxRecDepth 100000 in
set_option maxHeartbeats 4000000 in
theorem lkX1_22 {R : Room} {Ts : List Cond} {SS : List eS} {n : Nat} (hT : ∀ w ∈ eTb, w ∈ Ts) : eLnk R vwCl Ts SS n RX1 22 (0, 1, 2, 0) := ⟨RX1, TX1, 6, tyX1, rfl, by decide, Or.inr ⟨rfl, tyX1_ok 2 (by decide)⟩, fun w h => hT w (wfX1 w h), tyX1_ok, nmX1, hT _ (tb2 50 rfl rfl)⟩
set_option maxRecDepth 100000 in
set_option maxHeartbeats 4000000 in
theorem lkX1_26 {R : Room} {Ts : List Cond} {SS : List eS} {n : Nat} (hT : ∀ w ∈ eTb, w ∈ Ts) : eLnk R vwCl Ts SS n RX1 26 (0, 3, 2, 2) := ⟨RX3, TX3, 10, tyX3, rfl, by decide, Or.inl rfl, fun w h => hT w (wfX3 w h), tyX3_ok, nmX3, hT _ (tb2 7 rfl rfl)⟩
set_option maxRecDepth 100000 in
set_option maxHeartbeats 4000000 in
theorem lkX1_35 {R : Room} {Ts : List Cond} {SS : List eS} {n : Nat} (hT : ∀ w ∈ eTb, w ∈ Ts) : eLnk R vwCl Ts SS n RX1 35 (0, 1, 3, 0) := ⟨RX1, TX1, 6, tyX1, rfl, by decide, Or.inr ⟨rfl, tyX1_ok 3 (by decide)⟩, fun w h => hT w (wfX1 w h), tyX1_ok, nmX1, hT _ (tb2 52 rfl rfl)⟩
set_option maxRecDepth 100000 in
set_option maxHeartbeats 4000000 in
theorem lkX1_38 {R : Room} {Ts : List Cond} {SS : List eS} {n : Nat} (hT : ∀ w ∈ eTb, w ∈ Ts) : eLnk R vwCl Ts SS n RX1 38 (0, 3, 0, 2) := ⟨RX3, TX3, 10, tyX3, rfl, by decide, Or.inl rfl, fun w h => hT w (wfX3 w h), tyX3_ok, nmX3, hT _ (tb2 4 rfl rfl)⟩
set_option maxRecDepth 100000 in
set_option maxHeartbeats 4000000 in
theorem lkX1_47 {R : Room} {Ts : List Cond} {SS : List eS} {n : Nat} (hT : ∀ w ∈ eTb, w ∈ Ts) : eLnk R vwCl Ts SS n RX1 47 (0, 2, 7, 0) := ⟨RX2, TX2, 14, tyX2, rfl, by decide, Or.inr ⟨rfl, tyX2_ok 7 (by decide)⟩, fun w h => hT w (wfX2 w h), tyX2_ok, nmX2, hT _ (tb1 207 rfl rfl)⟩
set_option maxRecDepth 100000 in
set_option maxHeartbeats 4000000 in
theorem lkX1_76 {R : Room} {Ts : List Cond} {SS : List eS} {n : Nat} (hT : ∀ w ∈ eTb, w ∈ Ts) : eLnk R vwCl Ts SS n RX1 76 (0, 2, 0, 0) := ⟨RX2, TX2, 14, tyX2, rfl, by decide, Or.inr ⟨rfl, tyX2_ok 0 (by decide)⟩, fun w h => hT w (wfX2 w h), tyX2_ok, nmX2, hT _ (tb1 190 rfl rfl)⟩
set_option maxRecDepth 100000 in
set_option maxHeartbeats 4000000 in
theorem lkX1_80 {R : Room} {Ts : List Cond} {SS : List eS} {n : Nat} (hT : ∀ w ∈ eTb, w ∈ Ts) : eLnk R vwCl Ts SS n RX1 80 (0, 2, 1, 2) := ⟨RX2, TX2, 14, tyX2, rfl, by decide, Or.inl rfl, fun w h => hT w (wfX2 w h), tyX2_ok, nmX2, hT _ (tb1 193 rfl rfl)⟩
set_option maxRecDepth 100000 in
set_option maxHeartbeats 4000000 in
theorem lkX1_90 {R : Room} {Ts : List Cond} {SS : List eS} {n : Nat} (hT : ∀ w ∈ eTb, w ∈ Ts) : eLnk R vwCl Ts SS n RX1 90 (0, 2, 4, 2) := ⟨RX2, TX2, 14, tyX2, rfl, by decide, Or.inl rfl, fun w h => hT w (wfX2 w h), tyX2_ok, nmX2, hT _ (tb1 199 rfl rfl)⟩
set_option maxRecDepth 100000 in
set_option maxHeartbeats 4000000 in
theorem lkX1_93 {R : Room} {Ts : List Cond} {SS : List eS} {n : Nat} (hT : ∀ w ∈ eTb, w ∈ Ts) : eLnk R vwCl Ts SS n RX1 93 (0, 2, 6, 1) := ⟨RX2, TX2, 14, tyX2, rfl, by decide, Or.inr ⟨rfl, tyX2_ok 6 (by decide)⟩, fun w h => hT w (wfX2 w h), tyX2_ok, nmX2, hT _ (tb1 204 rfl rfl)⟩
set_option maxRecDepth 100000 in
set_option maxHeartbeats 4000000 in
theorem lkX1_96 {R : Room} {Ts : List Cond} {SS : List eS} {n : Nat} (hT : ∀ w ∈ eTb, w ∈ Ts) : eLnk R vwCl Ts SS n RX1 96 (0, 1, 4, 1) := ⟨RX1, TX1, 6, tyX1, rfl, by decide, Or.inr ⟨rfl, tyX1_ok 4 (by decide)⟩, fun w h => hT w (wfX1 w h), tyX1_ok, nmX1, hT _ (tb2 53 rfl rfl)⟩
set_option maxRecDepth 100000 in
set_option maxHeartbeats 4000000 in
theorem lkX2_9 {R : Room} {Ts : List Cond} {SS : List eS} {n : Nat} (hT : ∀ w ∈ eTb, w ∈ Ts) : eLnk R vwCl Ts SS n RX2 9 (0, 2, 1, 2) := ⟨RX2, TX2, 14, tyX2, rfl, by decide, Or.inl rfl, fun w h => hT w (wfX2 w h), tyX2_ok, nmX2, hT _ (tb1 192 rfl rfl)⟩
set_option maxRecDepth 100000 in
set_option maxHeartbeats 4000000 in
theorem lkX2_15 {R : Room} {Ts : List Cond} {SS : List eS} {n : Nat} (hT : ∀ w ∈ eTb, w ∈ Ts) : eLnk R vwCl Ts SS n RX2 15 (0, 2, 2, 2) := ⟨RX2, TX2, 14, tyX2, rfl, by decide, Or.inl rfl, fun w h => hT w (wfX2 w h), tyX2_ok, nmX2, hT _ (tb1 195 rfl rfl)⟩
set_option maxRecDepth 100000 in
set_option maxHeartbeats 4000000 in
theorem lkX2_18 {R : Room} {Ts : List Cond} {SS : List eS} {n : Nat} (hT : ∀ w ∈ eTb, w ∈ Ts) : eLnk R vwCl Ts SS n RX2 18 (0, 2, 3, 2) := ⟨RX2, TX2, 14, tyX2, rfl, by decide, Or.inl rfl, fun w h => hT w (wfX2 w h), tyX2_ok, nmX2, hT _ (tb1 196 rfl rfl)⟩
set_option maxRecDepth 100000 in
set_option maxHeartbeats 4000000 in
theorem lkX2_21 {R : Room} {Ts : List Cond} {SS : List eS} {n : Nat} (hT : ∀ w ∈ eTb, w ∈ Ts) : eLnk R vwCl Ts SS n RX2 21 (0, 2, 4, 2) := ⟨RX2, TX2, 14, tyX2, rfl, by decide, Or.inl rfl, fun w h => hT w (wfX2 w h), tyX2_ok, nmX2, hT _ (tb1 198 rfl rfl)⟩
set_option maxRecDepth 100000 in
set_option maxHeartbeats 4000000 in
theorem lkX2_24 {R : Room} {Ts : List Cond} {SS : List eS} {n : Nat} (hT : ∀ w ∈ eTb, w ∈ Ts) : eLnk R vwCl Ts SS n RX2 24 (0, 2, 8, 2) := ⟨RX2, TX2, 14, tyX2, rfl, by decide, Or.inl rfl, fun w h => hT w (wfX2 w h), tyX2_ok, nmX2, hT _ (tb1 208 rfl rfl)⟩
set_option maxRecDepth 100000 in
set_option maxHeartbeats 4000000 in
theorem lkX2_28 {R : Room} {Ts : List Cond} {SS : List eS} {n : Nat} (hT : ∀ w ∈ eTb, w ∈ Ts) : eLnk R vwCl Ts SS n RX2 28 (0, 2, 9, 2) := ⟨RX2, TX2, 14, tyX2, rfl, by decide, Or.inl rfl, fun w h => hT w (wfX2 w h), tyX2_ok, nmX2, hT _ (tb1 209 rfl rfl)⟩
set_option maxRecDepth 100000 in
set_option maxHeartbeats 4000000 in
theorem lkX2_31 {R : Room} {Ts : List Cond} {SS : List eS} {n : Nat} (hT : ∀ w ∈ eTb, w ∈ Ts) : eLnk R vwCl Ts SS n RX2 31 (0, 2, 10, 2) := ⟨RX2, TX2, 14, tyX2, rfl, by decide, Or.inl rfl, fun w h => hT w (wfX2 w h), tyX2_ok, nmX2, hT _ (tb1 210 rfl rfl)⟩
set_option maxRecDepth 100000 in
set_option maxHeartbeats 4000000 in
theorem lkX2_34 {R : Room} {Ts : List Cond} {SS : List eS} {n : Nat} (hT : ∀ w ∈ eTb, w ∈ Ts) : eLnk R vwCl Ts SS n RX2 34 (0, 2, 11, 2) := ⟨RX2, TX2, 14, tyX2, rfl, by decide, Or.inl rfl, fun w h => hT w (wfX2 w h), tyX2_ok, nmX2, hT _ (tb1 211 rfl rfl)⟩
set_option maxRecDepth 100000 in
set_option maxHeartbeats 4000000 in
theorem lkX2_37 {R : Room} {Ts : List Cond} {SS : List eS} {n : Nat} (hT : ∀ w ∈ eTb, w ∈ Ts) : eLnk R vwCl Ts SS n RX2 37 (0, 2, 12, 2) := ⟨RX2, TX2, 14, tyX2, rfl, by decide, Or.inl rfl, fun w h => hT w (wfX2 w h), tyX2_ok, nmX2, hT _ (tb1 212 rfl rfl)⟩
set_option maxRecDepth 100000 in
set_option maxHeartbeats 4000000 in
theorem lkX2_40 {R : Room} {Ts : List Cond} {SS : List eS} {n : Nat} (hT : ∀ w ∈ eTb, w ∈ Ts) : eLnk R vwCl Ts SS n RX2 40 (0, 2, 13, 2) := ⟨RX2, TX2, 14, tyX2, rfl, by decide, Or.inl rfl, fun w h => hT w (wfX2 w h), tyX2_ok, nmX2, hT _ (tb1 213 rfl rfl)⟩
set_option maxRecDepth 100000 in
set_option maxHeartbeats 4000000 in
theorem lkX2_43 {R : Room} {Ts : List Cond} {SS : List eS} {n : Nat} (hT : ∀ w ∈ eTb, w ∈ Ts) : eLnk R vwCl Ts SS n RX2 43 (0, 2, 0, 0) := ⟨RX2, TX2, 14, tyX2, rfl, by decide, Or.inr ⟨rfl, tyX2_ok 0 (by decide)⟩, fun w h => hT w (wfX2 w h), tyX2_ok, nmX2, hT _ (tb1 189 rfl rfl)⟩
set_option maxRecDepth 100000 in
set_option maxHeartbeats 4000000 in
theorem lkX2_47 {R : Room} {Ts : List Cond} {SS : List eS} {n : Nat} (hT : ∀ w ∈ eTb, w ∈ Ts) : eLnk R vwCl Ts SS n RX2 47 (0, 2, 7, 0) := ⟨RX2, TX2, 14, tyX2, rfl, by decide, Or.inr ⟨rfl, tyX2_ok 7 (by decide)⟩, fun w h => hT w (wfX2 w h), tyX2_ok, nmX2, hT _ (tb1 206 rfl rfl)⟩
set_option maxRecDepth 100000 in
set_option maxHeartbeats 4000000 in
theorem lkX2_54 {R : Room} {Ts : List Cond} {SS : List eS} {n : Nat} (hT : ∀ w ∈ eTb, w ∈ Ts) : eLnk R vwCl Ts SS n RX2 54 (0, 2, 5, 1) := ⟨RX2, TX2, 14, tyX2, rfl, by decide, Or.inr ⟨rfl, tyX2_ok 5 (by decide)⟩, fun w h => hT w (wfX2 w h), tyX2_ok, nmX2, hT _ (tb1 201 rfl rfl)⟩
set_option maxRecDepth 100000 in
set_option maxHeartbeats 4000000 in
theorem lkX2_58 {R : Room} {Ts : List Cond} {SS : List eS} {n : Nat} (hT : ∀ w ∈ eTb, w ∈ Ts) : eLnk R vwCl Ts SS n RX2 58 (0, 2, 6, 1) := ⟨RX2, TX2, 14, tyX2, rfl, by decide, Or.inr ⟨rfl, tyX2_ok 6 (by decide)⟩, fun w h => hT w (wfX2 w h), tyX2_ok, nmX2, hT _ (tb1 203 rfl rfl)⟩
set_option maxRecDepth 100000 in
set_option maxHeartbeats 4000000 in
theorem lkX3_12 {R : Room} {Ts : List Cond} {SS : List eS} {n : Nat} (hT : ∀ w ∈ eTb, w ∈ Ts) : eLnk R vwCl Ts SS n RX3 12 (0, 3, 0, 2) := ⟨RX3, TX3, 10, tyX3, rfl, by decide, Or.inl rfl, fun w h => hT w (wfX3 w h), tyX3_ok, nmX3, hT _ (tb2 3 rfl rfl)⟩
set_option maxRecDepth 100000 in
set_option maxHeartbeats 4000000 in
theorem lkX3_18 {R : Room} {Ts : List Cond} {SS : List eS} {n : Nat} (hT : ∀ w ∈ eTb, w ∈ Ts) : eLnk R vwCl Ts SS n RX3 18 (0, 3, 1, 2) := ⟨RX3, TX3, 10, tyX3, rfl, by decide, Or.inl rfl, fun w h => hT w (wfX3 w h), tyX3_ok, nmX3, hT _ (tb2 5 rfl rfl)⟩
set_option maxRecDepth 100000 in
set_option maxHeartbeats 4000000 in
theorem lkX3_22 {R : Room} {Ts : List Cond} {SS : List eS} {n : Nat} (hT : ∀ w ∈ eTb, w ∈ Ts) : eLnk R vwCl Ts SS n RX3 22 (0, 3, 2, 2) := ⟨RX3, TX3, 10, tyX3, rfl, by decide, Or.inl rfl, fun w h => hT w (wfX3 w h), tyX3_ok, nmX3, hT _ (tb2 6 rfl rfl)⟩
set_option maxRecDepth 100000 in
set_option maxHeartbeats 4000000 in
theorem lkX3_26 {R : Room} {Ts : List Cond} {SS : List eS} {n : Nat} (hT : ∀ w ∈ eTb, w ∈ Ts) : eLnk R vwCl Ts SS n RX3 26 (0, 3, 4, 2) := ⟨RX3, TX3, 10, tyX3, rfl, by decide, Or.inl rfl, fun w h => hT w (wfX3 w h), tyX3_ok, nmX3, hT _ (tb2 9 rfl rfl)⟩
set_option maxRecDepth 100000 in
set_option maxHeartbeats 4000000 in
theorem lkX3_29 {R : Room} {Ts : List Cond} {SS : List eS} {n : Nat} (hT : ∀ w ∈ eTb, w ∈ Ts) : eLnk R vwCl Ts SS n RX3 29 (0, 3, 5, 1) := ⟨RX3, TX3, 10, tyX3, rfl, by decide, Or.inr ⟨rfl, tyX3_ok 5 (by decide)⟩, fun w h => hT w (wfX3 w h), tyX3_ok, nmX3, hT _ (tb2 10 rfl rfl)⟩
set_option maxRecDepth 100000 in
set_option maxHeartbeats 4000000 in
theorem lkX3_33 {R : Room} {Ts : List Cond} {SS : List eS} {n : Nat} (hT : ∀ w ∈ eTb, w ∈ Ts) : eLnk R vwCl Ts SS n RX3 33 (0, 3, 7, 1) := ⟨RX3, TX3, 10, tyX3, rfl, by decide, Or.inr ⟨rfl, tyX3_ok 7 (by decide)⟩, fun w h => hT w (wfX3 w h), tyX3_ok, nmX3, hT _ (tb2 15 rfl rfl)⟩
set_option maxRecDepth 100000 in
set_option maxHeartbeats 4000000 in
theorem lkX3_36 {R : Room} {Ts : List Cond} {SS : List eS} {n : Nat} (hT : ∀ w ∈ eTb, w ∈ Ts) : eLnk R vwCl Ts SS n RX3 36 (0, 3, 8, 2) := ⟨RX3, TX3, 10, tyX3, rfl, by decide, Or.inl rfl, fun w h => hT w (wfX3 w h), tyX3_ok, nmX3, hT _ (tb2 17 rfl rfl)⟩
set_option maxRecDepth 100000 in
set_option maxHeartbeats 4000000 in
theorem lkX3_39 {R : Room} {Ts : List Cond} {SS : List eS} {n : Nat} (hT : ∀ w ∈ eTb, w ∈ Ts) : eLnk R vwCl Ts SS n RX3 39 (0, 3, 9, 1) := ⟨RX3, TX3, 10, tyX3, rfl, by decide, Or.inr ⟨rfl, tyX3_ok 9 (by decide)⟩, fun w h => hT w (wfX3 w h), tyX3_ok, nmX3, hT _ (tb2 18 rfl rfl)⟩
set_option maxRecDepth 100000 in
set_option maxHeartbeats 4000000 in
theorem lkX3_45 {R : Room} {Ts : List Cond} {SS : List eS} {n : Nat} (hT : ∀ w ∈ eTb, w ∈ Ts) : eLnk R vwCl Ts SS n RX3 45 (0, 3, 3, 1) := ⟨RX3, TX3, 10, tyX3, rfl, by decide, Or.inr ⟨rfl, tyX3_ok 3 (by decide)⟩, fun w h => hT w (wfX3 w h), tyX3_ok, nmX3, hT _ (tb2 8 rfl rfl)⟩
set_option maxRecDepth 100000 in
set_option maxHeartbeats 4000000 in
theorem lkX3_48 {R : Room} {Ts : List Cond} {SS : List eS} {n : Nat} (hT : ∀ w ∈ eTb, w ∈ Ts) : eLnk R vwCl Ts SS n RX3 48 (0, 4, 0, 0) := ⟨RX4, TX4, 4, tyX4, rfl, by decide, Or.inr ⟨rfl, tyX4_ok 0 (by decide)⟩, fun w h => hT w (wfX4 w h), tyX4_ok, nmX4, hT _ (tb1 77 rfl rfl)⟩
set_option maxRecDepth 100000 in
set_option maxHeartbeats 4000000 in
theorem lkX3_70 {R : Room} {Ts : List Cond} {SS : List eS} {n : Nat} (hT : ∀ w ∈ eTb, w ∈ Ts) : eLnk R vwCl Ts SS n RX3 70 (3, 0, 0, 100) := hT _ (tb3 166 rfl rfl)
set_option maxRecDepth 100000 in
set_option maxHeartbeats 4000000 in
theorem lkX3_94 {R : Room} {Ts : List Cond} {SS : List eS} {n : Nat} (hT : ∀ w ∈ eTb, w ∈ Ts) : eLnk R vwCl Ts SS n RX3 94 (0, 3, 6, 1) := ⟨RX3, TX3, 10, tyX3, rfl, by decide, Or.inr ⟨rfl, tyX3_ok 6 (by decide)⟩, fun w h => hT w (wfX3 w h), tyX3_ok, nmX3, hT _ (tb2 13 rfl rfl)⟩
set_option maxRecDepth 100000 in
set_option maxHeartbeats 4000000 in
theorem lkX3_108 {R : Room} {Ts : List Cond} {SS : List eS} {n : Nat} (hT : ∀ w ∈ eTb, w ∈ Ts) : eLnk R vwCl Ts SS n RX3 108 (0, 2, 0, 0) := ⟨RX2, TX2, 14, tyX2, rfl, by decide, Or.inr ⟨rfl, tyX2_ok 0 (by decide)⟩, fun w h => hT w (wfX2 w h), tyX2_ok, nmX2, hT _ (tb1 191 rfl rfl)⟩
set_option maxRecDepth 100000 in
set_option maxHeartbeats 4000000 in
theorem lkX3_109 {R : Room} {Ts : List Cond} {SS : List eS} {n : Nat} (hT : ∀ w ∈ eTb, w ∈ Ts) : eLnk R vwCl Ts SS n RX3 109 (0, 2, 1, 2) := ⟨RX2, TX2, 14, tyX2, rfl, by decide, Or.inl rfl, fun w h => hT w (wfX2 w h), tyX2_ok, nmX2, hT _ (tb1 194 rfl rfl)⟩
set_option maxRecDepth 100000 in
set_option maxHeartbeats 4000000 in
theorem lkX3_116 {R : Room} {Ts : List Cond} {SS : List eS} {n : Nat} (hT : ∀ w ∈ eTb, w ∈ Ts) : eLnk R vwCl Ts SS n RX3 116 (0, 2, 6, 1) := ⟨RX2, TX2, 14, tyX2, rfl, by decide, Or.inr ⟨rfl, tyX2_ok 6 (by decide)⟩, fun w h => hT w (wfX2 w h), tyX2_ok, nmX2, hT _ (tb1 205 rfl rfl)⟩
set_option maxRecDepth 100000 in
set_option maxHeartbeats 4000000 in
theorem lkX3_119 {R : Room} {Ts : List Cond} {SS : List eS} {n : Nat} (hT : ∀ w ∈ eTb, w ∈ Ts) : eLnk R vwCl Ts SS n RX3 119 (0, 2, 5, 1) := ⟨RX2, TX2, 14, tyX2, rfl, by decide, Or.inr ⟨rfl, tyX2_ok 5 (by decide)⟩, fun w h => hT w (wfX2 w h), tyX2_ok, nmX2, hT _ (tb1 202 rfl rfl)⟩
set_option maxRecDepth 100000 in
set_option maxHeartbeats 4000000 in
theorem lkX3_122 {R : Room} {Ts : List Cond} {SS : List eS} {n : Nat} (hT : ∀ w ∈ eTb, w ∈ Ts) : eLnk R vwCl Ts SS n RX3 122 (0, 2, 3, 2) := ⟨RX2, TX2, 14, tyX2, rfl, by decide, Or.inl rfl, fun w h => hT w (wfX2 w h), tyX2_ok, nmX2, hT _ (tb1 197 rfl rfl)⟩
set_option maxRecDepth 100000 in
set_option maxHeartbeats 4000000 in
theorem lkX3_125 {R : Room} {Ts : List Cond} {SS : List eS} {n : Nat} (hT : ∀ w ∈ eTb, w ∈ Ts) : eLnk R vwCl Ts SS n RX3 125 (0, 2, 4, 2) := ⟨RX2, TX2, 14, tyX2, rfl, by decide, Or.inl rfl, fun w h => hT w (wfX2 w h), tyX2_ok, nmX2, hT _ (tb1 200 rfl rfl)⟩
set_option maxRecDepth 100000 in
set_option maxHeartbeats 4000000 in
theorem lkX3_138 {R : Room} {Ts : List Cond} {SS : List eS} {n : Nat} (hR : 1 ≤ R.frames ∧ 60 ≤ R.locals) (hT : ∀ w ∈ eTb, w ∈ Ts) : eLnk R vwCl Ts SS n RX3 138 (6, 3, 0, 0) := ⟨hR.1, hR.2, hT _ (tb4 65 rfl rfl), hT _ (tb3 73 rfl rfl), hT _ (tb3 72 rfl rfl), hT _ (tb1 17 rfl rfl)⟩
set_option maxRecDepth 100000 in
set_option maxHeartbeats 4000000 in
theorem lkX4_9 {R : Room} {Ts : List Cond} {SS : List eS} {n : Nat} (hT : ∀ w ∈ eTb, w ∈ Ts) : eLnk R vwCl Ts SS n RX4 9 (0, 4, 3, 2) := ⟨RX4, TX4, 4, tyX4, rfl, by decide, Or.inl rfl, fun w h => hT w (wfX4 w h), tyX4_ok, nmX4, hT _ (tb1 85 rfl rfl)⟩
set_option maxRecDepth 100000 in
set_option maxHeartbeats 4000000 in
theorem lkX4_15 {R : Room} {Ts : List Cond} {SS : List eS} {n : Nat} (hT : ∀ w ∈ eTb, w ∈ Ts) : eLnk R vwCl Ts SS n RX4 15 (0, 4, 0, 0) := ⟨RX4, TX4, 4, tyX4, rfl, by decide, Or.inr ⟨rfl, tyX4_ok 0 (by decide)⟩, fun w h => hT w (wfX4 w h), tyX4_ok, nmX4, hT _ (tb1 75 rfl rfl)⟩
set_option maxRecDepth 100000 in
set_option maxHeartbeats 4000000 in
theorem lkX4_19 {R : Room} {Ts : List Cond} {SS : List eS} {n : Nat} (hT : ∀ w ∈ eTb, w ∈ Ts) : eLnk R vwCl Ts SS n RX4 19 (0, 4, 1, 0) := ⟨RX4, TX4, 4, tyX4, rfl, by decide, Or.inr ⟨rfl, tyX4_ok 1 (by decide)⟩, fun w h => hT w (wfX4 w h), tyX4_ok, nmX4, hT _ (tb1 80 rfl rfl)⟩
set_option maxRecDepth 100000 in
set_option maxHeartbeats 4000000 in
theorem lkX4_22 {R : Room} {Ts : List Cond} {SS : List eS} {n : Nat} (hT : ∀ w ∈ eTb, w ∈ Ts) : eLnk R vwCl Ts SS n RX4 22 (0, 4, 2, 0) := ⟨RX4, TX4, 4, tyX4, rfl, by decide, Or.inr ⟨rfl, tyX4_ok 2 (by decide)⟩, fun w h => hT w (wfX4 w h), tyX4_ok, nmX4, hT _ (tb1 83 rfl rfl)⟩
set_option maxRecDepth 100000 in
set_option maxHeartbeats 4000000 in
theorem lkX4_25 {R : Room} {Ts : List Cond} {SS : List eS} {n : Nat} (hR : 1 ≤ R.frames ∧ 60 ≤ R.locals) (hT : ∀ w ∈ eTb, w ∈ Ts) : eLnk R vwCl Ts SS n RX4 25 (6, 3, 0, 0) := ⟨hR.1, hR.2, hT _ (tb3 71 rfl rfl), hT _ (tb3 73 rfl rfl), hT _ (tb3 72 rfl rfl), hT _ (tb1 17 rfl rfl)⟩
set_option maxRecDepth 100000 in
set_option maxHeartbeats 4000000 in
theorem lkX4_49 {R : Room} {Ts : List Cond} {SS : List eS} {n : Nat} (hR : 1 ≤ R.frames ∧ 60 ≤ R.locals) (hT : ∀ w ∈ eTb, w ∈ Ts) : eLnk R vwCl Ts SS n RX4 49 (6, 0, 0, 0) := ⟨hR.1, hR.2, hT _ (tb3 151 rfl rfl), hT _ (tb3 152 rfl rfl), hT _ (tb1 18 rfl rfl), hT _ (tb3 153 rfl rfl)⟩
set_option maxRecDepth 100000 in
set_option maxHeartbeats 4000000 in
theorem lkX5_9 {R : Room} {Ts : List Cond} {SS : List eS} {n : Nat} (hT : ∀ w ∈ eTb, w ∈ Ts) : eLnk R vwCl Ts SS n RX5 9 (0, 5, 0, 2) := ⟨RX5, TX5, 4, tyX5, rfl, by decide, Or.inl rfl, fun w h => hT w (wfX5 w h), tyX5_ok, nmX5, hT _ (tb2 76 rfl rfl)⟩
set_option maxRecDepth 100000 in
set_option maxHeartbeats 4000000 in
theorem lkX5_15 {R : Room} {Ts : List Cond} {SS : List eS} {n : Nat} (hT : ∀ w ∈ eTb, w ∈ Ts) : eLnk R vwCl Ts SS n RX5 15 (0, 5, 2, 2) := ⟨RX5, TX5, 4, tyX5, rfl, by decide, Or.inl rfl, fun w h => hT w (wfX5 w h), tyX5_ok, nmX5, hT _ (tb2 78 rfl rfl)⟩
set_option maxRecDepth 100000 in
set_option maxHeartbeats 4000000 in
theorem lkX5_19 {R : Room} {Ts : List Cond} {SS : List eS} {n : Nat} (hT : ∀ w ∈ eTb, w ∈ Ts) : eLnk R vwCl Ts SS n RX5 19 (0, 5, 3, 2) := ⟨RX5, TX5, 4, tyX5, rfl, by decide, Or.inl rfl, fun w h => hT w (wfX5 w h), tyX5_ok, nmX5, hT _ (tb2 79 rfl rfl)⟩
set_option maxRecDepth 100000 in
set_option maxHeartbeats 4000000 in
theorem lkX5_22 {R : Room} {Ts : List Cond} {SS : List eS} {n : Nat} (hT : ∀ w ∈ eTb, w ∈ Ts) : eLnk R vwCl Ts SS n RX5 22 (0, 5, 1, 0) := ⟨RX5, TX5, 4, tyX5, rfl, by decide, Or.inr ⟨rfl, tyX5_ok 1 (by decide)⟩, fun w h => hT w (wfX5 w h), tyX5_ok, nmX5, hT _ (tb2 77 rfl rfl)⟩
set_option maxRecDepth 100000 in
set_option maxHeartbeats 4000000 in
theorem lkX5_26 {R : Room} {Ts : List Cond} {SS : List eS} {n : Nat} (hT : ∀ w ∈ eTb, w ∈ Ts) : eLnk R vwCl Ts SS n RX5 26 (0, 4, 0, 0) := ⟨RX4, TX4, 4, tyX4, rfl, by decide, Or.inr ⟨rfl, tyX4_ok 0 (by decide)⟩, fun w h => hT w (wfX4 w h), tyX4_ok, nmX4, hT _ (tb1 76 rfl rfl)⟩
set_option maxRecDepth 100000 in
set_option maxHeartbeats 4000000 in
theorem lkX5_51 {R : Room} {Ts : List Cond} {SS : List eS} {n : Nat} (hT : ∀ w ∈ eTb, w ∈ Ts) : eLnk R vwCl Ts SS n RX5 51 (0, 3, 5, 1) := ⟨RX3, TX3, 10, tyX3, rfl, by decide, Or.inr ⟨rfl, tyX3_ok 5 (by decide)⟩, fun w h => hT w (wfX3 w h), tyX3_ok, nmX3, hT _ (tb2 11 rfl rfl)⟩
set_option maxRecDepth 100000 in
set_option maxHeartbeats 4000000 in
theorem lkX6_9 {R : Room} {Ts : List Cond} {SS : List eS} {n : Nat} (hT : ∀ w ∈ eTb, w ∈ Ts) : eLnk R vwCl Ts SS n RX6 9 (0, 6, 0, 2) := ⟨RX6, TX6, 3, tyX6, rfl, by decide, Or.inl rfl, fun w h => hT w (wfX6 w h), tyX6_ok, nmX6, hT _ (tb2 127 rfl rfl)⟩
set_option maxRecDepth 100000 in
set_option maxHeartbeats 4000000 in
theorem lkX6_15 {R : Room} {Ts : List Cond} {SS : List eS} {n : Nat} (hT : ∀ w ∈ eTb, w ∈ Ts) : eLnk R vwCl Ts SS n RX6 15 (0, 6, 1, 2) := ⟨RX6, TX6, 3, tyX6, rfl, by decide, Or.inl rfl, fun w h => hT w (wfX6 w h), tyX6_ok, nmX6, hT _ (tb2 129 rfl rfl)⟩
set_option maxRecDepth 100000 in
set_option maxHeartbeats 4000000 in
theorem lkX6_18 {R : Room} {Ts : List Cond} {SS : List eS} {n : Nat} (hT : ∀ w ∈ eTb, w ∈ Ts) : eLnk R vwCl Ts SS n RX6 18 (0, 6, 2, 0) := ⟨RX6, TX6, 3, tyX6, rfl, by decide, Or.inr ⟨rfl, tyX6_ok 2 (by decide)⟩, fun w h => hT w (wfX6 w h), tyX6_ok, nmX6, hT _ (tb2 131 rfl rfl)⟩
set_option maxRecDepth 100000 in
set_option maxHeartbeats 4000000 in
theorem lkX7_11 {R : Room} {Ts : List Cond} {SS : List eS} {n : Nat} (hR : 1 ≤ R.frames ∧ 60 ≤ R.locals) (hT : ∀ w ∈ eTb, w ∈ Ts) : eLnk R vwCl Ts SS n RX7 11 (6, 2, 0, 0) := ⟨hR.1, hR.2, hT _ (tb3 218 rfl rfl), hT _ (tb3 219 rfl rfl), hT _ (tb1 18 rfl rfl), hT _ (tb3 220 rfl rfl)⟩
set_option maxRecDepth 100000 in
set_option maxHeartbeats 4000000 in
theorem lkX7_20 {R : Room} {Ts : List Cond} {SS : List eS} {n : Nat} (hT : ∀ w ∈ eTb, w ∈ Ts) : eLnk R vwCl Ts SS n RX7 20 (3, 0, 0, -2) := hT _ (tb3 221 rfl rfl)
set_option maxRecDepth 100000 in
set_option maxHeartbeats 4000000 in
theorem lkX7_32 {R : Room} {Ts : List Cond} {SS : List eS} {n : Nat} (hT : ∀ w ∈ eTb, w ∈ Ts) : eLnk R vwCl Ts SS n RX7 32 (4, 4636737291354636288, 0, 0) := hT _ (tb5 32 rfl rfl)
set_option maxRecDepth 100000 in
set_option maxHeartbeats 4000000 in
theorem lkX7_34 {R : Room} {Ts : List Cond} {SS : List eS} {n : Nat} (hT : ∀ w ∈ eTb, w ∈ Ts) : eLnk R vwCl Ts SS n RX7 34 (3, 0, 0, 1023) := hT _ (tb5 7 rfl rfl)
set_option maxRecDepth 100000 in
set_option maxHeartbeats 4000000 in
theorem lkX7_36 {R : Room} {Ts : List Cond} {SS : List eS} {n : Nat} (hT : ∀ w ∈ eTb, w ∈ Ts) : eLnk R vwCl Ts SS n RX7 36 (4, 4611686018427387904, 0, 0) := hT _ (tb5 8 rfl rfl)
set_option maxRecDepth 100000 in
set_option maxHeartbeats 4000000 in
theorem lkX7_38 {R : Room} {Ts : List Cond} {SS : List eS} {n : Nat} (hT : ∀ w ∈ eTb, w ∈ Ts) : eLnk R vwCl Ts SS n RX7 38 (4, 4841369599423283200, 0, 0) := hT _ (tb5 9 rfl rfl)
set_option maxRecDepth 100000 in
set_option maxHeartbeats 4000000 in
theorem lkX7_40 {R : Room} {Ts : List Cond} {SS : List eS} {n : Nat} (hT : ∀ w ∈ eTb, w ∈ Ts) : eLnk R vwCl Ts SS n RX7 40 (5, 1258291200, 0, 0) := hT _ (tb5 24 rfl rfl)
set_option maxRecDepth 100000 in
set_option maxHeartbeats 4000000 in
theorem lkX8_11 {R : Room} {Ts : List Cond} {SS : List eS} {n : Nat} (hT : ∀ w ∈ eTb, w ∈ Ts) : eLnk R vwCl Ts SS n RX8 11 (0, 7, 1, 2) := ⟨RX8, TX8, 7, tyX8, rfl, by decide, Or.inl rfl, fun w h => hT w (wfX8 w h), tyX8_ok, nmX8, hT _ (tb1 151 rfl rfl)⟩
set_option maxRecDepth 100000 in
set_option maxHeartbeats 4000000 in
theorem lkX8_15 {R : Room} {Ts : List Cond} {SS : List eS} {n : Nat} (hT : ∀ w ∈ eTb, w ∈ Ts) : eLnk R vwCl Ts SS n RX8 15 (0, 7, 2, 2) := ⟨RX8, TX8, 7, tyX8, rfl, by decide, Or.inl rfl, fun w h => hT w (wfX8 w h), tyX8_ok, nmX8, hT _ (tb1 152 rfl rfl)⟩
set_option maxRecDepth 100000 in
set_option maxHeartbeats 4000000 in
theorem lkX8_21 {R : Room} {Ts : List Cond} {SS : List eS} {n : Nat} (hT : ∀ w ∈ eTb, w ∈ Ts) : eLnk R vwCl Ts SS n RX8 21 (0, 7, 4, 2) := ⟨RX8, TX8, 7, tyX8, rfl, by decide, Or.inl rfl, fun w h => hT w (wfX8 w h), tyX8_ok, nmX8, hT _ (tb1 154 rfl rfl)⟩
set_option maxRecDepth 100000 in
set_option maxHeartbeats 4000000 in
theorem lkX8_25 {R : Room} {Ts : List Cond} {SS : List eS} {n : Nat} (hT : ∀ w ∈ eTb, w ∈ Ts) : eLnk R vwCl Ts SS n RX8 25 (0, 7, 6, 0) := ⟨RX8, TX8, 7, tyX8, rfl, by decide, Or.inr ⟨rfl, tyX8_ok 6 (by decide)⟩, fun w h => hT w (wfX8 w h), tyX8_ok, nmX8, hT _ (tb1 158 rfl rfl)⟩
set_option maxRecDepth 100000 in
set_option maxHeartbeats 4000000 in
theorem lkX8_29 {R : Room} {Ts : List Cond} {SS : List eS} {n : Nat} (hT : ∀ w ∈ eTb, w ∈ Ts) : eLnk R vwCl Ts SS n RX8 29 (0, 7, 0, 2) := ⟨RX8, TX8, 7, tyX8, rfl, by decide, Or.inl rfl, fun w h => hT w (wfX8 w h), tyX8_ok, nmX8, hT _ (tb1 150 rfl rfl)⟩
set_option maxRecDepth 100000 in
set_option maxHeartbeats 4000000 in
theorem lkX8_54 {R : Room} {Ts : List Cond} {SS : List eS} {n : Nat} (hT : ∀ w ∈ eTb, w ∈ Ts) : eLnk R vwCl Ts SS n RX8 54 (0, 7, 3, 3) := ⟨RX8, TX8, 7, tyX8, rfl, by decide, Or.inr ⟨rfl, tyX8_ok 3 (by decide)⟩, fun w h => hT w (wfX8 w h), tyX8_ok, nmX8, hT _ (tb1 153 rfl rfl)⟩
set_option maxRecDepth 100000 in
set_option maxHeartbeats 4000000 in
theorem lkX8_58 {R : Room} {Ts : List Cond} {SS : List eS} {n : Nat} (hT : ∀ w ∈ eTb, w ∈ Ts) : eLnk R vwCl Ts SS n RX8 58 (0, 7, 5, 0) := ⟨RX8, TX8, 7, tyX8, rfl, by decide, Or.inr ⟨rfl, tyX8_ok 5 (by decide)⟩, fun w h => hT w (wfX8 w h), tyX8_ok, nmX8, hT _ (tb1 156 rfl rfl)⟩
set_option maxRecDepth 100000 in
set_option maxHeartbeats 4000000 in
theorem lkX8_64 {R : Room} {Ts : List Cond} {SS : List eS} {n : Nat} (hT : ∀ w ∈ eTb, w ∈ Ts) : eLnk R vwCl Ts SS n RX8 64 (0, 9, 4, 0) := ⟨RX10, TX10, 7, tyX10, rfl, by decide, Or.inr ⟨rfl, tyX10_ok 4 (by decide)⟩, fun w h => hT w (wfX10 w h), tyX10_ok, nmX10, hT _ (tb1 41 rfl rfl)⟩
set_option maxRecDepth 100000 in
set_option maxHeartbeats 4000000 in
theorem lkX8_99 {R : Room} {Ts : List Cond} (hT : ∀ w ∈ eTb, w ∈ Ts) : eLnk R vwCl Ts SSc SHc.length RX8 99 (7, 39, 0, 0) := ⟨0, _, rfl, rfl, by decide, hT _ (tb3 38 rfl rfl)⟩
set_option maxRecDepth 100000 in
set_option maxHeartbeats 4000000 in
theorem lkX8_103 {R : Room} {Ts : List Cond} (hT : ∀ w ∈ eTb, w ∈ Ts) : eLnk R vwCl Ts SSc SHc.length RX8 103 (7, 40, 0, 0) := ⟨1, _, rfl, rfl, by decide, hT _ (tb3 40 rfl rfl)⟩
set_option maxRecDepth 100000 in
set_option maxHeartbeats 4000000 in
theorem lkX8_106 {R : Room} {Ts : List Cond} (hT : ∀ w ∈ eTb, w ∈ Ts) : eLnk R vwCl Ts SSc SHc.length RX8 106 (7, 41, 0, 0) := ⟨2, _, rfl, rfl, by decide, hT _ (tb3 42 rfl rfl)⟩
set_option maxRecDepth 100000 in
set_option maxHeartbeats 4000000 in
theorem lkX8_109 {R : Room} {Ts : List Cond} (hT : ∀ w ∈ eTb, w ∈ Ts) : eLnk R vwCl Ts SSc SHc.length RX8 109 (7, 42, 0, 0) := ⟨3, _, rfl, rfl, by decide, hT _ (tb3 44 rfl rfl)⟩
set_option maxRecDepth 100000 in
set_option maxHeartbeats 4000000 in
theorem lkX8_125 {R : Room} {Ts : List Cond} {SS : List eS} {n : Nat} (hT : ∀ w ∈ eTb, w ∈ Ts) : eLnk R vwCl Ts SS n RX8 125 (0, 4, 0, 0) := ⟨RX4, TX4, 4, tyX4, rfl, by decide, Or.inr ⟨rfl, tyX4_ok 0 (by decide)⟩, fun w h => hT w (wfX4 w h), tyX4_ok, nmX4, hT _ (tb1 79 rfl rfl)⟩
set_option maxRecDepth 100000 in
set_option maxHeartbeats 4000000 in
theorem lkX8_128 {R : Room} {Ts : List Cond} {SS : List eS} {n : Nat} (hT : ∀ w ∈ eTb, w ∈ Ts) : eLnk R vwCl Ts SS n RX8 128 (0, 9, 6, 1) := ⟨RX10, TX10, 7, tyX10, rfl, by decide, Or.inr ⟨rfl, tyX10_ok 6 (by decide)⟩, fun w h => hT w (wfX10 w h), tyX10_ok, nmX10, hT _ (tb1 46 rfl rfl)⟩
set_option maxRecDepth 100000 in
set_option maxHeartbeats 4000000 in
theorem lkX8_132 {R : Room} {Ts : List Cond} {SS : List eS} {n : Nat} (hT : ∀ w ∈ eTb, w ∈ Ts) : eLnk R vwCl Ts SS n RX8 132 (0, 9, 5, 0) := ⟨RX10, TX10, 7, tyX10, rfl, by decide, Or.inr ⟨rfl, tyX10_ok 5 (by decide)⟩, fun w h => hT w (wfX10 w h), tyX10_ok, nmX10, hT _ (tb1 44 rfl rfl)⟩
set_option maxRecDepth 100000 in
set_option maxHeartbeats 4000000 in
theorem lkX8_135 {R : Room} {Ts : List Cond} {SS : List eS} {n : Nat} (hT : ∀ w ∈ eTb, w ∈ Ts) : eLnk R vwCl Ts SS n RX8 135 (0, 4, 1, 0) := ⟨RX4, TX4, 4, tyX4, rfl, by decide, Or.inr ⟨rfl, tyX4_ok 1 (by decide)⟩, fun w h => hT w (wfX4 w h), tyX4_ok, nmX4, hT _ (tb1 82 rfl rfl)⟩
set_option maxRecDepth 100000 in
set_option maxHeartbeats 4000000 in
theorem lkX8_142 {R : Room} {Ts : List Cond} {SS : List eS} {n : Nat} (hT : ∀ w ∈ eTb, w ∈ Ts) : eLnk R vwCl Ts SS n RX8 142 (0, 9, 3, 0) := ⟨RX10, TX10, 7, tyX10, rfl, by decide, Or.inr ⟨rfl, tyX10_ok 3 (by decide)⟩, fun w h => hT w (wfX10 w h), tyX10_ok, nmX10, hT _ (tb1 40 rfl rfl)⟩
set_option maxRecDepth 100000 in
set_option maxHeartbeats 4000000 in
theorem lkX9_7 {R : Room} {Ts : List Cond} {SS : List eS} {n : Nat} (hT : ∀ w ∈ eTb, w ∈ Ts) : eLnk R vwCl Ts SS n RX9 7 (0, 8, 0, 3) := ⟨RX9, TX9, 5, tyX9, rfl, by decide, Or.inr ⟨rfl, tyX9_ok 0 (by decide)⟩, fun w h => hT w (wfX9 w h), tyX9_ok, nmX9, hT _ (tb2 95 rfl rfl)⟩
set_option maxRecDepth 100000 in
set_option maxHeartbeats 4000000 in
theorem lkX9_13 {R : Room} {Ts : List Cond} {SS : List eS} {n : Nat} (hT : ∀ w ∈ eTb, w ∈ Ts) : eLnk R vwCl Ts SS n RX9 13 (0, 8, 1, 0) := ⟨RX9, TX9, 5, tyX9, rfl, by decide, Or.inr ⟨rfl, tyX9_ok 1 (by decide)⟩, fun w h => hT w (wfX9 w h), tyX9_ok, nmX9, hT _ (tb2 98 rfl rfl)⟩
set_option maxRecDepth 100000 in
set_option maxHeartbeats 4000000 in
theorem lkX9_17 {R : Room} {Ts : List Cond} {SS : List eS} {n : Nat} (hT : ∀ w ∈ eTb, w ∈ Ts) : eLnk R vwCl Ts SS n RX9 17 (3, 0, 0, 100) := hT _ (tb4 210 rfl rfl)
set_option maxRecDepth 100000 in
set_option maxHeartbeats 4000000 in
theorem lkX9_19 {R : Room} {Ts : List Cond} {SS : List eS} {n : Nat} (hT : ∀ w ∈ eTb, w ∈ Ts) : eLnk R vwCl Ts SS n RX9 19 (0, 8, 2, 0) := ⟨RX9, TX9, 5, tyX9, rfl, by decide, Or.inr ⟨rfl, tyX9_ok 2 (by decide)⟩, fun w h => hT w (wfX9 w h), tyX9_ok, nmX9, hT _ (tb2 101 rfl rfl)⟩
set_option maxRecDepth 100000 in
set_option maxHeartbeats 4000000 in
theorem lkX9_22 {R : Room} {Ts : List Cond} {SS : List eS} {n : Nat} (hT : ∀ w ∈ eTb, w ∈ Ts) : eLnk R vwCl Ts SS n RX9 22 (0, 8, 3, 0) := ⟨RX9, TX9, 5, tyX9, rfl, by decide, Or.inr ⟨rfl, tyX9_ok 3 (by decide)⟩, fun w h => hT w (wfX9 w h), tyX9_ok, nmX9, hT _ (tb2 104 rfl rfl)⟩
set_option maxRecDepth 100000 in
set_option maxHeartbeats 4000000 in
theorem lkX9_25 {R : Room} {Ts : List Cond} {SS : List eS} {n : Nat} (hT : ∀ w ∈ eTb, w ∈ Ts) : eLnk R vwCl Ts SS n RX9 25 (0, 8, 4, 0) := ⟨RX9, TX9, 5, tyX9, rfl, by decide, Or.inr ⟨rfl, tyX9_ok 4 (by decide)⟩, fun w h => hT w (wfX9 w h), tyX9_ok, nmX9, hT _ (tb2 107 rfl rfl)⟩
set_option maxRecDepth 100000 in
set_option maxHeartbeats 4000000 in
theorem lkX10_9 {R : Room} {Ts : List Cond} {SS : List eS} {n : Nat} (hT : ∀ w ∈ eTb, w ∈ Ts) : eLnk R vwCl Ts SS n RX10 9 (0, 9, 0, 2) := ⟨RX10, TX10, 7, tyX10, rfl, by decide, Or.inl rfl, fun w h => hT w (wfX10 w h), tyX10_ok, nmX10, hT _ (tb1 35 rfl rfl)⟩
set_option maxRecDepth 100000 in
set_option maxHeartbeats 4000000 in
theorem lkX10_15 {R : Room} {Ts : List Cond} {SS : List eS} {n : Nat} (hT : ∀ w ∈ eTb, w ∈ Ts) : eLnk R vwCl Ts SS n RX10 15 (0, 9, 1, 0) := ⟨RX10, TX10, 7, tyX10, rfl, by decide, Or.inr ⟨rfl, tyX10_ok 1 (by decide)⟩, fun w h => hT w (wfX10 w h), tyX10_ok, nmX10, hT _ (tb1 37 rfl rfl)⟩
set_option maxRecDepth 100000 in
set_option maxHeartbeats 4000000 in
theorem lkX10_19 {R : Room} {Ts : List Cond} {SS : List eS} {n : Nat} (hT : ∀ w ∈ eTb, w ∈ Ts) : eLnk R vwCl Ts SS n RX10 19 (0, 9, 2, 0) := ⟨RX10, TX10, 7, tyX10, rfl, by decide, Or.inr ⟨rfl, tyX10_ok 2 (by decide)⟩, fun w h => hT w (wfX10 w h), tyX10_ok, nmX10, hT _ (tb1 38 rfl rfl)⟩
set_option maxRecDepth 100000 in
set_option maxHeartbeats 4000000 in
theorem lkX10_29 {R : Room} {Ts : List Cond} {SS : List eS} {n : Nat} (hT : ∀ w ∈ eTb, w ∈ Ts) : eLnk R vwCl Ts SS n RX10 29 (0, 9, 3, 0) := ⟨RX10, TX10, 7, tyX10, rfl, by decide, Or.inr ⟨rfl, tyX10_ok 3 (by decide)⟩, fun w h => hT w (wfX10 w h), tyX10_ok, nmX10, hT _ (tb1 39 rfl rfl)⟩
set_option maxRecDepth 100000 in
set_option maxHeartbeats 4000000 in
theorem lkX10_32 {R : Room} {Ts : List Cond} {SS : List eS} {n : Nat} (hT : ∀ w ∈ eTb, w ∈ Ts) : eLnk R vwCl Ts SS n RX10 32 (0, 9, 4, 0) := ⟨RX10, TX10, 7, tyX10, rfl, by decide, Or.inr ⟨rfl, tyX10_ok 4 (by decide)⟩, fun w h => hT w (wfX10 w h), tyX10_ok, nmX10, hT _ (tb1 42 rfl rfl)⟩
set_option maxRecDepth 100000 in
set_option maxHeartbeats 4000000 in
theorem lkX10_47 {R : Room} {Ts : List Cond} {SS : List eS} {n : Nat} (hT : ∀ w ∈ eTb, w ∈ Ts) : eLnk R vwCl Ts SS n RX10 47 (0, 9, 6, 1) := ⟨RX10, TX10, 7, tyX10, rfl, by decide, Or.inr ⟨rfl, tyX10_ok 6 (by decide)⟩, fun w h => hT w (wfX10 w h), tyX10_ok, nmX10, hT _ (tb1 45 rfl rfl)⟩
set_option maxRecDepth 100000 in
set_option maxHeartbeats 4000000 in
theorem lkX10_55 {R : Room} {Ts : List Cond} {SS : List eS} {n : Nat} (hT : ∀ w ∈ eTb, w ∈ Ts) : eLnk R vwCl Ts SS n RX10 55 (0, 9, 5, 0) := ⟨RX10, TX10, 7, tyX10, rfl, by decide, Or.inr ⟨rfl, tyX10_ok 5 (by decide)⟩, fun w h => hT w (wfX10 w h), tyX10_ok, nmX10, hT _ (tb1 43 rfl rfl)⟩
set_option maxRecDepth 100000 in
set_option maxHeartbeats 4000000 in
theorem lkX10_58 {R : Room} {Ts : List Cond} {SS : List eS} {n : Nat} (hT : ∀ w ∈ eTb, w ∈ Ts) : eLnk R vwCl Ts SS n RX10 58 (3, 0, 0, 32) := hT _ (tb1 149 rfl rfl)
set_option maxRecDepth 100000 in
set_option maxHeartbeats 4000000 in
theorem lkX12_7 {R : Room} {Ts : List Cond} {SS : List eS} {n : Nat} (hT : ∀ w ∈ eTb, w ∈ Ts) : eLnk R vwCl Ts SS n RX12 7 (0, 11, 5, 2) := ⟨RX12, TX12, 60, tyX12, rfl, by decide, Or.inl rfl, fun w h => hT w (wfX12 w h), tyX12_ok, nmX12, hT _ (tb5 79 rfl rfl)⟩
set_option maxRecDepth 100000 in
set_option maxHeartbeats 4000000 in
theorem lkX12_13 {R : Room} {Ts : List Cond} {SS : List eS} {n : Nat} (hT : ∀ w ∈ eTb, w ∈ Ts) : eLnk R vwCl Ts SS n RX12 13 (0, 11, 6, 2) := ⟨RX12, TX12, 60, tyX12, rfl, by decide, Or.inl rfl, fun w h => hT w (wfX12 w h), tyX12_ok, nmX12, hT _ (tb5 80 rfl rfl)⟩
set_option maxRecDepth 100000 in
set_option maxHeartbeats 4000000 in
theorem lkX12_16 {R : Room} {Ts : List Cond} {SS : List eS} {n : Nat} (hT : ∀ w ∈ eTb, w ∈ Ts) : eLnk R vwCl Ts SS n RX12 16 (0, 11, 7, 2) := ⟨RX12, TX12, 60, tyX12, rfl, by decide, Or.inl rfl, fun w h => hT w (wfX12 w h), tyX12_ok, nmX12, hT _ (tb5 81 rfl rfl)⟩
set_option maxRecDepth 100000 in
set_option maxHeartbeats 4000000 in
theorem lkX12_19 {R : Room} {Ts : List Cond} {SS : List eS} {n : Nat} (hT : ∀ w ∈ eTb, w ∈ Ts) : eLnk R vwCl Ts SS n RX12 19 (0, 11, 8, 2) := ⟨RX12, TX12, 60, tyX12, rfl, by decide, Or.inl rfl, fun w h => hT w (wfX12 w h), tyX12_ok, nmX12, hT _ (tb5 82 rfl rfl)⟩
set_option maxRecDepth 100000 in
set_option maxHeartbeats 4000000 in
theorem lkX12_22 {R : Room} {Ts : List Cond} {SS : List eS} {n : Nat} (hT : ∀ w ∈ eTb, w ∈ Ts) : eLnk R vwCl Ts SS n RX12 22 (0, 11, 9, 2) := ⟨RX12, TX12, 60, tyX12, rfl, by decide, Or.inl rfl, fun w h => hT w (wfX12 w h), tyX12_ok, nmX12, hT _ (tb5 83 rfl rfl)⟩
set_option maxRecDepth 100000 in
set_option maxHeartbeats 4000000 in
theorem lkX12_25 {R : Room} {Ts : List Cond} {SS : List eS} {n : Nat} (hT : ∀ w ∈ eTb, w ∈ Ts) : eLnk R vwCl Ts SS n RX12 25 (0, 11, 10, 2) := ⟨RX12, TX12, 60, tyX12, rfl, by decide, Or.inl rfl, fun w h => hT w (wfX12 w h), tyX12_ok, nmX12, hT _ (tb5 84 rfl rfl)⟩
set_option maxRecDepth 100000 in
set_option maxHeartbeats 4000000 in
theorem lkX12_28 {R : Room} {Ts : List Cond} {SS : List eS} {n : Nat} (hT : ∀ w ∈ eTb, w ∈ Ts) : eLnk R vwCl Ts SS n RX12 28 (0, 11, 11, 2) := ⟨RX12, TX12, 60, tyX12, rfl, by decide, Or.inl rfl, fun w h => hT w (wfX12 w h), tyX12_ok, nmX12, hT _ (tb5 85 rfl rfl)⟩
set_option maxRecDepth 100000 in
set_option maxHeartbeats 4000000 in
theorem lkX12_31 {R : Room} {Ts : List Cond} {SS : List eS} {n : Nat} (hT : ∀ w ∈ eTb, w ∈ Ts) : eLnk R vwCl Ts SS n RX12 31 (0, 11, 12, 2) := ⟨RX12, TX12, 60, tyX12, rfl, by decide, Or.inl rfl, fun w h => hT w (wfX12 w h), tyX12_ok, nmX12, hT _ (tb5 86 rfl rfl)⟩
set_option maxRecDepth 100000 in
set_option maxHeartbeats 4000000 in
theorem lkX12_34 {R : Room} {Ts : List Cond} {SS : List eS} {n : Nat} (hT : ∀ w ∈ eTb, w ∈ Ts) : eLnk R vwCl Ts SS n RX12 34 (0, 11, 13, 2) := ⟨RX12, TX12, 60, tyX12, rfl, by decide, Or.inl rfl, fun w h => hT w (wfX12 w h), tyX12_ok, nmX12, hT _ (tb5 87 rfl rfl)⟩
set_option maxRecDepth 100000 in
set_option maxHeartbeats 4000000 in
theorem lkX12_37 {R : Room} {Ts : List Cond} {SS : List eS} {n : Nat} (hT : ∀ w ∈ eTb, w ∈ Ts) : eLnk R vwCl Ts SS n RX12 37 (0, 11, 14, 2) := ⟨RX12, TX12, 60, tyX12, rfl, by decide, Or.inl rfl, fun w h => hT w (wfX12 w h), tyX12_ok, nmX12, hT _ (tb5 88 rfl rfl)⟩
set_option maxRecDepth 100000 in
set_option maxHeartbeats 4000000 in
theorem lkX12_40 {R : Room} {Ts : List Cond} {SS : List eS} {n : Nat} (hT : ∀ w ∈ eTb, w ∈ Ts) : eLnk R vwCl Ts SS n RX12 40 (0, 11, 15, 2) := ⟨RX12, TX12, 60, tyX12, rfl, by decide, Or.inl rfl, fun w h => hT w (wfX12 w h), tyX12_ok, nmX12, hT _ (tb5 89 rfl rfl)⟩
set_option maxRecDepth 100000 in
set_option maxHeartbeats 4000000 in
theorem lkX12_43 {R : Room} {Ts : List Cond} {SS : List eS} {n : Nat} (hT : ∀ w ∈ eTb, w ∈ Ts) : eLnk R vwCl Ts SS n RX12 43 (0, 11, 17, 2) := ⟨RX12, TX12, 60, tyX12, rfl, by decide, Or.inl rfl, fun w h => hT w (wfX12 w h), tyX12_ok, nmX12, hT _ (tb5 91 rfl rfl)⟩
set_option maxRecDepth 100000 in
set_option maxHeartbeats 4000000 in
theorem lkX12_46 {R : Room} {Ts : List Cond} {SS : List eS} {n : Nat} (hT : ∀ w ∈ eTb, w ∈ Ts) : eLnk R vwCl Ts SS n RX12 46 (0, 11, 26, 0) := ⟨RX12, TX12, 60, tyX12, rfl, by decide, Or.inr ⟨rfl, tyX12_ok 26 (by decide)⟩, fun w h => hT w (wfX12 w h), tyX12_ok, nmX12, hT _ (tb5 100 rfl rfl)⟩
set_option maxRecDepth 100000 in
set_option maxHeartbeats 4000000 in
theorem lkX12_50 {R : Room} {Ts : List Cond} {SS : List eS} {n : Nat} (hT : ∀ w ∈ eTb, w ∈ Ts) : eLnk R vwCl Ts SS n RX12 50 (0, 11, 30, 2) := ⟨RX12, TX12, 60, tyX12, rfl, by decide, Or.inl rfl, fun w h => hT w (wfX12 w h), tyX12_ok, nmX12, hT _ (tb5 104 rfl rfl)⟩
set_option maxRecDepth 100000 in
set_option maxHeartbeats 4000000 in
theorem lkX12_54 {R : Room} {Ts : List Cond} {SS : List eS} {n : Nat} (hT : ∀ w ∈ eTb, w ∈ Ts) : eLnk R vwCl Ts SS n RX12 54 (0, 11, 31, 2) := ⟨RX12, TX12, 60, tyX12, rfl, by decide, Or.inl rfl, fun w h => hT w (wfX12 w h), tyX12_ok, nmX12, hT _ (tb5 105 rfl rfl)⟩
set_option maxRecDepth 100000 in
set_option maxHeartbeats 4000000 in
theorem lkX12_57 {R : Room} {Ts : List Cond} {SS : List eS} {n : Nat} (hT : ∀ w ∈ eTb, w ∈ Ts) : eLnk R vwCl Ts SS n RX12 57 (0, 11, 32, 2) := ⟨RX12, TX12, 60, tyX12, rfl, by decide, Or.inl rfl, fun w h => hT w (wfX12 w h), tyX12_ok, nmX12, hT _ (tb5 106 rfl rfl)⟩
set_option maxRecDepth 100000 in
set_option maxHeartbeats 4000000 in
theorem lkX12_60 {R : Room} {Ts : List Cond} {SS : List eS} {n : Nat} (hT : ∀ w ∈ eTb, w ∈ Ts) : eLnk R vwCl Ts SS n RX12 60 (0, 11, 33, 2) := ⟨RX12, TX12, 60, tyX12, rfl, by decide, Or.inl rfl, fun w h => hT w (wfX12 w h), tyX12_ok, nmX12, hT _ (tb5 107 rfl rfl)⟩
set_option maxRecDepth 100000 in
set_option maxHeartbeats 4000000 in
theorem lkX12_63 {R : Room} {Ts : List Cond} {SS : List eS} {n : Nat} (hT : ∀ w ∈ eTb, w ∈ Ts) : eLnk R vwCl Ts SS n RX12 63 (0, 11, 37, 2) := ⟨RX12, TX12, 60, tyX12, rfl, by decide, Or.inl rfl, fun w h => hT w (wfX12 w h), tyX12_ok, nmX12, hT _ (tb5 111 rfl rfl)⟩
set_option maxRecDepth 100000 in
set_option maxHeartbeats 4000000 in
theorem lkX12_66 {R : Room} {Ts : List Cond} {SS : List eS} {n : Nat} (hT : ∀ w ∈ eTb, w ∈ Ts) : eLnk R vwCl Ts SS n RX12 66 (0, 11, 38, 1) := ⟨RX12, TX12, 60, tyX12, rfl, by decide, Or.inr ⟨rfl, tyX12_ok 38 (by decide)⟩, fun w h => hT w (wfX12 w h), tyX12_ok, nmX12, hT _ (tb5 112 rfl rfl)⟩
set_option maxRecDepth 100000 in
set_option maxHeartbeats 4000000 in
theorem lkX12_70 {R : Room} {Ts : List Cond} {SS : List eS} {n : Nat} (hT : ∀ w ∈ eTb, w ∈ Ts) : eLnk R vwCl Ts SS n RX12 70 (0, 11, 40, 1) := ⟨RX12, TX12, 60, tyX12, rfl, by decide, Or.inr ⟨rfl, tyX12_ok 40 (by decide)⟩, fun w h => hT w (wfX12 w h), tyX12_ok, nmX12, hT _ (tb5 114 rfl rfl)⟩
set_option maxRecDepth 100000 in
set_option maxHeartbeats 4000000 in
theorem lkX12_73 {R : Room} {Ts : List Cond} {SS : List eS} {n : Nat} (hT : ∀ w ∈ eTb, w ∈ Ts) : eLnk R vwCl Ts SS n RX12 73 (0, 11, 41, 2) := ⟨RX12, TX12, 60, tyX12, rfl, by decide, Or.inl rfl, fun w h => hT w (wfX12 w h), tyX12_ok, nmX12, hT _ (tb5 115 rfl rfl)⟩
set_option maxRecDepth 100000 in
set_option maxHeartbeats 4000000 in
theorem lkX12_76 {R : Room} {Ts : List Cond} {SS : List eS} {n : Nat} (hT : ∀ w ∈ eTb, w ∈ Ts) : eLnk R vwCl Ts SS n RX12 76 (0, 11, 42, 2) := ⟨RX12, TX12, 60, tyX12, rfl, by decide, Or.inl rfl, fun w h => hT w (wfX12 w h), tyX12_ok, nmX12, hT _ (tb5 116 rfl rfl)⟩
set_option maxRecDepth 100000 in
set_option maxHeartbeats 4000000 in
theorem lkX12_80 {R : Room} {Ts : List Cond} {SS : List eS} {n : Nat} (hT : ∀ w ∈ eTb, w ∈ Ts) : eLnk R vwCl Ts SS n RX12 80 (0, 11, 45, 2) := ⟨RX12, TX12, 60, tyX12, rfl, by decide, Or.inl rfl, fun w h => hT w (wfX12 w h), tyX12_ok, nmX12, hT _ (tb5 119 rfl rfl)⟩
set_option maxRecDepth 100000 in
set_option maxHeartbeats 4000000 in
theorem lkX12_83 {R : Room} {Ts : List Cond} {SS : List eS} {n : Nat} (hT : ∀ w ∈ eTb, w ∈ Ts) : eLnk R vwCl Ts SS n RX12 83 (0, 11, 46, 2) := ⟨RX12, TX12, 60, tyX12, rfl, by decide, Or.inl rfl, fun w h => hT w (wfX12 w h), tyX12_ok, nmX12, hT _ (tb5 120 rfl rfl)⟩
set_option maxRecDepth 100000 in
set_option maxHeartbeats 4000000 in
theorem lkX12_86 {R : Room} {Ts : List Cond} {SS : List eS} {n : Nat} (hT : ∀ w ∈ eTb, w ∈ Ts) : eLnk R vwCl Ts SS n RX12 86 (0, 11, 50, 2) := ⟨RX12, TX12, 60, tyX12, rfl, by decide, Or.inl rfl, fun w h => hT w (wfX12 w h), tyX12_ok, nmX12, hT _ (tb5 124 rfl rfl)⟩
set_option maxRecDepth 100000 in
set_option maxHeartbeats 4000000 in
theorem lkX12_89 {R : Room} {Ts : List Cond} {SS : List eS} {n : Nat} (hT : ∀ w ∈ eTb, w ∈ Ts) : eLnk R vwCl Ts SS n RX12 89 (0, 11, 51, 2) := ⟨RX12, TX12, 60, tyX12, rfl, by decide, Or.inl rfl, fun w h => hT w (wfX12 w h), tyX12_ok, nmX12, hT _ (tb5 125 rfl rfl)⟩
set_option maxRecDepth 100000 in
set_option maxHeartbeats 4000000 in
theorem lkX12_92 {R : Room} {Ts : List Cond} {SS : List eS} {n : Nat} (hT : ∀ w ∈ eTb, w ∈ Ts) : eLnk R vwCl Ts SS n RX12 92 (0, 11, 52, 2) := ⟨RX12, TX12, 60, tyX12, rfl, by decide, Or.inl rfl, fun w h => hT w (wfX12 w h), tyX12_ok, nmX12, hT _ (tb5 126 rfl rfl)⟩
set_option maxRecDepth 100000 in
set_option maxHeartbeats 4000000 in
theorem lkX12_95 {R : Room} {Ts : List Cond} {SS : List eS} {n : Nat} (hT : ∀ w ∈ eTb, w ∈ Ts) : eLnk R vwCl Ts SS n RX12 95 (0, 11, 0, 0) := ⟨RX12, TX12, 60, tyX12, rfl, by decide, Or.inr ⟨rfl, tyX12_ok 0 (by decide)⟩, fun w h => hT w (wfX12 w h), tyX12_ok, nmX12, hT _ (tb5 74 rfl rfl)⟩
set_option maxRecDepth 100000 in
set_option maxHeartbeats 4000000 in
theorem lkX12_98 {R : Room} {Ts : List Cond} {SS : List eS} {n : Nat} (hT : ∀ w ∈ eTb, w ∈ Ts) : eLnk R vwCl Ts SS n RX12 98 (0, 11, 1, 0) := ⟨RX12, TX12, 60, tyX12, rfl, by decide, Or.inr ⟨rfl, tyX12_ok 1 (by decide)⟩, fun w h => hT w (wfX12 w h), tyX12_ok, nmX12, hT _ (tb5 75 rfl rfl)⟩
set_option maxRecDepth 100000 in
set_option maxHeartbeats 4000000 in
theorem lkX12_109 {R : Room} {Ts : List Cond} {SS : List eS} {n : Nat} (hT : ∀ w ∈ eTb, w ∈ Ts) : eLnk R vwCl Ts SS n RX12 109 (2, 0, 0, 9999999) := hT _ (tb6 141 rfl rfl)
set_option maxRecDepth 100000 in
set_option maxHeartbeats 4000000 in
theorem lkX12_113 {R : Room} {Ts : List Cond} {SS : List eS} {n : Nat} (hT : ∀ w ∈ eTb, w ∈ Ts) : eLnk R vwCl Ts SS n RX12 113 (0, 11, 16, 0) := ⟨RX12, TX12, 60, tyX12, rfl, by decide, Or.inr ⟨rfl, tyX12_ok 16 (by decide)⟩, fun w h => hT w (wfX12 w h), tyX12_ok, nmX12, hT _ (tb5 90 rfl rfl)⟩
set_option maxRecDepth 100000 in
set_option maxHeartbeats 4000000 in
theorem lkX12_124 {R : Room} {Ts : List Cond} {SS : List eS} {n : Nat} (hT : ∀ w ∈ eTb, w ∈ Ts) : eLnk R vwCl Ts SS n RX12 124 (0, 11, 18, 0) := ⟨RX12, TX12, 60, tyX12, rfl, by decide, Or.inr ⟨rfl, tyX12_ok 18 (by decide)⟩, fun w h => hT w (wfX12 w h), tyX12_ok, nmX12, hT _ (tb5 92 rfl rfl)⟩
set_option maxRecDepth 100000 in
set_option maxHeartbeats 4000000 in
theorem lkX12_131 {R : Room} {Ts : List Cond} {SS : List eS} {n : Nat} (hT : ∀ w ∈ eTb, w ∈ Ts) : eLnk R vwCl Ts SS n RX12 131 (0, 11, 19, 0) := ⟨RX12, TX12, 60, tyX12, rfl, by decide, Or.inr ⟨rfl, tyX12_ok 19 (by decide)⟩, fun w h => hT w (wfX12 w h), tyX12_ok, nmX12, hT _ (tb5 93 rfl rfl)⟩
set_option maxRecDepth 100000 in
set_option maxHeartbeats 4000000 in
theorem lkX12_134 {R : Room} {Ts : List Cond} {SS : List eS} {n : Nat} (hT : ∀ w ∈ eTb, w ∈ Ts) : eLnk R vwCl Ts SS n RX12 134 (0, 11, 27, 0) := ⟨RX12, TX12, 60, tyX12, rfl, by decide, Or.inr ⟨rfl, tyX12_ok 27 (by decide)⟩, fun w h => hT w (wfX12 w h), tyX12_ok, nmX12, hT _ (tb5 101 rfl rfl)⟩
set_option maxRecDepth 100000 in
set_option maxHeartbeats 4000000 in
theorem lkX12_137 {R : Room} {Ts : List Cond} {SS : List eS} {n : Nat} (hT : ∀ w ∈ eTb, w ∈ Ts) : eLnk R vwCl Ts SS n RX12 137 (0, 11, 22, 0) := ⟨RX12, TX12, 60, tyX12, rfl, by decide, Or.inr ⟨rfl, tyX12_ok 22 (by decide)⟩, fun w h => hT w (wfX12 w h), tyX12_ok, nmX12, hT _ (tb5 96 rfl rfl)⟩
set_option maxRecDepth 100000 in
set_option maxHeartbeats 4000000 in
theorem lkX12_140 {R : Room} {Ts : List Cond} {SS : List eS} {n : Nat} (hT : ∀ w ∈ eTb, w ∈ Ts) : eLnk R vwCl Ts SS n RX12 140 (0, 11, 20, 0) := ⟨RX12, TX12, 60, tyX12, rfl, by decide, Or.inr ⟨rfl, tyX12_ok 20 (by decide)⟩, fun w h => hT w (wfX12 w h), tyX12_ok, nmX12, hT _ (tb5 94 rfl rfl)⟩
set_option maxRecDepth 100000 in
set_option maxHeartbeats 4000000 in
theorem lkX12_143 {R : Room} {Ts : List Cond} {SS : List eS} {n : Nat} (hT : ∀ w ∈ eTb, w ∈ Ts) : eLnk R vwCl Ts SS n RX12 143 (0, 11, 28, 0) := ⟨RX12, TX12, 60, tyX12, rfl, by decide, Or.inr ⟨rfl, tyX12_ok 28 (by decide)⟩, fun w h => hT w (wfX12 w h), tyX12_ok, nmX12, hT _ (tb5 102 rfl rfl)⟩
set_option maxRecDepth 100000 in
set_option maxHeartbeats 4000000 in
theorem lkX12_150 {R : Room} {Ts : List Cond} {SS : List eS} {n : Nat} (hT : ∀ w ∈ eTb, w ∈ Ts) : eLnk R vwCl Ts SS n RX12 150 (0, 11, 21, 0) := ⟨RX12, TX12, 60, tyX12, rfl, by decide, Or.inr ⟨rfl, tyX12_ok 21 (by decide)⟩, fun w h => hT w (wfX12 w h), tyX12_ok, nmX12, hT _ (tb5 95 rfl rfl)⟩
set_option maxRecDepth 100000 in
set_option maxHeartbeats 4000000 in
theorem lkX12_156 {R : Room} {Ts : List Cond} {SS : List eS} {n : Nat} (hT : ∀ w ∈ eTb, w ∈ Ts) : eLnk R vwCl Ts SS n RX12 156 (0, 11, 23, 0) := ⟨RX12, TX12, 60, tyX12, rfl, by decide, Or.inr ⟨rfl, tyX12_ok 23 (by decide)⟩, fun w h => hT w (wfX12 w h), tyX12_ok, nmX12, hT _ (tb5 97 rfl rfl)⟩
set_option maxRecDepth 100000 in
set_option maxHeartbeats 4000000 in
theorem lkX12_159 {R : Room} {Ts : List Cond} {SS : List eS} {n : Nat} (hT : ∀ w ∈ eTb, w ∈ Ts) : eLnk R vwCl Ts SS n RX12 159 (0, 11, 24, 0) := ⟨RX12, TX12, 60, tyX12, rfl, by decide, Or.inr ⟨rfl, tyX12_ok 24 (by decide)⟩, fun w h => hT w (wfX12 w h), tyX12_ok, nmX12, hT _ (tb5 98 rfl rfl)⟩
set_option maxRecDepth 100000 in
set_option maxHeartbeats 4000000 in
theorem lkX12_168 {R : Room} {Ts : List Cond} {SS : List eS} {n : Nat} (hT : ∀ w ∈ eTb, w ∈ Ts) : eLnk R vwCl Ts SS n RX12 168 (2, 0, 0, 99999) := hT _ (tb6 53 rfl rfl)
set_option maxRecDepth 100000 in
set_option maxHeartbeats 4000000 in
theorem lkX12_169 {R : Room} {Ts : List Cond} {SS : List eS} {n : Nat} (hT : ∀ w ∈ eTb, w ∈ Ts) : eLnk R vwCl Ts SS n RX12 169 (2, 0, 0, 3650991) := hT _ (tb6 58 rfl rfl)
set_option maxRecDepth 100000 in
set_option maxHeartbeats 4000000 in
theorem lkX12_173 {R : Room} {Ts : List Cond} {SS : List eS} {n : Nat} (hT : ∀ w ∈ eTb, w ∈ Ts) : eLnk R vwCl Ts SS n RX12 173 (2, 0, 0, 16273711) := hT _ (tb6 83 rfl rfl)
set_option maxRecDepth 100000 in
set_option maxHeartbeats 4000000 in
theorem lkX12_174 {R : Room} {Ts : List Cond} {SS : List eS} {n : Nat} (hT : ∀ w ∈ eTb, w ∈ Ts) : eLnk R vwCl Ts SS n RX12 174 (2, 0, 0, 3540595) := hT _ (tb6 84 rfl rfl)
set_option maxRecDepth 100000 in
set_option maxHeartbeats 4000000 in
theorem lkX12_175 {R : Room} {Ts : List Cond} {SS : List eS} {n : Nat} (hT : ∀ w ∈ eTb, w ∈ Ts) : eLnk R vwCl Ts SS n RX12 175 (2, 0, 0, 591307) := hT _ (tb6 85 rfl rfl)
set_option maxRecDepth 100000 in
set_option maxHeartbeats 4000000 in
theorem lkX12_176 {R : Room} {Ts : List Cond} {SS : List eS} {n : Nat} (hT : ∀ w ∈ eTb, w ∈ Ts) : eLnk R vwCl Ts SS n RX12 176 (2, 0, 0, 21279923) := hT _ (tb6 86 rfl rfl)
set_option maxRecDepth 100000 in
set_option maxHeartbeats 4000000 in
theorem lkX12_177 {R : Room} {Ts : List Cond} {SS : List eS} {n : Nat} (hT : ∀ w ∈ eTb, w ∈ Ts) : eLnk R vwCl Ts SS n RX12 177 (2, 0, 0, 18927919) := hT _ (tb6 87 rfl rfl)
set_option maxRecDepth 100000 in
set_option maxHeartbeats 4000000 in
theorem lkX12_178 {R : Room} {Ts : List Cond} {SS : List eS} {n : Nat} (hT : ∀ w ∈ eTb, w ∈ Ts) : eLnk R vwCl Ts SS n RX12 178 (2, 0, 0, 20186697) := hT _ (tb6 88 rfl rfl)
set_option maxRecDepth 100000 in
set_option maxHeartbeats 4000000 in
theorem lkX12_179 {R : Room} {Ts : List Cond} {SS : List eS} {n : Nat} (hT : ∀ w ∈ eTb, w ∈ Ts) : eLnk R vwCl Ts SS n RX12 179 (2, 0, 0, 26379852) := hT _ (tb6 89 rfl rfl)
set_option maxRecDepth 100000 in
set_option maxHeartbeats 4000000 in
theorem lkX12_180 {R : Room} {Ts : List Cond} {SS : List eS} {n : Nat} (hT : ∀ w ∈ eTb, w ∈ Ts) : eLnk R vwCl Ts SS n RX12 180 (2, 0, 0, 3197637) := hT _ (tb6 90 rfl rfl)
set_option maxRecDepth 100000 in
set_option maxHeartbeats 4000000 in
theorem lkX12_181 {R : Room} {Ts : List Cond} {SS : List eS} {n : Nat} (hT : ∀ w ∈ eTb, w ∈ Ts) : eLnk R vwCl Ts SS n RX12 181 (0, 11, 3, 0) := ⟨RX12, TX12, 60, tyX12, rfl, by decide, Or.inr ⟨rfl, tyX12_ok 3 (by decide)⟩, fun w h => hT w (wfX12 w h), tyX12_ok, nmX12, hT _ (tb5 77 rfl rfl)⟩
set_option maxRecDepth 100000 in
set_option maxHeartbeats 4000000 in
theorem lkX12_219 {R : Room} {Ts : List Cond} {SS : List eS} {n : Nat} (hT : ∀ w ∈ eTb, w ∈ Ts) : eLnk R vwCl Ts SS n RX12 219 (0, 11, 29, 3) := ⟨RX12, TX12, 60, tyX12, rfl, by decide, Or.inr ⟨rfl, tyX12_ok 29 (by decide)⟩, fun w h => hT w (wfX12 w h), tyX12_ok, nmX12, hT _ (tb5 103 rfl rfl)⟩
set_option maxRecDepth 100000 in
set_option maxHeartbeats 4000000 in
theorem lkX12_223 {R : Room} {Ts : List Cond} {SS : List eS} {n : Nat} (hT : ∀ w ∈ eTb, w ∈ Ts) : eLnk R vwCl Ts SS n RX12 223 (0, 11, 4, 0) := ⟨RX12, TX12, 60, tyX12, rfl, by decide, Or.inr ⟨rfl, tyX12_ok 4 (by decide)⟩, fun w h => hT w (wfX12 w h), tyX12_ok, nmX12, hT _ (tb5 78 rfl rfl)⟩
set_option maxRecDepth 100000 in
set_option maxHeartbeats 4000000 in
theorem lkX12_229 {R : Room} {Ts : List Cond} {SS : List eS} {n : Nat} (hT : ∀ w ∈ eTb, w ∈ Ts) : eLnk R vwCl Ts SS n RX12 229 (0, 11, 25, 0) := ⟨RX12, TX12, 60, tyX12, rfl, by decide, Or.inr ⟨rfl, tyX12_ok 25 (by decide)⟩, fun w h => hT w (wfX12 w h), tyX12_ok, nmX12, hT _ (tb5 99 rfl rfl)⟩
set_option maxRecDepth 100000 in
set_option maxHeartbeats 4000000 in
theorem lkX12_232 {R : Room} {Ts : List Cond} {SS : List eS} {n : Nat} (hT : ∀ w ∈ eTb, w ∈ Ts) : eLnk R vwCl Ts SS n RX12 232 (0, 11, 2, 0) := ⟨RX12, TX12, 60, tyX12, rfl, by decide, Or.inr ⟨rfl, tyX12_ok 2 (by decide)⟩, fun w h => hT w (wfX12 w h), tyX12_ok, nmX12, hT _ (tb5 76 rfl rfl)⟩
set_option maxRecDepth 100000 in
set_option maxHeartbeats 4000000 in
theorem lkX12_235 {R : Room} {Ts : List Cond} {SS : List eS} {n : Nat} (hT : ∀ w ∈ eTb, w ∈ Ts) : eLnk R vwCl Ts SS n RX12 235 (0, 11, 54, 0) := ⟨RX12, TX12, 60, tyX12, rfl, by decide, Or.inr ⟨rfl, tyX12_ok 54 (by decide)⟩, fun w h => hT w (wfX12 w h), tyX12_ok, nmX12, hT _ (tb5 128 rfl rfl)⟩
set_option maxRecDepth 100000 in
set_option maxHeartbeats 4000000 in
theorem lkX12_238 {R : Room} {Ts : List Cond} {SS : List eS} {n : Nat} (hT : ∀ w ∈ eTb, w ∈ Ts) : eLnk R vwCl Ts SS n RX12 238 (0, 11, 59, 3) := ⟨RX12, TX12, 60, tyX12, rfl, by decide, Or.inr ⟨rfl, tyX12_ok 59 (by decide)⟩, fun w h => hT w (wfX12 w h), tyX12_ok, nmX12, hT _ (tb5 133 rfl rfl)⟩
set_option maxRecDepth 100000 in
set_option maxHeartbeats 4000000 in
theorem lkX12_241 {R : Room} {Ts : List Cond} {SS : List eS} {n : Nat} (hT : ∀ w ∈ eTb, w ∈ Ts) : eLnk R vwCl Ts SS n RX12 241 (0, 11, 53, 0) := ⟨RX12, TX12, 60, tyX12, rfl, by decide, Or.inr ⟨rfl, tyX12_ok 53 (by decide)⟩, fun w h => hT w (wfX12 w h), tyX12_ok, nmX12, hT _ (tb5 127 rfl rfl)⟩
set_option maxRecDepth 100000 in
set_option maxHeartbeats 4000000 in
theorem lkX12_244 {R : Room} {Ts : List Cond} {SS : List eS} {n : Nat} (hT : ∀ w ∈ eTb, w ∈ Ts) : eLnk R vwCl Ts SS n RX12 244 (0, 11, 36, 3) := ⟨RX12, TX12, 60, tyX12, rfl, by decide, Or.inr ⟨rfl, tyX12_ok 36 (by decide)⟩, fun w h => hT w (wfX12 w h), tyX12_ok, nmX12, hT _ (tb5 110 rfl rfl)⟩
set_option maxRecDepth 100000 in
set_option maxHeartbeats 4000000 in
theorem lkX12_247 {R : Room} {Ts : List Cond} {SS : List eS} {n : Nat} (hT : ∀ w ∈ eTb, w ∈ Ts) : eLnk R vwCl Ts SS n RX12 247 (0, 11, 35, 0) := ⟨RX12, TX12, 60, tyX12, rfl, by decide, Or.inr ⟨rfl, tyX12_ok 35 (by decide)⟩, fun w h => hT w (wfX12 w h), tyX12_ok, nmX12, hT _ (tb5 109 rfl rfl)⟩
set_option maxRecDepth 100000 in
set_option maxHeartbeats 4000000 in
theorem lkX12_256 {R : Room} {Ts : List Cond} {SS : List eS} {n : Nat} (hT : ∀ w ∈ eTb, w ∈ Ts) : eLnk R vwCl Ts SS n RX12 256 (0, 11, 34, 0) := ⟨RX12, TX12, 60, tyX12, rfl, by decide, Or.inr ⟨rfl, tyX12_ok 34 (by decide)⟩, fun w h => hT w (wfX12 w h), tyX12_ok, nmX12, hT _ (tb5 108 rfl rfl)⟩
set_option maxRecDepth 100000 in
set_option maxHeartbeats 4000000 in
theorem lkX12_263 {R : Room} {Ts : List Cond} {SS : List eS} {n : Nat} (hT : ∀ w ∈ eTb, w ∈ Ts) : eLnk R vwCl Ts SS n RX12 263 (3, 0, 0, 100) := hT _ (tb6 150 rfl rfl)
set_option maxRecDepth 100000 in
set_option maxHeartbeats 4000000 in
theorem lkX12_272 {R : Room} {Ts : List Cond} {SS : List eS} {n : Nat} (hT : ∀ w ∈ eTb, w ∈ Ts) : eLnk R vwCl Ts SS n RX12 272 (3, 0, 0, -100) := hT _ (tb6 199 rfl rfl)
set_option maxRecDepth 100000 in
set_option maxHeartbeats 4000000 in
theorem lkX12_281 {R : Room} {Ts : List Cond} {SS : List eS} {n : Nat} (hT : ∀ w ∈ eTb, w ∈ Ts) : eLnk R vwCl Ts SS n RX12 281 (0, 11, 39, 1) := ⟨RX12, TX12, 60, tyX12, rfl, by decide, Or.inr ⟨rfl, tyX12_ok 39 (by decide)⟩, fun w h => hT w (wfX12 w h), tyX12_ok, nmX12, hT _ (tb5 113 rfl rfl)⟩
set_option maxRecDepth 100000 in
set_option maxHeartbeats 4000000 in
theorem lkX12_321 {R : Room} {Ts : List Cond} {SS : List eS} {n : Nat} (hT : ∀ w ∈ eTb, w ∈ Ts) : eLnk R vwCl Ts SS n RX12 321 (3, 0, 0, -2) := hT _ (tb6 142 rfl rfl)
set_option maxRecDepth 100000 in
set_option maxHeartbeats 4000000 in
theorem lkX12_342 {R : Room} {Ts : List Cond} {SS : List eS} {n : Nat} (hT : ∀ w ∈ eTb, w ∈ Ts) : eLnk R vwCl Ts SS n RX12 342 (0, 11, 43, 1) := ⟨RX12, TX12, 60, tyX12, rfl, by decide, Or.inr ⟨rfl, tyX12_ok 43 (by decide)⟩, fun w h => hT w (wfX12 w h), tyX12_ok, nmX12, hT _ (tb5 117 rfl rfl)⟩
set_option maxRecDepth 100000 in
set_option maxHeartbeats 4000000 in
theorem lkX12_345 {R : Room} {Ts : List Cond} {SS : List eS} {n : Nat} (hT : ∀ w ∈ eTb, w ∈ Ts) : eLnk R vwCl Ts SS n RX12 345 (0, 11, 44, 1) := ⟨RX12, TX12, 60, tyX12, rfl, by decide, Or.inr ⟨rfl, tyX12_ok 44 (by decide)⟩, fun w h => hT w (wfX12 w h), tyX12_ok, nmX12, hT _ (tb5 118 rfl rfl)⟩
set_option maxRecDepth 100000 in
set_option maxHeartbeats 4000000 in
theorem lkX12_351 {R : Room} {Ts : List Cond} {SS : List eS} {n : Nat} (hT : ∀ w ∈ eTb, w ∈ Ts) : eLnk R vwCl Ts SS n RX12 351 (2, 0, 0, 10000000) := hT _ (tb7 23 rfl rfl)
set_option maxRecDepth 100000 in
set_option maxHeartbeats 4000000 in
theorem lkX12_355 {R : Room} {Ts : List Cond} {SS : List eS} {n : Nat} (hT : ∀ w ∈ eTb, w ∈ Ts) : eLnk R vwCl Ts SS n RX12 355 (2, 0, 0, -1000000000) := hT _ (tb7 40 rfl rfl)
set_option maxRecDepth 100000 in
set_option maxHeartbeats 4000000 in
theorem lkX12_362 {R : Room} {Ts : List Cond} {SS : List eS} {n : Nat} (hT : ∀ w ∈ eTb, w ∈ Ts) : eLnk R vwCl Ts SS n RX12 362 (0, 11, 47, 0) := ⟨RX12, TX12, 60, tyX12, rfl, by decide, Or.inr ⟨rfl, tyX12_ok 47 (by decide)⟩, fun w h => hT w (wfX12 w h), tyX12_ok, nmX12, hT _ (tb5 121 rfl rfl)⟩
set_option maxRecDepth 100000 in
set_option maxHeartbeats 4000000 in
theorem lkX12_378 {R : Room} {Ts : List Cond} {SS : List eS} {n : Nat} (hT : ∀ w ∈ eTb, w ∈ Ts) : eLnk R vwCl Ts SS n RX12 378 (0, 11, 48, 1) := ⟨RX12, TX12, 60, tyX12, rfl, by decide, Or.inr ⟨rfl, tyX12_ok 48 (by decide)⟩, fun w h => hT w (wfX12 w h), tyX12_ok, nmX12, hT _ (tb5 122 rfl rfl)⟩
set_option maxRecDepth 100000 in
set_option maxHeartbeats 4000000 in
theorem lkX12_381 {R : Room} {Ts : List Cond} {SS : List eS} {n : Nat} (hT : ∀ w ∈ eTb, w ∈ Ts) : eLnk R vwCl Ts SS n RX12 381 (0, 11, 49, 1) := ⟨RX12, TX12, 60, tyX12, rfl, by decide, Or.inr ⟨rfl, tyX12_ok 49 (by decide)⟩, fun w h => hT w (wfX12 w h), tyX12_ok, nmX12, hT _ (tb5 123 rfl rfl)⟩
set_option maxRecDepth 100000 in
set_option maxHeartbeats 4000000 in
theorem lkX12_393 {R : Room} {Ts : List Cond} {SS : List eS} {n : Nat} (hT : ∀ w ∈ eTb, w ∈ Ts) : eLnk R vwCl Ts SS n RX12 393 (0, 11, 55, 0) := ⟨RX12, TX12, 60, tyX12, rfl, by decide, Or.inr ⟨rfl, tyX12_ok 55 (by decide)⟩, fun w h => hT w (wfX12 w h), tyX12_ok, nmX12, hT _ (tb5 129 rfl rfl)⟩
set_option maxRecDepth 100000 in
set_option maxHeartbeats 4000000 in
theorem lkX12_396 {R : Room} {Ts : List Cond} {SS : List eS} {n : Nat} (hT : ∀ w ∈ eTb, w ∈ Ts) : eLnk R vwCl Ts SS n RX12 396 (0, 11, 56, 0) := ⟨RX12, TX12, 60, tyX12, rfl, by decide, Or.inr ⟨rfl, tyX12_ok 56 (by decide)⟩, fun w h => hT w (wfX12 w h), tyX12_ok, nmX12, hT _ (tb5 130 rfl rfl)⟩
set_option maxRecDepth 100000 in
set_option maxHeartbeats 4000000 in
theorem lkX12_399 {R : Room} {Ts : List Cond} {SS : List eS} {n : Nat} (hT : ∀ w ∈ eTb, w ∈ Ts) : eLnk R vwCl Ts SS n RX12 399 (0, 11, 57, 0) := ⟨RX12, TX12, 60, tyX12, rfl, by decide, Or.inr ⟨rfl, tyX12_ok 57 (by decide)⟩, fun w h => hT w (wfX12 w h), tyX12_ok, nmX12, hT _ (tb5 131 rfl rfl)⟩
set_option maxRecDepth 100000 in
set_option maxHeartbeats 4000000 in
theorem lkX12_402 {R : Room} {Ts : List Cond} {SS : List eS} {n : Nat} (hT : ∀ w ∈ eTb, w ∈ Ts) : eLnk R vwCl Ts SS n RX12 402 (0, 11, 58, 0) := ⟨RX12, TX12, 60, tyX12, rfl, by decide, Or.inr ⟨rfl, tyX12_ok 58 (by decide)⟩, fun w h => hT w (wfX12 w h), tyX12_ok, nmX12, hT _ (tb5 132 rfl rfl)⟩
set_option maxRecDepth 100000 in
set_option maxHeartbeats 4000000 in
theorem lkX12_408 {R : Room} {Ts : List Cond} {SS : List eS} {n : Nat} (hT : ∀ w ∈ eTb, w ∈ Ts) : eLnk R vwCl Ts SS n RX12 408 (3, 0, 0, 1023) := hT _ (tb7 143 rfl rfl)
set_option maxRecDepth 100000 in
set_option maxHeartbeats 4000000 in
theorem lkX12_410 {R : Room} {Ts : List Cond} {SS : List eS} {n : Nat} (hT : ∀ w ∈ eTb, w ∈ Ts) : eLnk R vwCl Ts SS n RX12 410 (4, 4611686018427387904, 0, 0) := hT _ (tb7 144 rfl rfl)
set_option maxRecDepth 100000 in
set_option maxHeartbeats 4000000 in
theorem lkX12_412 {R : Room} {Ts : List Cond} {SS : List eS} {n : Nat} (hT : ∀ w ∈ eTb, w ∈ Ts) : eLnk R vwCl Ts SS n RX12 412 (4, 4841369599423283200, 0, 0) := hT _ (tb7 145 rfl rfl)
set_option maxRecDepth 100000 in
set_option maxHeartbeats 4000000 in
theorem lkX12_414 {R : Room} {Ts : List Cond} {SS : List eS} {n : Nat} (hT : ∀ w ∈ eTb, w ∈ Ts) : eLnk R vwCl Ts SS n RX12 414 (5, 1258291200, 0, 0) := hT _ (tb7 153 rfl rfl)
set_option maxRecDepth 100000 in
set_option maxHeartbeats 4000000 in
theorem lkX12_427 {R : Room} {Ts : List Cond} {SS : List eS} {n : Nat} (hT : ∀ w ∈ eTb, w ∈ Ts) : eLnk R vwCl Ts SS n RX12 427 (4, 4636737291354636288, 0, 0) := hT _ (tb7 158 rfl rfl)
theorem hdX11_firstAmount : yX11_firstAmount.cls ≠ "java/lang/invoke/MethodHandle" ∧ yX11_firstAmount.cls ≠ "java/lang/invoke/VarHandle" ∧ (parseMethodDescriptor yX11_firstAmount.desc).map (fun d => d.parameters.length) = some 4 := by decide +kernel
set_option maxRecDepth 100000 in
set_option maxHeartbeats 4000000 in
theorem wcX11_firstAmount : Cond.code yX11_firstAmount cX11_firstAmount 11 (some .int) ∈ eTb := tb4 17 rfl rfl
set_option maxRecDepth 100000 in
set_option maxHeartbeats 4000000 in
theorem wnX11_firstAmount : Cond.initialized yX11_firstAmount.cls ∈ eTb := tb1 1 rfl rfl
set_option maxRecDepth 100000 in
set_option maxHeartbeats 4000000 in
theorem wiX11_firstAmount : Cond.instanceMethod yX11_firstAmount ∈ eTb := tb4 16 rfl rfl
set_option maxRecDepth 100000 in
set_option maxHeartbeats 4000000 in
theorem wlX11_firstAmount : Cond.selects yX11_firstAmount.cls yX11_firstAmount yX11_firstAmount ∈ eTb := tb0 19 rfl rfl
theorem hdX11_isAboveOrBelow : yX11_isAboveOrBelow.cls ≠ "java/lang/invoke/MethodHandle" ∧ yX11_isAboveOrBelow.cls ≠ "java/lang/invoke/VarHandle" ∧ (parseMethodDescriptor yX11_isAboveOrBelow.desc).map (fun d => d.parameters.length) = some 1 := by decide +kernel
set_option maxRecDepth 100000 in
set_option maxHeartbeats 4000000 in
theorem wcX11_isAboveOrBelow : Cond.code yX11_isAboveOrBelow cX11_isAboveOrBelow 1 (some .boolean) ∈ eTb := tb3 114 rfl rfl
set_option maxRecDepth 100000 in
set_option maxHeartbeats 4000000 in
theorem wnX11_isAboveOrBelow : Cond.initialized yX11_isAboveOrBelow.cls ∈ eTb := tb1 1 rfl rfl
set_option maxRecDepth 100000 in
set_option maxHeartbeats 4000000 in
theorem wsX11_isAboveOrBelow : Cond.static yX11_isAboveOrBelow ∈ eTb := tb3 113 rfl rfl
theorem hdX11_isAmount : yX11_isAmount.cls ≠ "java/lang/invoke/MethodHandle" ∧ yX11_isAmount.cls ≠ "java/lang/invoke/VarHandle" ∧ (parseMethodDescriptor yX11_isAmount.desc).map (fun d => d.parameters.length) = some 1 := by decide +kernel
set_option maxRecDepth 100000 in
set_option maxHeartbeats 4000000 in
theorem wcX11_isAmount : Cond.code yX11_isAmount cX11_isAmount 1 (some .boolean) ∈ eTb := tb3 110 rfl rfl
set_option maxRecDepth 100000 in
set_option maxHeartbeats 4000000 in
theorem wnX11_isAmount : Cond.initialized yX11_isAmount.cls ∈ eTb := tb1 1 rfl rfl
set_option maxRecDepth 100000 in
set_option maxHeartbeats 4000000 in
theorem wsX11_isAmount : Cond.static yX11_isAmount ∈ eTb := tb3 109 rfl rfl
theorem hdX11_isAsked : yX11_isAsked.cls ≠ "java/lang/invoke/MethodHandle" ∧ yX11_isAsked.cls ≠ "java/lang/invoke/VarHandle" ∧ (parseMethodDescriptor yX11_isAsked.desc).map (fun d => d.parameters.length) = some 2 := by decide +kernel
set_option maxRecDepth 100000 in
set_option maxHeartbeats 4000000 in
theorem wcX11_isAsked : Cond.code yX11_isAsked cX11_isAsked 3 (some .boolean) ∈ eTb := tb3 107 rfl rfl
set_option maxRecDepth 100000 in
set_option maxHeartbeats 4000000 in
theorem wnX11_isAsked : Cond.initialized yX11_isAsked.cls ∈ eTb := tb1 1 rfl rfl
set_option maxRecDepth 100000 in
set_option maxHeartbeats 4000000 in
theorem wiX11_isAsked : Cond.instanceMethod yX11_isAsked ∈ eTb := tb3 106 rfl rfl
set_option maxRecDepth 100000 in
set_option maxHeartbeats 4000000 in
theorem wlX11_isAsked : Cond.selects yX11_isAsked.cls yX11_isAsked yX11_isAsked ∈ eTb := tb0 10 rfl rfl
theorem hdX11_isUnits : yX11_isUnits.cls ≠ "java/lang/invoke/MethodHandle" ∧ yX11_isUnits.cls ≠ "java/lang/invoke/VarHandle" ∧ (parseMethodDescriptor yX11_isUnits.desc).map (fun d => d.parameters.length) = some 1 := by decide +kernel
set_option maxRecDepth 100000 in
set_option maxHeartbeats 4000000 in
theorem wcX11_isUnits : Cond.code yX11_isUnits cX11_isUnits 1 (some .boolean) ∈ eTb := tb4 13 rfl rfl
