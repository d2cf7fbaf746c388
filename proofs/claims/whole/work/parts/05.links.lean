theorem inX0 : ∀ w ∈ u_ws RX0 TX0 2, w ∈ fb_W := by
  intro w hw
  obtain ⟨k, hk, rfl⟩ := List.mem_map.mp hw
  have hk := List.mem_range.mp hk
  match k, hk with
  | 0, _ => exact (fb_inW1 36 rfl rfl)
  | 1, _ => exact (fb_inW1 38 rfl rfl)
  | k + 2, hk => exact absurd hk (by omega)
theorem inX1 : ∀ w ∈ u_ws RX1 TX1 2, w ∈ fb_W := by
  intro w hw
  obtain ⟨k, hk, rfl⟩ := List.mem_map.mp hw
  have hk := List.mem_range.mp hk
  match k, hk with
  | 0, _ => exact (fb_inW1 163 rfl rfl)
  | 1, _ => exact (fb_inW1 165 rfl rfl)
  | k + 2, hk => exact absurd hk (by omega)
theorem inX2 : ∀ w ∈ u_ws RX2 TX2 12, w ∈ fb_W := by
  intro w hw
  obtain ⟨k, hk, rfl⟩ := List.mem_map.mp hw
  have hk := List.mem_range.mp hk
  match k, hk with
  | 0, _ => exact (fb_inW1 117 rfl rfl)
  | 1, _ => exact (fb_inW1 119 rfl rfl)
  | 2, _ => exact (fb_inW1 121 rfl rfl)
  | 3, _ => exact (fb_inW1 123 rfl rfl)
  | 4, _ => exact (fb_inW1 125 rfl rfl)
  | 5, _ => exact (fb_inW1 127 rfl rfl)
  | 6, _ => exact (fb_inW1 129 rfl rfl)
  | 7, _ => exact (fb_inW1 131 rfl rfl)
  | 8, _ => exact (fb_inW1 133 rfl rfl)
  | 9, _ => exact (fb_inW1 135 rfl rfl)
  | 10, _ => exact (fb_inW1 137 rfl rfl)
  | 11, _ => exact (fb_inW1 139 rfl rfl)
  | k + 12, hk => exact absurd hk (by omega)
theorem inX3 : ∀ w ∈ u_ws RX3 TX3 3, w ∈ fb_W := by
  intro w hw
  obtain ⟨k, hk, rfl⟩ := List.mem_map.mp hw
  have hk := List.mem_range.mp hk
  match k, hk with
  | 0, _ => exact (fb_inW1 84 rfl rfl)
  | 1, _ => exact (fb_inW1 86 rfl rfl)
  | 2, _ => exact (fb_inW1 88 rfl rfl)
  | k + 3, hk => exact absurd hk (by omega)
theorem inX4 : ∀ w ∈ u_ws RX4 TX4 2, w ∈ fb_W := by
  intro w hw
  obtain ⟨k, hk, rfl⟩ := List.mem_map.mp hw
  have hk := List.mem_range.mp hk
  match k, hk with
  | 0, _ => exact (fb_inW1 191 rfl rfl)
  | 1, _ => exact (fb_inW1 193 rfl rfl)
  | k + 2, hk => exact absurd hk (by omega)
theorem inX5 : ∀ w ∈ u_ws RX5 TX5 4, w ∈ fb_W := by
  intro w hw
  obtain ⟨k, hk, rfl⟩ := List.mem_map.mp hw
  have hk := List.mem_range.mp hk
  match k, hk with
  | 0, _ => exact (fb_inW1 59 rfl rfl)
  | 1, _ => exact (fb_inW1 61 rfl rfl)
  | 2, _ => exact (fb_inW1 63 rfl rfl)
  | 3, _ => exact (fb_inW1 65 rfl rfl)
  | k + 4, hk => exact absurd hk (by omega)
theorem inX6 : ∀ w ∈ u_ws RX6 TX6 2, w ∈ fb_W := by
  intro w hw
  obtain ⟨k, hk, rfl⟩ := List.mem_map.mp hw
  have hk := List.mem_range.mp hk
  match k, hk with
  | 0, _ => exact (fb_inW1 70 rfl rfl)
  | 1, _ => exact (fb_inW1 72 rfl rfl)
  | k + 2, hk => exact absurd hk (by omega)
theorem inX7 : ∀ w ∈ u_ws RX7 TX7 2, w ∈ fb_W := by
  intro w hw
  obtain ⟨k, hk, rfl⟩ := List.mem_map.mp hw
  have hk := List.mem_range.mp hk
  match k, hk with
  | 0, _ => exact (fb_inW1 171 rfl rfl)
  | 1, _ => exact (fb_inW1 173 rfl rfl)
  | k + 2, hk => exact absurd hk (by omega)
theorem inX8 : ∀ w ∈ u_ws RX8 TX8 12, w ∈ fb_W := by
  intro w hw
  obtain ⟨k, hk, rfl⟩ := List.mem_map.mp hw
  have hk := List.mem_range.mp hk
  match k, hk with
  | 0, _ => exact (fb_inW1 208 rfl rfl)
  | 1, _ => exact (fb_inW1 210 rfl rfl)
  | 2, _ => exact (fb_inW1 212 rfl rfl)
  | 3, _ => exact (fb_inW1 214 rfl rfl)
  | 4, _ => exact (fb_inW1 216 rfl rfl)
  | 5, _ => exact (fb_inW1 218 rfl rfl)
  | 6, _ => exact (fb_inW1 220 rfl rfl)
  | 7, _ => exact (fb_inW1 222 rfl rfl)
  | 8, _ => exact (fb_inW1 224 rfl rfl)
  | 9, _ => exact (fb_inW1 226 rfl rfl)
  | 10, _ => exact (fb_inW1 228 rfl rfl)
  | 11, _ => exact (fb_inW1 230 rfl rfl)
  | k + 12, hk => exact absurd hk (by omega)
theorem inX9 : ∀ w ∈ u_ws RX9 TX9 40, w ∈ fb_W := by
  intro w hw
  obtain ⟨k, hk, rfl⟩ := List.mem_map.mp hw
  have hk := List.mem_range.mp hk
  match k, hk with
  | 0, _ => exact (fb_inW3 189 rfl rfl)
  | 1, _ => exact (fb_inW3 191 rfl rfl)
  | 2, _ => exact (fb_inW3 193 rfl rfl)
  | 3, _ => exact (fb_inW3 195 rfl rfl)
  | 4, _ => exact (fb_inW3 197 rfl rfl)
  | 5, _ => exact (fb_inW3 199 rfl rfl)
  | 6, _ => exact (fb_inW3 201 rfl rfl)
  | 7, _ => exact (fb_inW3 203 rfl rfl)
  | 8, _ => exact (fb_inW3 205 rfl rfl)
  | 9, _ => exact (fb_inW3 207 rfl rfl)
  | 10, _ => exact (fb_inW3 209 rfl rfl)
  | 11, _ => exact (fb_inW3 211 rfl rfl)
  | 12, _ => exact (fb_inW3 213 rfl rfl)
  | 13, _ => exact (fb_inW3 215 rfl rfl)
  | 14, _ => exact (fb_inW3 217 rfl rfl)
  | 15, _ => exact (fb_inW3 219 rfl rfl)
  | 16, _ => exact (fb_inW3 221 rfl rfl)
  | 17, _ => exact (fb_inW3 223 rfl rfl)
  | 18, _ => exact (fb_inW3 225 rfl rfl)
  | 19, _ => exact (fb_inW3 227 rfl rfl)
  | 20, _ => exact (fb_inW3 229 rfl rfl)
  | 21, _ => exact (fb_inW3 231 rfl rfl)
  | 22, _ => exact (fb_inW3 233 rfl rfl)
  | 23, _ => exact (fb_inW3 235 rfl rfl)
  | 24, _ => exact (fb_inW3 237 rfl rfl)
  | 25, _ => exact (fb_inW3 239 rfl rfl)
  | 26, _ => exact (fb_inW4 1 rfl rfl)
  | 27, _ => exact (fb_inW4 3 rfl rfl)
  | 28, _ => exact (fb_inW4 5 rfl rfl)
  | 29, _ => exact (fb_inW4 7 rfl rfl)
  | 30, _ => exact (fb_inW4 9 rfl rfl)
  | 31, _ => exact (fb_inW4 11 rfl rfl)
  | 32, _ => exact (fb_inW4 13 rfl rfl)
  | 33, _ => exact (fb_inW4 15 rfl rfl)
  | 34, _ => exact (fb_inW4 17 rfl rfl)
  | 35, _ => exact (fb_inW4 19 rfl rfl)
  | 36, _ => exact (fb_inW4 21 rfl rfl)
  | 37, _ => exact (fb_inW4 23 rfl rfl)
  | 38, _ => exact (fb_inW4 25 rfl rfl)
  | 39, _ => exact (fb_inW4 27 rfl rfl)
  | k + 40, hk => exact absurd hk (by omega)
theorem lkX0_19 : fb_Lk RX0 19 0 1 2 := ⟨_, _, rfl, by decide, by decide, inX0, Or.inl (fb_inW1 35 rfl rfl)⟩
theorem lkX0_9 : fb_Lk RX0 9 0 0 2 := ⟨_, _, rfl, by decide, by decide, inX0, Or.inl (fb_inW1 33 rfl rfl)⟩
theorem lkX1_11 : fb_Lk RX1 11 1 1 2 := ⟨_, _, rfl, by decide, by decide, inX1, Or.inl (fb_inW1 159 rfl rfl)⟩
theorem lkX2_11 : fb_Lk RX2 11 2 7 12 := ⟨_, _, rfl, by decide, by decide, inX2, Or.inl (fb_inW1 112 rfl rfl)⟩
theorem lkX2_15 : fb_Lk RX2 15 2 8 12 := ⟨_, _, rfl, by decide, by decide, inX2, Or.inl (fb_inW1 113 rfl rfl)⟩
theorem lkX2_18 : fb_Lk RX2 18 2 9 12 := ⟨_, _, rfl, by decide, by decide, inX2, Or.inl (fb_inW1 114 rfl rfl)⟩
theorem lkX2_21 : fb_Lk RX2 21 2 10 12 := ⟨_, _, rfl, by decide, by decide, inX2, Or.inl (fb_inW1 115 rfl rfl)⟩
theorem lkX2_24 : fb_Lk RX2 24 2 11 12 := ⟨_, _, rfl, by decide, by decide, inX2, Or.inl (fb_inW1 116 rfl rfl)⟩
theorem lkX2_28 : fb_Lk RX2 28 2 0 12 := ⟨_, _, rfl, by decide, by decide, inX2, Or.inl (fb_inW1 98 rfl rfl)⟩
theorem lkX2_32 : fb_Lk RX2 32 2 1 12 := ⟨_, _, rfl, by decide, by decide, inX2, Or.inl (fb_inW1 101 rfl rfl)⟩
theorem lkX2_35 : fb_Lk RX2 35 2 2 12 := ⟨_, _, rfl, by decide, by decide, inX2, Or.inl (fb_inW1 104 rfl rfl)⟩
theorem lkX2_39 : fb_Lk RX2 39 2 3 12 := ⟨_, _, rfl, by decide, by decide, inX2, Or.inl (fb_inW1 106 rfl rfl)⟩
theorem lkX2_42 : fb_Lk RX2 42 2 4 12 := ⟨_, _, rfl, by decide, by decide, inX2, Or.inl (fb_inW1 108 rfl rfl)⟩
theorem lkX2_45 : fb_Lk RX2 45 2 5 12 := ⟨_, _, rfl, by decide, by decide, inX2, Or.inl (fb_inW1 109 rfl rfl)⟩
theorem lkX2_48 : fb_Lk RX2 48 2 6 12 := ⟨_, _, rfl, by decide, by decide, inX2, Or.inl (fb_inW1 111 rfl rfl)⟩
theorem lkX2_60 : fb_Lk RX2 60 1 1 2 := ⟨_, _, rfl, by decide, by decide, inX1, Or.inr ⟨"FinderBook", (fb_inN1 161 rfl rfl)⟩⟩
theorem lkX3_109 : fb_Lk RX3 109 2 3 12 := ⟨_, _, rfl, by decide, by decide, inX2, Or.inr ⟨"FinderBook", (fb_inN1 107 rfl rfl)⟩⟩
theorem lkX3_15 : fb_Lk RX3 15 3 1 3 := ⟨_, _, rfl, by decide, by decide, inX3, Or.inl (fb_inW1 82 rfl rfl)⟩
theorem lkX3_24 : fb_Lk RX3 24 3 2 3 := ⟨_, _, rfl, by decide, by decide, inX3, Or.inl (fb_inW1 83 rfl rfl)⟩
theorem lkX3_75 : fb_Lk RX3 75 2 0 12 := ⟨_, _, rfl, by decide, by decide, inX2, Or.inr ⟨"FinderBook", (fb_inN1 99 rfl rfl)⟩⟩
theorem lkX3_9 : fb_Lk RX3 9 3 0 3 := ⟨_, _, rfl, by decide, by decide, inX3, Or.inl (fb_inW1 81 rfl rfl)⟩
theorem lkX3_98 : fb_Lk RX3 98 2 1 12 := ⟨_, _, rfl, by decide, by decide, inX2, Or.inr ⟨"FinderBook", (fb_inN1 103 rfl rfl)⟩⟩
theorem lkX4_11 : fb_Lk RX4 11 4 0 2 := ⟨_, _, rfl, by decide, by decide, inX4, Or.inl (fb_inW1 187 rfl rfl)⟩
theorem lkX4_17 : fb_Lk RX4 17 4 1 2 := ⟨_, _, rfl, by decide, by decide, inX4, Or.inl (fb_inW1 189 rfl rfl)⟩
theorem lkX4_38 : fb_Lk RX4 38 2 1 12 := ⟨_, _, rfl, by decide, by decide, inX2, Or.inr ⟨"FinderBook", (fb_inN1 102 rfl rfl)⟩⟩
theorem lkX5_11 : fb_Lk RX5 11 5 0 4 := ⟨_, _, rfl, by decide, by decide, inX5, Or.inl (fb_inW1 55 rfl rfl)⟩
theorem lkX5_25 : fb_Lk RX5 25 5 1 4 := ⟨_, _, rfl, by decide, by decide, inX5, Or.inl (fb_inW1 56 rfl rfl)⟩
theorem lkX5_36 : fb_Lk RX5 36 5 2 4 := ⟨_, _, rfl, by decide, by decide, inX5, Or.inl (fb_inW1 57 rfl rfl)⟩
theorem lkX5_39 : fb_Lk RX5 39 5 3 4 := ⟨_, _, rfl, by decide, by decide, inX5, Or.inl (fb_inW1 58 rfl rfl)⟩
theorem lkX6_11 : fb_Lk RX6 11 6 0 2 := ⟨_, _, rfl, by decide, by decide, inX6, Or.inl (fb_inW1 68 rfl rfl)⟩
theorem lkX6_16 : fb_Lk RX6 16 6 1 2 := ⟨_, _, rfl, by decide, by decide, inX6, Or.inl (fb_inW1 69 rfl rfl)⟩
theorem lkX6_28 : fb_Lk RX6 28 0 0 2 := ⟨_, _, rfl, by decide, by decide, inX0, Or.inr ⟨"FinderBook", (fb_inN1 34 rfl rfl)⟩⟩
theorem lkX7_11 : fb_Lk RX7 11 7 0 2 := ⟨_, _, rfl, by decide, by decide, inX7, Or.inl (fb_inW1 169 rfl rfl)⟩
theorem lkX7_16 : fb_Lk RX7 16 7 1 2 := ⟨_, _, rfl, by decide, by decide, inX7, Or.inl (fb_inW1 170 rfl rfl)⟩
theorem lkX7_20 : fb_Lk RX7 20 1 0 2 := ⟨_, _, rfl, by decide, by decide, inX1, Or.inr ⟨"FinderBook", (fb_inN1 157 rfl rfl)⟩⟩
theorem lkX7_27 : fb_Lk RX7 27 1 1 2 := ⟨_, _, rfl, by decide, by decide, inX1, Or.inr ⟨"FinderBook", (fb_inN1 160 rfl rfl)⟩⟩
theorem lkX8_10 : fb_Lk RX8 10 8 0 12 := ⟨_, _, rfl, by decide, by decide, inX8, Or.inl (fb_inW1 196 rfl rfl)⟩
theorem lkX8_107 : fb_Lk RX8 107 2 0 12 := ⟨_, _, rfl, by decide, by decide, inX2, Or.inr ⟨"FinderBook", (fb_inN1 100 rfl rfl)⟩⟩
theorem lkX8_110 : fb_Lk RX8 110 2 2 12 := ⟨_, _, rfl, by decide, by decide, inX2, Or.inr ⟨"FinderBook", (fb_inN1 105 rfl rfl)⟩⟩
theorem lkX8_136 : fb_Lk RX8 136 8 8 12 := ⟨_, _, rfl, by decide, by decide, inX8, Or.inl (fb_inW1 204 rfl rfl)⟩
theorem lkX8_139 : fb_Lk RX8 139 2 5 12 := ⟨_, _, rfl, by decide, by decide, inX2, Or.inr ⟨"FinderBook", (fb_inN1 110 rfl rfl)⟩⟩
theorem lkX8_142 : fb_Lk RX8 142 8 11 12 := ⟨_, _, rfl, by decide, by decide, inX8, Or.inl (fb_inW1 207 rfl rfl)⟩
theorem lkX8_149 : fb_Lk RX8 149 4 1 2 := ⟨_, _, rfl, by decide, by decide, inX4, Or.inr ⟨"FinderBook", (fb_inN1 190 rfl rfl)⟩⟩
theorem lkX8_169 : fb_Lk RX8 169 1 1 2 := ⟨_, _, rfl, by decide, by decide, inX1, Or.inr ⟨"FinderBook", (fb_inN1 162 rfl rfl)⟩⟩
theorem lkX8_178 : fb_Lk RX8 178 4 0 2 := ⟨_, _, rfl, by decide, by decide, inX4, Or.inr ⟨"FinderBook", (fb_inN1 188 rfl rfl)⟩⟩
theorem lkX8_182 : fb_Lk RX8 182 1 0 2 := ⟨_, _, rfl, by decide, by decide, inX1, Or.inr ⟨"FinderBook", (fb_inN1 158 rfl rfl)⟩⟩
theorem lkX8_19 : fb_Lk RX8 19 8 1 12 := ⟨_, _, rfl, by decide, by decide, inX8, Or.inl (fb_inW1 197 rfl rfl)⟩
theorem lkX8_28 : fb_Lk RX8 28 8 2 12 := ⟨_, _, rfl, by decide, by decide, inX8, Or.inl (fb_inW1 198 rfl rfl)⟩
theorem lkX8_34 : fb_Lk RX8 34 8 3 12 := ⟨_, _, rfl, by decide, by decide, inX8, Or.inl (fb_inW1 199 rfl rfl)⟩
theorem lkX8_42 : fb_Lk RX8 42 8 5 12 := ⟨_, _, rfl, by decide, by decide, inX8, Or.inl (fb_inW1 201 rfl rfl)⟩
theorem lkX8_46 : fb_Lk RX8 46 8 6 12 := ⟨_, _, rfl, by decide, by decide, inX8, Or.inl (fb_inW1 202 rfl rfl)⟩
theorem lkX8_58 : fb_Lk RX8 58 8 7 12 := ⟨_, _, rfl, by decide, by decide, inX8, Or.inl (fb_inW1 203 rfl rfl)⟩
theorem lkX8_65 : fb_Lk RX8 65 8 9 12 := ⟨_, _, rfl, by decide, by decide, inX8, Or.inl (fb_inW1 205 rfl rfl)⟩
theorem lkX8_69 : fb_Lk RX8 69 8 10 12 := ⟨_, _, rfl, by decide, by decide, inX8, Or.inl (fb_inW1 206 rfl rfl)⟩
theorem lkX8_99 : fb_Lk RX8 99 8 4 12 := ⟨_, _, rfl, by decide, by decide, inX8, Or.inl (fb_inW1 200 rfl rfl)⟩
theorem lkX9_127 : fb_Lk RX9 127 9 4 40 := ⟨_, _, rfl, by decide, by decide, inX9, Or.inl (fb_inW3 153 rfl rfl)⟩
theorem lkX9_13 : fb_Lk RX9 13 9 2 40 := ⟨_, _, rfl, by decide, by decide, inX9, Or.inl (fb_inW3 151 rfl rfl)⟩
theorem lkX9_16 : fb_Lk RX9 16 9 3 40 := ⟨_, _, rfl, by decide, by decide, inX9, Or.inl (fb_inW3 152 rfl rfl)⟩
theorem lkX9_170 : fb_Lk RX9 170 9 27 40 := ⟨_, _, rfl, by decide, by decide, inX9, Or.inl (fb_inW3 176 rfl rfl)⟩
theorem lkX9_176 : fb_Lk RX9 176 9 20 40 := ⟨_, _, rfl, by decide, by decide, inX9, Or.inl (fb_inW3 169 rfl rfl)⟩
theorem lkX9_180 : fb_Lk RX9 180 9 18 40 := ⟨_, _, rfl, by decide, by decide, inX9, Or.inl (fb_inW3 167 rfl rfl)⟩
theorem lkX9_183 : fb_Lk RX9 183 9 17 40 := ⟨_, _, rfl, by decide, by decide, inX9, Or.inl (fb_inW3 166 rfl rfl)⟩
theorem lkX9_19 : fb_Lk RX9 19 9 6 40 := ⟨_, _, rfl, by decide, by decide, inX9, Or.inl (fb_inW3 155 rfl rfl)⟩
theorem lkX9_205 : fb_Lk RX9 205 9 21 40 := ⟨_, _, rfl, by decide, by decide, inX9, Or.inl (fb_inW3 170 rfl rfl)⟩
theorem lkX9_208 : fb_Lk RX9 208 9 19 40 := ⟨_, _, rfl, by decide, by decide, inX9, Or.inl (fb_inW3 168 rfl rfl)⟩
theorem lkX9_22 : fb_Lk RX9 22 9 7 40 := ⟨_, _, rfl, by decide, by decide, inX9, Or.inl (fb_inW3 156 rfl rfl)⟩
theorem lkX9_244 : fb_Lk RX9 244 9 5 40 := ⟨_, _, rfl, by decide, by decide, inX9, Or.inl (fb_inW3 154 rfl rfl)⟩
theorem lkX9_25 : fb_Lk RX9 25 9 8 40 := ⟨_, _, rfl, by decide, by decide, inX9, Or.inl (fb_inW3 157 rfl rfl)⟩
theorem lkX9_260 : fb_Lk RX9 260 9 28 40 := ⟨_, _, rfl, by decide, by decide, inX9, Or.inl (fb_inW3 177 rfl rfl)⟩
theorem lkX9_269 : fb_Lk RX9 269 9 35 40 := ⟨_, _, rfl, by decide, by decide, inX9, Or.inl (fb_inW3 184 rfl rfl)⟩
theorem lkX9_286 : fb_Lk RX9 286 9 37 40 := ⟨_, _, rfl, by decide, by decide, inX9, Or.inl (fb_inW3 186 rfl rfl)⟩
theorem lkX9_29 : fb_Lk RX9 29 9 9 40 := ⟨_, _, rfl, by decide, by decide, inX9, Or.inl (fb_inW3 158 rfl rfl)⟩
theorem lkX9_32 : fb_Lk RX9 32 9 10 40 := ⟨_, _, rfl, by decide, by decide, inX9, Or.inl (fb_inW3 159 rfl rfl)⟩
theorem lkX9_35 : fb_Lk RX9 35 9 11 40 := ⟨_, _, rfl, by decide, by decide, inX9, Or.inl (fb_inW3 160 rfl rfl)⟩
theorem lkX9_38 : fb_Lk RX9 38 9 12 40 := ⟨_, _, rfl, by decide, by decide, inX9, Or.inl (fb_inW3 161 rfl rfl)⟩
theorem lkX9_41 : fb_Lk RX9 41 9 13 40 := ⟨_, _, rfl, by decide, by decide, inX9, Or.inl (fb_inW3 162 rfl rfl)⟩
theorem lkX9_44 : fb_Lk RX9 44 9 14 40 := ⟨_, _, rfl, by decide, by decide, inX9, Or.inl (fb_inW3 163 rfl rfl)⟩
theorem lkX9_47 : fb_Lk RX9 47 9 15 40 := ⟨_, _, rfl, by decide, by decide, inX9, Or.inl (fb_inW3 164 rfl rfl)⟩
theorem lkX9_50 : fb_Lk RX9 50 9 16 40 := ⟨_, _, rfl, by decide, by decide, inX9, Or.inl (fb_inW3 165 rfl rfl)⟩
theorem lkX9_53 : fb_Lk RX9 53 9 22 40 := ⟨_, _, rfl, by decide, by decide, inX9, Or.inl (fb_inW3 171 rfl rfl)⟩
theorem lkX9_56 : fb_Lk RX9 56 9 23 40 := ⟨_, _, rfl, by decide, by decide, inX9, Or.inl (fb_inW3 172 rfl rfl)⟩
theorem lkX9_59 : fb_Lk RX9 59 9 24 40 := ⟨_, _, rfl, by decide, by decide, inX9, Or.inl (fb_inW3 173 rfl rfl)⟩
theorem lkX9_62 : fb_Lk RX9 62 9 25 40 := ⟨_, _, rfl, by decide, by decide, inX9, Or.inl (fb_inW3 174 rfl rfl)⟩
theorem lkX9_65 : fb_Lk RX9 65 9 26 40 := ⟨_, _, rfl, by decide, by decide, inX9, Or.inl (fb_inW3 175 rfl rfl)⟩
theorem lkX9_68 : fb_Lk RX9 68 9 29 40 := ⟨_, _, rfl, by decide, by decide, inX9, Or.inl (fb_inW3 178 rfl rfl)⟩
theorem lkX9_7 : fb_Lk RX9 7 9 0 40 := ⟨_, _, rfl, by decide, by decide, inX9, Or.inl (fb_inW3 149 rfl rfl)⟩
theorem lkX9_71 : fb_Lk RX9 71 9 30 40 := ⟨_, _, rfl, by decide, by decide, inX9, Or.inl (fb_inW3 179 rfl rfl)⟩
theorem lkX9_74 : fb_Lk RX9 74 9 31 40 := ⟨_, _, rfl, by decide, by decide, inX9, Or.inl (fb_inW3 180 rfl rfl)⟩
theorem lkX9_77 : fb_Lk RX9 77 9 32 40 := ⟨_, _, rfl, by decide, by decide, inX9, Or.inl (fb_inW3 181 rfl rfl)⟩
theorem lkX9_80 : fb_Lk RX9 80 9 33 40 := ⟨_, _, rfl, by decide, by decide, inX9, Or.inl (fb_inW3 182 rfl rfl)⟩
theorem lkX9_83 : fb_Lk RX9 83 9 34 40 := ⟨_, _, rfl, by decide, by decide, inX9, Or.inl (fb_inW3 183 rfl rfl)⟩
theorem lkX9_86 : fb_Lk RX9 86 9 36 40 := ⟨_, _, rfl, by decide, by decide, inX9, Or.inl (fb_inW3 185 rfl rfl)⟩
theorem lkX9_89 : fb_Lk RX9 89 9 38 40 := ⟨_, _, rfl, by decide, by decide, inX9, Or.inl (fb_inW3 187 rfl rfl)⟩
theorem lkX9_92 : fb_Lk RX9 92 9 39 40 := ⟨_, _, rfl, by decide, by decide, inX9, Or.inl (fb_inW3 188 rfl rfl)⟩
theorem lkX9_95 : fb_Lk RX9 95 9 1 40 := ⟨_, _, rfl, by decide, by decide, inX9, Or.inl (fb_inW3 150 rfl rfl)⟩
theorem ly_0_1 : fb_Ly 0 1 2 .int false RX0 := ⟨_, _, tyX0, rfl, tyX0_ok, nmX0, tyX0_ok 1 (by decide), rfl, rfl⟩
theorem ly_1_0 : fb_Ly 1 0 2 .int false RX1 := ⟨_, _, tyX1, rfl, tyX1_ok, nmX1, tyX1_ok 0 (by decide), rfl, rfl⟩
theorem ly_2_0 : fb_Ly 2 0 12 .int false RX2 := ⟨_, _, tyX2, rfl, tyX2_ok, nmX2, tyX2_ok 0 (by decide), rfl, rfl⟩
theorem ly_2_1 : fb_Ly 2 1 12 .int false RX2 := ⟨_, _, tyX2, rfl, tyX2_ok, nmX2, tyX2_ok 1 (by decide), rfl, rfl⟩
theorem ly_2_2 : fb_Ly 2 2 12 .boolean false RX2 := ⟨_, _, tyX2, rfl, tyX2_ok, nmX2, tyX2_ok 2 (by decide), rfl, rfl⟩
theorem ly_2_3 : fb_Ly 2 3 12 .int false RX2 := ⟨_, _, tyX2, rfl, tyX2_ok, nmX2, tyX2_ok 3 (by decide), rfl, rfl⟩
theorem ly_2_4 : fb_Ly 2 4 12 .int false RX2 := ⟨_, _, tyX2, rfl, tyX2_ok, nmX2, tyX2_ok 4 (by decide), rfl, rfl⟩
theorem ly_2_5 : fb_Ly 2 5 12 .int false RX2 := ⟨_, _, tyX2, rfl, tyX2_ok, nmX2, tyX2_ok 5 (by decide), rfl, rfl⟩
theorem ly_2_6 : fb_Ly 2 6 12 .int false RX2 := ⟨_, _, tyX2, rfl, tyX2_ok, nmX2, tyX2_ok 6 (by decide), rfl, rfl⟩
theorem ly_3_2 : fb_Ly 3 2 3 .int false RX3 := ⟨_, _, tyX3, rfl, tyX3_ok, nmX3, tyX3_ok 2 (by decide), rfl, rfl⟩
theorem ly_4_1 : fb_Ly 4 1 2 .int false RX4 := ⟨_, _, tyX4, rfl, tyX4_ok, nmX4, tyX4_ok 1 (by decide), rfl, rfl⟩
theorem ly_5_1 : fb_Ly 5 1 4 .int false RX5 := ⟨_, _, tyX5, rfl, tyX5_ok, nmX5, tyX5_ok 1 (by decide), rfl, rfl⟩
theorem ly_5_2 : fb_Ly 5 2 4 .int false RX5 := ⟨_, _, tyX5, rfl, tyX5_ok, nmX5, tyX5_ok 2 (by decide), rfl, rfl⟩
theorem ly_5_3 : fb_Ly 5 3 4 .int false RX5 := ⟨_, _, tyX5, rfl, tyX5_ok, nmX5, tyX5_ok 3 (by decide), rfl, rfl⟩
theorem ly_6_1 : fb_Ly 6 1 2 .int false RX6 := ⟨_, _, tyX6, rfl, tyX6_ok, nmX6, tyX6_ok 1 (by decide), rfl, rfl⟩
theorem ly_7_1 : fb_Ly 7 1 2 .int false RX7 := ⟨_, _, tyX7, rfl, tyX7_ok, nmX7, tyX7_ok 1 (by decide), rfl, rfl⟩
theorem ly_8_11 : fb_Ly 8 11 12 .int false RX8 := ⟨_, _, tyX8, rfl, tyX8_ok, nmX8, tyX8_ok 11 (by decide), rfl, rfl⟩
theorem ly_8_4 : fb_Ly 8 4 12 .int false RX8 := ⟨_, _, tyX8, rfl, tyX8_ok, nmX8, tyX8_ok 4 (by decide), rfl, rfl⟩
theorem ly_8_8 : fb_Ly 8 8 12 .int false RX8 := ⟨_, _, tyX8, rfl, tyX8_ok, nmX8, tyX8_ok 8 (by decide), rfl, rfl⟩
theorem ly_9_1 : fb_Ly 9 1 40 .int false RX9 := ⟨_, _, tyX9, rfl, tyX9_ok, nmX9, tyX9_ok 1 (by decide), rfl, rfl⟩
theorem ly_9_17 : fb_Ly 9 17 40 .int false RX9 := ⟨_, _, tyX9, rfl, tyX9_ok, nmX9, tyX9_ok 17 (by decide), rfl, rfl⟩
theorem ly_9_18 : fb_Ly 9 18 40 .int false RX9 := ⟨_, _, tyX9, rfl, tyX9_ok, nmX9, tyX9_ok 18 (by decide), rfl, rfl⟩
theorem ly_9_19 : fb_Ly 9 19 40 .int false RX9 := ⟨_, _, tyX9, rfl, tyX9_ok, nmX9, tyX9_ok 19 (by decide), rfl, rfl⟩
theorem ly_9_20 : fb_Ly 9 20 40 .boolean false RX9 := ⟨_, _, tyX9, rfl, tyX9_ok, nmX9, tyX9_ok 20 (by decide), rfl, rfl⟩
theorem ly_9_21 : fb_Ly 9 21 40 .boolean false RX9 := ⟨_, _, tyX9, rfl, tyX9_ok, nmX9, tyX9_ok 21 (by decide), rfl, rfl⟩
theorem ly_9_27 : fb_Ly 9 27 40 .int false RX9 := ⟨_, _, tyX9, rfl, tyX9_ok, nmX9, tyX9_ok 27 (by decide), rfl, rfl⟩
theorem ly_9_28 : fb_Ly 9 28 40 .int false RX9 := ⟨_, _, tyX9, rfl, tyX9_ok, nmX9, tyX9_ok 28 (by decide), rfl, rfl⟩
theorem ly_9_35 : fb_Ly 9 35 40 .int false RX9 := ⟨_, _, tyX9, rfl, tyX9_ok, nmX9, tyX9_ok 35 (by decide), rfl, rfl⟩
theorem ly_9_37 : fb_Ly 9 37 40 .int false RX9 := ⟨_, _, tyX9, rfl, tyX9_ok, nmX9, tyX9_ok 37 (by decide), rfl, rfl⟩
theorem ly_9_4 : fb_Ly 9 4 40 .int false RX9 := ⟨_, _, tyX9, rfl, tyX9_ok, nmX9, tyX9_ok 4 (by decide), rfl, rfl⟩
theorem ly_9_5 : fb_Ly 9 5 40 .int false RX9 := ⟨_, _, tyX9, rfl, tyX9_ok, nmX9, tyX9_ok 5 (by decide), rfl, rfl⟩
theorem fb_kb_10 : (Int8.ofInt 10).toInt32 = 10 := by decide
theorem fb_kb_11 : (Int8.ofInt 11).toInt32 = 11 := by decide
theorem fb_kb_12 : (Int8.ofInt 12).toInt32 = 12 := by decide
theorem fb_kb_122 : (Int8.ofInt 122).toInt32 = 122 := by decide
theorem fb_kb_16 : (Int8.ofInt 16).toInt32 = 16 := by decide
theorem fb_kb_32 : (Int8.ofInt 32).toInt32 = 32 := by decide
theorem fb_kb_38 : (Int8.ofInt 38).toInt32 = 38 := by decide
theorem fb_kb_40 : (Int8.ofInt 40).toInt32 = 40 := by decide
theorem fb_kb_46 : (Int8.ofInt 46).toInt32 = 46 := by decide
theorem fb_kb_48 : (Int8.ofInt 48).toInt32 = 48 := by decide
theorem fb_kb_57 : (Int8.ofInt 57).toInt32 = 57 := by decide
theorem fb_kb_6 : (Int8.ofInt 6).toInt32 = 6 := by decide
theorem fb_kb_65 : (Int8.ofInt 65).toInt32 = 65 := by decide
theorem fb_kb_7 : (Int8.ofInt 7).toInt32 = 7 := by decide
theorem fb_kb_8 : (Int8.ofInt 8).toInt32 = 8 := by decide
theorem fb_kb_80 : (Int8.ofInt 80).toInt32 = 80 := by decide
theorem fb_kb_90 : (Int8.ofInt 90).toInt32 = 90 := by decide
theorem fb_kb_95 : (Int8.ofInt 95).toInt32 = 95 := by decide
theorem fb_kb_97 : (Int8.ofInt 97).toInt32 = 97 := by decide
theorem fb_kb_m2 : (Int8.ofInt (-2)).toInt32 = (-2) := by decide
theorem fb_kb_m3 : (Int8.ofInt (-3)).toInt32 = (-3) := by decide
theorem fb_kb_m4 : (Int8.ofInt (-4)).toInt32 = (-4) := by decide
theorem fb_kb_m5 : (Int8.ofInt (-5)).toInt32 = (-5) := by decide
theorem fb_kb_m6 : (Int8.ofInt (-6)).toInt32 = (-6) := by decide
theorem fb_kb_m7 : (Int8.ofInt (-7)).toInt32 = (-7) := by decide
theorem fb_ki_0 : Int32.ofInt 0 = 0 := by decide
theorem fb_ki_1 : Int32.ofInt 1 = 1 := by decide
theorem fb_ki_2 : Int32.ofInt 2 = 2 := by decide
theorem fb_ki_3 : Int32.ofInt 3 = 3 := by decide
theorem fb_ki_4 : Int32.ofInt 4 = 4 := by decide
theorem fb_ki_5 : Int32.ofInt 5 = 5 := by decide
theorem fb_ki_m1 : Int32.ofInt (-1) = (-1) := by decide
theorem fb_kl_0 : Int64.ofNat ((0 : Fin 2) : Nat) = 0 := by decide
theorem fb_ks_9999 : (Int16.ofInt 9999).toInt32 = 9999 := by decide
theorem lwX10_53 : Cond.constantLong RX10 53 (3000000000) ∈ fb_W := (fb_inW3 100 rfl rfl)
theorem lwX1_17 : Cond.constantLong RX1 17 (3000000000) ∈ fb_W := (fb_inW3 113 rfl rfl)
theorem lwX1_21 : Cond.constantLong RX1 21 (-9223372036854775808) ∈ fb_W := (fb_inW3 114 rfl rfl)
theorem lwX8_174 : Cond.constantLong RX8 174 (4000000000) ∈ fb_W := (fb_inW3 137 rfl rfl)
theorem lwX8_50 : Cond.constantLong RX8 50 (3000000000) ∈ fb_W := (fb_inW1 176 rfl rfl)
theorem lwX9_103 : Cond.constantLong RX9 103 (255) ∈ fb_W := (fb_inW4 99 rfl rfl)
theorem lwX9_144 : Cond.constantLong RX9 144 (5140340) ∈ fb_W := (fb_inW4 133 rfl rfl)
theorem lwX9_146 : Cond.constantLong RX9 146 (5504933058704859502) ∈ fb_W := (fb_inW4 134 rfl rfl)
theorem lwX9_148 : Cond.constantLong RX9 148 (298256261484) ∈ fb_W := (fb_inW4 135 rfl rfl)
theorem lwX9_150 : Cond.constantLong RX9 150 (1416126830) ∈ fb_W := (fb_inW4 136 rfl rfl)
theorem lwX9_152 : Cond.constantLong RX9 152 (20110503098738034) ∈ fb_W := (fb_inW4 137 rfl rfl)
theorem lwX9_154 : Cond.constantLong RX9 154 (18688899356648814) ∈ fb_W := (fb_inW4 138 rfl rfl)
theorem lwX9_156 : Cond.constantLong RX9 156 (1316318316) ∈ fb_W := (fb_inW4 139 rfl rfl)
theorem lwX9_158 : Cond.constantLong RX9 158 (1416787301) ∈ fb_W := (fb_inW4 140 rfl rfl)
theorem lwX9_160 : Cond.constantLong RX9 160 (302282208101) ∈ fb_W := (fb_inW4 141 rfl rfl)
theorem lwX9_162 : Cond.constantLong RX9 162 (76353602940019) ∈ fb_W := (fb_inW4 142 rfl rfl)
theorem lwX9_168 : Cond.constantLong RX9 168 (18803) ∈ fb_W := (fb_inW4 143 rfl rfl)
theorem lwX9_186 : Cond.constantLong RX9 186 (4288100) ∈ fb_W := (fb_inW4 120 rfl rfl)
theorem lwX9_196 : Cond.constantLong RX9 196 (20338) ∈ fb_W := (fb_inW4 115 rfl rfl)
theorem lwX9_201 : Cond.constantLong RX9 201 (4289379) ∈ fb_W := (fb_inW4 148 rfl rfl)
theorem lwX9_203 : Cond.constantLong RX9 203 (1147499363) ∈ fb_W := (fb_inW4 149 rfl rfl)
theorem lwX9_214 : Cond.constantLong RX9 214 (1718185572) ∈ fb_W := (fb_inW4 87 rfl rfl)
theorem lwX9_216 : Cond.constantLong RX9 216 (427071729268) ∈ fb_W := (fb_inW4 100 rfl rfl)
theorem lwX9_218 : Cond.constantLong RX9 218 (111567839655027) ∈ fb_W := (fb_inW4 101 rfl rfl)
theorem lwX9_220 : Cond.constantLong RX9 220 (110386773062757) ∈ fb_W := (fb_inW4 102 rfl rfl)
theorem lwX9_222 : Cond.constantLong RX9 222 (22362298684424825) ∈ fb_W := (fb_inW4 110 rfl rfl)
theorem lwX9_234 : Cond.constantLong RX9 234 (5533552) ∈ fb_W := (fb_inW4 103 rfl rfl)
theorem lwX9_236 : Cond.constantLong RX9 236 (302416819060) ∈ fb_W := (fb_inW4 104 rfl rfl)
theorem lwX9_238 : Cond.constantLong RX9 238 (17017) ∈ fb_W := (fb_inW4 105 rfl rfl)
theorem lwX9_289 : Cond.constantLong RX9 289 (4000000000) ∈ fb_W := (fb_inW4 237 rfl rfl)
theorem lwX9_291 : Cond.constantLong RX9 291 (3000000000) ∈ fb_W := (fb_inW4 238 rfl rfl)
theorem srX10_11 : (RX10, 11, "LessThan", 13) ∈ fb_SR := List.mem_of_getElem? (i := 13) rfl
theorem srX10_13 : (RX10, 13, "LessThanEqual", 14) ∈ fb_SR := List.mem_of_getElem? (i := 14) rfl
theorem srX10_15 : (RX10, 15, "GreaterThan", 15) ∈ fb_SR := List.mem_of_getElem? (i := 15) rfl
theorem srX10_17 : (RX10, 17, "GreaterThanEqual", 16) ∈ fb_SR := List.mem_of_getElem? (i := 16) rfl
theorem srX10_19 : (RX10, 19, "Between", 17) ∈ fb_SR := List.mem_of_getElem? (i := 17) rfl
theorem srX10_21 : (RX10, 21, "Null", 18) ∈ fb_SR := List.mem_of_getElem? (i := 18) rfl
theorem srX10_23 : (RX10, 23, "NotNull", 19) ∈ fb_SR := List.mem_of_getElem? (i := 19) rfl
theorem srX10_25 : (RX10, 25, "True", 20) ∈ fb_SR := List.mem_of_getElem? (i := 20) rfl
theorem srX10_27 : (RX10, 27, "False", 21) ∈ fb_SR := List.mem_of_getElem? (i := 21) rfl
theorem srX10_29 : (RX10, 29, "", 22) ∈ fb_SR := List.mem_of_getElem? (i := 22) rfl
theorem srX10_33 : (RX10, 33, "Equals", 10) ∈ fb_SR := List.mem_of_getElem? (i := 10) rfl
theorem srX10_47 : (RX10, 47, "Is", 11) ∈ fb_SR := List.mem_of_getElem? (i := 11) rfl
theorem srX10_9 : (RX10, 9, "Not", 12) ∈ fb_SR := List.mem_of_getElem? (i := 12) rfl
theorem srX3_101 : (RX3, 101, "Or", 8) ∈ fb_SR := List.mem_of_getElem? (i := 8) rfl
theorem srX3_112 : (RX3, 112, "And", 9) ∈ fb_SR := List.mem_of_getElem? (i := 9) rfl
theorem srX3_142 : (RX3, 142, "Asc", 23) ∈ fb_SR := List.mem_of_getElem? (i := 23) rfl
theorem srX3_147 : (RX3, 147, "Desc", 24) ∈ fb_SR := List.mem_of_getElem? (i := 24) rfl
theorem srX3_35 : (RX3, 35, "By", 6) ∈ fb_SR := List.mem_of_getElem? (i := 6) rfl
theorem srX3_47 : (RX3, 47, "OrderBy", 7) ∈ fb_SR := List.mem_of_getElem? (i := 7) rfl
theorem srX3_78 : (RX3, 78, "count", 0) ∈ fb_SR := List.mem_of_getElem? (i := 0) rfl
theorem srX3_80 : (RX3, 80, "exists", 1) ∈ fb_SR := List.mem_of_getElem? (i := 1) rfl
theorem srX3_82 : (RX3, 82, "delete", 2) ∈ fb_SR := List.mem_of_getElem? (i := 2) rfl
theorem srX3_84 : (RX3, 84, "find", 3) ∈ fb_SR := List.mem_of_getElem? (i := 3) rfl
theorem srX3_86 : (RX3, 86, "Top", 4) ∈ fb_SR := List.mem_of_getElem? (i := 4) rfl
theorem srX3_88 : (RX3, 88, "First", 5) ∈ fb_SR := List.mem_of_getElem? (i := 5) rfl
theorem ymX0_append : fb_Ym yX0_append cX0_append 3 (some .boolean) 1 := ⟨(fb_inW2 0 rfl rfl), (fb_inW1 2 rfl rfl), by decide, by decide, by decide +kernel⟩
theorem yiX0_append : fb_Yi yX0_append 0 := ⟨(fb_inW1 238 rfl rfl), (fb_inW1 239 rfl rfl), by decide, _, _, rfl⟩
theorem ymX0_at : fb_Ym yX0_at cX0_at 2 (some .char) 1 := ⟨(fb_inW2 48 rfl rfl), (fb_inW1 2 rfl rfl), by decide, by decide, by decide +kernel⟩
theorem yiX0_at : fb_Yi yX0_at 0 := ⟨(fb_inW2 46 rfl rfl), (fb_inW2 47 rfl rfl), by decide, _, _, rfl⟩
theorem ymX0_clear : fb_Ym yX0_clear cX0_clear 1 none 0 := ⟨(fb_inW2 20 rfl rfl), (fb_inW1 2 rfl rfl), by decide, by decide, by decide +kernel⟩
theorem yiX0_clear : fb_Yi yX0_clear 0 := ⟨(fb_inW2 18 rfl rfl), (fb_inW2 19 rfl rfl), by decide, _, _, rfl⟩
theorem ymX0_endsWith : fb_Ym yX0_endsWith cX0_endsWith 5 (some .boolean) 3 := ⟨(fb_inW2 236 rfl rfl), (fb_inW1 2 rfl rfl), by decide, by decide, by decide +kernel⟩
theorem yiX0_endsWith : fb_Yi yX0_endsWith 0 := ⟨(fb_inW2 234 rfl rfl), (fb_inW2 235 rfl rfl), by decide, _, _, rfl⟩
theorem ymX0_isCutAt : fb_Ym yX0_isCutAt cX0_isCutAt 5 (some .boolean) 3 := ⟨(fb_inW2 182 rfl rfl), (fb_inW1 2 rfl rfl), by decide, by decide, by decide +kernel⟩
theorem yiX0_isCutAt : fb_Yi yX0_isCutAt 0 := ⟨(fb_inW2 180 rfl rfl), (fb_inW2 181 rfl rfl), by decide, _, _, rfl⟩
theorem ymX0_isPath : fb_Ym yX0_isPath cX0_isPath 5 (some .boolean) 0 := ⟨(fb_inW2 28 rfl rfl), (fb_inW1 2 rfl rfl), by decide, by decide, by decide +kernel⟩
theorem yiX0_isPath : fb_Yi yX0_isPath 0 := ⟨(fb_inW2 26 rfl rfl), (fb_inW2 27 rfl rfl), by decide, _, _, rfl⟩
theorem ymX0_length : fb_Ym yX0_length cX0_length 1 (some .int) 0 := ⟨(fb_inW2 41 rfl rfl), (fb_inW1 2 rfl rfl), by decide, by decide, by decide +kernel⟩
theorem yiX0_length : fb_Yi yX0_length 0 := ⟨(fb_inW2 39 rfl rfl), (fb_inW2 40 rfl rfl), by decide, _, _, rfl⟩
theorem ymX0_placeOf : fb_Ym yX0_placeOf cX0_placeOf 5 (some .int) 3 := ⟨(fb_inW2 172 rfl rfl), (fb_inW1 2 rfl rfl), by decide, by decide, by decide +kernel⟩
theorem yiX0_placeOf : fb_Yi yX0_placeOf 0 := ⟨(fb_inW2 170 rfl rfl), (fb_inW2 171 rfl rfl), by decide, _, _, rfl⟩
theorem ymX0_startsWith : fb_Ym yX0_startsWith cX0_startsWith 5 (some .boolean) 3 := ⟨(fb_inW2 109 rfl rfl), (fb_inW1 2 rfl rfl), by decide, by decide, by decide +kernel⟩
theorem yiX0_startsWith : fb_Yi yX0_startsWith 0 := ⟨(fb_inW2 107 rfl rfl), (fb_inW2 108 rfl rfl), by decide, _, _, rfl⟩
theorem ymX10_argumentsTaken : fb_Ym yX10_argumentsTaken cX10_argumentsTaken 1 (some .int) 1 := ⟨(fb_inW2 222 rfl rfl), (fb_inW1 17 rfl rfl), by decide, by decide, by decide +kernel⟩
theorem ysX10_argumentsTaken : Cond.static yX10_argumentsTaken ∈ fb_W := (fb_inW2 221 rfl rfl)
theorem ymX10_holds : fb_Ym yX10_holds cX10_holds 5 (some .boolean) 4 := ⟨(fb_inW3 99 rfl rfl), (fb_inW1 17 rfl rfl), by decide, by decide, by decide +kernel⟩
theorem ysX10_holds : Cond.static yX10_holds ∈ fb_W := (fb_inW3 98 rfl rfl)
theorem ymX10_numberOf : fb_Ym yX10_numberOf cX10_numberOf 6 (some .int) 3 := ⟨(fb_inW2 196 rfl rfl), (fb_inW1 17 rfl rfl), by decide, by decide, by decide +kernel⟩
theorem ysX10_numberOf : Cond.static yX10_numberOf ∈ fb_W := (fb_inW2 195 rfl rfl)
theorem ymX10_word : fb_Ym yX10_word cX10_word 1 (some (.object "java/lang/String")) 1 := ⟨(fb_inW2 203 rfl rfl), (fb_inW1 17 rfl rfl), by decide, by decide, by decide +kernel⟩
theorem ysX10_word : Cond.static yX10_word ∈ fb_W := (fb_inW2 202 rfl rfl)
theorem ymX1_sortKey : fb_Ym yX1_sortKey cX1_sortKey 2 (some .long) 1 := ⟨(fb_inW3 112 rfl rfl), (fb_inW1 8 rfl rfl), by decide, by decide, by decide +kernel⟩
theorem yiX1_sortKey : fb_Yi yX1_sortKey 1 := ⟨(fb_inW3 110 rfl rfl), (fb_inW3 111 rfl rfl), by decide, _, _, rfl⟩
theorem ymX2_addOrder : fb_Ym yX2_addOrder cX2_addOrder 3 none 2 := ⟨(fb_inW3 5 rfl rfl), (fb_inW1 6 rfl rfl), by decide, by decide, by decide +kernel⟩
theorem yiX2_addOrder : fb_Yi yX2_addOrder 2 := ⟨(fb_inW3 3 rfl rfl), (fb_inW3 4 rfl rfl), by decide, _, _, rfl⟩
theorem ymX2_addPart : fb_Ym yX2_addPart cX2_addPart 3 none 2 := ⟨(fb_inW2 219 rfl rfl), (fb_inW1 6 rfl rfl), by decide, by decide, by decide +kernel⟩
theorem yiX2_addPart : fb_Yi yX2_addPart 2 := ⟨(fb_inW2 217 rfl rfl), (fb_inW2 218 rfl rfl), by decide, _, _, rfl⟩
theorem ymX2_argumentAt : fb_Ym yX2_argumentAt cX2_argumentAt 2 (some .int) 2 := ⟨(fb_inW3 96 rfl rfl), (fb_inW1 6 rfl rfl), by decide, by decide, by decide +kernel⟩
theorem ysX2_argumentAt : Cond.static yX2_argumentAt ∈ fb_W := (fb_inW3 95 rfl rfl)
theorem ymX2_clear : fb_Ym yX2_clear cX2_clear 1 none 0 := ⟨(fb_inW2 89 rfl rfl), (fb_inW1 6 rfl rfl), by decide, by decide, by decide +kernel⟩
theorem yiX2_clear : fb_Yi yX2_clear 2 := ⟨(fb_inW2 87 rfl rfl), (fb_inW2 88 rfl rfl), by decide, _, _, rfl⟩
theorem ymX2_fits : fb_Ym yX2_fits cX2_fits 8 (some .boolean) 2 := ⟨(fb_inW3 93 rfl rfl), (fb_inW1 6 rfl rfl), by decide, by decide, by decide +kernel⟩
theorem yiX2_fits : fb_Yi yX2_fits 2 := ⟨(fb_inW3 91 rfl rfl), (fb_inW3 92 rfl rfl), by decide, _, _, rfl⟩
theorem ymX2_isTooLong : fb_Ym yX2_isTooLong cX2_isTooLong 1 (some .boolean) 0 := ⟨(fb_inW3 9 rfl rfl), (fb_inW1 6 rfl rfl), by decide, by decide, by decide +kernel⟩
theorem yiX2_isTooLong : fb_Yi yX2_isTooLong 2 := ⟨(fb_inW3 7 rfl rfl), (fb_inW3 8 rfl rfl), by decide, _, _, rfl⟩
theorem ymX2_measure : fb_Ym yX2_measure cX2_measure 2 (some .int) 1 := ⟨(fb_inW3 22 rfl rfl), (fb_inW1 6 rfl rfl), by decide, by decide, by decide +kernel⟩
theorem yiX2_measure : fb_Yi yX2_measure 2 := ⟨(fb_inW3 20 rfl rfl), (fb_inW3 21 rfl rfl), by decide, _, _, rfl⟩
theorem ymX2_partCode : fb_Ym yX2_partCode cX2_partCode 2 (some .int) 1 := ⟨(fb_inW3 30 rfl rfl), (fb_inW1 6 rfl rfl), by decide, by decide, by decide +kernel⟩
theorem yiX2_partCode : fb_Yi yX2_partCode 2 := ⟨(fb_inW3 28 rfl rfl), (fb_inW3 29 rfl rfl), by decide, _, _, rfl⟩
theorem ymX2_putsBefore : fb_Ym yX2_putsBefore cX2_putsBefore 8 (some .boolean) 2 := ⟨(fb_inW3 108 rfl rfl), (fb_inW1 6 rfl rfl), by decide, by decide, by decide +kernel⟩
theorem yiX2_putsBefore : fb_Yi yX2_putsBefore 2 := ⟨(fb_inW3 106 rfl rfl), (fb_inW3 107 rfl rfl), by decide, _, _, rfl⟩
theorem ymX3_endsWithDirection : fb_Ym yX3_endsWithDirection cX3_endsWithDirection 3 (some .boolean) 2 := ⟨(fb_inW2 231 rfl rfl), (fb_inW1 5 rfl rfl), by decide, by decide, by decide +kernel⟩
theorem yiX3_endsWithDirection : fb_Yi yX3_endsWithDirection 3 := ⟨(fb_inW2 230 rfl rfl), (fb_inWs 8 rfl rfl), by decide, _, _, rfl⟩
theorem ymX3_read : fb_Ym yX3_read cX3_read 5 (some .int) 1 := ⟨(fb_inW2 85 rfl rfl), (fb_inW1 5 rfl rfl), by decide, by decide, by decide +kernel⟩
theorem yiX3_read : fb_Yi yX3_read 3 := ⟨(fb_inW2 83 rfl rfl), (fb_inW2 84 rfl rfl), by decide, _, _, rfl⟩
theorem ymX3_readAlternative : fb_Ym yX3_readAlternative cX3_readAlternative 6 (some .boolean) 3 := ⟨(fb_inW2 188 rfl rfl), (fb_inW1 5 rfl rfl), by decide, by decide, by decide +kernel⟩
theorem yiX3_readAlternative : fb_Yi yX3_readAlternative 3 := ⟨(fb_inW2 187 rfl rfl), (fb_inWs 5 rfl rfl), by decide, _, _, rfl⟩
theorem ymX3_readCondition : fb_Ym yX3_readCondition cX3_readCondition 6 (some .boolean) 3 := ⟨(fb_inW2 177 rfl rfl), (fb_inW1 5 rfl rfl), by decide, by decide, by decide +kernel⟩
theorem yiX3_readCondition : fb_Yi yX3_readCondition 3 := ⟨(fb_inW2 176 rfl rfl), (fb_inWs 4 rfl rfl), by decide, _, _, rfl⟩
theorem ymX3_readLimit : fb_Ym yX3_readLimit cX3_readLimit 4 (some .boolean) 1 := ⟨(fb_inW2 162 rfl rfl), (fb_inW1 5 rfl rfl), by decide, by decide, by decide +kernel⟩
theorem yiX3_readLimit : fb_Yi yX3_readLimit 3 := ⟨(fb_inW2 161 rfl rfl), (fb_inWs 3 rfl rfl), by decide, _, _, rfl⟩
theorem ymX3_readOrder : fb_Ym yX3_readOrder cX3_readOrder 7 (some .boolean) 3 := ⟨(fb_inW3 1 rfl rfl), (fb_inW1 5 rfl rfl), by decide, by decide, by decide +kernel⟩
theorem yiX3_readOrder : fb_Yi yX3_readOrder 3 := ⟨(fb_inW3 0 rfl rfl), (fb_inWs 9 rfl rfl), by decide, _, _, rfl⟩
theorem ymX3_readOrders : fb_Ym yX3_readOrders cX3_readOrders 6 (some .boolean) 3 := ⟨(fb_inW2 226 rfl rfl), (fb_inW1 5 rfl rfl), by decide, by decide, by decide +kernel⟩
theorem yiX3_readOrders : fb_Yi yX3_readOrders 3 := ⟨(fb_inW2 225 rfl rfl), (fb_inWs 7 rfl rfl), by decide, _, _, rfl⟩
theorem ymX3_readPart : fb_Ym yX3_readPart cX3_readPart 7 (some .boolean) 3 := ⟨(fb_inW2 193 rfl rfl), (fb_inW1 5 rfl rfl), by decide, by decide, by decide +kernel⟩
theorem yiX3_readPart : fb_Yi yX3_readPart 3 := ⟨(fb_inW2 192 rfl rfl), (fb_inWs 6 rfl rfl), by decide, _, _, rfl⟩
theorem ymX3_readSubject : fb_Ym yX3_readSubject cX3_readSubject 3 (some .boolean) 1 := ⟨(fb_inW2 93 rfl rfl), (fb_inW1 5 rfl rfl), by decide, by decide, by decide +kernel⟩
theorem yiX3_readSubject : fb_Yi yX3_readSubject 3 := ⟨(fb_inW2 92 rfl rfl), (fb_inWs 1 rfl rfl), by decide, _, _, rfl⟩
theorem ymX3_skip : fb_Ym yX3_skip cX3_skip 2 (some .boolean) 1 := ⟨(fb_inW2 104 rfl rfl), (fb_inW1 5 rfl rfl), by decide, by decide, by decide +kernel⟩
theorem yiX3_skip : fb_Yi yX3_skip 3 := ⟨(fb_inW2 103 rfl rfl), (fb_inWs 2 rfl rfl), by decide, _, _, rfl⟩
theorem ymX3_subjectWord : fb_Ym yX3_subjectWord cX3_subjectWord 1 (some (.object "java/lang/String")) 1 := ⟨(fb_inW2 96 rfl rfl), (fb_inW1 5 rfl rfl), by decide, by decide, by decide +kernel⟩
theorem ysX3_subjectWord : Cond.static yX3_subjectWord ∈ fb_W := (fb_inW2 95 rfl rfl)
theorem ymX4_gather : fb_Ym yX4_gather cX4_gather 6 none 3 := ⟨(fb_inW3 81 rfl rfl), (fb_inW1 10 rfl rfl), by decide, by decide, by decide +kernel⟩
theorem yiX4_gather : fb_Yi yX4_gather 4 := ⟨(fb_inW3 79 rfl rfl), (fb_inW3 80 rfl rfl), by decide, _, _, rfl⟩
theorem ymX4_insert : fb_Ym yX4_insert cX4_insert 4 none 2 := ⟨(fb_inW3 104 rfl rfl), (fb_inW1 10 rfl rfl), by decide, by decide, by decide +kernel⟩
theorem yiX4_insert : fb_Yi yX4_insert 4 := ⟨(fb_inW3 103 rfl rfl), (fb_inWs 12 rfl rfl), by decide, _, _, rfl⟩
theorem ymX5_clashesWith : fb_Ym yX5_clashesWith cX5_clashesWith 4 (some .boolean) 1 := ⟨(fb_inW2 37 rfl rfl), (fb_inW1 4 rfl rfl), by decide, by decide, by decide +kernel⟩
theorem yiX5_clashesWith : fb_Yi yX5_clashesWith 5 := ⟨(fb_inW2 35 rfl rfl), (fb_inW2 36 rfl rfl), by decide, _, _, rfl⟩
theorem ymX5_goesBefore : fb_Ym yX5_goesBefore cX5_goesBefore 2 (some .boolean) 1 := ⟨(fb_inW2 77 rfl rfl), (fb_inW1 4 rfl rfl), by decide, by decide, by decide +kernel⟩
theorem yiX5_goesBefore : fb_Yi yX5_goesBefore 5 := ⟨(fb_inW2 75 rfl rfl), (fb_inW2 76 rfl rfl), by decide, _, _, rfl⟩
theorem ymX5_isSpelledBy : fb_Ym yX5_isSpelledBy cX5_isSpelledBy 9 (some .boolean) 3 := ⟨(fb_inW2 73 rfl rfl), (fb_inW1 4 rfl rfl), by decide, by decide, by decide +kernel⟩
theorem yiX5_isSpelledBy : fb_Yi yX5_isSpelledBy 5 := ⟨(fb_inW2 71 rfl rfl), (fb_inW2 72 rfl rfl), by decide, _, _, rfl⟩
theorem ymX5_nameLength : fb_Ym yX5_nameLength cX5_nameLength 3 (some .int) 1 := ⟨(fb_inW2 60 rfl rfl), (fb_inW1 4 rfl rfl), by decide, by decide, by decide +kernel⟩
theorem yiX5_nameLength : fb_Yi yX5_nameLength 5 := ⟨(fb_inW2 59 rfl rfl), (fb_inWs 0 rfl rfl), by decide, _, _, rfl⟩
theorem ymX5_setPath : fb_Ym yX5_setPath cX5_setPath 3 none 1 := ⟨(fb_inW2 56 rfl rfl), (fb_inW1 4 rfl rfl), by decide, by decide, by decide +kernel⟩
theorem yiX5_setPath : fb_Yi yX5_setPath 5 := ⟨(fb_inW2 54 rfl rfl), (fb_inW2 55 rfl rfl), by decide, _, _, rfl⟩
theorem ymX6_add : fb_Ym yX6_add cX6_add 2 (some .int) 1 := ⟨(fb_inW2 52 rfl rfl), (fb_inW1 3 rfl rfl), by decide, by decide, by decide +kernel⟩
theorem yiX6_add : fb_Yi yX6_add 6 := ⟨(fb_inW2 50 rfl rfl), (fb_inW2 51 rfl rfl), by decide, _, _, rfl⟩
theorem ymX6_clashWith : fb_Ym yX6_clashWith cX6_clashWith 3 (some .boolean) 1 := ⟨(fb_inW2 33 rfl rfl), (fb_inW1 3 rfl rfl), by decide, by decide, by decide +kernel⟩
theorem yiX6_clashWith : fb_Yi yX6_clashWith 6 := ⟨(fb_inW2 31 rfl rfl), (fb_inW2 32 rfl rfl), by decide, _, _, rfl⟩
theorem ymX6_has : fb_Ym yX6_has cX6_has 2 (some .boolean) 1 := ⟨(fb_inW3 42 rfl rfl), (fb_inW1 3 rfl rfl), by decide, by decide, by decide +kernel⟩
theorem yiX6_has : fb_Yi yX6_has 6 := ⟨(fb_inW3 40 rfl rfl), (fb_inW3 41 rfl rfl), by decide, _, _, rfl⟩
theorem ymX6_named : fb_Ym yX6_named cX6_named 6 (some .int) 3 := ⟨(fb_inW2 69 rfl rfl), (fb_inW1 3 rfl rfl), by decide, by decide, by decide +kernel⟩
theorem yiX6_named : fb_Yi yX6_named 6 := ⟨(fb_inW2 67 rfl rfl), (fb_inW2 68 rfl rfl), by decide, _, _, rfl⟩
theorem ymX7_at : fb_Ym yX7_at cX7_at 2 (some (.object "FinderBook$Entity")) 1 := ⟨(fb_inW3 89 rfl rfl), (fb_inW1 7 rfl rfl), by decide, by decide, by decide +kernel⟩
theorem yiX7_at : fb_Yi yX7_at 7 := ⟨(fb_inW3 87 rfl rfl), (fb_inW3 88 rfl rfl), by decide, _, _, rfl⟩
theorem ymX7_count : fb_Ym yX7_count cX7_count 1 (some .int) 0 := ⟨(fb_inW3 85 rfl rfl), (fb_inW1 7 rfl rfl), by decide, by decide, by decide +kernel⟩
theorem yiX7_count : fb_Yi yX7_count 7 := ⟨(fb_inW3 83 rfl rfl), (fb_inW3 84 rfl rfl), by decide, _, _, rfl⟩
theorem ymX7_drop : fb_Ym yX7_drop cX7_drop 5 (some .boolean) 1 := ⟨(fb_inW3 69 rfl rfl), (fb_inW1 7 rfl rfl), by decide, by decide, by decide +kernel⟩
theorem yiX7_drop : fb_Yi yX7_drop 7 := ⟨(fb_inW3 67 rfl rfl), (fb_inW3 68 rfl rfl), by decide, _, _, rfl⟩
theorem ymX7_placeOf : fb_Ym yX7_placeOf cX7_placeOf 3 (some .int) 1 := ⟨(fb_inW3 58 rfl rfl), (fb_inW1 7 rfl rfl), by decide, by decide, by decide +kernel⟩
theorem yiX7_placeOf : fb_Yi yX7_placeOf 7 := ⟨(fb_inW3 56 rfl rfl), (fb_inW3 57 rfl rfl), by decide, _, _, rfl⟩
theorem ymX7_put : fb_Ym yX7_put cX7_put 4 (some .boolean) 2 := ⟨(fb_inW3 54 rfl rfl), (fb_inW1 7 rfl rfl), by decide, by decide, by decide +kernel⟩
theorem yiX7_put : fb_Yi yX7_put 7 := ⟨(fb_inW3 52 rfl rfl), (fb_inW3 53 rfl rfl), by decide, _, _, rfl⟩
theorem ymX8_deleteFinding : fb_Ym yX8_deleteFinding cX8_deleteFinding 2 (some .int) 0 := ⟨(fb_inW3 118 rfl rfl), (fb_inW1 1 rfl rfl), by decide, by decide, by decide +kernel⟩
theorem yiX8_deleteFinding : fb_Yi yX8_deleteFinding 8 := ⟨(fb_inW3 117 rfl rfl), (fb_inWs 13 rfl rfl), by decide, _, _, rfl⟩
theorem ymX8_enter : fb_Ym yX8_enter cX8_enter 4 (some .boolean) 2 := ⟨(fb_inW3 38 rfl rfl), (fb_inW1 1 rfl rfl), by decide, by decide, by decide +kernel⟩
theorem yiX8_enter : fb_Yi yX8_enter 8 := ⟨(fb_inW3 37 rfl rfl), (fb_inWs 11 rfl rfl), by decide, _, _, rfl⟩
theorem ymX8_isCapital : fb_Ym yX8_isCapital cX8_isCapital 1 (some .boolean) 1 := ⟨(fb_inW2 6 rfl rfl), (fb_inW1 1 rfl rfl), by decide, by decide, by decide +kernel⟩
theorem ysX8_isCapital : Cond.static yX8_isCapital ∈ fb_W := (fb_inW2 5 rfl rfl)
theorem ymX8_isFigure : fb_Ym yX8_isFigure cX8_isFigure 1 (some .boolean) 1 := ⟨(fb_inW2 12 rfl rfl), (fb_inW1 1 rfl rfl), by decide, by decide, by decide +kernel⟩
theorem ysX8_isFigure : Cond.static yX8_isFigure ∈ fb_W := (fb_inW2 11 rfl rfl)
theorem ymX8_isFinder : fb_Ym yX8_isFinder cX8_isFinder 2 (some .boolean) 1 := ⟨(fb_inW3 18 rfl rfl), (fb_inW1 1 rfl rfl), by decide, by decide, by decide +kernel⟩
theorem yiX8_isFinder : fb_Yi yX8_isFinder 8 := ⟨(fb_inW3 17 rfl rfl), (fb_inWs 10 rfl rfl), by decide, _, _, rfl⟩
theorem ymX8_isLetterOrFigure : fb_Ym yX8_isLetterOrFigure cX8_isLetterOrFigure 1 (some .boolean) 1 := ⟨(fb_inW2 3 rfl rfl), (fb_inW1 1 rfl rfl), by decide, by decide, by decide +kernel⟩
theorem ysX8_isLetterOrFigure : Cond.static yX8_isLetterOrFigure ∈ fb_W := (fb_inW2 2 rfl rfl)
theorem ymX8_isSmall : fb_Ym yX8_isSmall cX8_isSmall 1 (some .boolean) 1 := ⟨(fb_inW2 9 rfl rfl), (fb_inW1 1 rfl rfl), by decide, by decide, by decide +kernel⟩
theorem ysX8_isSmall : Cond.static yX8_isSmall ∈ fb_W := (fb_inW2 8 rfl rfl)
theorem ymX8_keepFinding : fb_Ym yX8_keepFinding cX8_keepFinding 3 (some .int) 1 := ⟨(fb_inW3 122 rfl rfl), (fb_inW1 1 rfl rfl), by decide, by decide, by decide +kernel⟩
theorem yiX8_keepFinding : fb_Yi yX8_keepFinding 8 := ⟨(fb_inW3 121 rfl rfl), (fb_inWs 14 rfl rfl), by decide, _, _, rfl⟩
theorem ymX9_at : fb_Ym yX9_at cX9_at 2 (some .int) 1 := ⟨(fb_inW4 74 rfl rfl), (fb_inW1 11 rfl rfl), by decide, by decide, by decide +kernel⟩
theorem yiX9_at : fb_Yi yX9_at 9 := ⟨(fb_inW4 73 rfl rfl), (fb_inWs 19 rfl rfl), by decide, _, _, rfl⟩
theorem ymX9_before : fb_Ym yX9_before cX9_before 8 (some .int) 3 := ⟨(fb_inW4 98 rfl rfl), (fb_inW1 11 rfl rfl), by decide, by decide, by decide +kernel⟩
theorem yiX9_before : fb_Yi yX9_before 9 := ⟨(fb_inW4 97 rfl rfl), (fb_inWs 23 rfl rfl), by decide, _, _, rfl⟩
theorem ymX9_capital : fb_Ym yX9_capital cX9_capital 1 (some .boolean) 1 := ⟨(fb_inW4 36 rfl rfl), (fb_inW1 11 rfl rfl), by decide, by decide, by decide +kernel⟩
theorem ysX9_capital : Cond.static yX9_capital ∈ fb_W := (fb_inW4 35 rfl rfl)
theorem ymX9_clashes : fb_Ym yX9_clashes cX9_clashes 4 (some .boolean) 1 := ⟨(fb_inW4 58 rfl rfl), (fb_inW1 11 rfl rfl), by decide, by decide, by decide +kernel⟩
theorem yiX9_clashes : fb_Yi yX9_clashes 9 := ⟨(fb_inW4 57 rfl rfl), (fb_inWs 16 rfl rfl), by decide, _, _, rfl⟩
theorem ymX9_compare : fb_Ym yX9_compare cX9_compare 8 (some .int) 3 := ⟨(fb_inW4 224 rfl rfl), (fb_inW1 11 rfl rfl), by decide, by decide, by decide +kernel⟩
theorem yiX9_compare : fb_Yi yX9_compare 9 := ⟨(fb_inW4 223 rfl rfl), (fb_inWs 40 rfl rfl), by decide, _, _, rfl⟩
theorem ymX9_figure : fb_Ym yX9_figure cX9_figure 1 (some .boolean) 1 := ⟨(fb_inW4 42 rfl rfl), (fb_inW1 11 rfl rfl), by decide, by decide, by decide +kernel⟩
theorem ysX9_figure : Cond.static yX9_figure ∈ fb_W := (fb_inW4 41 rfl rfl)
theorem ymX9_fits : fb_Ym yX9_fits cX9_fits 8 (some .boolean) 2 := ⟨(fb_inW4 212 rfl rfl), (fb_inW1 11 rfl rfl), by decide, by decide, by decide +kernel⟩
theorem yiX9_fits : fb_Yi yX9_fits 9 := ⟨(fb_inW4 211 rfl rfl), (fb_inWs 37 rfl rfl), by decide, _, _, rfl⟩
theorem ymX9_holds : fb_Ym yX9_holds cX9_holds 9 (some .boolean) 4 := ⟨(fb_inW4 216 rfl rfl), (fb_inW1 11 rfl rfl), by decide, by decide, by decide +kernel⟩
theorem yiX9_holds : fb_Yi yX9_holds 9 := ⟨(fb_inW4 215 rfl rfl), (fb_inWs 38 rfl rfl), by decide, _, _, rfl⟩
theorem ymX9_isLeaf : fb_Ym yX9_isLeaf cX9_isLeaf 2 (some .boolean) 1 := ⟨(fb_inW4 180 rfl rfl), (fb_inW1 11 rfl rfl), by decide, by decide, by decide +kernel⟩
theorem yiX9_isLeaf : fb_Yi yX9_isLeaf 9 := ⟨(fb_inW4 179 rfl rfl), (fb_inWs 34 rfl rfl), by decide, _, _, rfl⟩
theorem ymX9_isPath : fb_Ym yX9_isPath cX9_isPath 6 (some .boolean) 0 := ⟨(fb_inW4 54 rfl rfl), (fb_inW1 11 rfl rfl), by decide, by decide, by decide +kernel⟩
theorem yiX9_isPath : fb_Yi yX9_isPath 9 := ⟨(fb_inW4 53 rfl rfl), (fb_inWs 15 rfl rfl), by decide, _, _, rfl⟩
theorem ymX9_keepFinder : fb_Ym yX9_keepFinder cX9_keepFinder 5 none 3 := ⟨(fb_inW4 157 rfl rfl), (fb_inW1 11 rfl rfl), by decide, by decide, by decide +kernel⟩
theorem yiX9_keepFinder : fb_Yi yX9_keepFinder 9 := ⟨(fb_inW4 156 rfl rfl), (fb_inWs 32 rfl rfl), by decide, _, _, rfl⟩
theorem ymX9_keywordStart : fb_Ym yX9_keywordStart cX9_keywordStart 5 (some .int) 3 := ⟨(fb_inW4 132 rfl rfl), (fb_inW1 11 rfl rfl), by decide, by decide, by decide +kernel⟩
theorem yiX9_keywordStart : fb_Yi yX9_keywordStart 9 := ⟨(fb_inW4 131 rfl rfl), (fb_inWs 29 rfl rfl), by decide, _, _, rfl⟩
theorem ymX9_leafOf : fb_Ym yX9_leafOf cX9_leafOf 6 (some .int) 2 := ⟨(fb_inW4 66 rfl rfl), (fb_inW1 11 rfl rfl), by decide, by decide, by decide +kernel⟩
theorem yiX9_leafOf : fb_Yi yX9_leafOf 9 := ⟨(fb_inW4 65 rfl rfl), (fb_inWs 17 rfl rfl), by decide, _, _, rfl⟩
theorem ymX9_letters : fb_Ym yX9_letters cX9_letters 5 (some .int) 1 := ⟨(fb_inW4 94 rfl rfl), (fb_inW1 11 rfl rfl), by decide, by decide, by decide +kernel⟩
theorem ysX9_letters : Cond.static yX9_letters ∈ fb_W := (fb_inW4 93 rfl rfl)
theorem ymX9_nameLength : fb_Ym yX9_nameLength cX9_nameLength 7 (some .int) 2 := ⟨(fb_inW4 78 rfl rfl), (fb_inW1 11 rfl rfl), by decide, by decide, by decide +kernel⟩
theorem yiX9_nameLength : fb_Yi yX9_nameLength 9 := ⟨(fb_inW4 77 rfl rfl), (fb_inWs 20 rfl rfl), by decide, _, _, rfl⟩
theorem ymX9_place : fb_Ym yX9_place cX9_place 3 (some .int) 1 := ⟨(fb_inW4 192 rfl rfl), (fb_inW1 11 rfl rfl), by decide, by decide, by decide +kernel⟩
theorem yiX9_place : fb_Yi yX9_place 9 := ⟨(fb_inW4 191 rfl rfl), (fb_inWs 35 rfl rfl), by decide, _, _, rfl⟩
theorem ymX9_rank : fb_Ym yX9_rank cX9_rank 6 (some .int) 2 := ⟨(fb_inW4 220 rfl rfl), (fb_inW1 11 rfl rfl), by decide, by decide, by decide +kernel⟩
theorem yiX9_rank : fb_Yi yX9_rank 9 := ⟨(fb_inW4 219 rfl rfl), (fb_inWs 39 rfl rfl), by decide, _, _, rfl⟩
theorem ymX9_readPart : fb_Ym yX9_readPart cX9_readPart 10 (some .int) 2 := ⟨(fb_inW4 128 rfl rfl), (fb_inW1 11 rfl rfl), by decide, by decide, by decide +kernel⟩
theorem yiX9_readPart : fb_Yi yX9_readPart 9 := ⟨(fb_inW4 127 rfl rfl), (fb_inWs 28 rfl rfl), by decide, _, _, rfl⟩
theorem ymX9_readRest : fb_Ym yX9_readRest cX9_readRest 3 none 1 := ⟨(fb_inW4 109 rfl rfl), (fb_inW1 11 rfl rfl), by decide, by decide, by decide +kernel⟩
theorem yiX9_readRest : fb_Yi yX9_readRest 9 := ⟨(fb_inW4 108 rfl rfl), (fb_inWs 24 rfl rfl), by decide, _, _, rfl⟩
theorem ymX9_removeAt : fb_Ym yX9_removeAt cX9_removeAt 4 none 1 := ⟨(fb_inW4 200 rfl rfl), (fb_inW1 11 rfl rfl), by decide, by decide, by decide +kernel⟩
theorem yiX9_removeAt : fb_Yi yX9_removeAt 9 := ⟨(fb_inW4 199 rfl rfl), (fb_inWs 36 rfl rfl), by decide, _, _, rfl⟩
theorem ymX9_small : fb_Ym yX9_small cX9_small 1 (some .boolean) 1 := ⟨(fb_inW4 39 rfl rfl), (fb_inW1 11 rfl rfl), by decide, by decide, by decide +kernel⟩
theorem ysX9_small : Cond.static yX9_small ∈ fb_W := (fb_inW4 38 rfl rfl)
theorem ymX9_spells : fb_Ym yX9_spells cX9_spells 9 (some .boolean) 3 := ⟨(fb_inW4 70 rfl rfl), (fb_inW1 11 rfl rfl), by decide, by decide, by decide +kernel⟩
theorem yiX9_spells : fb_Yi yX9_spells 9 := ⟨(fb_inW4 69 rfl rfl), (fb_inWs 18 rfl rfl), by decide, _, _, rfl⟩
theorem ymX9_stands : fb_Ym yX9_stands cX9_stands 6 (some .boolean) 3 := ⟨(fb_inW4 91 rfl rfl), (fb_inW1 11 rfl rfl), by decide, by decide, by decide +kernel⟩
theorem yiX9_stands : fb_Yi yX9_stands 9 := ⟨(fb_inW4 90 rfl rfl), (fb_inWs 22 rfl rfl), by decide, _, _, rfl⟩
theorem ymX9_subjectOf : fb_Ym yX9_subjectOf cX9_subjectOf 1 (some .int) 0 := ⟨(fb_inW4 86 rfl rfl), (fb_inW1 11 rfl rfl), by decide, by decide, by decide +kernel⟩
theorem yiX9_subjectOf : fb_Yi yX9_subjectOf 9 := ⟨(fb_inW4 85 rfl rfl), (fb_inWs 21 rfl rfl), by decide, _, _, rfl⟩
theorem ymX9_takeAlternative : fb_Ym yX9_takeAlternative cX9_takeAlternative 5 none 2 := ⟨(fb_inW4 119 rfl rfl), (fb_inW1 11 rfl rfl), by decide, by decide, by decide +kernel⟩
theorem yiX9_takeAlternative : fb_Yi yX9_takeAlternative 9 := ⟨(fb_inW4 118 rfl rfl), (fb_inWs 26 rfl rfl), by decide, _, _, rfl⟩
theorem ymX9_takeCondition : fb_Ym yX9_takeCondition cX9_takeCondition 5 none 2 := ⟨(fb_inW4 114 rfl rfl), (fb_inW1 11 rfl rfl), by decide, by decide, by decide +kernel⟩
theorem yiX9_takeCondition : fb_Yi yX9_takeCondition 9 := ⟨(fb_inW4 113 rfl rfl), (fb_inWs 25 rfl rfl), by decide, _, _, rfl⟩
theorem ymX9_takeOrder : fb_Ym yX9_takeOrder cX9_takeOrder 6 none 2 := ⟨(fb_inW4 153 rfl rfl), (fb_inW1 11 rfl rfl), by decide, by decide, by decide +kernel⟩
theorem yiX9_takeOrder : fb_Yi yX9_takeOrder 9 := ⟨(fb_inW4 152 rfl rfl), (fb_inWs 31 rfl rfl), by decide, _, _, rfl⟩
theorem ymX9_takeOrders : fb_Ym yX9_takeOrders cX9_takeOrders 6 none 2 := ⟨(fb_inW4 147 rfl rfl), (fb_inW1 11 rfl rfl), by decide, by decide, by decide +kernel⟩
theorem yiX9_takeOrders : fb_Yi yX9_takeOrders 9 := ⟨(fb_inW4 146 rfl rfl), (fb_inWs 30 rfl rfl), by decide, _, _, rfl⟩
theorem ymX9_takePart : fb_Ym yX9_takePart cX9_takePart 4 none 2 := ⟨(fb_inW4 124 rfl rfl), (fb_inW1 11 rfl rfl), by decide, by decide, by decide +kernel⟩
theorem yiX9_takePart : fb_Yi yX9_takePart 9 := ⟨(fb_inW4 123 rfl rfl), (fb_inWs 27 rfl rfl), by decide, _, _, rfl⟩
theorem ymX9_takes : fb_Ym yX9_takes cX9_takes 1 (some .int) 1 := ⟨(fb_inW4 168 rfl rfl), (fb_inW1 11 rfl rfl), by decide, by decide, by decide +kernel⟩
theorem ysX9_takes : Cond.static yX9_takes ∈ fb_W := (fb_inW4 167 rfl rfl)
theorem ymX9_takesAll : fb_Ym yX9_takesAll cX9_takesAll 4 (some .int) 1 := ⟨(fb_inW4 165 rfl rfl), (fb_inW1 11 rfl rfl), by decide, by decide, by decide +kernel⟩
theorem yiX9_takesAll : fb_Yi yX9_takesAll 9 := ⟨(fb_inW4 164 rfl rfl), (fb_inWs 33 rfl rfl), by decide, _, _, rfl⟩
theorem ylX0_13 : fb_Yl RX0 13 yX8_isLetterOrFigure := Or.inr ⟨"FinderBook", (fb_inN2 1 rfl rfl)⟩
theorem ylX0_23 : fb_Yl RX0 23 yX8_isSmall := Or.inr ⟨"FinderBook", (fb_inN2 29 rfl rfl)⟩
theorem ylX0_28 : fb_Yl RX0 28 yJ_length := Or.inl (fb_inW2 110 rfl rfl)
theorem ylX0_33 : fb_Yl RX0 33 yJ_charAt := Or.inl (fb_inW2 120 rfl rfl)
theorem ylX0_37 : fb_Yl RX0 37 yX0_startsWith := Or.inl (fb_inW2 173 rfl rfl)
theorem ylX0_41 : fb_Yl RX0 41 yX0_at := Or.inl (fb_inW2 183 rfl rfl)
theorem ylX0_44 : fb_Yl RX0 44 yX8_isCapital := Or.inr ⟨"FinderBook", (fb_inN2 184 rfl rfl)⟩
theorem ylX10_35 : fb_Yl RX10 35 yJ_length := Or.inl (fb_inW2 198 rfl rfl)
theorem ylX10_41 : fb_Yl RX10 41 yX0_startsWith := Or.inl (fb_inW2 199 rfl rfl)
theorem ylX10_49 : fb_Yl RX10 49 yX10_word := Or.inl (fb_inW2 201 rfl rfl)
theorem ylX2_51 : fb_Yl RX2 51 yX10_argumentsTaken := Or.inl (fb_inW2 220 rfl rfl)
theorem ylX2_56 : fb_Yl RX2 56 yX2_argumentAt := Or.inl (fb_inW3 94 rfl rfl)
theorem ylX2_66 : fb_Yl RX2 66 yX10_holds := Or.inl (fb_inW3 97 rfl rfl)
theorem ylX2_70 : fb_Yl RX2 70 yX1_sortKey := Or.inl (fb_inW3 109 rfl rfl)
theorem ylX3_103 : fb_Yl RX3 103 yX0_isCutAt := Or.inl (fb_inW2 179 rfl rfl)
theorem ylX3_106 : fb_Yl RX3 106 yX3_readAlternative := Or.inl (fb_inW2 185 rfl rfl)
theorem ylX3_114 : fb_Yl RX3 114 yX3_readPart := Or.inl (fb_inW2 190 rfl rfl)
theorem ylX3_117 : fb_Yl RX3 117 yX10_numberOf := Or.inl (fb_inW2 194 rfl rfl)
theorem ylX3_123 : fb_Yl RX3 123 yX6_named := Or.inl (fb_inW2 215 rfl rfl)
theorem ylX3_128 : fb_Yl RX3 128 yX2_addPart := Or.inl (fb_inW2 216 rfl rfl)
theorem ylX3_132 : fb_Yl RX3 132 yX8_isCapital := Or.inr ⟨"FinderBook", (fb_inN2 227 rfl rfl)⟩
theorem ylX3_135 : fb_Yl RX3 135 yX3_endsWithDirection := Or.inl (fb_inW2 228 rfl rfl)
theorem ylX3_139 : fb_Yl RX3 139 yX3_readOrder := Or.inl (fb_inW2 238 rfl rfl)
theorem ylX3_144 : fb_Yl RX3 144 yX0_endsWith := Or.inl (fb_inW2 233 rfl rfl)
theorem ylX3_149 : fb_Yl RX3 149 yX2_addOrder := Or.inl (fb_inW3 2 rfl rfl)
theorem ylX3_19 : fb_Yl RX3 19 yX2_clear := Or.inl (fb_inW2 86 rfl rfl)
theorem ylX3_28 : fb_Yl RX3 28 yX3_readSubject := Or.inl (fb_inW2 90 rfl rfl)
theorem ylX3_32 : fb_Yl RX3 32 yX3_readLimit := Or.inl (fb_inW2 159 rfl rfl)
theorem ylX3_37 : fb_Yl RX3 37 yX3_skip := Or.inl (fb_inW2 101 rfl rfl)
theorem ylX3_41 : fb_Yl RX3 41 yX0_length := Or.inl (fb_inW2 105 rfl rfl)
theorem ylX3_49 : fb_Yl RX3 49 yX0_placeOf := Or.inl (fb_inW2 169 rfl rfl)
theorem ylX3_53 : fb_Yl RX3 53 yX3_readCondition := Or.inl (fb_inW2 174 rfl rfl)
theorem ylX3_57 : fb_Yl RX3 57 yJ_length := Or.inl (fb_inW2 158 rfl rfl)
theorem ylX3_60 : fb_Yl RX3 60 yX3_readOrders := Or.inl (fb_inW2 223 rfl rfl)
theorem ylX3_63 : fb_Yl RX3 63 yX2_isTooLong := Or.inl (fb_inW3 6 rfl rfl)
theorem ylX3_67 : fb_Yl RX3 67 yX0_startsWith := Or.inl (fb_inW2 106 rfl rfl)
theorem ylX3_71 : fb_Yl RX3 71 yX3_subjectWord := Or.inl (fb_inW2 94 rfl rfl)
theorem ylX3_90 : fb_Yl RX3 90 yX0_at := Or.inl (fb_inW2 165 rfl rfl)
theorem ylX3_94 : fb_Yl RX3 94 yX8_isFigure := Or.inr ⟨"FinderBook", (fb_inN2 166 rfl rfl)⟩
theorem ylX4_21 : fb_Yl RX4 21 yX7_count := Or.inl (fb_inW3 82 rfl rfl)
theorem ylX4_24 : fb_Yl RX4 24 yX7_at := Or.inl (fb_inW3 86 rfl rfl)
theorem ylX4_28 : fb_Yl RX4 28 yX2_fits := Or.inl (fb_inW3 90 rfl rfl)
theorem ylX4_34 : fb_Yl RX4 34 yX4_insert := Or.inl (fb_inW3 101 rfl rfl)
theorem ylX4_41 : fb_Yl RX4 41 yX2_putsBefore := Or.inl (fb_inW3 105 rfl rfl)
theorem ylX5_15 : fb_Yl RX5 15 yX0_length := Or.inl (fb_inW2 38 rfl rfl)
theorem ylX5_28 : fb_Yl RX5 28 yX0_at := Or.inl (fb_inW2 45 rfl rfl)
theorem ylX5_32 : fb_Yl RX5 32 yX5_nameLength := Or.inl (fb_inW2 57 rfl rfl)
theorem ylX6_20 : fb_Yl RX6 20 yX5_clashesWith := Or.inl (fb_inW2 34 rfl rfl)
theorem ylX6_24 : fb_Yl RX6 24 yX5_setPath := Or.inl (fb_inW2 53 rfl rfl)
theorem ylX6_34 : fb_Yl RX6 34 yX5_isSpelledBy := Or.inl (fb_inW2 70 rfl rfl)
theorem ylX6_38 : fb_Yl RX6 38 yX5_goesBefore := Or.inl (fb_inW2 74 rfl rfl)
theorem ylX7_23 : fb_Yl RX7 23 yX7_placeOf := Or.inl (fb_inW3 55 rfl rfl)
theorem ylX8_103 : fb_Yl RX8 103 yX3_read := Or.inl (fb_inW2 82 rfl rfl)
theorem ylX8_114 : fb_Yl RX8 114 yX8_isFinder := Or.inl (fb_inW3 15 rfl rfl)
theorem ylX8_118 : fb_Yl RX8 118 yX2_measure := Or.inl (fb_inW3 19 rfl rfl)
theorem ylX8_122 : fb_Yl RX8 122 yX2_partCode := Or.inl (fb_inW3 27 rfl rfl)
theorem ylX8_125 : fb_Yl RX8 125 yX8_enter := Or.inl (fb_inW3 35 rfl rfl)
theorem ylX8_129 : fb_Yl RX8 129 yX7_put := Or.inl (fb_inW3 51 rfl rfl)
theorem ylX8_133 : fb_Yl RX8 133 yX7_drop := Or.inl (fb_inW3 66 rfl rfl)
theorem ylX8_145 : fb_Yl RX8 145 yX4_gather := Or.inl (fb_inW3 78 rfl rfl)
theorem ylX8_152 : fb_Yl RX8 152 yX8_deleteFinding := Or.inl (fb_inW3 115 rfl rfl)
theorem ylX8_155 : fb_Yl RX8 155 yX8_keepFinding := Or.inl (fb_inW3 119 rfl rfl)
theorem ylX8_159 : fb_Yl RX8 159 yX7_placeOf := Or.inl (fb_inW3 135 rfl rfl)
theorem ylX8_162 : fb_Yl RX8 162 yX6_has := Or.inl (fb_inW3 39 rfl rfl)
theorem ylX8_165 : fb_Yl RX8 165 yX7_at := Or.inl (fb_inW3 136 rfl rfl)
theorem ylX8_176 : fb_Yl RX8 176 yX7_count := Or.inl (fb_inW3 142 rfl rfl)
theorem ylX8_185 : fb_Yl RX8 185 yX8_isCapital := Or.inl (fb_inW2 4 rfl rfl)
theorem ylX8_188 : fb_Yl RX8 188 yX8_isSmall := Or.inl (fb_inW2 7 rfl rfl)
theorem ylX8_191 : fb_Yl RX8 191 yX8_isFigure := Or.inl (fb_inW2 10 rfl rfl)
theorem ylX8_72 : fb_Yl RX8 72 yX0_append := Or.inl (fb_inW1 237 rfl rfl)
theorem ylX8_76 : fb_Yl RX8 76 yX0_clear := Or.inl (fb_inW2 17 rfl rfl)
theorem ylX8_79 : fb_Yl RX8 79 yX0_isPath := Or.inl (fb_inW2 25 rfl rfl)
theorem ylX8_83 : fb_Yl RX8 83 yX6_clashWith := Or.inl (fb_inW2 30 rfl rfl)
theorem ylX8_87 : fb_Yl RX8 87 yX6_add := Or.inl (fb_inW2 49 rfl rfl)
theorem ylX8_91 : fb_Yl RX8 91 yX0_length := Or.inl (fb_inW2 65 rfl rfl)
theorem ylX8_95 : fb_Yl RX8 95 yX6_named := Or.inl (fb_inW2 66 rfl rfl)
theorem ylX9_105 : fb_Yl RX9 105 yX9_letters := Or.inl (fb_inW4 92 rfl rfl)
theorem ylX9_109 : fb_Yl RX9 109 yX9_before := Or.inl (fb_inW4 95 rfl rfl)
theorem ylX9_113 : fb_Yl RX9 113 yX9_capital := Or.inl (fb_inW4 34 rfl rfl)
theorem ylX9_117 : fb_Yl RX9 117 yX9_small := Or.inl (fb_inW4 37 rfl rfl)
theorem ylX9_120 : fb_Yl RX9 120 yX9_figure := Or.inl (fb_inW4 40 rfl rfl)
theorem ylX9_123 : fb_Yl RX9 123 yX9_isPath := Or.inl (fb_inW4 51 rfl rfl)
theorem ylX9_130 : fb_Yl RX9 130 yX9_clashes := Or.inl (fb_inW4 55 rfl rfl)
theorem ylX9_133 : fb_Yl RX9 133 yX9_spells := Or.inl (fb_inW4 67 rfl rfl)
theorem ylX9_137 : fb_Yl RX9 137 yX9_nameLength := Or.inl (fb_inW4 75 rfl rfl)
theorem ylX9_141 : fb_Yl RX9 141 yX9_leafOf := Or.inl (fb_inW4 63 rfl rfl)
theorem ylX9_164 : fb_Yl RX9 164 yX9_keywordStart := Or.inl (fb_inW4 129 rfl rfl)
theorem ylX9_173 : fb_Yl RX9 173 yX9_readPart := Or.inl (fb_inW4 125 rfl rfl)
theorem ylX9_188 : fb_Yl RX9 188 yX9_stands := Or.inl (fb_inW4 88 rfl rfl)
theorem ylX9_192 : fb_Yl RX9 192 yX9_takePart := Or.inl (fb_inW4 121 rfl rfl)
theorem ylX9_198 : fb_Yl RX9 198 yX9_takeAlternative := Or.inl (fb_inW4 116 rfl rfl)
theorem ylX9_211 : fb_Yl RX9 211 yX9_takeOrder := Or.inl (fb_inW4 150 rfl rfl)
theorem ylX9_224 : fb_Yl RX9 224 yX9_takeCondition := Or.inl (fb_inW4 111 rfl rfl)
theorem ylX9_227 : fb_Yl RX9 227 yX9_takeOrders := Or.inl (fb_inW4 144 rfl rfl)
theorem ylX9_230 : fb_Yl RX9 230 yX9_subjectOf := Or.inl (fb_inW4 83 rfl rfl)
theorem ylX9_240 : fb_Yl RX9 240 yX9_readRest := Or.inl (fb_inW4 106 rfl rfl)
theorem ylX9_247 : fb_Yl RX9 247 yX9_keepFinder := Or.inl (fb_inW4 154 rfl rfl)
theorem ylX9_251 : fb_Yl RX9 251 yX9_takes := Or.inl (fb_inW4 166 rfl rfl)
theorem ylX9_254 : fb_Yl RX9 254 yX9_takesAll := Or.inl (fb_inW4 162 rfl rfl)
theorem ylX9_257 : fb_Yl RX9 257 yX9_isLeaf := Or.inl (fb_inW4 177 rfl rfl)
theorem ylX9_263 : fb_Yl RX9 263 yX9_place := Or.inl (fb_inW4 189 rfl rfl)
theorem ylX9_266 : fb_Yl RX9 266 yX9_removeAt := Or.inl (fb_inW4 197 rfl rfl)
theorem ylX9_272 : fb_Yl RX9 272 yX9_holds := Or.inl (fb_inW4 213 rfl rfl)
theorem ylX9_276 : fb_Yl RX9 276 yX9_compare := Or.inl (fb_inW4 221 rfl rfl)
theorem ylX9_279 : fb_Yl RX9 279 yX9_fits := Or.inl (fb_inW4 209 rfl rfl)
theorem ylX9_283 : fb_Yl RX9 283 yX9_rank := Or.inl (fb_inW4 217 rfl rfl)
theorem ylX9_99 : fb_Yl RX9 99 yX9_at := Or.inl (fb_inW4 71 rfl rfl)
theorem ywX5_19 : Cond.methodLink RX5 19 Lib.Math.min.name ∈ fb_W := (fb_inW2 42 rfl rfl)
theorem ywX7_31 : Cond.methodLink RX7 31 arraycopyName ∈ fb_W := (fb_inW3 59 rfl rfl)
theorem min_w1 : Cond.static Lib.Math.min.name ∈ fb_W := (fb_inW2 43 rfl rfl)
theorem min_w2 : Cond.initialized "java/lang/Math" ∈ fb_W := (fb_inW1 12 rfl rfl)
theorem min_w3 : Cond.code Lib.Math.min.name Lib.Math.min.code 2 (some .int) ∈ fb_W := (fb_inW2 44 rfl rfl)
theorem copy_w1 : Cond.native arraycopyName ∈ fb_W := (fb_inW3 61 rfl rfl)
theorem copy_w2 : Cond.static arraycopyName ∈ fb_W := (fb_inW3 60 rfl rfl)
theorem copy_w3 : Cond.initialized "java/lang/System" ∈ fb_W := (fb_inW1 18 rfl rfl)
theorem ymJ_length : fb_Ym yJ_length cJ_length 1 (some .int) 0 := ⟨(fb_inW2 113 rfl rfl), (fb_inW1 13 rfl rfl), by decide, by decide, by decide +kernel⟩
theorem yiJ_length : Cond.instanceMethod yJ_length ∈ fb_W ∧ Cond.selects "java/lang/String" yJ_length yJ_length ∈ fb_W := ⟨(fb_inW2 111 rfl rfl), (fb_inW2 112 rfl rfl)⟩
theorem ymJ_charAt : fb_Ym yJ_charAt cJ_charAt 2 (some .char) 1 := ⟨(fb_inW2 123 rfl rfl), (fb_inW1 13 rfl rfl), by decide, by decide, by decide +kernel⟩
theorem yiJ_charAt : Cond.instanceMethod yJ_charAt ∈ fb_W ∧ Cond.selects "java/lang/String" yJ_charAt yJ_charAt ∈ fb_W := ⟨(fb_inW2 121 rfl rfl), (fb_inW2 122 rfl rfl)⟩
