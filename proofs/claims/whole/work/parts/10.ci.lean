/-! ===== the classes, by their numbers ===== -/
theorem inW0 : ∀ w ∈ u_ws RX0 TX0 6, w ∈ WL := by
  intro w hw
  obtain ⟨k, hk, rfl⟩ := List.mem_map.mp hw
  have hk2 := List.mem_range.mp hk
  rcases (show k = 0 ∨ k = 1 ∨ k = 2 ∨ k = 3 ∨ k = 4 ∨ k = 5 by omega) with rfl | rfl | rfl | rfl | rfl | rfl
  · exact m173
  · exact m175
  · exact m177
  · exact m179
  · exact m181
  · exact m183
theorem ciX0 : CI 0 RX0 TX0 6 tyX0 := ⟨rfl, inW0, tyX0_ok, nmX0⟩
theorem inW1 : ∀ w ∈ u_ws RX1 TX1 2, w ∈ WL := by
  intro w hw
  obtain ⟨k, hk, rfl⟩ := List.mem_map.mp hw
  have hk2 := List.mem_range.mp hk
  rcases (show k = 0 ∨ k = 1 by omega) with rfl | rfl
  · exact m234
  · exact m236
theorem ciX1 : CI 1 RX1 TX1 2 tyX1 := ⟨rfl, inW1, tyX1_ok, nmX1⟩
theorem inW2 : ∀ w ∈ u_ws RX2 TX2 15, w ∈ WL := by
  intro w hw
  obtain ⟨k, hk, rfl⟩ := List.mem_map.mp hw
  have hk2 := List.mem_range.mp hk
  rcases (show k = 0 ∨ k = 1 ∨ k = 2 ∨ k = 3 ∨ k = 4 ∨ k = 5 ∨ k = 6 ∨ k = 7 ∨ k = 8 ∨ k = 9 ∨ k = 10 ∨ k = 11 ∨ k = 12 ∨ k = 13 ∨ k = 14 by omega) with rfl | rfl | rfl | rfl | rfl | rfl | rfl | rfl | rfl | rfl | rfl | rfl | rfl | rfl | rfl
  · exact m121
  · exact m123
  · exact m125
  · exact m127
  · exact m129
  · exact m131
  · exact m133
  · exact m135
  · exact m137
  · exact m139
  · exact m141
  · exact m143
  · exact m145
  · exact m147
  · exact m149
theorem ciX2 : CI 2 RX2 TX2 15 tyX2 := ⟨rfl, inW2, tyX2_ok, nmX2⟩
theorem inW3 : ∀ w ∈ u_ws RX3 TX3 11, w ∈ WL := by
  intro w hw
  obtain ⟨k, hk, rfl⟩ := List.mem_map.mp hw
  have hk2 := List.mem_range.mp hk
  rcases (show k = 0 ∨ k = 1 ∨ k = 2 ∨ k = 3 ∨ k = 4 ∨ k = 5 ∨ k = 6 ∨ k = 7 ∨ k = 8 ∨ k = 9 ∨ k = 10 by omega) with rfl | rfl | rfl | rfl | rfl | rfl | rfl | rfl | rfl | rfl | rfl
  · exact m203
  · exact m205
  · exact m207
  · exact m209
  · exact m211
  · exact m213
  · exact m215
  · exact m217
  · exact m219
  · exact m221
  · exact m223
theorem ciX3 : CI 3 RX3 TX3 11 tyX3 := ⟨rfl, inW3, tyX3_ok, nmX3⟩
theorem inW4 : ∀ w ∈ u_ws RX4 TX4 2, w ∈ WL := by
  intro w hw
  obtain ⟨k, hk, rfl⟩ := List.mem_map.mp hw
  have hk2 := List.mem_range.mp hk
  rcases (show k = 0 ∨ k = 1 by omega) with rfl | rfl
  · exact m154
  · exact m156
theorem ciX4 : CI 4 RX4 TX4 2 tyX4 := ⟨rfl, inW4, tyX4_ok, nmX4⟩
theorem inW5 : ∀ w ∈ u_ws RX5 TX5 3, w ∈ WL := by
  intro w hw
  obtain ⟨k, hk, rfl⟩ := List.mem_map.mp hw
  have hk2 := List.mem_range.mp hk
  rcases (show k = 0 ∨ k = 1 ∨ k = 2 by omega) with rfl | rfl | rfl
  · exact m35
  · exact m37
  · exact m39
theorem ciX5 : CI 5 RX5 TX5 3 tyX5 := ⟨rfl, inW5, tyX5_ok, nmX5⟩
theorem inW6 : ∀ w ∈ u_ws RX6 TX6 5, w ∈ WL := by
  intro w hw
  obtain ⟨k, hk, rfl⟩ := List.mem_map.mp hw
  have hk2 := List.mem_range.mp hk
  rcases (show k = 0 ∨ k = 1 ∨ k = 2 ∨ k = 3 ∨ k = 4 by omega) with rfl | rfl | rfl | rfl | rfl
  · exact m54
  · exact m56
  · exact m58
  · exact m60
  · exact m62
theorem ciX6 : CI 6 RX6 TX6 5 tyX6 := ⟨rfl, inW6, tyX6_ok, nmX6⟩
theorem inW7 : ∀ w ∈ u_ws RX7 TX7 11, w ∈ WL := by
  intro w hw
  obtain ⟨k, hk, rfl⟩ := List.mem_map.mp hw
  have hk2 := List.mem_range.mp hk
  rcases (show k = 0 ∨ k = 1 ∨ k = 2 ∨ k = 3 ∨ k = 4 ∨ k = 5 ∨ k = 6 ∨ k = 7 ∨ k = 8 ∨ k = 9 ∨ k = 10 by omega) with rfl | rfl | rfl | rfl | rfl | rfl | rfl | rfl | rfl | rfl | rfl
  · exact m250
  · exact m252
  · exact m254
  · exact m256
  · exact m258
  · exact m260
  · exact m262
  · exact m264
  · exact m266
  · exact m268
  · exact m270
theorem ciX7 : CI 7 RX7 TX7 11 tyX7 := ⟨rfl, inW7, tyX7_ok, nmX7⟩
theorem inW8 : ∀ w ∈ u_ws RX8 TX8 34, w ∈ WL := by
  intro w hw
  obtain ⟨k, hk, rfl⟩ := List.mem_map.mp hw
  have hk2 := List.mem_range.mp hk
  rcases (show k = 0 ∨ k = 1 ∨ k = 2 ∨ k = 3 ∨ k = 4 ∨ k = 5 ∨ k = 6 ∨ k = 7 ∨ k = 8 ∨ k = 9 ∨ k = 10 ∨ k = 11 ∨ k = 12 ∨ k = 13 ∨ k = 14 ∨ k = 15 ∨ k = 16 ∨ k = 17 ∨ k = 18 ∨ k = 19 ∨ k = 20 ∨ k = 21 ∨ k = 22 ∨ k = 23 ∨ k = 24 ∨ k = 25 ∨ k = 26 ∨ k = 27 ∨ k = 28 ∨ k = 29 ∨ k = 30 ∨ k = 31 ∨ k = 32 ∨ k = 33 by omega) with rfl | rfl | rfl | rfl | rfl | rfl | rfl | rfl | rfl | rfl | rfl | rfl | rfl | rfl | rfl | rfl | rfl | rfl | rfl | rfl | rfl | rfl | rfl | rfl | rfl | rfl | rfl | rfl | rfl | rfl | rfl | rfl | rfl | rfl
  · exact m927
  · exact m929
  · exact m931
  · exact m933
  · exact m935
  · exact m937
  · exact m939
  · exact m941
  · exact m943
  · exact m945
  · exact m947
  · exact m949
  · exact m951
  · exact m953
  · exact m955
  · exact m957
  · exact m959
  · exact m961
  · exact m963
  · exact m965
  · exact m967
  · exact m969
  · exact m971
  · exact m973
  · exact m975
  · exact m977
  · exact m979
  · exact m981
  · exact m983
  · exact m985
  · exact m987
  · exact m989
  · exact m991
  · exact m993
theorem ciX8 : CI 8 RX8 TX8 34 tyX8 := ⟨rfl, inW8, tyX8_ok, nmX8⟩
