theorem k_code_170_0 : k_some 170 0 1 = true := by decide +kernel
theorem k_code_170_1 : k_some 170 1 1 = true := by decide +kernel
theorem k_code_170_2 : k_some 170 2 1 = true := by decide +kernel
theorem k_code_170_3 : k_some 170 3 1 = true := by decide +kernel
theorem k_code_170_4 : k_some 170 4 1 = true := by decide +kernel
theorem k_code_170_5 : k_some 170 5 1 = true := by decide +kernel
theorem k_code_170_6 : k_some 170 6 1 = true := by decide +kernel
theorem k_code_170_7 : k_some 170 7 1 = true := by decide +kernel
theorem k_code_170_8 : k_some 170 8 4 = true := by decide +kernel
theorem k_code_170_12 : k_some 170 12 2 = true := by decide +kernel
theorem k_code_170 : k_code 170 = true := k_some_all [(0, 1), (1, 1), (2, 1), (3, 1), (4, 1), (5, 1), (6, 1), (7, 1), (8, 4), (12, 2)] (by
  intro q hq
  simp only [List.mem_cons, List.not_mem_nil, or_false] at hq
  rcases hq with rfl | rfl | rfl | rfl | rfl | rfl | rfl | rfl | rfl | rfl
  · exact k_code_170_0
  · exact k_code_170_1
  · exact k_code_170_2
  · exact k_code_170_3
  · exact k_code_170_4
  · exact k_code_170_5
  · exact k_code_170_6
  · exact k_code_170_7
  · exact k_code_170_8
  · exact k_code_170_12
) (by decide +kernel)
theorem k_code_308_0 : k_some 308 0 3 = true := by decide +kernel
theorem k_code_308_3 : k_some 308 3 2 = true := by decide +kernel
theorem k_code_308_5 : k_some 308 5 2 = true := by decide +kernel
theorem k_code_308_7 : k_some 308 7 2 = true := by decide +kernel
theorem k_code_308_9 : k_some 308 9 4 = true := by decide +kernel
theorem k_code_308_13 : k_some 308 13 4 = true := by decide +kernel
theorem k_code_308_17 : k_some 308 17 5 = true := by decide +kernel
theorem k_code_308_22 : k_some 308 22 4 = true := by decide +kernel
theorem k_code_308_26 : k_some 308 26 4 = true := by decide +kernel
theorem k_code_308_30 : k_some 308 30 4 = true := by decide +kernel
theorem k_code_308_34 : k_some 308 34 5 = true := by decide +kernel
theorem k_code_308_39 : k_some 308 39 3 = true := by decide +kernel
theorem k_code_308_42 : k_some 308 42 2 = true := by decide +kernel
theorem k_code_308_44 : k_some 308 44 2 = true := by decide +kernel
theorem k_code_308_46 : k_some 308 46 2 = true := by decide +kernel
theorem k_code_308_48 : k_some 308 48 3 = true := by decide +kernel
theorem k_code_308_51 : k_some 308 51 5 = true := by decide +kernel
theorem k_code_308 : k_code 308 = true := k_some_all [(0, 3), (3, 2), (5, 2), (7, 2), (9, 4), (13, 4), (17, 5), (22, 4), (26, 4), (30, 4), (34, 5), (39, 3), (42, 2), (44, 2), (46, 2), (48, 3), (51, 5)] (by
  intro q hq
  simp only [List.mem_cons, List.not_mem_nil, or_false] at hq
  rcases hq with rfl | rfl | rfl | rfl | rfl | rfl | rfl | rfl | rfl | rfl | rfl | rfl | rfl | rfl | rfl | rfl | rfl
  · exact k_code_308_0
  · exact k_code_308_3
  · exact k_code_308_5
  · exact k_code_308_7
  · exact k_code_308_9
  · exact k_code_308_13
  · exact k_code_308_17
  · exact k_code_308_22
  · exact k_code_308_26
  · exact k_code_308_30
  · exact k_code_308_34
  · exact k_code_308_39
  · exact k_code_308_42
  · exact k_code_308_44
  · exact k_code_308_46
  · exact k_code_308_48
  · exact k_code_308_51
) (by decide +kernel)
theorem k_code_all : ∀ c, c < 309 → k_code c = true := by
  intro c hc
  have key : ∀ a m, (List.range' a m).all k_code = true → a ≤ c → c < a + m → k_code c = true := fun a m h h1 h2 => List.all_eq_true.mp h c (List.mem_range'_1.mpr ⟨h1, h2⟩)
  by_cases h10 : c < 10
  · exact key 0 10 k_code_0 (by omega) (by omega)
  by_cases h19 : c < 19
  · exact key 10 9 k_code_10 (by omega) (by omega)
  by_cases h26 : c < 26
  · exact key 19 7 k_code_19 (by omega) (by omega)
  by_cases h36 : c < 36
  · exact key 26 10 k_code_26 (by omega) (by omega)
  by_cases h49 : c < 49
  · exact key 36 13 k_code_36 (by omega) (by omega)
  by_cases h60 : c < 60
  · exact key 49 11 k_code_49 (by omega) (by omega)
  by_cases h73 : c < 73
  · exact key 60 13 k_code_60 (by omega) (by omega)
  by_cases h85 : c < 85
  · exact key 73 12 k_code_73 (by omega) (by omega)
  by_cases h97 : c < 97
  · exact key 85 12 k_code_85 (by omega) (by omega)
  by_cases h106 : c < 106
  · exact key 97 9 k_code_97 (by omega) (by omega)
  by_cases h111 : c < 111
  · exact key 106 5 k_code_106 (by omega) (by omega)
  by_cases h122 : c < 122
  · exact key 111 11 k_code_111 (by omega) (by omega)
  by_cases h138 : c < 138
  · exact key 122 16 k_code_122 (by omega) (by omega)
  by_cases h154 : c < 154
  · exact key 138 16 k_code_138 (by omega) (by omega)
  by_cases h162 : c < 162
  · exact key 154 8 k_code_154 (by omega) (by omega)
  by_cases h170 : c < 170
  · exact key 162 8 k_code_162 (by omega) (by omega)
  by_cases h171 : c < 171
  · rw [show c = 170 by omega]; exact k_code_170
  by_cases h178 : c < 178
  · exact key 171 7 k_code_171 (by omega) (by omega)
  by_cases h188 : c < 188
  · exact key 178 10 k_code_178 (by omega) (by omega)
  by_cases h202 : c < 202
  · exact key 188 14 k_code_188 (by omega) (by omega)
  by_cases h212 : c < 212
  · exact key 202 10 k_code_202 (by omega) (by omega)
  by_cases h222 : c < 222
  · exact key 212 10 k_code_212 (by omega) (by omega)
  by_cases h235 : c < 235
  · exact key 222 13 k_code_222 (by omega) (by omega)
  by_cases h242 : c < 242
  · exact key 235 7 k_code_235 (by omega) (by omega)
  by_cases h251 : c < 251
  · exact key 242 9 k_code_242 (by omega) (by omega)
  by_cases h260 : c < 260
  · exact key 251 9 k_code_251 (by omega) (by omega)
  by_cases h267 : c < 267
  · exact key 260 7 k_code_260 (by omega) (by omega)
  by_cases h277 : c < 277
  · exact key 267 10 k_code_267 (by omega) (by omega)
  by_cases h285 : c < 285
  · exact key 277 8 k_code_277 (by omega) (by omega)
  by_cases h291 : c < 291
  · exact key 285 6 k_code_285 (by omega) (by omega)
  by_cases h301 : c < 301
  · exact key 291 10 k_code_291 (by omega) (by omega)
  by_cases h308 : c < 308
  · exact key 301 7 k_code_301 (by omega) (by omega)
  by_cases h309 : c < 309
  · rw [show c = 308 by omega]; exact k_code_308
  exact absurd hc h309
