/-! the constructors' links by program -/
theorem tk_0 : ∀ k, k < 5 → parseFieldDescriptor (F_0 k).2.2.1 = some (t_0 k) := by decide +kernel
theorem in_0 : Cond.instantiable R_0 5 ∈ g_T := g_Tm 118 (by decide +kernel) rfl
theorem ii_0 : Cond.initialized R_0 ∈ g_T := g_Tm 89 (by decide +kernel) rfl
theorem tk_1 : ∀ k, k < 4 → parseFieldDescriptor (F_1 k).2.2.1 = some (t_1 k) := by decide +kernel
theorem in_1 : Cond.instantiable R_1 4 ∈ g_T := g_Tm 126 (by decide +kernel) rfl
theorem ii_1 : Cond.initialized R_1 ∈ g_T := g_Tm 90 (by decide +kernel) rfl
theorem tk_2 : ∀ k, k < 13 → parseFieldDescriptor (F_2 k).2.2.1 = some (t_2 k) := by decide +kernel
theorem in_2 : Cond.instantiable R_2 13 ∈ g_T := g_Tm 147 (by decide +kernel) rfl
theorem ii_2 : Cond.initialized R_2 ∈ g_T := g_Tm 91 (by decide +kernel) rfl
theorem tk_3 : ∀ k, k < 5 → parseFieldDescriptor (F_3 k).2.2.1 = some (t_3 k) := by decide +kernel
theorem in_3 : Cond.instantiable R_3 5 ∈ g_T := g_Tm 155 (by decide +kernel) rfl
theorem ii_3 : Cond.initialized R_3 ∈ g_T := g_Tm 92 (by decide +kernel) rfl
theorem tk_4 : ∀ k, k < 2 → parseFieldDescriptor (F_4 k).2.2.1 = some (t_4 k) := by decide +kernel
theorem in_4 : Cond.instantiable R_4 2 ∈ g_T := g_Tm 177 (by decide +kernel) rfl
theorem ii_4 : Cond.initialized R_4 ∈ g_T := g_Tm 93 (by decide +kernel) rfl
theorem tk_5 : ∀ k, k < 2 → parseFieldDescriptor (F_5 k).2.2.1 = some (t_5 k) := by decide +kernel
theorem in_5 : Cond.instantiable R_5 2 ∈ g_T := g_Tm 192 (by decide +kernel) rfl
theorem ii_5 : Cond.initialized R_5 ∈ g_T := g_Tm 94 (by decide +kernel) rfl
theorem tk_6 : ∀ k, k < 7 → parseFieldDescriptor (F_6 k).2.2.1 = some (t_6 k) := by decide +kernel
theorem in_6 : Cond.instantiable R_6 7 ∈ g_T := g_Tm 207 (by decide +kernel) rfl
theorem ii_6 : Cond.initialized R_6 ∈ g_T := g_Tm 95 (by decide +kernel) rfl
theorem tk_7 : ∀ k, k < 8 → parseFieldDescriptor (F_7 k).2.2.1 = some (t_7 k) := by decide +kernel
theorem in_7 : Cond.instantiable R_7 8 ∈ g_T := g_Tm 239 (by decide +kernel) rfl
theorem ii_7 : Cond.initialized R_7 ∈ g_T := g_Tm 97 (by decide +kernel) rfl
theorem tk_8 : ∀ k, k < 4 → parseFieldDescriptor (F_8 k).2.2.1 = some (t_8 k) := by decide +kernel
theorem in_8 : Cond.instantiable R_8 4 ∈ g_T := g_Tm 277 (by decide +kernel) rfl
theorem ii_8 : Cond.initialized R_8 ∈ g_T := g_Tm 98 (by decide +kernel) rfl
theorem tk_9 : ∀ k, k < 8 → parseFieldDescriptor (F_9 k).2.2.1 = some (t_9 k) := by decide +kernel
theorem in_9 : Cond.instantiable R_9 8 ∈ g_T := g_Tm 348 (by decide +kernel) rfl
theorem ii_9 : Cond.initialized R_9 ∈ g_T := g_Tm 99 (by decide +kernel) rfl
theorem tk_10 : ∀ k, k < 12 → parseFieldDescriptor (F_10 k).2.2.1 = some (t_10 k) := by decide +kernel
theorem in_10 : Cond.instantiable R_10 12 ∈ g_T := g_Tm 383 (by decide +kernel) rfl
theorem ii_10 : Cond.initialized R_10 ∈ g_T := g_Tm 100 (by decide +kernel) rfl
theorem tk_11 : ∀ k, k < 3 → parseFieldDescriptor (F_11 k).2.2.1 = some (t_11 k) := by decide +kernel
theorem in_11 : Cond.instantiable R_11 3 ∈ g_T := g_Tm 434 (by decide +kernel) rfl
theorem ii_11 : Cond.initialized R_11 ∈ g_T := g_Tm 101 (by decide +kernel) rfl
theorem tk_12 : ∀ k, k < 55 → parseFieldDescriptor (F_12 k).2.2.1 = some (t_12 k) := by decide +kernel
theorem in_12 : Cond.instantiable R_12 55 ∈ g_T := g_Tm 1278 (by decide +kernel) rfl
theorem ii_12 : Cond.initialized R_12 ∈ g_T := g_Tm 102 (by decide +kernel) rfl
theorem cl_0_7 : Cond.classLink "BandPress" 7 R_1 ∈ g_T := g_Tm 125 (by decide +kernel) rfl
theorem cl_0_16 : Cond.classLink "BandPress" 16 R_2 ∈ g_T := g_Tm 146 (by decide +kernel) rfl
theorem cl_0_23 : Cond.classLink "BandPress" 23 R_9 ∈ g_T := g_Tm 347 (by decide +kernel) rfl
theorem cl_0_30 : Cond.classLink "BandPress" 30 R_10 ∈ g_T := g_Tm 382 (by decide +kernel) rfl
theorem cl_0_39 : Cond.classLink "BandPress" 39 R_11 ∈ g_T := g_Tm 433 (by decide +kernel) rfl
theorem cl_6_9 : Cond.classLink "BandPress$Job" 9 R_1 ∈ g_T := g_Tm 152 (by decide +kernel) rfl
theorem cl_6_18 : Cond.classLink "BandPress$Job" 18 R_3 ∈ g_T := g_Tm 154 (by decide +kernel) rfl
theorem cl_6_25 : Cond.classLink "BandPress$Job" 25 R_4 ∈ g_T := g_Tm 176 (by decide +kernel) rfl
theorem cl_6_32 : Cond.classLink "BandPress$Job" 32 R_5 ∈ g_T := g_Tm 191 (by decide +kernel) rfl
theorem cl_6_43 : Cond.classLink "BandPress$Job" 43 R_6 ∈ g_T := g_Tm 206 (by decide +kernel) rfl
theorem cl_6_50 : Cond.classLink "BandPress$Job" 50 R_7 ∈ g_T := g_Tm 238 (by decide +kernel) rfl
theorem cl_6_57 : Cond.classLink "BandPress$Job" 57 R_8 ∈ g_T := g_Tm 276 (by decide +kernel) rfl
theorem ay_0 : Cond.arrayClass .int ∈ g_T := g_Tm 145 (by decide +kernel) rfl
theorem ay_1 : Cond.arrayClass .boolean ∈ g_T := g_Tm 275 (by decide +kernel) rfl
theorem ay_3 : Cond.arrayClass .long ∈ g_T := g_Tm 190 (by decide +kernel) rfl
theorem oi_i : Cond.instanceMethod Lib.objectInit ∈ g_T := g_Tm 123 (by decide +kernel) rfl
theorem oi_c : Cond.code Lib.objectInit ⟨#[0xb1]⟩ 1 none ∈ g_T := g_Tm 124 (by decide +kernel) rfl
theorem oi_0_1 : Cond.methodLink "BandPress" 1 Lib.objectInit ∈ g_T := g_Tm 122 (by decide +kernel) rfl
theorem oi_7_3 : Cond.methodLink "BandPress$Calls" 3 Lib.objectInit ∈ g_T := g_Tm 159 (by decide +kernel) rfl
theorem oi_11_3 : Cond.methodLink "BandPress$Filler" 3 Lib.objectInit ∈ g_T := g_Tm 181 (by decide +kernel) rfl
theorem oi_6_3 : Cond.methodLink "BandPress$Job" 3 Lib.objectInit ∈ g_T := g_Tm 151 (by decide +kernel) rfl
theorem oi_5_3 : Cond.methodLink "BandPress$Machine" 3 Lib.objectInit ∈ g_T := g_Tm 387 (by decide +kernel) rfl
theorem oi_4_3 : Cond.methodLink "BandPress$Order" 3 Lib.objectInit ∈ g_T := g_Tm 352 (by decide +kernel) rfl
theorem oi_2_3 : Cond.methodLink "BandPress$Packer" 3 Lib.objectInit ∈ g_T := g_Tm 438 (by decide +kernel) rfl
theorem oi_1_3 : Cond.methodLink "BandPress$Pages" 3 Lib.objectInit ∈ g_T := g_Tm 281 (by decide +kernel) rfl
theorem oi_10_3 : Cond.methodLink "BandPress$Path" 3 Lib.objectInit ∈ g_T := g_Tm 243 (by decide +kernel) rfl
theorem oi_3_3 : Cond.methodLink "BandPress$Settings" 3 Lib.objectInit ∈ g_T := g_Tm 211 (by decide +kernel) rfl
theorem oi_8_3 : Cond.methodLink "BandPress$Text" 3 Lib.objectInit ∈ g_T := g_Tm 130 (by decide +kernel) rfl
theorem oi_9_3 : Cond.methodLink "BandPress$Values" 3 Lib.objectInit ∈ g_T := g_Tm 196 (by decide +kernel) rfl
theorem oi_15_1 : Cond.methodLink "BandPressModel" 1 Lib.objectInit ∈ g_T := g_Tm 1282 (by decide +kernel) rfl
theorem fq_0_10 : g_fp "BandPress" 10 0 0 true (.object "BandPress$Text") := ⟨R_0, F_0, 5, rfl, by decide, rfl, by decide +kernel, Or.inl (g_Tm 451 (by decide +kernel) rfl)⟩
theorem fr_0_10 : ∀ C T N, g_cl[0]? = some (C, T, N) → Cond.fieldLink "BandPress" 10 (T 0).1 (T 0).2.1 (T 0).2.2.1 ∈ g_T := by
  intro C T N h
  cases h
  exact g_Tm 451 (by decide +kernel) rfl
theorem fq_0_19 : g_fp "BandPress" 19 0 1 true (.object "BandPress$Job") := ⟨R_0, F_0, 5, rfl, by decide, rfl, by decide +kernel, Or.inl (g_Tm 452 (by decide +kernel) rfl)⟩
theorem fr_0_19 : ∀ C T N, g_cl[0]? = some (C, T, N) → Cond.fieldLink "BandPress" 19 (T 1).1 (T 1).2.1 (T 1).2.2.1 ∈ g_T := by
  intro C T N h
  cases h
  exact g_Tm 452 (by decide +kernel) rfl
theorem fq_0_26 : g_fp "BandPress" 26 0 2 true (.object "BandPress$Order") := ⟨R_0, F_0, 5, rfl, by decide, rfl, by decide +kernel, Or.inl (g_Tm 453 (by decide +kernel) rfl)⟩
theorem fr_0_26 : ∀ C T N, g_cl[0]? = some (C, T, N) → Cond.fieldLink "BandPress" 26 (T 2).1 (T 2).2.1 (T 2).2.2.1 ∈ g_T := by
  intro C T N h
  cases h
  exact g_Tm 453 (by decide +kernel) rfl
theorem fq_0_35 : g_fp "BandPress" 35 0 3 true (.object "BandPress$Machine") := ⟨R_0, F_0, 5, rfl, by decide, rfl, by decide +kernel, Or.inl (g_Tm 454 (by decide +kernel) rfl)⟩
theorem fr_0_35 : ∀ C T N, g_cl[0]? = some (C, T, N) → Cond.fieldLink "BandPress" 35 (T 3).1 (T 3).2.1 (T 3).2.2.1 ∈ g_T := by
  intro C T N h
  cases h
  exact g_Tm 454 (by decide +kernel) rfl
theorem fq_0_42 : g_fp "BandPress" 42 0 4 true (.object "BandPress$Packer") := ⟨R_0, F_0, 5, rfl, by decide, rfl, by decide +kernel, Or.inl (g_Tm 455 (by decide +kernel) rfl)⟩
theorem fr_0_42 : ∀ C T N, g_cl[0]? = some (C, T, N) → Cond.fieldLink "BandPress" 42 (T 4).1 (T 4).2.1 (T 4).2.2.1 ∈ g_T := by
  intro C T N h
  cases h
  exact g_Tm 455 (by decide +kernel) rfl
theorem fq_7_9 : g_fp "BandPress$Calls" 9 3 0 true (.array .int) := ⟨R_3, F_3, 5, rfl, by decide, rfl, by decide +kernel, Or.inl (g_Tm 160 (by decide +kernel) rfl)⟩
theorem fr_7_9 : ∀ C T N, g_cl[3]? = some (C, T, N) → Cond.fieldLink "BandPress$Calls" 9 (T 0).1 (T 0).2.1 (T 0).2.2.1 ∈ g_T := by
  intro C T N h
  cases h
  exact g_Tm 160 (by decide +kernel) rfl
theorem fq_7_15 : g_fp "BandPress$Calls" 15 3 1 true (.array .int) := ⟨R_3, F_3, 5, rfl, by decide, rfl, by decide +kernel, Or.inl (g_Tm 161 (by decide +kernel) rfl)⟩
theorem fr_7_15 : ∀ C T N, g_cl[3]? = some (C, T, N) → Cond.fieldLink "BandPress$Calls" 15 (T 1).1 (T 1).2.1 (T 1).2.2.1 ∈ g_T := by
  intro C T N h
  cases h
  exact g_Tm 161 (by decide +kernel) rfl
theorem fq_7_18 : g_fp "BandPress$Calls" 18 3 2 true (.array .int) := ⟨R_3, F_3, 5, rfl, by decide, rfl, by decide +kernel, Or.inl (g_Tm 162 (by decide +kernel) rfl)⟩
theorem fr_7_18 : ∀ C T N, g_cl[3]? = some (C, T, N) → Cond.fieldLink "BandPress$Calls" 18 (T 2).1 (T 2).2.1 (T 2).2.2.1 ∈ g_T := by
  intro C T N h
  cases h
  exact g_Tm 162 (by decide +kernel) rfl
theorem fq_7_21 : g_fp "BandPress$Calls" 21 3 3 true (.array .int) := ⟨R_3, F_3, 5, rfl, by decide, rfl, by decide +kernel, Or.inl (g_Tm 163 (by decide +kernel) rfl)⟩
theorem fr_7_21 : ∀ C T N, g_cl[3]? = some (C, T, N) → Cond.fieldLink "BandPress$Calls" 21 (T 3).1 (T 3).2.1 (T 3).2.2.1 ∈ g_T := by
  intro C T N h
  cases h
  exact g_Tm 163 (by decide +kernel) rfl
theorem fq_11_9 : g_fp "BandPress$Filler" 9 4 0 true (.array .long) := ⟨R_4, F_4, 2, rfl, by decide, rfl, by decide +kernel, Or.inl (g_Tm 182 (by decide +kernel) rfl)⟩
theorem fr_11_9 : ∀ C T N, g_cl[4]? = some (C, T, N) → Cond.fieldLink "BandPress$Filler" 9 (T 0).1 (T 0).2.1 (T 0).2.2.1 ∈ g_T := by
  intro C T N h
  cases h
  exact g_Tm 182 (by decide +kernel) rfl
theorem fq_11_15 : g_fp "BandPress$Filler" 15 4 1 true (.array .int) := ⟨R_4, F_4, 2, rfl, by decide, rfl, by decide +kernel, Or.inl (g_Tm 184 (by decide +kernel) rfl)⟩
theorem fr_11_15 : ∀ C T N, g_cl[4]? = some (C, T, N) → Cond.fieldLink "BandPress$Filler" 15 (T 1).1 (T 1).2.1 (T 1).2.2.1 ∈ g_T := by
  intro C T N h
  cases h
  exact g_Tm 184 (by decide +kernel) rfl
theorem fq_6_12 : g_fp "BandPress$Job" 12 2 0 true (.object "BandPress$Text") := ⟨R_2, F_2, 13, rfl, by decide, rfl, by decide +kernel, Or.inl (g_Tm 298 (by decide +kernel) rfl)⟩
theorem fr_6_12 : ∀ C T N, g_cl[2]? = some (C, T, N) → Cond.fieldLink "BandPress$Job" 12 (T 0).1 (T 0).2.1 (T 0).2.2.1 ∈ g_T := by
  intro C T N h
  cases h
  exact g_Tm 298 (by decide +kernel) rfl
theorem fq_6_21 : g_fp "BandPress$Job" 21 2 1 true (.object "BandPress$Calls") := ⟨R_2, F_2, 13, rfl, by decide, rfl, by decide +kernel, Or.inl (g_Tm 299 (by decide +kernel) rfl)⟩
theorem fr_6_21 : ∀ C T N, g_cl[2]? = some (C, T, N) → Cond.fieldLink "BandPress$Job" 21 (T 1).1 (T 1).2.1 (T 1).2.2.1 ∈ g_T := by
  intro C T N h
  cases h
  exact g_Tm 299 (by decide +kernel) rfl
theorem fq_6_28 : g_fp "BandPress$Job" 28 2 2 true (.object "BandPress$Filler") := ⟨R_2, F_2, 13, rfl, by decide, rfl, by decide +kernel, Or.inl (g_Tm 300 (by decide +kernel) rfl)⟩
theorem fr_6_28 : ∀ C T N, g_cl[2]? = some (C, T, N) → Cond.fieldLink "BandPress$Job" 28 (T 2).1 (T 2).2.1 (T 2).2.2.1 ∈ g_T := by
  intro C T N h
  cases h
  exact g_Tm 300 (by decide +kernel) rfl
theorem fq_6_35 : g_fp "BandPress$Job" 35 2 3 true (.object "BandPress$Values") := ⟨R_2, F_2, 13, rfl, by decide, rfl, by decide +kernel, Or.inl (g_Tm 301 (by decide +kernel) rfl)⟩
theorem fr_6_35 : ∀ C T N, g_cl[2]? = some (C, T, N) → Cond.fieldLink "BandPress$Job" 35 (T 3).1 (T 3).2.1 (T 3).2.2.1 ∈ g_T := by
  intro C T N h
  cases h
  exact g_Tm 301 (by decide +kernel) rfl
theorem fq_6_39 : g_fp "BandPress$Job" 39 2 4 true (.array .int) := ⟨R_2, F_2, 13, rfl, by decide, rfl, by decide +kernel, Or.inl (g_Tm 303 (by decide +kernel) rfl)⟩
theorem fr_6_39 : ∀ C T N, g_cl[2]? = some (C, T, N) → Cond.fieldLink "BandPress$Job" 39 (T 4).1 (T 4).2.1 (T 4).2.2.1 ∈ g_T := by
  intro C T N h
  cases h
  exact g_Tm 303 (by decide +kernel) rfl
theorem fq_6_46 : g_fp "BandPress$Job" 46 2 5 true (.object "BandPress$Settings") := ⟨R_2, F_2, 13, rfl, by decide, rfl, by decide +kernel, Or.inl (g_Tm 305 (by decide +kernel) rfl)⟩
theorem fr_6_46 : ∀ C T N, g_cl[2]? = some (C, T, N) → Cond.fieldLink "BandPress$Job" 46 (T 5).1 (T 5).2.1 (T 5).2.2.1 ∈ g_T := by
  intro C T N h
  cases h
  exact g_Tm 305 (by decide +kernel) rfl
theorem fq_6_53 : g_fp "BandPress$Job" 53 2 6 true (.object "BandPress$Path") := ⟨R_2, F_2, 13, rfl, by decide, rfl, by decide +kernel, Or.inl (g_Tm 307 (by decide +kernel) rfl)⟩
theorem fr_6_53 : ∀ C T N, g_cl[2]? = some (C, T, N) → Cond.fieldLink "BandPress$Job" 53 (T 6).1 (T 6).2.1 (T 6).2.2.1 ∈ g_T := by
  intro C T N h
  cases h
  exact g_Tm 307 (by decide +kernel) rfl
theorem fq_6_60 : g_fp "BandPress$Job" 60 2 7 true (.object "BandPress$Pages") := ⟨R_2, F_2, 13, rfl, by decide, rfl, by decide +kernel, Or.inl (g_Tm 309 (by decide +kernel) rfl)⟩
theorem fr_6_60 : ∀ C T N, g_cl[2]? = some (C, T, N) → Cond.fieldLink "BandPress$Job" 60 (T 7).1 (T 7).2.1 (T 7).2.2.1 ∈ g_T := by
  intro C T N h
  cases h
  exact g_Tm 309 (by decide +kernel) rfl
theorem fq_5_9 : g_fp "BandPress$Machine" 9 10 1 true (.array .int) := ⟨R_10, F_10, 12, rfl, by decide, rfl, by decide +kernel, Or.inl (g_Tm 389 (by decide +kernel) rfl)⟩
theorem fr_5_9 : ∀ C T N, g_cl[10]? = some (C, T, N) → Cond.fieldLink "BandPress$Machine" 9 (T 1).1 (T 1).2.1 (T 1).2.2.1 ∈ g_T := by
  intro C T N h
  cases h
  exact g_Tm 389 (by decide +kernel) rfl
theorem fq_5_15 : g_fp "BandPress$Machine" 15 10 2 true (.array .int) := ⟨R_10, F_10, 12, rfl, by decide, rfl, by decide +kernel, Or.inl (g_Tm 391 (by decide +kernel) rfl)⟩
theorem fr_5_15 : ∀ C T N, g_cl[10]? = some (C, T, N) → Cond.fieldLink "BandPress$Machine" 15 (T 2).1 (T 2).2.1 (T 2).2.2.1 ∈ g_T := by
  intro C T N h
  cases h
  exact g_Tm 391 (by decide +kernel) rfl
theorem fq_5_18 : g_fp "BandPress$Machine" 18 10 3 true (.array .boolean) := ⟨R_10, F_10, 12, rfl, by decide, rfl, by decide +kernel, Or.inl (g_Tm 393 (by decide +kernel) rfl)⟩
theorem fr_5_18 : ∀ C T N, g_cl[10]? = some (C, T, N) → Cond.fieldLink "BandPress$Machine" 18 (T 3).1 (T 3).2.1 (T 3).2.2.1 ∈ g_T := by
  intro C T N h
  cases h
  exact g_Tm 393 (by decide +kernel) rfl
theorem fq_5_22 : g_fp "BandPress$Machine" 22 10 4 true (.array .boolean) := ⟨R_10, F_10, 12, rfl, by decide, rfl, by decide +kernel, Or.inl (g_Tm 395 (by decide +kernel) rfl)⟩
theorem fr_5_22 : ∀ C T N, g_cl[10]? = some (C, T, N) → Cond.fieldLink "BandPress$Machine" 22 (T 4).1 (T 4).2.1 (T 4).2.2.1 ∈ g_T := by
  intro C T N h
  cases h
  exact g_Tm 395 (by decide +kernel) rfl
theorem fq_5_25 : g_fp "BandPress$Machine" 25 10 5 true (.array .int) := ⟨R_10, F_10, 12, rfl, by decide, rfl, by decide +kernel, Or.inl (g_Tm 396 (by decide +kernel) rfl)⟩
theorem fr_5_25 : ∀ C T N, g_cl[10]? = some (C, T, N) → Cond.fieldLink "BandPress$Machine" 25 (T 5).1 (T 5).2.1 (T 5).2.2.1 ∈ g_T := by
  intro C T N h
  cases h
  exact g_Tm 396 (by decide +kernel) rfl
theorem fq_5_28 : g_fp "BandPress$Machine" 28 10 0 true (.object "BandPress$Order") := ⟨R_10, F_10, 12, rfl, by decide, rfl, by decide +kernel, Or.inl (g_Tm 388 (by decide +kernel) rfl)⟩
theorem fr_5_28 : ∀ C T N, g_cl[10]? = some (C, T, N) → Cond.fieldLink "BandPress$Machine" 28 (T 0).1 (T 0).2.1 (T 0).2.2.1 ∈ g_T := by
  intro C T N h
  cases h
  exact g_Tm 388 (by decide +kernel) rfl
theorem fq_4_9 : g_fp "BandPress$Order" 9 9 0 true (.array .int) := ⟨R_9, F_9, 8, rfl, by decide, rfl, by decide +kernel, Or.inl (g_Tm 353 (by decide +kernel) rfl)⟩
theorem fr_4_9 : ∀ C T N, g_cl[9]? = some (C, T, N) → Cond.fieldLink "BandPress$Order" 9 (T 0).1 (T 0).2.1 (T 0).2.2.1 ∈ g_T := by
  intro C T N h
  cases h
  exact g_Tm 353 (by decide +kernel) rfl
theorem fq_4_15 : g_fp "BandPress$Order" 15 9 1 true (.array .boolean) := ⟨R_9, F_9, 8, rfl, by decide, rfl, by decide +kernel, Or.inl (g_Tm 355 (by decide +kernel) rfl)⟩
theorem fr_4_15 : ∀ C T N, g_cl[9]? = some (C, T, N) → Cond.fieldLink "BandPress$Order" 15 (T 1).1 (T 1).2.1 (T 1).2.2.1 ∈ g_T := by
  intro C T N h
  cases h
  exact g_Tm 355 (by decide +kernel) rfl
theorem fq_2_9 : g_fp "BandPress$Packer" 9 11 0 true (.array .int) := ⟨R_11, F_11, 3, rfl, by decide, rfl, by decide +kernel, Or.inl (g_Tm 439 (by decide +kernel) rfl)⟩
theorem fr_2_9 : ∀ C T N, g_cl[11]? = some (C, T, N) → Cond.fieldLink "BandPress$Packer" 9 (T 0).1 (T 0).2.1 (T 0).2.2.1 ∈ g_T := by
  intro C T N h
  cases h
  exact g_Tm 439 (by decide +kernel) rfl
theorem fq_2_15 : g_fp "BandPress$Packer" 15 11 2 true (.array .int) := ⟨R_11, F_11, 3, rfl, by decide, rfl, by decide +kernel, Or.inl (g_Tm 443 (by decide +kernel) rfl)⟩
theorem fr_2_15 : ∀ C T N, g_cl[11]? = some (C, T, N) → Cond.fieldLink "BandPress$Packer" 15 (T 2).1 (T 2).2.1 (T 2).2.2.1 ∈ g_T := by
  intro C T N h
  cases h
  exact g_Tm 443 (by decide +kernel) rfl
theorem fq_1_9 : g_fp "BandPress$Pages" 9 8 0 true (.array .long) := ⟨R_8, F_8, 4, rfl, by decide, rfl, by decide +kernel, Or.inl (g_Tm 282 (by decide +kernel) rfl)⟩
theorem fr_1_9 : ∀ C T N, g_cl[8]? = some (C, T, N) → Cond.fieldLink "BandPress$Pages" 9 (T 0).1 (T 0).2.1 (T 0).2.2.1 ∈ g_T := by
  intro C T N h
  cases h
  exact g_Tm 282 (by decide +kernel) rfl
theorem fq_1_15 : g_fp "BandPress$Pages" 15 8 1 true (.array .long) := ⟨R_8, F_8, 4, rfl, by decide, rfl, by decide +kernel, Or.inl (g_Tm 283 (by decide +kernel) rfl)⟩
theorem fr_1_15 : ∀ C T N, g_cl[8]? = some (C, T, N) → Cond.fieldLink "BandPress$Pages" 15 (T 1).1 (T 1).2.1 (T 1).2.2.1 ∈ g_T := by
  intro C T N h
  cases h
  exact g_Tm 283 (by decide +kernel) rfl
theorem fq_10_9 : g_fp "BandPress$Path" 9 7 0 true (.array .int) := ⟨R_7, F_7, 8, rfl, by decide, rfl, by decide +kernel, Or.inl (g_Tm 244 (by decide +kernel) rfl)⟩
theorem fr_10_9 : ∀ C T N, g_cl[7]? = some (C, T, N) → Cond.fieldLink "BandPress$Path" 9 (T 0).1 (T 0).2.1 (T 0).2.2.1 ∈ g_T := by
  intro C T N h
  cases h
  exact g_Tm 244 (by decide +kernel) rfl
theorem fq_10_15 : g_fp "BandPress$Path" 15 7 1 true (.array .int) := ⟨R_7, F_7, 8, rfl, by decide, rfl, by decide +kernel, Or.inl (g_Tm 246 (by decide +kernel) rfl)⟩
theorem fr_10_15 : ∀ C T N, g_cl[7]? = some (C, T, N) → Cond.fieldLink "BandPress$Path" 15 (T 1).1 (T 1).2.1 (T 1).2.2.1 ∈ g_T := by
  intro C T N h
  cases h
  exact g_Tm 246 (by decide +kernel) rfl
theorem fq_10_18 : g_fp "BandPress$Path" 18 7 2 true (.array .boolean) := ⟨R_7, F_7, 8, rfl, by decide, rfl, by decide +kernel, Or.inl (g_Tm 248 (by decide +kernel) rfl)⟩
theorem fr_10_18 : ∀ C T N, g_cl[7]? = some (C, T, N) → Cond.fieldLink "BandPress$Path" 18 (T 2).1 (T 2).2.1 (T 2).2.2.1 ∈ g_T := by
  intro C T N h
  cases h
  exact g_Tm 248 (by decide +kernel) rfl
theorem fq_10_22 : g_fp "BandPress$Path" 22 7 3 true (.array .int) := ⟨R_7, F_7, 8, rfl, by decide, rfl, by decide +kernel, Or.inl (g_Tm 250 (by decide +kernel) rfl)⟩
theorem fr_10_22 : ∀ C T N, g_cl[7]? = some (C, T, N) → Cond.fieldLink "BandPress$Path" 22 (T 3).1 (T 3).2.1 (T 3).2.2.1 ∈ g_T := by
  intro C T N h
  cases h
  exact g_Tm 250 (by decide +kernel) rfl
theorem fq_10_25 : g_fp "BandPress$Path" 25 7 4 true (.array .int) := ⟨R_7, F_7, 8, rfl, by decide, rfl, by decide +kernel, Or.inl (g_Tm 251 (by decide +kernel) rfl)⟩
theorem fr_10_25 : ∀ C T N, g_cl[7]? = some (C, T, N) → Cond.fieldLink "BandPress$Path" 25 (T 4).1 (T 4).2.1 (T 4).2.2.1 ∈ g_T := by
  intro C T N h
  cases h
  exact g_Tm 251 (by decide +kernel) rfl
theorem fq_3_9 : g_fp "BandPress$Settings" 9 6 0 true (.array .int) := ⟨R_6, F_6, 7, rfl, by decide, rfl, by decide +kernel, Or.inl (g_Tm 216 (by decide +kernel) rfl)⟩
theorem fr_3_9 : ∀ C T N, g_cl[6]? = some (C, T, N) → Cond.fieldLink "BandPress$Settings" 9 (T 0).1 (T 0).2.1 (T 0).2.2.1 ∈ g_T := by
  intro C T N h
  cases h
  exact g_Tm 216 (by decide +kernel) rfl
theorem fq_3_15 : g_fp "BandPress$Settings" 15 6 1 true (.array .int) := ⟨R_6, F_6, 7, rfl, by decide, rfl, by decide +kernel, Or.inl (g_Tm 217 (by decide +kernel) rfl)⟩
theorem fr_3_15 : ∀ C T N, g_cl[6]? = some (C, T, N) → Cond.fieldLink "BandPress$Settings" 15 (T 1).1 (T 1).2.1 (T 1).2.2.1 ∈ g_T := by
  intro C T N h
  cases h
  exact g_Tm 217 (by decide +kernel) rfl
theorem fq_3_18 : g_fp "BandPress$Settings" 18 6 2 true (.array .int) := ⟨R_6, F_6, 7, rfl, by decide, rfl, by decide +kernel, Or.inl (g_Tm 218 (by decide +kernel) rfl)⟩
theorem fr_3_18 : ∀ C T N, g_cl[6]? = some (C, T, N) → Cond.fieldLink "BandPress$Settings" 18 (T 2).1 (T 2).2.1 (T 2).2.2.1 ∈ g_T := by
  intro C T N h
  cases h
  exact g_Tm 218 (by decide +kernel) rfl
theorem fq_3_21 : g_fp "BandPress$Settings" 21 6 3 true (.array .int) := ⟨R_6, F_6, 7, rfl, by decide, rfl, by decide +kernel, Or.inl (g_Tm 219 (by decide +kernel) rfl)⟩
theorem fr_3_21 : ∀ C T N, g_cl[6]? = some (C, T, N) → Cond.fieldLink "BandPress$Settings" 21 (T 3).1 (T 3).2.1 (T 3).2.2.1 ∈ g_T := by
  intro C T N h
  cases h
  exact g_Tm 219 (by decide +kernel) rfl
theorem fq_3_24 : g_fp "BandPress$Settings" 24 6 4 true (.array .int) := ⟨R_6, F_6, 7, rfl, by decide, rfl, by decide +kernel, Or.inl (g_Tm 220 (by decide +kernel) rfl)⟩
theorem fr_3_24 : ∀ C T N, g_cl[6]? = some (C, T, N) → Cond.fieldLink "BandPress$Settings" 24 (T 4).1 (T 4).2.1 (T 4).2.2.1 ∈ g_T := by
  intro C T N h
  cases h
  exact g_Tm 220 (by decide +kernel) rfl
theorem fq_3_27 : g_fp "BandPress$Settings" 27 6 5 true (.array .long) := ⟨R_6, F_6, 7, rfl, by decide, rfl, by decide +kernel, Or.inl (g_Tm 221 (by decide +kernel) rfl)⟩
theorem fr_3_27 : ∀ C T N, g_cl[6]? = some (C, T, N) → Cond.fieldLink "BandPress$Settings" 27 (T 5).1 (T 5).2.1 (T 5).2.2.1 ∈ g_T := by
  intro C T N h
  cases h
  exact g_Tm 221 (by decide +kernel) rfl
theorem fq_8_9 : g_fp "BandPress$Text" 9 1 0 true (.array .int) := ⟨R_1, F_1, 4, rfl, by decide, rfl, by decide +kernel, Or.inl (g_Tm 131 (by decide +kernel) rfl)⟩
theorem fr_8_9 : ∀ C T N, g_cl[1]? = some (C, T, N) → Cond.fieldLink "BandPress$Text" 9 (T 0).1 (T 0).2.1 (T 0).2.2.1 ∈ g_T := by
  intro C T N h
  cases h
  exact g_Tm 131 (by decide +kernel) rfl
theorem fq_8_15 : g_fp "BandPress$Text" 15 1 1 true (.array .int) := ⟨R_1, F_1, 4, rfl, by decide, rfl, by decide +kernel, Or.inl (g_Tm 132 (by decide +kernel) rfl)⟩
theorem fr_8_15 : ∀ C T N, g_cl[1]? = some (C, T, N) → Cond.fieldLink "BandPress$Text" 15 (T 1).1 (T 1).2.1 (T 1).2.2.1 ∈ g_T := by
  intro C T N h
  cases h
  exact g_Tm 132 (by decide +kernel) rfl
theorem fq_8_18 : g_fp "BandPress$Text" 18 1 2 true (.array .int) := ⟨R_1, F_1, 4, rfl, by decide, rfl, by decide +kernel, Or.inl (g_Tm 133 (by decide +kernel) rfl)⟩
theorem fr_8_18 : ∀ C T N, g_cl[1]? = some (C, T, N) → Cond.fieldLink "BandPress$Text" 18 (T 2).1 (T 2).2.1 (T 2).2.2.1 ∈ g_T := by
  intro C T N h
  cases h
  exact g_Tm 133 (by decide +kernel) rfl
theorem fq_9_9 : g_fp "BandPress$Values" 9 5 0 true (.array .int) := ⟨R_5, F_5, 2, rfl, by decide, rfl, by decide +kernel, Or.inl (g_Tm 197 (by decide +kernel) rfl)⟩
theorem fr_9_9 : ∀ C T N, g_cl[5]? = some (C, T, N) → Cond.fieldLink "BandPress$Values" 9 (T 0).1 (T 0).2.1 (T 0).2.2.1 ∈ g_T := by
  intro C T N h
  cases h
  exact g_Tm 197 (by decide +kernel) rfl
theorem fq_15_7 : g_fp "BandPressModel" 7 12 1 true (.array .int) := ⟨R_12, F_12, 55, rfl, by decide, rfl, by decide +kernel, Or.inl (g_Tm 1284 (by decide +kernel) rfl)⟩
theorem fr_15_7 : ∀ C T N, g_cl[12]? = some (C, T, N) → Cond.fieldLink "BandPressModel" 7 (T 1).1 (T 1).2.1 (T 1).2.2.1 ∈ g_T := by
  intro C T N h
  cases h
  exact g_Tm 1284 (by decide +kernel) rfl
theorem fq_15_13 : g_fp "BandPressModel" 13 12 2 true (.array .int) := ⟨R_12, F_12, 55, rfl, by decide, rfl, by decide +kernel, Or.inl (g_Tm 1285 (by decide +kernel) rfl)⟩
theorem fr_15_13 : ∀ C T N, g_cl[12]? = some (C, T, N) → Cond.fieldLink "BandPressModel" 13 (T 2).1 (T 2).2.1 (T 2).2.2.1 ∈ g_T := by
  intro C T N h
  cases h
  exact g_Tm 1285 (by decide +kernel) rfl
theorem fq_15_16 : g_fp "BandPressModel" 16 12 14 true (.array .int) := ⟨R_12, F_12, 55, rfl, by decide, rfl, by decide +kernel, Or.inl (g_Tm 1297 (by decide +kernel) rfl)⟩
theorem fr_15_16 : ∀ C T N, g_cl[12]? = some (C, T, N) → Cond.fieldLink "BandPressModel" 16 (T 14).1 (T 14).2.1 (T 14).2.2.1 ∈ g_T := by
  intro C T N h
  cases h
  exact g_Tm 1297 (by decide +kernel) rfl
theorem fq_15_19 : g_fp "BandPressModel" 19 12 15 true (.array .int) := ⟨R_12, F_12, 55, rfl, by decide, rfl, by decide +kernel, Or.inl (g_Tm 1298 (by decide +kernel) rfl)⟩
theorem fr_15_19 : ∀ C T N, g_cl[12]? = some (C, T, N) → Cond.fieldLink "BandPressModel" 19 (T 15).1 (T 15).2.1 (T 15).2.2.1 ∈ g_T := by
  intro C T N h
  cases h
  exact g_Tm 1298 (by decide +kernel) rfl
theorem fq_15_22 : g_fp "BandPressModel" 22 12 16 true (.array .boolean) := ⟨R_12, F_12, 55, rfl, by decide, rfl, by decide +kernel, Or.inl (g_Tm 1299 (by decide +kernel) rfl)⟩
theorem fr_15_22 : ∀ C T N, g_cl[12]? = some (C, T, N) → Cond.fieldLink "BandPressModel" 22 (T 16).1 (T 16).2.1 (T 16).2.2.1 ∈ g_T := by
  intro C T N h
  cases h
  exact g_Tm 1299 (by decide +kernel) rfl
theorem fq_15_26 : g_fp "BandPressModel" 26 12 18 true (.array .int) := ⟨R_12, F_12, 55, rfl, by decide, rfl, by decide +kernel, Or.inl (g_Tm 1301 (by decide +kernel) rfl)⟩
theorem fr_15_26 : ∀ C T N, g_cl[12]? = some (C, T, N) → Cond.fieldLink "BandPressModel" 26 (T 18).1 (T 18).2.1 (T 18).2.2.1 ∈ g_T := by
  intro C T N h
  cases h
  exact g_Tm 1301 (by decide +kernel) rfl
theorem fq_15_29 : g_fp "BandPressModel" 29 12 19 true (.array .int) := ⟨R_12, F_12, 55, rfl, by decide, rfl, by decide +kernel, Or.inl (g_Tm 1302 (by decide +kernel) rfl)⟩
theorem fr_15_29 : ∀ C T N, g_cl[12]? = some (C, T, N) → Cond.fieldLink "BandPressModel" 29 (T 19).1 (T 19).2.1 (T 19).2.2.1 ∈ g_T := by
  intro C T N h
  cases h
  exact g_Tm 1302 (by decide +kernel) rfl
theorem fq_15_32 : g_fp "BandPressModel" 32 12 20 true (.array .int) := ⟨R_12, F_12, 55, rfl, by decide, rfl, by decide +kernel, Or.inl (g_Tm 1303 (by decide +kernel) rfl)⟩
theorem fr_15_32 : ∀ C T N, g_cl[12]? = some (C, T, N) → Cond.fieldLink "BandPressModel" 32 (T 20).1 (T 20).2.1 (T 20).2.2.1 ∈ g_T := by
  intro C T N h
  cases h
  exact g_Tm 1303 (by decide +kernel) rfl
theorem fq_15_35 : g_fp "BandPressModel" 35 12 21 true (.array .int) := ⟨R_12, F_12, 55, rfl, by decide, rfl, by decide +kernel, Or.inl (g_Tm 1304 (by decide +kernel) rfl)⟩
theorem fr_15_35 : ∀ C T N, g_cl[12]? = some (C, T, N) → Cond.fieldLink "BandPressModel" 35 (T 21).1 (T 21).2.1 (T 21).2.2.1 ∈ g_T := by
  intro C T N h
  cases h
  exact g_Tm 1304 (by decide +kernel) rfl
theorem fq_15_38 : g_fp "BandPressModel" 38 12 29 true (.array .int) := ⟨R_12, F_12, 55, rfl, by decide, rfl, by decide +kernel, Or.inl (g_Tm 1312 (by decide +kernel) rfl)⟩
theorem fr_15_38 : ∀ C T N, g_cl[12]? = some (C, T, N) → Cond.fieldLink "BandPressModel" 38 (T 29).1 (T 29).2.1 (T 29).2.2.1 ∈ g_T := by
  intro C T N h
  cases h
  exact g_Tm 1312 (by decide +kernel) rfl
theorem fq_15_41 : g_fp "BandPressModel" 41 12 30 true (.array .int) := ⟨R_12, F_12, 55, rfl, by decide, rfl, by decide +kernel, Or.inl (g_Tm 1313 (by decide +kernel) rfl)⟩
theorem fr_15_41 : ∀ C T N, g_cl[12]? = some (C, T, N) → Cond.fieldLink "BandPressModel" 41 (T 30).1 (T 30).2.1 (T 30).2.2.1 ∈ g_T := by
  intro C T N h
  cases h
  exact g_Tm 1313 (by decide +kernel) rfl
theorem fq_15_44 : g_fp "BandPressModel" 44 12 31 true (.array .boolean) := ⟨R_12, F_12, 55, rfl, by decide, rfl, by decide +kernel, Or.inl (g_Tm 1314 (by decide +kernel) rfl)⟩
theorem fr_15_44 : ∀ C T N, g_cl[12]? = some (C, T, N) → Cond.fieldLink "BandPressModel" 44 (T 31).1 (T 31).2.1 (T 31).2.2.1 ∈ g_T := by
  intro C T N h
  cases h
  exact g_Tm 1314 (by decide +kernel) rfl
theorem fq_15_47 : g_fp "BandPressModel" 47 12 33 true (.array .int) := ⟨R_12, F_12, 55, rfl, by decide, rfl, by decide +kernel, Or.inl (g_Tm 1316 (by decide +kernel) rfl)⟩
theorem fr_15_47 : ∀ C T N, g_cl[12]? = some (C, T, N) → Cond.fieldLink "BandPressModel" 47 (T 33).1 (T 33).2.1 (T 33).2.2.1 ∈ g_T := by
  intro C T N h
  cases h
  exact g_Tm 1316 (by decide +kernel) rfl
theorem fq_15_50 : g_fp "BandPressModel" 50 12 34 true (.array .boolean) := ⟨R_12, F_12, 55, rfl, by decide, rfl, by decide +kernel, Or.inl (g_Tm 1317 (by decide +kernel) rfl)⟩
theorem fr_15_50 : ∀ C T N, g_cl[12]? = some (C, T, N) → Cond.fieldLink "BandPressModel" 50 (T 34).1 (T 34).2.1 (T 34).2.2.1 ∈ g_T := by
  intro C T N h
  cases h
  exact g_Tm 1317 (by decide +kernel) rfl
theorem fq_15_53 : g_fp "BandPressModel" 53 12 35 true (.array .boolean) := ⟨R_12, F_12, 55, rfl, by decide, rfl, by decide +kernel, Or.inl (g_Tm 1318 (by decide +kernel) rfl)⟩
theorem fr_15_53 : ∀ C T N, g_cl[12]? = some (C, T, N) → Cond.fieldLink "BandPressModel" 53 (T 35).1 (T 35).2.1 (T 35).2.2.1 ∈ g_T := by
  intro C T N h
  cases h
  exact g_Tm 1318 (by decide +kernel) rfl
theorem fq_15_56 : g_fp "BandPressModel" 56 12 37 true (.array .boolean) := ⟨R_12, F_12, 55, rfl, by decide, rfl, by decide +kernel, Or.inl (g_Tm 1320 (by decide +kernel) rfl)⟩
theorem fr_15_56 : ∀ C T N, g_cl[12]? = some (C, T, N) → Cond.fieldLink "BandPressModel" 56 (T 37).1 (T 37).2.1 (T 37).2.2.1 ∈ g_T := by
  intro C T N h
  cases h
  exact g_Tm 1320 (by decide +kernel) rfl
theorem fq_15_59 : g_fp "BandPressModel" 59 12 38 true (.array .int) := ⟨R_12, F_12, 55, rfl, by decide, rfl, by decide +kernel, Or.inl (g_Tm 1321 (by decide +kernel) rfl)⟩
theorem fr_15_59 : ∀ C T N, g_cl[12]? = some (C, T, N) → Cond.fieldLink "BandPressModel" 59 (T 38).1 (T 38).2.1 (T 38).2.2.1 ∈ g_T := by
  intro C T N h
  cases h
  exact g_Tm 1321 (by decide +kernel) rfl
theorem fq_15_62 : g_fp "BandPressModel" 62 12 48 true (.array .int) := ⟨R_12, F_12, 55, rfl, by decide, rfl, by decide +kernel, Or.inl (g_Tm 1331 (by decide +kernel) rfl)⟩
theorem fr_15_62 : ∀ C T N, g_cl[12]? = some (C, T, N) → Cond.fieldLink "BandPressModel" 62 (T 48).1 (T 48).2.1 (T 48).2.2.1 ∈ g_T := by
  intro C T N h
  cases h
  exact g_Tm 1331 (by decide +kernel) rfl
theorem fq_15_65 : g_fp "BandPressModel" 65 12 49 true (.array .int) := ⟨R_12, F_12, 55, rfl, by decide, rfl, by decide +kernel, Or.inl (g_Tm 1332 (by decide +kernel) rfl)⟩
theorem fr_15_65 : ∀ C T N, g_cl[12]? = some (C, T, N) → Cond.fieldLink "BandPressModel" 65 (T 49).1 (T 49).2.1 (T 49).2.2.1 ∈ g_T := by
  intro C T N h
  cases h
  exact g_Tm 1332 (by decide +kernel) rfl
theorem fq_15_68 : g_fp "BandPressModel" 68 12 50 true (.array .int) := ⟨R_12, F_12, 55, rfl, by decide, rfl, by decide +kernel, Or.inl (g_Tm 1333 (by decide +kernel) rfl)⟩
theorem fr_15_68 : ∀ C T N, g_cl[12]? = some (C, T, N) → Cond.fieldLink "BandPressModel" 68 (T 50).1 (T 50).2.1 (T 50).2.2.1 ∈ g_T := by
  intro C T N h
  cases h
  exact g_Tm 1333 (by decide +kernel) rfl
theorem fq_15_71 : g_fp "BandPressModel" 71 12 51 true (.array .int) := ⟨R_12, F_12, 55, rfl, by decide, rfl, by decide +kernel, Or.inl (g_Tm 1334 (by decide +kernel) rfl)⟩
theorem fr_15_71 : ∀ C T N, g_cl[12]? = some (C, T, N) → Cond.fieldLink "BandPressModel" 71 (T 51).1 (T 51).2.1 (T 51).2.2.1 ∈ g_T := by
  intro C T N h
  cases h
  exact g_Tm 1334 (by decide +kernel) rfl
theorem fq_15_74 : g_fp "BandPressModel" 74 12 52 true (.array .boolean) := ⟨R_12, F_12, 55, rfl, by decide, rfl, by decide +kernel, Or.inl (g_Tm 1335 (by decide +kernel) rfl)⟩
theorem fr_15_74 : ∀ C T N, g_cl[12]? = some (C, T, N) → Cond.fieldLink "BandPressModel" 74 (T 52).1 (T 52).2.1 (T 52).2.2.1 ∈ g_T := by
  intro C T N h
  cases h
  exact g_Tm 1335 (by decide +kernel) rfl
theorem fq_15_77 : g_fp "BandPressModel" 77 12 53 true (.array .boolean) := ⟨R_12, F_12, 55, rfl, by decide, rfl, by decide +kernel, Or.inl (g_Tm 1336 (by decide +kernel) rfl)⟩
theorem fr_15_77 : ∀ C T N, g_cl[12]? = some (C, T, N) → Cond.fieldLink "BandPressModel" 77 (T 53).1 (T 53).2.1 (T 53).2.2.1 ∈ g_T := by
  intro C T N h
  cases h
  exact g_Tm 1336 (by decide +kernel) rfl
theorem fq_15_80 : g_fp "BandPressModel" 80 12 54 true (.array .boolean) := ⟨R_12, F_12, 55, rfl, by decide, rfl, by decide +kernel, Or.inl (g_Tm 1337 (by decide +kernel) rfl)⟩
theorem fr_15_80 : ∀ C T N, g_cl[12]? = some (C, T, N) → Cond.fieldLink "BandPressModel" 80 (T 54).1 (T 54).2.1 (T 54).2.2.1 ∈ g_T := by
  intro C T N h
  cases h
  exact g_Tm 1337 (by decide +kernel) rfl
set_option maxHeartbeats 4000000 in
set_option maxRecDepth 100000 in
theorem mi_Calls_init : g_mi M_Calls_init 0 := ⟨⟨g_Tm 92 (by decide +kernel) rfl, g_Tm 158 rfl rfl, by decide, by decide, by decide +kernel⟩, g_Tm 157 (by decide +kernel) rfl, rfl, rfl⟩
set_option maxHeartbeats 4000000 in
set_option maxRecDepth 100000 in
theorem mi_Filler_init : g_mi M_Filler_init 0 := ⟨⟨g_Tm 93 (by decide +kernel) rfl, g_Tm 180 rfl rfl, by decide, by decide, by decide +kernel⟩, g_Tm 179 (by decide +kernel) rfl, rfl, rfl⟩
set_option maxHeartbeats 4000000 in
set_option maxRecDepth 100000 in
theorem mi_Job_init : g_mi M_Job_init 0 := ⟨⟨g_Tm 91 (by decide +kernel) rfl, g_Tm 150 rfl rfl, by decide, by decide, by decide +kernel⟩, g_Tm 149 (by decide +kernel) rfl, rfl, rfl⟩
set_option maxHeartbeats 4000000 in
set_option maxRecDepth 100000 in
theorem mi_Machine_init : g_mi M_Machine_init 1 := ⟨⟨g_Tm 100 (by decide +kernel) rfl, g_Tm 386 rfl rfl, by decide, by decide, by decide +kernel⟩, g_Tm 385 (by decide +kernel) rfl, rfl, rfl⟩
set_option maxHeartbeats 4000000 in
set_option maxRecDepth 100000 in
theorem mi_Order_init : g_mi M_Order_init 0 := ⟨⟨g_Tm 99 (by decide +kernel) rfl, g_Tm 351 rfl rfl, by decide, by decide, by decide +kernel⟩, g_Tm 350 (by decide +kernel) rfl, rfl, rfl⟩
set_option maxHeartbeats 4000000 in
set_option maxRecDepth 100000 in
theorem mi_Packer_init : g_mi M_Packer_init 0 := ⟨⟨g_Tm 101 (by decide +kernel) rfl, g_Tm 437 rfl rfl, by decide, by decide, by decide +kernel⟩, g_Tm 436 (by decide +kernel) rfl, rfl, rfl⟩
set_option maxHeartbeats 4000000 in
set_option maxRecDepth 100000 in
theorem mi_Pages_init : g_mi M_Pages_init 0 := ⟨⟨g_Tm 98 (by decide +kernel) rfl, g_Tm 280 rfl rfl, by decide, by decide, by decide +kernel⟩, g_Tm 279 (by decide +kernel) rfl, rfl, rfl⟩
set_option maxHeartbeats 4000000 in
set_option maxRecDepth 100000 in
theorem mi_Path_init : g_mi M_Path_init 0 := ⟨⟨g_Tm 97 (by decide +kernel) rfl, g_Tm 242 rfl rfl, by decide, by decide, by decide +kernel⟩, g_Tm 241 (by decide +kernel) rfl, rfl, rfl⟩
set_option maxHeartbeats 4000000 in
set_option maxRecDepth 100000 in
theorem mi_Settings_init : g_mi M_Settings_init 0 := ⟨⟨g_Tm 95 (by decide +kernel) rfl, g_Tm 210 rfl rfl, by decide, by decide, by decide +kernel⟩, g_Tm 209 (by decide +kernel) rfl, rfl, rfl⟩
set_option maxHeartbeats 4000000 in
set_option maxRecDepth 100000 in
theorem mi_Text_init : g_mi M_Text_init 0 := ⟨⟨g_Tm 90 (by decide +kernel) rfl, g_Tm 129 rfl rfl, by decide, by decide, by decide +kernel⟩, g_Tm 128 (by decide +kernel) rfl, rfl, rfl⟩
set_option maxHeartbeats 4000000 in
set_option maxRecDepth 100000 in
theorem mi_Values_init : g_mi M_Values_init 0 := ⟨⟨g_Tm 94 (by decide +kernel) rfl, g_Tm 195 rfl rfl, by decide, by decide, by decide +kernel⟩, g_Tm 194 (by decide +kernel) rfl, rfl, rfl⟩
set_option maxHeartbeats 4000000 in
set_option maxRecDepth 100000 in
theorem ex_0_71_73 : g_exw "BandPress" 71 73 0 := ⟨g_Tm 796 (by decide +kernel) rfl, g_Tm 113 (by decide +kernel) rfl, by decide +kernel, by decide +kernel, g_exa (by decide +kernel)⟩
set_option maxHeartbeats 4000000 in
set_option maxRecDepth 100000 in
theorem ex_0_74_76 : g_exw "BandPress" 74 76 1 := ⟨g_Tm 859 (by decide +kernel) rfl, g_Tm 114 (by decide +kernel) rfl, by decide +kernel, by decide +kernel, g_exa (by decide +kernel)⟩
set_option maxHeartbeats 4000000 in
set_option maxRecDepth 100000 in
theorem ex_0_137_139 : g_exw "BandPress" 137 139 2 := ⟨g_Tm 1197 (by decide +kernel) rfl, g_Tm 116 (by decide +kernel) rfl, by decide +kernel, by decide +kernel, g_exa (by decide +kernel)⟩
def Y_0 : List gH := []
def Y_1 : List gH := Y_0 ++ [.inr (0, [some none, some none, some none, some none, some none])]
def Y_2 : List gH := Y_1 ++ [.inr (1, [some none, some none, some none, none])]
def Y_3 : List gH := Y_2 ++ [.inl (0, 300)]
def Y_4 : List gH := Y_3.set 1 (.inr (1, [some (some 2), some none, some none, none]))
def Y_5 : List gH := Y_4 ++ [.inl (0, 300)]
def Y_6 : List gH := Y_5.set 1 (.inr (1, [some (some 2), some (some 3), some none, none]))
def Y_7 : List gH := Y_6 ++ [.inl (0, 8)]
def Y_8 : List gH := Y_7.set 1 (.inr (1, [some (some 2), some (some 3), some (some 4), none]))
def Y_9 : List gH := Y_8.set 0 (.inr (0, [some (some 1), some none, some none, some none, some none]))
def Y_10 : List gH := Y_9 ++ [.inr (2, [some none, some none, some none, some none, some none, some none, some none, some none, none, none, none, none, none])]
def Y_11 : List gH := Y_10 ++ [.inr (1, [some none, some none, some none, none])]
def Y_12 : List gH := Y_11 ++ [.inl (0, 300)]
def Y_13 : List gH := Y_12.set 6 (.inr (1, [some (some 7), some none, some none, none]))
def Y_14 : List gH := Y_13 ++ [.inl (0, 300)]
def Y_15 : List gH := Y_14.set 6 (.inr (1, [some (some 7), some (some 8), some none, none]))
def Y_16 : List gH := Y_15 ++ [.inl (0, 8)]
def Y_17 : List gH := Y_16.set 6 (.inr (1, [some (some 7), some (some 8), some (some 9), none]))
def Y_18 : List gH := Y_17.set 5 (.inr (2, [some (some 6), some none, some none, some none, some none, some none, some none, some none, none, none, none, none, none]))
def Y_19 : List gH := Y_18 ++ [.inr (3, [some none, some none, some none, some none, none])]
def Y_20 : List gH := Y_19 ++ [.inl (0, 21)]
def Y_21 : List gH := Y_20.set 10 (.inr (3, [some (some 11), some none, some none, some none, none]))
def Y_22 : List gH := Y_21 ++ [.inl (0, 21)]
def Y_23 : List gH := Y_22.set 10 (.inr (3, [some (some 11), some (some 12), some none, some none, none]))
def Y_24 : List gH := Y_23 ++ [.inl (0, 21)]
def Y_25 : List gH := Y_24.set 10 (.inr (3, [some (some 11), some (some 12), some (some 13), some none, none]))
def Y_26 : List gH := Y_25 ++ [.inl (0, 21)]
def Y_27 : List gH := Y_26.set 10 (.inr (3, [some (some 11), some (some 12), some (some 13), some (some 14), none]))
def Y_28 : List gH := Y_27.set 5 (.inr (2, [some (some 6), some (some 10), some none, some none, some none, some none, some none, some none, none, none, none, none, none]))
def Y_29 : List gH := Y_28 ++ [.inr (4, [some none, some none])]
def Y_30 : List gH := Y_29 ++ [.inl (3, 48)]
def Y_31 : List gH := Y_30.set 15 (.inr (4, [some (some 16), some none]))
def Y_32 : List gH := Y_31 ++ [.inl (0, 64)]
def Y_33 : List gH := Y_32.set 15 (.inr (4, [some (some 16), some (some 17)]))
def Y_34 : List gH := Y_33.set 5 (.inr (2, [some (some 6), some (some 10), some (some 15), some none, some none, some none, some none, some none, none, none, none, none, none]))
def Y_35 : List gH := Y_34 ++ [.inr (5, [some none, none])]
def Y_36 : List gH := Y_35 ++ [.inl (0, 32)]
def Y_37 : List gH := Y_36.set 18 (.inr (5, [some (some 19), none]))
def Y_38 : List gH := Y_37.set 5 (.inr (2, [some (some 6), some (some 10), some (some 15), some (some 18), some none, some none, some none, some none, none, none, none, none, none]))
def Y_39 : List gH := Y_38 ++ [.inl (0, 26)]
def Y_40 : List gH := Y_39.set 5 (.inr (2, [some (some 6), some (some 10), some (some 15), some (some 18), some (some 20), some none, some none, some none, none, none, none, none, none]))
def Y_41 : List gH := Y_40 ++ [.inr (6, [some none, some none, some none, some none, some none, some none, none])]
def Y_42 : List gH := Y_41 ++ [.inl (0, 5)]
def Y_43 : List gH := Y_42.set 21 (.inr (6, [some (some 22), some none, some none, some none, some none, some none, none]))
def Y_44 : List gH := Y_43 ++ [.inl (0, 5)]
def Y_45 : List gH := Y_44.set 21 (.inr (6, [some (some 22), some (some 23), some none, some none, some none, some none, none]))
def Y_46 : List gH := Y_45 ++ [.inl (0, 5)]
def Y_47 : List gH := Y_46.set 21 (.inr (6, [some (some 22), some (some 23), some (some 24), some none, some none, some none, none]))
def Y_48 : List gH := Y_47 ++ [.inl (0, 5)]
def Y_49 : List gH := Y_48.set 21 (.inr (6, [some (some 22), some (some 23), some (some 24), some (some 25), some none, some none, none]))
def Y_50 : List gH := Y_49 ++ [.inl (0, 5)]
def Y_51 : List gH := Y_50.set 21 (.inr (6, [some (some 22), some (some 23), some (some 24), some (some 25), some (some 26), some none, none]))
def Y_52 : List gH := Y_51 ++ [.inl (3, 240)]
def Y_53 : List gH := Y_52.set 21 (.inr (6, [some (some 22), some (some 23), some (some 24), some (some 25), some (some 26), some (some 27), none]))
def Y_54 : List gH := Y_53.set 5 (.inr (2, [some (some 6), some (some 10), some (some 15), some (some 18), some (some 20), some (some 21), some none, some none, none, none, none, none, none]))
def Y_55 : List gH := Y_54 ++ [.inr (7, [some none, some none, some none, some none, some none, none, none, none])]
def Y_56 : List gH := Y_55 ++ [.inl (0, 200)]
def Y_57 : List gH := Y_56.set 28 (.inr (7, [some (some 29), some none, some none, some none, some none, none, none, none]))
def Y_58 : List gH := Y_57 ++ [.inl (0, 200)]
def Y_59 : List gH := Y_58.set 28 (.inr (7, [some (some 29), some (some 30), some none, some none, some none, none, none, none]))
def Y_60 : List gH := Y_59 ++ [.inl (1, 200)]
def Y_61 : List gH := Y_60.set 28 (.inr (7, [some (some 29), some (some 30), some (some 31), some none, some none, none, none, none]))
def Y_62 : List gH := Y_61 ++ [.inl (0, 25)]
def Y_63 : List gH := Y_62.set 28 (.inr (7, [some (some 29), some (some 30), some (some 31), some (some 32), some none, none, none, none]))
def Y_64 : List gH := Y_63 ++ [.inl (0, 25)]
def Y_65 : List gH := Y_64.set 28 (.inr (7, [some (some 29), some (some 30), some (some 31), some (some 32), some (some 33), none, none, none]))
def Y_66 : List gH := Y_65.set 5 (.inr (2, [some (some 6), some (some 10), some (some 15), some (some 18), some (some 20), some (some 21), some (some 28), some none, none, none, none, none, none]))
def Y_67 : List gH := Y_66 ++ [.inr (8, [some none, some none, none, none])]
def Y_68 : List gH := Y_67 ++ [.inl (3, 384)]
def Y_69 : List gH := Y_68.set 34 (.inr (8, [some (some 35), some none, none, none]))
def Y_70 : List gH := Y_69 ++ [.inl (3, 48)]
def Y_71 : List gH := Y_70.set 34 (.inr (8, [some (some 35), some (some 36), none, none]))
def Y_72 : List gH := Y_71.set 5 (.inr (2, [some (some 6), some (some 10), some (some 15), some (some 18), some (some 20), some (some 21), some (some 28), some (some 34), none, none, none, none, none]))
def Y_73 : List gH := Y_72.set 0 (.inr (0, [some (some 1), some (some 5), some none, some none, some none]))
def Y_74 : List gH := Y_73 ++ [.inr (9, [some none, some none, none, none, none, none, none, none])]
def Y_75 : List gH := Y_74 ++ [.inl (0, 32)]
def Y_76 : List gH := Y_75.set 37 (.inr (9, [some (some 38), some none, none, none, none, none, none, none]))
def Y_77 : List gH := Y_76 ++ [.inl (1, 32)]
def Y_78 : List gH := Y_77.set 37 (.inr (9, [some (some 38), some (some 39), none, none, none, none, none, none]))
def Y_79 : List gH := Y_78.set 0 (.inr (0, [some (some 1), some (some 5), some (some 37), some none, some none]))
def Y_80 : List gH := Y_79 ++ [.inr (10, [some none, some none, some none, some none, some none, some none, none, none, none, none, none, none])]
def Y_81 : List gH := Y_80 ++ [.inl (0, 4)]
def Y_82 : List gH := Y_81.set 40 (.inr (10, [some none, some (some 41), some none, some none, some none, some none, none, none, none, none, none, none]))
def Y_83 : List gH := Y_82 ++ [.inl (0, 4)]
def Y_84 : List gH := Y_83.set 40 (.inr (10, [some none, some (some 41), some (some 42), some none, some none, some none, none, none, none, none, none, none]))
def Y_85 : List gH := Y_84 ++ [.inl (1, 4)]
def Y_86 : List gH := Y_85.set 40 (.inr (10, [some none, some (some 41), some (some 42), some (some 43), some none, some none, none, none, none, none, none, none]))
def Y_87 : List gH := Y_86 ++ [.inl (1, 4)]
def Y_88 : List gH := Y_87.set 40 (.inr (10, [some none, some (some 41), some (some 42), some (some 43), some (some 44), some none, none, none, none, none, none, none]))
def Y_89 : List gH := Y_88 ++ [.inl (0, 4)]
def Y_90 : List gH := Y_89.set 40 (.inr (10, [some none, some (some 41), some (some 42), some (some 43), some (some 44), some (some 45), none, none, none, none, none, none]))
def Y_91 : List gH := Y_90.set 40 (.inr (10, [some (some 37), some (some 41), some (some 42), some (some 43), some (some 44), some (some 45), none, none, none, none, none, none]))
def Y_92 : List gH := Y_91.set 0 (.inr (0, [some (some 1), some (some 5), some (some 37), some (some 40), some none]))
def Y_93 : List gH := Y_92 ++ [.inr (11, [some none, none, some none])]
def Y_94 : List gH := Y_93 ++ [.inl (0, 128)]
def Y_95 : List gH := Y_94.set 46 (.inr (11, [some (some 47), none, some none]))
def Y_96 : List gH := Y_95 ++ [.inl (0, 8)]
def Y_97 : List gH := Y_96.set 46 (.inr (11, [some (some 47), none, some (some 48)]))
def Y_98 : List gH := Y_97.set 0 (.inr (0, [some (some 1), some (some 5), some (some 37), some (some 40), some (some 46)]))
def Y_99 : List gH := Y_98 ++ [.inr (12, [none, some none, some none, none, none, none, none, none, none, none, none, none, none, none, some none, some none, some none, none, some none, some none, some none, some none, none, none, none, none, none, none, none, some none, some none, some none, none, some none, some none, some none, none, some none, some none, none, none, none, none, none, none, none, none, none, some none, some none, some none, some none, some none, some none, some none])]
def Y_100 : List gH := Y_99 ++ [.inl (0, 300)]
def Y_101 : List gH := Y_100.set 49 (.inr (12, [none, some (some 50), some none, none, none, none, none, none, none, none, none, none, none, none, some none, some none, some none, none, some none, some none, some none, some none, none, none, none, none, none, none, none, some none, some none, some none, none, some none, some none, some none, none, some none, some none, none, none, none, none, none, none, none, none, none, some none, some none, some none, some none, some none, some none, some none]))
def Y_102 : List gH := Y_101 ++ [.inl (0, 300)]
def Y_103 : List gH := Y_102.set 49 (.inr (12, [none, some (some 50), some (some 51), none, none, none, none, none, none, none, none, none, none, none, some none, some none, some none, none, some none, some none, some none, some none, none, none, none, none, none, none, none, some none, some none, some none, none, some none, some none, some none, none, some none, some none, none, none, none, none, none, none, none, none, none, some none, some none, some none, some none, some none, some none, some none]))
def Y_104 : List gH := Y_103 ++ [.inl (0, 33)]
def Y_105 : List gH := Y_104.set 49 (.inr (12, [none, some (some 50), some (some 51), none, none, none, none, none, none, none, none, none, none, none, some (some 52), some none, some none, none, some none, some none, some none, some none, none, none, none, none, none, none, none, some none, some none, some none, none, some none, some none, some none, none, some none, some none, none, none, none, none, none, none, none, none, none, some none, some none, some none, some none, some none, some none, some none]))
def Y_106 : List gH := Y_105 ++ [.inl (0, 26)]
def Y_107 : List gH := Y_106.set 49 (.inr (12, [none, some (some 50), some (some 51), none, none, none, none, none, none, none, none, none, none, none, some (some 52), some (some 53), some none, none, some none, some none, some none, some none, none, none, none, none, none, none, none, some none, some none, some none, none, some none, some none, some none, none, some none, some none, none, none, none, none, none, none, none, none, none, some none, some none, some none, some none, some none, some none, some none]))
def Y_108 : List gH := Y_107 ++ [.inl (1, 33)]
def Y_109 : List gH := Y_108.set 49 (.inr (12, [none, some (some 50), some (some 51), none, none, none, none, none, none, none, none, none, none, none, some (some 52), some (some 53), some (some 54), none, some none, some none, some none, some none, none, none, none, none, none, none, none, some none, some none, some none, none, some none, some none, some none, none, some none, some none, none, none, none, none, none, none, none, none, none, some none, some none, some none, some none, some none, some none, some none]))
def Y_110 : List gH := Y_109 ++ [.inl (0, 22)]
def Y_111 : List gH := Y_110.set 49 (.inr (12, [none, some (some 50), some (some 51), none, none, none, none, none, none, none, none, none, none, none, some (some 52), some (some 53), some (some 54), none, some (some 55), some none, some none, some none, none, none, none, none, none, none, none, some none, some none, some none, none, some none, some none, some none, none, some none, some none, none, none, none, none, none, none, none, none, none, some none, some none, some none, some none, some none, some none, some none]))
def Y_112 : List gH := Y_111 ++ [.inl (0, 22)]
def Y_113 : List gH := Y_112.set 49 (.inr (12, [none, some (some 50), some (some 51), none, none, none, none, none, none, none, none, none, none, none, some (some 52), some (some 53), some (some 54), none, some (some 55), some (some 56), some none, some none, none, none, none, none, none, none, none, some none, some none, some none, none, some none, some none, some none, none, some none, some none, none, none, none, none, none, none, none, none, none, some none, some none, some none, some none, some none, some none, some none]))
def Y_114 : List gH := Y_113 ++ [.inl (0, 22)]
def Y_115 : List gH := Y_114.set 49 (.inr (12, [none, some (some 50), some (some 51), none, none, none, none, none, none, none, none, none, none, none, some (some 52), some (some 53), some (some 54), none, some (some 55), some (some 56), some (some 57), some none, none, none, none, none, none, none, none, some none, some none, some none, none, some none, some none, some none, none, some none, some none, none, none, none, none, none, none, none, none, none, some none, some none, some none, some none, some none, some none, some none]))
def Y_116 : List gH := Y_115 ++ [.inl (0, 22)]
def Y_117 : List gH := Y_116.set 49 (.inr (12, [none, some (some 50), some (some 51), none, none, none, none, none, none, none, none, none, none, none, some (some 52), some (some 53), some (some 54), none, some (some 55), some (some 56), some (some 57), some (some 58), none, none, none, none, none, none, none, some none, some none, some none, none, some none, some none, some none, none, some none, some none, none, none, none, none, none, none, none, none, none, some none, some none, some none, some none, some none, some none, some none]))
def Y_118 : List gH := Y_117 ++ [.inl (0, 200)]
def Y_119 : List gH := Y_118.set 49 (.inr (12, [none, some (some 50), some (some 51), none, none, none, none, none, none, none, none, none, none, none, some (some 52), some (some 53), some (some 54), none, some (some 55), some (some 56), some (some 57), some (some 58), none, none, none, none, none, none, none, some (some 59), some none, some none, none, some none, some none, some none, none, some none, some none, none, none, none, none, none, none, none, none, none, some none, some none, some none, some none, some none, some none, some none]))
def Y_120 : List gH := Y_119 ++ [.inl (0, 200)]
def Y_121 : List gH := Y_120.set 49 (.inr (12, [none, some (some 50), some (some 51), none, none, none, none, none, none, none, none, none, none, none, some (some 52), some (some 53), some (some 54), none, some (some 55), some (some 56), some (some 57), some (some 58), none, none, none, none, none, none, none, some (some 59), some (some 60), some none, none, some none, some none, some none, none, some none, some none, none, none, none, none, none, none, none, none, none, some none, some none, some none, some none, some none, some none, some none]))
def Y_122 : List gH := Y_121 ++ [.inl (1, 200)]
def Y_123 : List gH := Y_122.set 49 (.inr (12, [none, some (some 50), some (some 51), none, none, none, none, none, none, none, none, none, none, none, some (some 52), some (some 53), some (some 54), none, some (some 55), some (some 56), some (some 57), some (some 58), none, none, none, none, none, none, none, some (some 59), some (some 60), some (some 61), none, some none, some none, some none, none, some none, some none, none, none, none, none, none, none, none, none, none, some none, some none, some none, some none, some none, some none, some none]))
def Y_124 : List gH := Y_123 ++ [.inl (0, 25)]
def Y_125 : List gH := Y_124.set 49 (.inr (12, [none, some (some 50), some (some 51), none, none, none, none, none, none, none, none, none, none, none, some (some 52), some (some 53), some (some 54), none, some (some 55), some (some 56), some (some 57), some (some 58), none, none, none, none, none, none, none, some (some 59), some (some 60), some (some 61), none, some (some 62), some none, some none, none, some none, some none, none, none, none, none, none, none, none, none, none, some none, some none, some none, some none, some none, some none, some none]))
def Y_126 : List gH := Y_125 ++ [.inl (1, 15360)]
def Y_127 : List gH := Y_126.set 49 (.inr (12, [none, some (some 50), some (some 51), none, none, none, none, none, none, none, none, none, none, none, some (some 52), some (some 53), some (some 54), none, some (some 55), some (some 56), some (some 57), some (some 58), none, none, none, none, none, none, none, some (some 59), some (some 60), some (some 61), none, some (some 62), some (some 63), some none, none, some none, some none, none, none, none, none, none, none, none, none, none, some none, some none, some none, some none, some none, some none, some none]))
def Y_128 : List gH := Y_127 ++ [.inl (1, 27648)]
def Y_129 : List gH := Y_128.set 49 (.inr (12, [none, some (some 50), some (some 51), none, none, none, none, none, none, none, none, none, none, none, some (some 52), some (some 53), some (some 54), none, some (some 55), some (some 56), some (some 57), some (some 58), none, none, none, none, none, none, none, some (some 59), some (some 60), some (some 61), none, some (some 62), some (some 63), some (some 64), none, some none, some none, none, none, none, none, none, none, none, none, none, some none, some none, some none, some none, some none, some none, some none]))
def Y_130 : List gH := Y_129 ++ [.inl (1, 3072)]
def Y_131 : List gH := Y_130.set 49 (.inr (12, [none, some (some 50), some (some 51), none, none, none, none, none, none, none, none, none, none, none, some (some 52), some (some 53), some (some 54), none, some (some 55), some (some 56), some (some 57), some (some 58), none, none, none, none, none, none, none, some (some 59), some (some 60), some (some 61), none, some (some 62), some (some 63), some (some 64), none, some (some 65), some none, none, none, none, none, none, none, none, none, none, some none, some none, some none, some none, some none, some none, some none]))
def Y_132 : List gH := Y_131 ++ [.inl (0, 640)]
def Y_133 : List gH := Y_132.set 49 (.inr (12, [none, some (some 50), some (some 51), none, none, none, none, none, none, none, none, none, none, none, some (some 52), some (some 53), some (some 54), none, some (some 55), some (some 56), some (some 57), some (some 58), none, none, none, none, none, none, none, some (some 59), some (some 60), some (some 61), none, some (some 62), some (some 63), some (some 64), none, some (some 65), some (some 66), none, none, none, none, none, none, none, none, none, some none, some none, some none, some none, some none, some none, some none]))
def Y_134 : List gH := Y_133 ++ [.inl (0, 4)]
def Y_135 : List gH := Y_134.set 49 (.inr (12, [none, some (some 50), some (some 51), none, none, none, none, none, none, none, none, none, none, none, some (some 52), some (some 53), some (some 54), none, some (some 55), some (some 56), some (some 57), some (some 58), none, none, none, none, none, none, none, some (some 59), some (some 60), some (some 61), none, some (some 62), some (some 63), some (some 64), none, some (some 65), some (some 66), none, none, none, none, none, none, none, none, none, some (some 67), some none, some none, some none, some none, some none, some none]))
def Y_136 : List gH := Y_135 ++ [.inl (0, 4)]
def Y_137 : List gH := Y_136.set 49 (.inr (12, [none, some (some 50), some (some 51), none, none, none, none, none, none, none, none, none, none, none, some (some 52), some (some 53), some (some 54), none, some (some 55), some (some 56), some (some 57), some (some 58), none, none, none, none, none, none, none, some (some 59), some (some 60), some (some 61), none, some (some 62), some (some 63), some (some 64), none, some (some 65), some (some 66), none, none, none, none, none, none, none, none, none, some (some 67), some (some 68), some none, some none, some none, some none, some none]))
def Y_138 : List gH := Y_137 ++ [.inl (0, 4)]
def Y_139 : List gH := Y_138.set 49 (.inr (12, [none, some (some 50), some (some 51), none, none, none, none, none, none, none, none, none, none, none, some (some 52), some (some 53), some (some 54), none, some (some 55), some (some 56), some (some 57), some (some 58), none, none, none, none, none, none, none, some (some 59), some (some 60), some (some 61), none, some (some 62), some (some 63), some (some 64), none, some (some 65), some (some 66), none, none, none, none, none, none, none, none, none, some (some 67), some (some 68), some (some 69), some none, some none, some none, some none]))
def Y_140 : List gH := Y_139 ++ [.inl (0, 40)]
def Y_141 : List gH := Y_140.set 49 (.inr (12, [none, some (some 50), some (some 51), none, none, none, none, none, none, none, none, none, none, none, some (some 52), some (some 53), some (some 54), none, some (some 55), some (some 56), some (some 57), some (some 58), none, none, none, none, none, none, none, some (some 59), some (some 60), some (some 61), none, some (some 62), some (some 63), some (some 64), none, some (some 65), some (some 66), none, none, none, none, none, none, none, none, none, some (some 67), some (some 68), some (some 69), some (some 70), some none, some none, some none]))
def Y_142 : List gH := Y_141 ++ [.inl (1, 4)]
def Y_143 : List gH := Y_142.set 49 (.inr (12, [none, some (some 50), some (some 51), none, none, none, none, none, none, none, none, none, none, none, some (some 52), some (some 53), some (some 54), none, some (some 55), some (some 56), some (some 57), some (some 58), none, none, none, none, none, none, none, some (some 59), some (some 60), some (some 61), none, some (some 62), some (some 63), some (some 64), none, some (some 65), some (some 66), none, none, none, none, none, none, none, none, none, some (some 67), some (some 68), some (some 69), some (some 70), some (some 71), some none, some none]))
def Y_144 : List gH := Y_143 ++ [.inl (1, 4)]
def Y_145 : List gH := Y_144.set 49 (.inr (12, [none, some (some 50), some (some 51), none, none, none, none, none, none, none, none, none, none, none, some (some 52), some (some 53), some (some 54), none, some (some 55), some (some 56), some (some 57), some (some 58), none, none, none, none, none, none, none, some (some 59), some (some 60), some (some 61), none, some (some 62), some (some 63), some (some 64), none, some (some 65), some (some 66), none, none, none, none, none, none, none, none, none, some (some 67), some (some 68), some (some 69), some (some 70), some (some 71), some (some 72), some none]))
def Y_146 : List gH := Y_145 ++ [.inl (1, 40)]
def Y_147 : List gH := Y_146.set 49 (.inr (12, [none, some (some 50), some (some 51), none, none, none, none, none, none, none, none, none, none, none, some (some 52), some (some 53), some (some 54), none, some (some 55), some (some 56), some (some 57), some (some 58), none, none, none, none, none, none, none, some (some 59), some (some 60), some (some 61), none, some (some 62), some (some 63), some (some 64), none, some (some 65), some (some 66), none, none, none, none, none, none, none, none, none, some (some 67), some (some 68), some (some 69), some (some 70), some (some 71), some (some 72), some (some 73)]))
def Y_148 : List gH := Y_147 ++ [.inl (3, 1)]
theorem Y_all : Y_148 = g_S := by decide +kernel
