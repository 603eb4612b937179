/-! the law ahead of its loop (by program) -/
theorem clw_8 : Cond.classLink "BandPressLaw" 8 R_0 ∈ g_T := (g_Tm 117 (by decide +kernel) rfl)
theorem clw_26 : Cond.classLink "BandPressLaw" 26 R_12 ∈ g_T := (g_Tm 1277 (by decide +kernel) rfl)
theorem lkw_25 : g_lk "BandPressLaw" 25 ⟨"BandPress", "<init>", "()V"⟩ := Or.inl (g_Tm 119 (by decide +kernel) rfl)
set_option maxHeartbeats 4000000 in
set_option maxRecDepth 100000 in
theorem miw_B_init : g_mi M_B_init 0 := ⟨⟨(g_Tm 89 (by decide +kernel) rfl), g_Tm 121 rfl rfl, by decide, by decide, by decide +kernel⟩, (g_Tm 120 (by decide +kernel) rfl), rfl, rfl⟩
theorem lkw_28 : g_lk "BandPressLaw" 28 ⟨"BandPressModel", "<init>", "()V"⟩ := Or.inl (g_Tm 1279 (by decide +kernel) rfl)
set_option maxHeartbeats 4000000 in
set_option maxRecDepth 100000 in
theorem miw_M_init : g_mi M_M_init 0 := ⟨⟨(g_Tm 102 (by decide +kernel) rfl), g_Tm 1281 rfl rfl, by decide, by decide, by decide +kernel⟩, (g_Tm 1280 (by decide +kernel) rfl), rfl, rfl⟩
set_option maxHeartbeats 4000000 in
set_option maxRecDepth 100000 in
theorem law_pre {r : Nat × (Nat → Int32)} {Q : gO → List gH → gS → Prop} {s s1 s2 : gS} {z1 z2 : Int} (hB : B_init_k0 (g_nw s 0) = some (z1, s1)) (hM : M_init_k0 (g_nw s1 49) = some (z2, s2)) (k : G (M_law r false) Q (g_S, 75, 54000) (g_nw s2 74) 23 [some (.ref 4000), some (.ref 0), some (.ref 49), some (.ref 74), some (gi 0), none, none] []) : G (M_law r true) Q ([], 0, 0) s 0 [some (.ref 4000), none, none, none, none, none, none] [] := by
  refine G_new (S' := Y_1) (n := 0) (fl := [some none, some none, some none, some none, some none]) t_0 (g_da dt_law0 0 rfl) (show g_cl[0]? = some (R_0, F_0, 5) from rfl) tk_0 clw_8 in_0 ii_0 rfl (by decide +kernel) (Nat.le_of_ble_eq_true rfl) (Nat.le_of_ble_eq_true rfl) (by decide +kernel) rfl (by decide +kernel) ?_
  refine G_dup (g_da dt_law0 1 rfl) rfl ?_
  refine H_cI (B_init_k0_ok hB) (g_da dt_law0 2 rfl) lkw_25 miw_B_init rfl rfl rfl ⟨rfl, rfl⟩ rfl ?_
  refine G_astore_n (lv' := [some (.ref 4000), some (.ref 0), none, none, none, none, none]) (g_da dt_law0 3 rfl) rfl (Nat.le_of_ble_eq_true rfl) rfl rfl ?_
  refine G_new (S' := Y_99) (n := 49) (fl := [none, some none, some none, none, none, none, none, none, none, none, none, none, none, none, some none, some none, some none, none, some none, some none, some none, some none, none, none, none, none, none, none, none, some none, some none, some none, none, some none, some none, some none, none, some none, some none, none, none, none, none, none, none, none, none, none, some none, some none, some none, some none, some none, some none, some none]) t_12 (g_da dt_law0 4 rfl) (show g_cl[12]? = some (R_12, F_12, 55) from rfl) tk_12 clw_26 in_12 ii_12 rfl (by decide +kernel) (Nat.le_of_ble_eq_true rfl) (Nat.le_of_ble_eq_true rfl) (by decide +kernel) rfl (by decide +kernel) ?_
  refine G_dup (g_da dt_law0 5 rfl) rfl ?_
  refine H_cI (M_init_k0_ok hM) (g_da dt_law0 6 rfl) lkw_28 miw_M_init rfl rfl rfl ⟨rfl, rfl⟩ rfl ?_
  refine G_astore_n (lv' := [some (.ref 4000), some (.ref 0), some (.ref 49), none, none, none, none]) (g_da dt_law0 7 rfl) rfl (Nat.le_of_ble_eq_true rfl) rfl rfl ?_
  refine G_iconst (g_da dt_law0 8 rfl) ?_
  refine G_newarray (S' := Y_148) (q := 74) (g_da dt_law0 9 rfl) rfl (g_ark3 1) ay_3 w_1 (by decide +kernel) rfl (by decide +kernel) (Nat.le_of_ble_eq_true rfl) (Nat.le_of_ble_eq_true rfl) rfl (by decide +kernel) ?_
  refine G_astore_n (lv' := [some (.ref 4000), some (.ref 0), some (.ref 49), some (.ref 74), none, none, none]) (g_da dt_law0 10 rfl) rfl (Nat.le_of_ble_eq_true rfl) rfl rfl ?_
  refine G_iconst (g_da dt_law0 11 rfl) ?_
  refine G_istore (lv' := [some (.ref 4000), some (.ref 0), some (.ref 49), some (.ref 74), some (gi 0), none, none]) (g_da dt_law0 12 rfl) (Nat.le_of_ble_eq_true rfl) rfl rfl ?_
  rw [Y_all]
  exact G_flag (G_wide (by decide) (by decide) rfl k)
