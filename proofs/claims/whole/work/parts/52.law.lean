/-! the law: helpers, calls, loop (by program) -/
def M_law (r : Nat × (Nat → Int32)) (al : Bool) : gM := (⟨"BandPressLaw", "law", "([I)Z"⟩, code, some .boolean, 7, { frames := 14, cells := 1103, slots := 59611, locals := 538 }, al, false, some r)
def M_Lrun : gM := (⟨"BandPressLaw", "run", "(LBandPress;I[J)I"⟩, method_3_code, some .int, 4, { frames := 8, cells := 1, slots := 6, locals := 200 }, false, false, none)
def dl_Lrun : List (Instr × Nat) := [(.aload_n 2, 1), (.iconst 0, 1), (.aload_n 0, 1), (.iload_n 1, 1), (.invokevirtual 7, 3), (.i2l, 1), (.lastore, 1), (.goto 9, 3), (.astore_n 3, 1), (.iconst 1, 1), (.ireturn, 1), (.astore_n 3, 1), (.iconst 2, 1), (.ireturn, 1), (.iconst 0, 1), (.ireturn, 1)]
set_option maxHeartbeats 4000000 in
set_option maxRecDepth 100000 in
theorem dt_Lrun : g_dc (g_b M_Lrun) 0 dl_Lrun = true := by decide +kernel
theorem lw_l_7 : Cond.methodLink "BandPressLaw" 7 ⟨"BandPress", "run", "(I)I"⟩ ∈ g_T := (g_Tm 792 (by decide +kernel) rfl)
set_option maxHeartbeats 4000000 in
set_option maxRecDepth 100000 in
theorem nv_B_run : g_mv M_B_run 1 := ⟨⟨(g_Tm 89 (by decide +kernel) rfl), g_Tm 795 rfl rfl, by decide, by decide, by decide +kernel⟩, (g_Tm 793 (by decide +kernel) rfl), (g_Tm 794 (by decide +kernel) rfl)⟩
set_option maxHeartbeats 4000000 in
set_option maxRecDepth 100000 in
theorem L_run_0 {J : gS → gS} (hJ : g_jc J) {a z : Int} {s s1 : gS} (h : B_run a s = some (0, z, s1)) : G M_Lrun (QE g_S J 0 (g_up s1 74 0 (w32 z))) (g_S, 0, 0) (J s) 0 [some (.ref 0), some (gi a), some (.ref 74), none] [] := by
  refine G_aload_n (g_da dt_Lrun 0 rfl) rfl rfl ?_
  refine G_iconst (g_da dt_Lrun 1 rfl) ?_
  refine G_aload_n (g_da dt_Lrun 2 rfl) rfl rfl ?_
  refine G_iload_n (g_da dt_Lrun 3 rfl) rfl rfl ?_
  refine G_iVX (as := [gi a]) (b := 0) (N := M_B_run) (B_run_ok hJ h) rfl (Nat.le_of_ble_eq_true rfl) rfl rfl (by decide) (plainFor_of_name (by decide)) (g_da dt_Lrun 4 rfl) lw_l_7 nv_B_run rfl sh_0 rfl rfl rfl rfl rfl (fun r S sg' hq => ?_) (fun k S sg' hq => ?_)
  · obtain ⟨rfl, h1, rfl⟩ := hq
    rw [if_pos rfl] at h1
    cases h1
    refine G_i2l (g_da dt_Lrun 5 rfl) ?_
    refine H_lastore (g_da dt_Lrun 6 rfl) sh_74 (hJ 74 rfl) w_0 ⟨by decide, by decide⟩ rfl (fun s2 e2 => ?_)
    subst e2
    refine G_goto (g_da dt_Lrun 7 rfl) rfl ?_
    refine G_iconst (g_da dt_Lrun 14 rfl) ?_
    exact G_ireturn (g_da dt_Lrun 15 rfl) rfl rfl rfl (g_nz rfl) ⟨rfl, rfl, rfl⟩
  · obtain ⟨rfl, h1, rfl⟩ := hq
    rw [if_pos rfl] at h1
    cases h1
set_option maxHeartbeats 4000000 in
set_option maxRecDepth 100000 in
theorem L_run_1 {J : gS → gS} (hJ : g_jc J) {a z : Int} {s s1 : gS} (h : B_run a s = some (1, z, s1)) : G M_Lrun (QE g_S J 1 s1) (g_S, 0, 0) (J s) 0 [some (.ref 0), some (gi a), some (.ref 74), none] [] := by
  refine G_aload_n (g_da dt_Lrun 0 rfl) rfl rfl ?_
  refine G_iconst (g_da dt_Lrun 1 rfl) ?_
  refine G_aload_n (g_da dt_Lrun 2 rfl) rfl rfl ?_
  refine G_iload_n (g_da dt_Lrun 3 rfl) rfl rfl ?_
  refine G_iVX (as := [gi a]) (b := 0) (N := M_B_run) (B_run_ok hJ h) rfl (Nat.le_of_ble_eq_true rfl) rfl rfl (by decide) (plainFor_of_name (by decide)) (g_da dt_Lrun 4 rfl) lw_l_7 nv_B_run rfl sh_0 rfl rfl rfl rfl rfl (fun r S sg' hq => ?_) (fun k S sg' hq => ?_)
  · obtain ⟨rfl, h1, rfl⟩ := hq
    rw [if_neg (by decide)] at h1
    cases h1
  · obtain ⟨rfl, h1, rfl⟩ := hq
    rw [if_neg (by decide)] at h1
    have hk : k = 0 := Sum.inr.inj h1
    subst hk
    refine ⟨12, ⟨⟨by decide, by decide, by decide⟩, Or.inl ⟨rfl, g_Tm 790 (by decide +kernel) rfl, g_Nm 798 (by decide +kernel) rfl⟩⟩, (g_da dt_Lrun 8 rfl), by decide, rfl, ?_⟩
    refine G_iconst (g_da dt_Lrun 9 rfl) ?_
    exact G_ireturn (g_da dt_Lrun 10 rfl) rfl rfl rfl (g_nz rfl) ⟨rfl, rfl, rfl⟩
set_option maxHeartbeats 4000000 in
set_option maxRecDepth 100000 in
theorem L_run_2 {J : gS → gS} (hJ : g_jc J) {a z : Int} {s s1 : gS} (h : B_run a s = some (2, z, s1)) : G M_Lrun (QE g_S J 2 s1) (g_S, 0, 0) (J s) 0 [some (.ref 0), some (gi a), some (.ref 74), none] [] := by
  refine G_aload_n (g_da dt_Lrun 0 rfl) rfl rfl ?_
  refine G_iconst (g_da dt_Lrun 1 rfl) ?_
  refine G_aload_n (g_da dt_Lrun 2 rfl) rfl rfl ?_
  refine G_iload_n (g_da dt_Lrun 3 rfl) rfl rfl ?_
  refine G_iVX (as := [gi a]) (b := 0) (N := M_B_run) (B_run_ok hJ h) rfl (Nat.le_of_ble_eq_true rfl) rfl rfl (by decide) (plainFor_of_name (by decide)) (g_da dt_Lrun 4 rfl) lw_l_7 nv_B_run rfl sh_0 rfl rfl rfl rfl rfl (fun r S sg' hq => ?_) (fun k S sg' hq => ?_)
  · obtain ⟨rfl, h1, rfl⟩ := hq
    rw [if_neg (by decide)] at h1
    cases h1
  · obtain ⟨rfl, h1, rfl⟩ := hq
    rw [if_neg (by decide)] at h1
    have hk : k = 1 := Sum.inr.inj h1
    subst hk
    refine ⟨15, ⟨⟨by decide, by decide, by decide⟩, Or.inr ⟨g_Tm 790 (by decide +kernel) rfl, rfl, ⟨by decide, by decide, by decide⟩, Or.inl ⟨rfl, g_Tm 791 (by decide +kernel) rfl, g_Nm 861 (by decide +kernel) rfl⟩⟩⟩, (g_da dt_Lrun 11 rfl), by decide, rfl, ?_⟩
    refine G_iconst (g_da dt_Lrun 12 rfl) ?_
    exact G_ireturn (g_da dt_Lrun 13 rfl) rfl rfl rfl (g_nz rfl) ⟨rfl, rfl, rfl⟩
set_option maxHeartbeats 4000000 in
set_option maxRecDepth 100000 in
theorem cw_run : Cond.codeWith ⟨"BandPressLaw", "run", "(LBandPress;I[J)I"⟩ method_3_code 4 (some .int) [(0, 9, 12, 13), (0, 9, 15, 15)] ∈ g_T := g_Tm 789 rfl rfl
theorem dn_run : (parseMethodDescriptor (g_y M_Lrun).desc).map (fun d => d.parameters.length) = some 3 := by decide +kernel
theorem sw_run : Cond.static ⟨"BandPressLaw", "run", "(LBandPress;I[J)I"⟩ ∈ g_T := (g_Tm 788 (by decide +kernel) rfl)
def M_Lvalue : gM := (⟨"BandPressLaw", "value", "(LBandPress;I[J)I"⟩, method_4_code, some .int, 4, { frames := 8, cells := 1, slots := 6, locals := 140 }, false, false, none)
def dl_Lvalue : List (Instr × Nat) := [(.aload_n 2, 1), (.iconst 0, 1), (.aload_n 0, 1), (.iload_n 1, 1), (.invokevirtual 17, 3), (.i2l, 1), (.lastore, 1), (.goto 6, 3), (.astore_n 3, 1), (.iconst 1, 1), (.ireturn, 1), (.iconst 0, 1), (.ireturn, 1)]
set_option maxHeartbeats 4000000 in
set_option maxRecDepth 100000 in
theorem dt_Lvalue : g_dc (g_b M_Lvalue) 0 dl_Lvalue = true := by decide +kernel
theorem lw_l_17 : Cond.methodLink "BandPressLaw" 17 ⟨"BandPress", "value", "(I)I"⟩ ∈ g_T := (g_Tm 1193 (by decide +kernel) rfl)
set_option maxHeartbeats 4000000 in
set_option maxRecDepth 100000 in
theorem nv_B_value : g_mv M_B_value 1 := ⟨⟨(g_Tm 89 (by decide +kernel) rfl), g_Tm 1196 rfl rfl, by decide, by decide, by decide +kernel⟩, (g_Tm 1194 (by decide +kernel) rfl), (g_Tm 1195 (by decide +kernel) rfl)⟩
set_option maxHeartbeats 4000000 in
set_option maxRecDepth 100000 in
theorem L_value_0 {J : gS → gS} (hJ : g_jc J) {a z : Int} {s s1 : gS} (h : B_value a s = some (0, z, s1)) : G M_Lvalue (QE g_S J 0 (g_up s1 74 0 (w32 z))) (g_S, 0, 0) (J s) 0 [some (.ref 0), some (gi a), some (.ref 74), none] [] := by
  refine G_aload_n (g_da dt_Lvalue 0 rfl) rfl rfl ?_
  refine G_iconst (g_da dt_Lvalue 1 rfl) ?_
  refine G_aload_n (g_da dt_Lvalue 2 rfl) rfl rfl ?_
  refine G_iload_n (g_da dt_Lvalue 3 rfl) rfl rfl ?_
  refine G_iVX (as := [gi a]) (b := 0) (N := M_B_value) (B_value_ok hJ h) rfl (Nat.le_of_ble_eq_true rfl) rfl rfl (by decide) (plainFor_of_name (by decide)) (g_da dt_Lvalue 4 rfl) lw_l_17 nv_B_value rfl sh_0 rfl rfl rfl rfl rfl (fun r S sg' hq => ?_) (fun k S sg' hq => ?_)
  · obtain ⟨rfl, h1, rfl⟩ := hq
    rw [if_pos rfl] at h1
    cases h1
    refine G_i2l (g_da dt_Lvalue 5 rfl) ?_
    refine H_lastore (g_da dt_Lvalue 6 rfl) sh_74 (hJ 74 rfl) w_0 ⟨by decide, by decide⟩ rfl (fun s2 e2 => ?_)
    subst e2
    refine G_goto (g_da dt_Lvalue 7 rfl) rfl ?_
    refine G_iconst (g_da dt_Lvalue 11 rfl) ?_
    exact G_ireturn (g_da dt_Lvalue 12 rfl) rfl rfl rfl (g_nz rfl) ⟨rfl, rfl, rfl⟩
  · obtain ⟨rfl, h1, rfl⟩ := hq
    rw [if_pos rfl] at h1
    cases h1
set_option maxHeartbeats 4000000 in
set_option maxRecDepth 100000 in
theorem L_value_3 {J : gS → gS} (hJ : g_jc J) {a z : Int} {s s1 : gS} (h : B_value a s = some (3, z, s1)) : G M_Lvalue (QE g_S J 1 s1) (g_S, 0, 0) (J s) 0 [some (.ref 0), some (gi a), some (.ref 74), none] [] := by
  refine G_aload_n (g_da dt_Lvalue 0 rfl) rfl rfl ?_
  refine G_iconst (g_da dt_Lvalue 1 rfl) ?_
  refine G_aload_n (g_da dt_Lvalue 2 rfl) rfl rfl ?_
  refine G_iload_n (g_da dt_Lvalue 3 rfl) rfl rfl ?_
  refine G_iVX (as := [gi a]) (b := 0) (N := M_B_value) (B_value_ok hJ h) rfl (Nat.le_of_ble_eq_true rfl) rfl rfl (by decide) (plainFor_of_name (by decide)) (g_da dt_Lvalue 4 rfl) lw_l_17 nv_B_value rfl sh_0 rfl rfl rfl rfl rfl (fun r S sg' hq => ?_) (fun k S sg' hq => ?_)
  · obtain ⟨rfl, h1, rfl⟩ := hq
    rw [if_neg (by decide)] at h1
    cases h1
  · obtain ⟨rfl, h1, rfl⟩ := hq
    rw [if_neg (by decide)] at h1
    have hk : k = 2 := Sum.inr.inj h1
    subst hk
    refine ⟨12, ⟨⟨by decide, by decide, by decide⟩, Or.inl ⟨rfl, g_Tm 1192 (by decide +kernel) rfl, g_Nm 1199 (by decide +kernel) rfl⟩⟩, (g_da dt_Lvalue 8 rfl), by decide, rfl, ?_⟩
    refine G_iconst (g_da dt_Lvalue 9 rfl) ?_
    exact G_ireturn (g_da dt_Lvalue 10 rfl) rfl rfl rfl (g_nz rfl) ⟨rfl, rfl, rfl⟩
set_option maxHeartbeats 4000000 in
set_option maxRecDepth 100000 in
theorem cw_value : Cond.codeWith ⟨"BandPressLaw", "value", "(LBandPress;I[J)I"⟩ method_4_code 4 (some .int) [(0, 9, 12, 20)] ∈ g_T := g_Tm 1191 rfl rfl
theorem dn_value : (parseMethodDescriptor (g_y M_Lvalue).desc).map (fun d => d.parameters.length) = some 3 := by decide +kernel
theorem sw_value : Cond.static ⟨"BandPressLaw", "value", "(LBandPress;I[J)I"⟩ ∈ g_T := (g_Tm 1190 (by decide +kernel) rfl)
def M_Ltick : gM := (⟨"BandPressLaw", "tick", "(LBandPress;I[J)I"⟩, method_5_code, some .int, 4, { frames := 8, cells := 1, slots := 6, locals := 160 }, false, false, none)
def dl_Ltick : List (Instr × Nat) := [(.aload_n 2, 1), (.iconst 0, 1), (.aload_n 0, 1), (.iload_n 1, 1), (.invokevirtual 22, 3), (.i2l, 1), (.lastore, 1), (.goto 6, 3), (.astore_n 3, 1), (.iconst 1, 1), (.ireturn, 1), (.iconst 0, 1), (.ireturn, 1)]
set_option maxHeartbeats 4000000 in
set_option maxRecDepth 100000 in
theorem dt_Ltick : g_dc (g_b M_Ltick) 0 dl_Ltick = true := by decide +kernel
theorem lw_l_22 : Cond.methodLink "BandPressLaw" 22 ⟨"BandPress", "tick", "(I)I"⟩ ∈ g_T := (g_Tm 1216 (by decide +kernel) rfl)
set_option maxHeartbeats 4000000 in
set_option maxRecDepth 100000 in
theorem nv_B_tick : g_mv M_B_tick 1 := ⟨⟨(g_Tm 89 (by decide +kernel) rfl), g_Tm 1219 rfl rfl, by decide, by decide, by decide +kernel⟩, (g_Tm 1217 (by decide +kernel) rfl), (g_Tm 1218 (by decide +kernel) rfl)⟩
set_option maxHeartbeats 4000000 in
set_option maxRecDepth 100000 in
theorem L_tick_0 {J : gS → gS} (hJ : g_jc J) {a z : Int} {s s1 : gS} (h : B_tick a s = some (0, z, s1)) : G M_Ltick (QE g_S J 0 (g_up s1 74 0 (w32 z))) (g_S, 0, 0) (J s) 0 [some (.ref 0), some (gi a), some (.ref 74), none] [] := by
  refine G_aload_n (g_da dt_Ltick 0 rfl) rfl rfl ?_
  refine G_iconst (g_da dt_Ltick 1 rfl) ?_
  refine G_aload_n (g_da dt_Ltick 2 rfl) rfl rfl ?_
  refine G_iload_n (g_da dt_Ltick 3 rfl) rfl rfl ?_
  refine G_iVX (as := [gi a]) (b := 0) (N := M_B_tick) (B_tick_ok hJ h) rfl (Nat.le_of_ble_eq_true rfl) rfl rfl (by decide) (plainFor_of_name (by decide)) (g_da dt_Ltick 4 rfl) lw_l_22 nv_B_tick rfl sh_0 rfl rfl rfl rfl rfl (fun r S sg' hq => ?_) (fun k S sg' hq => ?_)
  · obtain ⟨rfl, h1, rfl⟩ := hq
    rw [if_pos rfl] at h1
    cases h1
    refine G_i2l (g_da dt_Ltick 5 rfl) ?_
    refine H_lastore (g_da dt_Ltick 6 rfl) sh_74 (hJ 74 rfl) w_0 ⟨by decide, by decide⟩ rfl (fun s2 e2 => ?_)
    subst e2
    refine G_goto (g_da dt_Ltick 7 rfl) rfl ?_
    refine G_iconst (g_da dt_Ltick 11 rfl) ?_
    exact G_ireturn (g_da dt_Ltick 12 rfl) rfl rfl rfl (g_nz rfl) ⟨rfl, rfl, rfl⟩
  · obtain ⟨rfl, h1, rfl⟩ := hq
    rw [if_pos rfl] at h1
    cases h1
set_option maxHeartbeats 4000000 in
set_option maxRecDepth 100000 in
theorem L_tick_2 {J : gS → gS} (hJ : g_jc J) {a z : Int} {s s1 : gS} (h : B_tick a s = some (2, z, s1)) : G M_Ltick (QE g_S J 1 s1) (g_S, 0, 0) (J s) 0 [some (.ref 0), some (gi a), some (.ref 74), none] [] := by
  refine G_aload_n (g_da dt_Ltick 0 rfl) rfl rfl ?_
  refine G_iconst (g_da dt_Ltick 1 rfl) ?_
  refine G_aload_n (g_da dt_Ltick 2 rfl) rfl rfl ?_
  refine G_iload_n (g_da dt_Ltick 3 rfl) rfl rfl ?_
  refine G_iVX (as := [gi a]) (b := 0) (N := M_B_tick) (B_tick_ok hJ h) rfl (Nat.le_of_ble_eq_true rfl) rfl rfl (by decide) (plainFor_of_name (by decide)) (g_da dt_Ltick 4 rfl) lw_l_22 nv_B_tick rfl sh_0 rfl rfl rfl rfl rfl (fun r S sg' hq => ?_) (fun k S sg' hq => ?_)
  · obtain ⟨rfl, h1, rfl⟩ := hq
    rw [if_neg (by decide)] at h1
    cases h1
  · obtain ⟨rfl, h1, rfl⟩ := hq
    rw [if_neg (by decide)] at h1
    have hk : k = 1 := Sum.inr.inj h1
    subst hk
    refine ⟨12, ⟨⟨by decide, by decide, by decide⟩, Or.inl ⟨rfl, g_Tm 791 (by decide +kernel) rfl, g_Nm 861 (by decide +kernel) rfl⟩⟩, (g_da dt_Ltick 8 rfl), by decide, rfl, ?_⟩
    refine G_iconst (g_da dt_Ltick 9 rfl) ?_
    exact G_ireturn (g_da dt_Ltick 10 rfl) rfl rfl rfl (g_nz rfl) ⟨rfl, rfl, rfl⟩
set_option maxHeartbeats 4000000 in
set_option maxRecDepth 100000 in
theorem cw_tick : Cond.codeWith ⟨"BandPressLaw", "tick", "(LBandPress;I[J)I"⟩ method_5_code 4 (some .int) [(0, 9, 12, 15)] ∈ g_T := g_Tm 1215 rfl rfl
theorem dn_tick : (parseMethodDescriptor (g_y M_Ltick).desc).map (fun d => d.parameters.length) = some 3 := by decide +kernel
theorem sw_tick : Cond.static ⟨"BandPressLaw", "tick", "(LBandPress;I[J)I"⟩ ∈ g_T := (g_Tm 1214 (by decide +kernel) rfl)
theorem iw_l : Cond.initialized "BandPressLaw" ∈ g_T := (g_Tm 88 (by decide +kernel) rfl)
theorem g_ftl {M N : gM} {S : List gH} {c1 c2 : Nat} (h : (decide ((g_m N).frames + 1 ≤ (g_m M).frames) && decide (8 + (g_n N + 11) + (g_m N).locals ≤ (g_m M).locals)) = true) (h1 : c1 + (g_m N).cells ≤ (g_m M).cells) (h2 : c2 + (g_m N).slots ≤ (g_m M).slots) : g_ft M N (S, c1, c2) = true := by
  simp only [Bool.and_eq_true, decide_eq_true_eq] at h
  simp only [g_ft, Bool.and_eq_true, decide_eq_true_eq]
  exact ⟨⟨h, h1⟩, h2⟩
theorem l_cmp_0 {x y : Int} (h : x = y) : w32 (l_cmp x y) = 0 := by
  subst h
  simp only [l_cmp]
  rw [if_neg (by omega), if_pos trivial]
  decide
theorem g_sx_w (r : Nat × (Nat → Int32)) (j : Nat) : w32 (g_sx r j) = g_sx r j := w32_id (Int32.le_toInt _) (Int32.toInt_lt _)
theorem l_or_w (x y : Int) : w64 (l_or x y) = l_or x y := w64_id (Int64.le_toInt _) (Int64.toInt_lt _)
def g_lvL (i : Int) : List (Option Value) := [some (.ref 4000), some (.ref 0), some (.ref 49), some (.ref 74), some (gi i), none, none]
def g_kt (r : Nat × (Nat → Int32)) (Q : gO → List gH → gS → Prop) (c1 c2 : Nat) (i : Int) (sC sM : gS) : Prop := G (M_law r false) Q (g_S, c1, c2) (g_j sC sM) 850 [some (.ref 4000), some (.ref 0), some (.ref 49), some (.ref 74), some (gi i), none, none] []
def g_cl2 (K : gS → gS → Prop) (f g : gS → gA) (sC sM : gS) : Prop := ∃ (z z' : Int) (sC' sM' : gS), f sC = some (z, sC') ∧ g sM = some (z', sM') ∧ w32 z = w32 z' ∧ K sC' sM'
def g_clx (K : gS → gS → Prop) (f : gS → gT) (g : gS → gA) (t0 a0 : Int) (sC sM : gS) : Prop := ∃ (z z' : Int) (sC' sM' : gS), f sC = some (t0, z, sC') ∧ g sM = some (z', sM') ∧ w32 (sM' 49 0) = a0 ∧ (t0 = 0 → w32 z = w32 z') ∧ K (if t0 = 0 then g_up sC' 74 0 (w32 z) else sC') sM'
theorem cnw_29 : Cond.constantLong "BandPressLaw" 29 4294967295 ∈ g_T := g_Tm 1746 (by decide +kernel) rfl
theorem lw_l_31 : Cond.methodLink "BandPressLaw" 31 ⟨"BandPress", "type", "(JI)Z"⟩ ∈ g_T := (g_Tm 467 (by decide +kernel) rfl)
set_option maxHeartbeats 4000000 in
set_option maxRecDepth 100000 in
theorem nv_B_type : g_mv M_B_type 2 := ⟨⟨(g_Tm 89 (by decide +kernel) rfl), g_Tm 470 rfl rfl, by decide, by decide, by decide +kernel⟩, (g_Tm 468 (by decide +kernel) rfl), (g_Tm 469 (by decide +kernel) rfl)⟩
theorem lw_l_35 : Cond.methodLink "BandPressLaw" 35 ⟨"BandPressModel", "type", "(JI)Z"⟩ ∈ g_T := (g_Tm 1453 (by decide +kernel) rfl)
set_option maxHeartbeats 4000000 in
set_option maxRecDepth 100000 in
theorem nv_M_type : g_mv M_M_type 2 := ⟨⟨(g_Tm 102 (by decide +kernel) rfl), g_Tm 1456 rfl rfl, by decide, by decide, by decide +kernel⟩, (g_Tm 1454 (by decide +kernel) rfl), (g_Tm 1455 (by decide +kernel) rfl)⟩
set_option maxHeartbeats 4000000 in
set_option maxRecDepth 100000 in
theorem law_0 {r : Nat × (Nat → Int32)} {Q : gO → List gH → gS → Prop} {c1 c2 : Nat} {i : Int} {sC sM : gS} (hc1 : c1 ≤ 1103) (hc2 : c2 ≤ 59611) (hi : 0 ≤ i) (hj : i + 4 ≤ (r.1 : Int)) (hL : (r.1 : Int) ≤ 2048) (H : ∀ a0 a1 : Int, w64 a0 = a0 → w32 a1 = a1 → g_cl2 (g_kt r Q c1 c2 i) (B_type a0 a1) (M_type a0 a1) sC sM) : G (M_law r false) Q (g_S, c1, c2) (g_j sC sM) 120 [some (.ref 4000), some (.ref 0), some (.ref 49), some (.ref 74), some (gi i), none, none] [] := by
  have hw1 : w32 (i + 1) = i + 1 := w32_id (by omega) (by omega)
  have hw2 : w32 (i + 2) = i + 2 := w32_id (by omega) (by omega)
  have hw3 : w32 (i + 3) = i + 3 := w32_id (by omega) (by omega)
  refine G_aload_n (g_da dt_law0 25 rfl) rfl rfl ?_
  refine G_aload_n (g_da dt_law0 26 rfl) rfl rfl ?_
  refine G_iload (g_da dt_law0 27 rfl) rfl ?_
  refine G_iconst (g_da dt_law0 28 rfl) ?_
  refine G_iadd (g_da dt_law0 29 rfl) ?_
  refine G_sld (g_da dt_law0 30 rfl) rfl hw1 ⟨by omega, by omega⟩ ?_
  refine G_i2l (g_da dt_law0 31 rfl) ?_
  refine G_bipush (g_da dt_law0 32 rfl) (by decide) ?_
  refine G_lshl (g_da dt_law0 33 rfl) ?_
  refine G_aload_n (g_da dt_law0 34 rfl) rfl rfl ?_
  refine G_iload (g_da dt_law0 35 rfl) rfl ?_
  refine G_iconst (g_da dt_law0 36 rfl) ?_
  refine G_iadd (g_da dt_law0 37 rfl) ?_
  refine G_sld (g_da dt_law0 38 rfl) rfl hw2 ⟨by omega, by omega⟩ ?_
  refine G_i2l (g_da dt_law0 39 rfl) ?_
  refine G_ldc2 (z := 4294967295) (g_da dt_law1 0 rfl) cnw_29 rfl ?_
  refine G_land (g_da dt_law1 1 rfl) ?_
  refine G_lor (g_da dt_law1 2 rfl) ?_
  refine G_aload_n (g_da dt_law1 3 rfl) rfl rfl ?_
  refine G_iload (g_da dt_law1 4 rfl) rfl ?_
  refine G_iconst (g_da dt_law1 5 rfl) ?_
  refine G_iadd (g_da dt_law1 6 rfl) ?_
  refine G_sld (g_da dt_law1 7 rfl) rfl hw3 ⟨by omega, by omega⟩ ?_
  obtain ⟨z, z1, sC1, sM1, e1, e2, e3, K⟩ := H (l_or (l_shl (w32 (g_sx r (i + 1).toNat)) 32) (l_and (w32 (g_sx r (i + 2).toNat)) 4294967295)) (g_sx r (i + 3).toNat) (l_or_w _ _) (g_sx_w _ _)
  refine H_cVE (J := fun s => g_j s sM) (B_type_ok (g_j_c sM) e1) (g_da dt_law1 8 rfl) (Or.inl lw_l_31) nv_B_type rfl sh_0 rfl (g_ftl rfl hc1 hc2) rfl rfl rfl rfl ?_
  refine G_aload_n (g_da dt_law1 9 rfl) rfl rfl ?_
  refine G_aload_n (g_da dt_law1 10 rfl) rfl rfl ?_
  refine G_iload (g_da dt_law1 11 rfl) rfl ?_
  refine G_iconst (g_da dt_law1 12 rfl) ?_
  refine G_iadd (g_da dt_law1 13 rfl) ?_
  refine G_sld (g_da dt_law1 14 rfl) rfl hw1 ⟨by omega, by omega⟩ ?_
  refine G_i2l (g_da dt_law1 15 rfl) ?_
  refine G_bipush (g_da dt_law1 16 rfl) (by decide) ?_
  refine G_lshl (g_da dt_law1 17 rfl) ?_
  refine G_aload_n (g_da dt_law1 18 rfl) rfl rfl ?_
  refine G_iload (g_da dt_law1 19 rfl) rfl ?_
  refine G_iconst (g_da dt_law1 20 rfl) ?_
  refine G_iadd (g_da dt_law1 21 rfl) ?_
  refine G_sld (g_da dt_law1 22 rfl) rfl hw2 ⟨by omega, by omega⟩ ?_
  refine G_i2l (g_da dt_law1 23 rfl) ?_
  refine G_ldc2 (z := 4294967295) (g_da dt_law1 24 rfl) cnw_29 rfl ?_
  refine G_land (g_da dt_law1 25 rfl) ?_
  refine G_lor (g_da dt_law1 26 rfl) ?_
  refine G_aload_n (g_da dt_law1 27 rfl) rfl rfl ?_
  refine G_iload (g_da dt_law1 28 rfl) rfl ?_
  refine G_iconst (g_da dt_law1 29 rfl) ?_
  refine G_iadd (g_da dt_law1 30 rfl) ?_
  refine G_sld (g_da dt_law1 31 rfl) rfl hw3 ⟨by omega, by omega⟩ ?_
  refine H_cVE (J := fun s => g_j sC1 s) (M_type_ok (g_j_m sC1) e2) (g_da dt_law1 32 rfl) (Or.inl lw_l_35) nv_M_type rfl sh_49 rfl (g_ftl rfl hc1 hc2) rfl rfl rfl rfl ?_
  refine G_icmp_eq (g_da dt_law1 33 rfl) rfl rfl rfl (fun _ => ?_) (fun hc => absurd e3 hc)
  exact G_subK K ⟨rfl, ⟨rfl, ⟨rfl, ⟨rfl, ⟨rfl, trivial⟩⟩⟩⟩⟩
theorem lw_l_36 : Cond.methodLink "BandPressLaw" 36 ⟨"BandPress", "start", "(IZI)I"⟩ ∈ g_T := (g_Tm 481 (by decide +kernel) rfl)
set_option maxHeartbeats 4000000 in
set_option maxRecDepth 100000 in
theorem nv_B_start : g_mv M_B_start 3 := ⟨⟨(g_Tm 89 (by decide +kernel) rfl), g_Tm 484 rfl rfl, by decide, by decide, by decide +kernel⟩, (g_Tm 482 (by decide +kernel) rfl), (g_Tm 483 (by decide +kernel) rfl)⟩
theorem lw_l_40 : Cond.methodLink "BandPressLaw" 40 ⟨"BandPressModel", "start", "(IZI)I"⟩ ∈ g_T := (g_Tm 1460 (by decide +kernel) rfl)
set_option maxHeartbeats 4000000 in
set_option maxRecDepth 100000 in
theorem nv_M_start : g_mv M_M_start 3 := ⟨⟨(g_Tm 102 (by decide +kernel) rfl), g_Tm 1463 rfl rfl, by decide, by decide, by decide +kernel⟩, (g_Tm 1461 (by decide +kernel) rfl), (g_Tm 1462 (by decide +kernel) rfl)⟩
set_option maxHeartbeats 4000000 in
set_option maxRecDepth 100000 in
theorem law_1 {r : Nat × (Nat → Int32)} {Q : gO → List gH → gS → Prop} {c1 c2 : Nat} {i : Int} {sC sM : gS} (hc1 : c1 ≤ 1103) (hc2 : c2 ≤ 59611) (hi : 0 ≤ i) (hj : i + 4 ≤ (r.1 : Int)) (hL : (r.1 : Int) ≤ 2048) (H : ∀ a0 a1 a2 : Int, w32 a0 = a0 → (a1 = 0 ∨ a1 = 1) → w32 a2 = a2 → g_cl2 (g_kt r Q c1 c2 i) (B_start a0 a1 a2) (M_start a0 a1 a2) sC sM) : G (M_law r false) Q (g_S, c1, c2) (g_j sC sM) 189 [some (.ref 4000), some (.ref 0), some (.ref 49), some (.ref 74), some (gi i), none, none] [] := by
  have hw1 : w32 (i + 1) = i + 1 := w32_id (by omega) (by omega)
  have hw2 : w32 (i + 2) = i + 2 := w32_id (by omega) (by omega)
  have hw3 : w32 (i + 3) = i + 3 := w32_id (by omega) (by omega)
  refine G_aload_n (g_da dt_law1 36 rfl) rfl rfl ?_
  refine G_aload_n (g_da dt_law1 37 rfl) rfl rfl ?_
  refine G_iload (g_da dt_law1 38 rfl) rfl ?_
  refine G_iconst (g_da dt_law1 39 rfl) ?_
  refine G_iadd (g_da dt_law2 0 rfl) ?_
  refine G_sld (g_da dt_law2 1 rfl) rfl hw1 ⟨by omega, by omega⟩ ?_
  refine G_aload_n (g_da dt_law2 2 rfl) rfl rfl ?_
  refine G_iload (g_da dt_law2 3 rfl) rfl ?_
  refine G_iconst (g_da dt_law2 4 rfl) ?_
  refine G_iadd (g_da dt_law2 5 rfl) ?_
  refine G_sld (g_da dt_law2 6 rfl) rfl hw2 ⟨by omega, by omega⟩ ?_
  refine G_if_eq (g_da dt_law2 7 rfl) rfl rfl (fun hb1 => ?_) (fun hb1 => ?_)
  · refine G_iconst (g_da dt_law2 10 rfl) ?_
    refine G_aload_n (g_da dt_law2 11 rfl) rfl rfl ?_
    refine G_iload (g_da dt_law2 12 rfl) rfl ?_
    refine G_iconst (g_da dt_law2 13 rfl) ?_
    refine G_iadd (g_da dt_law2 14 rfl) ?_
    refine G_sld (g_da dt_law2 15 rfl) rfl hw3 ⟨by omega, by omega⟩ ?_
    obtain ⟨z, z1, sC1, sM1, e1, e2, e3, K⟩ := H (g_sx r (i + 1).toNat) 0 (g_sx r (i + 3).toNat) (g_sx_w _ _) (Or.inl rfl) (g_sx_w _ _)
    refine H_cVE (J := fun s => g_j s sM) (B_start_ok (g_j_c sM) e1) (g_da dt_law2 16 rfl) (Or.inl lw_l_36) nv_B_start rfl sh_0 rfl (g_ftl rfl hc1 hc2) rfl rfl rfl rfl ?_
    refine G_aload_n (g_da dt_law2 17 rfl) rfl rfl ?_
    refine G_aload_n (g_da dt_law2 18 rfl) rfl rfl ?_
    refine G_iload (g_da dt_law2 19 rfl) rfl ?_
    refine G_iconst (g_da dt_law2 20 rfl) ?_
    refine G_iadd (g_da dt_law2 21 rfl) ?_
    refine G_sld (g_da dt_law2 22 rfl) rfl hw1 ⟨by omega, by omega⟩ ?_
    refine G_aload_n (g_da dt_law2 23 rfl) rfl rfl ?_
    refine G_iload (g_da dt_law2 24 rfl) rfl ?_
    refine G_iconst (g_da dt_law2 25 rfl) ?_
    refine G_iadd (g_da dt_law2 26 rfl) ?_
    refine G_sld (g_da dt_law2 27 rfl) rfl hw2 ⟨by omega, by omega⟩ ?_
    refine G_if_eq (g_da dt_law2 28 rfl) rfl rfl (fun _ => ?_) (fun hc => absurd hb1 hc)
    refine G_iconst (g_da dt_law2 31 rfl) ?_
    refine G_aload_n (g_da dt_law2 32 rfl) rfl rfl ?_
    refine G_iload (g_da dt_law2 33 rfl) rfl ?_
    refine G_iconst (g_da dt_law2 34 rfl) ?_
    refine G_iadd (g_da dt_law2 35 rfl) ?_
    refine G_sld (g_da dt_law2 36 rfl) rfl hw3 ⟨by omega, by omega⟩ ?_
    refine H_cVE (J := fun s => g_j sC1 s) (M_start_ok (g_j_m sC1) e2) (g_da dt_law2 37 rfl) (Or.inl lw_l_40) nv_M_start rfl sh_49 rfl (g_ftl rfl hc1 hc2) rfl rfl rfl rfl ?_
    refine G_icmp_eq (g_da dt_law2 38 rfl) rfl rfl rfl (fun _ => ?_) (fun hc => absurd e3 hc)
    exact G_subK K ⟨rfl, ⟨rfl, ⟨rfl, ⟨rfl, ⟨rfl, trivial⟩⟩⟩⟩⟩
  · refine G_iconst (g_da dt_law2 8 rfl) ?_
    refine G_goto (g_da dt_law2 9 rfl) rfl ?_
    refine G_aload_n (g_da dt_law2 11 rfl) rfl rfl ?_
    refine G_iload (g_da dt_law2 12 rfl) rfl ?_
    refine G_iconst (g_da dt_law2 13 rfl) ?_
    refine G_iadd (g_da dt_law2 14 rfl) ?_
    refine G_sld (g_da dt_law2 15 rfl) rfl hw3 ⟨by omega, by omega⟩ ?_
    obtain ⟨z, z1, sC1, sM1, e1, e2, e3, K⟩ := H (g_sx r (i + 1).toNat) 1 (g_sx r (i + 3).toNat) (g_sx_w _ _) (Or.inr rfl) (g_sx_w _ _)
    refine H_cVE (J := fun s => g_j s sM) (B_start_ok (g_j_c sM) e1) (g_da dt_law2 16 rfl) (Or.inl lw_l_36) nv_B_start rfl sh_0 rfl (g_ftl rfl hc1 hc2) rfl rfl rfl rfl ?_
    refine G_aload_n (g_da dt_law2 17 rfl) rfl rfl ?_
    refine G_aload_n (g_da dt_law2 18 rfl) rfl rfl ?_
    refine G_iload (g_da dt_law2 19 rfl) rfl ?_
    refine G_iconst (g_da dt_law2 20 rfl) ?_
    refine G_iadd (g_da dt_law2 21 rfl) ?_
    refine G_sld (g_da dt_law2 22 rfl) rfl hw1 ⟨by omega, by omega⟩ ?_
    refine G_aload_n (g_da dt_law2 23 rfl) rfl rfl ?_
    refine G_iload (g_da dt_law2 24 rfl) rfl ?_
    refine G_iconst (g_da dt_law2 25 rfl) ?_
    refine G_iadd (g_da dt_law2 26 rfl) ?_
    refine G_sld (g_da dt_law2 27 rfl) rfl hw2 ⟨by omega, by omega⟩ ?_
    refine G_if_eq (g_da dt_law2 28 rfl) rfl rfl (fun hc => absurd hc hb1) (fun _ => ?_)
    refine G_iconst (g_da dt_law2 29 rfl) ?_
    refine G_goto (g_da dt_law2 30 rfl) rfl ?_
    refine G_aload_n (g_da dt_law2 32 rfl) rfl rfl ?_
    refine G_iload (g_da dt_law2 33 rfl) rfl ?_
    refine G_iconst (g_da dt_law2 34 rfl) ?_
    refine G_iadd (g_da dt_law2 35 rfl) ?_
    refine G_sld (g_da dt_law2 36 rfl) rfl hw3 ⟨by omega, by omega⟩ ?_
    refine H_cVE (J := fun s => g_j sC1 s) (M_start_ok (g_j_m sC1) e2) (g_da dt_law2 37 rfl) (Or.inl lw_l_40) nv_M_start rfl sh_49 rfl (g_ftl rfl hc1 hc2) rfl rfl rfl rfl ?_
    refine G_icmp_eq (g_da dt_law2 38 rfl) rfl rfl rfl (fun _ => ?_) (fun hc => absurd e3 hc)
    exact G_subK K ⟨rfl, ⟨rfl, ⟨rfl, ⟨rfl, ⟨rfl, trivial⟩⟩⟩⟩⟩
theorem lw_l_41 : Cond.methodLink "BandPressLaw" 41 ⟨"BandPressLaw", "run", "(LBandPress;I[J)I"⟩ ∈ g_T := (g_Tm 787 (by decide +kernel) rfl)
theorem lw_l_46 : Cond.methodLink "BandPressLaw" 46 ⟨"BandPressModel", "run", "(I)I"⟩ ∈ g_T := (g_Tm 1485 (by decide +kernel) rfl)
set_option maxHeartbeats 4000000 in
set_option maxRecDepth 100000 in
theorem nv_M_run : g_mv M_M_run 1 := ⟨⟨(g_Tm 102 (by decide +kernel) rfl), g_Tm 1488 rfl rfl, by decide, by decide, by decide +kernel⟩, (g_Tm 1486 (by decide +kernel) rfl), (g_Tm 1487 (by decide +kernel) rfl)⟩
theorem lw_l_47 : Cond.methodLink "BandPressLaw" 47 ⟨"BandPressModel", "thrown", "()I"⟩ ∈ g_T := (g_Tm 1449 (by decide +kernel) rfl)
set_option maxHeartbeats 4000000 in
set_option maxRecDepth 100000 in
theorem nv_M_thrown : g_mv M_M_thrown 0 := ⟨⟨(g_Tm 102 (by decide +kernel) rfl), g_Tm 1452 rfl rfl, by decide, by decide, by decide +kernel⟩, (g_Tm 1450 (by decide +kernel) rfl), (g_Tm 1451 (by decide +kernel) rfl)⟩
set_option maxHeartbeats 4000000 in
set_option maxRecDepth 100000 in
theorem law_2 {r : Nat × (Nat → Int32)} {Q : gO → List gH → gS → Prop} {c1 c2 : Nat} {i : Int} {sC sM : gS} (hc1 : c1 + 1 ≤ 1103) (hc2 : c2 + 6 ≤ 59611) (hi : 0 ≤ i) (hj : i + 4 ≤ (r.1 : Int)) (hL : (r.1 : Int) ≤ 2048) (H : ∀ a : Int, w32 a = a → g_clx (g_kt r Q (c1 + 1) (c2 + 6) i) (B_run a) (M_run a) 0 0 sC sM ∨ g_clx (g_kt r Q (c1 + 1) (c2 + 6) i) (B_run a) (M_run a) 1 1 sC sM ∨ g_clx (g_kt r Q (c1 + 1) (c2 + 6) i) (B_run a) (M_run a) 2 2 sC sM) : G (M_law r false) Q (g_S, c1, c2) (g_j sC sM) 254 [some (.ref 4000), some (.ref 0), some (.ref 49), some (.ref 74), some (gi i), none, none] [] := by
  have hw1 : w32 (i + 1) = i + 1 := w32_id (by omega) (by omega)
  have hw2 : w32 (i + 2) = i + 2 := w32_id (by omega) (by omega)
  have hw3 : w32 (i + 3) = i + 3 := w32_id (by omega) (by omega)
  have hd1 : c1 + 1 + 0 ≤ 1103 := hc1
  have hd2 : c2 + 6 + 0 ≤ 59611 := hc2
  refine G_aload_n (g_da dt_law3 1 rfl) rfl rfl ?_
  refine G_aload_n (g_da dt_law3 2 rfl) rfl rfl ?_
  refine G_iload (g_da dt_law3 3 rfl) rfl ?_
  refine G_iconst (g_da dt_law3 4 rfl) ?_
  refine G_iadd (g_da dt_law3 5 rfl) ?_
  refine G_sld (g_da dt_law3 6 rfl) rfl hw1 ⟨by omega, by omega⟩ ?_
  refine G_aload_n (g_da dt_law3 7 rfl) rfl rfl ?_
  rcases H (g_sx r (i + 1).toNat) (g_sx_w _ _) with ⟨z, z1, sC1, sM1, e1, e2, e3, e4, K⟩ | ⟨z, z1, sC1, sM1, e1, e2, e3, e4, K⟩ | ⟨z, z1, sC1, sM1, e1, e2, e3, e4, K⟩
  · refine G_iS (Z := (g_S, c1, c2)) (N := M_Lrun) (as := [.ref 0, gi (g_sx r (i + 1).toNat), .ref 74]) (hh := g_hm (g_y M_Lrun)) (L_run_0 (J := fun s => g_j s sM) (g_j_c sM) e1) rfl (Nat.le_of_ble_eq_true rfl) rfl rfl rfl (plainFor_of_name (by decide)) (g_da dt_law3 8 rfl) lw_l_41 sw_run iw_l cw_run (by decide) dn_run (g_ftl rfl hc1 hc2) rfl rfl rfl (fun o S sg' hq => ?_)
    obtain ⟨rfl, rfl, rfl⟩ := hq
    refine ⟨_, rfl, ?_⟩
    refine G_istore (lv' := [some (.ref 4000), some (.ref 0), some (.ref 49), some (.ref 74), some (gi i), some (gi 0), none]) (g_da dt_law3 9 rfl) (Nat.le_of_ble_eq_true rfl) rfl rfl ?_
    refine G_aload_n (g_da dt_law3 10 rfl) rfl rfl ?_
    refine G_aload_n (g_da dt_law3 11 rfl) rfl rfl ?_
    refine G_iload (g_da dt_law3 12 rfl) rfl ?_
    refine G_iconst (g_da dt_law3 13 rfl) ?_
    refine G_iadd (g_da dt_law3 14 rfl) ?_
    refine G_sld (g_da dt_law3 15 rfl) rfl hw1 ⟨by omega, by omega⟩ ?_
    refine H_cVE (J := fun s => g_j (g_up sC1 74 0 (w32 z)) s) (M_run_ok (g_j_m (g_up sC1 74 0 (w32 z))) e2) (g_da dt_law3 16 rfl) (Or.inl lw_l_46) nv_M_run rfl sh_49 rfl (g_ftl rfl hd1 hd2) rfl rfl rfl rfl ?_
    refine G_istore (lv' := [some (.ref 4000), some (.ref 0), some (.ref 49), some (.ref 74), some (gi i), some (gi 0), some (gi z1)]) (g_da dt_law3 17 rfl) (Nat.le_of_ble_eq_true rfl) rfl rfl ?_
    refine G_aload_n (g_da dt_law3 18 rfl) rfl rfl ?_
    refine H_cVE (J := fun s => g_j (g_up sC1 74 0 (w32 z)) s) (M_thrown_ok (g_j_m (g_up sC1 74 0 (w32 z))) (z0 := sM1 49 0) (s0 := sM1) rfl) (g_da dt_law3 19 rfl) (Or.inl lw_l_47) nv_M_thrown rfl sh_49 rfl (g_ftl rfl hd1 hd2) rfl rfl rfl rfl ?_
    refine G_iload (g_da dt_law3 20 rfl) rfl ?_
    refine G_icmp_eq (g_da dt_law3 21 rfl) rfl e3 w_0 (fun _ => ?_) (fun hc => absurd rfl hc)
    refine G_iload (g_da dt_law3 24 rfl) rfl ?_
    refine G_if_ne (g_da dt_law3 25 rfl) rfl w_0 (fun hc => absurd rfl hc) (fun _ => ?_)
    refine G_aload_n (g_da dt_law3 26 rfl) rfl rfl ?_
    refine G_iconst (g_da dt_law3 27 rfl) ?_
    refine H_laload (j := 0) (J := fun s => g_j s sM1) (g_da dt_law3 28 rfl) sh_74 (g_j_c sM1 74 rfl) w_0 ⟨by decide, by decide⟩ rfl ?_
    rw [show (g_up sC1 74 0 (w32 z)) 74 0 = w32 z by simp [g_up]]
    refine G_iload (g_da dt_law3 29 rfl) rfl ?_
    refine G_i2l (g_da dt_law3 30 rfl) ?_
    refine G_lcmp (g_da dt_law3 31 rfl) ?_
    refine G_if_eq (g_da dt_law3 32 rfl) rfl (l_cmp_0 (e4 rfl)) (fun _ => ?_) (fun hc => absurd rfl hc)
    refine G_goto (g_da dt_law3 35 rfl) rfl ?_
    exact G_subK K ⟨rfl, ⟨rfl, ⟨rfl, ⟨rfl, ⟨rfl, trivial⟩⟩⟩⟩⟩
  · refine G_iS (Z := (g_S, c1, c2)) (N := M_Lrun) (as := [.ref 0, gi (g_sx r (i + 1).toNat), .ref 74]) (hh := g_hm (g_y M_Lrun)) (L_run_1 (J := fun s => g_j s sM) (g_j_c sM) e1) rfl (Nat.le_of_ble_eq_true rfl) rfl rfl rfl (plainFor_of_name (by decide)) (g_da dt_law3 8 rfl) lw_l_41 sw_run iw_l cw_run (by decide) dn_run (g_ftl rfl hc1 hc2) rfl rfl rfl (fun o S sg' hq => ?_)
    obtain ⟨rfl, rfl, rfl⟩ := hq
    refine ⟨_, rfl, ?_⟩
    refine G_istore (lv' := [some (.ref 4000), some (.ref 0), some (.ref 49), some (.ref 74), some (gi i), some (gi 1), none]) (g_da dt_law3 9 rfl) (Nat.le_of_ble_eq_true rfl) rfl rfl ?_
    refine G_aload_n (g_da dt_law3 10 rfl) rfl rfl ?_
    refine G_aload_n (g_da dt_law3 11 rfl) rfl rfl ?_
    refine G_iload (g_da dt_law3 12 rfl) rfl ?_
    refine G_iconst (g_da dt_law3 13 rfl) ?_
    refine G_iadd (g_da dt_law3 14 rfl) ?_
    refine G_sld (g_da dt_law3 15 rfl) rfl hw1 ⟨by omega, by omega⟩ ?_
    refine H_cVE (J := fun s => g_j sC1 s) (M_run_ok (g_j_m sC1) e2) (g_da dt_law3 16 rfl) (Or.inl lw_l_46) nv_M_run rfl sh_49 rfl (g_ftl rfl hd1 hd2) rfl rfl rfl rfl ?_
    refine G_istore (lv' := [some (.ref 4000), some (.ref 0), some (.ref 49), some (.ref 74), some (gi i), some (gi 1), some (gi z1)]) (g_da dt_law3 17 rfl) (Nat.le_of_ble_eq_true rfl) rfl rfl ?_
    refine G_aload_n (g_da dt_law3 18 rfl) rfl rfl ?_
    refine H_cVE (J := fun s => g_j sC1 s) (M_thrown_ok (g_j_m sC1) (z0 := sM1 49 0) (s0 := sM1) rfl) (g_da dt_law3 19 rfl) (Or.inl lw_l_47) nv_M_thrown rfl sh_49 rfl (g_ftl rfl hd1 hd2) rfl rfl rfl rfl ?_
    refine G_iload (g_da dt_law3 20 rfl) rfl ?_
    refine G_icmp_eq (g_da dt_law3 21 rfl) rfl e3 w_1 (fun _ => ?_) (fun hc => absurd rfl hc)
    refine G_iload (g_da dt_law3 24 rfl) rfl ?_
    refine G_if_ne (g_da dt_law3 25 rfl) rfl w_1 (fun _ => ?_) (fun hc => absurd hc (by decide))
    refine G_goto (g_da dt_law3 35 rfl) rfl ?_
    exact G_subK K ⟨rfl, ⟨rfl, ⟨rfl, ⟨rfl, ⟨rfl, trivial⟩⟩⟩⟩⟩
  · refine G_iS (Z := (g_S, c1, c2)) (N := M_Lrun) (as := [.ref 0, gi (g_sx r (i + 1).toNat), .ref 74]) (hh := g_hm (g_y M_Lrun)) (L_run_2 (J := fun s => g_j s sM) (g_j_c sM) e1) rfl (Nat.le_of_ble_eq_true rfl) rfl rfl rfl (plainFor_of_name (by decide)) (g_da dt_law3 8 rfl) lw_l_41 sw_run iw_l cw_run (by decide) dn_run (g_ftl rfl hc1 hc2) rfl rfl rfl (fun o S sg' hq => ?_)
    obtain ⟨rfl, rfl, rfl⟩ := hq
    refine ⟨_, rfl, ?_⟩
    refine G_istore (lv' := [some (.ref 4000), some (.ref 0), some (.ref 49), some (.ref 74), some (gi i), some (gi 2), none]) (g_da dt_law3 9 rfl) (Nat.le_of_ble_eq_true rfl) rfl rfl ?_
    refine G_aload_n (g_da dt_law3 10 rfl) rfl rfl ?_
    refine G_aload_n (g_da dt_law3 11 rfl) rfl rfl ?_
    refine G_iload (g_da dt_law3 12 rfl) rfl ?_
    refine G_iconst (g_da dt_law3 13 rfl) ?_
    refine G_iadd (g_da dt_law3 14 rfl) ?_
    refine G_sld (g_da dt_law3 15 rfl) rfl hw1 ⟨by omega, by omega⟩ ?_
    refine H_cVE (J := fun s => g_j sC1 s) (M_run_ok (g_j_m sC1) e2) (g_da dt_law3 16 rfl) (Or.inl lw_l_46) nv_M_run rfl sh_49 rfl (g_ftl rfl hd1 hd2) rfl rfl rfl rfl ?_
    refine G_istore (lv' := [some (.ref 4000), some (.ref 0), some (.ref 49), some (.ref 74), some (gi i), some (gi 2), some (gi z1)]) (g_da dt_law3 17 rfl) (Nat.le_of_ble_eq_true rfl) rfl rfl ?_
    refine G_aload_n (g_da dt_law3 18 rfl) rfl rfl ?_
    refine H_cVE (J := fun s => g_j sC1 s) (M_thrown_ok (g_j_m sC1) (z0 := sM1 49 0) (s0 := sM1) rfl) (g_da dt_law3 19 rfl) (Or.inl lw_l_47) nv_M_thrown rfl sh_49 rfl (g_ftl rfl hd1 hd2) rfl rfl rfl rfl ?_
    refine G_iload (g_da dt_law3 20 rfl) rfl ?_
    refine G_icmp_eq (g_da dt_law3 21 rfl) rfl e3 w_2 (fun _ => ?_) (fun hc => absurd rfl hc)
    refine G_iload (g_da dt_law3 24 rfl) rfl ?_
    refine G_if_ne (g_da dt_law3 25 rfl) rfl w_2 (fun _ => ?_) (fun hc => absurd hc (by decide))
    refine G_goto (g_da dt_law3 35 rfl) rfl ?_
    exact G_subK K ⟨rfl, ⟨rfl, ⟨rfl, ⟨rfl, ⟨rfl, trivial⟩⟩⟩⟩⟩
theorem lw_l_51 : Cond.methodLink "BandPressLaw" 51 ⟨"BandPress", "job", "(I)I"⟩ ∈ g_T := (g_Tm 664 (by decide +kernel) rfl)
set_option maxHeartbeats 4000000 in
set_option maxRecDepth 100000 in
theorem nv_B_job : g_mv M_B_job 1 := ⟨⟨(g_Tm 89 (by decide +kernel) rfl), g_Tm 667 rfl rfl, by decide, by decide, by decide +kernel⟩, (g_Tm 665 (by decide +kernel) rfl), (g_Tm 666 (by decide +kernel) rfl)⟩
theorem lw_l_54 : Cond.methodLink "BandPressLaw" 54 ⟨"BandPressModel", "job", "(I)I"⟩ ∈ g_T := (g_Tm 1619 (by decide +kernel) rfl)
set_option maxHeartbeats 4000000 in
set_option maxRecDepth 100000 in
theorem nv_M_job : g_mv M_M_job 1 := ⟨⟨(g_Tm 102 (by decide +kernel) rfl), g_Tm 1622 rfl rfl, by decide, by decide, by decide +kernel⟩, (g_Tm 1620 (by decide +kernel) rfl), (g_Tm 1621 (by decide +kernel) rfl)⟩
set_option maxHeartbeats 4000000 in
set_option maxRecDepth 100000 in
theorem law_3 {r : Nat × (Nat → Int32)} {Q : gO → List gH → gS → Prop} {c1 c2 : Nat} {i : Int} {sC sM : gS} (hc1 : c1 ≤ 1103) (hc2 : c2 ≤ 59611) (hi : 0 ≤ i) (hj : i + 4 ≤ (r.1 : Int)) (hL : (r.1 : Int) ≤ 2048) (H : ∀ a0 : Int, w32 a0 = a0 → g_cl2 (g_kt r Q c1 c2 i) (B_job a0) (M_job a0) sC sM) : G (M_law r false) Q (g_S, c1, c2) (g_j sC sM) 310 [some (.ref 4000), some (.ref 0), some (.ref 49), some (.ref 74), some (gi i), none, none] [] := by
  have hw1 : w32 (i + 1) = i + 1 := w32_id (by omega) (by omega)
  have hw2 : w32 (i + 2) = i + 2 := w32_id (by omega) (by omega)
  have hw3 : w32 (i + 3) = i + 3 := w32_id (by omega) (by omega)
  refine G_aload_n (g_da dt_law3 36 rfl) rfl rfl ?_
  refine G_aload_n (g_da dt_law3 37 rfl) rfl rfl ?_
  refine G_iload (g_da dt_law3 38 rfl) rfl ?_
  refine G_iconst (g_da dt_law3 39 rfl) ?_
  refine G_iadd (g_da dt_law4 0 rfl) ?_
  refine G_sld (g_da dt_law4 1 rfl) rfl hw1 ⟨by omega, by omega⟩ ?_
  obtain ⟨z, z1, sC1, sM1, e1, e2, e3, K⟩ := H (g_sx r (i + 1).toNat) (g_sx_w _ _)
  refine H_cVE (J := fun s => g_j s sM) (B_job_ok (g_j_c sM) e1) (g_da dt_law4 2 rfl) (Or.inl lw_l_51) nv_B_job rfl sh_0 rfl (g_ftl rfl hc1 hc2) rfl rfl rfl rfl ?_
  refine G_aload_n (g_da dt_law4 3 rfl) rfl rfl ?_
  refine G_aload_n (g_da dt_law4 4 rfl) rfl rfl ?_
  refine G_iload (g_da dt_law4 5 rfl) rfl ?_
  refine G_iconst (g_da dt_law4 6 rfl) ?_
  refine G_iadd (g_da dt_law4 7 rfl) ?_
  refine G_sld (g_da dt_law4 8 rfl) rfl hw1 ⟨by omega, by omega⟩ ?_
  refine H_cVE (J := fun s => g_j sC1 s) (M_job_ok (g_j_m sC1) e2) (g_da dt_law4 9 rfl) (Or.inl lw_l_54) nv_M_job rfl sh_49 rfl (g_ftl rfl hc1 hc2) rfl rfl rfl rfl ?_
  refine G_icmp_eq (g_da dt_law4 10 rfl) rfl rfl rfl (fun _ => ?_) (fun hc => absurd e3 hc)
  exact G_subK K ⟨rfl, ⟨rfl, ⟨rfl, ⟨rfl, ⟨rfl, trivial⟩⟩⟩⟩⟩
theorem lw_l_55 : Cond.methodLink "BandPressLaw" 55 ⟨"BandPressLaw", "value", "(LBandPress;I[J)I"⟩ ∈ g_T := (g_Tm 1189 (by decide +kernel) rfl)
theorem lw_l_57 : Cond.methodLink "BandPressLaw" 57 ⟨"BandPressModel", "value", "(I)I"⟩ ∈ g_T := (g_Tm 1623 (by decide +kernel) rfl)
set_option maxHeartbeats 4000000 in
set_option maxRecDepth 100000 in
theorem nv_M_value : g_mv M_M_value 1 := ⟨⟨(g_Tm 102 (by decide +kernel) rfl), g_Tm 1626 rfl rfl, by decide, by decide, by decide +kernel⟩, (g_Tm 1624 (by decide +kernel) rfl), (g_Tm 1625 (by decide +kernel) rfl)⟩
set_option maxHeartbeats 4000000 in
set_option maxRecDepth 100000 in
theorem law_4 {r : Nat × (Nat → Int32)} {Q : gO → List gH → gS → Prop} {c1 c2 : Nat} {i : Int} {sC sM : gS} (hc1 : c1 + 1 ≤ 1103) (hc2 : c2 + 6 ≤ 59611) (hi : 0 ≤ i) (hj : i + 4 ≤ (r.1 : Int)) (hL : (r.1 : Int) ≤ 2048) (H : ∀ a : Int, w32 a = a → g_clx (g_kt r Q (c1 + 1) (c2 + 6) i) (B_value a) (M_value a) 0 0 sC sM ∨ g_clx (g_kt r Q (c1 + 1) (c2 + 6) i) (B_value a) (M_value a) 3 1 sC sM) : G (M_law r false) Q (g_S, c1, c2) (g_j sC sM) 335 [some (.ref 4000), some (.ref 0), some (.ref 49), some (.ref 74), some (gi i), none, none] [] := by
  have hw1 : w32 (i + 1) = i + 1 := w32_id (by omega) (by omega)
  have hw2 : w32 (i + 2) = i + 2 := w32_id (by omega) (by omega)
  have hw3 : w32 (i + 3) = i + 3 := w32_id (by omega) (by omega)
  have hd1 : c1 + 1 + 0 ≤ 1103 := hc1
  have hd2 : c2 + 6 + 0 ≤ 59611 := hc2
  refine G_aload_n (g_da dt_law4 13 rfl) rfl rfl ?_
  refine G_aload_n (g_da dt_law4 14 rfl) rfl rfl ?_
  refine G_iload (g_da dt_law4 15 rfl) rfl ?_
  refine G_iconst (g_da dt_law4 16 rfl) ?_
  refine G_iadd (g_da dt_law4 17 rfl) ?_
  refine G_sld (g_da dt_law4 18 rfl) rfl hw1 ⟨by omega, by omega⟩ ?_
  refine G_aload_n (g_da dt_law4 19 rfl) rfl rfl ?_
  rcases H (g_sx r (i + 1).toNat) (g_sx_w _ _) with ⟨z, z1, sC1, sM1, e1, e2, e3, e4, K⟩ | ⟨z, z1, sC1, sM1, e1, e2, e3, e4, K⟩
  · refine G_iS (Z := (g_S, c1, c2)) (N := M_Lvalue) (as := [.ref 0, gi (g_sx r (i + 1).toNat), .ref 74]) (hh := g_hm (g_y M_Lvalue)) (L_value_0 (J := fun s => g_j s sM) (g_j_c sM) e1) rfl (Nat.le_of_ble_eq_true rfl) rfl rfl rfl (plainFor_of_name (by decide)) (g_da dt_law4 20 rfl) lw_l_55 sw_value iw_l cw_value (by decide) dn_value (g_ftl rfl hc1 hc2) rfl rfl rfl (fun o S sg' hq => ?_)
    obtain ⟨rfl, rfl, rfl⟩ := hq
    refine ⟨_, rfl, ?_⟩
    refine G_istore (lv' := [some (.ref 4000), some (.ref 0), some (.ref 49), some (.ref 74), some (gi i), some (gi 0), none]) (g_da dt_law4 21 rfl) (Nat.le_of_ble_eq_true rfl) rfl rfl ?_
    refine G_aload_n (g_da dt_law4 22 rfl) rfl rfl ?_
    refine G_aload_n (g_da dt_law4 23 rfl) rfl rfl ?_
    refine G_iload (g_da dt_law4 24 rfl) rfl ?_
    refine G_iconst (g_da dt_law4 25 rfl) ?_
    refine G_iadd (g_da dt_law4 26 rfl) ?_
    refine G_sld (g_da dt_law4 27 rfl) rfl hw1 ⟨by omega, by omega⟩ ?_
    refine H_cVE (J := fun s => g_j (g_up sC1 74 0 (w32 z)) s) (M_value_ok (g_j_m (g_up sC1 74 0 (w32 z))) e2) (g_da dt_law4 28 rfl) (Or.inl lw_l_57) nv_M_value rfl sh_49 rfl (g_ftl rfl hd1 hd2) rfl rfl rfl rfl ?_
    refine G_istore (lv' := [some (.ref 4000), some (.ref 0), some (.ref 49), some (.ref 74), some (gi i), some (gi 0), some (gi z1)]) (g_da dt_law4 29 rfl) (Nat.le_of_ble_eq_true rfl) rfl rfl ?_
    refine G_aload_n (g_da dt_law4 30 rfl) rfl rfl ?_
    refine H_cVE (J := fun s => g_j (g_up sC1 74 0 (w32 z)) s) (M_thrown_ok (g_j_m (g_up sC1 74 0 (w32 z))) (z0 := sM1 49 0) (s0 := sM1) rfl) (g_da dt_law4 31 rfl) (Or.inl lw_l_47) nv_M_thrown rfl sh_49 rfl (g_ftl rfl hd1 hd2) rfl rfl rfl rfl ?_
    refine G_iload (g_da dt_law4 32 rfl) rfl ?_
    refine G_icmp_eq (g_da dt_law4 33 rfl) rfl e3 w_0 (fun _ => ?_) (fun hc => absurd rfl hc)
    refine G_iload (g_da dt_law4 36 rfl) rfl ?_
    refine G_if_ne (g_da dt_law4 37 rfl) rfl w_0 (fun hc => absurd rfl hc) (fun _ => ?_)
    refine G_aload_n (g_da dt_law4 38 rfl) rfl rfl ?_
    refine G_iconst (g_da dt_law4 39 rfl) ?_
    refine H_laload (j := 0) (J := fun s => g_j s sM1) (g_da dt_law5 0 rfl) sh_74 (g_j_c sM1 74 rfl) w_0 ⟨by decide, by decide⟩ rfl ?_
    rw [show (g_up sC1 74 0 (w32 z)) 74 0 = w32 z by simp [g_up]]
    refine G_iload (g_da dt_law5 1 rfl) rfl ?_
    refine G_i2l (g_da dt_law5 2 rfl) ?_
    refine G_lcmp (g_da dt_law5 3 rfl) ?_
    refine G_if_eq (g_da dt_law5 4 rfl) rfl (l_cmp_0 (e4 rfl)) (fun _ => ?_) (fun hc => absurd rfl hc)
    refine G_goto (g_da dt_law5 7 rfl) rfl ?_
    exact G_subK K ⟨rfl, ⟨rfl, ⟨rfl, ⟨rfl, ⟨rfl, trivial⟩⟩⟩⟩⟩
  · refine G_iS (Z := (g_S, c1, c2)) (N := M_Lvalue) (as := [.ref 0, gi (g_sx r (i + 1).toNat), .ref 74]) (hh := g_hm (g_y M_Lvalue)) (L_value_3 (J := fun s => g_j s sM) (g_j_c sM) e1) rfl (Nat.le_of_ble_eq_true rfl) rfl rfl rfl (plainFor_of_name (by decide)) (g_da dt_law4 20 rfl) lw_l_55 sw_value iw_l cw_value (by decide) dn_value (g_ftl rfl hc1 hc2) rfl rfl rfl (fun o S sg' hq => ?_)
    obtain ⟨rfl, rfl, rfl⟩ := hq
    refine ⟨_, rfl, ?_⟩
    refine G_istore (lv' := [some (.ref 4000), some (.ref 0), some (.ref 49), some (.ref 74), some (gi i), some (gi 1), none]) (g_da dt_law4 21 rfl) (Nat.le_of_ble_eq_true rfl) rfl rfl ?_
    refine G_aload_n (g_da dt_law4 22 rfl) rfl rfl ?_
    refine G_aload_n (g_da dt_law4 23 rfl) rfl rfl ?_
    refine G_iload (g_da dt_law4 24 rfl) rfl ?_
    refine G_iconst (g_da dt_law4 25 rfl) ?_
    refine G_iadd (g_da dt_law4 26 rfl) ?_
    refine G_sld (g_da dt_law4 27 rfl) rfl hw1 ⟨by omega, by omega⟩ ?_
    refine H_cVE (J := fun s => g_j sC1 s) (M_value_ok (g_j_m sC1) e2) (g_da dt_law4 28 rfl) (Or.inl lw_l_57) nv_M_value rfl sh_49 rfl (g_ftl rfl hd1 hd2) rfl rfl rfl rfl ?_
    refine G_istore (lv' := [some (.ref 4000), some (.ref 0), some (.ref 49), some (.ref 74), some (gi i), some (gi 1), some (gi z1)]) (g_da dt_law4 29 rfl) (Nat.le_of_ble_eq_true rfl) rfl rfl ?_
    refine G_aload_n (g_da dt_law4 30 rfl) rfl rfl ?_
    refine H_cVE (J := fun s => g_j sC1 s) (M_thrown_ok (g_j_m sC1) (z0 := sM1 49 0) (s0 := sM1) rfl) (g_da dt_law4 31 rfl) (Or.inl lw_l_47) nv_M_thrown rfl sh_49 rfl (g_ftl rfl hd1 hd2) rfl rfl rfl rfl ?_
    refine G_iload (g_da dt_law4 32 rfl) rfl ?_
    refine G_icmp_eq (g_da dt_law4 33 rfl) rfl e3 w_1 (fun _ => ?_) (fun hc => absurd rfl hc)
    refine G_iload (g_da dt_law4 36 rfl) rfl ?_
    refine G_if_ne (g_da dt_law4 37 rfl) rfl w_1 (fun _ => ?_) (fun hc => absurd hc (by decide))
    refine G_goto (g_da dt_law5 7 rfl) rfl ?_
    exact G_subK K ⟨rfl, ⟨rfl, ⟨rfl, ⟨rfl, ⟨rfl, trivial⟩⟩⟩⟩⟩
theorem lw_l_58 : Cond.methodLink "BandPressLaw" 58 ⟨"BandPress", "variable", "(I)I"⟩ ∈ g_T := (g_Tm 672 (by decide +kernel) rfl)
set_option maxHeartbeats 4000000 in
set_option maxRecDepth 100000 in
theorem nv_B_variable : g_mv M_B_variable 1 := ⟨⟨(g_Tm 89 (by decide +kernel) rfl), g_Tm 675 rfl rfl, by decide, by decide, by decide +kernel⟩, (g_Tm 673 (by decide +kernel) rfl), (g_Tm 674 (by decide +kernel) rfl)⟩
theorem lw_l_61 : Cond.methodLink "BandPressLaw" 61 ⟨"BandPressModel", "variable", "(I)I"⟩ ∈ g_T := (g_Tm 1628 (by decide +kernel) rfl)
set_option maxHeartbeats 4000000 in
set_option maxRecDepth 100000 in
theorem nv_M_variable : g_mv M_M_variable 1 := ⟨⟨(g_Tm 102 (by decide +kernel) rfl), g_Tm 1631 rfl rfl, by decide, by decide, by decide +kernel⟩, (g_Tm 1629 (by decide +kernel) rfl), (g_Tm 1630 (by decide +kernel) rfl)⟩
set_option maxHeartbeats 4000000 in
set_option maxRecDepth 100000 in
theorem law_5 {r : Nat × (Nat → Int32)} {Q : gO → List gH → gS → Prop} {c1 c2 : Nat} {i : Int} {sC sM : gS} (hc1 : c1 ≤ 1103) (hc2 : c2 ≤ 59611) (hi : 0 ≤ i) (hj : i + 4 ≤ (r.1 : Int)) (hL : (r.1 : Int) ≤ 2048) (H : ∀ a0 : Int, w32 a0 = a0 → g_cl2 (g_kt r Q c1 c2 i) (B_variable a0) (M_variable a0) sC sM) : G (M_law r false) Q (g_S, c1, c2) (g_j sC sM) 391 [some (.ref 4000), some (.ref 0), some (.ref 49), some (.ref 74), some (gi i), none, none] [] := by
  have hw1 : w32 (i + 1) = i + 1 := w32_id (by omega) (by omega)
  have hw2 : w32 (i + 2) = i + 2 := w32_id (by omega) (by omega)
  have hw3 : w32 (i + 3) = i + 3 := w32_id (by omega) (by omega)
  refine G_aload_n (g_da dt_law5 8 rfl) rfl rfl ?_
  refine G_aload_n (g_da dt_law5 9 rfl) rfl rfl ?_
  refine G_iload (g_da dt_law5 10 rfl) rfl ?_
  refine G_iconst (g_da dt_law5 11 rfl) ?_
  refine G_iadd (g_da dt_law5 12 rfl) ?_
  refine G_sld (g_da dt_law5 13 rfl) rfl hw1 ⟨by omega, by omega⟩ ?_
  obtain ⟨z, z1, sC1, sM1, e1, e2, e3, K⟩ := H (g_sx r (i + 1).toNat) (g_sx_w _ _)
  refine H_cVE (J := fun s => g_j s sM) (B_variable_ok (g_j_c sM) e1) (g_da dt_law5 14 rfl) (Or.inl lw_l_58) nv_B_variable rfl sh_0 rfl (g_ftl rfl hc1 hc2) rfl rfl rfl rfl ?_
  refine G_aload_n (g_da dt_law5 15 rfl) rfl rfl ?_
  refine G_aload_n (g_da dt_law5 16 rfl) rfl rfl ?_
  refine G_iload (g_da dt_law5 17 rfl) rfl ?_
  refine G_iconst (g_da dt_law5 18 rfl) ?_
  refine G_iadd (g_da dt_law5 19 rfl) ?_
  refine G_sld (g_da dt_law5 20 rfl) rfl hw1 ⟨by omega, by omega⟩ ?_
  refine H_cVE (J := fun s => g_j sC1 s) (M_variable_ok (g_j_m sC1) e2) (g_da dt_law5 21 rfl) (Or.inl lw_l_61) nv_M_variable rfl sh_49 rfl (g_ftl rfl hc1 hc2) rfl rfl rfl rfl ?_
  refine G_icmp_eq (g_da dt_law5 22 rfl) rfl rfl rfl (fun _ => ?_) (fun hc => absurd e3 hc)
  exact G_subK K ⟨rfl, ⟨rfl, ⟨rfl, ⟨rfl, ⟨rfl, trivial⟩⟩⟩⟩⟩
theorem lw_l_62 : Cond.methodLink "BandPressLaw" 62 ⟨"BandPress", "pixel", "(III)Z"⟩ ∈ g_T := (g_Tm 676 (by decide +kernel) rfl)
set_option maxHeartbeats 4000000 in
set_option maxRecDepth 100000 in
theorem nv_B_pixel : g_mv M_B_pixel 3 := ⟨⟨(g_Tm 89 (by decide +kernel) rfl), g_Tm 679 rfl rfl, by decide, by decide, by decide +kernel⟩, (g_Tm 677 (by decide +kernel) rfl), (g_Tm 678 (by decide +kernel) rfl)⟩
theorem lw_l_66 : Cond.methodLink "BandPressLaw" 66 ⟨"BandPressModel", "pixel", "(III)Z"⟩ ∈ g_T := (g_Tm 1632 (by decide +kernel) rfl)
set_option maxHeartbeats 4000000 in
set_option maxRecDepth 100000 in
theorem nv_M_pixel : g_mv M_M_pixel 3 := ⟨⟨(g_Tm 102 (by decide +kernel) rfl), g_Tm 1635 rfl rfl, by decide, by decide, by decide +kernel⟩, (g_Tm 1633 (by decide +kernel) rfl), (g_Tm 1634 (by decide +kernel) rfl)⟩
set_option maxHeartbeats 4000000 in
set_option maxRecDepth 100000 in
theorem law_6 {r : Nat × (Nat → Int32)} {Q : gO → List gH → gS → Prop} {c1 c2 : Nat} {i : Int} {sC sM : gS} (hc1 : c1 ≤ 1103) (hc2 : c2 ≤ 59611) (hi : 0 ≤ i) (hj : i + 4 ≤ (r.1 : Int)) (hL : (r.1 : Int) ≤ 2048) (H : ∀ a0 a1 a2 : Int, w32 a0 = a0 → w32 a1 = a1 → w32 a2 = a2 → g_cl2 (g_kt r Q c1 c2 i) (B_pixel a0 a1 a2) (M_pixel a0 a1 a2) sC sM) : G (M_law r false) Q (g_S, c1, c2) (g_j sC sM) 416 [some (.ref 4000), some (.ref 0), some (.ref 49), some (.ref 74), some (gi i), none, none] [] := by
  have hw1 : w32 (i + 1) = i + 1 := w32_id (by omega) (by omega)
  have hw2 : w32 (i + 2) = i + 2 := w32_id (by omega) (by omega)
  have hw3 : w32 (i + 3) = i + 3 := w32_id (by omega) (by omega)
  refine G_aload_n (g_da dt_law5 25 rfl) rfl rfl ?_
  refine G_aload_n (g_da dt_law5 26 rfl) rfl rfl ?_
  refine G_iload (g_da dt_law5 27 rfl) rfl ?_
  refine G_iconst (g_da dt_law5 28 rfl) ?_
  refine G_iadd (g_da dt_law5 29 rfl) ?_
  refine G_sld (g_da dt_law5 30 rfl) rfl hw1 ⟨by omega, by omega⟩ ?_
  refine G_aload_n (g_da dt_law5 31 rfl) rfl rfl ?_
  refine G_iload (g_da dt_law5 32 rfl) rfl ?_
  refine G_iconst (g_da dt_law5 33 rfl) ?_
  refine G_iadd (g_da dt_law5 34 rfl) ?_
  refine G_sld (g_da dt_law5 35 rfl) rfl hw2 ⟨by omega, by omega⟩ ?_
  refine G_aload_n (g_da dt_law5 36 rfl) rfl rfl ?_
  refine G_iload (g_da dt_law5 37 rfl) rfl ?_
  refine G_iconst (g_da dt_law5 38 rfl) ?_
  refine G_iadd (g_da dt_law5 39 rfl) ?_
  refine G_sld (g_da dt_law6 0 rfl) rfl hw3 ⟨by omega, by omega⟩ ?_
  obtain ⟨z, z1, sC1, sM1, e1, e2, e3, K⟩ := H (g_sx r (i + 1).toNat) (g_sx r (i + 2).toNat) (g_sx r (i + 3).toNat) (g_sx_w _ _) (g_sx_w _ _) (g_sx_w _ _)
  refine H_cVE (J := fun s => g_j s sM) (B_pixel_ok (g_j_c sM) e1) (g_da dt_law6 1 rfl) (Or.inl lw_l_62) nv_B_pixel rfl sh_0 rfl (g_ftl rfl hc1 hc2) rfl rfl rfl rfl ?_
  refine G_aload_n (g_da dt_law6 2 rfl) rfl rfl ?_
  refine G_aload_n (g_da dt_law6 3 rfl) rfl rfl ?_
  refine G_iload (g_da dt_law6 4 rfl) rfl ?_
  refine G_iconst (g_da dt_law6 5 rfl) ?_
  refine G_iadd (g_da dt_law6 6 rfl) ?_
  refine G_sld (g_da dt_law6 7 rfl) rfl hw1 ⟨by omega, by omega⟩ ?_
  refine G_aload_n (g_da dt_law6 8 rfl) rfl rfl ?_
  refine G_iload (g_da dt_law6 9 rfl) rfl ?_
  refine G_iconst (g_da dt_law6 10 rfl) ?_
  refine G_iadd (g_da dt_law6 11 rfl) ?_
  refine G_sld (g_da dt_law6 12 rfl) rfl hw2 ⟨by omega, by omega⟩ ?_
  refine G_aload_n (g_da dt_law6 13 rfl) rfl rfl ?_
  refine G_iload (g_da dt_law6 14 rfl) rfl ?_
  refine G_iconst (g_da dt_law6 15 rfl) ?_
  refine G_iadd (g_da dt_law6 16 rfl) ?_
  refine G_sld (g_da dt_law6 17 rfl) rfl hw3 ⟨by omega, by omega⟩ ?_
  refine H_cVE (J := fun s => g_j sC1 s) (M_pixel_ok (g_j_m sC1) e2) (g_da dt_law6 18 rfl) (Or.inl lw_l_66) nv_M_pixel rfl sh_49 rfl (g_ftl rfl hc1 hc2) rfl rfl rfl rfl ?_
  refine G_icmp_eq (g_da dt_law6 19 rfl) rfl rfl rfl (fun _ => ?_) (fun hc => absurd e3 hc)
  exact G_subK K ⟨rfl, ⟨rfl, ⟨rfl, ⟨rfl, ⟨rfl, trivial⟩⟩⟩⟩⟩
theorem lw_l_67 : Cond.methodLink "BandPressLaw" 67 ⟨"BandPress", "band", "(II)I"⟩ ∈ g_T := (g_Tm 688 (by decide +kernel) rfl)
set_option maxHeartbeats 4000000 in
set_option maxRecDepth 100000 in
theorem nv_B_band : g_mv M_B_band 2 := ⟨⟨(g_Tm 89 (by decide +kernel) rfl), g_Tm 691 rfl rfl, by decide, by decide, by decide +kernel⟩, (g_Tm 689 (by decide +kernel) rfl), (g_Tm 690 (by decide +kernel) rfl)⟩
theorem lw_l_71 : Cond.methodLink "BandPressLaw" 71 ⟨"BandPressModel", "band", "(II)I"⟩ ∈ g_T := (g_Tm 1639 (by decide +kernel) rfl)
set_option maxHeartbeats 4000000 in
set_option maxRecDepth 100000 in
theorem nv_M_band : g_mv M_M_band 2 := ⟨⟨(g_Tm 102 (by decide +kernel) rfl), g_Tm 1642 rfl rfl, by decide, by decide, by decide +kernel⟩, (g_Tm 1640 (by decide +kernel) rfl), (g_Tm 1641 (by decide +kernel) rfl)⟩
set_option maxHeartbeats 4000000 in
set_option maxRecDepth 100000 in
theorem law_7 {r : Nat × (Nat → Int32)} {Q : gO → List gH → gS → Prop} {c1 c2 : Nat} {i : Int} {sC sM : gS} (hc1 : c1 ≤ 1103) (hc2 : c2 ≤ 59611) (hi : 0 ≤ i) (hj : i + 4 ≤ (r.1 : Int)) (hL : (r.1 : Int) ≤ 2048) (H : ∀ a0 a1 : Int, w32 a0 = a0 → w32 a1 = a1 → g_cl2 (g_kt r Q c1 c2 i) (B_band a0 a1) (M_band a0 a1) sC sM) : G (M_law r false) Q (g_S, c1, c2) (g_j sC sM) 465 [some (.ref 4000), some (.ref 0), some (.ref 49), some (.ref 74), some (gi i), none, none] [] := by
  have hw1 : w32 (i + 1) = i + 1 := w32_id (by omega) (by omega)
  have hw2 : w32 (i + 2) = i + 2 := w32_id (by omega) (by omega)
  have hw3 : w32 (i + 3) = i + 3 := w32_id (by omega) (by omega)
  refine G_aload_n (g_da dt_law6 22 rfl) rfl rfl ?_
  refine G_aload_n (g_da dt_law6 23 rfl) rfl rfl ?_
  refine G_iload (g_da dt_law6 24 rfl) rfl ?_
  refine G_iconst (g_da dt_law6 25 rfl) ?_
  refine G_iadd (g_da dt_law6 26 rfl) ?_
  refine G_sld (g_da dt_law6 27 rfl) rfl hw1 ⟨by omega, by omega⟩ ?_
  refine G_aload_n (g_da dt_law6 28 rfl) rfl rfl ?_
  refine G_iload (g_da dt_law6 29 rfl) rfl ?_
  refine G_iconst (g_da dt_law6 30 rfl) ?_
  refine G_iadd (g_da dt_law6 31 rfl) ?_
  refine G_sld (g_da dt_law6 32 rfl) rfl hw2 ⟨by omega, by omega⟩ ?_
  obtain ⟨z, z1, sC1, sM1, e1, e2, e3, K⟩ := H (g_sx r (i + 1).toNat) (g_sx r (i + 2).toNat) (g_sx_w _ _) (g_sx_w _ _)
  refine H_cVE (J := fun s => g_j s sM) (B_band_ok (g_j_c sM) e1) (g_da dt_law6 33 rfl) (Or.inl lw_l_67) nv_B_band rfl sh_0 rfl (g_ftl rfl hc1 hc2) rfl rfl rfl rfl ?_
  refine G_aload_n (g_da dt_law6 34 rfl) rfl rfl ?_
  refine G_aload_n (g_da dt_law6 35 rfl) rfl rfl ?_
  refine G_iload (g_da dt_law6 36 rfl) rfl ?_
  refine G_iconst (g_da dt_law6 37 rfl) ?_
  refine G_iadd (g_da dt_law6 38 rfl) ?_
  refine G_sld (g_da dt_law6 39 rfl) rfl hw1 ⟨by omega, by omega⟩ ?_
  refine G_aload_n (g_da dt_law7 0 rfl) rfl rfl ?_
  refine G_iload (g_da dt_law7 1 rfl) rfl ?_
  refine G_iconst (g_da dt_law7 2 rfl) ?_
  refine G_iadd (g_da dt_law7 3 rfl) ?_
  refine G_sld (g_da dt_law7 4 rfl) rfl hw2 ⟨by omega, by omega⟩ ?_
  refine H_cVE (J := fun s => g_j sC1 s) (M_band_ok (g_j_m sC1) e2) (g_da dt_law7 5 rfl) (Or.inl lw_l_71) nv_M_band rfl sh_49 rfl (g_ftl rfl hc1 hc2) rfl rfl rfl rfl ?_
  refine G_icmp_eq (g_da dt_law7 6 rfl) rfl rfl rfl (fun _ => ?_) (fun hc => absurd e3 hc)
  exact G_subK K ⟨rfl, ⟨rfl, ⟨rfl, ⟨rfl, ⟨rfl, trivial⟩⟩⟩⟩⟩
theorem lw_l_72 : Cond.methodLink "BandPressLaw" 72 ⟨"BandPress", "octet", "(III)I"⟩ ∈ g_T := (g_Tm 718 (by decide +kernel) rfl)
set_option maxHeartbeats 4000000 in
set_option maxRecDepth 100000 in
theorem nv_B_octet : g_mv M_B_octet 3 := ⟨⟨(g_Tm 89 (by decide +kernel) rfl), g_Tm 721 rfl rfl, by decide, by decide, by decide +kernel⟩, (g_Tm 719 (by decide +kernel) rfl), (g_Tm 720 (by decide +kernel) rfl)⟩
theorem lw_l_76 : Cond.methodLink "BandPressLaw" 76 ⟨"BandPressModel", "octet", "(III)I"⟩ ∈ g_T := (g_Tm 1667 (by decide +kernel) rfl)
set_option maxHeartbeats 4000000 in
set_option maxRecDepth 100000 in
theorem nv_M_octet : g_mv M_M_octet 3 := ⟨⟨(g_Tm 102 (by decide +kernel) rfl), g_Tm 1670 rfl rfl, by decide, by decide, by decide +kernel⟩, (g_Tm 1668 (by decide +kernel) rfl), (g_Tm 1669 (by decide +kernel) rfl)⟩
set_option maxHeartbeats 4000000 in
set_option maxRecDepth 100000 in
theorem law_8 {r : Nat × (Nat → Int32)} {Q : gO → List gH → gS → Prop} {c1 c2 : Nat} {i : Int} {sC sM : gS} (hc1 : c1 ≤ 1103) (hc2 : c2 ≤ 59611) (hi : 0 ≤ i) (hj : i + 4 ≤ (r.1 : Int)) (hL : (r.1 : Int) ≤ 2048) (H : ∀ a0 a1 a2 : Int, w32 a0 = a0 → w32 a1 = a1 → w32 a2 = a2 → g_cl2 (g_kt r Q c1 c2 i) (B_octet a0 a1 a2) (M_octet a0 a1 a2) sC sM) : G (M_law r false) Q (g_S, c1, c2) (g_j sC sM) 502 [some (.ref 4000), some (.ref 0), some (.ref 49), some (.ref 74), some (gi i), none, none] [] := by
  have hw1 : w32 (i + 1) = i + 1 := w32_id (by omega) (by omega)
  have hw2 : w32 (i + 2) = i + 2 := w32_id (by omega) (by omega)
  have hw3 : w32 (i + 3) = i + 3 := w32_id (by omega) (by omega)
  refine G_aload_n (g_da dt_law7 9 rfl) rfl rfl ?_
  refine G_aload_n (g_da dt_law7 10 rfl) rfl rfl ?_
  refine G_iload (g_da dt_law7 11 rfl) rfl ?_
  refine G_iconst (g_da dt_law7 12 rfl) ?_
  refine G_iadd (g_da dt_law7 13 rfl) ?_
  refine G_sld (g_da dt_law7 14 rfl) rfl hw1 ⟨by omega, by omega⟩ ?_
  refine G_aload_n (g_da dt_law7 15 rfl) rfl rfl ?_
  refine G_iload (g_da dt_law7 16 rfl) rfl ?_
  refine G_iconst (g_da dt_law7 17 rfl) ?_
  refine G_iadd (g_da dt_law7 18 rfl) ?_
  refine G_sld (g_da dt_law7 19 rfl) rfl hw2 ⟨by omega, by omega⟩ ?_
  refine G_aload_n (g_da dt_law7 20 rfl) rfl rfl ?_
  refine G_iload (g_da dt_law7 21 rfl) rfl ?_
  refine G_iconst (g_da dt_law7 22 rfl) ?_
  refine G_iadd (g_da dt_law7 23 rfl) ?_
  refine G_sld (g_da dt_law7 24 rfl) rfl hw3 ⟨by omega, by omega⟩ ?_
  obtain ⟨z, z1, sC1, sM1, e1, e2, e3, K⟩ := H (g_sx r (i + 1).toNat) (g_sx r (i + 2).toNat) (g_sx r (i + 3).toNat) (g_sx_w _ _) (g_sx_w _ _) (g_sx_w _ _)
  refine H_cVE (J := fun s => g_j s sM) (B_octet_ok (g_j_c sM) e1) (g_da dt_law7 25 rfl) (Or.inl lw_l_72) nv_B_octet rfl sh_0 rfl (g_ftl rfl hc1 hc2) rfl rfl rfl rfl ?_
  refine G_aload_n (g_da dt_law7 26 rfl) rfl rfl ?_
  refine G_aload_n (g_da dt_law7 27 rfl) rfl rfl ?_
  refine G_iload (g_da dt_law7 28 rfl) rfl ?_
  refine G_iconst (g_da dt_law7 29 rfl) ?_
  refine G_iadd (g_da dt_law7 30 rfl) ?_
  refine G_sld (g_da dt_law7 31 rfl) rfl hw1 ⟨by omega, by omega⟩ ?_
  refine G_aload_n (g_da dt_law7 32 rfl) rfl rfl ?_
  refine G_iload (g_da dt_law7 33 rfl) rfl ?_
  refine G_iconst (g_da dt_law7 34 rfl) ?_
  refine G_iadd (g_da dt_law7 35 rfl) ?_
  refine G_sld (g_da dt_law7 36 rfl) rfl hw2 ⟨by omega, by omega⟩ ?_
  refine G_aload_n (g_da dt_law7 37 rfl) rfl rfl ?_
  refine G_iload (g_da dt_law7 38 rfl) rfl ?_
  refine G_iconst (g_da dt_law7 39 rfl) ?_
  refine G_iadd (g_da dt_law8 0 rfl) ?_
  refine G_sld (g_da dt_law8 1 rfl) rfl hw3 ⟨by omega, by omega⟩ ?_
  refine H_cVE (J := fun s => g_j sC1 s) (M_octet_ok (g_j_m sC1) e2) (g_da dt_law8 2 rfl) (Or.inl lw_l_76) nv_M_octet rfl sh_49 rfl (g_ftl rfl hc1 hc2) rfl rfl rfl rfl ?_
  refine G_icmp_eq (g_da dt_law8 3 rfl) rfl rfl rfl (fun _ => ?_) (fun hc => absurd e3 hc)
  exact G_subK K ⟨rfl, ⟨rfl, ⟨rfl, ⟨rfl, ⟨rfl, trivial⟩⟩⟩⟩⟩
theorem lw_l_77 : Cond.methodLink "BandPressLaw" 77 ⟨"BandPressLaw", "tick", "(LBandPress;I[J)I"⟩ ∈ g_T := (g_Tm 1213 (by decide +kernel) rfl)
theorem lw_l_79 : Cond.methodLink "BandPressLaw" 79 ⟨"BandPressModel", "tick", "(I)I"⟩ ∈ g_T := (g_Tm 1671 (by decide +kernel) rfl)
set_option maxHeartbeats 4000000 in
set_option maxRecDepth 100000 in
theorem nv_M_tick : g_mv M_M_tick 1 := ⟨⟨(g_Tm 102 (by decide +kernel) rfl), g_Tm 1674 rfl rfl, by decide, by decide, by decide +kernel⟩, (g_Tm 1672 (by decide +kernel) rfl), (g_Tm 1673 (by decide +kernel) rfl)⟩
set_option maxHeartbeats 4000000 in
set_option maxRecDepth 100000 in
theorem law_9 {r : Nat × (Nat → Int32)} {Q : gO → List gH → gS → Prop} {c1 c2 : Nat} {i : Int} {sC sM : gS} (hc1 : c1 + 1 ≤ 1103) (hc2 : c2 + 6 ≤ 59611) (hi : 0 ≤ i) (hj : i + 4 ≤ (r.1 : Int)) (hL : (r.1 : Int) ≤ 2048) (H : ∀ a : Int, w32 a = a → g_clx (g_kt r Q (c1 + 1) (c2 + 6) i) (B_tick a) (M_tick a) 0 0 sC sM ∨ g_clx (g_kt r Q (c1 + 1) (c2 + 6) i) (B_tick a) (M_tick a) 2 1 sC sM) : G (M_law r false) Q (g_S, c1, c2) (g_j sC sM) 551 [some (.ref 4000), some (.ref 0), some (.ref 49), some (.ref 74), some (gi i), none, none] [] := by
  have hw1 : w32 (i + 1) = i + 1 := w32_id (by omega) (by omega)
  have hw2 : w32 (i + 2) = i + 2 := w32_id (by omega) (by omega)
  have hw3 : w32 (i + 3) = i + 3 := w32_id (by omega) (by omega)
  have hd1 : c1 + 1 + 0 ≤ 1103 := hc1
  have hd2 : c2 + 6 + 0 ≤ 59611 := hc2
  refine G_aload_n (g_da dt_law8 6 rfl) rfl rfl ?_
  refine G_aload_n (g_da dt_law8 7 rfl) rfl rfl ?_
  refine G_iload (g_da dt_law8 8 rfl) rfl ?_
  refine G_iconst (g_da dt_law8 9 rfl) ?_
  refine G_iadd (g_da dt_law8 10 rfl) ?_
  refine G_sld (g_da dt_law8 11 rfl) rfl hw1 ⟨by omega, by omega⟩ ?_
  refine G_aload_n (g_da dt_law8 12 rfl) rfl rfl ?_
  rcases H (g_sx r (i + 1).toNat) (g_sx_w _ _) with ⟨z, z1, sC1, sM1, e1, e2, e3, e4, K⟩ | ⟨z, z1, sC1, sM1, e1, e2, e3, e4, K⟩
  · refine G_iS (Z := (g_S, c1, c2)) (N := M_Ltick) (as := [.ref 0, gi (g_sx r (i + 1).toNat), .ref 74]) (hh := g_hm (g_y M_Ltick)) (L_tick_0 (J := fun s => g_j s sM) (g_j_c sM) e1) rfl (Nat.le_of_ble_eq_true rfl) rfl rfl rfl (plainFor_of_name (by decide)) (g_da dt_law8 13 rfl) lw_l_77 sw_tick iw_l cw_tick (by decide) dn_tick (g_ftl rfl hc1 hc2) rfl rfl rfl (fun o S sg' hq => ?_)
    obtain ⟨rfl, rfl, rfl⟩ := hq
    refine ⟨_, rfl, ?_⟩
    refine G_istore (lv' := [some (.ref 4000), some (.ref 0), some (.ref 49), some (.ref 74), some (gi i), some (gi 0), none]) (g_da dt_law8 14 rfl) (Nat.le_of_ble_eq_true rfl) rfl rfl ?_
    refine G_aload_n (g_da dt_law8 15 rfl) rfl rfl ?_
    refine G_aload_n (g_da dt_law8 16 rfl) rfl rfl ?_
    refine G_iload (g_da dt_law8 17 rfl) rfl ?_
    refine G_iconst (g_da dt_law8 18 rfl) ?_
    refine G_iadd (g_da dt_law8 19 rfl) ?_
    refine G_sld (g_da dt_law8 20 rfl) rfl hw1 ⟨by omega, by omega⟩ ?_
    refine H_cVE (J := fun s => g_j (g_up sC1 74 0 (w32 z)) s) (M_tick_ok (g_j_m (g_up sC1 74 0 (w32 z))) e2) (g_da dt_law8 21 rfl) (Or.inl lw_l_79) nv_M_tick rfl sh_49 rfl (g_ftl rfl hd1 hd2) rfl rfl rfl rfl ?_
    refine G_istore (lv' := [some (.ref 4000), some (.ref 0), some (.ref 49), some (.ref 74), some (gi i), some (gi 0), some (gi z1)]) (g_da dt_law8 22 rfl) (Nat.le_of_ble_eq_true rfl) rfl rfl ?_
    refine G_aload_n (g_da dt_law8 23 rfl) rfl rfl ?_
    refine H_cVE (J := fun s => g_j (g_up sC1 74 0 (w32 z)) s) (M_thrown_ok (g_j_m (g_up sC1 74 0 (w32 z))) (z0 := sM1 49 0) (s0 := sM1) rfl) (g_da dt_law8 24 rfl) (Or.inl lw_l_47) nv_M_thrown rfl sh_49 rfl (g_ftl rfl hd1 hd2) rfl rfl rfl rfl ?_
    refine G_iload (g_da dt_law8 25 rfl) rfl ?_
    refine G_icmp_eq (g_da dt_law8 26 rfl) rfl e3 w_0 (fun _ => ?_) (fun hc => absurd rfl hc)
    refine G_iload (g_da dt_law8 29 rfl) rfl ?_
    refine G_if_ne (g_da dt_law8 30 rfl) rfl w_0 (fun hc => absurd rfl hc) (fun _ => ?_)
    refine G_aload_n (g_da dt_law8 31 rfl) rfl rfl ?_
    refine G_iconst (g_da dt_law8 32 rfl) ?_
    refine H_laload (j := 0) (J := fun s => g_j s sM1) (g_da dt_law8 33 rfl) sh_74 (g_j_c sM1 74 rfl) w_0 ⟨by decide, by decide⟩ rfl ?_
    rw [show (g_up sC1 74 0 (w32 z)) 74 0 = w32 z by simp [g_up]]
    refine G_iload (g_da dt_law8 34 rfl) rfl ?_
    refine G_i2l (g_da dt_law8 35 rfl) ?_
    refine G_lcmp (g_da dt_law8 36 rfl) ?_
    refine G_if_eq (g_da dt_law8 37 rfl) rfl (l_cmp_0 (e4 rfl)) (fun _ => ?_) (fun hc => absurd rfl hc)
    refine G_goto (g_da dt_law9 0 rfl) rfl ?_
    exact G_subK K ⟨rfl, ⟨rfl, ⟨rfl, ⟨rfl, ⟨rfl, trivial⟩⟩⟩⟩⟩
  · refine G_iS (Z := (g_S, c1, c2)) (N := M_Ltick) (as := [.ref 0, gi (g_sx r (i + 1).toNat), .ref 74]) (hh := g_hm (g_y M_Ltick)) (L_tick_2 (J := fun s => g_j s sM) (g_j_c sM) e1) rfl (Nat.le_of_ble_eq_true rfl) rfl rfl rfl (plainFor_of_name (by decide)) (g_da dt_law8 13 rfl) lw_l_77 sw_tick iw_l cw_tick (by decide) dn_tick (g_ftl rfl hc1 hc2) rfl rfl rfl (fun o S sg' hq => ?_)
    obtain ⟨rfl, rfl, rfl⟩ := hq
    refine ⟨_, rfl, ?_⟩
    refine G_istore (lv' := [some (.ref 4000), some (.ref 0), some (.ref 49), some (.ref 74), some (gi i), some (gi 1), none]) (g_da dt_law8 14 rfl) (Nat.le_of_ble_eq_true rfl) rfl rfl ?_
    refine G_aload_n (g_da dt_law8 15 rfl) rfl rfl ?_
    refine G_aload_n (g_da dt_law8 16 rfl) rfl rfl ?_
    refine G_iload (g_da dt_law8 17 rfl) rfl ?_
    refine G_iconst (g_da dt_law8 18 rfl) ?_
    refine G_iadd (g_da dt_law8 19 rfl) ?_
    refine G_sld (g_da dt_law8 20 rfl) rfl hw1 ⟨by omega, by omega⟩ ?_
    refine H_cVE (J := fun s => g_j sC1 s) (M_tick_ok (g_j_m sC1) e2) (g_da dt_law8 21 rfl) (Or.inl lw_l_79) nv_M_tick rfl sh_49 rfl (g_ftl rfl hd1 hd2) rfl rfl rfl rfl ?_
    refine G_istore (lv' := [some (.ref 4000), some (.ref 0), some (.ref 49), some (.ref 74), some (gi i), some (gi 1), some (gi z1)]) (g_da dt_law8 22 rfl) (Nat.le_of_ble_eq_true rfl) rfl rfl ?_
    refine G_aload_n (g_da dt_law8 23 rfl) rfl rfl ?_
    refine H_cVE (J := fun s => g_j sC1 s) (M_thrown_ok (g_j_m sC1) (z0 := sM1 49 0) (s0 := sM1) rfl) (g_da dt_law8 24 rfl) (Or.inl lw_l_47) nv_M_thrown rfl sh_49 rfl (g_ftl rfl hd1 hd2) rfl rfl rfl rfl ?_
    refine G_iload (g_da dt_law8 25 rfl) rfl ?_
    refine G_icmp_eq (g_da dt_law8 26 rfl) rfl e3 w_1 (fun _ => ?_) (fun hc => absurd rfl hc)
    refine G_iload (g_da dt_law8 29 rfl) rfl ?_
    refine G_if_ne (g_da dt_law8 30 rfl) rfl w_1 (fun _ => ?_) (fun hc => absurd hc (by decide))
    refine G_goto (g_da dt_law9 0 rfl) rfl ?_
    exact G_subK K ⟨rfl, ⟨rfl, ⟨rfl, ⟨rfl, ⟨rfl, trivial⟩⟩⟩⟩⟩
theorem lw_l_80 : Cond.methodLink "BandPressLaw" 80 ⟨"BandPress", "stick", "(IZ)Z"⟩ ∈ g_T := (g_Tm 722 (by decide +kernel) rfl)
set_option maxHeartbeats 4000000 in
set_option maxRecDepth 100000 in
theorem nv_B_stick : g_mv M_B_stick 2 := ⟨⟨(g_Tm 89 (by decide +kernel) rfl), g_Tm 725 rfl rfl, by decide, by decide, by decide +kernel⟩, (g_Tm 723 (by decide +kernel) rfl), (g_Tm 724 (by decide +kernel) rfl)⟩
theorem lw_l_84 : Cond.methodLink "BandPressLaw" 84 ⟨"BandPressModel", "stick", "(IZ)Z"⟩ ∈ g_T := (g_Tm 1715 (by decide +kernel) rfl)
set_option maxHeartbeats 4000000 in
set_option maxRecDepth 100000 in
theorem nv_M_stick : g_mv M_M_stick 2 := ⟨⟨(g_Tm 102 (by decide +kernel) rfl), g_Tm 1718 rfl rfl, by decide, by decide, by decide +kernel⟩, (g_Tm 1716 (by decide +kernel) rfl), (g_Tm 1717 (by decide +kernel) rfl)⟩
set_option maxHeartbeats 4000000 in
set_option maxRecDepth 100000 in
theorem law_10 {r : Nat × (Nat → Int32)} {Q : gO → List gH → gS → Prop} {c1 c2 : Nat} {i : Int} {sC sM : gS} (hc1 : c1 ≤ 1103) (hc2 : c2 ≤ 59611) (hi : 0 ≤ i) (hj : i + 4 ≤ (r.1 : Int)) (hL : (r.1 : Int) ≤ 2048) (H : ∀ a0 a1 : Int, w32 a0 = a0 → (a1 = 0 ∨ a1 = 1) → g_cl2 (g_kt r Q c1 c2 i) (B_stick a0 a1) (M_stick a0 a1) sC sM) : G (M_law r false) Q (g_S, c1, c2) (g_j sC sM) 607 [some (.ref 4000), some (.ref 0), some (.ref 49), some (.ref 74), some (gi i), none, none] [] := by
  have hw1 : w32 (i + 1) = i + 1 := w32_id (by omega) (by omega)
  have hw2 : w32 (i + 2) = i + 2 := w32_id (by omega) (by omega)
  have hw3 : w32 (i + 3) = i + 3 := w32_id (by omega) (by omega)
  refine G_aload_n (g_da dt_law9 1 rfl) rfl rfl ?_
  refine G_aload_n (g_da dt_law9 2 rfl) rfl rfl ?_
  refine G_iload (g_da dt_law9 3 rfl) rfl ?_
  refine G_iconst (g_da dt_law9 4 rfl) ?_
  refine G_iadd (g_da dt_law9 5 rfl) ?_
  refine G_sld (g_da dt_law9 6 rfl) rfl hw1 ⟨by omega, by omega⟩ ?_
  refine G_aload_n (g_da dt_law9 7 rfl) rfl rfl ?_
  refine G_iload (g_da dt_law9 8 rfl) rfl ?_
  refine G_iconst (g_da dt_law9 9 rfl) ?_
  refine G_iadd (g_da dt_law9 10 rfl) ?_
  refine G_sld (g_da dt_law9 11 rfl) rfl hw2 ⟨by omega, by omega⟩ ?_
  refine G_if_eq (g_da dt_law9 12 rfl) rfl rfl (fun hb1 => ?_) (fun hb1 => ?_)
  · refine G_iconst (g_da dt_law9 15 rfl) ?_
    obtain ⟨z, z1, sC1, sM1, e1, e2, e3, K⟩ := H (g_sx r (i + 1).toNat) 0 (g_sx_w _ _) (Or.inl rfl)
    refine H_cVE (J := fun s => g_j s sM) (B_stick_ok (g_j_c sM) e1) (g_da dt_law9 16 rfl) (Or.inl lw_l_80) nv_B_stick rfl sh_0 rfl (g_ftl rfl hc1 hc2) rfl rfl rfl rfl ?_
    refine G_aload_n (g_da dt_law9 17 rfl) rfl rfl ?_
    refine G_aload_n (g_da dt_law9 18 rfl) rfl rfl ?_
    refine G_iload (g_da dt_law9 19 rfl) rfl ?_
    refine G_iconst (g_da dt_law9 20 rfl) ?_
    refine G_iadd (g_da dt_law9 21 rfl) ?_
    refine G_sld (g_da dt_law9 22 rfl) rfl hw1 ⟨by omega, by omega⟩ ?_
    refine G_aload_n (g_da dt_law9 23 rfl) rfl rfl ?_
    refine G_iload (g_da dt_law9 24 rfl) rfl ?_
    refine G_iconst (g_da dt_law9 25 rfl) ?_
    refine G_iadd (g_da dt_law9 26 rfl) ?_
    refine G_sld (g_da dt_law9 27 rfl) rfl hw2 ⟨by omega, by omega⟩ ?_
    refine G_if_eq (g_da dt_law9 28 rfl) rfl rfl (fun _ => ?_) (fun hc => absurd hb1 hc)
    refine G_iconst (g_da dt_law9 31 rfl) ?_
    refine H_cVE (J := fun s => g_j sC1 s) (M_stick_ok (g_j_m sC1) e2) (g_da dt_law9 32 rfl) (Or.inl lw_l_84) nv_M_stick rfl sh_49 rfl (g_ftl rfl hc1 hc2) rfl rfl rfl rfl ?_
    refine G_icmp_eq (g_da dt_law9 33 rfl) rfl rfl rfl (fun _ => ?_) (fun hc => absurd e3 hc)
    exact G_subK K ⟨rfl, ⟨rfl, ⟨rfl, ⟨rfl, ⟨rfl, trivial⟩⟩⟩⟩⟩
  · refine G_iconst (g_da dt_law9 13 rfl) ?_
    refine G_goto (g_da dt_law9 14 rfl) rfl ?_
    obtain ⟨z, z1, sC1, sM1, e1, e2, e3, K⟩ := H (g_sx r (i + 1).toNat) 1 (g_sx_w _ _) (Or.inr rfl)
    refine H_cVE (J := fun s => g_j s sM) (B_stick_ok (g_j_c sM) e1) (g_da dt_law9 16 rfl) (Or.inl lw_l_80) nv_B_stick rfl sh_0 rfl (g_ftl rfl hc1 hc2) rfl rfl rfl rfl ?_
    refine G_aload_n (g_da dt_law9 17 rfl) rfl rfl ?_
    refine G_aload_n (g_da dt_law9 18 rfl) rfl rfl ?_
    refine G_iload (g_da dt_law9 19 rfl) rfl ?_
    refine G_iconst (g_da dt_law9 20 rfl) ?_
    refine G_iadd (g_da dt_law9 21 rfl) ?_
    refine G_sld (g_da dt_law9 22 rfl) rfl hw1 ⟨by omega, by omega⟩ ?_
    refine G_aload_n (g_da dt_law9 23 rfl) rfl rfl ?_
    refine G_iload (g_da dt_law9 24 rfl) rfl ?_
    refine G_iconst (g_da dt_law9 25 rfl) ?_
    refine G_iadd (g_da dt_law9 26 rfl) ?_
    refine G_sld (g_da dt_law9 27 rfl) rfl hw2 ⟨by omega, by omega⟩ ?_
    refine G_if_eq (g_da dt_law9 28 rfl) rfl rfl (fun hc => absurd hc hb1) (fun _ => ?_)
    refine G_iconst (g_da dt_law9 29 rfl) ?_
    refine G_goto (g_da dt_law9 30 rfl) rfl ?_
    refine H_cVE (J := fun s => g_j sC1 s) (M_stick_ok (g_j_m sC1) e2) (g_da dt_law9 32 rfl) (Or.inl lw_l_84) nv_M_stick rfl sh_49 rfl (g_ftl rfl hc1 hc2) rfl rfl rfl rfl ?_
    refine G_icmp_eq (g_da dt_law9 33 rfl) rfl rfl rfl (fun _ => ?_) (fun hc => absurd e3 hc)
    exact G_subK K ⟨rfl, ⟨rfl, ⟨rfl, ⟨rfl, ⟨rfl, trivial⟩⟩⟩⟩⟩
theorem lw_l_85 : Cond.methodLink "BandPressLaw" 85 ⟨"BandPress", "take", "(I)Z"⟩ ∈ g_T := (g_Tm 729 (by decide +kernel) rfl)
set_option maxHeartbeats 4000000 in
set_option maxRecDepth 100000 in
theorem nv_B_take : g_mv M_B_take 1 := ⟨⟨(g_Tm 89 (by decide +kernel) rfl), g_Tm 732 rfl rfl, by decide, by decide, by decide +kernel⟩, (g_Tm 730 (by decide +kernel) rfl), (g_Tm 731 (by decide +kernel) rfl)⟩
theorem lw_l_89 : Cond.methodLink "BandPressLaw" 89 ⟨"BandPressModel", "take", "(I)Z"⟩ ∈ g_T := (g_Tm 1722 (by decide +kernel) rfl)
set_option maxHeartbeats 4000000 in
set_option maxRecDepth 100000 in
theorem nv_M_take : g_mv M_M_take 1 := ⟨⟨(g_Tm 102 (by decide +kernel) rfl), g_Tm 1725 rfl rfl, by decide, by decide, by decide +kernel⟩, (g_Tm 1723 (by decide +kernel) rfl), (g_Tm 1724 (by decide +kernel) rfl)⟩
set_option maxHeartbeats 4000000 in
set_option maxRecDepth 100000 in
theorem law_11 {r : Nat × (Nat → Int32)} {Q : gO → List gH → gS → Prop} {c1 c2 : Nat} {i : Int} {sC sM : gS} (hc1 : c1 ≤ 1103) (hc2 : c2 ≤ 59611) (hi : 0 ≤ i) (hj : i + 4 ≤ (r.1 : Int)) (hL : (r.1 : Int) ≤ 2048) (H : ∀ a0 : Int, w32 a0 = a0 → g_cl2 (g_kt r Q c1 c2 i) (B_take a0) (M_take a0) sC sM) : G (M_law r false) Q (g_S, c1, c2) (g_j sC sM) 660 [some (.ref 4000), some (.ref 0), some (.ref 49), some (.ref 74), some (gi i), none, none] [] := by
  have hw1 : w32 (i + 1) = i + 1 := w32_id (by omega) (by omega)
  have hw2 : w32 (i + 2) = i + 2 := w32_id (by omega) (by omega)
  have hw3 : w32 (i + 3) = i + 3 := w32_id (by omega) (by omega)
  refine G_aload_n (g_da dt_law9 36 rfl) rfl rfl ?_
  refine G_aload_n (g_da dt_law9 37 rfl) rfl rfl ?_
  refine G_iload (g_da dt_law9 38 rfl) rfl ?_
  refine G_iconst (g_da dt_law9 39 rfl) ?_
  refine G_iadd (g_da dt_law10 0 rfl) ?_
  refine G_sld (g_da dt_law10 1 rfl) rfl hw1 ⟨by omega, by omega⟩ ?_
  obtain ⟨z, z1, sC1, sM1, e1, e2, e3, K⟩ := H (g_sx r (i + 1).toNat) (g_sx_w _ _)
  refine H_cVE (J := fun s => g_j s sM) (B_take_ok (g_j_c sM) e1) (g_da dt_law10 2 rfl) (Or.inl lw_l_85) nv_B_take rfl sh_0 rfl (g_ftl rfl hc1 hc2) rfl rfl rfl rfl ?_
  refine G_aload_n (g_da dt_law10 3 rfl) rfl rfl ?_
  refine G_aload_n (g_da dt_law10 4 rfl) rfl rfl ?_
  refine G_iload (g_da dt_law10 5 rfl) rfl ?_
  refine G_iconst (g_da dt_law10 6 rfl) ?_
  refine G_iadd (g_da dt_law10 7 rfl) ?_
  refine G_sld (g_da dt_law10 8 rfl) rfl hw1 ⟨by omega, by omega⟩ ?_
  refine H_cVE (J := fun s => g_j sC1 s) (M_take_ok (g_j_m sC1) e2) (g_da dt_law10 9 rfl) (Or.inl lw_l_89) nv_M_take rfl sh_49 rfl (g_ftl rfl hc1 hc2) rfl rfl rfl rfl ?_
  refine G_icmp_eq (g_da dt_law10 10 rfl) rfl rfl rfl (fun _ => ?_) (fun hc => absurd e3 hc)
  exact G_subK K ⟨rfl, ⟨rfl, ⟨rfl, ⟨rfl, ⟨rfl, trivial⟩⟩⟩⟩⟩
theorem lw_l_90 : Cond.methodLink "BandPressLaw" 90 ⟨"BandPress", "load", "(I)I"⟩ ∈ g_T := (g_Tm 741 (by decide +kernel) rfl)
set_option maxHeartbeats 4000000 in
set_option maxRecDepth 100000 in
theorem nv_B_load : g_mv M_B_load 1 := ⟨⟨(g_Tm 89 (by decide +kernel) rfl), g_Tm 744 rfl rfl, by decide, by decide, by decide +kernel⟩, (g_Tm 742 (by decide +kernel) rfl), (g_Tm 743 (by decide +kernel) rfl)⟩
theorem lw_l_93 : Cond.methodLink "BandPressLaw" 93 ⟨"BandPressModel", "load", "(I)I"⟩ ∈ g_T := (g_Tm 1726 (by decide +kernel) rfl)
set_option maxHeartbeats 4000000 in
set_option maxRecDepth 100000 in
theorem nv_M_load : g_mv M_M_load 1 := ⟨⟨(g_Tm 102 (by decide +kernel) rfl), g_Tm 1729 rfl rfl, by decide, by decide, by decide +kernel⟩, (g_Tm 1727 (by decide +kernel) rfl), (g_Tm 1728 (by decide +kernel) rfl)⟩
set_option maxHeartbeats 4000000 in
set_option maxRecDepth 100000 in
theorem law_12 {r : Nat × (Nat → Int32)} {Q : gO → List gH → gS → Prop} {c1 c2 : Nat} {i : Int} {sC sM : gS} (hc1 : c1 ≤ 1103) (hc2 : c2 ≤ 59611) (hi : 0 ≤ i) (hj : i + 4 ≤ (r.1 : Int)) (hL : (r.1 : Int) ≤ 2048) (H : ∀ a0 : Int, w32 a0 = a0 → g_cl2 (g_kt r Q c1 c2 i) (B_load a0) (M_load a0) sC sM) : G (M_law r false) Q (g_S, c1, c2) (g_j sC sM) 685 [some (.ref 4000), some (.ref 0), some (.ref 49), some (.ref 74), some (gi i), none, none] [] := by
  have hw1 : w32 (i + 1) = i + 1 := w32_id (by omega) (by omega)
  have hw2 : w32 (i + 2) = i + 2 := w32_id (by omega) (by omega)
  have hw3 : w32 (i + 3) = i + 3 := w32_id (by omega) (by omega)
  refine G_aload_n (g_da dt_law10 13 rfl) rfl rfl ?_
  refine G_aload_n (g_da dt_law10 14 rfl) rfl rfl ?_
  refine G_iload (g_da dt_law10 15 rfl) rfl ?_
  refine G_iconst (g_da dt_law10 16 rfl) ?_
  refine G_iadd (g_da dt_law10 17 rfl) ?_
  refine G_sld (g_da dt_law10 18 rfl) rfl hw1 ⟨by omega, by omega⟩ ?_
  obtain ⟨z, z1, sC1, sM1, e1, e2, e3, K⟩ := H (g_sx r (i + 1).toNat) (g_sx_w _ _)
  refine H_cVE (J := fun s => g_j s sM) (B_load_ok (g_j_c sM) e1) (g_da dt_law10 19 rfl) (Or.inl lw_l_90) nv_B_load rfl sh_0 rfl (g_ftl rfl hc1 hc2) rfl rfl rfl rfl ?_
  refine G_aload_n (g_da dt_law10 20 rfl) rfl rfl ?_
  refine G_aload_n (g_da dt_law10 21 rfl) rfl rfl ?_
  refine G_iload (g_da dt_law10 22 rfl) rfl ?_
  refine G_iconst (g_da dt_law10 23 rfl) ?_
  refine G_iadd (g_da dt_law10 24 rfl) ?_
  refine G_sld (g_da dt_law10 25 rfl) rfl hw1 ⟨by omega, by omega⟩ ?_
  refine H_cVE (J := fun s => g_j sC1 s) (M_load_ok (g_j_m sC1) e2) (g_da dt_law10 26 rfl) (Or.inl lw_l_93) nv_M_load rfl sh_49 rfl (g_ftl rfl hc1 hc2) rfl rfl rfl rfl ?_
  refine G_icmp_eq (g_da dt_law10 27 rfl) rfl rfl rfl (fun _ => ?_) (fun hc => absurd e3 hc)
  exact G_subK K ⟨rfl, ⟨rfl, ⟨rfl, ⟨rfl, ⟨rfl, trivial⟩⟩⟩⟩⟩
theorem lw_l_94 : Cond.methodLink "BandPressLaw" 94 ⟨"BandPress", "cover", "(Z)Z"⟩ ∈ g_T := (g_Tm 745 (by decide +kernel) rfl)
set_option maxHeartbeats 4000000 in
set_option maxRecDepth 100000 in
theorem nv_B_cover : g_mv M_B_cover 1 := ⟨⟨(g_Tm 89 (by decide +kernel) rfl), g_Tm 748 rfl rfl, by decide, by decide, by decide +kernel⟩, (g_Tm 746 (by decide +kernel) rfl), (g_Tm 747 (by decide +kernel) rfl)⟩
theorem lw_l_98 : Cond.methodLink "BandPressLaw" 98 ⟨"BandPressModel", "cover", "(Z)Z"⟩ ∈ g_T := (g_Tm 1730 (by decide +kernel) rfl)
set_option maxHeartbeats 4000000 in
set_option maxRecDepth 100000 in
theorem nv_M_cover : g_mv M_M_cover 1 := ⟨⟨(g_Tm 102 (by decide +kernel) rfl), g_Tm 1733 rfl rfl, by decide, by decide, by decide +kernel⟩, (g_Tm 1731 (by decide +kernel) rfl), (g_Tm 1732 (by decide +kernel) rfl)⟩
set_option maxHeartbeats 4000000 in
set_option maxRecDepth 100000 in
theorem law_13 {r : Nat × (Nat → Int32)} {Q : gO → List gH → gS → Prop} {c1 c2 : Nat} {i : Int} {sC sM : gS} (hc1 : c1 ≤ 1103) (hc2 : c2 ≤ 59611) (hi : 0 ≤ i) (hj : i + 4 ≤ (r.1 : Int)) (hL : (r.1 : Int) ≤ 2048) (H : ∀ a0 : Int, (a0 = 0 ∨ a0 = 1) → g_cl2 (g_kt r Q c1 c2 i) (B_cover a0) (M_cover a0) sC sM) : G (M_law r false) Q (g_S, c1, c2) (g_j sC sM) 710 [some (.ref 4000), some (.ref 0), some (.ref 49), some (.ref 74), some (gi i), none, none] [] := by
  have hw1 : w32 (i + 1) = i + 1 := w32_id (by omega) (by omega)
  have hw2 : w32 (i + 2) = i + 2 := w32_id (by omega) (by omega)
  have hw3 : w32 (i + 3) = i + 3 := w32_id (by omega) (by omega)
  refine G_aload_n (g_da dt_law10 30 rfl) rfl rfl ?_
  refine G_aload_n (g_da dt_law10 31 rfl) rfl rfl ?_
  refine G_iload (g_da dt_law10 32 rfl) rfl ?_
  refine G_iconst (g_da dt_law10 33 rfl) ?_
  refine G_iadd (g_da dt_law10 34 rfl) ?_
  refine G_sld (g_da dt_law10 35 rfl) rfl hw1 ⟨by omega, by omega⟩ ?_
  refine G_if_eq (g_da dt_law10 36 rfl) rfl rfl (fun hb1 => ?_) (fun hb1 => ?_)
  · refine G_iconst (g_da dt_law10 39 rfl) ?_
    obtain ⟨z, z1, sC1, sM1, e1, e2, e3, K⟩ := H 0 (Or.inl rfl)
    refine H_cVE (J := fun s => g_j s sM) (B_cover_ok (g_j_c sM) e1) (g_da dt_law11 0 rfl) (Or.inl lw_l_94) nv_B_cover rfl sh_0 rfl (g_ftl rfl hc1 hc2) rfl rfl rfl rfl ?_
    refine G_aload_n (g_da dt_law11 1 rfl) rfl rfl ?_
    refine G_aload_n (g_da dt_law11 2 rfl) rfl rfl ?_
    refine G_iload (g_da dt_law11 3 rfl) rfl ?_
    refine G_iconst (g_da dt_law11 4 rfl) ?_
    refine G_iadd (g_da dt_law11 5 rfl) ?_
    refine G_sld (g_da dt_law11 6 rfl) rfl hw1 ⟨by omega, by omega⟩ ?_
    refine G_if_eq (g_da dt_law11 7 rfl) rfl rfl (fun _ => ?_) (fun hc => absurd hb1 hc)
    refine G_iconst (g_da dt_law11 10 rfl) ?_
    refine H_cVE (J := fun s => g_j sC1 s) (M_cover_ok (g_j_m sC1) e2) (g_da dt_law11 11 rfl) (Or.inl lw_l_98) nv_M_cover rfl sh_49 rfl (g_ftl rfl hc1 hc2) rfl rfl rfl rfl ?_
    refine G_icmp_eq (g_da dt_law11 12 rfl) rfl rfl rfl (fun _ => ?_) (fun hc => absurd e3 hc)
    exact G_subK K ⟨rfl, ⟨rfl, ⟨rfl, ⟨rfl, ⟨rfl, trivial⟩⟩⟩⟩⟩
  · refine G_iconst (g_da dt_law10 37 rfl) ?_
    refine G_goto (g_da dt_law10 38 rfl) rfl ?_
    obtain ⟨z, z1, sC1, sM1, e1, e2, e3, K⟩ := H 1 (Or.inr rfl)
    refine H_cVE (J := fun s => g_j s sM) (B_cover_ok (g_j_c sM) e1) (g_da dt_law11 0 rfl) (Or.inl lw_l_94) nv_B_cover rfl sh_0 rfl (g_ftl rfl hc1 hc2) rfl rfl rfl rfl ?_
    refine G_aload_n (g_da dt_law11 1 rfl) rfl rfl ?_
    refine G_aload_n (g_da dt_law11 2 rfl) rfl rfl ?_
    refine G_iload (g_da dt_law11 3 rfl) rfl ?_
    refine G_iconst (g_da dt_law11 4 rfl) ?_
    refine G_iadd (g_da dt_law11 5 rfl) ?_
    refine G_sld (g_da dt_law11 6 rfl) rfl hw1 ⟨by omega, by omega⟩ ?_
    refine G_if_eq (g_da dt_law11 7 rfl) rfl rfl (fun hc => absurd hc hb1) (fun _ => ?_)
    refine G_iconst (g_da dt_law11 8 rfl) ?_
    refine G_goto (g_da dt_law11 9 rfl) rfl ?_
    refine H_cVE (J := fun s => g_j sC1 s) (M_cover_ok (g_j_m sC1) e2) (g_da dt_law11 11 rfl) (Or.inl lw_l_98) nv_M_cover rfl sh_49 rfl (g_ftl rfl hc1 hc2) rfl rfl rfl rfl ?_
    refine G_icmp_eq (g_da dt_law11 12 rfl) rfl rfl rfl (fun _ => ?_) (fun hc => absurd e3 hc)
    exact G_subK K ⟨rfl, ⟨rfl, ⟨rfl, ⟨rfl, ⟨rfl, trivial⟩⟩⟩⟩⟩
theorem lw_l_99 : Cond.methodLink "BandPressLaw" 99 ⟨"BandPress", "section", "(II)I"⟩ ∈ g_T := (g_Tm 749 (by decide +kernel) rfl)
set_option maxHeartbeats 4000000 in
set_option maxRecDepth 100000 in
theorem nv_B_section : g_mv M_B_section 2 := ⟨⟨(g_Tm 89 (by decide +kernel) rfl), g_Tm 752 rfl rfl, by decide, by decide, by decide +kernel⟩, (g_Tm 750 (by decide +kernel) rfl), (g_Tm 751 (by decide +kernel) rfl)⟩
theorem lw_l_102 : Cond.methodLink "BandPressLaw" 102 ⟨"BandPressModel", "section", "(II)I"⟩ ∈ g_T := (g_Tm 1734 (by decide +kernel) rfl)
set_option maxHeartbeats 4000000 in
set_option maxRecDepth 100000 in
theorem nv_M_section : g_mv M_M_section 2 := ⟨⟨(g_Tm 102 (by decide +kernel) rfl), g_Tm 1737 rfl rfl, by decide, by decide, by decide +kernel⟩, (g_Tm 1735 (by decide +kernel) rfl), (g_Tm 1736 (by decide +kernel) rfl)⟩
set_option maxHeartbeats 4000000 in
set_option maxRecDepth 100000 in
theorem law_14 {r : Nat × (Nat → Int32)} {Q : gO → List gH → gS → Prop} {c1 c2 : Nat} {i : Int} {sC sM : gS} (hc1 : c1 ≤ 1103) (hc2 : c2 ≤ 59611) (hi : 0 ≤ i) (hj : i + 4 ≤ (r.1 : Int)) (hL : (r.1 : Int) ≤ 2048) (H : ∀ a0 a1 : Int, w32 a0 = a0 → w32 a1 = a1 → g_cl2 (g_kt r Q c1 c2 i) (B_section a0 a1) (M_section a0 a1) sC sM) : G (M_law r false) Q (g_S, c1, c2) (g_j sC sM) 751 [some (.ref 4000), some (.ref 0), some (.ref 49), some (.ref 74), some (gi i), none, none] [] := by
  have hw1 : w32 (i + 1) = i + 1 := w32_id (by omega) (by omega)
  have hw2 : w32 (i + 2) = i + 2 := w32_id (by omega) (by omega)
  have hw3 : w32 (i + 3) = i + 3 := w32_id (by omega) (by omega)
  refine G_aload_n (g_da dt_law11 15 rfl) rfl rfl ?_
  refine G_aload_n (g_da dt_law11 16 rfl) rfl rfl ?_
  refine G_iload (g_da dt_law11 17 rfl) rfl ?_
  refine G_iconst (g_da dt_law11 18 rfl) ?_
  refine G_iadd (g_da dt_law11 19 rfl) ?_
  refine G_sld (g_da dt_law11 20 rfl) rfl hw1 ⟨by omega, by omega⟩ ?_
  refine G_aload_n (g_da dt_law11 21 rfl) rfl rfl ?_
  refine G_iload (g_da dt_law11 22 rfl) rfl ?_
  refine G_iconst (g_da dt_law11 23 rfl) ?_
  refine G_iadd (g_da dt_law11 24 rfl) ?_
  refine G_sld (g_da dt_law11 25 rfl) rfl hw2 ⟨by omega, by omega⟩ ?_
  obtain ⟨z, z1, sC1, sM1, e1, e2, e3, K⟩ := H (g_sx r (i + 1).toNat) (g_sx r (i + 2).toNat) (g_sx_w _ _) (g_sx_w _ _)
  refine H_cVE (J := fun s => g_j s sM) (B_section_ok (g_j_c sM) e1) (g_da dt_law11 26 rfl) (Or.inl lw_l_99) nv_B_section rfl sh_0 rfl (g_ftl rfl hc1 hc2) rfl rfl rfl rfl ?_
  refine G_aload_n (g_da dt_law11 27 rfl) rfl rfl ?_
  refine G_aload_n (g_da dt_law11 28 rfl) rfl rfl ?_
  refine G_iload (g_da dt_law11 29 rfl) rfl ?_
  refine G_iconst (g_da dt_law11 30 rfl) ?_
  refine G_iadd (g_da dt_law11 31 rfl) ?_
  refine G_sld (g_da dt_law11 32 rfl) rfl hw1 ⟨by omega, by omega⟩ ?_
  refine G_aload_n (g_da dt_law11 33 rfl) rfl rfl ?_
  refine G_iload (g_da dt_law11 34 rfl) rfl ?_
  refine G_iconst (g_da dt_law11 35 rfl) ?_
  refine G_iadd (g_da dt_law11 36 rfl) ?_
  refine G_sld (g_da dt_law11 37 rfl) rfl hw2 ⟨by omega, by omega⟩ ?_
  refine H_cVE (J := fun s => g_j sC1 s) (M_section_ok (g_j_m sC1) e2) (g_da dt_law11 38 rfl) (Or.inl lw_l_102) nv_M_section rfl sh_49 rfl (g_ftl rfl hc1 hc2) rfl rfl rfl rfl ?_
  refine G_icmp_eq (g_da dt_law11 39 rfl) rfl rfl rfl (fun _ => ?_) (fun hc => absurd e3 hc)
  exact G_subK K ⟨rfl, ⟨rfl, ⟨rfl, ⟨rfl, ⟨rfl, trivial⟩⟩⟩⟩⟩
theorem lw_l_103 : Cond.methodLink "BandPressLaw" 103 ⟨"BandPress", "out", "(II)I"⟩ ∈ g_T := (g_Tm 753 (by decide +kernel) rfl)
set_option maxHeartbeats 4000000 in
set_option maxRecDepth 100000 in
theorem nv_B_out : g_mv M_B_out 2 := ⟨⟨(g_Tm 89 (by decide +kernel) rfl), g_Tm 756 rfl rfl, by decide, by decide, by decide +kernel⟩, (g_Tm 754 (by decide +kernel) rfl), (g_Tm 755 (by decide +kernel) rfl)⟩
theorem lw_l_106 : Cond.methodLink "BandPressLaw" 106 ⟨"BandPressModel", "out", "(II)I"⟩ ∈ g_T := (g_Tm 1738 (by decide +kernel) rfl)
set_option maxHeartbeats 4000000 in
set_option maxRecDepth 100000 in
theorem nv_M_out1 : g_mv M_M_out1 2 := ⟨⟨(g_Tm 102 (by decide +kernel) rfl), g_Tm 1741 rfl rfl, by decide, by decide, by decide +kernel⟩, (g_Tm 1739 (by decide +kernel) rfl), (g_Tm 1740 (by decide +kernel) rfl)⟩
set_option maxHeartbeats 4000000 in
set_option maxRecDepth 100000 in
theorem law_15 {r : Nat × (Nat → Int32)} {Q : gO → List gH → gS → Prop} {c1 c2 : Nat} {i : Int} {sC sM : gS} (hc1 : c1 ≤ 1103) (hc2 : c2 ≤ 59611) (hi : 0 ≤ i) (hj : i + 4 ≤ (r.1 : Int)) (hL : (r.1 : Int) ≤ 2048) (H : ∀ a0 a1 : Int, w32 a0 = a0 → w32 a1 = a1 → g_cl2 (g_kt r Q c1 c2 i) (B_out a0 a1) (M_out1 a0 a1) sC sM) : G (M_law r false) Q (g_S, c1, c2) (g_j sC sM) 788 [some (.ref 4000), some (.ref 0), some (.ref 49), some (.ref 74), some (gi i), none, none] [] := by
  have hw1 : w32 (i + 1) = i + 1 := w32_id (by omega) (by omega)
  have hw2 : w32 (i + 2) = i + 2 := w32_id (by omega) (by omega)
  have hw3 : w32 (i + 3) = i + 3 := w32_id (by omega) (by omega)
  refine G_aload_n (g_da dt_law12 2 rfl) rfl rfl ?_
  refine G_aload_n (g_da dt_law12 3 rfl) rfl rfl ?_
  refine G_iload (g_da dt_law12 4 rfl) rfl ?_
  refine G_iconst (g_da dt_law12 5 rfl) ?_
  refine G_iadd (g_da dt_law12 6 rfl) ?_
  refine G_sld (g_da dt_law12 7 rfl) rfl hw1 ⟨by omega, by omega⟩ ?_
  refine G_aload_n (g_da dt_law12 8 rfl) rfl rfl ?_
  refine G_iload (g_da dt_law12 9 rfl) rfl ?_
  refine G_iconst (g_da dt_law12 10 rfl) ?_
  refine G_iadd (g_da dt_law12 11 rfl) ?_
  refine G_sld (g_da dt_law12 12 rfl) rfl hw2 ⟨by omega, by omega⟩ ?_
  obtain ⟨z, z1, sC1, sM1, e1, e2, e3, K⟩ := H (g_sx r (i + 1).toNat) (g_sx r (i + 2).toNat) (g_sx_w _ _) (g_sx_w _ _)
  refine H_cVE (J := fun s => g_j s sM) (B_out_ok (g_j_c sM) e1) (g_da dt_law12 13 rfl) (Or.inl lw_l_103) nv_B_out rfl sh_0 rfl (g_ftl rfl hc1 hc2) rfl rfl rfl rfl ?_
  refine G_aload_n (g_da dt_law12 14 rfl) rfl rfl ?_
  refine G_aload_n (g_da dt_law12 15 rfl) rfl rfl ?_
  refine G_iload (g_da dt_law12 16 rfl) rfl ?_
  refine G_iconst (g_da dt_law12 17 rfl) ?_
  refine G_iadd (g_da dt_law12 18 rfl) ?_
  refine G_sld (g_da dt_law12 19 rfl) rfl hw1 ⟨by omega, by omega⟩ ?_
  refine G_aload_n (g_da dt_law12 20 rfl) rfl rfl ?_
  refine G_iload (g_da dt_law12 21 rfl) rfl ?_
  refine G_iconst (g_da dt_law12 22 rfl) ?_
  refine G_iadd (g_da dt_law12 23 rfl) ?_
  refine G_sld (g_da dt_law12 24 rfl) rfl hw2 ⟨by omega, by omega⟩ ?_
  refine H_cVE (J := fun s => g_j sC1 s) (M_out1_ok (g_j_m sC1) e2) (g_da dt_law12 25 rfl) (Or.inl lw_l_106) nv_M_out1 rfl sh_49 rfl (g_ftl rfl hc1 hc2) rfl rfl rfl rfl ?_
  refine G_icmp_eq (g_da dt_law12 26 rfl) rfl rfl rfl (fun _ => ?_) (fun hc => absurd e3 hc)
  exact G_subK K ⟨rfl, ⟨rfl, ⟨rfl, ⟨rfl, ⟨rfl, trivial⟩⟩⟩⟩⟩
theorem lw_l_107 : Cond.methodLink "BandPressLaw" 107 ⟨"BandPress", "press", "(I)I"⟩ ∈ g_T := (g_Tm 774 (by decide +kernel) rfl)
set_option maxHeartbeats 4000000 in
set_option maxRecDepth 100000 in
theorem nv_B_press : g_mv M_B_press 1 := ⟨⟨(g_Tm 89 (by decide +kernel) rfl), g_Tm 777 rfl rfl, by decide, by decide, by decide +kernel⟩, (g_Tm 775 (by decide +kernel) rfl), (g_Tm 776 (by decide +kernel) rfl)⟩
theorem lw_l_110 : Cond.methodLink "BandPressLaw" 110 ⟨"BandPressModel", "press", "(I)I"⟩ ∈ g_T := (g_Tm 1742 (by decide +kernel) rfl)
set_option maxHeartbeats 4000000 in
set_option maxRecDepth 100000 in
theorem nv_M_press : g_mv M_M_press 1 := ⟨⟨(g_Tm 102 (by decide +kernel) rfl), g_Tm 1745 rfl rfl, by decide, by decide, by decide +kernel⟩, (g_Tm 1743 (by decide +kernel) rfl), (g_Tm 1744 (by decide +kernel) rfl)⟩
set_option maxHeartbeats 4000000 in
set_option maxRecDepth 100000 in
theorem law_16 {r : Nat × (Nat → Int32)} {Q : gO → List gH → gS → Prop} {c1 c2 : Nat} {i : Int} {sC sM : gS} (hc1 : c1 ≤ 1103) (hc2 : c2 ≤ 59611) (hi : 0 ≤ i) (hj : i + 4 ≤ (r.1 : Int)) (hL : (r.1 : Int) ≤ 2048) (H : ∀ a0 : Int, w32 a0 = a0 → g_cl2 (g_kt r Q c1 c2 i) (B_press a0) (M_press a0) sC sM) : G (M_law r false) Q (g_S, c1, c2) (g_j sC sM) 825 [some (.ref 4000), some (.ref 0), some (.ref 49), some (.ref 74), some (gi i), none, none] [] := by
  have hw1 : w32 (i + 1) = i + 1 := w32_id (by omega) (by omega)
  have hw2 : w32 (i + 2) = i + 2 := w32_id (by omega) (by omega)
  have hw3 : w32 (i + 3) = i + 3 := w32_id (by omega) (by omega)
  refine G_aload_n (g_da dt_law12 29 rfl) rfl rfl ?_
  refine G_aload_n (g_da dt_law12 30 rfl) rfl rfl ?_
  refine G_iload (g_da dt_law12 31 rfl) rfl ?_
  refine G_iconst (g_da dt_law12 32 rfl) ?_
  refine G_iadd (g_da dt_law12 33 rfl) ?_
  refine G_sld (g_da dt_law12 34 rfl) rfl hw1 ⟨by omega, by omega⟩ ?_
  obtain ⟨z, z1, sC1, sM1, e1, e2, e3, K⟩ := H (g_sx r (i + 1).toNat) (g_sx_w _ _)
  refine H_cVE (J := fun s => g_j s sM) (B_press_ok (g_j_c sM) e1) (g_da dt_law12 35 rfl) (Or.inl lw_l_107) nv_B_press rfl sh_0 rfl (g_ftl rfl hc1 hc2) rfl rfl rfl rfl ?_
  refine G_aload_n (g_da dt_law12 36 rfl) rfl rfl ?_
  refine G_aload_n (g_da dt_law12 37 rfl) rfl rfl ?_
  refine G_iload (g_da dt_law12 38 rfl) rfl ?_
  refine G_iconst (g_da dt_law12 39 rfl) ?_
  refine G_iadd (g_da dt_law13 0 rfl) ?_
  refine G_sld (g_da dt_law13 1 rfl) rfl hw1 ⟨by omega, by omega⟩ ?_
  refine H_cVE (J := fun s => g_j sC1 s) (M_press_ok (g_j_m sC1) e2) (g_da dt_law13 2 rfl) (Or.inl lw_l_110) nv_M_press rfl sh_49 rfl (g_ftl rfl hc1 hc2) rfl rfl rfl rfl ?_
  refine G_icmp_eq (g_da dt_law13 3 rfl) rfl rfl rfl (fun _ => ?_) (fun hc => absurd e3 hc)
  exact G_subK K ⟨rfl, ⟨rfl, ⟨rfl, ⟨rfl, ⟨rfl, trivial⟩⟩⟩⟩⟩
