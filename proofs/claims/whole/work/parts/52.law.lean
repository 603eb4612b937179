/-! the law: helpers, calls, loop (by program) -/
def M_law (r : Nat × (Nat → Int32)) (al : Bool) : gM := (⟨"BandPressLaw", "law", "([I)Z"⟩, code, some .boolean, 7, { frames := 14, cells := 1103, slots := 59611, locals := 538 }, al, false, some r)
def dl_law : List (Instr × Nat) := [(.new 8, 3), (.dup, 1), (.invokespecial 25, 3), (.astore_n 1, 1), (.new 26, 3), (.dup, 1), (.invokespecial 28, 3), (.astore_n 2, 1), (.iconst 1, 1), (.newarray .long, 2), (.astore_n 3, 1), (.iconst 0, 1), (.istore 4, 2), (.iload 4, 2), (.aload_n 0, 1), (.arraylength, 1), (.iconst 4, 1), (.isub, 1), (.if_icmp .gt 827, 3), (.aload_n 0, 1), (.iload 4, 2), (.iaload, 1), (.bipush 31, 2), (.iand, 1), (.tableswitch 811 0 16 #[81, 150, 215, 271, 296, 352, 377, 426, 463, 512, 568, 621, 646, 671, 712, 749, 786], 81), (.aload_n 1, 1), (.aload_n 0, 1), (.iload 4, 2), (.iconst 1, 1), (.iadd, 1), (.iaload, 1), (.i2l, 1), (.bipush 32, 2), (.lshl, 1), (.aload_n 0, 1), (.iload 4, 2), (.iconst 2, 1), (.iadd, 1), (.iaload, 1), (.i2l, 1), (.ldc2_w 29, 3), (.land, 1), (.lor, 1), (.aload_n 0, 1), (.iload 4, 2), (.iconst 3, 1), (.iadd, 1), (.iaload, 1), (.invokevirtual 31, 3), (.aload_n 2, 1), (.aload_n 0, 1), (.iload 4, 2), (.iconst 1, 1), (.iadd, 1), (.iaload, 1), (.i2l, 1), (.bipush 32, 2), (.lshl, 1), (.aload_n 0, 1), (.iload 4, 2), (.iconst 2, 1), (.iadd, 1), (.iaload, 1), (.i2l, 1), (.ldc2_w 29, 3), (.land, 1), (.lor, 1), (.aload_n 0, 1), (.iload 4, 2), (.iconst 3, 1), (.iadd, 1), (.iaload, 1), (.invokevirtual 35, 3), (.if_icmp .eq 666, 3), (.iconst 0, 1), (.ireturn, 1), (.aload_n 1, 1), (.aload_n 0, 1), (.iload 4, 2), (.iconst 1, 1), (.iadd, 1), (.iaload, 1), (.aload_n 0, 1), (.iload 4, 2), (.iconst 2, 1), (.iadd, 1), (.iaload, 1), (.ifCond .eq 7, 3), (.iconst 1, 1), (.goto 4, 3), (.iconst 0, 1), (.aload_n 0, 1), (.iload 4, 2), (.iconst 3, 1), (.iadd, 1), (.iaload, 1), (.invokevirtual 36, 3), (.aload_n 2, 1), (.aload_n 0, 1), (.iload 4, 2), (.iconst 1, 1), (.iadd, 1), (.iaload, 1), (.aload_n 0, 1), (.iload 4, 2), (.iconst 2, 1), (.iadd, 1), (.iaload, 1), (.ifCond .eq 7, 3), (.iconst 1, 1), (.goto 4, 3), (.iconst 0, 1), (.aload_n 0, 1), (.iload 4, 2), (.iconst 3, 1), (.iadd, 1), (.iaload, 1), (.invokevirtual 40, 3), (.if_icmp .eq 601, 3), (.iconst 0, 1), (.ireturn, 1), (.aload_n 1, 1), (.aload_n 0, 1), (.iload 4, 2), (.iconst 1, 1), (.iadd, 1), (.iaload, 1), (.aload_n 3, 1), (.invokestatic 41, 3), (.istore 5, 2), (.aload_n 2, 1), (.aload_n 0, 1), (.iload 4, 2), (.iconst 1, 1), (.iadd, 1), (.iaload, 1), (.invokevirtual 46, 3), (.istore 6, 2), (.aload_n 2, 1), (.invokevirtual 47, 3), (.iload 5, 2), (.if_icmp .eq 5, 3), (.iconst 0, 1), (.ireturn, 1), (.iload 5, 2), (.ifCond .ne 15, 3), (.aload_n 3, 1), (.iconst 0, 1), (.laload, 1), (.iload 6, 2), (.i2l, 1), (.lcmp, 1), (.ifCond .eq 5, 3), (.iconst 0, 1), (.ireturn, 1), (.goto 543, 3), (.aload_n 1, 1), (.aload_n 0, 1), (.iload 4, 2), (.iconst 1, 1), (.iadd, 1), (.iaload, 1), (.invokevirtual 51, 3), (.aload_n 2, 1), (.aload_n 0, 1), (.iload 4, 2), (.iconst 1, 1), (.iadd, 1), (.iaload, 1), (.invokevirtual 54, 3), (.if_icmp .eq 520, 3), (.iconst 0, 1), (.ireturn, 1), (.aload_n 1, 1), (.aload_n 0, 1), (.iload 4, 2), (.iconst 1, 1), (.iadd, 1), (.iaload, 1), (.aload_n 3, 1), (.invokestatic 55, 3), (.istore 5, 2), (.aload_n 2, 1), (.aload_n 0, 1), (.iload 4, 2), (.iconst 1, 1), (.iadd, 1), (.iaload, 1), (.invokevirtual 57, 3), (.istore 6, 2), (.aload_n 2, 1), (.invokevirtual 47, 3), (.iload 5, 2), (.if_icmp .eq 5, 3), (.iconst 0, 1), (.ireturn, 1), (.iload 5, 2), (.ifCond .ne 15, 3), (.aload_n 3, 1), (.iconst 0, 1), (.laload, 1), (.iload 6, 2), (.i2l, 1), (.lcmp, 1), (.ifCond .eq 5, 3), (.iconst 0, 1), (.ireturn, 1), (.goto 462, 3), (.aload_n 1, 1), (.aload_n 0, 1), (.iload 4, 2), (.iconst 1, 1), (.iadd, 1), (.iaload, 1), (.invokevirtual 58, 3), (.aload_n 2, 1), (.aload_n 0, 1), (.iload 4, 2), (.iconst 1, 1), (.iadd, 1), (.iaload, 1), (.invokevirtual 61, 3), (.if_icmp .eq 439, 3), (.iconst 0, 1), (.ireturn, 1), (.aload_n 1, 1), (.aload_n 0, 1), (.iload 4, 2), (.iconst 1, 1), (.iadd, 1), (.iaload, 1), (.aload_n 0, 1), (.iload 4, 2), (.iconst 2, 1), (.iadd, 1), (.iaload, 1), (.aload_n 0, 1), (.iload 4, 2), (.iconst 3, 1), (.iadd, 1), (.iaload, 1), (.invokevirtual 62, 3), (.aload_n 2, 1), (.aload_n 0, 1), (.iload 4, 2), (.iconst 1, 1), (.iadd, 1), (.iaload, 1), (.aload_n 0, 1), (.iload 4, 2), (.iconst 2, 1), (.iadd, 1), (.iaload, 1), (.aload_n 0, 1), (.iload 4, 2), (.iconst 3, 1), (.iadd, 1), (.iaload, 1), (.invokevirtual 66, 3), (.if_icmp .eq 390, 3), (.iconst 0, 1), (.ireturn, 1), (.aload_n 1, 1), (.aload_n 0, 1), (.iload 4, 2), (.iconst 1, 1), (.iadd, 1), (.iaload, 1), (.aload_n 0, 1), (.iload 4, 2), (.iconst 2, 1), (.iadd, 1), (.iaload, 1), (.invokevirtual 67, 3), (.aload_n 2, 1), (.aload_n 0, 1), (.iload 4, 2), (.iconst 1, 1), (.iadd, 1), (.iaload, 1), (.aload_n 0, 1), (.iload 4, 2), (.iconst 2, 1), (.iadd, 1), (.iaload, 1), (.invokevirtual 71, 3), (.if_icmp .eq 353, 3), (.iconst 0, 1), (.ireturn, 1), (.aload_n 1, 1), (.aload_n 0, 1), (.iload 4, 2), (.iconst 1, 1), (.iadd, 1), (.iaload, 1), (.aload_n 0, 1), (.iload 4, 2), (.iconst 2, 1), (.iadd, 1), (.iaload, 1), (.aload_n 0, 1), (.iload 4, 2), (.iconst 3, 1), (.iadd, 1), (.iaload, 1), (.invokevirtual 72, 3), (.aload_n 2, 1), (.aload_n 0, 1), (.iload 4, 2), (.iconst 1, 1), (.iadd, 1), (.iaload, 1), (.aload_n 0, 1), (.iload 4, 2), (.iconst 2, 1), (.iadd, 1), (.iaload, 1), (.aload_n 0, 1), (.iload 4, 2), (.iconst 3, 1), (.iadd, 1), (.iaload, 1), (.invokevirtual 76, 3), (.if_icmp .eq 304, 3), (.iconst 0, 1), (.ireturn, 1), (.aload_n 1, 1), (.aload_n 0, 1), (.iload 4, 2), (.iconst 1, 1), (.iadd, 1), (.iaload, 1), (.aload_n 3, 1), (.invokestatic 77, 3), (.istore 5, 2), (.aload_n 2, 1), (.aload_n 0, 1), (.iload 4, 2), (.iconst 1, 1), (.iadd, 1), (.iaload, 1), (.invokevirtual 79, 3), (.istore 6, 2), (.aload_n 2, 1), (.invokevirtual 47, 3), (.iload 5, 2), (.if_icmp .eq 5, 3), (.iconst 0, 1), (.ireturn, 1), (.iload 5, 2), (.ifCond .ne 15, 3), (.aload_n 3, 1), (.iconst 0, 1), (.laload, 1), (.iload 6, 2), (.i2l, 1), (.lcmp, 1), (.ifCond .eq 5, 3), (.iconst 0, 1), (.ireturn, 1), (.goto 246, 3), (.aload_n 1, 1), (.aload_n 0, 1), (.iload 4, 2), (.iconst 1, 1), (.iadd, 1), (.iaload, 1), (.aload_n 0, 1), (.iload 4, 2), (.iconst 2, 1), (.iadd, 1), (.iaload, 1), (.ifCond .eq 7, 3), (.iconst 1, 1), (.goto 4, 3), (.iconst 0, 1), (.invokevirtual 80, 3), (.aload_n 2, 1), (.aload_n 0, 1), (.iload 4, 2), (.iconst 1, 1), (.iadd, 1), (.iaload, 1), (.aload_n 0, 1), (.iload 4, 2), (.iconst 2, 1), (.iadd, 1), (.iaload, 1), (.ifCond .eq 7, 3), (.iconst 1, 1), (.goto 4, 3), (.iconst 0, 1), (.invokevirtual 84, 3), (.if_icmp .eq 195, 3), (.iconst 0, 1), (.ireturn, 1), (.aload_n 1, 1), (.aload_n 0, 1), (.iload 4, 2), (.iconst 1, 1), (.iadd, 1), (.iaload, 1), (.invokevirtual 85, 3), (.aload_n 2, 1), (.aload_n 0, 1), (.iload 4, 2), (.iconst 1, 1), (.iadd, 1), (.iaload, 1), (.invokevirtual 89, 3), (.if_icmp .eq 170, 3), (.iconst 0, 1), (.ireturn, 1), (.aload_n 1, 1), (.aload_n 0, 1), (.iload 4, 2), (.iconst 1, 1), (.iadd, 1), (.iaload, 1), (.invokevirtual 90, 3), (.aload_n 2, 1), (.aload_n 0, 1), (.iload 4, 2), (.iconst 1, 1), (.iadd, 1), (.iaload, 1), (.invokevirtual 93, 3), (.if_icmp .eq 145, 3), (.iconst 0, 1), (.ireturn, 1), (.aload_n 1, 1), (.aload_n 0, 1), (.iload 4, 2), (.iconst 1, 1), (.iadd, 1), (.iaload, 1), (.ifCond .eq 7, 3), (.iconst 1, 1), (.goto 4, 3), (.iconst 0, 1), (.invokevirtual 94, 3), (.aload_n 2, 1), (.aload_n 0, 1), (.iload 4, 2), (.iconst 1, 1), (.iadd, 1), (.iaload, 1), (.ifCond .eq 7, 3), (.iconst 1, 1), (.goto 4, 3), (.iconst 0, 1), (.invokevirtual 98, 3), (.if_icmp .eq 104, 3), (.iconst 0, 1), (.ireturn, 1), (.aload_n 1, 1), (.aload_n 0, 1), (.iload 4, 2), (.iconst 1, 1), (.iadd, 1), (.iaload, 1), (.aload_n 0, 1), (.iload 4, 2), (.iconst 2, 1), (.iadd, 1), (.iaload, 1), (.invokevirtual 99, 3), (.aload_n 2, 1), (.aload_n 0, 1), (.iload 4, 2), (.iconst 1, 1), (.iadd, 1), (.iaload, 1), (.aload_n 0, 1), (.iload 4, 2), (.iconst 2, 1), (.iadd, 1), (.iaload, 1), (.invokevirtual 102, 3), (.if_icmp .eq 67, 3), (.iconst 0, 1), (.ireturn, 1), (.aload_n 1, 1), (.aload_n 0, 1), (.iload 4, 2), (.iconst 1, 1), (.iadd, 1), (.iaload, 1), (.aload_n 0, 1), (.iload 4, 2), (.iconst 2, 1), (.iadd, 1), (.iaload, 1), (.invokevirtual 103, 3), (.aload_n 2, 1), (.aload_n 0, 1), (.iload 4, 2), (.iconst 1, 1), (.iadd, 1), (.iaload, 1), (.aload_n 0, 1), (.iload 4, 2), (.iconst 2, 1), (.iadd, 1), (.iaload, 1), (.invokevirtual 106, 3), (.if_icmp .eq 30, 3), (.iconst 0, 1), (.ireturn, 1), (.aload_n 1, 1), (.aload_n 0, 1), (.iload 4, 2), (.iconst 1, 1), (.iadd, 1), (.iaload, 1), (.invokevirtual 107, 3), (.aload_n 2, 1), (.aload_n 0, 1), (.iload 4, 2), (.iconst 1, 1), (.iadd, 1), (.iaload, 1), (.invokevirtual 110, 3), (.if_icmp .eq 5, 3), (.iconst 0, 1), (.ireturn, 1), (.iinc 4 4, 3), (.goto (-830), 3), (.iconst 1, 1), (.ireturn, 1)]
set_option maxHeartbeats 4000000 in
set_option maxRecDepth 100000 in
theorem dt_law : g_dc code 0 dl_law = true := by decide +kernel
def M_Lrun : gM := (⟨"BandPressLaw", "run", "(LBandPress;I[J)I"⟩, method_3_code, some .int, 4, { frames := 8, cells := 1, slots := 6, locals := 200 }, false, false, none)
def dl_Lrun : List (Instr × Nat) := [(.aload_n 2, 1), (.iconst 0, 1), (.aload_n 0, 1), (.iload_n 1, 1), (.invokevirtual 7, 3), (.i2l, 1), (.lastore, 1), (.goto 9, 3), (.astore_n 3, 1), (.iconst 1, 1), (.ireturn, 1), (.astore_n 3, 1), (.iconst 2, 1), (.ireturn, 1), (.iconst 0, 1), (.ireturn, 1)]
set_option maxHeartbeats 4000000 in
set_option maxRecDepth 100000 in
theorem dt_Lrun : g_dc (g_b M_Lrun) 0 dl_Lrun = true := by decide +kernel
theorem lw_l_7 : Cond.methodLink "BandPressLaw" 7 ⟨"BandPress", "run", "(I)I"⟩ ∈ g_T := (g_Tm 792 (by decide +kernel) rfl)
set_option maxHeartbeats 4000000 in
set_option maxRecDepth 100000 in
theorem nv_B_run : g_mv M_B_run 1 := ⟨⟨(g_Tm 89 (by decide +kernel) rfl), g_Tm 795 rfl rfl, by decide, by decide, by decide +kernel⟩, (g_Tm 793 (by decide +kernel) rfl), (g_Tm 794 (by decide +kernel) rfl)⟩
set_option maxHeartbeats 4000000 in
set_option maxRecDepth 100000 in
theorem L_run_0 {J : gS → gS} (hJ : g_jc J) {a z : Int} {s s1 : gS} (h : B_run a s = some (0, z, s1)) : G M_Lrun (QE g_S J 0 (g_up s1 74 0 (w32 z))) (g_S, 0, 0) (J s) 0 [some (.ref 0), some (gi a), some (.ref 74), none] [] := by
  refine G_aload_n (g_da dt_Lrun 0 rfl) rfl rfl ?_
  refine G_iconst (g_da dt_Lrun 1 rfl) ?_
  refine G_aload_n (g_da dt_Lrun 2 rfl) rfl rfl ?_
  refine G_iload_n (g_da dt_Lrun 3 rfl) rfl rfl ?_
  refine G_iVX (as := [gi a]) (b := 0) (N := M_B_run) (B_run_ok hJ h) rfl (Nat.le_of_ble_eq_true rfl) rfl rfl (by decide) (plainFor_of_name (by decide)) (g_da dt_Lrun 4 rfl) lw_l_7 nv_B_run rfl sh_0 rfl rfl rfl rfl rfl (fun r S sg' hq => ?_) (fun k S sg' hq => ?_)
  · obtain ⟨rfl, h1, rfl⟩ := hq
    rw [if_pos rfl] at h1
    cases h1
    refine G_i2l (g_da dt_Lrun 5 rfl) ?_
    refine H_lastore (g_da dt_Lrun 6 rfl) sh_74 (hJ 74 rfl) w_0 ⟨by decide, by decide⟩ rfl (fun s2 e2 => ?_)
    subst e2
    refine G_goto (g_da dt_Lrun 7 rfl) rfl ?_
    refine G_iconst (g_da dt_Lrun 14 rfl) ?_
    exact G_ireturn (g_da dt_Lrun 15 rfl) rfl rfl rfl (g_nz rfl) ⟨rfl, rfl, rfl⟩
  · obtain ⟨rfl, h1, rfl⟩ := hq
    rw [if_pos rfl] at h1
    cases h1
set_option maxHeartbeats 4000000 in
set_option maxRecDepth 100000 in
theorem L_run_1 {J : gS → gS} (hJ : g_jc J) {a z : Int} {s s1 : gS} (h : B_run a s = some (1, z, s1)) : G M_Lrun (QE g_S J 1 s1) (g_S, 0, 0) (J s) 0 [some (.ref 0), some (gi a), some (.ref 74), none] [] := by
  refine G_aload_n (g_da dt_Lrun 0 rfl) rfl rfl ?_
  refine G_iconst (g_da dt_Lrun 1 rfl) ?_
  refine G_aload_n (g_da dt_Lrun 2 rfl) rfl rfl ?_
  refine G_iload_n (g_da dt_Lrun 3 rfl) rfl rfl ?_
  refine G_iVX (as := [gi a]) (b := 0) (N := M_B_run) (B_run_ok hJ h) rfl (Nat.le_of_ble_eq_true rfl) rfl rfl (by decide) (plainFor_of_name (by decide)) (g_da dt_Lrun 4 rfl) lw_l_7 nv_B_run rfl sh_0 rfl rfl rfl rfl rfl (fun r S sg' hq => ?_) (fun k S sg' hq => ?_)
  · obtain ⟨rfl, h1, rfl⟩ := hq
    rw [if_neg (by decide)] at h1
    cases h1
  · obtain ⟨rfl, h1, rfl⟩ := hq
    rw [if_neg (by decide)] at h1
    have hk : k = 0 := Sum.inr.inj h1
    subst hk
    refine ⟨12, ⟨⟨by decide, by decide, by decide⟩, Or.inl ⟨rfl, g_Tm 790 (by decide +kernel) rfl, g_Nm 798 (by decide +kernel) rfl⟩⟩, (g_da dt_Lrun 8 rfl), by decide, rfl, ?_⟩
    refine G_iconst (g_da dt_Lrun 9 rfl) ?_
    exact G_ireturn (g_da dt_Lrun 10 rfl) rfl rfl rfl (g_nz rfl) ⟨rfl, rfl, rfl⟩
set_option maxHeartbeats 4000000 in
set_option maxRecDepth 100000 in
theorem L_run_2 {J : gS → gS} (hJ : g_jc J) {a z : Int} {s s1 : gS} (h : B_run a s = some (2, z, s1)) : G M_Lrun (QE g_S J 2 s1) (g_S, 0, 0) (J s) 0 [some (.ref 0), some (gi a), some (.ref 74), none] [] := by
  refine G_aload_n (g_da dt_Lrun 0 rfl) rfl rfl ?_
  refine G_iconst (g_da dt_Lrun 1 rfl) ?_
  refine G_aload_n (g_da dt_Lrun 2 rfl) rfl rfl ?_
  refine G_iload_n (g_da dt_Lrun 3 rfl) rfl rfl ?_
  refine G_iVX (as := [gi a]) (b := 0) (N := M_B_run) (B_run_ok hJ h) rfl (Nat.le_of_ble_eq_true rfl) rfl rfl (by decide) (plainFor_of_name (by decide)) (g_da dt_Lrun 4 rfl) lw_l_7 nv_B_run rfl sh_0 rfl rfl rfl rfl rfl (fun r S sg' hq => ?_) (fun k S sg' hq => ?_)
  · obtain ⟨rfl, h1, rfl⟩ := hq
    rw [if_neg (by decide)] at h1
    cases h1
  · obtain ⟨rfl, h1, rfl⟩ := hq
    rw [if_neg (by decide)] at h1
    have hk : k = 1 := Sum.inr.inj h1
    subst hk
    refine ⟨15, ⟨⟨by decide, by decide, by decide⟩, Or.inr ⟨g_Tm 790 (by decide +kernel) rfl, rfl, ⟨by decide, by decide, by decide⟩, Or.inl ⟨rfl, g_Tm 791 (by decide +kernel) rfl, g_Nm 861 (by decide +kernel) rfl⟩⟩⟩, (g_da dt_Lrun 11 rfl), by decide, rfl, ?_⟩
    refine G_iconst (g_da dt_Lrun 12 rfl) ?_
    exact G_ireturn (g_da dt_Lrun 13 rfl) rfl rfl rfl (g_nz rfl) ⟨rfl, rfl, rfl⟩
set_option maxHeartbeats 4000000 in
set_option maxRecDepth 100000 in
theorem cw_run : Cond.codeWith ⟨"BandPressLaw", "run", "(LBandPress;I[J)I"⟩ method_3_code 4 (some .int) [(0, 9, 12, 13), (0, 9, 15, 15)] ∈ g_T := g_Tm 789 rfl rfl
theorem sw_run : Cond.static ⟨"BandPressLaw", "run", "(LBandPress;I[J)I"⟩ ∈ g_T := (g_Tm 788 (by decide +kernel) rfl)
def M_Lvalue : gM := (⟨"BandPressLaw", "value", "(LBandPress;I[J)I"⟩, method_4_code, some .int, 4, { frames := 8, cells := 1, slots := 6, locals := 140 }, false, false, none)
def dl_Lvalue : List (Instr × Nat) := [(.aload_n 2, 1), (.iconst 0, 1), (.aload_n 0, 1), (.iload_n 1, 1), (.invokevirtual 17, 3), (.i2l, 1), (.lastore, 1), (.goto 6, 3), (.astore_n 3, 1), (.iconst 1, 1), (.ireturn, 1), (.iconst 0, 1), (.ireturn, 1)]
set_option maxHeartbeats 4000000 in
set_option maxRecDepth 100000 in
theorem dt_Lvalue : g_dc (g_b M_Lvalue) 0 dl_Lvalue = true := by decide +kernel
theorem lw_l_17 : Cond.methodLink "BandPressLaw" 17 ⟨"BandPress", "value", "(I)I"⟩ ∈ g_T := (g_Tm 1193 (by decide +kernel) rfl)
set_option maxHeartbeats 4000000 in
set_option maxRecDepth 100000 in
theorem nv_B_value : g_mv M_B_value 1 := ⟨⟨(g_Tm 89 (by decide +kernel) rfl), g_Tm 1196 rfl rfl, by decide, by decide, by decide +kernel⟩, (g_Tm 1194 (by decide +kernel) rfl), (g_Tm 1195 (by decide +kernel) rfl)⟩
set_option maxHeartbeats 4000000 in
set_option maxRecDepth 100000 in
theorem L_value_0 {J : gS → gS} (hJ : g_jc J) {a z : Int} {s s1 : gS} (h : B_value a s = some (0, z, s1)) : G M_Lvalue (QE g_S J 0 (g_up s1 74 0 (w32 z))) (g_S, 0, 0) (J s) 0 [some (.ref 0), some (gi a), some (.ref 74), none] [] := by
  refine G_aload_n (g_da dt_Lvalue 0 rfl) rfl rfl ?_
  refine G_iconst (g_da dt_Lvalue 1 rfl) ?_
  refine G_aload_n (g_da dt_Lvalue 2 rfl) rfl rfl ?_
  refine G_iload_n (g_da dt_Lvalue 3 rfl) rfl rfl ?_
  refine G_iVX (as := [gi a]) (b := 0) (N := M_B_value) (B_value_ok hJ h) rfl (Nat.le_of_ble_eq_true rfl) rfl rfl (by decide) (plainFor_of_name (by decide)) (g_da dt_Lvalue 4 rfl) lw_l_17 nv_B_value rfl sh_0 rfl rfl rfl rfl rfl (fun r S sg' hq => ?_) (fun k S sg' hq => ?_)
  · obtain ⟨rfl, h1, rfl⟩ := hq
    rw [if_pos rfl] at h1
    cases h1
    refine G_i2l (g_da dt_Lvalue 5 rfl) ?_
    refine H_lastore (g_da dt_Lvalue 6 rfl) sh_74 (hJ 74 rfl) w_0 ⟨by decide, by decide⟩ rfl (fun s2 e2 => ?_)
    subst e2
    refine G_goto (g_da dt_Lvalue 7 rfl) rfl ?_
    refine G_iconst (g_da dt_Lvalue 11 rfl) ?_
    exact G_ireturn (g_da dt_Lvalue 12 rfl) rfl rfl rfl (g_nz rfl) ⟨rfl, rfl, rfl⟩
  · obtain ⟨rfl, h1, rfl⟩ := hq
    rw [if_pos rfl] at h1
    cases h1
set_option maxHeartbeats 4000000 in
set_option maxRecDepth 100000 in
theorem L_value_3 {J : gS → gS} (hJ : g_jc J) {a z : Int} {s s1 : gS} (h : B_value a s = some (3, z, s1)) : G M_Lvalue (QE g_S J 1 s1) (g_S, 0, 0) (J s) 0 [some (.ref 0), some (gi a), some (.ref 74), none] [] := by
  refine G_aload_n (g_da dt_Lvalue 0 rfl) rfl rfl ?_
  refine G_iconst (g_da dt_Lvalue 1 rfl) ?_
  refine G_aload_n (g_da dt_Lvalue 2 rfl) rfl rfl ?_
  refine G_iload_n (g_da dt_Lvalue 3 rfl) rfl rfl ?_
  refine G_iVX (as := [gi a]) (b := 0) (N := M_B_value) (B_value_ok hJ h) rfl (Nat.le_of_ble_eq_true rfl) rfl rfl (by decide) (plainFor_of_name (by decide)) (g_da dt_Lvalue 4 rfl) lw_l_17 nv_B_value rfl sh_0 rfl rfl rfl rfl rfl (fun r S sg' hq => ?_) (fun k S sg' hq => ?_)
  · obtain ⟨rfl, h1, rfl⟩ := hq
    rw [if_neg (by decide)] at h1
    cases h1
  · obtain ⟨rfl, h1, rfl⟩ := hq
    rw [if_neg (by decide)] at h1
    have hk : k = 2 := Sum.inr.inj h1
    subst hk
    refine ⟨12, ⟨⟨by decide, by decide, by decide⟩, Or.inl ⟨rfl, g_Tm 1192 (by decide +kernel) rfl, g_Nm 1199 (by decide +kernel) rfl⟩⟩, (g_da dt_Lvalue 8 rfl), by decide, rfl, ?_⟩
    refine G_iconst (g_da dt_Lvalue 9 rfl) ?_
    exact G_ireturn (g_da dt_Lvalue 10 rfl) rfl rfl rfl (g_nz rfl) ⟨rfl, rfl, rfl⟩
set_option maxHeartbeats 4000000 in
set_option maxRecDepth 100000 in
theorem cw_value : Cond.codeWith ⟨"BandPressLaw", "value", "(LBandPress;I[J)I"⟩ method_4_code 4 (some .int) [(0, 9, 12, 20)] ∈ g_T := g_Tm 1191 rfl rfl
theorem sw_value : Cond.static ⟨"BandPressLaw", "value", "(LBandPress;I[J)I"⟩ ∈ g_T := (g_Tm 1190 (by decide +kernel) rfl)
def M_Ltick : gM := (⟨"BandPressLaw", "tick", "(LBandPress;I[J)I"⟩, method_5_code, some .int, 4, { frames := 8, cells := 1, slots := 6, locals := 160 }, false, false, none)
def dl_Ltick : List (Instr × Nat) := [(.aload_n 2, 1), (.iconst 0, 1), (.aload_n 0, 1), (.iload_n 1, 1), (.invokevirtual 22, 3), (.i2l, 1), (.lastore, 1), (.goto 6, 3), (.astore_n 3, 1), (.iconst 1, 1), (.ireturn, 1), (.iconst 0, 1), (.ireturn, 1)]
set_option maxHeartbeats 4000000 in
set_option maxRecDepth 100000 in
theorem dt_Ltick : g_dc (g_b M_Ltick) 0 dl_Ltick = true := by decide +kernel
theorem lw_l_22 : Cond.methodLink "BandPressLaw" 22 ⟨"BandPress", "tick", "(I)I"⟩ ∈ g_T := (g_Tm 1216 (by decide +kernel) rfl)
set_option maxHeartbeats 4000000 in
set_option maxRecDepth 100000 in
theorem nv_B_tick : g_mv M_B_tick 1 := ⟨⟨(g_Tm 89 (by decide +kernel) rfl), g_Tm 1219 rfl rfl, by decide, by decide, by decide +kernel⟩, (g_Tm 1217 (by decide +kernel) rfl), (g_Tm 1218 (by decide +kernel) rfl)⟩
set_option maxHeartbeats 4000000 in
set_option maxRecDepth 100000 in
theorem L_tick_0 {J : gS → gS} (hJ : g_jc J) {a z : Int} {s s1 : gS} (h : B_tick a s = some (0, z, s1)) : G M_Ltick (QE g_S J 0 (g_up s1 74 0 (w32 z))) (g_S, 0, 0) (J s) 0 [some (.ref 0), some (gi a), some (.ref 74), none] [] := by
  refine G_aload_n (g_da dt_Ltick 0 rfl) rfl rfl ?_
  refine G_iconst (g_da dt_Ltick 1 rfl) ?_
  refine G_aload_n (g_da dt_Ltick 2 rfl) rfl rfl ?_
  refine G_iload_n (g_da dt_Ltick 3 rfl) rfl rfl ?_
  refine G_iVX (as := [gi a]) (b := 0) (N := M_B_tick) (B_tick_ok hJ h) rfl (Nat.le_of_ble_eq_true rfl) rfl rfl (by decide) (plainFor_of_name (by decide)) (g_da dt_Ltick 4 rfl) lw_l_22 nv_B_tick rfl sh_0 rfl rfl rfl rfl rfl (fun r S sg' hq => ?_) (fun k S sg' hq => ?_)
  · obtain ⟨rfl, h1, rfl⟩ := hq
    rw [if_pos rfl] at h1
    cases h1
    refine G_i2l (g_da dt_Ltick 5 rfl) ?_
    refine H_lastore (g_da dt_Ltick 6 rfl) sh_74 (hJ 74 rfl) w_0 ⟨by decide, by decide⟩ rfl (fun s2 e2 => ?_)
    subst e2
    refine G_goto (g_da dt_Ltick 7 rfl) rfl ?_
    refine G_iconst (g_da dt_Ltick 11 rfl) ?_
    exact G_ireturn (g_da dt_Ltick 12 rfl) rfl rfl rfl (g_nz rfl) ⟨rfl, rfl, rfl⟩
  · obtain ⟨rfl, h1, rfl⟩ := hq
    rw [if_pos rfl] at h1
    cases h1
set_option maxHeartbeats 4000000 in
set_option maxRecDepth 100000 in
theorem L_tick_2 {J : gS → gS} (hJ : g_jc J) {a z : Int} {s s1 : gS} (h : B_tick a s = some (2, z, s1)) : G M_Ltick (QE g_S J 1 s1) (g_S, 0, 0) (J s) 0 [some (.ref 0), some (gi a), some (.ref 74), none] [] := by
  refine G_aload_n (g_da dt_Ltick 0 rfl) rfl rfl ?_
  refine G_iconst (g_da dt_Ltick 1 rfl) ?_
  refine G_aload_n (g_da dt_Ltick 2 rfl) rfl rfl ?_
  refine G_iload_n (g_da dt_Ltick 3 rfl) rfl rfl ?_
  refine G_iVX (as := [gi a]) (b := 0) (N := M_B_tick) (B_tick_ok hJ h) rfl (Nat.le_of_ble_eq_true rfl) rfl rfl (by decide) (plainFor_of_name (by decide)) (g_da dt_Ltick 4 rfl) lw_l_22 nv_B_tick rfl sh_0 rfl rfl rfl rfl rfl (fun r S sg' hq => ?_) (fun k S sg' hq => ?_)
  · obtain ⟨rfl, h1, rfl⟩ := hq
    rw [if_neg (by decide)] at h1
    cases h1
  · obtain ⟨rfl, h1, rfl⟩ := hq
    rw [if_neg (by decide)] at h1
    have hk : k = 1 := Sum.inr.inj h1
    subst hk
    refine ⟨12, ⟨⟨by decide, by decide, by decide⟩, Or.inl ⟨rfl, g_Tm 791 (by decide +kernel) rfl, g_Nm 861 (by decide +kernel) rfl⟩⟩, (g_da dt_Ltick 8 rfl), by decide, rfl, ?_⟩
    refine G_iconst (g_da dt_Ltick 9 rfl) ?_
    exact G_ireturn (g_da dt_Ltick 10 rfl) rfl rfl rfl (g_nz rfl) ⟨rfl, rfl, rfl⟩
set_option maxHeartbeats 4000000 in
set_option maxRecDepth 100000 in
theorem cw_tick : Cond.codeWith ⟨"BandPressLaw", "tick", "(LBandPress;I[J)I"⟩ method_5_code 4 (some .int) [(0, 9, 12, 15)] ∈ g_T := g_Tm 1215 rfl rfl
theorem sw_tick : Cond.static ⟨"BandPressLaw", "tick", "(LBandPress;I[J)I"⟩ ∈ g_T := (g_Tm 1214 (by decide +kernel) rfl)
theorem iw_l : Cond.initialized "BandPressLaw" ∈ g_T := (g_Tm 88 (by decide +kernel) rfl)
theorem g_ftl {M N : gM} {S : List gH} {c1 c2 : Nat} (h : (decide ((g_m N).frames + 1 ≤ (g_m M).frames) && decide (8 + (g_n N + 11) + (g_m N).locals ≤ (g_m M).locals)) = true) (h1 : c1 + (g_m N).cells ≤ (g_m M).cells) (h2 : c2 + (g_m N).slots ≤ (g_m M).slots) : g_ft M N (S, c1, c2) = true := by
  simp only [Bool.and_eq_true, decide_eq_true_eq] at h
  simp only [g_ft, Bool.and_eq_true, decide_eq_true_eq]
  exact ⟨⟨h, h1⟩, h2⟩
theorem l_cmp_0 {x y : Int} (h : x = y) : w32 (l_cmp x y) = 0 := by
  subst h
  simp only [l_cmp]
  rw [if_neg (by omega), if_pos trivial]
  decide
def g_lvL (i : Int) : List (Option Value) := [some (.ref 4000), some (.ref 0), some (.ref 49), some (.ref 74), some (gi i), none, none]
def g_kt (r : Nat × (Nat → Int32)) (Q : gO → List gH → gS → Prop) (c1 c2 : Nat) (i : Int) (sC sM : gS) : Prop := G (M_law r false) Q (g_S, c1, c2) (g_j sC sM) 850 [some (.ref 4000), some (.ref 0), some (.ref 49), some (.ref 74), some (gi i), none, none] []
def g_cl2 (K : gS → gS → Prop) (f g : gS → gA) (sC sM : gS) : Prop := ∃ (z z' : Int) (sC' sM' : gS), f sC = some (z, sC') ∧ g sM = some (z', sM') ∧ w32 z = w32 z' ∧ K sC' sM'
def g_clx (K : gS → gS → Prop) (f : gS → gT) (g : gS → gA) (t0 a0 : Int) (sC sM : gS) : Prop := ∃ (z z' : Int) (sC' sM' : gS), f sC = some (t0, z, sC') ∧ g sM = some (z', sM') ∧ w32 (sM' 49 0) = a0 ∧ (t0 = 0 → w32 z = w32 z') ∧ K (if t0 = 0 then g_up sC' 74 0 (w32 z) else sC') sM'
theorem lw_l_31 : Cond.methodLink "BandPressLaw" 31 ⟨"BandPress", "type", "(JI)Z"⟩ ∈ g_T := (g_Tm 467 (by decide +kernel) rfl)
set_option maxHeartbeats 4000000 in
set_option maxRecDepth 100000 in
theorem nv_B_type : g_mv M_B_type 2 := ⟨⟨(g_Tm 89 (by decide +kernel) rfl), g_Tm 470 rfl rfl, by decide, by decide, by decide +kernel⟩, (g_Tm 468 (by decide +kernel) rfl), (g_Tm 469 (by decide +kernel) rfl)⟩
theorem lw_l_35 : Cond.methodLink "BandPressLaw" 35 ⟨"BandPressModel", "type", "(JI)Z"⟩ ∈ g_T := (g_Tm 1453 (by decide +kernel) rfl)
set_option maxHeartbeats 4000000 in
set_option maxRecDepth 100000 in
theorem nv_M_type : g_mv M_M_type 2 := ⟨⟨(g_Tm 102 (by decide +kernel) rfl), g_Tm 1456 rfl rfl, by decide, by decide, by decide +kernel⟩, (g_Tm 1454 (by decide +kernel) rfl), (g_Tm 1455 (by decide +kernel) rfl)⟩
set_option maxHeartbeats 4000000 in
set_option maxRecDepth 100000 in
theorem law_0 {r : Nat × (Nat → Int32)} {Q : gO → List gH → gS → Prop} {c1 c2 : Nat} {i : Int} {sC sM : gS} (hc1 : c1 ≤ 1103) (hc2 : c2 ≤ 59611) (hi : 0 ≤ i) (hj : i + 4 ≤ (r.1 : Int)) (hL : (r.1 : Int) ≤ 2048) (H : ∀ a0 a1 : Int, g_cl2 (g_kt r Q c1 c2 i) (B_type a0 a1) (M_type a0 a1) sC sM) : G (M_law r false) Q (g_S, c1, c2) (g_j sC sM) 120 [some (.ref 4000), some (.ref 0), some (.ref 49), some (.ref 74), some (gi i), none, none] [] := by
  have hw1 : w32 (i + 1) = i + 1 := w32_id (by omega) (by omega)
  have hw2 : w32 (i + 2) = i + 2 := w32_id (by omega) (by omega)
  have hw3 : w32 (i + 3) = i + 3 := w32_id (by omega) (by omega)
  refine G_aload_n (g_da dt_law 25 rfl) rfl rfl ?_
  refine G_aload_n (g_da dt_law 26 rfl) rfl rfl ?_
  refine G_iload (g_da dt_law 27 rfl) rfl ?_
  refine G_iconst (g_da dt_law 28 rfl) ?_
  refine G_iadd (g_da dt_law 29 rfl) ?_
  refine G_sld (g_da dt_law 30 rfl) rfl hw1 ⟨by omega, by omega⟩ ?_
  refine G_i2l (g_da dt_law 31 rfl) ?_
  refine G_bipush (g_da dt_law 32 rfl) (by decide) ?_
  refine G_lshl (g_da dt_law 33 rfl) ?_
  refine G_aload_n (g_da dt_law 34 rfl) rfl rfl ?_
  refine G_iload (g_da dt_law 35 rfl) rfl ?_
  refine G_iconst (g_da dt_law 36 rfl) ?_
  refine G_iadd (g_da dt_law 37 rfl) ?_
  refine G_sld (g_da dt_law 38 rfl) rfl hw2 ⟨by omega, by omega⟩ ?_
  refine G_i2l (g_da dt_law 39 rfl) ?_
  refine G_ldc2 (z := 4294967295) (g_da dt_law 40 rfl) (g_Tm 1746 (by decide +kernel) rfl) rfl ?_
  refine G_land (g_da dt_law 41 rfl) ?_
  refine G_lor (g_da dt_law 42 rfl) ?_
  refine G_aload_n (g_da dt_law 43 rfl) rfl rfl ?_
  refine G_iload (g_da dt_law 44 rfl) rfl ?_
  refine G_iconst (g_da dt_law 45 rfl) ?_
  refine G_iadd (g_da dt_law 46 rfl) ?_
  refine G_sld (g_da dt_law 47 rfl) rfl hw3 ⟨by omega, by omega⟩ ?_
  obtain ⟨z, z1, sC1, sM1, e1, e2, e3, K⟩ := H (l_or (l_shl (w32 (g_sx r (i + 1).toNat)) 32) (l_and (w32 (g_sx r (i + 2).toNat)) 4294967295)) (g_sx r (i + 3).toNat)
  refine H_cVE (J := fun s => g_j s sM) (B_type_ok (g_j_c sM) e1) (g_da dt_law 48 rfl) (Or.inl lw_l_31) nv_B_type rfl sh_0 rfl (g_ftl rfl hc1 hc2) rfl rfl rfl rfl ?_
  refine G_aload_n (g_da dt_law 49 rfl) rfl rfl ?_
  refine G_aload_n (g_da dt_law 50 rfl) rfl rfl ?_
  refine G_iload (g_da dt_law 51 rfl) rfl ?_
  refine G_iconst (g_da dt_law 52 rfl) ?_
  refine G_iadd (g_da dt_law 53 rfl) ?_
  refine G_sld (g_da dt_law 54 rfl) rfl hw1 ⟨by omega, by omega⟩ ?_
  refine G_i2l (g_da dt_law 55 rfl) ?_
  refine G_bipush (g_da dt_law 56 rfl) (by decide) ?_
  refine G_lshl (g_da dt_law 57 rfl) ?_
  refine G_aload_n (g_da dt_law 58 rfl) rfl rfl ?_
  refine G_iload (g_da dt_law 59 rfl) rfl ?_
  refine G_iconst (g_da dt_law 60 rfl) ?_
  refine G_iadd (g_da dt_law 61 rfl) ?_
  refine G_sld (g_da dt_law 62 rfl) rfl hw2 ⟨by omega, by omega⟩ ?_
  refine G_i2l (g_da dt_law 63 rfl) ?_
  refine G_ldc2 (z := 4294967295) (g_da dt_law 64 rfl) (g_Tm 1746 (by decide +kernel) rfl) rfl ?_
  refine G_land (g_da dt_law 65 rfl) ?_
  refine G_lor (g_da dt_law 66 rfl) ?_
  refine G_aload_n (g_da dt_law 67 rfl) rfl rfl ?_
  refine G_iload (g_da dt_law 68 rfl) rfl ?_
  refine G_iconst (g_da dt_law 69 rfl) ?_
  refine G_iadd (g_da dt_law 70 rfl) ?_
  refine G_sld (g_da dt_law 71 rfl) rfl hw3 ⟨by omega, by omega⟩ ?_
  refine H_cVE (J := fun s => g_j sC1 s) (M_type_ok (g_j_m sC1) e2) (g_da dt_law 72 rfl) (Or.inl lw_l_35) nv_M_type rfl sh_49 rfl (g_ftl rfl hc1 hc2) rfl rfl rfl rfl ?_
  refine G_icmp_eq (g_da dt_law 73 rfl) rfl rfl rfl (fun _ => ?_) (fun hc => absurd e3 hc)
  exact G_subK K ⟨rfl, ⟨rfl, ⟨rfl, ⟨rfl, ⟨rfl, trivial⟩⟩⟩⟩⟩
theorem lw_l_36 : Cond.methodLink "BandPressLaw" 36 ⟨"BandPress", "start", "(IZI)I"⟩ ∈ g_T := (g_Tm 481 (by decide +kernel) rfl)
set_option maxHeartbeats 4000000 in
set_option maxRecDepth 100000 in
theorem nv_B_start : g_mv M_B_start 3 := ⟨⟨(g_Tm 89 (by decide +kernel) rfl), g_Tm 484 rfl rfl, by decide, by decide, by decide +kernel⟩, (g_Tm 482 (by decide +kernel) rfl), (g_Tm 483 (by decide +kernel) rfl)⟩
theorem lw_l_40 : Cond.methodLink "BandPressLaw" 40 ⟨"BandPressModel", "start", "(IZI)I"⟩ ∈ g_T := (g_Tm 1460 (by decide +kernel) rfl)
set_option maxHeartbeats 4000000 in
set_option maxRecDepth 100000 in
theorem nv_M_start : g_mv M_M_start 3 := ⟨⟨(g_Tm 102 (by decide +kernel) rfl), g_Tm 1463 rfl rfl, by decide, by decide, by decide +kernel⟩, (g_Tm 1461 (by decide +kernel) rfl), (g_Tm 1462 (by decide +kernel) rfl)⟩
set_option maxHeartbeats 4000000 in
set_option maxRecDepth 100000 in
theorem law_1 {r : Nat × (Nat → Int32)} {Q : gO → List gH → gS → Prop} {c1 c2 : Nat} {i : Int} {sC sM : gS} (hc1 : c1 ≤ 1103) (hc2 : c2 ≤ 59611) (hi : 0 ≤ i) (hj : i + 4 ≤ (r.1 : Int)) (hL : (r.1 : Int) ≤ 2048) (H : ∀ a0 a1 a2 : Int, (a1 = 0 ∨ a1 = 1) → g_cl2 (g_kt r Q c1 c2 i) (B_start a0 a1 a2) (M_start a0 a1 a2) sC sM) : G (M_law r false) Q (g_S, c1, c2) (g_j sC sM) 189 [some (.ref 4000), some (.ref 0), some (.ref 49), some (.ref 74), some (gi i), none, none] [] := by
  have hw1 : w32 (i + 1) = i + 1 := w32_id (by omega) (by omega)
  have hw2 : w32 (i + 2) = i + 2 := w32_id (by omega) (by omega)
  have hw3 : w32 (i + 3) = i + 3 := w32_id (by omega) (by omega)
  refine G_aload_n (g_da dt_law 76 rfl) rfl rfl ?_
  refine G_aload_n (g_da dt_law 77 rfl) rfl rfl ?_
  refine G_iload (g_da dt_law 78 rfl) rfl ?_
  refine G_iconst (g_da dt_law 79 rfl) ?_
  refine G_iadd (g_da dt_law 80 rfl) ?_
  refine G_sld (g_da dt_law 81 rfl) rfl hw1 ⟨by omega, by omega⟩ ?_
  refine G_aload_n (g_da dt_law 82 rfl) rfl rfl ?_
  refine G_iload (g_da dt_law 83 rfl) rfl ?_
  refine G_iconst (g_da dt_law 84 rfl) ?_
  refine G_iadd (g_da dt_law 85 rfl) ?_
  refine G_sld (g_da dt_law 86 rfl) rfl hw2 ⟨by omega, by omega⟩ ?_
  refine G_if_eq (g_da dt_law 87 rfl) rfl rfl (fun hb1 => ?_) (fun hb1 => ?_)
  · refine G_iconst (g_da dt_law 90 rfl) ?_
    refine G_aload_n (g_da dt_law 91 rfl) rfl rfl ?_
    refine G_iload (g_da dt_law 92 rfl) rfl ?_
    refine G_iconst (g_da dt_law 93 rfl) ?_
    refine G_iadd (g_da dt_law 94 rfl) ?_
    refine G_sld (g_da dt_law 95 rfl) rfl hw3 ⟨by omega, by omega⟩ ?_
    obtain ⟨z, z1, sC1, sM1, e1, e2, e3, K⟩ := H (g_sx r (i + 1).toNat) 0 (g_sx r (i + 3).toNat) (Or.inl rfl)
    refine H_cVE (J := fun s => g_j s sM) (B_start_ok (g_j_c sM) e1) (g_da dt_law 96 rfl) (Or.inl lw_l_36) nv_B_start rfl sh_0 rfl (g_ftl rfl hc1 hc2) rfl rfl rfl rfl ?_
    refine G_aload_n (g_da dt_law 97 rfl) rfl rfl ?_
    refine G_aload_n (g_da dt_law 98 rfl) rfl rfl ?_
    refine G_iload (g_da dt_law 99 rfl) rfl ?_
    refine G_iconst (g_da dt_law 100 rfl) ?_
    refine G_iadd (g_da dt_law 101 rfl) ?_
    refine G_sld (g_da dt_law 102 rfl) rfl hw1 ⟨by omega, by omega⟩ ?_
    refine G_aload_n (g_da dt_law 103 rfl) rfl rfl ?_
    refine G_iload (g_da dt_law 104 rfl) rfl ?_
    refine G_iconst (g_da dt_law 105 rfl) ?_
    refine G_iadd (g_da dt_law 106 rfl) ?_
    refine G_sld (g_da dt_law 107 rfl) rfl hw2 ⟨by omega, by omega⟩ ?_
    refine G_if_eq (g_da dt_law 108 rfl) rfl rfl (fun _ => ?_) (fun hc => absurd hb1 hc)
    refine G_iconst (g_da dt_law 111 rfl) ?_
    refine G_aload_n (g_da dt_law 112 rfl) rfl rfl ?_
    refine G_iload (g_da dt_law 113 rfl) rfl ?_
    refine G_iconst (g_da dt_law 114 rfl) ?_
    refine G_iadd (g_da dt_law 115 rfl) ?_
    refine G_sld (g_da dt_law 116 rfl) rfl hw3 ⟨by omega, by omega⟩ ?_
    refine H_cVE (J := fun s => g_j sC1 s) (M_start_ok (g_j_m sC1) e2) (g_da dt_law 117 rfl) (Or.inl lw_l_40) nv_M_start rfl sh_49 rfl (g_ftl rfl hc1 hc2) rfl rfl rfl rfl ?_
    refine G_icmp_eq (g_da dt_law 118 rfl) rfl rfl rfl (fun _ => ?_) (fun hc => absurd e3 hc)
    exact G_subK K ⟨rfl, ⟨rfl, ⟨rfl, ⟨rfl, ⟨rfl, trivial⟩⟩⟩⟩⟩
  · refine G_iconst (g_da dt_law 88 rfl) ?_
    refine G_goto (g_da dt_law 89 rfl) rfl ?_
    refine G_aload_n (g_da dt_law 91 rfl) rfl rfl ?_
    refine G_iload (g_da dt_law 92 rfl) rfl ?_
    refine G_iconst (g_da dt_law 93 rfl) ?_
    refine G_iadd (g_da dt_law 94 rfl) ?_
    refine G_sld (g_da dt_law 95 rfl) rfl hw3 ⟨by omega, by omega⟩ ?_
    obtain ⟨z, z1, sC1, sM1, e1, e2, e3, K⟩ := H (g_sx r (i + 1).toNat) 1 (g_sx r (i + 3).toNat) (Or.inr rfl)
    refine H_cVE (J := fun s => g_j s sM) (B_start_ok (g_j_c sM) e1) (g_da dt_law 96 rfl) (Or.inl lw_l_36) nv_B_start rfl sh_0 rfl (g_ftl rfl hc1 hc2) rfl rfl rfl rfl ?_
    refine G_aload_n (g_da dt_law 97 rfl) rfl rfl ?_
    refine G_aload_n (g_da dt_law 98 rfl) rfl rfl ?_
    refine G_iload (g_da dt_law 99 rfl) rfl ?_
    refine G_iconst (g_da dt_law 100 rfl) ?_
    refine G_iadd (g_da dt_law 101 rfl) ?_
    refine G_sld (g_da dt_law 102 rfl) rfl hw1 ⟨by omega, by omega⟩ ?_
    refine G_aload_n (g_da dt_law 103 rfl) rfl rfl ?_
    refine G_iload (g_da dt_law 104 rfl) rfl ?_
    refine G_iconst (g_da dt_law 105 rfl) ?_
    refine G_iadd (g_da dt_law 106 rfl) ?_
    refine G_sld (g_da dt_law 107 rfl) rfl hw2 ⟨by omega, by omega⟩ ?_
    refine G_if_eq (g_da dt_law 108 rfl) rfl rfl (fun hc => absurd hc hb1) (fun _ => ?_)
    refine G_iconst (g_da dt_law 109 rfl) ?_
    refine G_goto (g_da dt_law 110 rfl) rfl ?_
    refine G_aload_n (g_da dt_law 112 rfl) rfl rfl ?_
    refine G_iload (g_da dt_law 113 rfl) rfl ?_
    refine G_iconst (g_da dt_law 114 rfl) ?_
    refine G_iadd (g_da dt_law 115 rfl) ?_
    refine G_sld (g_da dt_law 116 rfl) rfl hw3 ⟨by omega, by omega⟩ ?_
    refine H_cVE (J := fun s => g_j sC1 s) (M_start_ok (g_j_m sC1) e2) (g_da dt_law 117 rfl) (Or.inl lw_l_40) nv_M_start rfl sh_49 rfl (g_ftl rfl hc1 hc2) rfl rfl rfl rfl ?_
    refine G_icmp_eq (g_da dt_law 118 rfl) rfl rfl rfl (fun _ => ?_) (fun hc => absurd e3 hc)
    exact G_subK K ⟨rfl, ⟨rfl, ⟨rfl, ⟨rfl, ⟨rfl, trivial⟩⟩⟩⟩⟩
theorem lw_l_41 : Cond.methodLink "BandPressLaw" 41 ⟨"BandPressLaw", "run", "(LBandPress;I[J)I"⟩ ∈ g_T := (g_Tm 787 (by decide +kernel) rfl)
theorem lw_l_46 : Cond.methodLink "BandPressLaw" 46 ⟨"BandPressModel", "run", "(I)I"⟩ ∈ g_T := (g_Tm 1485 (by decide +kernel) rfl)
set_option maxHeartbeats 4000000 in
set_option maxRecDepth 100000 in
theorem nv_M_run : g_mv M_M_run 1 := ⟨⟨(g_Tm 102 (by decide +kernel) rfl), g_Tm 1488 rfl rfl, by decide, by decide, by decide +kernel⟩, (g_Tm 1486 (by decide +kernel) rfl), (g_Tm 1487 (by decide +kernel) rfl)⟩
theorem lw_l_47 : Cond.methodLink "BandPressLaw" 47 ⟨"BandPressModel", "thrown", "()I"⟩ ∈ g_T := (g_Tm 1449 (by decide +kernel) rfl)
set_option maxHeartbeats 4000000 in
set_option maxRecDepth 100000 in
theorem nv_M_thrown : g_mv M_M_thrown 0 := ⟨⟨(g_Tm 102 (by decide +kernel) rfl), g_Tm 1452 rfl rfl, by decide, by decide, by decide +kernel⟩, (g_Tm 1450 (by decide +kernel) rfl), (g_Tm 1451 (by decide +kernel) rfl)⟩
set_option maxHeartbeats 4000000 in
set_option maxRecDepth 100000 in
theorem law_2 {r : Nat × (Nat → Int32)} {Q : gO → List gH → gS → Prop} {c1 c2 : Nat} {i : Int} {sC sM : gS} (hc1 : c1 + 1 ≤ 1103) (hc2 : c2 + 6 ≤ 59611) (hi : 0 ≤ i) (hj : i + 4 ≤ (r.1 : Int)) (hL : (r.1 : Int) ≤ 2048) (H : ∀ a : Int, g_clx (g_kt r Q (c1 + 1) (c2 + 6) i) (B_run a) (M_run a) 0 0 sC sM ∨ g_clx (g_kt r Q (c1 + 1) (c2 + 6) i) (B_run a) (M_run a) 1 1 sC sM ∨ g_clx (g_kt r Q (c1 + 1) (c2 + 6) i) (B_run a) (M_run a) 2 2 sC sM) : G (M_law r false) Q (g_S, c1, c2) (g_j sC sM) 254 [some (.ref 4000), some (.ref 0), some (.ref 49), some (.ref 74), some (gi i), none, none] [] := by
  have hw1 : w32 (i + 1) = i + 1 := w32_id (by omega) (by omega)
  have hw2 : w32 (i + 2) = i + 2 := w32_id (by omega) (by omega)
  have hw3 : w32 (i + 3) = i + 3 := w32_id (by omega) (by omega)
  have hd1 : c1 + 1 + 0 ≤ 1103 := hc1
  have hd2 : c2 + 6 + 0 ≤ 59611 := hc2
  refine G_aload_n (g_da dt_law 121 rfl) rfl rfl ?_
  refine G_aload_n (g_da dt_law 122 rfl) rfl rfl ?_
  refine G_iload (g_da dt_law 123 rfl) rfl ?_
  refine G_iconst (g_da dt_law 124 rfl) ?_
  refine G_iadd (g_da dt_law 125 rfl) ?_
  refine G_sld (g_da dt_law 126 rfl) rfl hw1 ⟨by omega, by omega⟩ ?_
  refine G_aload_n (g_da dt_law 127 rfl) rfl rfl ?_
  rcases H (g_sx r (i + 1).toNat) with ⟨z, z1, sC1, sM1, e1, e2, e3, e4, K⟩ | ⟨z, z1, sC1, sM1, e1, e2, e3, e4, K⟩ | ⟨z, z1, sC1, sM1, e1, e2, e3, e4, K⟩
  · refine G_iS (Z := (g_S, c1, c2)) (N := M_Lrun) (as := [.ref 0, gi (g_sx r (i + 1).toNat), .ref 74]) (hh := g_hm (g_y M_Lrun)) (L_run_0 (J := fun s => g_j s sM) (g_j_c sM) e1) rfl (Nat.le_of_ble_eq_true rfl) rfl rfl rfl (plainFor_of_name (by decide)) (g_da dt_law 128 rfl) lw_l_41 sw_run iw_l cw_run (by decide) (by decide +kernel) (g_ftl rfl hc1 hc2) rfl rfl rfl (fun o S sg' hq => ?_)
    obtain ⟨rfl, rfl, rfl⟩ := hq
    refine ⟨_, rfl, ?_⟩
    refine G_istore (lv' := [some (.ref 4000), some (.ref 0), some (.ref 49), some (.ref 74), some (gi i), some (gi 0), none]) (g_da dt_law 129 rfl) (Nat.le_of_ble_eq_true rfl) rfl rfl ?_
    refine G_aload_n (g_da dt_law 130 rfl) rfl rfl ?_
    refine G_aload_n (g_da dt_law 131 rfl) rfl rfl ?_
    refine G_iload (g_da dt_law 132 rfl) rfl ?_
    refine G_iconst (g_da dt_law 133 rfl) ?_
    refine G_iadd (g_da dt_law 134 rfl) ?_
    refine G_sld (g_da dt_law 135 rfl) rfl hw1 ⟨by omega, by omega⟩ ?_
    refine H_cVE (J := fun s => g_j (g_up sC1 74 0 (w32 z)) s) (M_run_ok (g_j_m (g_up sC1 74 0 (w32 z))) e2) (g_da dt_law 136 rfl) (Or.inl lw_l_46) nv_M_run rfl sh_49 rfl (g_ftl rfl hd1 hd2) rfl rfl rfl rfl ?_
    refine G_istore (lv' := [some (.ref 4000), some (.ref 0), some (.ref 49), some (.ref 74), some (gi i), some (gi 0), some (gi z1)]) (g_da dt_law 137 rfl) (Nat.le_of_ble_eq_true rfl) rfl rfl ?_
    refine G_aload_n (g_da dt_law 138 rfl) rfl rfl ?_
    refine H_cVE (J := fun s => g_j (g_up sC1 74 0 (w32 z)) s) (M_thrown_ok (g_j_m (g_up sC1 74 0 (w32 z))) (z0 := sM1 49 0) (s0 := sM1) rfl) (g_da dt_law 139 rfl) (Or.inl lw_l_47) nv_M_thrown rfl sh_49 rfl (g_ftl rfl hd1 hd2) rfl rfl rfl rfl ?_
    refine G_iload (g_da dt_law 140 rfl) rfl ?_
    refine G_icmp_eq (g_da dt_law 141 rfl) rfl e3 w_0 (fun _ => ?_) (fun hc => absurd rfl hc)
    refine G_iload (g_da dt_law 144 rfl) rfl ?_
    refine G_if_ne (g_da dt_law 145 rfl) rfl w_0 (fun hc => absurd rfl hc) (fun _ => ?_)
    refine G_aload_n (g_da dt_law 146 rfl) rfl rfl ?_
    refine G_iconst (g_da dt_law 147 rfl) ?_
    refine H_laload (J := fun s => g_j s sM1) (g_da dt_law 148 rfl) sh_74 (g_j_c sM1 74 rfl) w_0 ⟨by decide, by decide⟩ rfl ?_
    rw [show (g_up sC1 74 0 (w32 z)) 74 0 = w32 z by simp [g_up]]
    refine G_iload (g_da dt_law 149 rfl) rfl ?_
    refine G_i2l (g_da dt_law 150 rfl) ?_
    refine G_lcmp (g_da dt_law 151 rfl) ?_
    refine G_if_eq (g_da dt_law 152 rfl) rfl (l_cmp_0 (e4 rfl)) (fun _ => ?_) (fun hc => absurd rfl hc)
    refine G_goto (g_da dt_law 155 rfl) rfl ?_
    exact G_subK K ⟨rfl, ⟨rfl, ⟨rfl, ⟨rfl, ⟨rfl, trivial⟩⟩⟩⟩⟩
  · refine G_iS (Z := (g_S, c1, c2)) (N := M_Lrun) (as := [.ref 0, gi (g_sx r (i + 1).toNat), .ref 74]) (hh := g_hm (g_y M_Lrun)) (L_run_1 (J := fun s => g_j s sM) (g_j_c sM) e1) rfl (Nat.le_of_ble_eq_true rfl) rfl rfl rfl (plainFor_of_name (by decide)) (g_da dt_law 128 rfl) lw_l_41 sw_run iw_l cw_run (by decide) (by decide +kernel) (g_ftl rfl hc1 hc2) rfl rfl rfl (fun o S sg' hq => ?_)
    obtain ⟨rfl, rfl, rfl⟩ := hq
    refine ⟨_, rfl, ?_⟩
    refine G_istore (lv' := [some (.ref 4000), some (.ref 0), some (.ref 49), some (.ref 74), some (gi i), some (gi 1), none]) (g_da dt_law 129 rfl) (Nat.le_of_ble_eq_true rfl) rfl rfl ?_
    refine G_aload_n (g_da dt_law 130 rfl) rfl rfl ?_
    refine G_aload_n (g_da dt_law 131 rfl) rfl rfl ?_
    refine G_iload (g_da dt_law 132 rfl) rfl ?_
    refine G_iconst (g_da dt_law 133 rfl) ?_
    refine G_iadd (g_da dt_law 134 rfl) ?_
    refine G_sld (g_da dt_law 135 rfl) rfl hw1 ⟨by omega, by omega⟩ ?_
    refine H_cVE (J := fun s => g_j sC1 s) (M_run_ok (g_j_m sC1) e2) (g_da dt_law 136 rfl) (Or.inl lw_l_46) nv_M_run rfl sh_49 rfl (g_ftl rfl hd1 hd2) rfl rfl rfl rfl ?_
    refine G_istore (lv' := [some (.ref 4000), some (.ref 0), some (.ref 49), some (.ref 74), some (gi i), some (gi 1), some (gi z1)]) (g_da dt_law 137 rfl) (Nat.le_of_ble_eq_true rfl) rfl rfl ?_
    refine G_aload_n (g_da dt_law 138 rfl) rfl rfl ?_
    refine H_cVE (J := fun s => g_j sC1 s) (M_thrown_ok (g_j_m sC1) (z0 := sM1 49 0) (s0 := sM1) rfl) (g_da dt_law 139 rfl) (Or.inl lw_l_47) nv_M_thrown rfl sh_49 rfl (g_ftl rfl hd1 hd2) rfl rfl rfl rfl ?_
    refine G_iload (g_da dt_law 140 rfl) rfl ?_
    refine G_icmp_eq (g_da dt_law 141 rfl) rfl e3 w_1 (fun _ => ?_) (fun hc => absurd rfl hc)
    refine G_iload (g_da dt_law 144 rfl) rfl ?_
    refine G_if_ne (g_da dt_law 145 rfl) rfl w_1 (fun _ => ?_) (fun hc => absurd hc (by decide))
    refine G_goto (g_da dt_law 155 rfl) rfl ?_
    exact G_subK K ⟨rfl, ⟨rfl, ⟨rfl, ⟨rfl, ⟨rfl, trivial⟩⟩⟩⟩⟩
  · refine G_iS (Z := (g_S, c1, c2)) (N := M_Lrun) (as := [.ref 0, gi (g_sx r (i + 1).toNat), .ref 74]) (hh := g_hm (g_y M_Lrun)) (L_run_2 (J := fun s => g_j s sM) (g_j_c sM) e1) rfl (Nat.le_of_ble_eq_true rfl) rfl rfl rfl (plainFor_of_name (by decide)) (g_da dt_law 128 rfl) lw_l_41 sw_run iw_l cw_run (by decide) (by decide +kernel) (g_ftl rfl hc1 hc2) rfl rfl rfl (fun o S sg' hq => ?_)
    obtain ⟨rfl, rfl, rfl⟩ := hq
    refine ⟨_, rfl, ?_⟩
    refine G_istore (lv' := [some (.ref 4000), some (.ref 0), some (.ref 49), some (.ref 74), some (gi i), some (gi 2), none]) (g_da dt_law 129 rfl) (Nat.le_of_ble_eq_true rfl) rfl rfl ?_
    refine G_aload_n (g_da dt_law 130 rfl) rfl rfl ?_
    refine G_aload_n (g_da dt_law 131 rfl) rfl rfl ?_
    refine G_iload (g_da dt_law 132 rfl) rfl ?_
    refine G_iconst (g_da dt_law 133 rfl) ?_
    refine G_iadd (g_da dt_law 134 rfl) ?_
    refine G_sld (g_da dt_law 135 rfl) rfl hw1 ⟨by omega, by omega⟩ ?_
    refine H_cVE (J := fun s => g_j sC1 s) (M_run_ok (g_j_m sC1) e2) (g_da dt_law 136 rfl) (Or.inl lw_l_46) nv_M_run rfl sh_49 rfl (g_ftl rfl hd1 hd2) rfl rfl rfl rfl ?_
    refine G_istore (lv' := [some (.ref 4000), some (.ref 0), some (.ref 49), some (.ref 74), some (gi i), some (gi 2), some (gi z1)]) (g_da dt_law 137 rfl) (Nat.le_of_ble_eq_true rfl) rfl rfl ?_
    refine G_aload_n (g_da dt_law 138 rfl) rfl rfl ?_
    refine H_cVE (J := fun s => g_j sC1 s) (M_thrown_ok (g_j_m sC1) (z0 := sM1 49 0) (s0 := sM1) rfl) (g_da dt_law 139 rfl) (Or.inl lw_l_47) nv_M_thrown rfl sh_49 rfl (g_ftl rfl hd1 hd2) rfl rfl rfl rfl ?_
    refine G_iload (g_da dt_law 140 rfl) rfl ?_
    refine G_icmp_eq (g_da dt_law 141 rfl) rfl e3 w_2 (fun _ => ?_) (fun hc => absurd rfl hc)
    refine G_iload (g_da dt_law 144 rfl) rfl ?_
    refine G_if_ne (g_da dt_law 145 rfl) rfl w_2 (fun _ => ?_) (fun hc => absurd hc (by decide))
    refine G_goto (g_da dt_law 155 rfl) rfl ?_
    exact G_subK K ⟨rfl, ⟨rfl, ⟨rfl, ⟨rfl, ⟨rfl, trivial⟩⟩⟩⟩⟩
theorem lw_l_51 : Cond.methodLink "BandPressLaw" 51 ⟨"BandPress", "job", "(I)I"⟩ ∈ g_T := (g_Tm 664 (by decide +kernel) rfl)
set_option maxHeartbeats 4000000 in
set_option maxRecDepth 100000 in
theorem nv_B_job : g_mv M_B_job 1 := ⟨⟨(g_Tm 89 (by decide +kernel) rfl), g_Tm 667 rfl rfl, by decide, by decide, by decide +kernel⟩, (g_Tm 665 (by decide +kernel) rfl), (g_Tm 666 (by decide +kernel) rfl)⟩
theorem lw_l_54 : Cond.methodLink "BandPressLaw" 54 ⟨"BandPressModel", "job", "(I)I"⟩ ∈ g_T := (g_Tm 1619 (by decide +kernel) rfl)
set_option maxHeartbeats 4000000 in
set_option maxRecDepth 100000 in
theorem nv_M_job : g_mv M_M_job 1 := ⟨⟨(g_Tm 102 (by decide +kernel) rfl), g_Tm 1622 rfl rfl, by decide, by decide, by decide +kernel⟩, (g_Tm 1620 (by decide +kernel) rfl), (g_Tm 1621 (by decide +kernel) rfl)⟩
set_option maxHeartbeats 4000000 in
set_option maxRecDepth 100000 in
theorem law_3 {r : Nat × (Nat → Int32)} {Q : gO → List gH → gS → Prop} {c1 c2 : Nat} {i : Int} {sC sM : gS} (hc1 : c1 ≤ 1103) (hc2 : c2 ≤ 59611) (hi : 0 ≤ i) (hj : i + 4 ≤ (r.1 : Int)) (hL : (r.1 : Int) ≤ 2048) (H : ∀ a0 : Int, g_cl2 (g_kt r Q c1 c2 i) (B_job a0) (M_job a0) sC sM) : G (M_law r false) Q (g_S, c1, c2) (g_j sC sM) 310 [some (.ref 4000), some (.ref 0), some (.ref 49), some (.ref 74), some (gi i), none, none] [] := by
  have hw1 : w32 (i + 1) = i + 1 := w32_id (by omega) (by omega)
  have hw2 : w32 (i + 2) = i + 2 := w32_id (by omega) (by omega)
  have hw3 : w32 (i + 3) = i + 3 := w32_id (by omega) (by omega)
  refine G_aload_n (g_da dt_law 156 rfl) rfl rfl ?_
  refine G_aload_n (g_da dt_law 157 rfl) rfl rfl ?_
  refine G_iload (g_da dt_law 158 rfl) rfl ?_
  refine G_iconst (g_da dt_law 159 rfl) ?_
  refine G_iadd (g_da dt_law 160 rfl) ?_
  refine G_sld (g_da dt_law 161 rfl) rfl hw1 ⟨by omega, by omega⟩ ?_
  obtain ⟨z, z1, sC1, sM1, e1, e2, e3, K⟩ := H (g_sx r (i + 1).toNat)
  refine H_cVE (J := fun s => g_j s sM) (B_job_ok (g_j_c sM) e1) (g_da dt_law 162 rfl) (Or.inl lw_l_51) nv_B_job rfl sh_0 rfl (g_ftl rfl hc1 hc2) rfl rfl rfl rfl ?_
  refine G_aload_n (g_da dt_law 163 rfl) rfl rfl ?_
  refine G_aload_n (g_da dt_law 164 rfl) rfl rfl ?_
  refine G_iload (g_da dt_law 165 rfl) rfl ?_
  refine G_iconst (g_da dt_law 166 rfl) ?_
  refine G_iadd (g_da dt_law 167 rfl) ?_
  refine G_sld (g_da dt_law 168 rfl) rfl hw1 ⟨by omega, by omega⟩ ?_
  refine H_cVE (J := fun s => g_j sC1 s) (M_job_ok (g_j_m sC1) e2) (g_da dt_law 169 rfl) (Or.inl lw_l_54) nv_M_job rfl sh_49 rfl (g_ftl rfl hc1 hc2) rfl rfl rfl rfl ?_
  refine G_icmp_eq (g_da dt_law 170 rfl) rfl rfl rfl (fun _ => ?_) (fun hc => absurd e3 hc)
  exact G_subK K ⟨rfl, ⟨rfl, ⟨rfl, ⟨rfl, ⟨rfl, trivial⟩⟩⟩⟩⟩
theorem lw_l_55 : Cond.methodLink "BandPressLaw" 55 ⟨"BandPressLaw", "value", "(LBandPress;I[J)I"⟩ ∈ g_T := (g_Tm 1189 (by decide +kernel) rfl)
theorem lw_l_57 : Cond.methodLink "BandPressLaw" 57 ⟨"BandPressModel", "value", "(I)I"⟩ ∈ g_T := (g_Tm 1623 (by decide +kernel) rfl)
set_option maxHeartbeats 4000000 in
set_option maxRecDepth 100000 in
theorem nv_M_value : g_mv M_M_value 1 := ⟨⟨(g_Tm 102 (by decide +kernel) rfl), g_Tm 1626 rfl rfl, by decide, by decide, by decide +kernel⟩, (g_Tm 1624 (by decide +kernel) rfl), (g_Tm 1625 (by decide +kernel) rfl)⟩
set_option maxHeartbeats 4000000 in
set_option maxRecDepth 100000 in
theorem law_4 {r : Nat × (Nat → Int32)} {Q : gO → List gH → gS → Prop} {c1 c2 : Nat} {i : Int} {sC sM : gS} (hc1 : c1 + 1 ≤ 1103) (hc2 : c2 + 6 ≤ 59611) (hi : 0 ≤ i) (hj : i + 4 ≤ (r.1 : Int)) (hL : (r.1 : Int) ≤ 2048) (H : ∀ a : Int, g_clx (g_kt r Q (c1 + 1) (c2 + 6) i) (B_value a) (M_value a) 0 0 sC sM ∨ g_clx (g_kt r Q (c1 + 1) (c2 + 6) i) (B_value a) (M_value a) 3 1 sC sM) : G (M_law r false) Q (g_S, c1, c2) (g_j sC sM) 335 [some (.ref 4000), some (.ref 0), some (.ref 49), some (.ref 74), some (gi i), none, none] [] := by
  have hw1 : w32 (i + 1) = i + 1 := w32_id (by omega) (by omega)
  have hw2 : w32 (i + 2) = i + 2 := w32_id (by omega) (by omega)
  have hw3 : w32 (i + 3) = i + 3 := w32_id (by omega) (by omega)
  have hd1 : c1 + 1 + 0 ≤ 1103 := hc1
  have hd2 : c2 + 6 + 0 ≤ 59611 := hc2
  refine G_aload_n (g_da dt_law 173 rfl) rfl rfl ?_
  refine G_aload_n (g_da dt_law 174 rfl) rfl rfl ?_
  refine G_iload (g_da dt_law 175 rfl) rfl ?_
  refine G_iconst (g_da dt_law 176 rfl) ?_
  refine G_iadd (g_da dt_law 177 rfl) ?_
  refine G_sld (g_da dt_law 178 rfl) rfl hw1 ⟨by omega, by omega⟩ ?_
  refine G_aload_n (g_da dt_law 179 rfl) rfl rfl ?_
  rcases H (g_sx r (i + 1).toNat) with ⟨z, z1, sC1, sM1, e1, e2, e3, e4, K⟩ | ⟨z, z1, sC1, sM1, e1, e2, e3, e4, K⟩
  · refine G_iS (Z := (g_S, c1, c2)) (N := M_Lvalue) (as := [.ref 0, gi (g_sx r (i + 1).toNat), .ref 74]) (hh := g_hm (g_y M_Lvalue)) (L_value_0 (J := fun s => g_j s sM) (g_j_c sM) e1) rfl (Nat.le_of_ble_eq_true rfl) rfl rfl rfl (plainFor_of_name (by decide)) (g_da dt_law 180 rfl) lw_l_55 sw_value iw_l cw_value (by decide) (by decide +kernel) (g_ftl rfl hc1 hc2) rfl rfl rfl (fun o S sg' hq => ?_)
    obtain ⟨rfl, rfl, rfl⟩ := hq
    refine ⟨_, rfl, ?_⟩
    refine G_istore (lv' := [some (.ref 4000), some (.ref 0), some (.ref 49), some (.ref 74), some (gi i), some (gi 0), none]) (g_da dt_law 181 rfl) (Nat.le_of_ble_eq_true rfl) rfl rfl ?_
    refine G_aload_n (g_da dt_law 182 rfl) rfl rfl ?_
    refine G_aload_n (g_da dt_law 183 rfl) rfl rfl ?_
    refine G_iload (g_da dt_law 184 rfl) rfl ?_
    refine G_iconst (g_da dt_law 185 rfl) ?_
    refine G_iadd (g_da dt_law 186 rfl) ?_
    refine G_sld (g_da dt_law 187 rfl) rfl hw1 ⟨by omega, by omega⟩ ?_
    refine H_cVE (J := fun s => g_j (g_up sC1 74 0 (w32 z)) s) (M_value_ok (g_j_m (g_up sC1 74 0 (w32 z))) e2) (g_da dt_law 188 rfl) (Or.inl lw_l_57) nv_M_value rfl sh_49 rfl (g_ftl rfl hd1 hd2) rfl rfl rfl rfl ?_
    refine G_istore (lv' := [some (.ref 4000), some (.ref 0), some (.ref 49), some (.ref 74), some (gi i), some (gi 0), some (gi z1)]) (g_da dt_law 189 rfl) (Nat.le_of_ble_eq_true rfl) rfl rfl ?_
    refine G_aload_n (g_da dt_law 190 rfl) rfl rfl ?_
    refine H_cVE (J := fun s => g_j (g_up sC1 74 0 (w32 z)) s) (M_thrown_ok (g_j_m (g_up sC1 74 0 (w32 z))) (z0 := sM1 49 0) (s0 := sM1) rfl) (g_da dt_law 191 rfl) (Or.inl lw_l_47) nv_M_thrown rfl sh_49 rfl (g_ftl rfl hd1 hd2) rfl rfl rfl rfl ?_
    refine G_iload (g_da dt_law 192 rfl) rfl ?_
    refine G_icmp_eq (g_da dt_law 193 rfl) rfl e3 w_0 (fun _ => ?_) (fun hc => absurd rfl hc)
    refine G_iload (g_da dt_law 196 rfl) rfl ?_
    refine G_if_ne (g_da dt_law 197 rfl) rfl w_0 (fun hc => absurd rfl hc) (fun _ => ?_)
    refine G_aload_n (g_da dt_law 198 rfl) rfl rfl ?_
    refine G_iconst (g_da dt_law 199 rfl) ?_
    refine H_laload (J := fun s => g_j s sM1) (g_da dt_law 200 rfl) sh_74 (g_j_c sM1 74 rfl) w_0 ⟨by decide, by decide⟩ rfl ?_
    rw [show (g_up sC1 74 0 (w32 z)) 74 0 = w32 z by simp [g_up]]
    refine G_iload (g_da dt_law 201 rfl) rfl ?_
    refine G_i2l (g_da dt_law 202 rfl) ?_
    refine G_lcmp (g_da dt_law 203 rfl) ?_
    refine G_if_eq (g_da dt_law 204 rfl) rfl (l_cmp_0 (e4 rfl)) (fun _ => ?_) (fun hc => absurd rfl hc)
    refine G_goto (g_da dt_law 207 rfl) rfl ?_
    exact G_subK K ⟨rfl, ⟨rfl, ⟨rfl, ⟨rfl, ⟨rfl, trivial⟩⟩⟩⟩⟩
  · refine G_iS (Z := (g_S, c1, c2)) (N := M_Lvalue) (as := [.ref 0, gi (g_sx r (i + 1).toNat), .ref 74]) (hh := g_hm (g_y M_Lvalue)) (L_value_3 (J := fun s => g_j s sM) (g_j_c sM) e1) rfl (Nat.le_of_ble_eq_true rfl) rfl rfl rfl (plainFor_of_name (by decide)) (g_da dt_law 180 rfl) lw_l_55 sw_value iw_l cw_value (by decide) (by decide +kernel) (g_ftl rfl hc1 hc2) rfl rfl rfl (fun o S sg' hq => ?_)
    obtain ⟨rfl, rfl, rfl⟩ := hq
    refine ⟨_, rfl, ?_⟩
    refine G_istore (lv' := [some (.ref 4000), some (.ref 0), some (.ref 49), some (.ref 74), some (gi i), some (gi 1), none]) (g_da dt_law 181 rfl) (Nat.le_of_ble_eq_true rfl) rfl rfl ?_
    refine G_aload_n (g_da dt_law 182 rfl) rfl rfl ?_
    refine G_aload_n (g_da dt_law 183 rfl) rfl rfl ?_
    refine G_iload (g_da dt_law 184 rfl) rfl ?_
    refine G_iconst (g_da dt_law 185 rfl) ?_
    refine G_iadd (g_da dt_law 186 rfl) ?_
    refine G_sld (g_da dt_law 187 rfl) rfl hw1 ⟨by omega, by omega⟩ ?_
    refine H_cVE (J := fun s => g_j sC1 s) (M_value_ok (g_j_m sC1) e2) (g_da dt_law 188 rfl) (Or.inl lw_l_57) nv_M_value rfl sh_49 rfl (g_ftl rfl hd1 hd2) rfl rfl rfl rfl ?_
    refine G_istore (lv' := [some (.ref 4000), some (.ref 0), some (.ref 49), some (.ref 74), some (gi i), some (gi 1), some (gi z1)]) (g_da dt_law 189 rfl) (Nat.le_of_ble_eq_true rfl) rfl rfl ?_
    refine G_aload_n (g_da dt_law 190 rfl) rfl rfl ?_
    refine H_cVE (J := fun s => g_j sC1 s) (M_thrown_ok (g_j_m sC1) (z0 := sM1 49 0) (s0 := sM1) rfl) (g_da dt_law 191 rfl) (Or.inl lw_l_47) nv_M_thrown rfl sh_49 rfl (g_ftl rfl hd1 hd2) rfl rfl rfl rfl ?_
    refine G_iload (g_da dt_law 192 rfl) rfl ?_
    refine G_icmp_eq (g_da dt_law 193 rfl) rfl e3 w_1 (fun _ => ?_) (fun hc => absurd rfl hc)
    refine G_iload (g_da dt_law 196 rfl) rfl ?_
    refine G_if_ne (g_da dt_law 197 rfl) rfl w_1 (fun _ => ?_) (fun hc => absurd hc (by decide))
    refine G_goto (g_da dt_law 207 rfl) rfl ?_
    exact G_subK K ⟨rfl, ⟨rfl, ⟨rfl, ⟨rfl, ⟨rfl, trivial⟩⟩⟩⟩⟩
theorem lw_l_58 : Cond.methodLink "BandPressLaw" 58 ⟨"BandPress", "variable", "(I)I"⟩ ∈ g_T := (g_Tm 672 (by decide +kernel) rfl)
set_option maxHeartbeats 4000000 in
set_option maxRecDepth 100000 in
theorem nv_B_variable : g_mv M_B_variable 1 := ⟨⟨(g_Tm 89 (by decide +kernel) rfl), g_Tm 675 rfl rfl, by decide, by decide, by decide +kernel⟩, (g_Tm 673 (by decide +kernel) rfl), (g_Tm 674 (by decide +kernel) rfl)⟩
theorem lw_l_61 : Cond.methodLink "BandPressLaw" 61 ⟨"BandPressModel", "variable", "(I)I"⟩ ∈ g_T := (g_Tm 1628 (by decide +kernel) rfl)
set_option maxHeartbeats 4000000 in
set_option maxRecDepth 100000 in
theorem nv_M_variable : g_mv M_M_variable 1 := ⟨⟨(g_Tm 102 (by decide +kernel) rfl), g_Tm 1631 rfl rfl, by decide, by decide, by decide +kernel⟩, (g_Tm 1629 (by decide +kernel) rfl), (g_Tm 1630 (by decide +kernel) rfl)⟩
set_option maxHeartbeats 4000000 in
set_option maxRecDepth 100000 in
theorem law_5 {r : Nat × (Nat → Int32)} {Q : gO → List gH → gS → Prop} {c1 c2 : Nat} {i : Int} {sC sM : gS} (hc1 : c1 ≤ 1103) (hc2 : c2 ≤ 59611) (hi : 0 ≤ i) (hj : i + 4 ≤ (r.1 : Int)) (hL : (r.1 : Int) ≤ 2048) (H : ∀ a0 : Int, g_cl2 (g_kt r Q c1 c2 i) (B_variable a0) (M_variable a0) sC sM) : G (M_law r false) Q (g_S, c1, c2) (g_j sC sM) 391 [some (.ref 4000), some (.ref 0), some (.ref 49), some (.ref 74), some (gi i), none, none] [] := by
  have hw1 : w32 (i + 1) = i + 1 := w32_id (by omega) (by omega)
  have hw2 : w32 (i + 2) = i + 2 := w32_id (by omega) (by omega)
  have hw3 : w32 (i + 3) = i + 3 := w32_id (by omega) (by omega)
  refine G_aload_n (g_da dt_law 208 rfl) rfl rfl ?_
  refine G_aload_n (g_da dt_law 209 rfl) rfl rfl ?_
  refine G_iload (g_da dt_law 210 rfl) rfl ?_
  refine G_iconst (g_da dt_law 211 rfl) ?_
  refine G_iadd (g_da dt_law 212 rfl) ?_
  refine G_sld (g_da dt_law 213 rfl) rfl hw1 ⟨by omega, by omega⟩ ?_
  obtain ⟨z, z1, sC1, sM1, e1, e2, e3, K⟩ := H (g_sx r (i + 1).toNat)
  refine H_cVE (J := fun s => g_j s sM) (B_variable_ok (g_j_c sM) e1) (g_da dt_law 214 rfl) (Or.inl lw_l_58) nv_B_variable rfl sh_0 rfl (g_ftl rfl hc1 hc2) rfl rfl rfl rfl ?_
  refine G_aload_n (g_da dt_law 215 rfl) rfl rfl ?_
  refine G_aload_n (g_da dt_law 216 rfl) rfl rfl ?_
  refine G_iload (g_da dt_law 217 rfl) rfl ?_
  refine G_iconst (g_da dt_law 218 rfl) ?_
  refine G_iadd (g_da dt_law 219 rfl) ?_
  refine G_sld (g_da dt_law 220 rfl) rfl hw1 ⟨by omega, by omega⟩ ?_
  refine H_cVE (J := fun s => g_j sC1 s) (M_variable_ok (g_j_m sC1) e2) (g_da dt_law 221 rfl) (Or.inl lw_l_61) nv_M_variable rfl sh_49 rfl (g_ftl rfl hc1 hc2) rfl rfl rfl rfl ?_
  refine G_icmp_eq (g_da dt_law 222 rfl) rfl rfl rfl (fun _ => ?_) (fun hc => absurd e3 hc)
  exact G_subK K ⟨rfl, ⟨rfl, ⟨rfl, ⟨rfl, ⟨rfl, trivial⟩⟩⟩⟩⟩
theorem lw_l_62 : Cond.methodLink "BandPressLaw" 62 ⟨"BandPress", "pixel", "(III)Z"⟩ ∈ g_T := (g_Tm 676 (by decide +kernel) rfl)
set_option maxHeartbeats 4000000 in
set_option maxRecDepth 100000 in
theorem nv_B_pixel : g_mv M_B_pixel 3 := ⟨⟨(g_Tm 89 (by decide +kernel) rfl), g_Tm 679 rfl rfl, by decide, by decide, by decide +kernel⟩, (g_Tm 677 (by decide +kernel) rfl), (g_Tm 678 (by decide +kernel) rfl)⟩
theorem lw_l_66 : Cond.methodLink "BandPressLaw" 66 ⟨"BandPressModel", "pixel", "(III)Z"⟩ ∈ g_T := (g_Tm 1632 (by decide +kernel) rfl)
set_option maxHeartbeats 4000000 in
set_option maxRecDepth 100000 in
theorem nv_M_pixel : g_mv M_M_pixel 3 := ⟨⟨(g_Tm 102 (by decide +kernel) rfl), g_Tm 1635 rfl rfl, by decide, by decide, by decide +kernel⟩, (g_Tm 1633 (by decide +kernel) rfl), (g_Tm 1634 (by decide +kernel) rfl)⟩
set_option maxHeartbeats 4000000 in
set_option maxRecDepth 100000 in
theorem law_6 {r : Nat × (Nat → Int32)} {Q : gO → List gH → gS → Prop} {c1 c2 : Nat} {i : Int} {sC sM : gS} (hc1 : c1 ≤ 1103) (hc2 : c2 ≤ 59611) (hi : 0 ≤ i) (hj : i + 4 ≤ (r.1 : Int)) (hL : (r.1 : Int) ≤ 2048) (H : ∀ a0 a1 a2 : Int, g_cl2 (g_kt r Q c1 c2 i) (B_pixel a0 a1 a2) (M_pixel a0 a1 a2) sC sM) : G (M_law r false) Q (g_S, c1, c2) (g_j sC sM) 416 [some (.ref 4000), some (.ref 0), some (.ref 49), some (.ref 74), some (gi i), none, none] [] := by
  have hw1 : w32 (i + 1) = i + 1 := w32_id (by omega) (by omega)
  have hw2 : w32 (i + 2) = i + 2 := w32_id (by omega) (by omega)
  have hw3 : w32 (i + 3) = i + 3 := w32_id (by omega) (by omega)
  refine G_aload_n (g_da dt_law 225 rfl) rfl rfl ?_
  refine G_aload_n (g_da dt_law 226 rfl) rfl rfl ?_
  refine G_iload (g_da dt_law 227 rfl) rfl ?_
  refine G_iconst (g_da dt_law 228 rfl) ?_
  refine G_iadd (g_da dt_law 229 rfl) ?_
  refine G_sld (g_da dt_law 230 rfl) rfl hw1 ⟨by omega, by omega⟩ ?_
  refine G_aload_n (g_da dt_law 231 rfl) rfl rfl ?_
  refine G_iload (g_da dt_law 232 rfl) rfl ?_
  refine G_iconst (g_da dt_law 233 rfl) ?_
  refine G_iadd (g_da dt_law 234 rfl) ?_
  refine G_sld (g_da dt_law 235 rfl) rfl hw2 ⟨by omega, by omega⟩ ?_
  refine G_aload_n (g_da dt_law 236 rfl) rfl rfl ?_
  refine G_iload (g_da dt_law 237 rfl) rfl ?_
  refine G_iconst (g_da dt_law 238 rfl) ?_
  refine G_iadd (g_da dt_law 239 rfl) ?_
  refine G_sld (g_da dt_law 240 rfl) rfl hw3 ⟨by omega, by omega⟩ ?_
  obtain ⟨z, z1, sC1, sM1, e1, e2, e3, K⟩ := H (g_sx r (i + 1).toNat) (g_sx r (i + 2).toNat) (g_sx r (i + 3).toNat)
  refine H_cVE (J := fun s => g_j s sM) (B_pixel_ok (g_j_c sM) e1) (g_da dt_law 241 rfl) (Or.inl lw_l_62) nv_B_pixel rfl sh_0 rfl (g_ftl rfl hc1 hc2) rfl rfl rfl rfl ?_
  refine G_aload_n (g_da dt_law 242 rfl) rfl rfl ?_
  refine G_aload_n (g_da dt_law 243 rfl) rfl rfl ?_
  refine G_iload (g_da dt_law 244 rfl) rfl ?_
  refine G_iconst (g_da dt_law 245 rfl) ?_
  refine G_iadd (g_da dt_law 246 rfl) ?_
  refine G_sld (g_da dt_law 247 rfl) rfl hw1 ⟨by omega, by omega⟩ ?_
  refine G_aload_n (g_da dt_law 248 rfl) rfl rfl ?_
  refine G_iload (g_da dt_law 249 rfl) rfl ?_
  refine G_iconst (g_da dt_law 250 rfl) ?_
  refine G_iadd (g_da dt_law 251 rfl) ?_
  refine G_sld (g_da dt_law 252 rfl) rfl hw2 ⟨by omega, by omega⟩ ?_
  refine G_aload_n (g_da dt_law 253 rfl) rfl rfl ?_
  refine G_iload (g_da dt_law 254 rfl) rfl ?_
  refine G_iconst (g_da dt_law 255 rfl) ?_
  refine G_iadd (g_da dt_law 256 rfl) ?_
  refine G_sld (g_da dt_law 257 rfl) rfl hw3 ⟨by omega, by omega⟩ ?_
  refine H_cVE (J := fun s => g_j sC1 s) (M_pixel_ok (g_j_m sC1) e2) (g_da dt_law 258 rfl) (Or.inl lw_l_66) nv_M_pixel rfl sh_49 rfl (g_ftl rfl hc1 hc2) rfl rfl rfl rfl ?_
  refine G_icmp_eq (g_da dt_law 259 rfl) rfl rfl rfl (fun _ => ?_) (fun hc => absurd e3 hc)
  exact G_subK K ⟨rfl, ⟨rfl, ⟨rfl, ⟨rfl, ⟨rfl, trivial⟩⟩⟩⟩⟩
theorem lw_l_67 : Cond.methodLink "BandPressLaw" 67 ⟨"BandPress", "band", "(II)I"⟩ ∈ g_T := (g_Tm 688 (by decide +kernel) rfl)
set_option maxHeartbeats 4000000 in
set_option maxRecDepth 100000 in
theorem nv_B_band : g_mv M_B_band 2 := ⟨⟨(g_Tm 89 (by decide +kernel) rfl), g_Tm 691 rfl rfl, by decide, by decide, by decide +kernel⟩, (g_Tm 689 (by decide +kernel) rfl), (g_Tm 690 (by decide +kernel) rfl)⟩
theorem lw_l_71 : Cond.methodLink "BandPressLaw" 71 ⟨"BandPressModel", "band", "(II)I"⟩ ∈ g_T := (g_Tm 1639 (by decide +kernel) rfl)
set_option maxHeartbeats 4000000 in
set_option maxRecDepth 100000 in
theorem nv_M_band : g_mv M_M_band 2 := ⟨⟨(g_Tm 102 (by decide +kernel) rfl), g_Tm 1642 rfl rfl, by decide, by decide, by decide +kernel⟩, (g_Tm 1640 (by decide +kernel) rfl), (g_Tm 1641 (by decide +kernel) rfl)⟩
set_option maxHeartbeats 4000000 in
set_option maxRecDepth 100000 in
theorem law_7 {r : Nat × (Nat → Int32)} {Q : gO → List gH → gS → Prop} {c1 c2 : Nat} {i : Int} {sC sM : gS} (hc1 : c1 ≤ 1103) (hc2 : c2 ≤ 59611) (hi : 0 ≤ i) (hj : i + 4 ≤ (r.1 : Int)) (hL : (r.1 : Int) ≤ 2048) (H : ∀ a0 a1 : Int, g_cl2 (g_kt r Q c1 c2 i) (B_band a0 a1) (M_band a0 a1) sC sM) : G (M_law r false) Q (g_S, c1, c2) (g_j sC sM) 465 [some (.ref 4000), some (.ref 0), some (.ref 49), some (.ref 74), some (gi i), none, none] [] := by
  have hw1 : w32 (i + 1) = i + 1 := w32_id (by omega) (by omega)
  have hw2 : w32 (i + 2) = i + 2 := w32_id (by omega) (by omega)
  have hw3 : w32 (i + 3) = i + 3 := w32_id (by omega) (by omega)
  refine G_aload_n (g_da dt_law 262 rfl) rfl rfl ?_
  refine G_aload_n (g_da dt_law 263 rfl) rfl rfl ?_
  refine G_iload (g_da dt_law 264 rfl) rfl ?_
  refine G_iconst (g_da dt_law 265 rfl) ?_
  refine G_iadd (g_da dt_law 266 rfl) ?_
  refine G_sld (g_da dt_law 267 rfl) rfl hw1 ⟨by omega, by omega⟩ ?_
  refine G_aload_n (g_da dt_law 268 rfl) rfl rfl ?_
  refine G_iload (g_da dt_law 269 rfl) rfl ?_
  refine G_iconst (g_da dt_law 270 rfl) ?_
  refine G_iadd (g_da dt_law 271 rfl) ?_
  refine G_sld (g_da dt_law 272 rfl) rfl hw2 ⟨by omega, by omega⟩ ?_
  obtain ⟨z, z1, sC1, sM1, e1, e2, e3, K⟩ := H (g_sx r (i + 1).toNat) (g_sx r (i + 2).toNat)
  refine H_cVE (J := fun s => g_j s sM) (B_band_ok (g_j_c sM) e1) (g_da dt_law 273 rfl) (Or.inl lw_l_67) nv_B_band rfl sh_0 rfl (g_ftl rfl hc1 hc2) rfl rfl rfl rfl ?_
  refine G_aload_n (g_da dt_law 274 rfl) rfl rfl ?_
  refine G_aload_n (g_da dt_law 275 rfl) rfl rfl ?_
  refine G_iload (g_da dt_law 276 rfl) rfl ?_
  refine G_iconst (g_da dt_law 277 rfl) ?_
  refine G_iadd (g_da dt_law 278 rfl) ?_
  refine G_sld (g_da dt_law 279 rfl) rfl hw1 ⟨by omega, by omega⟩ ?_
  refine G_aload_n (g_da dt_law 280 rfl) rfl rfl ?_
  refine G_iload (g_da dt_law 281 rfl) rfl ?_
  refine G_iconst (g_da dt_law 282 rfl) ?_
  refine G_iadd (g_da dt_law 283 rfl) ?_
  refine G_sld (g_da dt_law 284 rfl) rfl hw2 ⟨by omega, by omega⟩ ?_
  refine H_cVE (J := fun s => g_j sC1 s) (M_band_ok (g_j_m sC1) e2) (g_da dt_law 285 rfl) (Or.inl lw_l_71) nv_M_band rfl sh_49 rfl (g_ftl rfl hc1 hc2) rfl rfl rfl rfl ?_
  refine G_icmp_eq (g_da dt_law 286 rfl) rfl rfl rfl (fun _ => ?_) (fun hc => absurd e3 hc)
  exact G_subK K ⟨rfl, ⟨rfl, ⟨rfl, ⟨rfl, ⟨rfl, trivial⟩⟩⟩⟩⟩
theorem lw_l_72 : Cond.methodLink "BandPressLaw" 72 ⟨"BandPress", "octet", "(III)I"⟩ ∈ g_T := (g_Tm 718 (by decide +kernel) rfl)
set_option maxHeartbeats 4000000 in
set_option maxRecDepth 100000 in
theorem nv_B_octet : g_mv M_B_octet 3 := ⟨⟨(g_Tm 89 (by decide +kernel) rfl), g_Tm 721 rfl rfl, by decide, by decide, by decide +kernel⟩, (g_Tm 719 (by decide +kernel) rfl), (g_Tm 720 (by decide +kernel) rfl)⟩
theorem lw_l_76 : Cond.methodLink "BandPressLaw" 76 ⟨"BandPressModel", "octet", "(III)I"⟩ ∈ g_T := (g_Tm 1667 (by decide +kernel) rfl)
set_option maxHeartbeats 4000000 in
set_option maxRecDepth 100000 in
theorem nv_M_octet : g_mv M_M_octet 3 := ⟨⟨(g_Tm 102 (by decide +kernel) rfl), g_Tm 1670 rfl rfl, by decide, by decide, by decide +kernel⟩, (g_Tm 1668 (by decide +kernel) rfl), (g_Tm 1669 (by decide +kernel) rfl)⟩
set_option maxHeartbeats 4000000 in
set_option maxRecDepth 100000 in
theorem law_8 {r : Nat × (Nat → Int32)} {Q : gO → List gH → gS → Prop} {c1 c2 : Nat} {i : Int} {sC sM : gS} (hc1 : c1 ≤ 1103) (hc2 : c2 ≤ 59611) (hi : 0 ≤ i) (hj : i + 4 ≤ (r.1 : Int)) (hL : (r.1 : Int) ≤ 2048) (H : ∀ a0 a1 a2 : Int, g_cl2 (g_kt r Q c1 c2 i) (B_octet a0 a1 a2) (M_octet a0 a1 a2) sC sM) : G (M_law r false) Q (g_S, c1, c2) (g_j sC sM) 502 [some (.ref 4000), some (.ref 0), some (.ref 49), some (.ref 74), some (gi i), none, none] [] := by
  have hw1 : w32 (i + 1) = i + 1 := w32_id (by omega) (by omega)
  have hw2 : w32 (i + 2) = i + 2 := w32_id (by omega) (by omega)
  have hw3 : w32 (i + 3) = i + 3 := w32_id (by omega) (by omega)
  refine G_aload_n (g_da dt_law 289 rfl) rfl rfl ?_
  refine G_aload_n (g_da dt_law 290 rfl) rfl rfl ?_
  refine G_iload (g_da dt_law 291 rfl) rfl ?_
  refine G_iconst (g_da dt_law 292 rfl) ?_
  refine G_iadd (g_da dt_law 293 rfl) ?_
  refine G_sld (g_da dt_law 294 rfl) rfl hw1 ⟨by omega, by omega⟩ ?_
  refine G_aload_n (g_da dt_law 295 rfl) rfl rfl ?_
  refine G_iload (g_da dt_law 296 rfl) rfl ?_
  refine G_iconst (g_da dt_law 297 rfl) ?_
  refine G_iadd (g_da dt_law 298 rfl) ?_
  refine G_sld (g_da dt_law 299 rfl) rfl hw2 ⟨by omega, by omega⟩ ?_
  refine G_aload_n (g_da dt_law 300 rfl) rfl rfl ?_
  refine G_iload (g_da dt_law 301 rfl) rfl ?_
  refine G_iconst (g_da dt_law 302 rfl) ?_
  refine G_iadd (g_da dt_law 303 rfl) ?_
  refine G_sld (g_da dt_law 304 rfl) rfl hw3 ⟨by omega, by omega⟩ ?_
  obtain ⟨z, z1, sC1, sM1, e1, e2, e3, K⟩ := H (g_sx r (i + 1).toNat) (g_sx r (i + 2).toNat) (g_sx r (i + 3).toNat)
  refine H_cVE (J := fun s => g_j s sM) (B_octet_ok (g_j_c sM) e1) (g_da dt_law 305 rfl) (Or.inl lw_l_72) nv_B_octet rfl sh_0 rfl (g_ftl rfl hc1 hc2) rfl rfl rfl rfl ?_
  refine G_aload_n (g_da dt_law 306 rfl) rfl rfl ?_
  refine G_aload_n (g_da dt_law 307 rfl) rfl rfl ?_
  refine G_iload (g_da dt_law 308 rfl) rfl ?_
  refine G_iconst (g_da dt_law 309 rfl) ?_
  refine G_iadd (g_da dt_law 310 rfl) ?_
  refine G_sld (g_da dt_law 311 rfl) rfl hw1 ⟨by omega, by omega⟩ ?_
  refine G_aload_n (g_da dt_law 312 rfl) rfl rfl ?_
  refine G_iload (g_da dt_law 313 rfl) rfl ?_
  refine G_iconst (g_da dt_law 314 rfl) ?_
  refine G_iadd (g_da dt_law 315 rfl) ?_
  refine G_sld (g_da dt_law 316 rfl) rfl hw2 ⟨by omega, by omega⟩ ?_
  refine G_aload_n (g_da dt_law 317 rfl) rfl rfl ?_
  refine G_iload (g_da dt_law 318 rfl) rfl ?_
  refine G_iconst (g_da dt_law 319 rfl) ?_
  refine G_iadd (g_da dt_law 320 rfl) ?_
  refine G_sld (g_da dt_law 321 rfl) rfl hw3 ⟨by omega, by omega⟩ ?_
  refine H_cVE (J := fun s => g_j sC1 s) (M_octet_ok (g_j_m sC1) e2) (g_da dt_law 322 rfl) (Or.inl lw_l_76) nv_M_octet rfl sh_49 rfl (g_ftl rfl hc1 hc2) rfl rfl rfl rfl ?_
  refine G_icmp_eq (g_da dt_law 323 rfl) rfl rfl rfl (fun _ => ?_) (fun hc => absurd e3 hc)
  exact G_subK K ⟨rfl, ⟨rfl, ⟨rfl, ⟨rfl, ⟨rfl, trivial⟩⟩⟩⟩⟩
theorem lw_l_77 : Cond.methodLink "BandPressLaw" 77 ⟨"BandPressLaw", "tick", "(LBandPress;I[J)I"⟩ ∈ g_T := (g_Tm 1213 (by decide +kernel) rfl)
theorem lw_l_79 : Cond.methodLink "BandPressLaw" 79 ⟨"BandPressModel", "tick", "(I)I"⟩ ∈ g_T := (g_Tm 1671 (by decide +kernel) rfl)
set_option maxHeartbeats 4000000 in
set_option maxRecDepth 100000 in
theorem nv_M_tick : g_mv M_M_tick 1 := ⟨⟨(g_Tm 102 (by decide +kernel) rfl), g_Tm 1674 rfl rfl, by decide, by decide, by decide +kernel⟩, (g_Tm 1672 (by decide +kernel) rfl), (g_Tm 1673 (by decide +kernel) rfl)⟩
set_option maxHeartbeats 4000000 in
set_option maxRecDepth 100000 in
theorem law_9 {r : Nat × (Nat → Int32)} {Q : gO → List gH → gS → Prop} {c1 c2 : Nat} {i : Int} {sC sM : gS} (hc1 : c1 + 1 ≤ 1103) (hc2 : c2 + 6 ≤ 59611) (hi : 0 ≤ i) (hj : i + 4 ≤ (r.1 : Int)) (hL : (r.1 : Int) ≤ 2048) (H : ∀ a : Int, g_clx (g_kt r Q (c1 + 1) (c2 + 6) i) (B_tick a) (M_tick a) 0 0 sC sM ∨ g_clx (g_kt r Q (c1 + 1) (c2 + 6) i) (B_tick a) (M_tick a) 2 1 sC sM) : G (M_law r false) Q (g_S, c1, c2) (g_j sC sM) 551 [some (.ref 4000), some (.ref 0), some (.ref 49), some (.ref 74), some (gi i), none, none] [] := by
  have hw1 : w32 (i + 1) = i + 1 := w32_id (by omega) (by omega)
  have hw2 : w32 (i + 2) = i + 2 := w32_id (by omega) (by omega)
  have hw3 : w32 (i + 3) = i + 3 := w32_id (by omega) (by omega)
  have hd1 : c1 + 1 + 0 ≤ 1103 := hc1
  have hd2 : c2 + 6 + 0 ≤ 59611 := hc2
  refine G_aload_n (g_da dt_law 326 rfl) rfl rfl ?_
  refine G_aload_n (g_da dt_law 327 rfl) rfl rfl ?_
  refine G_iload (g_da dt_law 328 rfl) rfl ?_
  refine G_iconst (g_da dt_law 329 rfl) ?_
  refine G_iadd (g_da dt_law 330 rfl) ?_
  refine G_sld (g_da dt_law 331 rfl) rfl hw1 ⟨by omega, by omega⟩ ?_
  refine G_aload_n (g_da dt_law 332 rfl) rfl rfl ?_
  rcases H (g_sx r (i + 1).toNat) with ⟨z, z1, sC1, sM1, e1, e2, e3, e4, K⟩ | ⟨z, z1, sC1, sM1, e1, e2, e3, e4, K⟩
  · refine G_iS (Z := (g_S, c1, c2)) (N := M_Ltick) (as := [.ref 0, gi (g_sx r (i + 1).toNat), .ref 74]) (hh := g_hm (g_y M_Ltick)) (L_tick_0 (J := fun s => g_j s sM) (g_j_c sM) e1) rfl (Nat.le_of_ble_eq_true rfl) rfl rfl rfl (plainFor_of_name (by decide)) (g_da dt_law 333 rfl) lw_l_77 sw_tick iw_l cw_tick (by decide) (by decide +kernel) (g_ftl rfl hc1 hc2) rfl rfl rfl (fun o S sg' hq => ?_)
    obtain ⟨rfl, rfl, rfl⟩ := hq
    refine ⟨_, rfl, ?_⟩
    refine G_istore (lv' := [some (.ref 4000), some (.ref 0), some (.ref 49), some (.ref 74), some (gi i), some (gi 0), none]) (g_da dt_law 334 rfl) (Nat.le_of_ble_eq_true rfl) rfl rfl ?_
    refine G_aload_n (g_da dt_law 335 rfl) rfl rfl ?_
    refine G_aload_n (g_da dt_law 336 rfl) rfl rfl ?_
    refine G_iload (g_da dt_law 337 rfl) rfl ?_
    refine G_iconst (g_da dt_law 338 rfl) ?_
    refine G_iadd (g_da dt_law 339 rfl) ?_
    refine G_sld (g_da dt_law 340 rfl) rfl hw1 ⟨by omega, by omega⟩ ?_
    refine H_cVE (J := fun s => g_j (g_up sC1 74 0 (w32 z)) s) (M_tick_ok (g_j_m (g_up sC1 74 0 (w32 z))) e2) (g_da dt_law 341 rfl) (Or.inl lw_l_79) nv_M_tick rfl sh_49 rfl (g_ftl rfl hd1 hd2) rfl rfl rfl rfl ?_
    refine G_istore (lv' := [some (.ref 4000), some (.ref 0), some (.ref 49), some (.ref 74), some (gi i), some (gi 0), some (gi z1)]) (g_da dt_law 342 rfl) (Nat.le_of_ble_eq_true rfl) rfl rfl ?_
    refine G_aload_n (g_da dt_law 343 rfl) rfl rfl ?_
    refine H_cVE (J := fun s => g_j (g_up sC1 74 0 (w32 z)) s) (M_thrown_ok (g_j_m (g_up sC1 74 0 (w32 z))) (z0 := sM1 49 0) (s0 := sM1) rfl) (g_da dt_law 344 rfl) (Or.inl lw_l_47) nv_M_thrown rfl sh_49 rfl (g_ftl rfl hd1 hd2) rfl rfl rfl rfl ?_
    refine G_iload (g_da dt_law 345 rfl) rfl ?_
    refine G_icmp_eq (g_da dt_law 346 rfl) rfl e3 w_0 (fun _ => ?_) (fun hc => absurd rfl hc)
    refine G_iload (g_da dt_law 349 rfl) rfl ?_
    refine G_if_ne (g_da dt_law 350 rfl) rfl w_0 (fun hc => absurd rfl hc) (fun _ => ?_)
    refine G_aload_n (g_da dt_law 351 rfl) rfl rfl ?_
    refine G_iconst (g_da dt_law 352 rfl) ?_
    refine H_laload (J := fun s => g_j s sM1) (g_da dt_law 353 rfl) sh_74 (g_j_c sM1 74 rfl) w_0 ⟨by decide, by decide⟩ rfl ?_
    rw [show (g_up sC1 74 0 (w32 z)) 74 0 = w32 z by simp [g_up]]
    refine G_iload (g_da dt_law 354 rfl) rfl ?_
    refine G_i2l (g_da dt_law 355 rfl) ?_
    refine G_lcmp (g_da dt_law 356 rfl) ?_
    refine G_if_eq (g_da dt_law 357 rfl) rfl (l_cmp_0 (e4 rfl)) (fun _ => ?_) (fun hc => absurd rfl hc)
    refine G_goto (g_da dt_law 360 rfl) rfl ?_
    exact G_subK K ⟨rfl, ⟨rfl, ⟨rfl, ⟨rfl, ⟨rfl, trivial⟩⟩⟩⟩⟩
  · refine G_iS (Z := (g_S, c1, c2)) (N := M_Ltick) (as := [.ref 0, gi (g_sx r (i + 1).toNat), .ref 74]) (hh := g_hm (g_y M_Ltick)) (L_tick_2 (J := fun s => g_j s sM) (g_j_c sM) e1) rfl (Nat.le_of_ble_eq_true rfl) rfl rfl rfl (plainFor_of_name (by decide)) (g_da dt_law 333 rfl) lw_l_77 sw_tick iw_l cw_tick (by decide) (by decide +kernel) (g_ftl rfl hc1 hc2) rfl rfl rfl (fun o S sg' hq => ?_)
    obtain ⟨rfl, rfl, rfl⟩ := hq
    refine ⟨_, rfl, ?_⟩
    refine G_istore (lv' := [some (.ref 4000), some (.ref 0), some (.ref 49), some (.ref 74), some (gi i), some (gi 1), none]) (g_da dt_law 334 rfl) (Nat.le_of_ble_eq_true rfl) rfl rfl ?_
    refine G_aload_n (g_da dt_law 335 rfl) rfl rfl ?_
    refine G_aload_n (g_da dt_law 336 rfl) rfl rfl ?_
    refine G_iload (g_da dt_law 337 rfl) rfl ?_
    refine G_iconst (g_da dt_law 338 rfl) ?_
    refine G_iadd (g_da dt_law 339 rfl) ?_
    refine G_sld (g_da dt_law 340 rfl) rfl hw1 ⟨by omega, by omega⟩ ?_
    refine H_cVE (J := fun s => g_j sC1 s) (M_tick_ok (g_j_m sC1) e2) (g_da dt_law 341 rfl) (Or.inl lw_l_79) nv_M_tick rfl sh_49 rfl (g_ftl rfl hd1 hd2) rfl rfl rfl rfl ?_
    refine G_istore (lv' := [some (.ref 4000), some (.ref 0), some (.ref 49), some (.ref 74), some (gi i), some (gi 1), some (gi z1)]) (g_da dt_law 342 rfl) (Nat.le_of_ble_eq_true rfl) rfl rfl ?_
    refine G_aload_n (g_da dt_law 343 rfl) rfl rfl ?_
    refine H_cVE (J := fun s => g_j sC1 s) (M_thrown_ok (g_j_m sC1) (z0 := sM1 49 0) (s0 := sM1) rfl) (g_da dt_law 344 rfl) (Or.inl lw_l_47) nv_M_thrown rfl sh_49 rfl (g_ftl rfl hd1 hd2) rfl rfl rfl rfl ?_
    refine G_iload (g_da dt_law 345 rfl) rfl ?_
    refine G_icmp_eq (g_da dt_law 346 rfl) rfl e3 w_1 (fun _ => ?_) (fun hc => absurd rfl hc)
    refine G_iload (g_da dt_law 349 rfl) rfl ?_
    refine G_if_ne (g_da dt_law 350 rfl) rfl w_1 (fun _ => ?_) (fun hc => absurd hc (by decide))
    refine G_goto (g_da dt_law 360 rfl) rfl ?_
    exact G_subK K ⟨rfl, ⟨rfl, ⟨rfl, ⟨rfl, ⟨rfl, trivial⟩⟩⟩⟩⟩
theorem lw_l_80 : Cond.methodLink "BandPressLaw" 80 ⟨"BandPress", "stick", "(IZ)Z"⟩ ∈ g_T := (g_Tm 722 (by decide +kernel) rfl)
set_option maxHeartbeats 4000000 in
set_option maxRecDepth 100000 in
theorem nv_B_stick : g_mv M_B_stick 2 := ⟨⟨(g_Tm 89 (by decide +kernel) rfl), g_Tm 725 rfl rfl, by decide, by decide, by decide +kernel⟩, (g_Tm 723 (by decide +kernel) rfl), (g_Tm 724 (by decide +kernel) rfl)⟩
theorem lw_l_84 : Cond.methodLink "BandPressLaw" 84 ⟨"BandPressModel", "stick", "(IZ)Z"⟩ ∈ g_T := (g_Tm 1715 (by decide +kernel) rfl)
set_option maxHeartbeats 4000000 in
set_option maxRecDepth 100000 in
theorem nv_M_stick : g_mv M_M_stick 2 := ⟨⟨(g_Tm 102 (by decide +kernel) rfl), g_Tm 1718 rfl rfl, by decide, by decide, by decide +kernel⟩, (g_Tm 1716 (by decide +kernel) rfl), (g_Tm 1717 (by decide +kernel) rfl)⟩
set_option maxHeartbeats 4000000 in
set_option maxRecDepth 100000 in
theorem law_10 {r : Nat × (Nat → Int32)} {Q : gO → List gH → gS → Prop} {c1 c2 : Nat} {i : Int} {sC sM : gS} (hc1 : c1 ≤ 1103) (hc2 : c2 ≤ 59611) (hi : 0 ≤ i) (hj : i + 4 ≤ (r.1 : Int)) (hL : (r.1 : Int) ≤ 2048) (H : ∀ a0 a1 : Int, (a1 = 0 ∨ a1 = 1) → g_cl2 (g_kt r Q c1 c2 i) (B_stick a0 a1) (M_stick a0 a1) sC sM) : G (M_law r false) Q (g_S, c1, c2) (g_j sC sM) 607 [some (.ref 4000), some (.ref 0), some (.ref 49), some (.ref 74), some (gi i), none, none] [] := by
  have hw1 : w32 (i + 1) = i + 1 := w32_id (by omega) (by omega)
  have hw2 : w32 (i + 2) = i + 2 := w32_id (by omega) (by omega)
  have hw3 : w32 (i + 3) = i + 3 := w32_id (by omega) (by omega)
  refine G_aload_n (g_da dt_law 361 rfl) rfl rfl ?_
  refine G_aload_n (g_da dt_law 362 rfl) rfl rfl ?_
  refine G_iload (g_da dt_law 363 rfl) rfl ?_
  refine G_iconst (g_da dt_law 364 rfl) ?_
  refine G_iadd (g_da dt_law 365 rfl) ?_
  refine G_sld (g_da dt_law 366 rfl) rfl hw1 ⟨by omega, by omega⟩ ?_
  refine G_aload_n (g_da dt_law 367 rfl) rfl rfl ?_
  refine G_iload (g_da dt_law 368 rfl) rfl ?_
  refine G_iconst (g_da dt_law 369 rfl) ?_
  refine G_iadd (g_da dt_law 370 rfl) ?_
  refine G_sld (g_da dt_law 371 rfl) rfl hw2 ⟨by omega, by omega⟩ ?_
  refine G_if_eq (g_da dt_law 372 rfl) rfl rfl (fun hb1 => ?_) (fun hb1 => ?_)
  · refine G_iconst (g_da dt_law 375 rfl) ?_
    obtain ⟨z, z1, sC1, sM1, e1, e2, e3, K⟩ := H (g_sx r (i + 1).toNat) 0 (Or.inl rfl)
    refine H_cVE (J := fun s => g_j s sM) (B_stick_ok (g_j_c sM) e1) (g_da dt_law 376 rfl) (Or.inl lw_l_80) nv_B_stick rfl sh_0 rfl (g_ftl rfl hc1 hc2) rfl rfl rfl rfl ?_
    refine G_aload_n (g_da dt_law 377 rfl) rfl rfl ?_
    refine G_aload_n (g_da dt_law 378 rfl) rfl rfl ?_
    refine G_iload (g_da dt_law 379 rfl) rfl ?_
    refine G_iconst (g_da dt_law 380 rfl) ?_
    refine G_iadd (g_da dt_law 381 rfl) ?_
    refine G_sld (g_da dt_law 382 rfl) rfl hw1 ⟨by omega, by omega⟩ ?_
    refine G_aload_n (g_da dt_law 383 rfl) rfl rfl ?_
    refine G_iload (g_da dt_law 384 rfl) rfl ?_
    refine G_iconst (g_da dt_law 385 rfl) ?_
    refine G_iadd (g_da dt_law 386 rfl) ?_
    refine G_sld (g_da dt_law 387 rfl) rfl hw2 ⟨by omega, by omega⟩ ?_
    refine G_if_eq (g_da dt_law 388 rfl) rfl rfl (fun _ => ?_) (fun hc => absurd hb1 hc)
    refine G_iconst (g_da dt_law 391 rfl) ?_
    refine H_cVE (J := fun s => g_j sC1 s) (M_stick_ok (g_j_m sC1) e2) (g_da dt_law 392 rfl) (Or.inl lw_l_84) nv_M_stick rfl sh_49 rfl (g_ftl rfl hc1 hc2) rfl rfl rfl rfl ?_
    refine G_icmp_eq (g_da dt_law 393 rfl) rfl rfl rfl (fun _ => ?_) (fun hc => absurd e3 hc)
    exact G_subK K ⟨rfl, ⟨rfl, ⟨rfl, ⟨rfl, ⟨rfl, trivial⟩⟩⟩⟩⟩
  · refine G_iconst (g_da dt_law 373 rfl) ?_
    refine G_goto (g_da dt_law 374 rfl) rfl ?_
    obtain ⟨z, z1, sC1, sM1, e1, e2, e3, K⟩ := H (g_sx r (i + 1).toNat) 1 (Or.inr rfl)
    refine H_cVE (J := fun s => g_j s sM) (B_stick_ok (g_j_c sM) e1) (g_da dt_law 376 rfl) (Or.inl lw_l_80) nv_B_stick rfl sh_0 rfl (g_ftl rfl hc1 hc2) rfl rfl rfl rfl ?_
    refine G_aload_n (g_da dt_law 377 rfl) rfl rfl ?_
    refine G_aload_n (g_da dt_law 378 rfl) rfl rfl ?_
    refine G_iload (g_da dt_law 379 rfl) rfl ?_
    refine G_iconst (g_da dt_law 380 rfl) ?_
    refine G_iadd (g_da dt_law 381 rfl) ?_
    refine G_sld (g_da dt_law 382 rfl) rfl hw1 ⟨by omega, by omega⟩ ?_
    refine G_aload_n (g_da dt_law 383 rfl) rfl rfl ?_
    refine G_iload (g_da dt_law 384 rfl) rfl ?_
    refine G_iconst (g_da dt_law 385 rfl) ?_
    refine G_iadd (g_da dt_law 386 rfl) ?_
    refine G_sld (g_da dt_law 387 rfl) rfl hw2 ⟨by omega, by omega⟩ ?_
    refine G_if_eq (g_da dt_law 388 rfl) rfl rfl (fun hc => absurd hc hb1) (fun _ => ?_)
    refine G_iconst (g_da dt_law 389 rfl) ?_
    refine G_goto (g_da dt_law 390 rfl) rfl ?_
    refine H_cVE (J := fun s => g_j sC1 s) (M_stick_ok (g_j_m sC1) e2) (g_da dt_law 392 rfl) (Or.inl lw_l_84) nv_M_stick rfl sh_49 rfl (g_ftl rfl hc1 hc2) rfl rfl rfl rfl ?_
    refine G_icmp_eq (g_da dt_law 393 rfl) rfl rfl rfl (fun _ => ?_) (fun hc => absurd e3 hc)
    exact G_subK K ⟨rfl, ⟨rfl, ⟨rfl, ⟨rfl, ⟨rfl, trivial⟩⟩⟩⟩⟩
theorem lw_l_85 : Cond.methodLink "BandPressLaw" 85 ⟨"BandPress", "take", "(I)Z"⟩ ∈ g_T := (g_Tm 729 (by decide +kernel) rfl)
set_option maxHeartbeats 4000000 in
set_option maxRecDepth 100000 in
theorem nv_B_take : g_mv M_B_take 1 := ⟨⟨(g_Tm 89 (by decide +kernel) rfl), g_Tm 732 rfl rfl, by decide, by decide, by decide +kernel⟩, (g_Tm 730 (by decide +kernel) rfl), (g_Tm 731 (by decide +kernel) rfl)⟩
theorem lw_l_89 : Cond.methodLink "BandPressLaw" 89 ⟨"BandPressModel", "take", "(I)Z"⟩ ∈ g_T := (g_Tm 1722 (by decide +kernel) rfl)
set_option maxHeartbeats 4000000 in
set_option maxRecDepth 100000 in
theorem nv_M_take : g_mv M_M_take 1 := ⟨⟨(g_Tm 102 (by decide +kernel) rfl), g_Tm 1725 rfl rfl, by decide, by decide, by decide +kernel⟩, (g_Tm 1723 (by decide +kernel) rfl), (g_Tm 1724 (by decide +kernel) rfl)⟩
set_option maxHeartbeats 4000000 in
set_option maxRecDepth 100000 in
theorem law_11 {r : Nat × (Nat → Int32)} {Q : gO → List gH → gS → Prop} {c1 c2 : Nat} {i : Int} {sC sM : gS} (hc1 : c1 ≤ 1103) (hc2 : c2 ≤ 59611) (hi : 0 ≤ i) (hj : i + 4 ≤ (r.1 : Int)) (hL : (r.1 : Int) ≤ 2048) (H : ∀ a0 : Int, g_cl2 (g_kt r Q c1 c2 i) (B_take a0) (M_take a0) sC sM) : G (M_law r false) Q (g_S, c1, c2) (g_j sC sM) 660 [some (.ref 4000), some (.ref 0), some (.ref 49), some (.ref 74), some (gi i), none, none] [] := by
  have hw1 : w32 (i + 1) = i + 1 := w32_id (by omega) (by omega)
  have hw2 : w32 (i + 2) = i + 2 := w32_id (by omega) (by omega)
  have hw3 : w32 (i + 3) = i + 3 := w32_id (by omega) (by omega)
  refine G_aload_n (g_da dt_law 396 rfl) rfl rfl ?_
  refine G_aload_n (g_da dt_law 397 rfl) rfl rfl ?_
  refine G_iload (g_da dt_law 398 rfl) rfl ?_
  refine G_iconst (g_da dt_law 399 rfl) ?_
  refine G_iadd (g_da dt_law 400 rfl) ?_
  refine G_sld (g_da dt_law 401 rfl) rfl hw1 ⟨by omega, by omega⟩ ?_
  obtain ⟨z, z1, sC1, sM1, e1, e2, e3, K⟩ := H (g_sx r (i + 1).toNat)
  refine H_cVE (J := fun s => g_j s sM) (B_take_ok (g_j_c sM) e1) (g_da dt_law 402 rfl) (Or.inl lw_l_85) nv_B_take rfl sh_0 rfl (g_ftl rfl hc1 hc2) rfl rfl rfl rfl ?_
  refine G_aload_n (g_da dt_law 403 rfl) rfl rfl ?_
  refine G_aload_n (g_da dt_law 404 rfl) rfl rfl ?_
  refine G_iload (g_da dt_law 405 rfl) rfl ?_
  refine G_iconst (g_da dt_law 406 rfl) ?_
  refine G_iadd (g_da dt_law 407 rfl) ?_
  refine G_sld (g_da dt_law 408 rfl) rfl hw1 ⟨by omega, by omega⟩ ?_
  refine H_cVE (J := fun s => g_j sC1 s) (M_take_ok (g_j_m sC1) e2) (g_da dt_law 409 rfl) (Or.inl lw_l_89) nv_M_take rfl sh_49 rfl (g_ftl rfl hc1 hc2) rfl rfl rfl rfl ?_
  refine G_icmp_eq (g_da dt_law 410 rfl) rfl rfl rfl (fun _ => ?_) (fun hc => absurd e3 hc)
  exact G_subK K ⟨rfl, ⟨rfl, ⟨rfl, ⟨rfl, ⟨rfl, trivial⟩⟩⟩⟩⟩
theorem lw_l_90 : Cond.methodLink "BandPressLaw" 90 ⟨"BandPress", "load", "(I)I"⟩ ∈ g_T := (g_Tm 741 (by decide +kernel) rfl)
set_option maxHeartbeats 4000000 in
set_option maxRecDepth 100000 in
theorem nv_B_load : g_mv M_B_load 1 := ⟨⟨(g_Tm 89 (by decide +kernel) rfl), g_Tm 744 rfl rfl, by decide, by decide, by decide +kernel⟩, (g_Tm 742 (by decide +kernel) rfl), (g_Tm 743 (by decide +kernel) rfl)⟩
theorem lw_l_93 : Cond.methodLink "BandPressLaw" 93 ⟨"BandPressModel", "load", "(I)I"⟩ ∈ g_T := (g_Tm 1726 (by decide +kernel) rfl)
set_option maxHeartbeats 4000000 in
set_option maxRecDepth 100000 in
theorem nv_M_load : g_mv M_M_load 1 := ⟨⟨(g_Tm 102 (by decide +kernel) rfl), g_Tm 1729 rfl rfl, by decide, by decide, by decide +kernel⟩, (g_Tm 1727 (by decide +kernel) rfl), (g_Tm 1728 (by decide +kernel) rfl)⟩
set_option maxHeartbeats 4000000 in
set_option maxRecDepth 100000 in
theorem law_12 {r : Nat × (Nat → Int32)} {Q : gO → List gH → gS → Prop} {c1 c2 : Nat} {i : Int} {sC sM : gS} (hc1 : c1 ≤ 1103) (hc2 : c2 ≤ 59611) (hi : 0 ≤ i) (hj : i + 4 ≤ (r.1 : Int)) (hL : (r.1 : Int) ≤ 2048) (H : ∀ a0 : Int, g_cl2 (g_kt r Q c1 c2 i) (B_load a0) (M_load a0) sC sM) : G (M_law r false) Q (g_S, c1, c2) (g_j sC sM) 685 [some (.ref 4000), some (.ref 0), some (.ref 49), some (.ref 74), some (gi i), none, none] [] := by
  have hw1 : w32 (i + 1) = i + 1 := w32_id (by omega) (by omega)
  have hw2 : w32 (i + 2) = i + 2 := w32_id (by omega) (by omega)
  have hw3 : w32 (i + 3) = i + 3 := w32_id (by omega) (by omega)
  refine G_aload_n (g_da dt_law 413 rfl) rfl rfl ?_
  refine G_aload_n (g_da dt_law 414 rfl) rfl rfl ?_
  refine G_iload (g_da dt_law 415 rfl) rfl ?_
  refine G_iconst (g_da dt_law 416 rfl) ?_
  refine G_iadd (g_da dt_law 417 rfl) ?_
  refine G_sld (g_da dt_law 418 rfl) rfl hw1 ⟨by omega, by omega⟩ ?_
  obtain ⟨z, z1, sC1, sM1, e1, e2, e3, K⟩ := H (g_sx r (i + 1).toNat)
  refine H_cVE (J := fun s => g_j s sM) (B_load_ok (g_j_c sM) e1) (g_da dt_law 419 rfl) (Or.inl lw_l_90) nv_B_load rfl sh_0 rfl (g_ftl rfl hc1 hc2) rfl rfl rfl rfl ?_
  refine G_aload_n (g_da dt_law 420 rfl) rfl rfl ?_
  refine G_aload_n (g_da dt_law 421 rfl) rfl rfl ?_
  refine G_iload (g_da dt_law 422 rfl) rfl ?_
  refine G_iconst (g_da dt_law 423 rfl) ?_
  refine G_iadd (g_da dt_law 424 rfl) ?_
  refine G_sld (g_da dt_law 425 rfl) rfl hw1 ⟨by omega, by omega⟩ ?_
  refine H_cVE (J := fun s => g_j sC1 s) (M_load_ok (g_j_m sC1) e2) (g_da dt_law 426 rfl) (Or.inl lw_l_93) nv_M_load rfl sh_49 rfl (g_ftl rfl hc1 hc2) rfl rfl rfl rfl ?_
  refine G_icmp_eq (g_da dt_law 427 rfl) rfl rfl rfl (fun _ => ?_) (fun hc => absurd e3 hc)
  exact G_subK K ⟨rfl, ⟨rfl, ⟨rfl, ⟨rfl, ⟨rfl, trivial⟩⟩⟩⟩⟩
theorem lw_l_94 : Cond.methodLink "BandPressLaw" 94 ⟨"BandPress", "cover", "(Z)Z"⟩ ∈ g_T := (g_Tm 745 (by decide +kernel) rfl)
set_option maxHeartbeats 4000000 in
set_option maxRecDepth 100000 in
theorem nv_B_cover : g_mv M_B_cover 1 := ⟨⟨(g_Tm 89 (by decide +kernel) rfl), g_Tm 748 rfl rfl, by decide, by decide, by decide +kernel⟩, (g_Tm 746 (by decide +kernel) rfl), (g_Tm 747 (by decide +kernel) rfl)⟩
theorem lw_l_98 : Cond.methodLink "BandPressLaw" 98 ⟨"BandPressModel", "cover", "(Z)Z"⟩ ∈ g_T := (g_Tm 1730 (by decide +kernel) rfl)
set_option maxHeartbeats 4000000 in
set_option maxRecDepth 100000 in
theorem nv_M_cover : g_mv M_M_cover 1 := ⟨⟨(g_Tm 102 (by decide +kernel) rfl), g_Tm 1733 rfl rfl, by decide, by decide, by decide +kernel⟩, (g_Tm 1731 (by decide +kernel) rfl), (g_Tm 1732 (by decide +kernel) rfl)⟩
set_option maxHeartbeats 4000000 in
set_option maxRecDepth 100000 in
theorem law_13 {r : Nat × (Nat → Int32)} {Q : gO → List gH → gS → Prop} {c1 c2 : Nat} {i : Int} {sC sM : gS} (hc1 : c1 ≤ 1103) (hc2 : c2 ≤ 59611) (hi : 0 ≤ i) (hj : i + 4 ≤ (r.1 : Int)) (hL : (r.1 : Int) ≤ 2048) (H : ∀ a0 : Int, (a0 = 0 ∨ a0 = 1) → g_cl2 (g_kt r Q c1 c2 i) (B_cover a0) (M_cover a0) sC sM) : G (M_law r false) Q (g_S, c1, c2) (g_j sC sM) 710 [some (.ref 4000), some (.ref 0), some (.ref 49), some (.ref 74), some (gi i), none, none] [] := by
  have hw1 : w32 (i + 1) = i + 1 := w32_id (by omega) (by omega)
  have hw2 : w32 (i + 2) = i + 2 := w32_id (by omega) (by omega)
  have hw3 : w32 (i + 3) = i + 3 := w32_id (by omega) (by omega)
  refine G_aload_n (g_da dt_law 430 rfl) rfl rfl ?_
  refine G_aload_n (g_da dt_law 431 rfl) rfl rfl ?_
  refine G_iload (g_da dt_law 432 rfl) rfl ?_
  refine G_iconst (g_da dt_law 433 rfl) ?_
  refine G_iadd (g_da dt_law 434 rfl) ?_
  refine G_sld (g_da dt_law 435 rfl) rfl hw1 ⟨by omega, by omega⟩ ?_
  refine G_if_eq (g_da dt_law 436 rfl) rfl rfl (fun hb1 => ?_) (fun hb1 => ?_)
  · refine G_iconst (g_da dt_law 439 rfl) ?_
    obtain ⟨z, z1, sC1, sM1, e1, e2, e3, K⟩ := H 0 (Or.inl rfl)
    refine H_cVE (J := fun s => g_j s sM) (B_cover_ok (g_j_c sM) e1) (g_da dt_law 440 rfl) (Or.inl lw_l_94) nv_B_cover rfl sh_0 rfl (g_ftl rfl hc1 hc2) rfl rfl rfl rfl ?_
    refine G_aload_n (g_da dt_law 441 rfl) rfl rfl ?_
    refine G_aload_n (g_da dt_law 442 rfl) rfl rfl ?_
    refine G_iload (g_da dt_law 443 rfl) rfl ?_
    refine G_iconst (g_da dt_law 444 rfl) ?_
    refine G_iadd (g_da dt_law 445 rfl) ?_
    refine G_sld (g_da dt_law 446 rfl) rfl hw1 ⟨by omega, by omega⟩ ?_
    refine G_if_eq (g_da dt_law 447 rfl) rfl rfl (fun _ => ?_) (fun hc => absurd hb1 hc)
    refine G_iconst (g_da dt_law 450 rfl) ?_
    refine H_cVE (J := fun s => g_j sC1 s) (M_cover_ok (g_j_m sC1) e2) (g_da dt_law 451 rfl) (Or.inl lw_l_98) nv_M_cover rfl sh_49 rfl (g_ftl rfl hc1 hc2) rfl rfl rfl rfl ?_
    refine G_icmp_eq (g_da dt_law 452 rfl) rfl rfl rfl (fun _ => ?_) (fun hc => absurd e3 hc)
    exact G_subK K ⟨rfl, ⟨rfl, ⟨rfl, ⟨rfl, ⟨rfl, trivial⟩⟩⟩⟩⟩
  · refine G_iconst (g_da dt_law 437 rfl) ?_
    refine G_goto (g_da dt_law 438 rfl) rfl ?_
    obtain ⟨z, z1, sC1, sM1, e1, e2, e3, K⟩ := H 1 (Or.inr rfl)
    refine H_cVE (J := fun s => g_j s sM) (B_cover_ok (g_j_c sM) e1) (g_da dt_law 440 rfl) (Or.inl lw_l_94) nv_B_cover rfl sh_0 rfl (g_ftl rfl hc1 hc2) rfl rfl rfl rfl ?_
    refine G_aload_n (g_da dt_law 441 rfl) rfl rfl ?_
    refine G_aload_n (g_da dt_law 442 rfl) rfl rfl ?_
    refine G_iload (g_da dt_law 443 rfl) rfl ?_
    refine G_iconst (g_da dt_law 444 rfl) ?_
    refine G_iadd (g_da dt_law 445 rfl) ?_
    refine G_sld (g_da dt_law 446 rfl) rfl hw1 ⟨by omega, by omega⟩ ?_
    refine G_if_eq (g_da dt_law 447 rfl) rfl rfl (fun hc => absurd hc hb1) (fun _ => ?_)
    refine G_iconst (g_da dt_law 448 rfl) ?_
    refine G_goto (g_da dt_law 449 rfl) rfl ?_
    refine H_cVE (J := fun s => g_j sC1 s) (M_cover_ok (g_j_m sC1) e2) (g_da dt_law 451 rfl) (Or.inl lw_l_98) nv_M_cover rfl sh_49 rfl (g_ftl rfl hc1 hc2) rfl rfl rfl rfl ?_
    refine G_icmp_eq (g_da dt_law 452 rfl) rfl rfl rfl (fun _ => ?_) (fun hc => absurd e3 hc)
    exact G_subK K ⟨rfl, ⟨rfl, ⟨rfl, ⟨rfl, ⟨rfl, trivial⟩⟩⟩⟩⟩
theorem lw_l_99 : Cond.methodLink "BandPressLaw" 99 ⟨"BandPress", "section", "(II)I"⟩ ∈ g_T := (g_Tm 749 (by decide +kernel) rfl)
set_option maxHeartbeats 4000000 in
set_option maxRecDepth 100000 in
theorem nv_B_section : g_mv M_B_section 2 := ⟨⟨(g_Tm 89 (by decide +kernel) rfl), g_Tm 752 rfl rfl, by decide, by decide, by decide +kernel⟩, (g_Tm 750 (by decide +kernel) rfl), (g_Tm 751 (by decide +kernel) rfl)⟩
theorem lw_l_102 : Cond.methodLink "BandPressLaw" 102 ⟨"BandPressModel", "section", "(II)I"⟩ ∈ g_T := (g_Tm 1734 (by decide +kernel) rfl)
set_option maxHeartbeats 4000000 in
set_option maxRecDepth 100000 in
theorem nv_M_section : g_mv M_M_section 2 := ⟨⟨(g_Tm 102 (by decide +kernel) rfl), g_Tm 1737 rfl rfl, by decide, by decide, by decide +kernel⟩, (g_Tm 1735 (by decide +kernel) rfl), (g_Tm 1736 (by decide +kernel) rfl)⟩
set_option maxHeartbeats 4000000 in
set_option maxRecDepth 100000 in
theorem law_14 {r : Nat × (Nat → Int32)} {Q : gO → List gH → gS → Prop} {c1 c2 : Nat} {i : Int} {sC sM : gS} (hc1 : c1 ≤ 1103) (hc2 : c2 ≤ 59611) (hi : 0 ≤ i) (hj : i + 4 ≤ (r.1 : Int)) (hL : (r.1 : Int) ≤ 2048) (H : ∀ a0 a1 : Int, g_cl2 (g_kt r Q c1 c2 i) (B_section a0 a1) (M_section a0 a1) sC sM) : G (M_law r false) Q (g_S, c1, c2) (g_j sC sM) 751 [some (.ref 4000), some (.ref 0), some (.ref 49), some (.ref 74), some (gi i), none, none] [] := by
  have hw1 : w32 (i + 1) = i + 1 := w32_id (by omega) (by omega)
  have hw2 : w32 (i + 2) = i + 2 := w32_id (by omega) (by omega)
  have hw3 : w32 (i + 3) = i + 3 := w32_id (by omega) (by omega)
  refine G_aload_n (g_da dt_law 455 rfl) rfl rfl ?_
  refine G_aload_n (g_da dt_law 456 rfl) rfl rfl ?_
  refine G_iload (g_da dt_law 457 rfl) rfl ?_
  refine G_iconst (g_da dt_law 458 rfl) ?_
  refine G_iadd (g_da dt_law 459 rfl) ?_
  refine G_sld (g_da dt_law 460 rfl) rfl hw1 ⟨by omega, by omega⟩ ?_
  refine G_aload_n (g_da dt_law 461 rfl) rfl rfl ?_
  refine G_iload (g_da dt_law 462 rfl) rfl ?_
  refine G_iconst (g_da dt_law 463 rfl) ?_
  refine G_iadd (g_da dt_law 464 rfl) ?_
  refine G_sld (g_da dt_law 465 rfl) rfl hw2 ⟨by omega, by omega⟩ ?_
  obtain ⟨z, z1, sC1, sM1, e1, e2, e3, K⟩ := H (g_sx r (i + 1).toNat) (g_sx r (i + 2).toNat)
  refine H_cVE (J := fun s => g_j s sM) (B_section_ok (g_j_c sM) e1) (g_da dt_law 466 rfl) (Or.inl lw_l_99) nv_B_section rfl sh_0 rfl (g_ftl rfl hc1 hc2) rfl rfl rfl rfl ?_
  refine G_aload_n (g_da dt_law 467 rfl) rfl rfl ?_
  refine G_aload_n (g_da dt_law 468 rfl) rfl rfl ?_
  refine G_iload (g_da dt_law 469 rfl) rfl ?_
  refine G_iconst (g_da dt_law 470 rfl) ?_
  refine G_iadd (g_da dt_law 471 rfl) ?_
  refine G_sld (g_da dt_law 472 rfl) rfl hw1 ⟨by omega, by omega⟩ ?_
  refine G_aload_n (g_da dt_law 473 rfl) rfl rfl ?_
  refine G_iload (g_da dt_law 474 rfl) rfl ?_
  refine G_iconst (g_da dt_law 475 rfl) ?_
  refine G_iadd (g_da dt_law 476 rfl) ?_
  refine G_sld (g_da dt_law 477 rfl) rfl hw2 ⟨by omega, by omega⟩ ?_
  refine H_cVE (J := fun s => g_j sC1 s) (M_section_ok (g_j_m sC1) e2) (g_da dt_law 478 rfl) (Or.inl lw_l_102) nv_M_section rfl sh_49 rfl (g_ftl rfl hc1 hc2) rfl rfl rfl rfl ?_
  refine G_icmp_eq (g_da dt_law 479 rfl) rfl rfl rfl (fun _ => ?_) (fun hc => absurd e3 hc)
  exact G_subK K ⟨rfl, ⟨rfl, ⟨rfl, ⟨rfl, ⟨rfl, trivial⟩⟩⟩⟩⟩
theorem lw_l_103 : Cond.methodLink "BandPressLaw" 103 ⟨"BandPress", "out", "(II)I"⟩ ∈ g_T := (g_Tm 753 (by decide +kernel) rfl)
set_option maxHeartbeats 4000000 in
set_option maxRecDepth 100000 in
theorem nv_B_out : g_mv M_B_out 2 := ⟨⟨(g_Tm 89 (by decide +kernel) rfl), g_Tm 756 rfl rfl, by decide, by decide, by decide +kernel⟩, (g_Tm 754 (by decide +kernel) rfl), (g_Tm 755 (by decide +kernel) rfl)⟩
theorem lw_l_106 : Cond.methodLink "BandPressLaw" 106 ⟨"BandPressModel", "out", "(II)I"⟩ ∈ g_T := (g_Tm 1738 (by decide +kernel) rfl)
set_option maxHeartbeats 4000000 in
set_option maxRecDepth 100000 in
theorem nv_M_out1 : g_mv M_M_out1 2 := ⟨⟨(g_Tm 102 (by decide +kernel) rfl), g_Tm 1741 rfl rfl, by decide, by decide, by decide +kernel⟩, (g_Tm 1739 (by decide +kernel) rfl), (g_Tm 1740 (by decide +kernel) rfl)⟩
set_option maxHeartbeats 4000000 in
set_option maxRecDepth 100000 in
theorem law_15 {r : Nat × (Nat → Int32)} {Q : gO → List gH → gS → Prop} {c1 c2 : Nat} {i : Int} {sC sM : gS} (hc1 : c1 ≤ 1103) (hc2 : c2 ≤ 59611) (hi : 0 ≤ i) (hj : i + 4 ≤ (r.1 : Int)) (hL : (r.1 : Int) ≤ 2048) (H : ∀ a0 a1 : Int, g_cl2 (g_kt r Q c1 c2 i) (B_out a0 a1) (M_out1 a0 a1) sC sM) : G (M_law r false) Q (g_S, c1, c2) (g_j sC sM) 788 [some (.ref 4000), some (.ref 0), some (.ref 49), some (.ref 74), some (gi i), none, none] [] := by
  have hw1 : w32 (i + 1) = i + 1 := w32_id (by omega) (by omega)
  have hw2 : w32 (i + 2) = i + 2 := w32_id (by omega) (by omega)
  have hw3 : w32 (i + 3) = i + 3 := w32_id (by omega) (by omega)
  refine G_aload_n (g_da dt_law 482 rfl) rfl rfl ?_
  refine G_aload_n (g_da dt_law 483 rfl) rfl rfl ?_
  refine G_iload (g_da dt_law 484 rfl) rfl ?_
  refine G_iconst (g_da dt_law 485 rfl) ?_
  refine G_iadd (g_da dt_law 486 rfl) ?_
  refine G_sld (g_da dt_law 487 rfl) rfl hw1 ⟨by omega, by omega⟩ ?_
  refine G_aload_n (g_da dt_law 488 rfl) rfl rfl ?_
  refine G_iload (g_da dt_law 489 rfl) rfl ?_
  refine G_iconst (g_da dt_law 490 rfl) ?_
  refine G_iadd (g_da dt_law 491 rfl) ?_
  refine G_sld (g_da dt_law 492 rfl) rfl hw2 ⟨by omega, by omega⟩ ?_
  obtain ⟨z, z1, sC1, sM1, e1, e2, e3, K⟩ := H (g_sx r (i + 1).toNat) (g_sx r (i + 2).toNat)
  refine H_cVE (J := fun s => g_j s sM) (B_out_ok (g_j_c sM) e1) (g_da dt_law 493 rfl) (Or.inl lw_l_103) nv_B_out rfl sh_0 rfl (g_ftl rfl hc1 hc2) rfl rfl rfl rfl ?_
  refine G_aload_n (g_da dt_law 494 rfl) rfl rfl ?_
  refine G_aload_n (g_da dt_law 495 rfl) rfl rfl ?_
  refine G_iload (g_da dt_law 496 rfl) rfl ?_
  refine G_iconst (g_da dt_law 497 rfl) ?_
  refine G_iadd (g_da dt_law 498 rfl) ?_
  refine G_sld (g_da dt_law 499 rfl) rfl hw1 ⟨by omega, by omega⟩ ?_
  refine G_aload_n (g_da dt_law 500 rfl) rfl rfl ?_
  refine G_iload (g_da dt_law 501 rfl) rfl ?_
  refine G_iconst (g_da dt_law 502 rfl) ?_
  refine G_iadd (g_da dt_law 503 rfl) ?_
  refine G_sld (g_da dt_law 504 rfl) rfl hw2 ⟨by omega, by omega⟩ ?_
  refine H_cVE (J := fun s => g_j sC1 s) (M_out1_ok (g_j_m sC1) e2) (g_da dt_law 505 rfl) (Or.inl lw_l_106) nv_M_out1 rfl sh_49 rfl (g_ftl rfl hc1 hc2) rfl rfl rfl rfl ?_
  refine G_icmp_eq (g_da dt_law 506 rfl) rfl rfl rfl (fun _ => ?_) (fun hc => absurd e3 hc)
  exact G_subK K ⟨rfl, ⟨rfl, ⟨rfl, ⟨rfl, ⟨rfl, trivial⟩⟩⟩⟩⟩
theorem lw_l_107 : Cond.methodLink "BandPressLaw" 107 ⟨"BandPress", "press", "(I)I"⟩ ∈ g_T := (g_Tm 774 (by decide +kernel) rfl)
set_option maxHeartbeats 4000000 in
set_option maxRecDepth 100000 in
theorem nv_B_press : g_mv M_B_press 1 := ⟨⟨(g_Tm 89 (by decide +kernel) rfl), g_Tm 777 rfl rfl, by decide, by decide, by decide +kernel⟩, (g_Tm 775 (by decide +kernel) rfl), (g_Tm 776 (by decide +kernel) rfl)⟩
theorem lw_l_110 : Cond.methodLink "BandPressLaw" 110 ⟨"BandPressModel", "press", "(I)I"⟩ ∈ g_T := (g_Tm 1742 (by decide +kernel) rfl)
set_option maxHeartbeats 4000000 in
set_option maxRecDepth 100000 in
theorem nv_M_press : g_mv M_M_press 1 := ⟨⟨(g_Tm 102 (by decide +kernel) rfl), g_Tm 1745 rfl rfl, by decide, by decide, by decide +kernel⟩, (g_Tm 1743 (by decide +kernel) rfl), (g_Tm 1744 (by decide +kernel) rfl)⟩
set_option maxHeartbeats 4000000 in
set_option maxRecDepth 100000 in
theorem law_16 {r : Nat × (Nat → Int32)} {Q : gO → List gH → gS → Prop} {c1 c2 : Nat} {i : Int} {sC sM : gS} (hc1 : c1 ≤ 1103) (hc2 : c2 ≤ 59611) (hi : 0 ≤ i) (hj : i + 4 ≤ (r.1 : Int)) (hL : (r.1 : Int) ≤ 2048) (H : ∀ a0 : Int, g_cl2 (g_kt r Q c1 c2 i) (B_press a0) (M_press a0) sC sM) : G (M_law r false) Q (g_S, c1, c2) (g_j sC sM) 825 [some (.ref 4000), some (.ref 0), some (.ref 49), some (.ref 74), some (gi i), none, none] [] := by
  have hw1 : w32 (i + 1) = i + 1 := w32_id (by omega) (by omega)
  have hw2 : w32 (i + 2) = i + 2 := w32_id (by omega) (by omega)
  have hw3 : w32 (i + 3) = i + 3 := w32_id (by omega) (by omega)
  refine G_aload_n (g_da dt_law 509 rfl) rfl rfl ?_
  refine G_aload_n (g_da dt_law 510 rfl) rfl rfl ?_
  refine G_iload (g_da dt_law 511 rfl) rfl ?_
  refine G_iconst (g_da dt_law 512 rfl) ?_
  refine G_iadd (g_da dt_law 513 rfl) ?_
  refine G_sld (g_da dt_law 514 rfl) rfl hw1 ⟨by omega, by omega⟩ ?_
  obtain ⟨z, z1, sC1, sM1, e1, e2, e3, K⟩ := H (g_sx r (i + 1).toNat)
  refine H_cVE (J := fun s => g_j s sM) (B_press_ok (g_j_c sM) e1) (g_da dt_law 515 rfl) (Or.inl lw_l_107) nv_B_press rfl sh_0 rfl (g_ftl rfl hc1 hc2) rfl rfl rfl rfl ?_
  refine G_aload_n (g_da dt_law 516 rfl) rfl rfl ?_
  refine G_aload_n (g_da dt_law 517 rfl) rfl rfl ?_
  refine G_iload (g_da dt_law 518 rfl) rfl ?_
  refine G_iconst (g_da dt_law 519 rfl) ?_
  refine G_iadd (g_da dt_law 520 rfl) ?_
  refine G_sld (g_da dt_law 521 rfl) rfl hw1 ⟨by omega, by omega⟩ ?_
  refine H_cVE (J := fun s => g_j sC1 s) (M_press_ok (g_j_m sC1) e2) (g_da dt_law 522 rfl) (Or.inl lw_l_110) nv_M_press rfl sh_49 rfl (g_ftl rfl hc1 hc2) rfl rfl rfl rfl ?_
  refine G_icmp_eq (g_da dt_law 523 rfl) rfl rfl rfl (fun _ => ?_) (fun hc => absurd e3 hc)
  exact G_subK K ⟨rfl, ⟨rfl, ⟨rfl, ⟨rfl, ⟨rfl, trivial⟩⟩⟩⟩⟩
