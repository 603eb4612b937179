/-! methods and their instructions by program -/
def M_Text_init : gM := (⟨"BandPress$Text", "<init>", "()V"⟩, prog_11_method_1_code, none, 1, { frames := 1, cells := 3, slots := 608, locals := 12 }, true, true, none)
def dl_Text_init : List (Instr × Nat) := [(.aload_n 0, 1), (.invokespecial 3, 3), (.aload_n 0, 1), (.sipush 300, 3), (.newarray .int, 2), (.putfield 9, 3), (.aload_n 0, 1), (.sipush 300, 3), (.newarray .int, 2), (.putfield 15, 3), (.aload_n 0, 1), (.bipush 8, 2), (.newarray .int, 2), (.putfield 18, 3), (.return_, 1)]
set_option maxHeartbeats 4000000 in
set_option maxRecDepth 100000 in
theorem dt_Text_init : g_dc (g_b M_Text_init) 0 dl_Text_init = true := by decide +kernel
def M_Calls_init : gM := (⟨"BandPress$Calls", "<init>", "()V"⟩, prog_2_method_1_code, none, 1, { frames := 1, cells := 4, slots := 84, locals := 12 }, true, true, none)
def dl_Calls_init : List (Instr × Nat) := [(.aload_n 0, 1), (.invokespecial 3, 3), (.aload_n 0, 1), (.bipush 21, 2), (.newarray .int, 2), (.putfield 9, 3), (.aload_n 0, 1), (.bipush 21, 2), (.newarray .int, 2), (.putfield 15, 3), (.aload_n 0, 1), (.bipush 21, 2), (.newarray .int, 2), (.putfield 18, 3), (.aload_n 0, 1), (.bipush 21, 2), (.newarray .int, 2), (.putfield 21, 3), (.aload_n 0, 1), (.iconst (-1), 1), (.putfield 24, 3), (.return_, 1)]
set_option maxHeartbeats 4000000 in
set_option maxRecDepth 100000 in
theorem dt_Calls_init : g_dc (g_b M_Calls_init) 0 dl_Calls_init = true := by decide +kernel
def M_Filler_init : gM := (⟨"BandPress$Filler", "<init>", "()V"⟩, prog_3_method_1_code, none, 1, { frames := 1, cells := 2, slots := 112, locals := 12 }, true, true, none)
def dl_Filler_init : List (Instr × Nat) := [(.aload_n 0, 1), (.invokespecial 3, 3), (.aload_n 0, 1), (.bipush 48, 2), (.newarray .long, 2), (.putfield 9, 3), (.aload_n 0, 1), (.bipush 64, 2), (.newarray .int, 2), (.putfield 15, 3), (.return_, 1)]
set_option maxHeartbeats 4000000 in
set_option maxRecDepth 100000 in
theorem dt_Filler_init : g_dc (g_b M_Filler_init) 0 dl_Filler_init = true := by decide +kernel
def M_Values_init : gM := (⟨"BandPress$Values", "<init>", "()V"⟩, prog_12_method_1_code, none, 1, { frames := 1, cells := 1, slots := 32, locals := 12 }, true, true, none)
def dl_Values_init : List (Instr × Nat) := [(.aload_n 0, 1), (.invokespecial 3, 3), (.aload_n 0, 1), (.bipush 32, 2), (.newarray .int, 2), (.putfield 9, 3), (.return_, 1)]
set_option maxHeartbeats 4000000 in
set_option maxRecDepth 100000 in
theorem dt_Values_init : g_dc (g_b M_Values_init) 0 dl_Values_init = true := by decide +kernel
def M_Settings_init : gM := (⟨"BandPress$Settings", "<init>", "()V"⟩, prog_10_method_1_code, none, 1, { frames := 1, cells := 6, slots := 265, locals := 24 }, true, true, none)
def dl_Settings_init : List (Instr × Nat) := [(.aload_n 0, 1), (.invokespecial 3, 3), (.aload_n 0, 1), (.iconst 5, 1), (.newarray .int, 2), (.putfield 9, 3), (.aload_n 0, 1), (.iconst 5, 1), (.newarray .int, 2), (.putfield 15, 3), (.aload_n 0, 1), (.iconst 5, 1), (.newarray .int, 2), (.putfield 18, 3), (.aload_n 0, 1), (.iconst 5, 1), (.newarray .int, 2), (.putfield 21, 3), (.aload_n 0, 1), (.iconst 5, 1), (.newarray .int, 2), (.putfield 24, 3), (.aload_n 0, 1), (.sipush 240, 3), (.newarray .long, 2), (.putfield 27, 3), (.aload_n 0, 1), (.getfield 9, 3), (.iconst 0, 1), (.bipush 16, 2), (.iastore, 1), (.aload_n 0, 1), (.getfield 15, 3), (.iconst 0, 1), (.bipush 16, 2), (.iastore, 1), (.aload_n 0, 1), (.getfield 24, 3), (.iconst 0, 1), (.bipush 16, 2), (.iastore, 1), (.aload_n 0, 1), (.getfield 27, 3), (.ldc2_w 31, 3), (.invokestatic 33, 3), (.return_, 1)]
set_option maxHeartbeats 4000000 in
set_option maxRecDepth 100000 in
theorem dt_Settings_init : g_dc (g_b M_Settings_init) 0 dl_Settings_init = true := by decide +kernel
def M_Path_init : gM := (⟨"BandPress$Path", "<init>", "()V"⟩, prog_9_method_1_code, none, 1, { frames := 1, cells := 5, slots := 650, locals := 12 }, true, true, none)
def dl_Path_init : List (Instr × Nat) := [(.aload_n 0, 1), (.invokespecial 3, 3), (.aload_n 0, 1), (.sipush 200, 3), (.newarray .int, 2), (.putfield 9, 3), (.aload_n 0, 1), (.sipush 200, 3), (.newarray .int, 2), (.putfield 15, 3), (.aload_n 0, 1), (.sipush 200, 3), (.newarray .boolean, 2), (.putfield 18, 3), (.aload_n 0, 1), (.bipush 25, 2), (.newarray .int, 2), (.putfield 22, 3), (.aload_n 0, 1), (.bipush 25, 2), (.newarray .int, 2), (.putfield 25, 3), (.return_, 1)]
set_option maxHeartbeats 4000000 in
set_option maxRecDepth 100000 in
theorem dt_Path_init : g_dc (g_b M_Path_init) 0 dl_Path_init = true := by decide +kernel
def M_Pages_init : gM := (⟨"BandPress$Pages", "<init>", "()V"⟩, prog_8_method_1_code, none, 1, { frames := 1, cells := 2, slots := 432, locals := 12 }, true, true, none)
def dl_Pages_init : List (Instr × Nat) := [(.aload_n 0, 1), (.invokespecial 3, 3), (.aload_n 0, 1), (.sipush 384, 3), (.newarray .long, 2), (.putfield 9, 3), (.aload_n 0, 1), (.bipush 48, 2), (.newarray .long, 2), (.putfield 15, 3), (.return_, 1)]
set_option maxHeartbeats 4000000 in
set_option maxRecDepth 100000 in
theorem dt_Pages_init : g_dc (g_b M_Pages_init) 0 dl_Pages_init = true := by decide +kernel
def M_Job_init : gM := (⟨"BandPress$Job", "<init>", "()V"⟩, prog_4_method_1_code, none, 1, { frames := 2, cells := 31, slots := 2241, locals := 44 }, true, true, none)
def dl_Job_init : List (Instr × Nat) := [(.aload_n 0, 1), (.invokespecial 3, 3), (.aload_n 0, 1), (.new 9, 3), (.dup, 1), (.invokespecial 11, 3), (.putfield 12, 3), (.aload_n 0, 1), (.new 18, 3), (.dup, 1), (.invokespecial 20, 3), (.putfield 21, 3), (.aload_n 0, 1), (.new 25, 3), (.dup, 1), (.invokespecial 27, 3), (.putfield 28, 3), (.aload_n 0, 1), (.new 32, 3), (.dup, 1), (.invokespecial 34, 3), (.putfield 35, 3), (.aload_n 0, 1), (.bipush 26, 2), (.newarray .int, 2), (.putfield 39, 3), (.aload_n 0, 1), (.new 43, 3), (.dup, 1), (.invokespecial 45, 3), (.putfield 46, 3), (.aload_n 0, 1), (.new 50, 3), (.dup, 1), (.invokespecial 52, 3), (.putfield 53, 3), (.aload_n 0, 1), (.new 57, 3), (.dup, 1), (.invokespecial 59, 3), (.putfield 60, 3), (.return_, 1)]
set_option maxHeartbeats 4000000 in
set_option maxRecDepth 100000 in
theorem dt_Job_init : g_dc (g_b M_Job_init) 0 dl_Job_init = true := by decide +kernel
def M_Order_init : gM := (⟨"BandPress$Order", "<init>", "()V"⟩, prog_6_method_1_code, none, 1, { frames := 1, cells := 2, slots := 64, locals := 12 }, true, true, none)
def dl_Order_init : List (Instr × Nat) := [(.aload_n 0, 1), (.invokespecial 3, 3), (.aload_n 0, 1), (.bipush 32, 2), (.newarray .int, 2), (.putfield 9, 3), (.aload_n 0, 1), (.bipush 32, 2), (.newarray .boolean, 2), (.putfield 15, 3), (.return_, 1)]
set_option maxHeartbeats 4000000 in
set_option maxRecDepth 100000 in
theorem dt_Order_init : g_dc (g_b M_Order_init) 0 dl_Order_init = true := by decide +kernel
def M_Machine_init : gM := (⟨"BandPress$Machine", "<init>", "(LBandPress$Order;)V"⟩, prog_5_method_1_code, none, 2, { frames := 1, cells := 5, slots := 20, locals := 12 }, true, true, none)
def dl_Machine_init : List (Instr × Nat) := [(.aload_n 0, 1), (.invokespecial 3, 3), (.aload_n 0, 1), (.iconst 4, 1), (.newarray .int, 2), (.dup, 1), (.iconst 0, 1), (.iconst (-1), 1), (.iastore, 1), (.dup, 1), (.iconst 1, 1), (.iconst (-1), 1), (.iastore, 1), (.dup, 1), (.iconst 2, 1), (.iconst (-1), 1), (.iastore, 1), (.dup, 1), (.iconst 3, 1), (.iconst (-1), 1), (.iastore, 1), (.putfield 9, 3), (.aload_n 0, 1), (.iconst 4, 1), (.newarray .int, 2), (.putfield 15, 3), (.aload_n 0, 1), (.iconst 4, 1), (.newarray .boolean, 2), (.putfield 18, 3), (.aload_n 0, 1), (.iconst 4, 1), (.newarray .boolean, 2), (.putfield 22, 3), (.aload_n 0, 1), (.iconst 4, 1), (.newarray .int, 2), (.putfield 25, 3), (.aload_n 0, 1), (.aload_n 1, 1), (.putfield 28, 3), (.return_, 1)]
set_option maxHeartbeats 4000000 in
set_option maxRecDepth 100000 in
theorem dt_Machine_init : g_dc (g_b M_Machine_init) 0 dl_Machine_init = true := by decide +kernel
def M_Packer_init : gM := (⟨"BandPress$Packer", "<init>", "()V"⟩, prog_7_method_1_code, none, 1, { frames := 1, cells := 2, slots := 136, locals := 12 }, true, true, none)
def dl_Packer_init : List (Instr × Nat) := [(.aload_n 0, 1), (.invokespecial 3, 3), (.aload_n 0, 1), (.sipush 128, 3), (.newarray .int, 2), (.putfield 9, 3), (.aload_n 0, 1), (.bipush 8, 2), (.newarray .int, 2), (.putfield 15, 3), (.return_, 1)]
set_option maxHeartbeats 4000000 in
set_option maxRecDepth 100000 in
theorem dt_Packer_init : g_dc (g_b M_Packer_init) 0 dl_Packer_init = true := by decide +kernel
def M_B_init : gM := (⟨"BandPress", "<init>", "()V"⟩, prog_1_method_1_code, none, 1, { frames := 3, cells := 48, slots := 3109, locals := 64 }, true, true, none)
def dl_B_init : List (Instr × Nat) := [(.aload_n 0, 1), (.invokespecial 1, 3), (.aload_n 0, 1), (.new 7, 3), (.dup, 1), (.invokespecial 9, 3), (.putfield 10, 3), (.aload_n 0, 1), (.new 16, 3), (.dup, 1), (.invokespecial 18, 3), (.putfield 19, 3), (.aload_n 0, 1), (.new 23, 3), (.dup, 1), (.invokespecial 25, 3), (.putfield 26, 3), (.aload_n 0, 1), (.new 30, 3), (.dup, 1), (.aload_n 0, 1), (.getfield 26, 3), (.invokespecial 32, 3), (.putfield 35, 3), (.aload_n 0, 1), (.new 39, 3), (.dup, 1), (.invokespecial 41, 3), (.putfield 42, 3), (.return_, 1)]
set_option maxHeartbeats 4000000 in
set_option maxRecDepth 100000 in
theorem dt_B_init : g_dc (g_b M_B_init) 0 dl_B_init = true := by decide +kernel
def M_M_init : gM := (⟨"BandPressModel", "<init>", "()V"⟩, prog_14_method_1_code, none, 2, { frames := 1, cells := 24, slots := 48225, locals := 12 }, true, true, none)
def dl_M_init : List (Instr × Nat) := [(.aload_n 0, 1), (.invokespecial 1, 3), (.aload_n 0, 1), (.sipush 300, 3), (.newarray .int, 2), (.putfield 7, 3), (.aload_n 0, 1), (.sipush 300, 3), (.newarray .int, 2), (.putfield 13, 3), (.aload_n 0, 1), (.bipush 33, 2), (.newarray .int, 2), (.putfield 16, 3), (.aload_n 0, 1), (.bipush 26, 2), (.newarray .int, 2), (.putfield 19, 3), (.aload_n 0, 1), (.bipush 33, 2), (.newarray .boolean, 2), (.putfield 22, 3), (.aload_n 0, 1), (.bipush 22, 2), (.newarray .int, 2), (.putfield 26, 3), (.aload_n 0, 1), (.bipush 22, 2), (.newarray .int, 2), (.putfield 29, 3), (.aload_n 0, 1), (.bipush 22, 2), (.newarray .int, 2), (.putfield 32, 3), (.aload_n 0, 1), (.bipush 22, 2), (.newarray .int, 2), (.putfield 35, 3), (.aload_n 0, 1), (.sipush 200, 3), (.newarray .int, 2), (.putfield 38, 3), (.aload_n 0, 1), (.sipush 200, 3), (.newarray .int, 2), (.putfield 41, 3), (.aload_n 0, 1), (.sipush 200, 3), (.newarray .boolean, 2), (.putfield 44, 3), (.aload_n 0, 1), (.bipush 25, 2), (.newarray .int, 2), (.putfield 47, 3), (.aload_n 0, 1), (.sipush 15360, 3), (.newarray .boolean, 2), (.putfield 50, 3), (.aload_n 0, 1), (.sipush 27648, 3), (.newarray .boolean, 2), (.putfield 53, 3), (.aload_n 0, 1), (.sipush 3072, 3), (.newarray .boolean, 2), (.putfield 56, 3), (.aload_n 0, 1), (.sipush 640, 3), (.newarray .int, 2), (.putfield 59, 3), (.aload_n 0, 1), (.iconst 4, 1), (.newarray .int, 2), (.putfield 62, 3), (.aload_n 0, 1), (.iconst 4, 1), (.newarray .int, 2), (.putfield 65, 3), (.aload_n 0, 1), (.iconst 4, 1), (.newarray .int, 2), (.putfield 68, 3), (.aload_n 0, 1), (.bipush 40, 2), (.newarray .int, 2), (.putfield 71, 3), (.aload_n 0, 1), (.iconst 4, 1), (.newarray .boolean, 2), (.putfield 74, 3), (.aload_n 0, 1), (.iconst 4, 1), (.newarray .boolean, 2), (.putfield 77, 3), (.aload_n 0, 1), (.bipush 40, 2), (.newarray .boolean, 2), (.putfield 80, 3), (.iconst 0, 1), (.istore_n 1, 1), (.iload_n 1, 1), (.iconst 4, 1), (.if_icmp .ge 16, 3), (.aload_n 0, 1), (.getfield 62, 3), (.iload_n 1, 1), (.iconst (-1), 1), (.iastore, 1), (.iinc 1 1, 3), (.goto (-15), 3), (.aload_n 0, 1), (.getfield 47, 3), (.iconst 0, 1), (.bipush 16, 2), (.iastore, 1), (.aload_n 0, 1), (.getfield 47, 3), (.iconst 1, 1), (.bipush 16, 2), (.iastore, 1), (.aload_n 0, 1), (.getfield 47, 3), (.iconst 4, 1), (.bipush 16, 2), (.iastore, 1), (.return_, 1)]
set_option maxHeartbeats 4000000 in
set_option maxRecDepth 100000 in
theorem dt_M_init : g_dc (g_b M_M_init) 0 dl_M_init = true := by decide +kernel
def M_Pages_isKept : gM := (⟨"BandPress$Pages", "isKept", "(I)Z"⟩, prog_8_method_3_code, some .boolean, 2, { frames := 0, cells := 0, slots := 0, locals := 0 }, false, false, none)
def dl_Pages_isKept : List (Instr × Nat) := [(.iload_n 1, 1), (.ifCond .lt 15, 3), (.iload_n 1, 1), (.aload_n 0, 1), (.getfield 18, 3), (.if_icmp .ge 7, 3), (.iconst 1, 1), (.goto 4, 3), (.iconst 0, 1), (.ireturn, 1)]
set_option maxHeartbeats 4000000 in
set_option maxRecDepth 100000 in
theorem dt_Pages_isKept : g_dc (g_b M_Pages_isKept) 0 dl_Pages_isKept = true := by decide +kernel
def M_Pages_line : gM := (⟨"BandPress$Pages", "line", "(II)J"⟩, prog_8_method_4_code, some .long, 3, { frames := 1, cells := 0, slots := 0, locals := 21 }, false, false, none)
def dl_Pages_line : List (Instr × Nat) := [(.iload_n 2, 1), (.ifCond .lt 9, 3), (.iload_n 2, 1), (.bipush 48, 2), (.if_icmp .lt 5, 3), (.lconst 0, 1), (.lreturn, 1), (.aload_n 0, 1), (.iload_n 1, 1), (.invokevirtual 25, 3), (.ifCond .eq 17, 3), (.aload_n 0, 1), (.getfield 9, 3), (.iload_n 1, 1), (.bipush 48, 2), (.imul, 1), (.iload_n 2, 1), (.iadd, 1), (.laload, 1), (.goto 18, 3), (.iload_n 1, 1), (.iconst (-1), 1), (.if_icmp .ne 12, 3), (.aload_n 0, 1), (.getfield 15, 3), (.iload_n 2, 1), (.laload, 1), (.goto 4, 3), (.lconst 0, 1), (.lreturn, 1)]
set_option maxHeartbeats 4000000 in
set_option maxRecDepth 100000 in
theorem dt_Pages_line : g_dc (g_b M_Pages_line) 0 dl_Pages_line = true := by decide +kernel
def M_Packer_linesAlike : gM := (⟨"BandPress$Packer", "linesAlike", "(LBandPress$Pages;III)I"⟩, prog_7_method_3_code, some .int, 8, { frames := 2, cells := 0, slots := 0, locals := 43 }, false, false, none)
def dl_Packer_linesAlike : List (Instr × Nat) := [(.iload_n 2, 1), (.bipush 8, 2), (.imul, 1), (.istore 4, 2), (.iload_n 3, 1), (.ifCond .ne 7, 3), (.lconst 0, 1), (.goto 14, 3), (.aload_n 0, 1), (.iload_n 1, 1), (.iload 4, 2), (.iload_n 3, 1), (.iadd, 1), (.iconst 1, 1), (.isub, 1), (.invokevirtual 30, 3), (.lstore 5, 2), (.iload_n 3, 1), (.istore 7, 2), (.iload 7, 2), (.bipush 8, 2), (.if_icmp .ge 25, 3), (.aload_n 0, 1), (.iload_n 1, 1), (.iload 4, 2), (.iload 7, 2), (.iadd, 1), (.invokevirtual 30, 3), (.lload 5, 2), (.lcmp, 1), (.ifCond .ne 9, 3), (.iinc 7 1, 3), (.goto (-26), 3), (.iload 7, 2), (.iload_n 3, 1), (.isub, 1), (.ireturn, 1)]
set_option maxHeartbeats 4000000 in
set_option maxRecDepth 100000 in
theorem dt_Packer_linesAlike : g_dc (g_b M_Packer_linesAlike) 0 dl_Packer_linesAlike = true := by decide +kernel
def M_Packer_add : gM := (⟨"BandPress$Packer", "add", "(I)V"⟩, prog_7_method_7_code, none, 2, { frames := 0, cells := 0, slots := 0, locals := 0 }, false, false, none)
def dl_Packer_add : List (Instr × Nat) := [(.aload_n 0, 1), (.getfield 18, 3), (.sipush 128, 3), (.if_icmp .ge 23, 3), (.aload_n 0, 1), (.getfield 9, 3), (.aload_n 0, 1), (.getfield 18, 3), (.iload_n 1, 1), (.iastore, 1), (.aload_n 0, 1), (.dup, 1), (.getfield 18, 3), (.iconst 1, 1), (.iadd, 1), (.putfield 18, 3), (.return_, 1)]
set_option maxHeartbeats 4000000 in
set_option maxRecDepth 100000 in
theorem dt_Packer_add : g_dc (g_b M_Packer_add) 0 dl_Packer_add = true := by decide +kernel
def M_Math_max : gM := (⟨"java/lang/Math", "max", "(II)I"⟩, prog_20_method_65_code, some .int, 2, { frames := 0, cells := 0, slots := 0, locals := 0 }, false, false, none)
def dl_Math_max : List (Instr × Nat) := [(.iload_n 0, 1), (.iload_n 1, 1), (.if_icmp .lt 7, 3), (.iload_n 0, 1), (.goto 4, 3), (.iload_n 1, 1), (.ireturn, 1)]
set_option maxHeartbeats 4000000 in
set_option maxRecDepth 100000 in
theorem dt_Math_max : g_dc (g_b M_Math_max) 0 dl_Math_max = true := by decide +kernel
def M_Packer_octetsAlike : gM := (⟨"BandPress$Packer", "octetsAlike", "(I)I"⟩, prog_7_method_5_code, some .int, 3, { frames := 0, cells := 0, slots := 0, locals := 0 }, false, false, none)
def dl_Packer_octetsAlike : List (Instr × Nat) := [(.iload_n 1, 1), (.istore_n 2, 1), (.iload_n 2, 1), (.bipush 8, 2), (.if_icmp .ge 24, 3), (.aload_n 0, 1), (.getfield 15, 3), (.iload_n 2, 1), (.iaload, 1), (.aload_n 0, 1), (.getfield 15, 3), (.iload_n 1, 1), (.iaload, 1), (.if_icmp .ne 9, 3), (.iinc 2 1, 3), (.goto (-24), 3), (.iload_n 2, 1), (.iload_n 1, 1), (.isub, 1), (.ireturn, 1)]
set_option maxHeartbeats 4000000 in
set_option maxRecDepth 100000 in
theorem dt_Packer_octetsAlike : g_dc (g_b M_Packer_octetsAlike) 0 dl_Packer_octetsAlike = true := by decide +kernel
def M_Packer_octetsApart : gM := (⟨"BandPress$Packer", "octetsApart", "(I)I"⟩, prog_7_method_6_code, some .int, 3, { frames := 1, cells := 0, slots := 0, locals := 22 }, false, false, none)
def dl_Packer_octetsApart : List (Instr × Nat) := [(.iload_n 1, 1), (.istore_n 2, 1), (.iload_n 2, 1), (.bipush 8, 2), (.if_icmp .ge 18, 3), (.aload_n 0, 1), (.iload_n 2, 1), (.invokevirtual 46, 3), (.iconst 2, 1), (.if_icmp .ge 9, 3), (.iinc 2 1, 3), (.goto (-18), 3), (.iload_n 2, 1), (.iload_n 1, 1), (.isub, 1), (.ireturn, 1)]
set_option maxHeartbeats 4000000 in
set_option maxRecDepth 100000 in
theorem dt_Packer_octetsApart : g_dc (g_b M_Packer_octetsApart) 0 dl_Packer_octetsApart = true := by decide +kernel
def M_Packer_packLine : gM := (⟨"BandPress$Packer", "packLine", "(J)V"⟩, prog_7_method_4_code, none, 6, { frames := 2, cells := 0, slots := 0, locals := 44 }, false, false, none)
def dl_Packer_packLine : List (Instr × Nat) := [(.iconst 0, 1), (.istore_n 3, 1), (.iload_n 3, 1), (.bipush 8, 2), (.if_icmp .ge 29, 3), (.aload_n 0, 1), (.getfield 15, 3), (.iload_n 3, 1), (.lload_n 1, 1), (.bipush 8, 2), (.bipush 7, 2), (.iload_n 3, 1), (.isub, 1), (.imul, 1), (.lushr, 1), (.l2i, 1), (.sipush 255, 3), (.iand, 1), (.iastore, 1), (.iinc 3 1, 3), (.goto (-29), 3), (.iconst 0, 1), (.istore_n 3, 1), (.iconst 0, 1), (.istore 4, 2), (.iload 4, 2), (.bipush 8, 2), (.if_icmp .ge 93, 3), (.aload_n 0, 1), (.iload 4, 2), (.invokevirtual 46, 3), (.istore_n 3, 1), (.iload_n 3, 1), (.iconst 1, 1), (.if_icmp .le 26, 3), (.aload_n 0, 1), (.sipush 128, 3), (.iload_n 3, 1), (.iadd, 1), (.invokevirtual 26, 3), (.aload_n 0, 1), (.aload_n 0, 1), (.getfield 15, 3), (.iload 4, 2), (.iaload, 1), (.invokevirtual 26, 3), (.goto 45, 3), (.aload_n 0, 1), (.iload 4, 2), (.invokevirtual 50, 3), (.istore_n 3, 1), (.aload_n 0, 1), (.iload_n 3, 1), (.invokevirtual 26, 3), (.iload 4, 2), (.istore 5, 2), (.iload 5, 2), (.iload 4, 2), (.iload_n 3, 1), (.iadd, 1), (.if_icmp .ge 20, 3), (.aload_n 0, 1), (.aload_n 0, 1), (.getfield 15, 3), (.iload 5, 2), (.iaload, 1), (.invokevirtual 26, 3), (.iinc 5 1, 3), (.goto (-23), 3), (.iload 4, 2), (.iconst 1, 1), (.iload_n 3, 1), (.invokestatic 40, 3), (.iadd, 1), (.istore 4, 2), (.goto (-94), 3), (.return_, 1)]
set_option maxHeartbeats 4000000 in
set_option maxRecDepth 100000 in
theorem dt_Packer_packLine : g_dc (g_b M_Packer_packLine) 0 dl_Packer_packLine = true := by decide +kernel
def M_Packer_pack : gM := (⟨"BandPress$Packer", "pack", "(LBandPress$Pages;II)V"⟩, prog_7_method_2_code, none, 6, { frames := 3, cells := 0, slots := 0, locals := 70 }, false, false, none)
def dl_Packer_pack : List (Instr × Nat) := [(.aload_n 0, 1), (.iconst 0, 1), (.putfield 18, 3), (.iconst 0, 1), (.istore 4, 2), (.iconst 0, 1), (.istore 5, 2), (.iload 5, 2), (.bipush 8, 2), (.if_icmp .ge 61, 3), (.aload_n 1, 1), (.iload_n 2, 1), (.iload_n 3, 1), (.iload 5, 2), (.invokestatic 22, 3), (.istore 4, 2), (.iload 4, 2), (.ifCond .le 16, 3), (.aload_n 0, 1), (.sipush 192, 3), (.iload 4, 2), (.iadd, 1), (.invokevirtual 26, 3), (.goto 19, 3), (.aload_n 0, 1), (.aload_n 1, 1), (.iload_n 2, 1), (.iload_n 3, 1), (.bipush 8, 2), (.imul, 1), (.iload 5, 2), (.iadd, 1), (.invokevirtual 30, 3), (.invokevirtual 36, 3), (.iload 5, 2), (.iconst 1, 1), (.iload 4, 2), (.invokestatic 40, 3), (.iadd, 1), (.istore 5, 2), (.goto (-62), 3), (.return_, 1)]
set_option maxHeartbeats 4000000 in
set_option maxRecDepth 100000 in
theorem dt_Packer_pack : g_dc (g_b M_Packer_pack) 0 dl_Packer_pack = true := by decide +kernel
def M_B_band : gM := (⟨"BandPress", "band", "(II)I"⟩, prog_1_method_9_code, some .int, 3, { frames := 4, cells := 0, slots := 0, locals := 95 }, false, false, none)
def dl_B_band : List (Instr × Nat) := [(.aload_n 0, 1), (.getfield 19, 3), (.getfield 83, 3), (.iload_n 1, 1), (.invokevirtual 152, 3), (.ifCond .eq 13, 3), (.iload_n 2, 1), (.ifCond .lt 9, 3), (.iload_n 2, 1), (.bipush 6, 2), (.if_icmp .lt 5, 3), (.iconst (-1), 1), (.ireturn, 1), (.aload_n 0, 1), (.getfield 42, 3), (.aload_n 0, 1), (.getfield 19, 3), (.getfield 83, 3), (.iload_n 1, 1), (.iload_n 2, 1), (.invokevirtual 156, 3), (.aload_n 0, 1), (.getfield 42, 3), (.getfield 160, 3), (.ireturn, 1)]
set_option maxHeartbeats 4000000 in
set_option maxRecDepth 100000 in
theorem dt_B_band : g_dc (g_b M_B_band) 0 dl_B_band = true := by decide +kernel
def M_B_cover : gM := (⟨"BandPress", "cover", "(Z)Z"⟩, prog_1_method_15_code, some .boolean, 3, { frames := 0, cells := 0, slots := 0, locals := 0 }, false, false, none)
def dl_B_cover : List (Instr × Nat) := [(.aload_n 0, 1), (.getfield 35, 3), (.getfield 182, 3), (.iload_n 1, 1), (.if_icmp .eq 7, 3), (.iconst 1, 1), (.goto 4, 3), (.iconst 0, 1), (.istore_n 2, 1), (.aload_n 0, 1), (.getfield 35, 3), (.iload_n 1, 1), (.putfield 182, 3), (.iload_n 2, 1), (.ireturn, 1)]
set_option maxHeartbeats 4000000 in
set_option maxRecDepth 100000 in
theorem dt_B_cover : g_dc (g_b M_B_cover) 0 dl_B_cover = true := by decide +kernel
def M_Settings_greyNow : gM := (⟨"BandPress$Settings", "greyNow", "()I"⟩, prog_10_method_12_code, some .int, 1, { frames := 0, cells := 0, slots := 0, locals := 0 }, false, false, none)
def dl_Settings_greyNow : List (Instr × Nat) := [(.aload_n 0, 1), (.getfield 24, 3), (.aload_n 0, 1), (.getfield 39, 3), (.iaload, 1), (.ireturn, 1)]
set_option maxHeartbeats 4000000 in
set_option maxRecDepth 100000 in
theorem dt_Settings_greyNow : g_dc (g_b M_Settings_greyNow) 0 dl_Settings_greyNow = true := by decide +kernel
def M_B_job : gM := (⟨"BandPress", "job", "(I)I"⟩, prog_1_method_5_code, some .int, 2, { frames := 1, cells := 0, slots := 0, locals := 20 }, false, false, none)
def dl_B_job : List (Instr × Nat) := [(.iload_n 1, 1), (.tableswitch 138 0 8 #[51, 59, 67, 75, 86, 94, 105, 116, 127], 51), (.aload_n 0, 1), (.getfield 19, 3), (.getfield 100, 3), (.ireturn, 1), (.aload_n 0, 1), (.getfield 19, 3), (.getfield 97, 3), (.ireturn, 1), (.aload_n 0, 1), (.getfield 19, 3), (.getfield 103, 3), (.ireturn, 1), (.aload_n 0, 1), (.getfield 19, 3), (.getfield 83, 3), (.getfield 87, 3), (.ireturn, 1), (.aload_n 0, 1), (.getfield 19, 3), (.getfield 106, 3), (.ireturn, 1), (.aload_n 0, 1), (.getfield 19, 3), (.getfield 83, 3), (.getfield 109, 3), (.ireturn, 1), (.aload_n 0, 1), (.getfield 19, 3), (.getfield 112, 3), (.getfield 116, 3), (.ireturn, 1), (.aload_n 0, 1), (.getfield 19, 3), (.getfield 121, 3), (.getfield 125, 3), (.ireturn, 1), (.aload_n 0, 1), (.getfield 19, 3), (.getfield 128, 3), (.invokevirtual 132, 3), (.ireturn, 1), (.iconst (-1), 1), (.ireturn, 1)]
set_option maxHeartbeats 4000000 in
set_option maxRecDepth 100000 in
theorem dt_B_job : g_dc (g_b M_B_job) 0 dl_B_job = true := by decide +kernel
def M_B_load : gM := (⟨"BandPress", "load", "(I)I"⟩, prog_1_method_14_code, some .int, 2, { frames := 0, cells := 0, slots := 0, locals := 0 }, false, false, none)
def dl_B_load : List (Instr × Nat) := [(.iload_n 1, 1), (.iconst 1, 1), (.if_icmp .lt 25, 3), (.iload_n 1, 1), (.sipush 200, 3), (.if_icmp .gt 18, 3), (.aload_n 0, 1), (.getfield 35, 3), (.getfield 179, 3), (.iload_n 1, 1), (.iadd, 1), (.sipush 500, 3), (.if_icmp .le 5, 3), (.iconst (-1), 1), (.ireturn, 1), (.aload_n 0, 1), (.getfield 35, 3), (.dup, 1), (.getfield 179, 3), (.iload_n 1, 1), (.iadd, 1), (.putfield 179, 3), (.aload_n 0, 1), (.getfield 35, 3), (.getfield 179, 3), (.ireturn, 1)]
set_option maxHeartbeats 4000000 in
set_option maxRecDepth 100000 in
theorem dt_B_load : g_dc (g_b M_B_load) 0 dl_B_load = true := by decide +kernel
def M_B_octet : gM := (⟨"BandPress", "octet", "(III)I"⟩, prog_1_method_10_code, some .int, 4, { frames := 4, cells := 0, slots := 0, locals := 95 }, false, false, none)
def dl_B_octet : List (Instr × Nat) := [(.aload_n 0, 1), (.getfield 19, 3), (.getfield 83, 3), (.iload_n 1, 1), (.invokevirtual 152, 3), (.ifCond .eq 13, 3), (.iload_n 2, 1), (.ifCond .lt 9, 3), (.iload_n 2, 1), (.bipush 6, 2), (.if_icmp .lt 5, 3), (.iconst (-1), 1), (.ireturn, 1), (.aload_n 0, 1), (.getfield 42, 3), (.aload_n 0, 1), (.getfield 19, 3), (.getfield 83, 3), (.iload_n 1, 1), (.iload_n 2, 1), (.invokevirtual 156, 3), (.iload_n 3, 1), (.ifCond .lt 14, 3), (.iload_n 3, 1), (.aload_n 0, 1), (.getfield 42, 3), (.getfield 160, 3), (.if_icmp .lt 7, 3), (.iconst (-1), 1), (.goto 12, 3), (.aload_n 0, 1), (.getfield 42, 3), (.getfield 161, 3), (.iload_n 3, 1), (.iaload, 1), (.ireturn, 1)]
set_option maxHeartbeats 4000000 in
set_option maxRecDepth 100000 in
theorem dt_B_octet : g_dc (g_b M_B_octet) 0 dl_B_octet = true := by decide +kernel
def M_Order_sides : gM := (⟨"BandPress$Order", "sides", "()I"⟩, prog_6_method_5_code, some .int, 1, { frames := 0, cells := 0, slots := 0, locals := 0 }, false, false, none)
def dl_Order_sides : List (Instr × Nat) := [(.aload_n 0, 1), (.getfield 23, 3), (.ifCond .eq 7, 3), (.iconst 2, 1), (.goto 4, 3), (.iconst 1, 1), (.ireturn, 1)]
set_option maxHeartbeats 4000000 in
set_option maxRecDepth 100000 in
theorem dt_Order_sides : g_dc (g_b M_Order_sides) 0 dl_Order_sides = true := by decide +kernel
def M_Order_firstPage : gM := (⟨"BandPress$Order", "firstPage", "(I)I"⟩, prog_6_method_9_code, some .int, 2, { frames := 1, cells := 0, slots := 0, locals := 20 }, false, false, none)
def dl_Order_firstPage : List (Instr × Nat) := [(.aload_n 0, 1), (.getfield 30, 3), (.ifCond .ne 7, 3), (.iconst 0, 1), (.goto 14, 3), (.iload_n 1, 1), (.aload_n 0, 1), (.getfield 30, 3), (.irem, 1), (.aload_n 0, 1), (.invokevirtual 49, 3), (.imul, 1), (.ireturn, 1)]
set_option maxHeartbeats 4000000 in
set_option maxRecDepth 100000 in
theorem dt_Order_firstPage : g_dc (g_b M_Order_firstPage) 0 dl_Order_firstPage = true := by decide +kernel
def M_Order_secondPage : gM := (⟨"BandPress$Order", "secondPage", "(I)I"⟩, prog_6_method_10_code, some .int, 3, { frames := 2, cells := 0, slots := 0, locals := 41 }, false, false, none)
def dl_Order_secondPage : List (Instr × Nat) := [(.aload_n 0, 1), (.iload_n 1, 1), (.invokevirtual 53, 3), (.iconst 1, 1), (.iadd, 1), (.istore_n 2, 1), (.aload_n 0, 1), (.getfield 23, 3), (.ifCond .eq 15, 3), (.iload_n 2, 1), (.aload_n 0, 1), (.getfield 27, 3), (.if_icmp .ge 7, 3), (.iload_n 2, 1), (.goto 4, 3), (.iconst (-1), 1), (.ireturn, 1)]
set_option maxHeartbeats 4000000 in
set_option maxRecDepth 100000 in
theorem dt_Order_secondPage : g_dc (g_b M_Order_secondPage) 0 dl_Order_secondPage = true := by decide +kernel
def M_Order_copyOf : gM := (⟨"BandPress$Order", "copyOf", "(I)I"⟩, prog_6_method_8_code, some .int, 2, { frames := 0, cells := 0, slots := 0, locals := 0 }, false, false, none)
def dl_Order_copyOf : List (Instr × Nat) := [(.aload_n 0, 1), (.getfield 30, 3), (.ifCond .ne 7, 3), (.iconst 0, 1), (.goto 9, 3), (.iload_n 1, 1), (.aload_n 0, 1), (.getfield 30, 3), (.idiv, 1), (.ireturn, 1)]
set_option maxHeartbeats 4000000 in
set_option maxRecDepth 100000 in
theorem dt_Order_copyOf : g_dc (g_b M_Order_copyOf) 0 dl_Order_copyOf = true := by decide +kernel
def M_B_out : gM := (⟨"BandPress", "out", "(II)I"⟩, prog_1_method_17_code, some .int, 4, { frames := 3, cells := 0, slots := 0, locals := 63 }, false, false, none)
def dl_B_out : List (Instr × Nat) := [(.iload_n 1, 1), (.ifCond .lt 14, 3), (.iload_n 1, 1), (.aload_n 0, 1), (.getfield 26, 3), (.getfield 192, 3), (.if_icmp .lt 5, 3), (.iconst (-1), 1), (.ireturn, 1), (.aload_n 0, 1), (.getfield 26, 3), (.getfield 195, 3), (.iload_n 1, 1), (.iaload, 1), (.istore_n 3, 1), (.iload_n 2, 1), (.tableswitch 61 0 3 #[32, 34, 43, 52], 32), (.iload_n 3, 1), (.ireturn, 1), (.aload_n 0, 1), (.getfield 26, 3), (.iload_n 3, 1), (.invokevirtual 198, 3), (.ireturn, 1), (.aload_n 0, 1), (.getfield 26, 3), (.iload_n 3, 1), (.invokevirtual 201, 3), (.ireturn, 1), (.aload_n 0, 1), (.getfield 26, 3), (.iload_n 3, 1), (.invokevirtual 204, 3), (.ireturn, 1), (.iconst (-1), 1), (.ireturn, 1)]
set_option maxHeartbeats 4000000 in
set_option maxRecDepth 100000 in
theorem dt_B_out : g_dc (g_b M_B_out) 0 dl_B_out = true := by decide +kernel
def M_B_pixel : gM := (⟨"BandPress", "pixel", "(III)Z"⟩, prog_1_method_8_code, some .boolean, 4, { frames := 2, cells := 0, slots := 0, locals := 43 }, false, false, none)
def dl_B_pixel : List (Instr × Nat) := [(.iload_n 2, 1), (.ifCond .lt 19, 3), (.iload_n 2, 1), (.bipush 64, 2), (.if_icmp .ge 13, 3), (.iload_n 3, 1), (.ifCond .lt 9, 3), (.iload_n 3, 1), (.bipush 48, 2), (.if_icmp .lt 5, 3), (.iconst 0, 1), (.ireturn, 1), (.aload_n 0, 1), (.getfield 19, 3), (.getfield 83, 3), (.iload_n 1, 1), (.iload_n 3, 1), (.invokevirtual 148, 3), (.bipush 63, 2), (.iload_n 2, 1), (.isub, 1), (.lushr, 1), (.lconst 1, 1), (.land, 1), (.lconst 0, 1), (.lcmp, 1), (.ifCond .eq 7, 3), (.iconst 1, 1), (.goto 4, 3), (.iconst 0, 1), (.ireturn, 1)]
set_option maxHeartbeats 4000000 in
set_option maxRecDepth 100000 in
theorem dt_B_pixel : g_dc (g_b M_B_pixel) 0 dl_B_pixel = true := by decide +kernel
def M_Order_left : gM := (⟨"BandPress$Order", "left", "()I"⟩, prog_6_method_4_code, some .int, 1, { frames := 0, cells := 0, slots := 0, locals := 0 }, false, false, none)
def dl_Order_left : List (Instr × Nat) := [(.aload_n 0, 1), (.getfield 33, 3), (.aload_n 0, 1), (.getfield 36, 3), (.isub, 1), (.ireturn, 1)]
set_option maxHeartbeats 4000000 in
set_option maxRecDepth 100000 in
theorem dt_Order_left : g_dc (g_b M_Order_left) 0 dl_Order_left = true := by decide +kernel
def M_Machine_inside : gM := (⟨"BandPress$Machine", "inside", "()I"⟩, prog_5_method_16_code, some .int, 3, { frames := 0, cells := 0, slots := 0, locals := 0 }, false, false, none)
def dl_Machine_inside : List (Instr × Nat) := [(.iconst 0, 1), (.istore_n 1, 1), (.iconst 0, 1), (.istore_n 2, 1), (.iload_n 2, 1), (.iconst 4, 1), (.if_icmp .ge 27, 3), (.iload_n 1, 1), (.aload_n 0, 1), (.getfield 9, 3), (.iload_n 2, 1), (.iaload, 1), (.iconst (-1), 1), (.if_icmp .ne 7, 3), (.iconst 0, 1), (.goto 4, 3), (.iconst 1, 1), (.iadd, 1), (.istore_n 1, 1), (.iinc 2 1, 3), (.goto (-26), 3), (.iload_n 1, 1), (.ireturn, 1)]
set_option maxHeartbeats 4000000 in
set_option maxRecDepth 100000 in
theorem dt_Machine_inside : g_dc (g_b M_Machine_inside) 0 dl_Machine_inside = true := by decide +kernel
def M_Machine_state : gM := (⟨"BandPress$Machine", "state", "()I"⟩, prog_5_method_3_code, some .int, 1, { frames := 1, cells := 0, slots := 0, locals := 22 }, false, false, none)
def dl_Machine_state : List (Instr × Nat) := [(.aload_n 0, 1), (.getfield 32, 3), (.ifCond .eq 5, 3), (.iconst 5, 1), (.ireturn, 1), (.aload_n 0, 1), (.getfield 36, 3), (.ifCond .eq 5, 3), (.iconst 3, 1), (.ireturn, 1), (.aload_n 0, 1), (.getfield 28, 3), (.invokevirtual 39, 3), (.ifCond .ne 5, 3), (.iconst 0, 1), (.ireturn, 1), (.aload_n 0, 1), (.invokevirtual 45, 3), (.ifCond .ne 12, 3), (.aload_n 0, 1), (.getfield 48, 3), (.ifCond .ne 5, 3), (.iconst 4, 1), (.ireturn, 1), (.aload_n 0, 1), (.getfield 52, 3), (.bipush 80, 2), (.if_icmp .ge 7, 3), (.iconst 1, 1), (.goto 4, 3), (.iconst 2, 1), (.ireturn, 1)]
set_option maxHeartbeats 4000000 in
set_option maxRecDepth 100000 in
theorem dt_Machine_state : g_dc (g_b M_Machine_state) 0 dl_Machine_state = true := by decide +kernel
def M_B_press : gM := (⟨"BandPress", "press", "(I)I"⟩, prog_1_method_18_code, some .int, 2, { frames := 2, cells := 0, slots := 0, locals := 42 }, false, false, none)
def dl_B_press : List (Instr × Nat) := [(.iload_n 1, 1), (.tableswitch 99 0 6 #[43, 51, 59, 67, 75, 83, 91], 43), (.aload_n 0, 1), (.getfield 35, 3), (.invokevirtual 167, 3), (.ireturn, 1), (.aload_n 0, 1), (.getfield 35, 3), (.getfield 207, 3), (.ireturn, 1), (.aload_n 0, 1), (.getfield 35, 3), (.getfield 179, 3), (.ireturn, 1), (.aload_n 0, 1), (.getfield 26, 3), (.getfield 192, 3), (.ireturn, 1), (.aload_n 0, 1), (.getfield 26, 3), (.getfield 210, 3), (.ireturn, 1), (.aload_n 0, 1), (.getfield 35, 3), (.getfield 213, 3), (.ireturn, 1), (.aload_n 0, 1), (.getfield 35, 3), (.getfield 216, 3), (.ireturn, 1), (.iconst (-1), 1), (.ireturn, 1)]
set_option maxHeartbeats 4000000 in
set_option maxRecDepth 100000 in
theorem dt_B_press : g_dc (g_b M_B_press) 0 dl_B_press = true := by decide +kernel
def M_Job_isUnderWay : gM := (⟨"BandPress$Job", "isUnderWay", "()Z"⟩, prog_4_method_2_code, some .boolean, 1, { frames := 0, cells := 0, slots := 0, locals := 0 }, false, false, none)
def dl_Job_isUnderWay : List (Instr × Nat) := [(.aload_n 0, 1), (.getfield 64, 3), (.iconst 1, 1), (.if_icmp .ne 7, 3), (.iconst 1, 1), (.goto 4, 3), (.iconst 0, 1), (.ireturn, 1)]
set_option maxHeartbeats 4000000 in
set_option maxRecDepth 100000 in
theorem dt_Job_isUnderWay : g_dc (g_b M_Job_isUnderWay) 0 dl_Job_isUnderWay = true := by decide +kernel
def M_Calls_isOver : gM := (⟨"BandPress$Calls", "isOver", "()Z"⟩, prog_2_method_4_code, some .boolean, 1, { frames := 0, cells := 0, slots := 0, locals := 0 }, false, false, none)
def dl_Calls_isOver : List (Instr × Nat) := [(.aload_n 0, 1), (.getfield 24, 3), (.ifCond .ge 7, 3), (.iconst 1, 1), (.goto 4, 3), (.iconst 0, 1), (.ireturn, 1)]
set_option maxHeartbeats 4000000 in
set_option maxRecDepth 100000 in
theorem dt_Calls_isOver : g_dc (g_b M_Calls_isOver) 0 dl_Calls_isOver = true := by decide +kernel
def M_Job_endIfOver : gM := (⟨"BandPress$Job", "endIfOver", "()V"⟩, prog_4_method_4_code, none, 1, { frames := 1, cells := 0, slots := 0, locals := 20 }, false, false, none)
def dl_Job_endIfOver : List (Instr × Nat) := [(.aload_n 0, 1), (.getfield 21, 3), (.invokevirtual 104, 3), (.ifCond .eq 8, 3), (.aload_n 0, 1), (.iconst 2, 1), (.putfield 64, 3), (.return_, 1)]
set_option maxHeartbeats 4000000 in
set_option maxRecDepth 100000 in
theorem dt_Job_endIfOver : g_dc (g_b M_Job_endIfOver) 0 dl_Job_endIfOver = true := by decide +kernel
def M_Calls_place : gM := (⟨"BandPress$Calls", "place", "()I"⟩, prog_2_method_6_code, some .int, 1, { frames := 0, cells := 0, slots := 0, locals := 0 }, false, false, none)
def dl_Calls_place : List (Instr × Nat) := [(.aload_n 0, 1), (.getfield 24, 3), (.ifCond .ge 7, 3), (.iconst 0, 1), (.goto 12, 3), (.aload_n 0, 1), (.getfield 9, 3), (.aload_n 0, 1), (.getfield 24, 3), (.iaload, 1), (.ireturn, 1)]
set_option maxHeartbeats 4000000 in
set_option maxRecDepth 100000 in
theorem dt_Calls_place : g_dc (g_b M_Calls_place) 0 dl_Calls_place = true := by decide +kernel
def M_Text_sign : gM := (⟨"BandPress$Text", "sign", "(I)I"⟩, prog_11_method_6_code, some .int, 2, { frames := 0, cells := 0, slots := 0, locals := 0 }, false, false, none)
def dl_Text_sign : List (Instr × Nat) := [(.iload_n 1, 1), (.ifCond .lt 11, 3), (.iload_n 1, 1), (.aload_n 0, 1), (.getfield 21, 3), (.if_icmp .lt 8, 3), (.bipush 32, 2), (.goto 9, 3), (.aload_n 0, 1), (.getfield 9, 3), (.iload_n 1, 1), (.iaload, 1), (.ireturn, 1)]
set_option maxHeartbeats 4000000 in
set_option maxRecDepth 100000 in
theorem dt_Text_sign : g_dc (g_b M_Text_sign) 0 dl_Text_sign = true := by decide +kernel
def M_Job_needs : gM := (⟨"BandPress$Job", "needs", "(I)I"⟩, prog_4_method_7_code, some .int, 1, { frames := 0, cells := 0, slots := 0, locals := 0 }, false, false, none)
def dl_Job_needs : List (Instr × Nat) := [(.iload_n 0, 1), (.tableswitch 384 37 126 #[377, 384, 384, 384, 384, 377, 377, 384, 377, 384, 377, 384, 384, 384, 384, 384, 384, 384, 384, 384, 384, 375, 384, 377, 377, 384, 379, 384, 384, 384, 381, 375, 384, 384, 375, 384, 384, 384, 384, 377, 377, 384, 375, 384, 384, 377, 377, 377, 384, 384, 384, 377, 384, 384, 384, 384, 384, 384, 384, 384, 384, 384, 384, 384, 384, 384, 384, 384, 384, 384, 384, 384, 384, 384, 384, 384, 384, 384, 384, 384, 384, 384, 384, 384, 384, 384, 384, 384, 384, 375], 375), (.iconst 1, 1), (.ireturn, 1), (.iconst 2, 1), (.ireturn, 1), (.iconst 3, 1), (.ireturn, 1), (.bipush 6, 2), (.ireturn, 1), (.iconst 0, 1), (.ireturn, 1)]
set_option maxHeartbeats 4000000 in
set_option maxRecDepth 100000 in
theorem dt_Job_needs : g_dc (g_b M_Job_needs) 0 dl_Job_needs = true := by decide +kernel
def M_Values_peek : gM := (⟨"BandPress$Values", "peek", "(I)I"⟩, prog_12_method_4_code, some .int, 2, { frames := 0, cells := 0, slots := 0, locals := 0 }, false, false, none)
def dl_Values_peek : List (Instr × Nat) := [(.iload_n 1, 1), (.ifCond .lt 11, 3), (.iload_n 1, 1), (.aload_n 0, 1), (.getfield 15, 3), (.if_icmp .lt 7, 3), (.iconst 0, 1), (.goto 16, 3), (.aload_n 0, 1), (.getfield 9, 3), (.aload_n 0, 1), (.getfield 15, 3), (.iconst 1, 1), (.isub, 1), (.iload_n 1, 1), (.isub, 1), (.iaload, 1), (.ireturn, 1)]
set_option maxHeartbeats 4000000 in
set_option maxRecDepth 100000 in
theorem dt_Values_peek : g_dc (g_b M_Values_peek) 0 dl_Values_peek = true := by decide +kernel
def M_Values_isProcedure : gM := (⟨"BandPress$Values", "isProcedure", "(I)Z"⟩, prog_12_method_3_code, some .boolean, 2, { frames := 1, cells := 0, slots := 0, locals := 21 }, false, false, none)
def dl_Values_isProcedure : List (Instr × Nat) := [(.aload_n 0, 1), (.iload_n 1, 1), (.invokevirtual 19, 3), (.ldc 23, 2), (.if_icmp .lt 7, 3), (.iconst 1, 1), (.goto 4, 3), (.iconst 0, 1), (.ireturn, 1)]
set_option maxHeartbeats 4000000 in
set_option maxRecDepth 100000 in
theorem dt_Values_isProcedure : g_dc (g_b M_Values_isProcedure) 0 dl_Values_isProcedure = true := by decide +kernel
def M_Job_kindsFit : gM := (⟨"BandPress$Job", "kindsFit", "(II)Z"⟩, prog_4_method_8_code, some .boolean, 5, { frames := 2, cells := 0, slots := 0, locals := 42 }, false, false, none)
def dl_Job_kindsFit : List (Instr × Nat) := [(.iload_n 1, 1), (.bipush 68, 2), (.if_icmp .eq 15, 3), (.iload_n 1, 1), (.bipush 88, 2), (.if_icmp .eq 9, 3), (.iload_n 1, 1), (.bipush 79, 2), (.if_icmp .ne 5, 3), (.iconst 1, 1), (.ireturn, 1), (.iload_n 1, 1), (.bipush 63, 2), (.if_icmp .ne 7, 3), (.iconst 2, 1), (.goto 14, 3), (.iload_n 1, 1), (.bipush 82, 2), (.if_icmp .ne 7, 3), (.iconst 1, 1), (.goto 4, 3), (.iconst 0, 1), (.istore_n 3, 1), (.iconst 0, 1), (.istore 4, 2), (.iload 4, 2), (.iload_n 2, 1), (.if_icmp .ge 34, 3), (.aload_n 0, 1), (.getfield 35, 3), (.iload 4, 2), (.invokevirtual 171, 3), (.iload 4, 2), (.iload_n 3, 1), (.if_icmp .ge 7, 3), (.iconst 1, 1), (.goto 4, 3), (.iconst 0, 1), (.if_icmp .eq 5, 3), (.iconst 0, 1), (.ireturn, 1), (.iinc 4 1, 3), (.goto (-34), 3), (.iconst 1, 1), (.ireturn, 1)]
set_option maxHeartbeats 4000000 in
set_option maxRecDepth 100000 in
theorem dt_Job_kindsFit : g_dc (g_b M_Job_kindsFit) 0 dl_Job_kindsFit = true := by decide +kernel
def M_Math_floorDiv : gM := (⟨"java/lang/Math", "floorDiv", "(JJ)J"⟩, prog_20_method_49_code, some .long, 6, { frames := 0, cells := 0, slots := 0, locals := 0 }, false, false, none)
def dl_Math_floorDiv : List (Instr × Nat) := [(.lload_n 0, 1), (.lload_n 2, 1), (.ldiv, 1), (.lstore 4, 2), (.lload_n 0, 1), (.lload_n 2, 1), (.lxor, 1), (.lconst 0, 1), (.lcmp, 1), (.ifCond .ge 17, 3), (.lload 4, 2), (.lload_n 2, 1), (.lmul, 1), (.lload_n 0, 1), (.lcmp, 1), (.ifCond .eq 8, 3), (.lload 4, 2), (.lconst 1, 1), (.lsub, 1), (.lreturn, 1), (.lload 4, 2), (.lreturn, 1)]
set_option maxHeartbeats 4000000 in
set_option maxRecDepth 100000 in
theorem dt_Math_floorDiv : g_dc (g_b M_Math_floorDiv) 0 dl_Math_floorDiv = true := by decide +kernel
def M_Settings_stretchedX : gM := (⟨"BandPress$Settings", "stretchedX", "(I)J"⟩, prog_10_method_6_code, some .long, 2, { frames := 1, cells := 0, slots := 0, locals := 25 }, false, false, none)
def dl_Settings_stretchedX : List (Instr × Nat) := [(.aload_n 0, 1), (.getfield 9, 3), (.aload_n 0, 1), (.getfield 39, 3), (.iaload, 1), (.i2l, 1), (.iload_n 1, 1), (.i2l, 1), (.lmul, 1), (.ldc2_w 49, 3), (.invokestatic 51, 3), (.lreturn, 1)]
set_option maxHeartbeats 4000000 in
set_option maxRecDepth 100000 in
theorem dt_Settings_stretchedX : g_dc (g_b M_Settings_stretchedX) 0 dl_Settings_stretchedX = true := by decide +kernel
def M_Math_abs : gM := (⟨"java/lang/Math", "abs", "(J)J"⟩, prog_20_method_61_code, some .long, 2, { frames := 0, cells := 0, slots := 0, locals := 0 }, false, false, none)
def dl_Math_abs : List (Instr × Nat) := [(.lload_n 0, 1), (.lconst 0, 1), (.lcmp, 1), (.ifCond .ge 8, 3), (.lload_n 0, 1), (.lneg, 1), (.goto 4, 3), (.lload_n 0, 1), (.lreturn, 1)]
set_option maxHeartbeats 4000000 in
set_option maxRecDepth 100000 in
theorem dt_Math_abs : g_dc (g_b M_Math_abs) 0 dl_Math_abs = true := by decide +kernel
def M_Settings_stretchedY : gM := (⟨"BandPress$Settings", "stretchedY", "(I)J"⟩, prog_10_method_7_code, some .long, 2, { frames := 1, cells := 0, slots := 0, locals := 25 }, false, false, none)
def dl_Settings_stretchedY : List (Instr × Nat) := [(.aload_n 0, 1), (.getfield 15, 3), (.aload_n 0, 1), (.getfield 39, 3), (.iaload, 1), (.i2l, 1), (.iload_n 1, 1), (.i2l, 1), (.lmul, 1), (.ldc2_w 49, 3), (.invokestatic 51, 3), (.lreturn, 1)]
set_option maxHeartbeats 4000000 in
set_option maxRecDepth 100000 in
theorem dt_Settings_stretchedY : g_dc (g_b M_Settings_stretchedY) 0 dl_Settings_stretchedY = true := by decide +kernel
def M_Settings_placedX : gM := (⟨"BandPress$Settings", "placedX", "(I)J"⟩, prog_10_method_8_code, some .long, 2, { frames := 2, cells := 0, slots := 0, locals := 46 }, false, false, none)
def dl_Settings_placedX : List (Instr × Nat) := [(.aload_n 0, 1), (.getfield 18, 3), (.aload_n 0, 1), (.getfield 39, 3), (.iaload, 1), (.i2l, 1), (.aload_n 0, 1), (.iload_n 1, 1), (.invokevirtual 57, 3), (.ladd, 1), (.lreturn, 1)]
set_option maxHeartbeats 4000000 in
set_option maxRecDepth 100000 in
theorem dt_Settings_placedX : g_dc (g_b M_Settings_placedX) 0 dl_Settings_placedX = true := by decide +kernel
def M_Settings_placedY : gM := (⟨"BandPress$Settings", "placedY", "(I)J"⟩, prog_10_method_9_code, some .long, 2, { frames := 2, cells := 0, slots := 0, locals := 46 }, false, false, none)
def dl_Settings_placedY : List (Instr × Nat) := [(.aload_n 0, 1), (.getfield 21, 3), (.aload_n 0, 1), (.getfield 39, 3), (.iaload, 1), (.i2l, 1), (.aload_n 0, 1), (.iload_n 1, 1), (.invokevirtual 61, 3), (.ladd, 1), (.lreturn, 1)]
set_option maxHeartbeats 4000000 in
set_option maxRecDepth 100000 in
theorem dt_Settings_placedY : g_dc (g_b M_Settings_placedY) 0 dl_Settings_placedY = true := by decide +kernel
def M_Job_isFarOff : gM := (⟨"BandPress$Job", "isFarOff", "(I)Z"⟩, prog_4_method_10_code, some .boolean, 2, { frames := 3, cells := 0, slots := 0, locals := 67 }, false, false, none)
def dl_Job_isFarOff : List (Instr × Nat) := [(.aload_n 0, 1), (.getfield 46, 3), (.aload_n 0, 1), (.getfield 35, 3), (.iload_n 1, 1), (.invokevirtual 149, 3), (.invokevirtual 197, 3), (.invokestatic 178, 3), (.ldc2_w 200, 3), (.lcmp, 1), (.ifCond .gt 30, 3), (.aload_n 0, 1), (.getfield 46, 3), (.aload_n 0, 1), (.getfield 35, 3), (.iload_n 1, 1), (.iconst 1, 1), (.isub, 1), (.invokevirtual 149, 3), (.invokevirtual 202, 3), (.invokestatic 178, 3), (.ldc2_w 200, 3), (.lcmp, 1), (.ifCond .le 7, 3), (.iconst 1, 1), (.goto 4, 3), (.iconst 0, 1), (.ireturn, 1)]
set_option maxHeartbeats 4000000 in
set_option maxRecDepth 100000 in
theorem dt_Job_isFarOff : g_dc (g_b M_Job_isFarOff) 0 dl_Job_isFarOff = true := by decide +kernel
def M_Job_resultOf : gM := (⟨"BandPress$Job", "resultOf", "(I)J"⟩, prog_4_method_14_code, some .long, 6, { frames := 1, cells := 0, slots := 0, locals := 21 }, false, false, none)
def dl_Job_resultOf : List (Instr × Nat) := [(.aload_n 0, 1), (.getfield 35, 3), (.iconst 1, 1), (.invokevirtual 149, 3), (.i2l, 1), (.lstore_n 2, 1), (.aload_n 0, 1), (.getfield 35, 3), (.iconst 0, 1), (.invokevirtual 149, 3), (.i2l, 1), (.lstore 4, 2), (.iload_n 1, 1), (.tableswitch 187 37 61 #[145, 187, 187, 187, 187, 124, 114, 187, 119, 187, 129, 187, 187, 187, 187, 187, 187, 187, 187, 187, 187, 187, 187, 161, 174], 114), (.lload_n 2, 1), (.lload 4, 2), (.ladd, 1), (.lreturn, 1), (.lload_n 2, 1), (.lload 4, 2), (.lsub, 1), (.lreturn, 1), (.lload_n 2, 1), (.lload 4, 2), (.lmul, 1), (.lreturn, 1), (.lload 4, 2), (.lconst 0, 1), (.lcmp, 1), (.ifCond .ne 7, 3), (.lconst 0, 1), (.goto 7, 3), (.lload_n 2, 1), (.lload 4, 2), (.ldiv, 1), (.lreturn, 1), (.lload 4, 2), (.lconst 0, 1), (.lcmp, 1), (.ifCond .ne 7, 3), (.lconst 0, 1), (.goto 7, 3), (.lload_n 2, 1), (.lload 4, 2), (.lrem, 1), (.lreturn, 1), (.lload_n 2, 1), (.lload 4, 2), (.lcmp, 1), (.ifCond .ge 7, 3), (.lconst 1, 1), (.goto 4, 3), (.lconst 0, 1), (.lreturn, 1), (.lload_n 2, 1), (.lload 4, 2), (.lcmp, 1), (.ifCond .ne 7, 3), (.lconst 1, 1), (.goto 4, 3), (.lconst 0, 1), (.lreturn, 1), (.lconst 0, 1), (.lreturn, 1)]
set_option maxHeartbeats 4000000 in
set_option maxRecDepth 100000 in
theorem dt_Job_resultOf : g_dc (g_b M_Job_resultOf) 0 dl_Job_resultOf = true := by decide +kernel
def M_Job_goesBeyond : gM := (⟨"BandPress$Job", "goesBeyond", "(I)Z"⟩, prog_4_method_9_code, some .boolean, 2, { frames := 4, cells := 0, slots := 0, locals := 88 }, false, false, none)
def dl_Job_goesBeyond : List (Instr × Nat) := [(.iload_n 1, 1), (.lookupswitch 226 #[(42, 83), (43, 83), (45, 83), (67, 110), (71, 196), (76, 104), (77, 104), (83, 140), (84, 104)], 83), (.aload_n 0, 1), (.iload_n 1, 1), (.invokevirtual 174, 3), (.invokestatic 178, 3), (.ldc2_w 184, 3), (.lcmp, 1), (.ifCond .le 7, 3), (.iconst 1, 1), (.goto 4, 3), (.iconst 0, 1), (.ireturn, 1), (.aload_n 0, 1), (.iconst 1, 1), (.invokevirtual 186, 3), (.ireturn, 1), (.aload_n 0, 1), (.iconst 5, 1), (.invokevirtual 186, 3), (.ifCond .ne 19, 3), (.aload_n 0, 1), (.iconst 3, 1), (.invokevirtual 186, 3), (.ifCond .ne 11, 3), (.aload_n 0, 1), (.iconst 1, 1), (.invokevirtual 186, 3), (.ifCond .eq 7, 3), (.iconst 1, 1), (.goto 4, 3), (.iconst 0, 1), (.ireturn, 1), (.aload_n 0, 1), (.getfield 46, 3), (.aload_n 0, 1), (.getfield 35, 3), (.iconst 1, 1), (.invokevirtual 149, 3), (.invokevirtual 189, 3), (.invokestatic 178, 3), (.ldc2_w 192, 3), (.lcmp, 1), (.ifCond .gt 28, 3), (.aload_n 0, 1), (.getfield 46, 3), (.aload_n 0, 1), (.getfield 35, 3), (.iconst 0, 1), (.invokevirtual 149, 3), (.invokevirtual 194, 3), (.invokestatic 178, 3), (.ldc2_w 192, 3), (.lcmp, 1), (.ifCond .le 7, 3), (.iconst 1, 1), (.goto 4, 3), (.iconst 0, 1), (.ireturn, 1), (.aload_n 0, 1), (.getfield 35, 3), (.iconst 0, 1), (.invokevirtual 149, 3), (.ifCond .lt 16, 3), (.aload_n 0, 1), (.getfield 35, 3), (.iconst 0, 1), (.invokevirtual 149, 3), (.bipush 16, 2), (.if_icmp .le 7, 3), (.iconst 1, 1), (.goto 4, 3), (.iconst 0, 1), (.ireturn, 1), (.iconst 0, 1), (.ireturn, 1)]
set_option maxHeartbeats 4000000 in
set_option maxRecDepth 100000 in
theorem dt_Job_goesBeyond : g_dc (g_b M_Job_goesBeyond) 0 dl_Job_goesBeyond = true := by decide +kernel
def M_B_isDigit : gM := (⟨"BandPress", "isDigit", "(I)Z"⟩, prog_1_method_19_code, some .boolean, 1, { frames := 0, cells := 0, slots := 0, locals := 0 }, false, false, none)
def dl_B_isDigit : List (Instr × Nat) := [(.iload_n 0, 1), (.bipush 48, 2), (.if_icmp .lt 13, 3), (.iload_n 0, 1), (.bipush 57, 2), (.if_icmp .gt 7, 3), (.iconst 1, 1), (.goto 4, 3), (.iconst 0, 1), (.ireturn, 1)]
set_option maxHeartbeats 4000000 in
set_option maxRecDepth 100000 in
theorem dt_B_isDigit : g_dc (g_b M_B_isDigit) 0 dl_B_isDigit = true := by decide +kernel
def M_B_isLetter : gM := (⟨"BandPress", "isLetter", "(I)Z"⟩, prog_1_method_20_code, some .boolean, 1, { frames := 0, cells := 0, slots := 0, locals := 0 }, false, false, none)
def dl_B_isLetter : List (Instr × Nat) := [(.iload_n 0, 1), (.bipush 97, 2), (.if_icmp .lt 13, 3), (.iload_n 0, 1), (.bipush 122, 2), (.if_icmp .gt 7, 3), (.iconst 1, 1), (.goto 4, 3), (.iconst 0, 1), (.ireturn, 1)]
set_option maxHeartbeats 4000000 in
set_option maxRecDepth 100000 in
theorem dt_B_isLetter : g_dc (g_b M_B_isLetter) 0 dl_B_isLetter = true := by decide +kernel
def M_Values_isFull : gM := (⟨"BandPress$Values", "isFull", "()Z"⟩, prog_12_method_2_code, some .boolean, 1, { frames := 0, cells := 0, slots := 0, locals := 0 }, false, false, none)
def dl_Values_isFull : List (Instr × Nat) := [(.aload_n 0, 1), (.getfield 15, 3), (.bipush 32, 2), (.if_icmp .lt 7, 3), (.iconst 1, 1), (.goto 4, 3), (.iconst 0, 1), (.ireturn, 1)]
set_option maxHeartbeats 4000000 in
set_option maxRecDepth 100000 in
theorem dt_Values_isFull : g_dc (g_b M_Values_isFull) 0 dl_Values_isFull = true := by decide +kernel
def M_Calls_isFull : gM := (⟨"BandPress$Calls", "isFull", "()Z"⟩, prog_2_method_5_code, some .boolean, 1, { frames := 0, cells := 0, slots := 0, locals := 0 }, false, false, none)
def dl_Calls_isFull : List (Instr × Nat) := [(.aload_n 0, 1), (.getfield 24, 3), (.bipush 20, 2), (.if_icmp .lt 7, 3), (.iconst 1, 1), (.goto 4, 3), (.iconst 0, 1), (.ireturn, 1)]
set_option maxHeartbeats 4000000 in
set_option maxRecDepth 100000 in
theorem dt_Calls_isFull : g_dc (g_b M_Calls_isFull) 0 dl_Calls_isFull = true := by decide +kernel
def M_Job_lacksRoom : gM := (⟨"BandPress$Job", "lacksRoom", "(I)Z"⟩, prog_4_method_11_code, some .boolean, 3, { frames := 1, cells := 0, slots := 0, locals := 21 }, false, false, none)
def dl_Job_lacksRoom : List (Instr × Nat) := [(.iload_n 1, 1), (.invokestatic 205, 3), (.ifCond .ne 22, 3), (.iload_n 1, 1), (.invokestatic 208, 3), (.ifCond .ne 15, 3), (.iload_n 1, 1), (.bipush 123, 2), (.if_icmp .eq 9, 3), (.iload_n 1, 1), (.bipush 68, 2), (.if_icmp .ne 11, 3), (.aload_n 0, 1), (.getfield 35, 3), (.invokevirtual 211, 3), (.ireturn, 1), (.iload_n 1, 1), (.bipush 63, 2), (.if_icmp .eq 21, 3), (.iload_n 1, 1), (.bipush 82, 2), (.if_icmp .ne 19, 3), (.aload_n 0, 1), (.getfield 35, 3), (.iconst 1, 1), (.invokevirtual 149, 3), (.iconst 1, 1), (.if_icmp .lt 7, 3), (.iconst 1, 1), (.goto 4, 3), (.iconst 0, 1), (.istore_n 2, 1), (.iload_n 2, 1), (.ifCond .eq 17, 3), (.aload_n 0, 1), (.getfield 21, 3), (.invokevirtual 212, 3), (.ifCond .eq 7, 3), (.iconst 1, 1), (.goto 4, 3), (.iconst 0, 1), (.ireturn, 1)]
set_option maxHeartbeats 4000000 in
set_option maxRecDepth 100000 in
theorem dt_Job_lacksRoom : g_dc (g_b M_Job_lacksRoom) 0 dl_Job_lacksRoom = true := by decide +kernel
def M_Path_placesFor : gM := (⟨"BandPress$Path", "placesFor", "(I)I"⟩, prog_9_method_3_code, some .int, 2, { frames := 0, cells := 0, slots := 0, locals := 0 }, false, false, none)
def dl_Path_placesFor : List (Instr × Nat) := [(.aload_n 0, 1), (.getfield 35, 3), (.ifCond .eq 9, 3), (.iload_n 1, 1), (.iconst 1, 1), (.iadd, 1), (.goto 4, 3), (.iload_n 1, 1), (.ireturn, 1)]
set_option maxHeartbeats 4000000 in
set_option maxRecDepth 100000 in
theorem dt_Path_placesFor : g_dc (g_b M_Path_placesFor) 0 dl_Path_placesFor = true := by decide +kernel
def M_Job_placesFor : gM := (⟨"BandPress$Job", "placesFor", "(I)I"⟩, prog_4_method_12_code, some .int, 2, { frames := 1, cells := 0, slots := 0, locals := 21 }, false, false, none)
def dl_Job_placesFor : List (Instr × Nat) := [(.iload_n 1, 1), (.lookupswitch 56 #[(67, 46), (76, 37), (77, 35)], 35), (.iconst 1, 1), (.ireturn, 1), (.aload_n 0, 1), (.getfield 53, 3), (.iconst 1, 1), (.invokevirtual 213, 3), (.ireturn, 1), (.aload_n 0, 1), (.getfield 53, 3), (.bipush 8, 2), (.invokevirtual 213, 3), (.ireturn, 1), (.iconst 0, 1), (.ireturn, 1)]
set_option maxHeartbeats 4000000 in
set_option maxRecDepth 100000 in
theorem dt_Job_placesFor : g_dc (g_b M_Job_placesFor) 0 dl_Job_placesFor = true := by decide +kernel
def M_Math_min : gM := (⟨"java/lang/Math", "min", "(JJ)J"⟩, prog_20_method_70_code, some .long, 4, { frames := 0, cells := 0, slots := 0, locals := 0 }, false, false, none)
def dl_Math_min : List (Instr × Nat) := [(.lload_n 0, 1), (.lload_n 2, 1), (.lcmp, 1), (.ifCond .gt 7, 3), (.lload_n 0, 1), (.goto 4, 3), (.lload_n 2, 1), (.lreturn, 1)]
set_option maxHeartbeats 4000000 in
set_option maxRecDepth 100000 in
theorem dt_Math_min : g_dc (g_b M_Math_min) 0 dl_Math_min = true := by decide +kernel
def M_Math_max1 : gM := (⟨"java/lang/Math", "max", "(JJ)J"⟩, prog_20_method_66_code, some .long, 4, { frames := 0, cells := 0, slots := 0, locals := 0 }, false, false, none)
def dl_Math_max1 : List (Instr × Nat) := [(.lload_n 0, 1), (.lload_n 2, 1), (.lcmp, 1), (.ifCond .lt 7, 3), (.lload_n 0, 1), (.goto 4, 3), (.lload_n 2, 1), (.lreturn, 1)]
set_option maxHeartbeats 4000000 in
set_option maxRecDepth 100000 in
theorem dt_Math_max1 : g_dc (g_b M_Math_max1) 0 dl_Math_max1 = true := by decide +kernel
def M_Filler_firstPixel : gM := (⟨"BandPress$Filler", "firstPixel", "(LBandPress$Path;III)I"⟩, prog_3_method_4_code, some .int, 12, { frames := 1, cells := 0, slots := 0, locals := 25 }, false, false, none)
def dl_Filler_firstPixel : List (Instr × Nat) := [(.aload_n 0, 1), (.getfield 37, 3), (.iload_n 2, 1), (.iaload, 1), (.i2l, 1), (.aload_n 0, 1), (.getfield 37, 3), (.iload_n 1, 1), (.iaload, 1), (.i2l, 1), (.lsub, 1), (.lstore 4, 2), (.lload 4, 2), (.lconst 0, 1), (.lcmp, 1), (.ifCond .gt 6, 3), (.bipush 64, 2), (.ireturn, 1), (.aload_n 0, 1), (.getfield 44, 3), (.iload_n 2, 1), (.iaload, 1), (.i2l, 1), (.aload_n 0, 1), (.getfield 44, 3), (.iload_n 1, 1), (.iaload, 1), (.i2l, 1), (.lsub, 1), (.lstore 6, 2), (.aload_n 0, 1), (.getfield 44, 3), (.iload_n 1, 1), (.iaload, 1), (.i2l, 1), (.lload 4, 2), (.lmul, 1), (.iload_n 3, 1), (.aload_n 0, 1), (.getfield 37, 3), (.iload_n 1, 1), (.iaload, 1), (.isub, 1), (.i2l, 1), (.lload 6, 2), (.lmul, 1), (.ladd, 1), (.lstore 8, 2), (.ldc2_w 47, 3), (.lload 4, 2), (.lmul, 1), (.lload 8, 2), (.lsub, 1), (.ldc2_w 49, 3), (.lload 4, 2), (.lmul, 1), (.invokestatic 51, 3), (.lneg, 1), (.lstore 10, 2), (.lconst 0, 1), (.lload 10, 2), (.ldc2_w 57, 3), (.invokestatic 59, 3), (.invokestatic 62, 3), (.l2i, 1), (.ireturn, 1)]
set_option maxHeartbeats 4000000 in
set_option maxRecDepth 100000 in
theorem dt_Filler_firstPixel : g_dc (g_b M_Filler_firstPixel) 0 dl_Filler_firstPixel = true := by decide +kernel
def M_Filler_meetEdges : gM := (⟨"BandPress$Filler", "meetEdges", "(LBandPress$Path;I)Z"⟩, prog_3_method_3_code, some .boolean, 11, { frames := 2, cells := 0, slots := 0, locals := 56 }, false, false, none)
def dl_Filler_meetEdges : List (Instr × Nat) := [(.iconst 0, 1), (.istore_n 3, 1), (.iconst 0, 1), (.istore 4, 2), (.iconst 0, 1), (.istore 5, 2), (.iload 5, 2), (.aload_n 1, 1), (.getfield 27, 3), (.if_icmp .ge 199, 3), (.aload_n 1, 1), (.getfield 33, 3), (.iload 5, 2), (.baload, 1), (.ifCond .eq 8, 3), (.iload 5, 2), (.goto 5, 3), (.iload 4, 2), (.istore 4, 2), (.iload 5, 2), (.iconst 1, 1), (.iadd, 1), (.aload_n 1, 1), (.getfield 27, 3), (.if_icmp .eq 15, 3), (.aload_n 1, 1), (.getfield 33, 3), (.iload 5, 2), (.iconst 1, 1), (.iadd, 1), (.baload, 1), (.ifCond .eq 7, 3), (.iconst 1, 1), (.goto 4, 3), (.iconst 0, 1), (.istore 6, 2), (.iload 6, 2), (.ifCond .eq 8, 3), (.iload 4, 2), (.goto 7, 3), (.iload 5, 2), (.iconst 1, 1), (.iadd, 1), (.istore 7, 2), (.aload_n 1, 1), (.getfield 37, 3), (.iload 5, 2), (.iaload, 1), (.iload_n 2, 1), (.if_icmp .gt 18, 3), (.iload_n 2, 1), (.aload_n 1, 1), (.getfield 37, 3), (.iload 7, 2), (.iaload, 1), (.if_icmp .ge 7, 3), (.iconst 1, 1), (.goto 4, 3), (.iconst 0, 1), (.istore 8, 2), (.aload_n 1, 1), (.getfield 37, 3), (.iload 7, 2), (.iaload, 1), (.iload_n 2, 1), (.if_icmp .gt 18, 3), (.iload_n 2, 1), (.aload_n 1, 1), (.getfield 37, 3), (.iload 5, 2), (.iaload, 1), (.if_icmp .ge 7, 3), (.iconst 1, 1), (.goto 4, 3), (.iconst 0, 1), (.istore 9, 2), (.iload 8, 2), (.ifCond .ne 8, 3), (.iload 9, 2), (.ifCond .eq 60, 3), (.iload 8, 2), (.ifCond .eq 15, 3), (.aload_n 1, 1), (.iload 5, 2), (.iload 7, 2), (.iload_n 2, 1), (.invokestatic 40, 3), (.goto 12, 3), (.aload_n 1, 1), (.iload 7, 2), (.iload 5, 2), (.iload_n 2, 1), (.invokestatic 40, 3), (.istore 10, 2), (.iload 10, 2), (.bipush 64, 2), (.if_icmp .ge 25, 3), (.aload_n 0, 1), (.getfield 15, 3), (.iload 10, 2), (.dup2, 1), (.iaload, 1), (.iload 8, 2), (.ifCond .eq 7, 3), (.iconst 1, 1), (.goto 4, 3), (.iconst (-1), 1), (.iadd, 1), (.iastore, 1), (.iconst 1, 1), (.istore_n 3, 1), (.iinc 5 1, 3), (.goto (-202), 3), (.iload_n 3, 1), (.ireturn, 1)]
set_option maxHeartbeats 4000000 in
set_option maxRecDepth 100000 in
theorem dt_Filler_meetEdges : g_dc (g_b M_Filler_meetEdges) 0 dl_Filler_meetEdges = true := by decide +kernel
def M_Filler_sweep : gM := (⟨"BandPress$Filler", "sweep", "(Z)J"⟩, prog_3_method_5_code, some .long, 7, { frames := 0, cells := 0, slots := 0, locals := 0 }, false, false, none)
def dl_Filler_sweep : List (Instr × Nat) := [(.lconst 0, 1), (.lstore_n 2, 1), (.iconst 0, 1), (.istore 4, 2), (.iconst 0, 1), (.istore 5, 2), (.iload 5, 2), (.bipush 64, 2), (.if_icmp .ge 75, 3), (.iload 4, 2), (.aload_n 0, 1), (.getfield 15, 3), (.iload 5, 2), (.iaload, 1), (.iadd, 1), (.istore 4, 2), (.aload_n 0, 1), (.getfield 15, 3), (.iload 5, 2), (.iconst 0, 1), (.iastore, 1), (.iload_n 1, 1), (.ifCond .eq 18, 3), (.iload 4, 2), (.iconst 1, 1), (.iand, 1), (.ifCond .eq 7, 3), (.iconst 1, 1), (.goto 17, 3), (.iconst 0, 1), (.goto 13, 3), (.iload 4, 2), (.ifCond .eq 7, 3), (.iconst 1, 1), (.goto 4, 3), (.iconst 0, 1), (.istore 6, 2), (.lload_n 2, 1), (.iconst 1, 1), (.lshl, 1), (.iload 6, 2), (.ifCond .eq 7, 3), (.lconst 1, 1), (.goto 4, 3), (.lconst 0, 1), (.lor, 1), (.lstore_n 2, 1), (.iinc 5 1, 3), (.goto (-76), 3), (.lload_n 2, 1), (.lreturn, 1)]
set_option maxHeartbeats 4000000 in
set_option maxRecDepth 100000 in
theorem dt_Filler_sweep : g_dc (g_b M_Filler_sweep) 0 dl_Filler_sweep = true := by decide +kernel
def M_Filler_trace : gM := (⟨"BandPress$Filler", "trace", "(LBandPress$Path;Z)V"⟩, prog_3_method_2_code, none, 4, { frames := 3, cells := 0, slots := 0, locals := 86 }, false, false, none)
def dl_Filler_trace : List (Instr × Nat) := [(.iconst 0, 1), (.istore_n 3, 1), (.iload_n 3, 1), (.bipush 48, 2), (.if_icmp .ge 37, 3), (.aload_n 0, 1), (.getfield 9, 3), (.iload_n 3, 1), (.aload_n 0, 1), (.aload_n 1, 1), (.iconst 4, 1), (.iload_n 3, 1), (.imul, 1), (.iconst 2, 1), (.iadd, 1), (.invokevirtual 19, 3), (.ifCond .eq 11, 3), (.aload_n 0, 1), (.iload_n 2, 1), (.invokevirtual 23, 3), (.goto 4, 3), (.lconst 0, 1), (.lastore, 1), (.iinc 3 1, 3), (.goto (-37), 3), (.return_, 1)]
set_option maxHeartbeats 4000000 in
set_option maxRecDepth 100000 in
theorem dt_Filler_trace : g_dc (g_b M_Filler_trace) 0 dl_Filler_trace = true := by decide +kernel
def M_Settings_clipLine : gM := (⟨"BandPress$Settings", "clipLine", "(I)J"⟩, prog_10_method_14_code, some .long, 2, { frames := 0, cells := 0, slots := 0, locals := 0 }, false, false, none)
def dl_Settings_clipLine : List (Instr × Nat) := [(.aload_n 0, 1), (.getfield 27, 3), (.aload_n 0, 1), (.getfield 39, 3), (.bipush 48, 2), (.imul, 1), (.iload_n 1, 1), (.iadd, 1), (.laload, 1), (.lreturn, 1)]
set_option maxHeartbeats 4000000 in
set_option maxRecDepth 100000 in
theorem dt_Settings_clipLine : g_dc (g_b M_Settings_clipLine) 0 dl_Settings_clipLine = true := by decide +kernel
def M_Long_bitCount : gM := (⟨"java/lang/Long", "bitCount", "(J)I"⟩, prog_19_method_50_code, some .int, 2, { frames := 0, cells := 0, slots := 0, locals := 0 }, false, false, none)
def dl_Long_bitCount : List (Instr × Nat) := [(.lload_n 0, 1), (.lload_n 0, 1), (.iconst 1, 1), (.lushr, 1), (.ldc2_w 314, 3), (.land, 1), (.lsub, 1), (.lstore_n 0, 1), (.lload_n 0, 1), (.ldc2_w 316, 3), (.land, 1), (.lload_n 0, 1), (.iconst 2, 1), (.lushr, 1), (.ldc2_w 316, 3), (.land, 1), (.ladd, 1), (.lstore_n 0, 1), (.lload_n 0, 1), (.lload_n 0, 1), (.iconst 4, 1), (.lushr, 1), (.ladd, 1), (.ldc2_w 318, 3), (.land, 1), (.lstore_n 0, 1), (.lload_n 0, 1), (.lload_n 0, 1), (.bipush 8, 2), (.lushr, 1), (.ladd, 1), (.lstore_n 0, 1), (.lload_n 0, 1), (.lload_n 0, 1), (.bipush 16, 2), (.lushr, 1), (.ladd, 1), (.lstore_n 0, 1), (.lload_n 0, 1), (.lload_n 0, 1), (.bipush 32, 2), (.lushr, 1), (.ladd, 1), (.lstore_n 0, 1), (.lload_n 0, 1), (.l2i, 1), (.bipush 127, 2), (.iand, 1), (.ireturn, 1)]
set_option maxHeartbeats 4000000 in
set_option maxRecDepth 100000 in
theorem dt_Long_bitCount : g_dc (g_b M_Long_bitCount) 0 dl_Long_bitCount = true := by decide +kernel
def M_Pages_marksOf : gM := (⟨"BandPress$Pages", "marksOf", "([JLBandPress$Settings;)I"⟩, prog_8_method_7_code, some .int, 6, { frames := 1, cells := 0, slots := 0, locals := 21 }, false, false, none)
def dl_Pages_marksOf : List (Instr × Nat) := [(.iconst 0, 1), (.istore_n 2, 1), (.iconst 0, 1), (.istore_n 3, 1), (.iload_n 3, 1), (.bipush 48, 2), (.if_icmp .ge 37, 3), (.aload_n 0, 1), (.iload_n 3, 1), (.laload, 1), (.aload_n 1, 1), (.iload_n 3, 1), (.invokevirtual 35, 3), (.land, 1), (.lstore 4, 2), (.iload_n 2, 1), (.lload 4, 2), (.lload 4, 2), (.iconst 1, 1), (.lushr, 1), (.ldc2_w 41, 3), (.lxor, 1), (.land, 1), (.invokestatic 43, 3), (.iadd, 1), (.istore_n 2, 1), (.iinc 3 1, 3), (.goto (-37), 3), (.iload_n 2, 1), (.ireturn, 1)]
set_option maxHeartbeats 4000000 in
set_option maxRecDepth 100000 in
theorem dt_Pages_marksOf : g_dc (g_b M_Pages_marksOf) 0 dl_Pages_marksOf = true := by decide +kernel
def M_Job_marksTooMuch : gM := (⟨"BandPress$Job", "marksTooMuch", "(I)Z"⟩, prog_4_method_13_code, some .boolean, 2, { frames := 4, cells := 0, slots := 0, locals := 109 }, false, false, none)
def dl_Job_marksTooMuch : List (Instr × Nat) := [(.aload_n 0, 1), (.getfield 28, 3), (.aload_n 0, 1), (.getfield 53, 3), (.iload_n 1, 1), (.bipush 69, 2), (.if_icmp .ne 7, 3), (.iconst 1, 1), (.goto 4, 3), (.iconst 0, 1), (.invokevirtual 214, 3), (.aload_n 0, 1), (.getfield 60, 3), (.getfield 218, 3), (.aload_n 0, 1), (.getfield 28, 3), (.getfield 221, 3), (.aload_n 0, 1), (.getfield 46, 3), (.invokestatic 225, 3), (.iadd, 1), (.sipush 250, 3), (.if_icmp .le 7, 3), (.iconst 1, 1), (.goto 4, 3), (.iconst 0, 1), (.ireturn, 1)]
set_option maxHeartbeats 4000000 in
set_option maxRecDepth 100000 in
theorem dt_Job_marksTooMuch : g_dc (g_b M_Job_marksTooMuch) 0 dl_Job_marksTooMuch = true := by decide +kernel
def M_Pages_isFull : gM := (⟨"BandPress$Pages", "isFull", "()Z"⟩, prog_8_method_5_code, some .boolean, 1, { frames := 0, cells := 0, slots := 0, locals := 0 }, false, false, none)
def dl_Pages_isFull : List (Instr × Nat) := [(.aload_n 0, 1), (.getfield 18, 3), (.bipush 8, 2), (.if_icmp .lt 7, 3), (.iconst 1, 1), (.goto 4, 3), (.iconst 0, 1), (.ireturn, 1)]
set_option maxHeartbeats 4000000 in
set_option maxRecDepth 100000 in
theorem dt_Pages_isFull : g_dc (g_b M_Pages_isFull) 0 dl_Pages_isFull = true := by decide +kernel
def M_Settings_saved : gM := (⟨"BandPress$Settings", "saved", "()I"⟩, prog_10_method_3_code, some .int, 1, { frames := 0, cells := 0, slots := 0, locals := 0 }, false, false, none)
def dl_Settings_saved : List (Instr × Nat) := [(.aload_n 0, 1), (.getfield 39, 3), (.ireturn, 1)]
set_option maxHeartbeats 4000000 in
set_option maxRecDepth 100000 in
theorem dt_Settings_saved : g_dc (g_b M_Settings_saved) 0 dl_Settings_saved = true := by decide +kernel
def M_Calls_innermostLoop : gM := (⟨"BandPress$Calls", "innermostLoop", "()I"⟩, prog_2_method_8_code, some .int, 2, { frames := 0, cells := 0, slots := 0, locals := 0 }, false, false, none)
def dl_Calls_innermostLoop : List (Instr × Nat) := [(.aload_n 0, 1), (.getfield 24, 3), (.istore_n 1, 1), (.iload_n 1, 1), (.ifCond .lt 20, 3), (.aload_n 0, 1), (.getfield 21, 3), (.iload_n 1, 1), (.iaload, 1), (.ifCond .le 5, 3), (.iload_n 1, 1), (.ireturn, 1), (.iinc 1 (-1), 3), (.goto (-18), 3), (.iconst (-1), 1), (.ireturn, 1)]
set_option maxHeartbeats 4000000 in
set_option maxRecDepth 100000 in
theorem dt_Calls_innermostLoop : g_dc (g_b M_Calls_innermostLoop) 0 dl_Calls_innermostLoop = true := by decide +kernel
def M_Job_errorOf : gM := (⟨"BandPress$Job", "errorOf", "(I)I"⟩, prog_4_method_6_code, some .int, 3, { frames := 5, cells := 0, slots := 0, locals := 130 }, false, false, none)
def dl_Job_errorOf : List (Instr × Nat) := [(.iload_n 1, 1), (.invokestatic 135, 3), (.istore_n 2, 1), (.aload_n 0, 1), (.getfield 35, 3), (.getfield 138, 3), (.iload_n 2, 1), (.if_icmp .ge 5, 3), (.iconst 1, 1), (.ireturn, 1), (.aload_n 0, 1), (.iload_n 1, 1), (.iload_n 2, 1), (.invokevirtual 141, 3), (.ifCond .ne 5, 3), (.iconst 2, 1), (.ireturn, 1), (.aload_n 0, 1), (.iload_n 1, 1), (.invokevirtual 145, 3), (.ifCond .eq 5, 3), (.iconst 3, 1), (.ireturn, 1), (.iload_n 1, 1), (.bipush 47, 2), (.if_icmp .eq 9, 3), (.iload_n 1, 1), (.bipush 37, 2), (.if_icmp .ne 16, 3), (.aload_n 0, 1), (.getfield 35, 3), (.iconst 0, 1), (.invokevirtual 149, 3), (.ifCond .ne 5, 3), (.iconst 4, 1), (.ireturn, 1), (.aload_n 0, 1), (.iload_n 1, 1), (.invokevirtual 152, 3), (.ifCond .eq 5, 3), (.iconst 5, 1), (.ireturn, 1), (.iload_n 1, 1), (.bipush 76, 2), (.if_icmp .eq 15, 3), (.iload_n 1, 1), (.bipush 67, 2), (.if_icmp .eq 9, 3), (.iload_n 1, 1), (.bipush 90, 2), (.if_icmp .ne 16, 3), (.aload_n 0, 1), (.getfield 53, 3), (.getfield 155, 3), (.ifCond .ne 6, 3), (.bipush 6, 2), (.ireturn, 1), (.aload_n 0, 1), (.getfield 53, 3), (.getfield 155, 3), (.aload_n 0, 1), (.iload_n 1, 1), (.invokevirtual 156, 3), (.iadd, 1), (.sipush 200, 3), (.if_icmp .le 6, 3), (.bipush 7, 2), (.ireturn, 1), (.iload_n 1, 1), (.bipush 70, 2), (.if_icmp .eq 9, 3), (.iload_n 1, 1), (.bipush 69, 2), (.if_icmp .ne 14, 3), (.aload_n 0, 1), (.iload_n 1, 1), (.invokevirtual 159, 3), (.ifCond .eq 6, 3), (.bipush 8, 2), (.ireturn, 1), (.iload_n 1, 1), (.bipush 80, 2), (.if_icmp .ne 16, 3), (.aload_n 0, 1), (.getfield 60, 3), (.invokevirtual 162, 3), (.ifCond .eq 6, 3), (.bipush 9, 2), (.ireturn, 1), (.iload_n 1, 1), (.bipush 85, 2), (.if_icmp .ne 14, 3), (.aload_n 0, 1), (.getfield 46, 3), (.invokevirtual 165, 3), (.iconst 4, 1), (.if_icmp .eq 19, 3), (.iload_n 1, 1), (.bipush 86, 2), (.if_icmp .ne 16, 3), (.aload_n 0, 1), (.getfield 46, 3), (.invokevirtual 165, 3), (.ifCond .ne 6, 3), (.bipush 10, 2), (.ireturn, 1), (.iload_n 1, 1), (.bipush 81, 2), (.if_icmp .ne 17, 3), (.aload_n 0, 1), (.getfield 21, 3), (.invokevirtual 168, 3), (.iconst (-1), 1), (.if_icmp .ne 6, 3), (.bipush 11, 2), (.ireturn, 1), (.aload_n 0, 1), (.getfield 98, 3), (.aload_n 0, 1), (.getfield 101, 3), (.if_icmp .lt 8, 3), (.bipush 12, 2), (.goto 4, 3), (.iconst 0, 1), (.ireturn, 1)]
set_option maxHeartbeats 4000000 in
set_option maxRecDepth 100000 in
theorem dt_Job_errorOf : g_dc (g_b M_Job_errorOf) 0 dl_Job_errorOf = true := by decide +kernel
def M_Text_closing : gM := (⟨"BandPress$Text", "closing", "(I)I"⟩, prog_11_method_7_code, some .int, 2, { frames := 0, cells := 0, slots := 0, locals := 0 }, false, false, none)
def dl_Text_closing : List (Instr × Nat) := [(.iload_n 1, 1), (.ifCond .lt 11, 3), (.iload_n 1, 1), (.aload_n 0, 1), (.getfield 21, 3), (.if_icmp .lt 10, 3), (.aload_n 0, 1), (.getfield 21, 3), (.goto 9, 3), (.aload_n 0, 1), (.getfield 15, 3), (.iload_n 1, 1), (.iaload, 1), (.ireturn, 1)]
set_option maxHeartbeats 4000000 in
set_option maxRecDepth 100000 in
theorem dt_Text_closing : g_dc (g_b M_Text_closing) 0 dl_Text_closing = true := by decide +kernel
def M_Text_behindDigits : gM := (⟨"BandPress$Text", "behindDigits", "(I)I"⟩, prog_11_method_11_code, some .int, 3, { frames := 1, cells := 0, slots := 0, locals := 21 }, false, false, none)
def dl_Text_behindDigits : List (Instr × Nat) := [(.iload_n 1, 1), (.istore_n 2, 1), (.iload_n 2, 1), (.aload_n 0, 1), (.getfield 21, 3), (.if_icmp .ge 20, 3), (.aload_n 0, 1), (.iload_n 2, 1), (.invokevirtual 49, 3), (.invokestatic 33, 3), (.ifCond .eq 9, 3), (.iinc 2 1, 3), (.goto (-22), 3), (.iload_n 2, 1), (.ireturn, 1)]
set_option maxHeartbeats 4000000 in
set_option maxRecDepth 100000 in
theorem dt_Text_behindDigits : g_dc (g_b M_Text_behindDigits) 0 dl_Text_behindDigits = true := by decide +kernel
def M_Text_behind : gM := (⟨"BandPress$Text", "behind", "(I)I"⟩, prog_11_method_9_code, some .int, 3, { frames := 2, cells := 0, slots := 0, locals := 43 }, false, false, none)
def dl_Text_behind : List (Instr × Nat) := [(.aload_n 0, 1), (.iload_n 1, 1), (.invokevirtual 49, 3), (.istore_n 2, 1), (.iload_n 2, 1), (.bipush 123, 2), (.if_icmp .ne 11, 3), (.aload_n 0, 1), (.iload_n 1, 1), (.invokevirtual 53, 3), (.iconst 1, 1), (.iadd, 1), (.ireturn, 1), (.iload_n 2, 1), (.bipush 58, 2), (.if_icmp .ne 7, 3), (.iload_n 1, 1), (.iconst 2, 1), (.iadd, 1), (.ireturn, 1), (.iload_n 2, 1), (.invokestatic 33, 3), (.ifCond .eq 11, 3), (.aload_n 0, 1), (.iload_n 1, 1), (.invokevirtual 56, 3), (.goto 6, 3), (.iload_n 1, 1), (.iconst 1, 1), (.iadd, 1), (.ireturn, 1)]
set_option maxHeartbeats 4000000 in
set_option maxRecDepth 100000 in
theorem dt_Text_behind : g_dc (g_b M_Text_behind) 0 dl_Text_behind = true := by decide +kernel
def M_Calls_goTo : gM := (⟨"BandPress$Calls", "goTo", "(I)V"⟩, prog_2_method_7_code, none, 2, { frames := 0, cells := 0, slots := 0, locals := 0 }, false, false, none)
def dl_Calls_goTo : List (Instr × Nat) := [(.aload_n 0, 1), (.getfield 24, 3), (.ifCond .lt 13, 3), (.aload_n 0, 1), (.getfield 9, 3), (.aload_n 0, 1), (.getfield 24, 3), (.iload_n 1, 1), (.iastore, 1), (.return_, 1)]
set_option maxHeartbeats 4000000 in
set_option maxRecDepth 100000 in
theorem dt_Calls_goTo : g_dc (g_b M_Calls_goTo) 0 dl_Calls_goTo = true := by decide +kernel
def M_Text_number : gM := (⟨"BandPress$Text", "number", "(I)I"⟩, prog_11_method_10_code, some .int, 5, { frames := 2, cells := 0, slots := 0, locals := 43 }, false, false, none)
def dl_Text_number : List (Instr × Nat) := [(.aload_n 0, 1), (.iload_n 1, 1), (.invokevirtual 56, 3), (.istore_n 2, 1), (.iconst 0, 1), (.istore_n 3, 1), (.iload_n 1, 1), (.istore 4, 2), (.iload 4, 2), (.iload_n 2, 1), (.if_icmp .ge 24, 3), (.bipush 10, 2), (.iload_n 3, 1), (.imul, 1), (.aload_n 0, 1), (.iload 4, 2), (.invokevirtual 49, 3), (.iadd, 1), (.bipush 48, 2), (.isub, 1), (.istore_n 3, 1), (.iinc 4 1, 3), (.goto (-24), 3), (.iload_n 3, 1), (.ireturn, 1)]
set_option maxHeartbeats 4000000 in
set_option maxRecDepth 100000 in
theorem dt_Text_number : g_dc (g_b M_Text_number) 0 dl_Text_number = true := by decide +kernel
def M_Values_push : gM := (⟨"BandPress$Values", "push", "(I)V"⟩, prog_12_method_5_code, none, 2, { frames := 0, cells := 0, slots := 0, locals := 0 }, false, false, none)
def dl_Values_push : List (Instr × Nat) := [(.aload_n 0, 1), (.getfield 15, 3), (.bipush 32, 2), (.if_icmp .ge 23, 3), (.aload_n 0, 1), (.getfield 9, 3), (.aload_n 0, 1), (.getfield 15, 3), (.iload_n 1, 1), (.iastore, 1), (.aload_n 0, 1), (.dup, 1), (.getfield 15, 3), (.iconst 1, 1), (.iadd, 1), (.putfield 15, 3), (.return_, 1)]
set_option maxHeartbeats 4000000 in
set_option maxRecDepth 100000 in
theorem dt_Values_push : g_dc (g_b M_Values_push) 0 dl_Values_push = true := by decide +kernel
def M_Values_drop : gM := (⟨"BandPress$Values", "drop", "(I)V"⟩, prog_12_method_6_code, none, 2, { frames := 1, cells := 0, slots := 0, locals := 21 }, false, false, none)
def dl_Values_drop : List (Instr × Nat) := [(.aload_n 0, 1), (.iconst 0, 1), (.aload_n 0, 1), (.getfield 15, 3), (.iload_n 1, 1), (.isub, 1), (.invokestatic 24, 3), (.putfield 15, 3), (.return_, 1)]
set_option maxHeartbeats 4000000 in
set_option maxRecDepth 100000 in
theorem dt_Values_drop : g_dc (g_b M_Values_drop) 0 dl_Values_drop = true := by decide +kernel
def M_Job_assign : gM := (⟨"BandPress$Job", "assign", "(I)V"⟩, prog_4_method_16_code, none, 2, { frames := 2, cells := 0, slots := 0, locals := 42 }, false, false, none)
def dl_Job_assign : List (Instr × Nat) := [(.iload_n 1, 1), (.invokestatic 208, 3), (.ifCond .eq 20, 3), (.aload_n 0, 1), (.getfield 39, 3), (.iload_n 1, 1), (.bipush 97, 2), (.isub, 1), (.aload_n 0, 1), (.getfield 35, 3), (.iconst 0, 1), (.invokevirtual 149, 3), (.iastore, 1), (.aload_n 0, 1), (.getfield 35, 3), (.iconst 1, 1), (.invokevirtual 75, 3), (.return_, 1)]
set_option maxHeartbeats 4000000 in
set_option maxRecDepth 100000 in
theorem dt_Job_assign : g_dc (g_b M_Job_assign) 0 dl_Job_assign = true := by decide +kernel
def M_String_isLatin1 : gM := (⟨"java/lang/String", "isLatin1", "()Z"⟩, prog_22_method_154_code, some .boolean, 1, { frames := 0, cells := 0, slots := 0, locals := 0 }, false, false, none)
def dl_String_isLatin1 : List (Instr × Nat) := [(.getstatic 38, 3), (.ifCond .eq 14, 3), (.aload_n 0, 1), (.getfield 15, 3), (.ifCond .ne 7, 3), (.iconst 1, 1), (.goto 4, 3), (.iconst 0, 1), (.ireturn, 1)]
set_option maxHeartbeats 4000000 in
set_option maxRecDepth 100000 in
theorem dt_String_isLatin1 : g_dc (g_b M_String_isLatin1) 0 dl_String_isLatin1 = true := by decide +kernel
def M_String_coder : gM := (⟨"java/lang/String", "coder", "()B"⟩, prog_22_method_152_code, some .byte, 1, { frames := 0, cells := 0, slots := 0, locals := 0 }, false, false, none)
def dl_String_coder : List (Instr × Nat) := [(.getstatic 38, 3), (.ifCond .eq 10, 3), (.aload_n 0, 1), (.getfield 15, 3), (.goto 4, 3), (.iconst 1, 1), (.ireturn, 1)]
set_option maxHeartbeats 4000000 in
set_option maxRecDepth 100000 in
theorem dt_String_coder : g_dc (g_b M_String_coder) 0 dl_String_coder = true := by decide +kernel
def M_String_length : gM := (⟨"java/lang/String", "length", "()I"⟩, prog_22_method_54_code, some .int, 1, { frames := 1, cells := 0, slots := 0, locals := 20 }, false, false, none)
def dl_String_length : List (Instr × Nat) := [(.aload_n 0, 1), (.getfield 9, 3), (.arraylength, 1), (.aload_n 0, 1), (.invokevirtual 335, 3), (.ishr, 1), (.ireturn, 1)]
set_option maxHeartbeats 4000000 in
set_option maxRecDepth 100000 in
theorem dt_String_length : g_dc (g_b M_String_length) 0 dl_String_length = true := by decide +kernel
def M_StringLatin1_canEncode : gM := (⟨"java/lang/StringLatin1", "canEncode", "(I)Z"⟩, prog_23_method_4_code, some .boolean, 1, { frames := 0, cells := 0, slots := 0, locals := 0 }, false, false, none)
def dl_StringLatin1_canEncode : List (Instr × Nat) := [(.iload_n 0, 1), (.ifCond .lt 14, 3), (.iload_n 0, 1), (.sipush 255, 3), (.if_icmp .gt 7, 3), (.iconst 1, 1), (.goto 4, 3), (.iconst 0, 1), (.ireturn, 1)]
set_option maxHeartbeats 4000000 in
set_option maxRecDepth 100000 in
theorem dt_StringLatin1_canEncode : g_dc (g_b M_StringLatin1_canEncode) 0 dl_StringLatin1_canEncode = true := by decide +kernel
def M_Math_min1 : gM := (⟨"java/lang/Math", "min", "(II)I"⟩, prog_20_method_69_code, some .int, 2, { frames := 0, cells := 0, slots := 0, locals := 0 }, false, false, none)
def dl_Math_min1 : List (Instr × Nat) := [(.iload_n 0, 1), (.iload_n 1, 1), (.if_icmp .gt 7, 3), (.iload_n 0, 1), (.goto 4, 3), (.iload_n 1, 1), (.ireturn, 1)]
set_option maxHeartbeats 4000000 in
set_option maxRecDepth 100000 in
theorem dt_Math_min1 : g_dc (g_b M_Math_min1) 0 dl_Math_min1 = true := by decide +kernel
def M_StringLatin1_indexOfChar : gM := (⟨"java/lang/StringLatin1", "indexOfChar", "([BIII)I"⟩, prog_23_method_23_code, some .int, 6, { frames := 0, cells := 0, slots := 0, locals := 0 }, false, false, none)
def dl_StringLatin1_indexOfChar : List (Instr × Nat) := [(.iload_n 1, 1), (.i2b, 1), (.istore 4, 2), (.iload_n 2, 1), (.istore 5, 2), (.iload 5, 2), (.iload_n 3, 1), (.if_icmp .ge 21, 3), (.aload_n 0, 1), (.iload 5, 2), (.baload, 1), (.iload 4, 2), (.if_icmp .ne 6, 3), (.iload 5, 2), (.ireturn, 1), (.iinc 5 1, 3), (.goto (-21), 3), (.iconst (-1), 1), (.ireturn, 1)]
set_option maxHeartbeats 4000000 in
set_option maxRecDepth 100000 in
theorem dt_StringLatin1_indexOfChar : g_dc (g_b M_StringLatin1_indexOfChar) 0 dl_StringLatin1_indexOfChar = true := by decide +kernel
def M_StringLatin1_indexOf : gM := (⟨"java/lang/StringLatin1", "indexOf", "([BIII)I"⟩, prog_23_method_22_code, some .int, 4, { frames := 1, cells := 0, slots := 0, locals := 25 }, false, false, none)
def dl_StringLatin1_indexOf : List (Instr × Nat) := [(.iload_n 1, 1), (.invokestatic 88, 3), (.ifCond .ne 5, 3), (.iconst (-1), 1), (.ireturn, 1), (.iload_n 2, 1), (.iconst 0, 1), (.invokestatic 92, 3), (.istore_n 2, 1), (.iload_n 3, 1), (.aload_n 0, 1), (.arraylength, 1), (.invokestatic 38, 3), (.istore_n 3, 1), (.iload_n 2, 1), (.iload_n 3, 1), (.if_icmp .lt 5, 3), (.iconst (-1), 1), (.ireturn, 1), (.aload_n 0, 1), (.iload_n 1, 1), (.iload_n 2, 1), (.iload_n 3, 1), (.invokestatic 95, 3), (.ireturn, 1)]
set_option maxHeartbeats 4000000 in
set_option maxRecDepth 100000 in
theorem dt_StringLatin1_indexOf : g_dc (g_b M_StringLatin1_indexOf) 0 dl_StringLatin1_indexOf = true := by decide +kernel
def M_String_indexOf1 : gM := (⟨"java/lang/String", "indexOf", "(II)I"⟩, prog_22_method_80_code, some .int, 3, { frames := 2, cells := 0, slots := 0, locals := 48 }, false, false, none)
def dl_String_indexOf1 : List (Instr × Nat) := [(.aload_n 0, 1), (.invokevirtual 492, 3), (.ifCond .eq 19, 3), (.aload_n 0, 1), (.getfield 9, 3), (.iload_n 1, 1), (.iload_n 2, 1), (.aload_n 0, 1), (.invokevirtual 505, 3), (.invokestatic 637, 3), (.goto 16, 3), (.aload_n 0, 1), (.getfield 9, 3), (.iload_n 1, 1), (.iload_n 2, 1), (.aload_n 0, 1), (.invokevirtual 505, 3), (.invokestatic 640, 3), (.ireturn, 1)]
set_option maxHeartbeats 4000000 in
set_option maxRecDepth 100000 in
theorem dt_String_indexOf1 : g_dc (g_b M_String_indexOf1) 0 dl_String_indexOf1 = true := by decide +kernel
def M_String_indexOf : gM := (⟨"java/lang/String", "indexOf", "(I)I"⟩, prog_22_method_79_code, some .int, 2, { frames := 3, cells := 0, slots := 0, locals := 70 }, false, false, none)
def dl_String_indexOf : List (Instr × Nat) := [(.aload_n 0, 1), (.iload_n 1, 1), (.iconst 0, 1), (.invokevirtual 633, 3), (.ireturn, 1)]
set_option maxHeartbeats 4000000 in
set_option maxRecDepth 100000 in
theorem dt_String_indexOf : g_dc (g_b M_String_indexOf) 0 dl_String_indexOf = true := by decide +kernel
def M_B_isOneOf : gM := (⟨"BandPress", "isOneOf", "(Ljava/lang/String;I)Z"⟩, prog_1_method_21_code, some .boolean, 2, { frames := 4, cells := 0, slots := 0, locals := 91 }, false, false, none)
def dl_B_isOneOf : List (Instr × Nat) := [(.aload_n 0, 1), (.iload_n 1, 1), (.i2c, 1), (.invokevirtual 219, 3), (.ifCond .lt 7, 3), (.iconst 1, 1), (.goto 4, 3), (.iconst 0, 1), (.ireturn, 1)]
set_option maxHeartbeats 4000000 in
set_option maxRecDepth 100000 in
theorem dt_B_isOneOf : g_dc (g_b M_B_isOneOf) 0 dl_B_isOneOf = true := by decide +kernel
def M_Calls_leaveLoop : gM := (⟨"BandPress$Calls", "leaveLoop", "()V"⟩, prog_2_method_9_code, none, 2, { frames := 1, cells := 0, slots := 0, locals := 21 }, false, false, none)
def dl_Calls_leaveLoop : List (Instr × Nat) := [(.aload_n 0, 1), (.invokevirtual 50, 3), (.istore_n 1, 1), (.iload_n 1, 1), (.iconst (-1), 1), (.if_icmp .eq 10, 3), (.aload_n 0, 1), (.iload_n 1, 1), (.iconst 1, 1), (.isub, 1), (.putfield 24, 3), (.return_, 1)]
set_option maxHeartbeats 4000000 in
set_option maxRecDepth 100000 in
theorem dt_Calls_leaveLoop : g_dc (g_b M_Calls_leaveLoop) 0 dl_Calls_leaveLoop = true := by decide +kernel
def M_Text_skipBlanks : gM := (⟨"BandPress$Text", "skipBlanks", "(II)I"⟩, prog_11_method_8_code, some .int, 4, { frames := 1, cells := 0, slots := 0, locals := 21 }, false, false, none)
def dl_Text_skipBlanks : List (Instr × Nat) := [(.iload_n 1, 1), (.istore_n 3, 1), (.iload_n 3, 1), (.iload_n 2, 1), (.if_icmp .ge 19, 3), (.aload_n 0, 1), (.iload_n 3, 1), (.invokevirtual 49, 3), (.bipush 32, 2), (.if_icmp .ne 9, 3), (.iinc 3 1, 3), (.goto (-18), 3), (.iload_n 3, 1), (.ireturn, 1)]
set_option maxHeartbeats 4000000 in
set_option maxRecDepth 100000 in
theorem dt_Text_skipBlanks : g_dc (g_b M_Text_skipBlanks) 0 dl_Text_skipBlanks = true := by decide +kernel
def M_Calls_push : gM := (⟨"BandPress$Calls", "push", "(III)V"⟩, prog_2_method_11_code, none, 4, { frames := 0, cells := 0, slots := 0, locals := 0 }, false, false, none)
def dl_Calls_push : List (Instr × Nat) := [(.aload_n 0, 1), (.getfield 24, 3), (.bipush 20, 2), (.if_icmp .ge 53, 3), (.aload_n 0, 1), (.dup, 1), (.getfield 24, 3), (.iconst 1, 1), (.iadd, 1), (.putfield 24, 3), (.aload_n 0, 1), (.getfield 9, 3), (.aload_n 0, 1), (.getfield 24, 3), (.iload_n 1, 1), (.iastore, 1), (.aload_n 0, 1), (.getfield 15, 3), (.aload_n 0, 1), (.getfield 24, 3), (.iload_n 1, 1), (.iastore, 1), (.aload_n 0, 1), (.getfield 18, 3), (.aload_n 0, 1), (.getfield 24, 3), (.iload_n 2, 1), (.iastore, 1), (.aload_n 0, 1), (.getfield 21, 3), (.aload_n 0, 1), (.getfield 24, 3), (.iload_n 3, 1), (.iastore, 1), (.return_, 1)]
set_option maxHeartbeats 4000000 in
set_option maxRecDepth 100000 in
theorem dt_Calls_push : g_dc (g_b M_Calls_push) 0 dl_Calls_push = true := by decide +kernel
def M_Calls_enter : gM := (⟨"BandPress$Calls", "enter", "(LBandPress$Text;II)V"⟩, prog_2_method_3_code, none, 6, { frames := 2, cells := 0, slots := 0, locals := 44 }, false, false, none)
def dl_Calls_enter : List (Instr × Nat) := [(.iload_n 2, 1), (.ldc 41, 2), (.isub, 1), (.istore 4, 2), (.aload_n 1, 1), (.iload 4, 2), (.invokevirtual 42, 3), (.istore 5, 2), (.aload_n 1, 1), (.iload 4, 2), (.iconst 1, 1), (.iadd, 1), (.iload 5, 2), (.invokevirtual 46, 3), (.iload 5, 2), (.if_icmp .ge 14, 3), (.aload_n 0, 1), (.iload 4, 2), (.iconst 1, 1), (.iadd, 1), (.iload 5, 2), (.iload_n 3, 1), (.invokevirtual 33, 3), (.return_, 1)]
set_option maxHeartbeats 4000000 in
set_option maxRecDepth 100000 in
theorem dt_Calls_enter : g_dc (g_b M_Calls_enter) 0 dl_Calls_enter = true := by decide +kernel
def M_Job_control : gM := (⟨"BandPress$Job", "control", "(I)V"⟩, prog_4_method_17_code, none, 5, { frames := 3, cells := 0, slots := 0, locals := 69 }, false, false, none)
def dl_Job_control : List (Instr × Nat) := [(.aload_n 0, 1), (.getfield 35, 3), (.iconst 0, 1), (.invokevirtual 149, 3), (.istore_n 2, 1), (.aload_n 0, 1), (.getfield 35, 3), (.iconst 1, 1), (.invokevirtual 149, 3), (.istore_n 3, 1), (.aload_n 0, 1), (.getfield 35, 3), (.iconst 2, 1), (.invokevirtual 149, 3), (.istore 4, 2), (.iload_n 1, 1), (.bipush 81, 2), (.if_icmp .ne 13, 3), (.aload_n 0, 1), (.getfield 21, 3), (.invokevirtual 261, 3), (.goto 68, 3), (.iload_n 1, 1), (.bipush 63, 2), (.if_icmp .ne 36, 3), (.aload_n 0, 1), (.getfield 35, 3), (.iconst 3, 1), (.invokevirtual 75, 3), (.aload_n 0, 1), (.getfield 21, 3), (.aload_n 0, 1), (.getfield 12, 3), (.iload 4, 2), (.ifCond .eq 7, 3), (.iload_n 3, 1), (.goto 4, 3), (.iload_n 2, 1), (.iconst 0, 1), (.invokevirtual 264, 3), (.goto 29, 3), (.aload_n 0, 1), (.getfield 35, 3), (.iconst 2, 1), (.invokevirtual 75, 3), (.iload_n 3, 1), (.iconst 1, 1), (.if_icmp .lt 16, 3), (.aload_n 0, 1), (.getfield 21, 3), (.aload_n 0, 1), (.getfield 12, 3), (.iload_n 2, 1), (.iload_n 3, 1), (.invokevirtual 264, 3), (.return_, 1)]
set_option maxHeartbeats 4000000 in
set_option maxRecDepth 100000 in
theorem dt_Job_control : g_dc (g_b M_Job_control) 0 dl_Job_control = true := by decide +kernel
def M_Path_close : gM := (⟨"BandPress$Path", "close", "()V"⟩, prog_9_method_6_code, none, 1, { frames := 0, cells := 0, slots := 0, locals := 0 }, false, false, none)
def dl_Path_close : List (Instr × Nat) := [(.aload_n 0, 1), (.iconst 1, 1), (.putfield 35, 3), (.return_, 1)]
set_option maxHeartbeats 4000000 in
set_option maxRecDepth 100000 in
theorem dt_Path_close : g_dc (g_b M_Path_close) 0 dl_Path_close = true := by decide +kernel
def M_Job_placedX : gM := (⟨"BandPress$Job", "placedX", "(I)I"⟩, prog_4_method_19_code, some .int, 2, { frames := 3, cells := 0, slots := 0, locals := 67 }, false, false, none)
def dl_Job_placedX : List (Instr × Nat) := [(.aload_n 0, 1), (.getfield 46, 3), (.aload_n 0, 1), (.getfield 35, 3), (.iload_n 1, 1), (.invokevirtual 149, 3), (.invokevirtual 197, 3), (.l2i, 1), (.ireturn, 1)]
set_option maxHeartbeats 4000000 in
set_option maxRecDepth 100000 in
theorem dt_Job_placedX : g_dc (g_b M_Job_placedX) 0 dl_Job_placedX = true := by decide +kernel
def M_Job_placedY : gM := (⟨"BandPress$Job", "placedY", "(I)I"⟩, prog_4_method_20_code, some .int, 2, { frames := 3, cells := 0, slots := 0, locals := 67 }, false, false, none)
def dl_Job_placedY : List (Instr × Nat) := [(.aload_n 0, 1), (.getfield 46, 3), (.aload_n 0, 1), (.getfield 35, 3), (.iload_n 1, 1), (.invokevirtual 149, 3), (.invokevirtual 202, 3), (.l2i, 1), (.ireturn, 1)]
set_option maxHeartbeats 4000000 in
set_option maxRecDepth 100000 in
theorem dt_Job_placedY : g_dc (g_b M_Job_placedY) 0 dl_Job_placedY = true := by decide +kernel
def M_Path_add : gM := (⟨"BandPress$Path", "add", "(IIZ)V"⟩, prog_9_method_12_code, none, 4, { frames := 0, cells := 0, slots := 0, locals := 0 }, false, false, none)
def dl_Path_add : List (Instr × Nat) := [(.aload_n 0, 1), (.getfield 28, 3), (.sipush 200, 3), (.if_icmp .ge 43, 3), (.aload_n 0, 1), (.getfield 9, 3), (.aload_n 0, 1), (.getfield 28, 3), (.iload_n 1, 1), (.iastore, 1), (.aload_n 0, 1), (.getfield 15, 3), (.aload_n 0, 1), (.getfield 28, 3), (.iload_n 2, 1), (.iastore, 1), (.aload_n 0, 1), (.getfield 18, 3), (.aload_n 0, 1), (.getfield 28, 3), (.iload_n 3, 1), (.bastore, 1), (.aload_n 0, 1), (.dup, 1), (.getfield 28, 3), (.iconst 1, 1), (.iadd, 1), (.putfield 28, 3), (.return_, 1)]
set_option maxHeartbeats 4000000 in
set_option maxRecDepth 100000 in
theorem dt_Path_add : g_dc (g_b M_Path_add) 0 dl_Path_add = true := by decide +kernel
def M_Path_begin : gM := (⟨"BandPress$Path", "begin", "(II)V"⟩, prog_9_method_4_code, none, 3, { frames := 1, cells := 0, slots := 0, locals := 23 }, false, false, none)
def dl_Path_begin : List (Instr × Nat) := [(.aload_n 0, 1), (.aload_n 0, 1), (.getfield 28, 3), (.putfield 32, 3), (.aload_n 0, 1), (.iconst 0, 1), (.putfield 35, 3), (.aload_n 0, 1), (.iload_n 1, 1), (.iload_n 2, 1), (.iconst 1, 1), (.invokevirtual 39, 3), (.return_, 1)]
set_option maxHeartbeats 4000000 in
set_option maxRecDepth 100000 in
theorem dt_Path_begin : g_dc (g_b M_Path_begin) 0 dl_Path_begin = true := by decide +kernel
def M_Path_goOn : gM := (⟨"BandPress$Path", "goOn", "()V"⟩, prog_9_method_11_code, none, 1, { frames := 2, cells := 0, slots := 0, locals := 45 }, false, false, none)
def dl_Path_goOn : List (Instr × Nat) := [(.aload_n 0, 1), (.getfield 35, 3), (.ifCond .eq 25, 3), (.aload_n 0, 1), (.aload_n 0, 1), (.getfield 9, 3), (.aload_n 0, 1), (.getfield 32, 3), (.iaload, 1), (.aload_n 0, 1), (.getfield 15, 3), (.aload_n 0, 1), (.getfield 32, 3), (.iaload, 1), (.invokevirtual 63, 3), (.return_, 1)]
set_option maxHeartbeats 4000000 in
set_option maxRecDepth 100000 in
theorem dt_Path_goOn : g_dc (g_b M_Path_goOn) 0 dl_Path_goOn = true := by decide +kernel
def M_Path_lineTo : gM := (⟨"BandPress$Path", "lineTo", "(II)V"⟩, prog_9_method_5_code, none, 3, { frames := 3, cells := 0, slots := 0, locals := 65 }, false, false, none)
def dl_Path_lineTo : List (Instr × Nat) := [(.aload_n 0, 1), (.invokevirtual 43, 3), (.aload_n 0, 1), (.iload_n 1, 1), (.iload_n 2, 1), (.iconst 0, 1), (.invokevirtual 39, 3), (.return_, 1)]
set_option maxHeartbeats 4000000 in
set_option maxRecDepth 100000 in
theorem dt_Path_lineTo : g_dc (g_b M_Path_lineTo) 0 dl_Path_lineTo = true := by decide +kernel
def M_Path_bend : gM := (⟨"BandPress$Path", "bend", "(III)V"⟩, prog_9_method_7_code, none, 4, { frames := 0, cells := 0, slots := 0, locals := 0 }, false, false, none)
def dl_Path_bend : List (Instr × Nat) := [(.aload_n 0, 1), (.getfield 22, 3), (.iload_n 1, 1), (.bipush 8, 2), (.imul, 1), (.iload_n 2, 1), (.iastore, 1), (.aload_n 0, 1), (.getfield 25, 3), (.iload_n 1, 1), (.bipush 8, 2), (.imul, 1), (.iload_n 3, 1), (.iastore, 1), (.return_, 1)]
set_option maxHeartbeats 4000000 in
set_option maxRecDepth 100000 in
theorem dt_Path_bend : g_dc (g_b M_Path_bend) 0 dl_Path_bend = true := by decide +kernel
def M_Path_middle : gM := (⟨"BandPress$Path", "middle", "(II)I"⟩, prog_9_method_10_code, some .int, 2, { frames := 0, cells := 0, slots := 0, locals := 0 }, false, false, none)
def dl_Path_middle : List (Instr × Nat) := [(.iload_n 0, 1), (.iload_n 1, 1), (.iadd, 1), (.iconst 1, 1), (.ishr, 1), (.ireturn, 1)]
set_option maxHeartbeats 4000000 in
set_option maxRecDepth 100000 in
theorem dt_Path_middle : g_dc (g_b M_Path_middle) 0 dl_Path_middle = true := by decide +kernel
def M_Path_halve : gM := (⟨"BandPress$Path", "halve", "([III)V"⟩, prog_9_method_9_code, none, 9, { frames := 1, cells := 0, slots := 0, locals := 21 }, false, false, none)
def dl_Path_halve : List (Instr × Nat) := [(.iload_n 2, 1), (.iconst 2, 1), (.idiv, 1), (.istore_n 3, 1), (.aload_n 0, 1), (.iload_n 1, 1), (.iaload, 1), (.aload_n 0, 1), (.iload_n 1, 1), (.iload_n 2, 1), (.iadd, 1), (.iaload, 1), (.invokestatic 60, 3), (.istore 4, 2), (.aload_n 0, 1), (.iload_n 1, 1), (.iload_n 2, 1), (.iadd, 1), (.iaload, 1), (.aload_n 0, 1), (.iload_n 1, 1), (.iconst 2, 1), (.iload_n 2, 1), (.imul, 1), (.iadd, 1), (.iaload, 1), (.invokestatic 60, 3), (.istore 5, 2), (.aload_n 0, 1), (.iload_n 1, 1), (.iconst 2, 1), (.iload_n 2, 1), (.imul, 1), (.iadd, 1), (.iaload, 1), (.aload_n 0, 1), (.iload_n 1, 1), (.iconst 3, 1), (.iload_n 2, 1), (.imul, 1), (.iadd, 1), (.iaload, 1), (.invokestatic 60, 3), (.istore 6, 2), (.iload 4, 2), (.iload 5, 2), (.invokestatic 60, 3), (.istore 7, 2), (.iload 5, 2), (.iload 6, 2), (.invokestatic 60, 3), (.istore 8, 2), (.aload_n 0, 1), (.iload_n 1, 1), (.iload_n 3, 1), (.iadd, 1), (.iload 4, 2), (.iastore, 1), (.aload_n 0, 1), (.iload_n 1, 1), (.iconst 2, 1), (.iload_n 3, 1), (.imul, 1), (.iadd, 1), (.iload 7, 2), (.iastore, 1), (.aload_n 0, 1), (.iload_n 1, 1), (.iconst 3, 1), (.iload_n 3, 1), (.imul, 1), (.iadd, 1), (.iload 7, 2), (.iload 8, 2), (.invokestatic 60, 3), (.iastore, 1), (.aload_n 0, 1), (.iload_n 1, 1), (.iconst 4, 1), (.iload_n 3, 1), (.imul, 1), (.iadd, 1), (.iload 8, 2), (.iastore, 1), (.aload_n 0, 1), (.iload_n 1, 1), (.iconst 5, 1), (.iload_n 3, 1), (.imul, 1), (.iadd, 1), (.iload 6, 2), (.iastore, 1), (.return_, 1)]
set_option maxHeartbeats 4000000 in
set_option maxRecDepth 100000 in
theorem dt_Path_halve : g_dc (g_b M_Path_halve) 0 dl_Path_halve = true := by decide +kernel
def M_Path_curve : gM := (⟨"BandPress$Path", "curve", "()V"⟩, prog_9_method_8_code, none, 4, { frames := 3, cells := 0, slots := 0, locals := 65 }, false, false, none)
def dl_Path_curve : List (Instr × Nat) := [(.aload_n 0, 1), (.invokevirtual 43, 3), (.iconst 0, 1), (.aload_n 0, 1), (.getfield 28, 3), (.iconst 1, 1), (.isub, 1), (.invokestatic 46, 3), (.istore_n 1, 1), (.aload_n 0, 1), (.iconst 0, 1), (.aload_n 0, 1), (.getfield 9, 3), (.iload_n 1, 1), (.iaload, 1), (.aload_n 0, 1), (.getfield 15, 3), (.iload_n 1, 1), (.iaload, 1), (.invokevirtual 52, 3), (.bipush 8, 2), (.istore_n 2, 1), (.iload_n 2, 1), (.iconst 1, 1), (.if_icmp .le 45, 3), (.iconst 0, 1), (.istore_n 3, 1), (.iload_n 3, 1), (.bipush 24, 2), (.if_icmp .ge 30, 3), (.aload_n 0, 1), (.getfield 22, 3), (.iload_n 3, 1), (.iload_n 2, 1), (.invokestatic 56, 3), (.aload_n 0, 1), (.getfield 25, 3), (.iload_n 3, 1), (.iload_n 2, 1), (.invokestatic 56, 3), (.iload_n 3, 1), (.iconst 3, 1), (.iload_n 2, 1), (.imul, 1), (.iadd, 1), (.istore_n 3, 1), (.goto (-30), 3), (.iload_n 2, 1), (.iconst 2, 1), (.idiv, 1), (.istore_n 2, 1), (.goto (-44), 3), (.iconst 3, 1), (.istore_n 2, 1), (.iload_n 2, 1), (.bipush 24, 2), (.if_icmp .gt 26, 3), (.aload_n 0, 1), (.aload_n 0, 1), (.getfield 22, 3), (.iload_n 2, 1), (.iaload, 1), (.aload_n 0, 1), (.getfield 25, 3), (.iload_n 2, 1), (.iaload, 1), (.iconst 0, 1), (.invokevirtual 39, 3), (.iinc 2 3, 3), (.goto (-26), 3), (.return_, 1)]
set_option maxHeartbeats 4000000 in
set_option maxRecDepth 100000 in
theorem dt_Path_curve : g_dc (g_b M_Path_curve) 0 dl_Path_curve = true := by decide +kernel
def M_Path_clear : gM := (⟨"BandPress$Path", "clear", "()V"⟩, prog_9_method_2_code, none, 1, { frames := 0, cells := 0, slots := 0, locals := 0 }, false, false, none)
def dl_Path_clear : List (Instr × Nat) := [(.aload_n 0, 1), (.iconst 0, 1), (.putfield 28, 3), (.aload_n 0, 1), (.iconst 0, 1), (.putfield 32, 3), (.aload_n 0, 1), (.iconst 0, 1), (.putfield 35, 3), (.return_, 1)]
set_option maxHeartbeats 4000000 in
set_option maxRecDepth 100000 in
theorem dt_Path_clear : g_dc (g_b M_Path_clear) 0 dl_Path_clear = true := by decide +kernel
def M_Job_draw : gM := (⟨"BandPress$Job", "draw", "(I)V"⟩, prog_4_method_18_code, none, 2, { frames := 4, cells := 0, slots := 0, locals := 88 }, false, false, none)
def dl_Job_draw : List (Instr × Nat) := [(.iload_n 1, 1), (.lookupswitch 157 #[(67, 83), (76, 63), (77, 43), (90, 147)], 43), (.aload_n 0, 1), (.getfield 53, 3), (.aload_n 0, 1), (.iconst 1, 1), (.invokevirtual 268, 3), (.aload_n 0, 1), (.iconst 0, 1), (.invokevirtual 270, 3), (.invokevirtual 272, 3), (.goto 104, 3), (.aload_n 0, 1), (.getfield 53, 3), (.aload_n 0, 1), (.iconst 1, 1), (.invokevirtual 268, 3), (.aload_n 0, 1), (.iconst 0, 1), (.invokevirtual 270, 3), (.invokevirtual 274, 3), (.goto 84, 3), (.aload_n 0, 1), (.getfield 53, 3), (.iconst 1, 1), (.aload_n 0, 1), (.iconst 5, 1), (.invokevirtual 268, 3), (.aload_n 0, 1), (.iconst 4, 1), (.invokevirtual 270, 3), (.invokevirtual 277, 3), (.aload_n 0, 1), (.getfield 53, 3), (.iconst 2, 1), (.aload_n 0, 1), (.iconst 3, 1), (.invokevirtual 268, 3), (.aload_n 0, 1), (.iconst 2, 1), (.invokevirtual 270, 3), (.invokevirtual 277, 3), (.aload_n 0, 1), (.getfield 53, 3), (.iconst 3, 1), (.aload_n 0, 1), (.iconst 1, 1), (.invokevirtual 268, 3), (.aload_n 0, 1), (.iconst 0, 1), (.invokevirtual 270, 3), (.invokevirtual 277, 3), (.aload_n 0, 1), (.getfield 53, 3), (.invokevirtual 281, 3), (.goto 20, 3), (.aload_n 0, 1), (.getfield 53, 3), (.invokevirtual 284, 3), (.goto 10, 3), (.aload_n 0, 1), (.getfield 53, 3), (.invokevirtual 88, 3), (.aload_n 0, 1), (.getfield 35, 3), (.iload_n 1, 1), (.invokestatic 135, 3), (.invokevirtual 75, 3), (.return_, 1)]
set_option maxHeartbeats 4000000 in
set_option maxRecDepth 100000 in
theorem dt_Job_draw : g_dc (g_b M_Job_draw) 0 dl_Job_draw = true := by decide +kernel
def M_Settings_cutClip : gM := (⟨"BandPress$Settings", "cutClip", "([J)V"⟩, prog_10_method_15_code, none, 3, { frames := 0, cells := 0, slots := 0, locals := 0 }, false, false, none)
def dl_Settings_cutClip : List (Instr × Nat) := [(.iconst 0, 1), (.istore_n 2, 1), (.iload_n 2, 1), (.bipush 48, 2), (.if_icmp .ge 29, 3), (.aload_n 0, 1), (.getfield 27, 3), (.aload_n 0, 1), (.getfield 39, 3), (.bipush 48, 2), (.imul, 1), (.iload_n 2, 1), (.iadd, 1), (.dup2, 1), (.laload, 1), (.aload_n 1, 1), (.iload_n 2, 1), (.laload, 1), (.land, 1), (.lastore, 1), (.iinc 2 1, 3), (.goto (-29), 3), (.return_, 1)]
set_option maxHeartbeats 4000000 in
set_option maxRecDepth 100000 in
theorem dt_Settings_cutClip : g_dc (g_b M_Settings_cutClip) 0 dl_Settings_cutClip = true := by decide +kernel
def M_Settings_save : gM := (⟨"BandPress$Settings", "save", "()V"⟩, prog_10_method_4_code, none, 2, { frames := 1, cells := 0, slots := 0, locals := 26 }, false, false, none)
def dl_Settings_save : List (Instr × Nat) := [(.aload_n 0, 1), (.getfield 39, 3), (.iconst 4, 1), (.if_icmp .ge 114, 3), (.aload_n 0, 1), (.getfield 39, 3), (.iconst 1, 1), (.iadd, 1), (.istore_n 1, 1), (.aload_n 0, 1), (.getfield 9, 3), (.iload_n 1, 1), (.aload_n 0, 1), (.getfield 9, 3), (.aload_n 0, 1), (.getfield 39, 3), (.iaload, 1), (.iastore, 1), (.aload_n 0, 1), (.getfield 15, 3), (.iload_n 1, 1), (.aload_n 0, 1), (.getfield 15, 3), (.aload_n 0, 1), (.getfield 39, 3), (.iaload, 1), (.iastore, 1), (.aload_n 0, 1), (.getfield 18, 3), (.iload_n 1, 1), (.aload_n 0, 1), (.getfield 18, 3), (.aload_n 0, 1), (.getfield 39, 3), (.iaload, 1), (.iastore, 1), (.aload_n 0, 1), (.getfield 21, 3), (.iload_n 1, 1), (.aload_n 0, 1), (.getfield 21, 3), (.aload_n 0, 1), (.getfield 39, 3), (.iaload, 1), (.iastore, 1), (.aload_n 0, 1), (.getfield 24, 3), (.iload_n 1, 1), (.aload_n 0, 1), (.getfield 24, 3), (.aload_n 0, 1), (.getfield 39, 3), (.iaload, 1), (.iastore, 1), (.aload_n 0, 1), (.getfield 27, 3), (.aload_n 0, 1), (.getfield 39, 3), (.bipush 48, 2), (.imul, 1), (.aload_n 0, 1), (.getfield 27, 3), (.iload_n 1, 1), (.bipush 48, 2), (.imul, 1), (.bipush 48, 2), (.invokestatic 43, 3), (.aload_n 0, 1), (.iload_n 1, 1), (.putfield 39, 3), (.return_, 1)]
set_option maxHeartbeats 4000000 in
set_option maxRecDepth 100000 in
theorem dt_Settings_save : g_dc (g_b M_Settings_save) 0 dl_Settings_save = true := by decide +kernel
def M_Settings_move : gM := (⟨"BandPress$Settings", "move", "(II)V"⟩, prog_10_method_10_code, none, 3, { frames := 3, cells := 0, slots := 0, locals := 67 }, false, false, none)
def dl_Settings_move : List (Instr × Nat) := [(.aload_n 0, 1), (.getfield 18, 3), (.aload_n 0, 1), (.getfield 39, 3), (.aload_n 0, 1), (.iload_n 1, 1), (.invokevirtual 64, 3), (.l2i, 1), (.iastore, 1), (.aload_n 0, 1), (.getfield 21, 3), (.aload_n 0, 1), (.getfield 39, 3), (.aload_n 0, 1), (.iload_n 2, 1), (.invokevirtual 67, 3), (.l2i, 1), (.iastore, 1), (.return_, 1)]
set_option maxHeartbeats 4000000 in
set_option maxRecDepth 100000 in
theorem dt_Settings_move : g_dc (g_b M_Settings_move) 0 dl_Settings_move = true := by decide +kernel
def M_Settings_stretch : gM := (⟨"BandPress$Settings", "stretch", "(II)V"⟩, prog_10_method_11_code, none, 3, { frames := 2, cells := 0, slots := 0, locals := 46 }, false, false, none)
def dl_Settings_stretch : List (Instr × Nat) := [(.aload_n 0, 1), (.getfield 9, 3), (.aload_n 0, 1), (.getfield 39, 3), (.aload_n 0, 1), (.iload_n 1, 1), (.invokevirtual 57, 3), (.l2i, 1), (.iastore, 1), (.aload_n 0, 1), (.getfield 15, 3), (.aload_n 0, 1), (.getfield 39, 3), (.aload_n 0, 1), (.iload_n 2, 1), (.invokevirtual 61, 3), (.l2i, 1), (.iastore, 1), (.return_, 1)]
set_option maxHeartbeats 4000000 in
set_option maxRecDepth 100000 in
theorem dt_Settings_stretch : g_dc (g_b M_Settings_stretch) 0 dl_Settings_stretch = true := by decide +kernel
def M_Arrays_fill : gM := (⟨"java/util/Arrays", "fill", "([JJ)V"⟩, prog_27_method_101_code, none, 5, { frames := 0, cells := 0, slots := 0, locals := 0 }, false, false, none)
def dl_Arrays_fill : List (Instr × Nat) := [(.iconst 0, 1), (.istore_n 3, 1), (.aload_n 0, 1), (.arraylength, 1), (.istore 4, 2), (.iload_n 3, 1), (.iload 4, 2), (.if_icmp .ge 13, 3), (.aload_n 0, 1), (.iload_n 3, 1), (.lload_n 1, 1), (.lastore, 1), (.iinc 3 1, 3), (.goto (-13), 3), (.return_, 1)]
set_option maxHeartbeats 4000000 in
set_option maxRecDepth 100000 in
theorem dt_Arrays_fill : g_dc (g_b M_Arrays_fill) 0 dl_Arrays_fill = true := by decide +kernel
def M_Pages_clean : gM := (⟨"BandPress$Pages", "clean", "()V"⟩, prog_8_method_9_code, none, 1, { frames := 1, cells := 0, slots := 0, locals := 24 }, false, false, none)
def dl_Pages_clean : List (Instr × Nat) := [(.aload_n 0, 1), (.getfield 15, 3), (.lconst 0, 1), (.invokestatic 64, 3), (.aload_n 0, 1), (.iconst 0, 1), (.putfield 49, 3), (.return_, 1)]
set_option maxHeartbeats 4000000 in
set_option maxRecDepth 100000 in
theorem dt_Pages_clean : g_dc (g_b M_Pages_clean) 0 dl_Pages_clean = true := by decide +kernel
def M_Pages_keep : gM := (⟨"BandPress$Pages", "keep", "()V"⟩, prog_8_method_6_code, none, 1, { frames := 2, cells := 0, slots := 0, locals := 44 }, false, false, none)
def dl_Pages_keep : List (Instr × Nat) := [(.aload_n 0, 1), (.getfield 18, 3), (.bipush 8, 2), (.if_icmp .ge 38, 3), (.aload_n 0, 1), (.getfield 15, 3), (.iconst 0, 1), (.aload_n 0, 1), (.getfield 9, 3), (.aload_n 0, 1), (.getfield 18, 3), (.bipush 48, 2), (.imul, 1), (.bipush 48, 2), (.invokestatic 29, 3), (.aload_n 0, 1), (.dup, 1), (.getfield 18, 3), (.iconst 1, 1), (.iadd, 1), (.putfield 18, 3), (.aload_n 0, 1), (.invokevirtual 22, 3), (.return_, 1)]
set_option maxHeartbeats 4000000 in
set_option maxRecDepth 100000 in
theorem dt_Pages_keep : g_dc (g_b M_Pages_keep) 0 dl_Pages_keep = true := by decide +kernel
def M_Settings_setGrey : gM := (⟨"BandPress$Settings", "setGrey", "(I)V"⟩, prog_10_method_13_code, none, 2, { frames := 0, cells := 0, slots := 0, locals := 0 }, false, false, none)
def dl_Settings_setGrey : List (Instr × Nat) := [(.aload_n 0, 1), (.getfield 24, 3), (.aload_n 0, 1), (.getfield 39, 3), (.iload_n 1, 1), (.iastore, 1), (.return_, 1)]
set_option maxHeartbeats 4000000 in
set_option maxRecDepth 100000 in
theorem dt_Settings_setGrey : g_dc (g_b M_Settings_setGrey) 0 dl_Settings_setGrey = true := by decide +kernel
def M_Pages_dots : gM := (⟨"BandPress$Pages", "dots", "(II)J"⟩, prog_8_method_10_code, some .long, 5, { frames := 0, cells := 0, slots := 0, locals := 0 }, false, false, none)
def dl_Pages_dots : List (Instr × Nat) := [(.lconst 0, 1), (.lstore_n 2, 1), (.iconst 0, 1), (.istore 4, 2), (.iload 4, 2), (.iconst 4, 1), (.if_icmp .ge 35, 3), (.lload_n 2, 1), (.iconst 1, 1), (.lshl, 1), (.getstatic 70, 3), (.iload_n 0, 1), (.iconst 4, 1), (.irem, 1), (.iconst 4, 1), (.imul, 1), (.iload 4, 2), (.iadd, 1), (.iaload, 1), (.iload_n 1, 1), (.if_icmp .ge 7, 3), (.lconst 1, 1), (.goto 4, 3), (.lconst 0, 1), (.lor, 1), (.lstore_n 2, 1), (.iinc 4 1, 3), (.goto (-35), 3), (.lload_n 2, 1), (.ldc2_w 74, 3), (.lmul, 1), (.lreturn, 1)]
set_option maxHeartbeats 4000000 in
set_option maxRecDepth 100000 in
theorem dt_Pages_dots : g_dc (g_b M_Pages_dots) 0 dl_Pages_dots = true := by decide +kernel
def M_Pages_paint : gM := (⟨"BandPress$Pages", "paint", "([JLBandPress$Settings;)V"⟩, prog_8_method_8_code, none, 6, { frames := 2, cells := 0, slots := 0, locals := 46 }, false, false, none)
def dl_Pages_paint : List (Instr × Nat) := [(.aload_n 0, 1), (.dup, 1), (.getfield 49, 3), (.aload_n 1, 1), (.aload_n 2, 1), (.invokestatic 52, 3), (.iadd, 1), (.putfield 49, 3), (.iconst 0, 1), (.istore_n 3, 1), (.iload_n 3, 1), (.bipush 48, 2), (.if_icmp .ge 51, 3), (.aload_n 1, 1), (.iload_n 3, 1), (.laload, 1), (.aload_n 2, 1), (.iload_n 3, 1), (.invokevirtual 35, 3), (.land, 1), (.lstore 4, 2), (.aload_n 0, 1), (.getfield 15, 3), (.iload_n 3, 1), (.aload_n 0, 1), (.getfield 15, 3), (.iload_n 3, 1), (.laload, 1), (.lload 4, 2), (.ldc2_w 41, 3), (.lxor, 1), (.land, 1), (.lload 4, 2), (.iload_n 3, 1), (.aload_n 2, 1), (.invokevirtual 56, 3), (.invokestatic 60, 3), (.land, 1), (.lor, 1), (.lastore, 1), (.iinc 3 1, 3), (.goto (-51), 3), (.return_, 1)]
set_option maxHeartbeats 4000000 in
set_option maxRecDepth 100000 in
theorem dt_Pages_paint : g_dc (g_b M_Pages_paint) 0 dl_Pages_paint = true := by decide +kernel
def M_Settings_takeBack : gM := (⟨"BandPress$Settings", "takeBack", "()V"⟩, prog_10_method_5_code, none, 1, { frames := 0, cells := 0, slots := 0, locals := 0 }, false, false, none)
def dl_Settings_takeBack : List (Instr × Nat) := [(.aload_n 0, 1), (.getfield 39, 3), (.ifCond .le 13, 3), (.aload_n 0, 1), (.dup, 1), (.getfield 39, 3), (.iconst 1, 1), (.isub, 1), (.putfield 39, 3), (.return_, 1)]
set_option maxHeartbeats 4000000 in
set_option maxRecDepth 100000 in
theorem dt_Settings_takeBack : g_dc (g_b M_Settings_takeBack) 0 dl_Settings_takeBack = true := by decide +kernel
def M_Job_use : gM := (⟨"BandPress$Job", "use", "(I)V"⟩, prog_4_method_21_code, none, 2, { frames := 4, cells := 0, slots := 0, locals := 109 }, false, false, none)
def dl_Job_use : List (Instr × Nat) := [(.iload_n 1, 1), (.tableswitch 252 69 87 #[91, 91, 224, 252, 252, 252, 252, 252, 252, 252, 252, 155, 252, 252, 198, 172, 242, 252, 119], 91), (.aload_n 0, 1), (.getfield 60, 3), (.aload_n 0, 1), (.getfield 28, 3), (.getfield 221, 3), (.aload_n 0, 1), (.getfield 46, 3), (.invokevirtual 287, 3), (.aload_n 0, 1), (.getfield 53, 3), (.invokevirtual 88, 3), (.goto 143, 3), (.aload_n 0, 1), (.getfield 28, 3), (.aload_n 0, 1), (.getfield 53, 3), (.iconst 0, 1), (.invokevirtual 214, 3), (.aload_n 0, 1), (.getfield 46, 3), (.aload_n 0, 1), (.getfield 28, 3), (.getfield 221, 3), (.invokevirtual 291, 3), (.aload_n 0, 1), (.getfield 53, 3), (.invokevirtual 88, 3), (.goto 107, 3), (.aload_n 0, 1), (.getfield 60, 3), (.invokevirtual 295, 3), (.aload_n 0, 1), (.getfield 53, 3), (.invokevirtual 88, 3), (.goto 90, 3), (.aload_n 0, 1), (.getfield 46, 3), (.aload_n 0, 1), (.getfield 35, 3), (.iconst 1, 1), (.invokevirtual 149, 3), (.aload_n 0, 1), (.getfield 35, 3), (.iconst 0, 1), (.invokevirtual 149, 3), (.invokevirtual 298, 3), (.goto 64, 3), (.aload_n 0, 1), (.getfield 46, 3), (.aload_n 0, 1), (.getfield 35, 3), (.iconst 1, 1), (.invokevirtual 149, 3), (.aload_n 0, 1), (.getfield 35, 3), (.iconst 0, 1), (.invokevirtual 149, 3), (.invokevirtual 301, 3), (.goto 38, 3), (.aload_n 0, 1), (.getfield 46, 3), (.aload_n 0, 1), (.getfield 35, 3), (.iconst 0, 1), (.invokevirtual 149, 3), (.invokevirtual 304, 3), (.goto 20, 3), (.aload_n 0, 1), (.getfield 46, 3), (.invokevirtual 307, 3), (.goto 10, 3), (.aload_n 0, 1), (.getfield 46, 3), (.invokevirtual 310, 3), (.aload_n 0, 1), (.getfield 35, 3), (.iload_n 1, 1), (.invokestatic 135, 3), (.invokevirtual 75, 3), (.return_, 1)]
set_option maxHeartbeats 4000000 in
set_option maxRecDepth 100000 in
theorem dt_Job_use : g_dc (g_b M_Job_use) 0 dl_Job_use = true := by decide +kernel
def M_Job_reckon : gM := (⟨"BandPress$Job", "reckon", "(I)V"⟩, prog_4_method_22_code, none, 5, { frames := 2, cells := 0, slots := 0, locals := 46 }, false, false, none)
def dl_Job_reckon : List (Instr × Nat) := [(.aload_n 0, 1), (.getfield 35, 3), (.iconst 0, 1), (.invokevirtual 149, 3), (.istore_n 2, 1), (.aload_n 0, 1), (.getfield 35, 3), (.iconst 1, 1), (.invokevirtual 149, 3), (.istore_n 3, 1), (.aload_n 0, 1), (.iload_n 1, 1), (.invokevirtual 174, 3), (.l2i, 1), (.istore 4, 2), (.iload_n 1, 1), (.bipush 68, 2), (.if_icmp .eq 14, 3), (.aload_n 0, 1), (.getfield 35, 3), (.iload_n 1, 1), (.invokestatic 135, 3), (.invokevirtual 75, 3), (.iload_n 1, 1), (.lookupswitch 89 #[(68, 47), (79, 44), (88, 58), (126, 77)], 44), (.goto 54, 3), (.aload_n 0, 1), (.getfield 35, 3), (.iload_n 2, 1), (.invokevirtual 232, 3), (.goto 43, 3), (.aload_n 0, 1), (.getfield 35, 3), (.iload_n 2, 1), (.invokevirtual 232, 3), (.aload_n 0, 1), (.getfield 35, 3), (.iload_n 3, 1), (.invokevirtual 232, 3), (.goto 24, 3), (.aload_n 0, 1), (.getfield 35, 3), (.iload_n 2, 1), (.ineg, 1), (.invokevirtual 232, 3), (.goto 12, 3), (.aload_n 0, 1), (.getfield 35, 3), (.iload 4, 2), (.invokevirtual 232, 3), (.return_, 1)]
set_option maxHeartbeats 4000000 in
set_option maxRecDepth 100000 in
theorem dt_Job_reckon : g_dc (g_b M_Job_reckon) 0 dl_Job_reckon = true := by decide +kernel
def M_Job_perform : gM := (⟨"BandPress$Job", "perform", "(II)V"⟩, prog_4_method_15_code, none, 3, { frames := 5, cells := 0, slots := 0, locals := 130 }, false, false, none)
def dl_Job_perform : List (Instr × Nat) := [(.iload_n 1, 1), (.invokestatic 205, 3), (.ifCond .eq 21, 3), (.aload_n 0, 1), (.getfield 35, 3), (.aload_n 0, 1), (.getfield 12, 3), (.iload_n 2, 1), (.invokevirtual 229, 3), (.invokevirtual 232, 3), (.goto 128, 3), (.iload_n 1, 1), (.invokestatic 208, 3), (.ifCond .eq 22, 3), (.aload_n 0, 1), (.getfield 35, 3), (.aload_n 0, 1), (.getfield 39, 3), (.iload_n 1, 1), (.bipush 97, 2), (.isub, 1), (.iaload, 1), (.invokevirtual 232, 3), (.goto 102, 3), (.iload_n 1, 1), (.bipush 123, 2), (.if_icmp .ne 17, 3), (.aload_n 0, 1), (.getfield 35, 3), (.ldc 235, 2), (.iload_n 2, 1), (.iadd, 1), (.invokevirtual 232, 3), (.goto 82, 3), (.iload_n 1, 1), (.bipush 58, 2), (.if_icmp .ne 20, 3), (.aload_n 0, 1), (.aload_n 0, 1), (.getfield 12, 3), (.iload_n 2, 1), (.iconst 1, 1), (.iadd, 1), (.invokevirtual 112, 3), (.invokevirtual 236, 3), (.goto 59, 3), (.ldc 239, 2), (.iload_n 1, 1), (.invokestatic 241, 3), (.ifCond .eq 11, 3), (.aload_n 0, 1), (.iload_n 1, 1), (.invokevirtual 245, 3), (.goto 42, 3), (.ldc 248, 2), (.iload_n 1, 1), (.invokestatic 241, 3), (.ifCond .eq 11, 3), (.aload_n 0, 1), (.iload_n 1, 1), (.invokevirtual 250, 3), (.goto 25, 3), (.ldc 253, 2), (.iload_n 1, 1), (.invokestatic 241, 3), (.ifCond .eq 11, 3), (.aload_n 0, 1), (.iload_n 1, 1), (.invokevirtual 255, 3), (.goto 8, 3), (.aload_n 0, 1), (.iload_n 1, 1), (.invokevirtual 258, 3), (.return_, 1)]
set_option maxHeartbeats 4000000 in
set_option maxRecDepth 100000 in
theorem dt_Job_perform : g_dc (g_b M_Job_perform) 0 dl_Job_perform = true := by decide +kernel
def M_Calls_settle : gM := (⟨"BandPress$Calls", "settle", "(LBandPress$Text;)V"⟩, prog_2_method_10_code, none, 3, { frames := 2, cells := 0, slots := 0, locals := 44 }, false, false, none)
def dl_Calls_settle : List (Instr × Nat) := [(.aload_n 0, 1), (.getfield 24, 3), (.istore_n 2, 1), (.iload_n 2, 1), (.ifCond .lt 100, 3), (.aload_n 0, 1), (.getfield 9, 3), (.iload_n 2, 1), (.aload_n 1, 1), (.aload_n 0, 1), (.getfield 9, 3), (.iload_n 2, 1), (.iaload, 1), (.aload_n 0, 1), (.getfield 18, 3), (.iload_n 2, 1), (.iaload, 1), (.invokevirtual 46, 3), (.iastore, 1), (.aload_n 0, 1), (.getfield 9, 3), (.iload_n 2, 1), (.iaload, 1), (.aload_n 0, 1), (.getfield 18, 3), (.iload_n 2, 1), (.iaload, 1), (.if_icmp .ge 4, 3), (.return_, 1), (.aload_n 0, 1), (.getfield 21, 3), (.iload_n 2, 1), (.iaload, 1), (.iconst 1, 1), (.if_icmp .le 36, 3), (.aload_n 0, 1), (.getfield 21, 3), (.iload_n 2, 1), (.dup2, 1), (.iaload, 1), (.iconst 1, 1), (.isub, 1), (.iastore, 1), (.aload_n 0, 1), (.getfield 9, 3), (.iload_n 2, 1), (.aload_n 1, 1), (.aload_n 0, 1), (.getfield 15, 3), (.iload_n 2, 1), (.iaload, 1), (.aload_n 0, 1), (.getfield 18, 3), (.iload_n 2, 1), (.iaload, 1), (.invokevirtual 46, 3), (.iastore, 1), (.return_, 1), (.aload_n 0, 1), (.dup, 1), (.getfield 24, 3), (.iconst 1, 1), (.isub, 1), (.putfield 24, 3), (.iinc 2 (-1), 3), (.goto (-98), 3), (.return_, 1)]
set_option maxHeartbeats 4000000 in
set_option maxRecDepth 100000 in
theorem dt_Calls_settle : g_dc (g_b M_Calls_settle) 0 dl_Calls_settle = true := by decide +kernel
def M_Job_step : gM := (⟨"BandPress$Job", "step", "()V"⟩, prog_4_method_5_code, none, 3, { frames := 6, cells := 0, slots := 0, locals := 152 }, false, false, none)
def dl_Job_step : List (Instr × Nat) := [(.aload_n 0, 1), (.getfield 21, 3), (.invokevirtual 108, 3), (.istore_n 1, 1), (.aload_n 0, 1), (.getfield 12, 3), (.iload_n 1, 1), (.invokevirtual 112, 3), (.istore_n 2, 1), (.aload_n 0, 1), (.aload_n 0, 1), (.iload_n 2, 1), (.invokevirtual 116, 3), (.putfield 92, 3), (.aload_n 0, 1), (.getfield 92, 3), (.ifCond .eq 14, 3), (.aload_n 0, 1), (.iload_n 1, 1), (.putfield 95, 3), (.aload_n 0, 1), (.iconst 2, 1), (.putfield 64, 3), (.return_, 1), (.aload_n 0, 1), (.getfield 21, 3), (.aload_n 0, 1), (.getfield 12, 3), (.iload_n 1, 1), (.invokevirtual 119, 3), (.invokevirtual 122, 3), (.aload_n 0, 1), (.iload_n 2, 1), (.iload_n 1, 1), (.invokevirtual 125, 3), (.aload_n 0, 1), (.dup, 1), (.getfield 98, 3), (.iconst 1, 1), (.iadd, 1), (.putfield 98, 3), (.aload_n 0, 1), (.getfield 21, 3), (.aload_n 0, 1), (.getfield 12, 3), (.invokevirtual 129, 3), (.aload_n 0, 1), (.invokevirtual 132, 3), (.return_, 1)]
set_option maxHeartbeats 4000000 in
set_option maxRecDepth 100000 in
theorem dt_Job_step : g_dc (g_b M_Job_step) 0 dl_Job_step = true := by decide +kernel
def M_Order_complete : gM := (⟨"BandPress$Order", "complete", "(I)V"⟩, prog_6_method_3_code, none, 2, { frames := 1, cells := 0, slots := 0, locals := 21 }, false, false, none)
def dl_Order_complete : List (Instr × Nat) := [(.aload_n 0, 1), (.iload_n 1, 1), (.putfield 27, 3), (.aload_n 0, 1), (.aload_n 0, 1), (.getfield 23, 3), (.ifCond .eq 14, 3), (.aload_n 0, 1), (.getfield 27, 3), (.iconst 1, 1), (.iadd, 1), (.iconst 2, 1), (.idiv, 1), (.goto 7, 3), (.aload_n 0, 1), (.getfield 27, 3), (.putfield 30, 3), (.aload_n 0, 1), (.aload_n 0, 1), (.getfield 19, 3), (.aload_n 0, 1), (.getfield 30, 3), (.imul, 1), (.bipush 32, 2), (.invokestatic 39, 3), (.putfield 33, 3), (.return_, 1)]
set_option maxHeartbeats 4000000 in
set_option maxRecDepth 100000 in
theorem dt_Order_complete : g_dc (g_b M_Order_complete) 0 dl_Order_complete = true := by decide +kernel
def M_B_run : gM := (⟨"BandPress", "run", "(I)I"⟩, prog_1_method_4_code, some .int, 3, { frames := 7, cells := 1, slots := 6, locals := 174 }, false, false, none)
def dl_B_run : List (Instr × Nat) := [(.aload_n 0, 1), (.getfield 19, 3), (.invokevirtual 50, 3), (.ifCond .ne 11, 3), (.new 71, 3), (.dup, 1), (.invokespecial 73, 3), (.athrow, 1), (.iload_n 1, 1), (.iconst 1, 1), (.if_icmp .lt 10, 3), (.iload_n 1, 1), (.sipush 5000, 3), (.if_icmp .le 11, 3), (.new 74, 3), (.dup, 1), (.invokespecial 76, 3), (.athrow, 1), (.aload_n 0, 1), (.getfield 19, 3), (.invokevirtual 77, 3), (.iconst 0, 1), (.istore_n 2, 1), (.iload_n 2, 1), (.iload_n 1, 1), (.if_icmp .ge 26, 3), (.aload_n 0, 1), (.getfield 19, 3), (.invokevirtual 50, 3), (.ifCond .eq 16, 3), (.aload_n 0, 1), (.getfield 19, 3), (.invokevirtual 80, 3), (.iinc 2 1, 3), (.goto (-25), 3), (.aload_n 0, 1), (.getfield 19, 3), (.invokevirtual 50, 3), (.ifCond .eq 5, 3), (.iconst 0, 1), (.ireturn, 1), (.aload_n 0, 1), (.getfield 26, 3), (.aload_n 0, 1), (.getfield 19, 3), (.getfield 83, 3), (.getfield 87, 3), (.invokevirtual 93, 3), (.aload_n 0, 1), (.getfield 19, 3), (.getfield 97, 3), (.ifCond .ne 7, 3), (.iconst 1, 1), (.goto 4, 3), (.iconst 2, 1), (.ireturn, 1)]
set_option maxHeartbeats 4000000 in
set_option maxRecDepth 100000 in
theorem dt_B_run : g_dc (g_b M_B_run) 0 dl_B_run = true := by decide +kernel
def M_Machine_isSection : gM := (⟨"BandPress$Machine", "isSection", "(I)Z"⟩, prog_5_method_2_code, some .boolean, 1, { frames := 0, cells := 0, slots := 0, locals := 0 }, false, false, none)
def dl_Machine_isSection : List (Instr × Nat) := [(.iload_n 0, 1), (.ifCond .lt 12, 3), (.iload_n 0, 1), (.iconst 4, 1), (.if_icmp .ge 7, 3), (.iconst 1, 1), (.goto 4, 3), (.iconst 0, 1), (.ireturn, 1)]
set_option maxHeartbeats 4000000 in
set_option maxRecDepth 100000 in
theorem dt_Machine_isSection : g_dc (g_b M_Machine_isSection) 0 dl_Machine_isSection = true := by decide +kernel
def M_B_section : gM := (⟨"BandPress", "section", "(II)I"⟩, prog_1_method_16_code, some .int, 3, { frames := 1, cells := 0, slots := 0, locals := 20 }, false, false, none)
def dl_B_section : List (Instr × Nat) := [(.iload_n 1, 1), (.invokestatic 169, 3), (.ifCond .ne 5, 3), (.iconst (-1), 1), (.ireturn, 1), (.iload_n 2, 1), (.tableswitch 64 0 2 #[26, 36, 46], 26), (.aload_n 0, 1), (.getfield 35, 3), (.getfield 186, 3), (.iload_n 1, 1), (.iaload, 1), (.ireturn, 1), (.aload_n 0, 1), (.getfield 35, 3), (.getfield 189, 3), (.iload_n 1, 1), (.iaload, 1), (.ireturn, 1), (.aload_n 0, 1), (.getfield 35, 3), (.getfield 172, 3), (.iload_n 1, 1), (.baload, 1), (.ifCond .eq 7, 3), (.iconst 1, 1), (.goto 4, 3), (.iconst 0, 1), (.ireturn, 1), (.iconst (-1), 1), (.ireturn, 1)]
set_option maxHeartbeats 4000000 in
set_option maxRecDepth 100000 in
theorem dt_B_section : g_dc (g_b M_B_section) 0 dl_B_section = true := by decide +kernel
def M_Text_isWord : gM := (⟨"BandPress$Text", "isWord", "(I)Z"⟩, prog_11_method_14_code, some .boolean, 1, { frames := 5, cells := 0, slots := 0, locals := 112 }, false, false, none)
def dl_Text_isWord : List (Instr × Nat) := [(.iload_n 0, 1), (.invokestatic 33, 3), (.ifCond .ne 46, 3), (.iload_n 0, 1), (.invokestatic 37, 3), (.ifCond .ne 39, 3), (.ldc 59, 2), (.iload_n 0, 1), (.invokestatic 61, 3), (.ifCond .ne 30, 3), (.ldc 65, 2), (.iload_n 0, 1), (.invokestatic 61, 3), (.ifCond .ne 21, 3), (.ldc 67, 2), (.iload_n 0, 1), (.invokestatic 61, 3), (.ifCond .ne 12, 3), (.ldc 69, 2), (.iload_n 0, 1), (.invokestatic 61, 3), (.ifCond .eq 7, 3), (.iconst 1, 1), (.goto 4, 3), (.iconst 0, 1), (.ireturn, 1)]
set_option maxHeartbeats 4000000 in
set_option maxRecDepth 100000 in
theorem dt_Text_isWord : g_dc (g_b M_Text_isWord) 0 dl_Text_isWord = true := by decide +kernel
def M_Text_fault : gM := (⟨"BandPress$Text", "fault", "()I"⟩, prog_11_method_4_code, some .int, 7, { frames := 6, cells := 0, slots := 0, locals := 132 }, false, false, none)
def dl_Text_fault : List (Instr × Nat) := [(.iconst 0, 1), (.istore_n 1, 1), (.iconst 0, 1), (.istore_n 2, 1), (.iconst 0, 1), (.istore_n 3, 1), (.iconst 0, 1), (.istore 4, 2), (.iload 4, 2), (.aload_n 0, 1), (.getfield 21, 3), (.if_icmp .ge 115, 3), (.aload_n 0, 1), (.getfield 9, 3), (.iload 4, 2), (.iaload, 1), (.istore 5, 2), (.iload 5, 2), (.invokestatic 33, 3), (.ifCond .eq 9, 3), (.iload_n 2, 1), (.iconst 1, 1), (.iadd, 1), (.goto 4, 3), (.iconst 0, 1), (.istore_n 2, 1), (.iload_n 1, 1), (.iload 5, 2), (.bipush 123, 2), (.if_icmp .ne 7, 3), (.iconst 1, 1), (.goto 15, 3), (.iload 5, 2), (.bipush 125, 2), (.if_icmp .ne 7, 3), (.iconst (-1), 1), (.goto 4, 3), (.iconst 0, 1), (.iadd, 1), (.istore_n 1, 1), (.iload_n 3, 1), (.ifCond .eq 11, 3), (.iload 5, 2), (.invokestatic 37, 3), (.goto 8, 3), (.iload 5, 2), (.invokestatic 40, 3), (.istore 6, 2), (.iload 6, 2), (.ifCond .eq 18, 3), (.iload_n 2, 1), (.iconst 5, 1), (.if_icmp .gt 13, 3), (.iload_n 1, 1), (.ifCond .lt 9, 3), (.iload_n 1, 1), (.bipush 8, 2), (.if_icmp .le 6, 3), (.iload 4, 2), (.ireturn, 1), (.iload 5, 2), (.bipush 58, 2), (.if_icmp .ne 7, 3), (.iconst 1, 1), (.goto 4, 3), (.iconst 0, 1), (.istore_n 3, 1), (.iinc 4 1, 3), (.goto (-118), 3), (.iload_n 1, 1), (.ifCond .gt 7, 3), (.iload_n 3, 1), (.ifCond .eq 10, 3), (.aload_n 0, 1), (.getfield 21, 3), (.goto 4, 3), (.iconst (-1), 1), (.ireturn, 1)]
set_option maxHeartbeats 4000000 in
set_option maxRecDepth 100000 in
theorem dt_Text_fault : g_dc (g_b M_Text_fault) 0 dl_Text_fault = true := by decide +kernel
def M_Text_copy : gM := (⟨"BandPress$Text", "copy", "(LBandPress$Text;)V"⟩, prog_11_method_5_code, none, 4, { frames := 1, cells := 0, slots := 0, locals := 26 }, false, false, none)
def dl_Text_copy : List (Instr × Nat) := [(.aload_n 0, 1), (.aload_n 1, 1), (.getfield 21, 3), (.putfield 21, 3), (.aload_n 1, 1), (.getfield 9, 3), (.iconst 0, 1), (.aload_n 0, 1), (.getfield 9, 3), (.iconst 0, 1), (.aload_n 0, 1), (.getfield 21, 3), (.invokestatic 43, 3), (.iconst 0, 1), (.istore_n 2, 1), (.iconst 0, 1), (.istore_n 3, 1), (.iload_n 3, 1), (.aload_n 0, 1), (.getfield 21, 3), (.if_icmp .ge 69, 3), (.aload_n 0, 1), (.getfield 9, 3), (.iload_n 3, 1), (.iaload, 1), (.bipush 123, 2), (.if_icmp .ne 22, 3), (.iload_n 2, 1), (.bipush 8, 2), (.if_icmp .ge 16, 3), (.aload_n 0, 1), (.getfield 18, 3), (.iload_n 2, 1), (.iload_n 3, 1), (.iastore, 1), (.iinc 2 1, 3), (.goto 33, 3), (.aload_n 0, 1), (.getfield 9, 3), (.iload_n 3, 1), (.iaload, 1), (.bipush 125, 2), (.if_icmp .ne 22, 3), (.iload_n 2, 1), (.ifCond .le 18, 3), (.iinc 2 (-1), 3), (.aload_n 0, 1), (.getfield 15, 3), (.aload_n 0, 1), (.getfield 18, 3), (.iload_n 2, 1), (.iaload, 1), (.iload_n 3, 1), (.iastore, 1), (.iinc 3 1, 3), (.goto (-71), 3), (.return_, 1)]
set_option maxHeartbeats 4000000 in
set_option maxRecDepth 100000 in
theorem dt_Text_copy : g_dc (g_b M_Text_copy) 0 dl_Text_copy = true := by decide +kernel
def M_Calls_begin : gM := (⟨"BandPress$Calls", "begin", "(LBandPress$Text;)V"⟩, prog_2_method_2_code, none, 2, { frames := 3, cells := 0, slots := 0, locals := 66 }, false, false, none)
def dl_Calls_begin : List (Instr × Nat) := [(.aload_n 0, 1), (.iconst (-1), 1), (.putfield 24, 3), (.aload_n 0, 1), (.iconst 0, 1), (.aload_n 1, 1), (.getfield 28, 3), (.iconst 0, 1), (.invokevirtual 33, 3), (.aload_n 0, 1), (.aload_n 1, 1), (.invokevirtual 37, 3), (.return_, 1)]
set_option maxHeartbeats 4000000 in
set_option maxRecDepth 100000 in
theorem dt_Calls_begin : g_dc (g_b M_Calls_begin) 0 dl_Calls_begin = true := by decide +kernel
def M_Arrays_fill1 : gM := (⟨"java/util/Arrays", "fill", "([II)V"⟩, prog_27_method_103_code, none, 4, { frames := 0, cells := 0, slots := 0, locals := 0 }, false, false, none)
def dl_Arrays_fill1 : List (Instr × Nat) := [(.iconst 0, 1), (.istore_n 2, 1), (.aload_n 0, 1), (.arraylength, 1), (.istore_n 3, 1), (.iload_n 2, 1), (.iload_n 3, 1), (.if_icmp .ge 13, 3), (.aload_n 0, 1), (.iload_n 2, 1), (.iload_n 1, 1), (.iastore, 1), (.iinc 2 1, 3), (.goto (-12), 3), (.return_, 1)]
set_option maxHeartbeats 4000000 in
set_option maxRecDepth 100000 in
theorem dt_Arrays_fill1 : g_dc (g_b M_Arrays_fill1) 0 dl_Arrays_fill1 = true := by decide +kernel
def M_Settings_reset : gM := (⟨"BandPress$Settings", "reset", "()V"⟩, prog_10_method_2_code, none, 1, { frames := 1, cells := 0, slots := 0, locals := 24 }, false, false, none)
def dl_Settings_reset : List (Instr × Nat) := [(.aload_n 0, 1), (.iconst 0, 1), (.putfield 39, 3), (.aload_n 0, 1), (.getfield 9, 3), (.iconst 0, 1), (.bipush 16, 2), (.iastore, 1), (.aload_n 0, 1), (.getfield 15, 3), (.iconst 0, 1), (.bipush 16, 2), (.iastore, 1), (.aload_n 0, 1), (.getfield 18, 3), (.iconst 0, 1), (.iconst 0, 1), (.iastore, 1), (.aload_n 0, 1), (.getfield 21, 3), (.iconst 0, 1), (.iconst 0, 1), (.iastore, 1), (.aload_n 0, 1), (.getfield 24, 3), (.iconst 0, 1), (.bipush 16, 2), (.iastore, 1), (.aload_n 0, 1), (.getfield 27, 3), (.ldc2_w 31, 3), (.invokestatic 33, 3), (.return_, 1)]
set_option maxHeartbeats 4000000 in
set_option maxRecDepth 100000 in
theorem dt_Settings_reset : g_dc (g_b M_Settings_reset) 0 dl_Settings_reset = true := by decide +kernel
def M_Pages_clear : gM := (⟨"BandPress$Pages", "clear", "()V"⟩, prog_8_method_2_code, none, 1, { frames := 2, cells := 0, slots := 0, locals := 44 }, false, false, none)
def dl_Pages_clear : List (Instr × Nat) := [(.aload_n 0, 1), (.iconst 0, 1), (.putfield 18, 3), (.aload_n 0, 1), (.invokevirtual 22, 3), (.return_, 1)]
set_option maxHeartbeats 4000000 in
set_option maxRecDepth 100000 in
theorem dt_Pages_clear : g_dc (g_b M_Pages_clear) 0 dl_Pages_clear = true := by decide +kernel
def M_Job_begin : gM := (⟨"BandPress$Job", "begin", "(LBandPress$Text;I)V"⟩, prog_4_method_3_code, none, 3, { frames := 4, cells := 0, slots := 0, locals := 87 }, false, false, none)
def dl_Job_begin : List (Instr × Nat) := [(.aload_n 0, 1), (.getfield 12, 3), (.aload_n 1, 1), (.invokevirtual 68, 3), (.aload_n 0, 1), (.getfield 21, 3), (.aload_n 0, 1), (.getfield 12, 3), (.invokevirtual 72, 3), (.aload_n 0, 1), (.getfield 35, 3), (.bipush 32, 2), (.invokevirtual 75, 3), (.aload_n 0, 1), (.getfield 39, 3), (.iconst 0, 1), (.invokestatic 79, 3), (.aload_n 0, 1), (.getfield 46, 3), (.invokevirtual 85, 3), (.aload_n 0, 1), (.getfield 53, 3), (.invokevirtual 88, 3), (.aload_n 0, 1), (.getfield 60, 3), (.invokevirtual 91, 3), (.aload_n 0, 1), (.iconst 1, 1), (.putfield 64, 3), (.aload_n 0, 1), (.iconst 0, 1), (.putfield 92, 3), (.aload_n 0, 1), (.iconst 0, 1), (.putfield 95, 3), (.aload_n 0, 1), (.iconst 0, 1), (.putfield 98, 3), (.aload_n 0, 1), (.iload_n 2, 1), (.putfield 101, 3), (.return_, 1)]
set_option maxHeartbeats 4000000 in
set_option maxRecDepth 100000 in
theorem dt_Job_begin : g_dc (g_b M_Job_begin) 0 dl_Job_begin = true := by decide +kernel
def M_Order_begin : gM := (⟨"BandPress$Order", "begin", "(IZ)V"⟩, prog_6_method_2_code, none, 4, { frames := 0, cells := 0, slots := 0, locals := 0 }, false, false, none)
def dl_Order_begin : List (Instr × Nat) := [(.aload_n 0, 1), (.iload_n 1, 1), (.putfield 19, 3), (.aload_n 0, 1), (.iload_n 2, 1), (.putfield 23, 3), (.aload_n 0, 1), (.iconst 0, 1), (.putfield 27, 3), (.aload_n 0, 1), (.iconst 0, 1), (.putfield 30, 3), (.aload_n 0, 1), (.iconst 0, 1), (.putfield 33, 3), (.aload_n 0, 1), (.iconst 0, 1), (.putfield 36, 3), (.iconst 0, 1), (.istore_n 3, 1), (.iload_n 3, 1), (.bipush 32, 2), (.if_icmp .ge 16, 3), (.aload_n 0, 1), (.getfield 15, 3), (.iload_n 3, 1), (.iconst 0, 1), (.bastore, 1), (.iinc 3 1, 3), (.goto (-16), 3), (.return_, 1)]
set_option maxHeartbeats 4000000 in
set_option maxRecDepth 100000 in
theorem dt_Order_begin : g_dc (g_b M_Order_begin) 0 dl_Order_begin = true := by decide +kernel
def M_Text_clear : gM := (⟨"BandPress$Text", "clear", "()V"⟩, prog_11_method_3_code, none, 1, { frames := 0, cells := 0, slots := 0, locals := 0 }, false, false, none)
def dl_Text_clear : List (Instr × Nat) := [(.aload_n 0, 1), (.iconst 0, 1), (.putfield 21, 3), (.return_, 1)]
set_option maxHeartbeats 4000000 in
set_option maxRecDepth 100000 in
theorem dt_Text_clear : g_dc (g_b M_Text_clear) 0 dl_Text_clear = true := by decide +kernel
def M_B_start : gM := (⟨"BandPress", "start", "(IZI)I"⟩, prog_1_method_3_code, some .int, 5, { frames := 7, cells := 0, slots := 0, locals := 158 }, false, false, none)
def dl_B_start : List (Instr × Nat) := [(.iload_n 1, 1), (.iconst 1, 1), (.if_icmp .lt 20, 3), (.iload_n 1, 1), (.iconst 4, 1), (.if_icmp .gt 15, 3), (.iload_n 3, 1), (.iconst 1, 1), (.if_icmp .lt 10, 3), (.iload_n 3, 1), (.sipush 20000, 3), (.if_icmp .le 5, 3), (.iconst (-1), 1), (.ireturn, 1), (.aload_n 0, 1), (.getfield 19, 3), (.invokevirtual 50, 3), (.ifCond .ne 13, 3), (.aload_n 0, 1), (.getfield 26, 3), (.invokevirtual 54, 3), (.ifCond .le 5, 3), (.iconst (-1), 1), (.ireturn, 1), (.aload_n 0, 1), (.getfield 10, 3), (.invokevirtual 58, 3), (.istore 4, 2), (.iload 4, 2), (.iconst (-1), 1), (.if_icmp .ne 24, 3), (.aload_n 0, 1), (.getfield 19, 3), (.aload_n 0, 1), (.getfield 10, 3), (.iload_n 3, 1), (.invokevirtual 61, 3), (.aload_n 0, 1), (.getfield 26, 3), (.iload_n 1, 1), (.iload_n 2, 1), (.invokevirtual 65, 3), (.aload_n 0, 1), (.getfield 10, 3), (.invokevirtual 68, 3), (.iload 4, 2), (.iconst (-1), 1), (.if_icmp .ne 7, 3), (.iconst 0, 1), (.goto 7, 3), (.iload 4, 2), (.iconst 1, 1), (.iadd, 1), (.ireturn, 1)]
set_option maxHeartbeats 4000000 in
set_option maxRecDepth 100000 in
theorem dt_B_start : g_dc (g_b M_B_start) 0 dl_B_start = true := by decide +kernel
def M_B_stick : gM := (⟨"BandPress", "stick", "(IZ)Z"⟩, prog_1_method_12_code, some .boolean, 3, { frames := 1, cells := 0, slots := 0, locals := 20 }, false, false, none)
def dl_B_stick : List (Instr × Nat) := [(.iload_n 1, 1), (.invokestatic 169, 3), (.ifCond .ne 5, 3), (.iconst 0, 1), (.ireturn, 1), (.aload_n 0, 1), (.getfield 35, 3), (.getfield 172, 3), (.iload_n 1, 1), (.iload_n 2, 1), (.bastore, 1), (.iconst 1, 1), (.ireturn, 1)]
set_option maxHeartbeats 4000000 in
set_option maxRecDepth 100000 in
theorem dt_B_stick : g_dc (g_b M_B_stick) 0 dl_B_stick = true := by decide +kernel
def M_Machine_empty : gM := (⟨"BandPress$Machine", "empty", "(I)V"⟩, prog_5_method_14_code, none, 2, { frames := 0, cells := 0, slots := 0, locals := 0 }, false, false, none)
def dl_Machine_empty : List (Instr × Nat) := [(.aload_n 0, 1), (.getfield 9, 3), (.iload_n 1, 1), (.iconst (-1), 1), (.iastore, 1), (.aload_n 0, 1), (.getfield 15, 3), (.iload_n 1, 1), (.iconst 0, 1), (.iastore, 1), (.return_, 1)]
set_option maxHeartbeats 4000000 in
set_option maxRecDepth 100000 in
theorem dt_Machine_empty : g_dc (g_b M_Machine_empty) 0 dl_Machine_empty = true := by decide +kernel
def M_Machine_remove : gM := (⟨"BandPress$Machine", "remove", "(I)Z"⟩, prog_5_method_4_code, some .boolean, 2, { frames := 1, cells := 0, slots := 0, locals := 21 }, false, false, none)
def dl_Machine_remove : List (Instr × Nat) := [(.aload_n 0, 1), (.getfield 9, 3), (.iload_n 1, 1), (.iaload, 1), (.iconst (-1), 1), (.if_icmp .eq 17, 3), (.aload_n 0, 1), (.getfield 32, 3), (.ifCond .ne 12, 3), (.aload_n 0, 1), (.getfield 36, 3), (.ifCond .ne 5, 3), (.iconst 0, 1), (.ireturn, 1), (.aload_n 0, 1), (.iload_n 1, 1), (.invokevirtual 55, 3), (.iconst 1, 1), (.ireturn, 1)]
set_option maxHeartbeats 4000000 in
set_option maxRecDepth 100000 in
theorem dt_Machine_remove : g_dc (g_b M_Machine_remove) 0 dl_Machine_remove = true := by decide +kernel
def M_B_take : gM := (⟨"BandPress", "take", "(I)Z"⟩, prog_1_method_13_code, some .boolean, 2, { frames := 2, cells := 0, slots := 0, locals := 42 }, false, false, none)
def dl_B_take : List (Instr × Nat) := [(.iload_n 1, 1), (.invokestatic 169, 3), (.ifCond .eq 18, 3), (.aload_n 0, 1), (.getfield 35, 3), (.iload_n 1, 1), (.invokevirtual 176, 3), (.ifCond .eq 7, 3), (.iconst 1, 1), (.goto 4, 3), (.iconst 0, 1), (.ireturn, 1)]
set_option maxHeartbeats 4000000 in
set_option maxRecDepth 100000 in
theorem dt_B_take : g_dc (g_b M_B_take) 0 dl_B_take = true := by decide +kernel
def M_Machine_anySticks : gM := (⟨"BandPress$Machine", "anySticks", "()Z"⟩, prog_5_method_17_code, some .boolean, 2, { frames := 0, cells := 0, slots := 0, locals := 0 }, false, false, none)
def dl_Machine_anySticks : List (Instr × Nat) := [(.iconst 0, 1), (.istore_n 1, 1), (.iload_n 1, 1), (.iconst 4, 1), (.if_icmp .ge 20, 3), (.aload_n 0, 1), (.getfield 18, 3), (.iload_n 1, 1), (.baload, 1), (.ifCond .eq 5, 3), (.iconst 1, 1), (.ireturn, 1), (.iinc 1 1, 3), (.goto (-19), 3), (.iconst 0, 1), (.ireturn, 1)]
set_option maxHeartbeats 4000000 in
set_option maxRecDepth 100000 in
theorem dt_Machine_anySticks : g_dc (g_b M_Machine_anySticks) 0 dl_Machine_anySticks = true := by decide +kernel
def M_Machine_ifFree : gM := (⟨"BandPress$Machine", "ifFree", "(I)I"⟩, prog_5_method_9_code, some .int, 2, { frames := 0, cells := 0, slots := 0, locals := 0 }, false, false, none)
def dl_Machine_ifFree : List (Instr × Nat) := [(.aload_n 0, 1), (.getfield 9, 3), (.iload_n 1, 1), (.iaload, 1), (.iconst (-1), 1), (.if_icmp .ne 7, 3), (.iload_n 1, 1), (.goto 4, 3), (.iconst (-1), 1), (.ireturn, 1)]
set_option maxHeartbeats 4000000 in
set_option maxRecDepth 100000 in
theorem dt_Machine_ifFree : g_dc (g_b M_Machine_ifFree) 0 dl_Machine_ifFree = true := by decide +kernel
def M_Machine_wayFrom : gM := (⟨"BandPress$Machine", "wayFrom", "(I)I"⟩, prog_5_method_8_code, some .int, 2, { frames := 1, cells := 0, slots := 0, locals := 21 }, false, false, none)
def dl_Machine_wayFrom : List (Instr × Nat) := [(.aload_n 0, 1), (.getfield 9, 3), (.iload_n 1, 1), (.iaload, 1), (.iconst (-1), 1), (.if_icmp .eq 12, 3), (.aload_n 0, 1), (.getfield 22, 3), (.iload_n 1, 1), (.baload, 1), (.ifCond .eq 5, 3), (.iconst (-1), 1), (.ireturn, 1), (.iload_n 1, 1), (.tableswitch 64 1 3 #[58, 26, 52], 26), (.aload_n 0, 1), (.getfield 15, 3), (.iconst 2, 1), (.iaload, 1), (.aload_n 0, 1), (.getfield 28, 3), (.invokevirtual 101, 3), (.if_icmp .lt 7, 3), (.iconst 4, 1), (.goto 8, 3), (.aload_n 0, 1), (.iconst 3, 1), (.invokevirtual 104, 3), (.ireturn, 1), (.aload_n 0, 1), (.iconst 0, 1), (.invokevirtual 104, 3), (.ireturn, 1), (.aload_n 0, 1), (.iconst 2, 1), (.invokevirtual 104, 3), (.ireturn, 1), (.aload_n 0, 1), (.getfield 52, 3), (.bipush 80, 2), (.if_icmp .lt 11, 3), (.aload_n 0, 1), (.iconst 1, 1), (.invokevirtual 104, 3), (.goto 4, 3), (.iconst (-1), 1), (.ireturn, 1)]
set_option maxHeartbeats 4000000 in
set_option maxRecDepth 100000 in
theorem dt_Machine_wayFrom : g_dc (g_b M_Machine_wayFrom) 0 dl_Machine_wayFrom = true := by decide +kernel
def M_Order_isLeft : gM := (⟨"BandPress$Order", "isLeft", "(I)Z"⟩, prog_6_method_6_code, some .boolean, 2, { frames := 0, cells := 0, slots := 0, locals := 0 }, false, false, none)
def dl_Order_isLeft : List (Instr × Nat) := [(.iload_n 1, 1), (.ifCond .lt 24, 3), (.iload_n 1, 1), (.aload_n 0, 1), (.getfield 33, 3), (.if_icmp .ge 16, 3), (.aload_n 0, 1), (.getfield 15, 3), (.iload_n 1, 1), (.baload, 1), (.ifCond .ne 7, 3), (.iconst 1, 1), (.goto 4, 3), (.iconst 0, 1), (.ireturn, 1)]
set_option maxHeartbeats 4000000 in
set_option maxRecDepth 100000 in
theorem dt_Order_isLeft : g_dc (g_b M_Order_isLeft) 0 dl_Order_isLeft = true := by decide +kernel
def M_Order_putOut : gM := (⟨"BandPress$Order", "putOut", "(I)V"⟩, prog_6_method_7_code, none, 2, { frames := 1, cells := 0, slots := 0, locals := 21 }, false, false, none)
def dl_Order_putOut : List (Instr × Nat) := [(.aload_n 0, 1), (.iload_n 1, 1), (.invokevirtual 45, 3), (.ifCond .eq 39, 3), (.aload_n 0, 1), (.getfield 36, 3), (.bipush 32, 2), (.if_icmp .ge 30, 3), (.aload_n 0, 1), (.getfield 15, 3), (.iload_n 1, 1), (.iconst 1, 1), (.bastore, 1), (.aload_n 0, 1), (.getfield 9, 3), (.aload_n 0, 1), (.getfield 36, 3), (.iload_n 1, 1), (.iastore, 1), (.aload_n 0, 1), (.dup, 1), (.getfield 36, 3), (.iconst 1, 1), (.iadd, 1), (.putfield 36, 3), (.return_, 1)]
set_option maxHeartbeats 4000000 in
set_option maxRecDepth 100000 in
theorem dt_Order_putOut : g_dc (g_b M_Order_putOut) 0 dl_Order_putOut = true := by decide +kernel
def M_Machine_place : gM := (⟨"BandPress$Machine", "place", "(III)V"⟩, prog_5_method_13_code, none, 4, { frames := 0, cells := 0, slots := 0, locals := 0 }, false, false, none)
def dl_Machine_place : List (Instr × Nat) := [(.aload_n 0, 1), (.getfield 9, 3), (.iload_n 1, 1), (.iload_n 2, 1), (.iastore, 1), (.aload_n 0, 1), (.getfield 15, 3), (.iload_n 1, 1), (.iload_n 3, 1), (.iastore, 1), (.aload_n 0, 1), (.getfield 22, 3), (.iload_n 1, 1), (.iconst 1, 1), (.bastore, 1), (.return_, 1)]
set_option maxHeartbeats 4000000 in
set_option maxRecDepth 100000 in
theorem dt_Machine_place : g_dc (g_b M_Machine_place) 0 dl_Machine_place = true := by decide +kernel
def M_Machine_move : gM := (⟨"BandPress$Machine", "move", "(II)V"⟩, prog_5_method_10_code, none, 4, { frames := 2, cells := 0, slots := 0, locals := 42 }, false, false, none)
def dl_Machine_move : List (Instr × Nat) := [(.iload_n 1, 1), (.iconst 1, 1), (.if_icmp .ne 14, 3), (.aload_n 0, 1), (.getfield 15, 3), (.iload_n 1, 1), (.iaload, 1), (.iconst 1, 1), (.iadd, 1), (.goto 9, 3), (.aload_n 0, 1), (.getfield 15, 3), (.iload_n 1, 1), (.iaload, 1), (.istore_n 3, 1), (.iload_n 2, 1), (.iconst 4, 1), (.if_icmp .ne 19, 3), (.aload_n 0, 1), (.getfield 28, 3), (.aload_n 0, 1), (.getfield 9, 3), (.iload_n 1, 1), (.iaload, 1), (.invokevirtual 107, 3), (.goto 15, 3), (.aload_n 0, 1), (.iload_n 2, 1), (.aload_n 0, 1), (.getfield 9, 3), (.iload_n 1, 1), (.iaload, 1), (.iload_n 3, 1), (.invokevirtual 110, 3), (.aload_n 0, 1), (.iload_n 1, 1), (.invokevirtual 55, 3), (.return_, 1)]
set_option maxHeartbeats 4000000 in
set_option maxRecDepth 100000 in
theorem dt_Machine_move : g_dc (g_b M_Machine_move) 0 dl_Machine_move = true := by decide +kernel
def M_Machine_moveFrom : gM := (⟨"BandPress$Machine", "moveFrom", "(I)V"⟩, prog_5_method_7_code, none, 3, { frames := 3, cells := 0, slots := 0, locals := 65 }, false, false, none)
def dl_Machine_moveFrom : List (Instr × Nat) := [(.aload_n 0, 1), (.iload_n 1, 1), (.invokevirtual 93, 3), (.istore_n 2, 1), (.iload_n 2, 1), (.iconst (-1), 1), (.if_icmp .eq 12, 3), (.aload_n 0, 1), (.getfield 18, 3), (.iload_n 1, 1), (.baload, 1), (.ifCond .ne 13, 3), (.aload_n 0, 1), (.getfield 25, 3), (.iload_n 1, 1), (.iconst 0, 1), (.iastore, 1), (.goto 13, 3), (.aload_n 0, 1), (.getfield 25, 3), (.iload_n 1, 1), (.dup2, 1), (.iaload, 1), (.iconst 1, 1), (.iadd, 1), (.iastore, 1), (.iload_n 2, 1), (.iconst (-1), 1), (.if_icmp .eq 18, 3), (.aload_n 0, 1), (.getfield 18, 3), (.iload_n 1, 1), (.baload, 1), (.ifCond .ne 9, 3), (.aload_n 0, 1), (.iload_n 1, 1), (.iload_n 2, 1), (.invokevirtual 97, 3), (.return_, 1)]
set_option maxHeartbeats 4000000 in
set_option maxRecDepth 100000 in
theorem dt_Machine_moveFrom : g_dc (g_b M_Machine_moveFrom) 0 dl_Machine_moveFrom = true := by decide +kernel
def M_Machine_isInside : gM := (⟨"BandPress$Machine", "isInside", "(I)Z"⟩, prog_5_method_15_code, some .boolean, 3, { frames := 0, cells := 0, slots := 0, locals := 0 }, false, false, none)
def dl_Machine_isInside : List (Instr × Nat) := [(.iconst 0, 1), (.istore_n 2, 1), (.iload_n 2, 1), (.iconst 4, 1), (.if_icmp .ge 21, 3), (.aload_n 0, 1), (.getfield 9, 3), (.iload_n 2, 1), (.iaload, 1), (.iload_n 1, 1), (.if_icmp .ne 5, 3), (.iconst 1, 1), (.ireturn, 1), (.iinc 2 1, 3), (.goto (-20), 3), (.iconst 0, 1), (.ireturn, 1)]
set_option maxHeartbeats 4000000 in
set_option maxRecDepth 100000 in
theorem dt_Machine_isInside : g_dc (g_b M_Machine_isInside) 0 dl_Machine_isInside = true := by decide +kernel
def M_Machine_nextToMake : gM := (⟨"BandPress$Machine", "nextToMake", "()I"⟩, prog_5_method_12_code, some .int, 2, { frames := 1, cells := 0, slots := 0, locals := 22 }, false, false, none)
def dl_Machine_nextToMake : List (Instr × Nat) := [(.aload_n 0, 1), (.getfield 28, 3), (.invokevirtual 39, 3), (.ifCond .ne 5, 3), (.iconst (-1), 1), (.ireturn, 1), (.iconst 0, 1), (.istore_n 1, 1), (.iload_n 1, 1), (.aload_n 0, 1), (.getfield 28, 3), (.getfield 117, 3), (.if_icmp .ge 30, 3), (.aload_n 0, 1), (.getfield 28, 3), (.iload_n 1, 1), (.invokevirtual 120, 3), (.ifCond .eq 13, 3), (.aload_n 0, 1), (.iload_n 1, 1), (.invokevirtual 124, 3), (.ifCond .ne 5, 3), (.iload_n 1, 1), (.ireturn, 1), (.iinc 1 1, 3), (.goto (-35), 3), (.iconst (-1), 1), (.ireturn, 1)]
set_option maxHeartbeats 4000000 in
set_option maxRecDepth 100000 in
theorem dt_Machine_nextToMake : g_dc (g_b M_Machine_nextToMake) 0 dl_Machine_nextToMake = true := by decide +kernel
def M_Machine_feed : gM := (⟨"BandPress$Machine", "feed", "()V"⟩, prog_5_method_11_code, none, 2, { frames := 2, cells := 0, slots := 0, locals := 43 }, false, false, none)
def dl_Machine_feed : List (Instr × Nat) := [(.aload_n 0, 1), (.getfield 48, 3), (.ifCond .eq 31, 3), (.aload_n 0, 1), (.getfield 9, 3), (.iconst 0, 1), (.iaload, 1), (.iconst (-1), 1), (.if_icmp .ne 21, 3), (.aload_n 0, 1), (.getfield 9, 3), (.iconst 3, 1), (.iaload, 1), (.iconst (-1), 1), (.if_icmp .ne 11, 3), (.aload_n 0, 1), (.invokevirtual 45, 3), (.iconst 2, 1), (.if_icmp .lt 4, 3), (.return_, 1), (.aload_n 0, 1), (.invokevirtual 114, 3), (.istore_n 1, 1), (.iload_n 1, 1), (.iconst (-1), 1), (.if_icmp .eq 20, 3), (.aload_n 0, 1), (.dup, 1), (.getfield 48, 3), (.iconst 1, 1), (.isub, 1), (.putfield 48, 3), (.aload_n 0, 1), (.iconst 0, 1), (.iload_n 1, 1), (.iconst 0, 1), (.invokevirtual 110, 3), (.return_, 1)]
set_option maxHeartbeats 4000000 in
set_option maxRecDepth 100000 in
theorem dt_Machine_feed : g_dc (g_b M_Machine_feed) 0 dl_Machine_feed = true := by decide +kernel
def M_Machine_moveAll : gM := (⟨"BandPress$Machine", "moveAll", "()V"⟩, prog_5_method_6_code, none, 2, { frames := 4, cells := 0, slots := 0, locals := 87 }, false, false, none)
def dl_Machine_moveAll : List (Instr × Nat) := [(.iconst 0, 1), (.istore_n 1, 1), (.iload_n 1, 1), (.iconst 4, 1), (.if_icmp .ge 16, 3), (.aload_n 0, 1), (.getfield 22, 3), (.iload_n 1, 1), (.iconst 0, 1), (.bastore, 1), (.iinc 1 1, 3), (.goto (-15), 3), (.aload_n 0, 1), (.iconst 2, 1), (.invokevirtual 84, 3), (.aload_n 0, 1), (.iconst 3, 1), (.invokevirtual 84, 3), (.aload_n 0, 1), (.iconst 1, 1), (.invokevirtual 84, 3), (.aload_n 0, 1), (.iconst 0, 1), (.invokevirtual 84, 3), (.aload_n 0, 1), (.invokevirtual 87, 3), (.iconst 0, 1), (.istore_n 1, 1), (.iload_n 1, 1), (.iconst 4, 1), (.if_icmp .ge 41, 3), (.aload_n 0, 1), (.getfield 25, 3), (.iload_n 1, 1), (.iaload, 1), (.iconst 4, 1), (.if_icmp .lt 25, 3), (.aload_n 0, 1), (.getfield 36, 3), (.ifCond .ne 18, 3), (.aload_n 0, 1), (.iconst 1, 1), (.putfield 36, 3), (.aload_n 0, 1), (.dup, 1), (.getfield 90, 3), (.iconst 1, 1), (.iadd, 1), (.putfield 90, 3), (.iinc 1 1, 3), (.goto (-40), 3), (.return_, 1)]
set_option maxHeartbeats 4000000 in
set_option maxRecDepth 100000 in
theorem dt_Machine_moveAll : g_dc (g_b M_Machine_moveAll) 0 dl_Machine_moveAll = true := by decide +kernel
def M_Machine_pass : gM := (⟨"BandPress$Machine", "pass", "()V"⟩, prog_5_method_5_code, none, 2, { frames := 5, cells := 0, slots := 0, locals := 108 }, false, false, none)
def dl_Machine_pass : List (Instr × Nat) := [(.aload_n 0, 1), (.dup, 1), (.getfield 59, 3), (.iconst 1, 1), (.iadd, 1), (.putfield 59, 3), (.aload_n 0, 1), (.getfield 32, 3), (.ifCond .ne 17, 3), (.aload_n 0, 1), (.getfield 28, 3), (.invokevirtual 39, 3), (.ifCond .le 7, 3), (.iconst 1, 1), (.goto 4, 3), (.iconst 0, 1), (.istore_n 1, 1), (.aload_n 0, 1), (.iload_n 1, 1), (.ifCond .eq 18, 3), (.bipush 100, 2), (.aload_n 0, 1), (.getfield 52, 3), (.bipush 10, 2), (.iadd, 1), (.invokestatic 62, 3), (.goto 13, 3), (.iconst 0, 1), (.aload_n 0, 1), (.getfield 52, 3), (.iconst 5, 1), (.isub, 1), (.invokestatic 68, 3), (.putfield 52, 3), (.aload_n 0, 1), (.getfield 32, 3), (.ifCond .ne 29, 3), (.aload_n 0, 1), (.getfield 36, 3), (.ifCond .eq 22, 3), (.aload_n 0, 1), (.invokevirtual 45, 3), (.ifCond .ne 15, 3), (.aload_n 0, 1), (.invokevirtual 71, 3), (.ifCond .ne 8, 3), (.aload_n 0, 1), (.iconst 0, 1), (.putfield 36, 3), (.aload_n 0, 1), (.getfield 32, 3), (.ifCond .ne 10, 3), (.aload_n 0, 1), (.getfield 36, 3), (.ifCond .eq 14, 3), (.aload_n 0, 1), (.getfield 25, 3), (.iconst 0, 1), (.invokestatic 75, 3), (.goto 7, 3), (.aload_n 0, 1), (.invokevirtual 81, 3), (.return_, 1)]
set_option maxHeartbeats 4000000 in
set_option maxRecDepth 100000 in
theorem dt_Machine_pass : g_dc (g_b M_Machine_pass) 0 dl_Machine_pass = true := by decide +kernel
def M_B_tick : gM := (⟨"BandPress", "tick", "(I)I"⟩, prog_1_method_11_code, some .int, 3, { frames := 7, cells := 1, slots := 6, locals := 129 }, false, false, none)
def dl_B_tick : List (Instr × Nat) := [(.iload_n 1, 1), (.iconst 1, 1), (.if_icmp .lt 10, 3), (.iload_n 1, 1), (.sipush 1000, 3), (.if_icmp .le 11, 3), (.new 74, 3), (.dup, 1), (.invokespecial 76, 3), (.athrow, 1), (.iconst 0, 1), (.istore_n 2, 1), (.iload_n 2, 1), (.iload_n 1, 1), (.if_icmp .ge 16, 3), (.aload_n 0, 1), (.getfield 35, 3), (.invokevirtual 164, 3), (.iinc 2 1, 3), (.goto (-15), 3), (.aload_n 0, 1), (.getfield 35, 3), (.invokevirtual 167, 3), (.ireturn, 1)]
set_option maxHeartbeats 4000000 in
set_option maxRecDepth 100000 in
theorem dt_B_tick : g_dc (g_b M_B_tick) 0 dl_B_tick = true := by decide +kernel
def M_Text_byteOf : gM := (⟨"BandPress$Text", "byteOf", "(JI)I"⟩, prog_11_method_13_code, some .int, 3, { frames := 0, cells := 0, slots := 0, locals := 0 }, false, false, none)
def dl_Text_byteOf : List (Instr × Nat) := [(.lload_n 0, 1), (.bipush 8, 2), (.iload_n 2, 1), (.imul, 1), (.lushr, 1), (.l2i, 1), (.sipush 255, 3), (.iand, 1), (.ireturn, 1)]
set_option maxHeartbeats 4000000 in
set_option maxRecDepth 100000 in
theorem dt_Text_byteOf : g_dc (g_b M_Text_byteOf) 0 dl_Text_byteOf = true := by decide +kernel
def M_Text_isPlain : gM := (⟨"BandPress$Text", "isPlain", "(JI)Z"⟩, prog_11_method_12_code, some .boolean, 5, { frames := 1, cells := 0, slots := 0, locals := 22 }, false, false, none)
def dl_Text_isPlain : List (Instr × Nat) := [(.iconst 0, 1), (.istore_n 3, 1), (.iload_n 3, 1), (.iload_n 2, 1), (.if_icmp .ge 32, 3), (.lload_n 0, 1), (.iload_n 3, 1), (.invokestatic 29, 3), (.istore 4, 2), (.iload 4, 2), (.bipush 32, 2), (.if_icmp .lt 10, 3), (.iload 4, 2), (.bipush 126, 2), (.if_icmp .le 5, 3), (.iconst 0, 1), (.ireturn, 1), (.iinc 3 1, 3), (.goto (-31), 3), (.iconst 1, 1), (.ireturn, 1)]
set_option maxHeartbeats 4000000 in
set_option maxRecDepth 100000 in
theorem dt_Text_isPlain : g_dc (g_b M_Text_isPlain) 0 dl_Text_isPlain = true := by decide +kernel
def M_Text_append : gM := (⟨"BandPress$Text", "append", "(JI)Z"⟩, prog_11_method_2_code, some .boolean, 5, { frames := 2, cells := 0, slots := 0, locals := 46 }, false, false, none)
def dl_Text_append : List (Instr × Nat) := [(.iload_n 3, 1), (.iconst 1, 1), (.if_icmp .lt 29, 3), (.iload_n 3, 1), (.bipush 8, 2), (.if_icmp .gt 23, 3), (.aload_n 0, 1), (.getfield 21, 3), (.iload_n 3, 1), (.iadd, 1), (.sipush 300, 3), (.if_icmp .gt 11, 3), (.lload_n 1, 1), (.iload_n 3, 1), (.invokestatic 25, 3), (.ifCond .ne 5, 3), (.iconst 0, 1), (.ireturn, 1), (.iload_n 3, 1), (.iconst 1, 1), (.isub, 1), (.istore 4, 2), (.iload 4, 2), (.ifCond .lt 34, 3), (.aload_n 0, 1), (.getfield 9, 3), (.aload_n 0, 1), (.getfield 21, 3), (.lload_n 1, 1), (.iload 4, 2), (.invokestatic 29, 3), (.iastore, 1), (.aload_n 0, 1), (.dup, 1), (.getfield 21, 3), (.iconst 1, 1), (.iadd, 1), (.putfield 21, 3), (.iinc 4 (-1), 3), (.goto (-33), 3), (.iconst 1, 1), (.ireturn, 1)]
set_option maxHeartbeats 4000000 in
set_option maxRecDepth 100000 in
theorem dt_Text_append : g_dc (g_b M_Text_append) 0 dl_Text_append = true := by decide +kernel
def M_B_type : gM := (⟨"BandPress", "type", "(JI)Z"⟩, prog_1_method_2_code, some .boolean, 4, { frames := 3, cells := 0, slots := 0, locals := 70 }, false, false, none)
def dl_B_type : List (Instr × Nat) := [(.aload_n 0, 1), (.getfield 10, 3), (.lload_n 1, 1), (.iload_n 3, 1), (.invokevirtual 46, 3), (.ireturn, 1)]
set_option maxHeartbeats 4000000 in
set_option maxRecDepth 100000 in
theorem dt_B_type : g_dc (g_b M_B_type) 0 dl_B_type = true := by decide +kernel
def M_B_value : gM := (⟨"BandPress", "value", "(I)I"⟩, prog_1_method_6_code, some .int, 2, { frames := 7, cells := 1, slots := 6, locals := 110 }, false, false, none)
def dl_B_value : List (Instr × Nat) := [(.iload_n 1, 1), (.ifCond .lt 17, 3), (.iload_n 1, 1), (.aload_n 0, 1), (.getfield 19, 3), (.getfield 112, 3), (.getfield 116, 3), (.if_icmp .lt 11, 3), (.new 137, 3), (.dup, 1), (.invokespecial 139, 3), (.athrow, 1), (.aload_n 0, 1), (.getfield 19, 3), (.getfield 112, 3), (.iload_n 1, 1), (.invokevirtual 140, 3), (.ireturn, 1)]
set_option maxHeartbeats 4000000 in
set_option maxRecDepth 100000 in
theorem dt_B_value : g_dc (g_b M_B_value) 0 dl_B_value = true := by decide +kernel
def M_B_variable : gM := (⟨"BandPress", "variable", "(I)I"⟩, prog_1_method_7_code, some .int, 2, { frames := 0, cells := 0, slots := 0, locals := 0 }, false, false, none)
def dl_B_variable : List (Instr × Nat) := [(.iload_n 1, 1), (.ifCond .lt 9, 3), (.iload_n 1, 1), (.bipush 26, 2), (.if_icmp .lt 7, 3), (.iconst 0, 1), (.goto 12, 3), (.aload_n 0, 1), (.getfield 19, 3), (.getfield 144, 3), (.iload_n 1, 1), (.iaload, 1), (.ireturn, 1)]
set_option maxHeartbeats 4000000 in
set_option maxRecDepth 100000 in
theorem dt_B_variable : g_dc (g_b M_B_variable) 0 dl_B_variable = true := by decide +kernel
def M_M_byteOf : gM := (⟨"BandPressModel", "byteOf", "(III)I"⟩, prog_14_method_50_code, some .int, 6, { frames := 0, cells := 0, slots := 0, locals := 0 }, false, false, none)
def dl_M_byteOf : List (Instr × Nat) := [(.iconst 0, 1), (.istore 4, 2), (.iconst 0, 1), (.istore 5, 2), (.iload 5, 2), (.bipush 8, 2), (.if_icmp .ge 47, 3), (.iconst 2, 1), (.iload 4, 2), (.imul, 1), (.aload_n 0, 1), (.getfield 53, 3), (.sipush 3072, 3), (.iload_n 1, 1), (.imul, 1), (.bipush 64, 2), (.iload_n 2, 1), (.imul, 1), (.iadd, 1), (.bipush 8, 2), (.iload_n 3, 1), (.imul, 1), (.iadd, 1), (.iload 5, 2), (.iadd, 1), (.baload, 1), (.ifCond .eq 7, 3), (.iconst 1, 1), (.goto 4, 3), (.iconst 0, 1), (.iadd, 1), (.istore 4, 2), (.iinc 5 1, 3), (.goto (-48), 3), (.iload 4, 2), (.ireturn, 1)]
set_option maxHeartbeats 4000000 in
set_option maxRecDepth 100000 in
theorem dt_M_byteOf : g_dc (g_b M_M_byteOf) 0 dl_M_byteOf = true := by decide +kernel
def M_M_alike : gM := (⟨"BandPressModel", "alike", "(III)I"⟩, prog_14_method_53_code, some .int, 5, { frames := 1, cells := 0, slots := 0, locals := 25 }, false, false, none)
def dl_M_alike : List (Instr × Nat) := [(.iconst 1, 1), (.istore 4, 2), (.iload_n 3, 1), (.iload 4, 2), (.iadd, 1), (.bipush 8, 2), (.if_icmp .ge 29, 3), (.aload_n 0, 1), (.iload_n 1, 1), (.iload_n 2, 1), (.iload_n 3, 1), (.iload 4, 2), (.iadd, 1), (.invokevirtual 305, 3), (.aload_n 0, 1), (.iload_n 1, 1), (.iload_n 2, 1), (.iload_n 3, 1), (.invokevirtual 305, 3), (.if_icmp .ne 9, 3), (.iinc 4 1, 3), (.goto (-32), 3), (.iload 4, 2), (.ireturn, 1)]
set_option maxHeartbeats 4000000 in
set_option maxRecDepth 100000 in
theorem dt_M_alike : g_dc (g_b M_M_alike) 0 dl_M_alike = true := by decide +kernel
def M_M_sixteenth : gM := (⟨"BandPressModel", "sixteenth", "(II)J"⟩, prog_14_method_21_code, some .long, 2, { frames := 0, cells := 0, slots := 0, locals := 0 }, false, false, none)
def dl_M_sixteenth : List (Instr × Nat) := [(.iload_n 0, 1), (.i2l, 1), (.iload_n 1, 1), (.i2l, 1), (.lmul, 1), (.iconst 4, 1), (.lshr, 1), (.lreturn, 1)]
set_option maxHeartbeats 4000000 in
set_option maxRecDepth 100000 in
theorem dt_M_sixteenth : g_dc (g_b M_M_sixteenth) 0 dl_M_sixteenth = true := by decide +kernel
def M_M_xOf : gM := (⟨"BandPressModel", "xOf", "(I)J"⟩, prog_14_method_19_code, some .long, 2, { frames := 1, cells := 0, slots := 0, locals := 21 }, false, false, none)
def dl_M_xOf : List (Instr × Nat) := [(.aload_n 0, 1), (.getfield 47, 3), (.iconst 2, 1), (.iaload, 1), (.i2l, 1), (.aload_n 0, 1), (.getfield 47, 3), (.iconst 0, 1), (.iaload, 1), (.iload_n 1, 1), (.invokestatic 181, 3), (.ladd, 1), (.lreturn, 1)]
set_option maxHeartbeats 4000000 in
set_option maxRecDepth 100000 in
theorem dt_M_xOf : g_dc (g_b M_M_xOf) 0 dl_M_xOf = true := by decide +kernel
def M_M_yOf : gM := (⟨"BandPressModel", "yOf", "(I)J"⟩, prog_14_method_20_code, some .long, 2, { frames := 1, cells := 0, slots := 0, locals := 21 }, false, false, none)
def dl_M_yOf : List (Instr × Nat) := [(.aload_n 0, 1), (.getfield 47, 3), (.iconst 3, 1), (.iaload, 1), (.i2l, 1), (.aload_n 0, 1), (.getfield 47, 3), (.iconst 1, 1), (.iaload, 1), (.iload_n 1, 1), (.invokestatic 181, 3), (.ladd, 1), (.lreturn, 1)]
set_option maxHeartbeats 4000000 in
set_option maxRecDepth 100000 in
theorem dt_M_yOf : g_dc (g_b M_M_yOf) 0 dl_M_yOf = true := by decide +kernel
def M_M_along : gM := (⟨"BandPressModel", "along", "(IIIIIZ)I"⟩, prog_14_method_38_code, some .int, 19, { frames := 2, cells := 0, slots := 0, locals := 42 }, false, false, none)
def dl_M_along : List (Instr × Nat) := [(.iload_n 2, 1), (.istore 7, 2), (.iload 6, 2), (.ifCond .eq 11, 3), (.aload_n 0, 1), (.iload_n 3, 1), (.invokevirtual 188, 3), (.goto 8, 3), (.aload_n 0, 1), (.iload_n 3, 1), (.invokevirtual 197, 3), (.l2i, 1), (.istore 8, 2), (.iload 6, 2), (.ifCond .eq 12, 3), (.aload_n 0, 1), (.iload 4, 2), (.invokevirtual 188, 3), (.goto 9, 3), (.aload_n 0, 1), (.iload 4, 2), (.invokevirtual 197, 3), (.l2i, 1), (.istore 9, 2), (.iload 6, 2), (.ifCond .eq 12, 3), (.aload_n 0, 1), (.iload 5, 2), (.invokevirtual 188, 3), (.goto 9, 3), (.aload_n 0, 1), (.iload 5, 2), (.invokevirtual 197, 3), (.l2i, 1), (.istore 10, 2), (.iload_n 1, 1), (.istore 11, 2), (.bipush 8, 2), (.istore 12, 2), (.iload 12, 2), (.iconst 1, 1), (.if_icmp .le 119, 3), (.iload 11, 2), (.ifCond .le 114, 3), (.iload 11, 2), (.iload 12, 2), (.if_icmp .ge 107, 3), (.iload 7, 2), (.iload 8, 2), (.iadd, 1), (.iconst 1, 1), (.ishr, 1), (.istore 13, 2), (.iload 8, 2), (.iload 9, 2), (.iadd, 1), (.iconst 1, 1), (.ishr, 1), (.istore 14, 2), (.iload 9, 2), (.iload 10, 2), (.iadd, 1), (.iconst 1, 1), (.ishr, 1), (.istore 15, 2), (.iload 13, 2), (.iload 14, 2), (.iadd, 1), (.iconst 1, 1), (.ishr, 1), (.istore 16, 2), (.iload 14, 2), (.iload 15, 2), (.iadd, 1), (.iconst 1, 1), (.ishr, 1), (.istore 17, 2), (.iload 16, 2), (.iload 17, 2), (.iadd, 1), (.iconst 1, 1), (.ishr, 1), (.istore 18, 2), (.iload 12, 2), (.iconst 2, 1), (.idiv, 1), (.istore 12, 2), (.iload 11, 2), (.iload 12, 2), (.if_icmp .gt 18, 3), (.iload 13, 2), (.istore 8, 2), (.iload 16, 2), (.istore 9, 2), (.iload 18, 2), (.istore 10, 2), (.goto 22, 3), (.iload 11, 2), (.iload 12, 2), (.isub, 1), (.istore 11, 2), (.iload 18, 2), (.istore 7, 2), (.iload 17, 2), (.istore 8, 2), (.iload 15, 2), (.istore 9, 2), (.goto (-119), 3), (.iload 11, 2), (.ifCond .ne 8, 3), (.iload 7, 2), (.goto 5, 3), (.iload 10, 2), (.ireturn, 1)]
set_option maxHeartbeats 4000000 in
set_option maxRecDepth 100000 in
theorem dt_M_along : g_dc (g_b M_M_along) 0 dl_M_along = true := by decide +kernel
def M_M_isLikeAbove : gM := (⟨"BandPressModel", "isLikeAbove", "(II)Z"⟩, prog_14_method_51_code, some .boolean, 5, { frames := 1, cells := 0, slots := 0, locals := 25 }, false, false, none)
def dl_M_isLikeAbove : List (Instr × Nat) := [(.iconst 1, 1), (.istore_n 3, 1), (.iconst 0, 1), (.istore 4, 2), (.iload 4, 2), (.bipush 8, 2), (.if_icmp .ge 51, 3), (.iload_n 3, 1), (.ifCond .eq 39, 3), (.aload_n 0, 1), (.iload_n 1, 1), (.iload_n 2, 1), (.iload 4, 2), (.invokevirtual 305, 3), (.iload_n 2, 1), (.bipush 8, 2), (.irem, 1), (.ifCond .ne 7, 3), (.iconst 0, 1), (.goto 13, 3), (.aload_n 0, 1), (.iload_n 1, 1), (.iload_n 2, 1), (.iconst 1, 1), (.isub, 1), (.iload 4, 2), (.invokevirtual 305, 3), (.if_icmp .ne 7, 3), (.iconst 1, 1), (.goto 4, 3), (.iconst 0, 1), (.istore_n 3, 1), (.iinc 4 1, 3), (.goto (-52), 3), (.iload_n 3, 1), (.ireturn, 1)]
set_option maxHeartbeats 4000000 in
set_option maxRecDepth 100000 in
theorem dt_M_isLikeAbove : g_dc (g_b M_M_isLikeAbove) 0 dl_M_isLikeAbove = true := by decide +kernel
def M_M_out : gM := (⟨"BandPressModel", "out", "(I)V"⟩, prog_14_method_52_code, none, 2, { frames := 0, cells := 0, slots := 0, locals := 0 }, false, false, none)
def dl_M_out : List (Instr × Nat) := [(.aload_n 0, 1), (.getfield 59, 3), (.aload_n 0, 1), (.getfield 309, 3), (.iload_n 1, 1), (.iastore, 1), (.aload_n 0, 1), (.dup, 1), (.getfield 309, 3), (.iconst 1, 1), (.iadd, 1), (.putfield 309, 3), (.return_, 1)]
set_option maxHeartbeats 4000000 in
set_option maxRecDepth 100000 in
theorem dt_M_out : g_dc (g_b M_M_out) 0 dl_M_out = true := by decide +kernel
def M_M_line : gM := (⟨"BandPressModel", "line", "(II)V"⟩, prog_14_method_54_code, none, 6, { frames := 2, cells := 0, slots := 0, locals := 49 }, false, false, none)
def dl_M_line : List (Instr × Nat) := [(.iconst 0, 1), (.istore_n 3, 1), (.iload_n 3, 1), (.bipush 8, 2), (.if_icmp .ge 115, 3), (.aload_n 0, 1), (.iload_n 1, 1), (.iload_n 2, 1), (.iload_n 3, 1), (.invokevirtual 312, 3), (.istore 4, 2), (.iload 4, 2), (.iconst 1, 1), (.if_icmp .le 27, 3), (.aload_n 0, 1), (.sipush 128, 3), (.iload 4, 2), (.iadd, 1), (.invokevirtual 315, 3), (.aload_n 0, 1), (.aload_n 0, 1), (.iload_n 1, 1), (.iload_n 2, 1), (.iload_n 3, 1), (.invokevirtual 305, 3), (.invokevirtual 315, 3), (.goto 68, 3), (.iload_n 3, 1), (.iload 4, 2), (.iadd, 1), (.bipush 8, 2), (.if_icmp .ge 23, 3), (.aload_n 0, 1), (.iload_n 1, 1), (.iload_n 2, 1), (.iload_n 3, 1), (.iload 4, 2), (.iadd, 1), (.invokevirtual 312, 3), (.iconst 2, 1), (.if_icmp .ge 9, 3), (.iinc 4 1, 3), (.goto (-26), 3), (.aload_n 0, 1), (.iload 4, 2), (.invokevirtual 315, 3), (.iconst 0, 1), (.istore 5, 2), (.iload 5, 2), (.iload 4, 2), (.if_icmp .ge 23, 3), (.aload_n 0, 1), (.aload_n 0, 1), (.iload_n 1, 1), (.iload_n 2, 1), (.iload_n 3, 1), (.iload 5, 2), (.iadd, 1), (.invokevirtual 305, 3), (.invokevirtual 315, 3), (.iinc 5 1, 3), (.goto (-24), 3), (.iload_n 3, 1), (.iload 4, 2), (.iadd, 1), (.istore_n 3, 1), (.goto (-115), 3), (.return_, 1)]
set_option maxHeartbeats 4000000 in
set_option maxRecDepth 100000 in
theorem dt_M_line : g_dc (g_b M_M_line) 0 dl_M_line = true := by decide +kernel
def M_M_pack : gM := (⟨"BandPressModel", "pack", "(II)Z"⟩, prog_14_method_55_code, some .boolean, 5, { frames := 3, cells := 0, slots := 0, locals := 74 }, false, false, none)
def dl_M_pack : List (Instr × Nat) := [(.iload_n 1, 1), (.ifCond .lt 20, 3), (.iload_n 1, 1), (.aload_n 0, 1), (.getfield 139, 3), (.if_icmp .ge 12, 3), (.iload_n 2, 1), (.ifCond .lt 8, 3), (.iload_n 2, 1), (.iconst 5, 1), (.if_icmp .le 5, 3), (.iconst 0, 1), (.ireturn, 1), (.aload_n 0, 1), (.iconst 0, 1), (.putfield 309, 3), (.bipush 8, 2), (.iload_n 2, 1), (.imul, 1), (.istore_n 3, 1), (.iload_n 3, 1), (.bipush 8, 2), (.iload_n 2, 1), (.imul, 1), (.bipush 8, 2), (.iadd, 1), (.if_icmp .ge 79, 3), (.iconst 0, 1), (.istore 4, 2), (.iload_n 3, 1), (.iload 4, 2), (.iadd, 1), (.bipush 8, 2), (.iload_n 2, 1), (.imul, 1), (.bipush 8, 2), (.iadd, 1), (.if_icmp .ge 21, 3), (.aload_n 0, 1), (.iload_n 1, 1), (.iload_n 3, 1), (.iload 4, 2), (.iadd, 1), (.invokevirtual 318, 3), (.ifCond .eq 9, 3), (.iinc 4 1, 3), (.goto (-29), 3), (.iload 4, 2), (.ifCond .le 16, 3), (.aload_n 0, 1), (.sipush 192, 3), (.iload 4, 2), (.iadd, 1), (.invokevirtual 315, 3), (.goto 9, 3), (.aload_n 0, 1), (.iload_n 1, 1), (.iload_n 3, 1), (.invokevirtual 321, 3), (.iload_n 3, 1), (.iload 4, 2), (.ifCond .le 8, 3), (.iload 4, 2), (.goto 4, 3), (.iconst 1, 1), (.iadd, 1), (.istore_n 3, 1), (.goto (-84), 3), (.iconst 1, 1), (.ireturn, 1)]
set_option maxHeartbeats 4000000 in
set_option maxRecDepth 100000 in
theorem dt_M_pack : g_dc (g_b M_M_pack) 0 dl_M_pack = true := by decide +kernel
def M_M_band : gM := (⟨"BandPressModel", "band", "(II)I"⟩, prog_14_method_56_code, some .int, 3, { frames := 4, cells := 0, slots := 0, locals := 98 }, false, false, none)
def dl_M_band : List (Instr × Nat) := [(.aload_n 0, 1), (.iconst 0, 1), (.putfield 83, 3), (.aload_n 0, 1), (.iload_n 1, 1), (.iload_n 2, 1), (.invokevirtual 324, 3), (.ifCond .eq 10, 3), (.aload_n 0, 1), (.getfield 309, 3), (.goto 4, 3), (.iconst (-1), 1), (.ireturn, 1)]
set_option maxHeartbeats 4000000 in
set_option maxRecDepth 100000 in
theorem dt_M_band : g_dc (g_b M_M_band) 0 dl_M_band = true := by decide +kernel
def M_M_closing : gM := (⟨"BandPressModel", "closing", "(I)I"⟩, prog_14_method_11_code, some .int, 4, { frames := 0, cells := 0, slots := 0, locals := 0 }, false, false, none)
def dl_M_closing : List (Instr × Nat) := [(.iconst 0, 1), (.istore_n 2, 1), (.iload_n 1, 1), (.istore_n 3, 1), (.iload_n 2, 1), (.ifCond .gt 8, 3), (.iload_n 3, 1), (.iload_n 1, 1), (.if_icmp .ne 43, 3), (.iload_n 2, 1), (.aload_n 0, 1), (.getfield 13, 3), (.iload_n 3, 1), (.iaload, 1), (.bipush 123, 2), (.if_icmp .ne 7, 3), (.iconst 1, 1), (.goto 19, 3), (.aload_n 0, 1), (.getfield 13, 3), (.iload_n 3, 1), (.iaload, 1), (.bipush 125, 2), (.if_icmp .ne 7, 3), (.iconst (-1), 1), (.goto 4, 3), (.iconst 0, 1), (.iadd, 1), (.istore_n 2, 1), (.iinc 3 1, 3), (.goto (-46), 3), (.iload_n 3, 1), (.iconst 1, 1), (.isub, 1), (.ireturn, 1)]
set_option maxHeartbeats 4000000 in
set_option maxRecDepth 100000 in
theorem dt_M_closing : g_dc (g_b M_M_closing) 0 dl_M_closing = true := by decide +kernel
def M_M_cover : gM := (⟨"BandPressModel", "cover", "(Z)Z"⟩, prog_14_method_73_code, some .boolean, 3, { frames := 0, cells := 0, slots := 0, locals := 0 }, false, false, none)
def dl_M_cover : List (Instr × Nat) := [(.aload_n 0, 1), (.iconst 0, 1), (.putfield 83, 3), (.aload_n 0, 1), (.getfield 354, 3), (.istore_n 2, 1), (.aload_n 0, 1), (.iload_n 1, 1), (.putfield 354, 3), (.iload_n 2, 1), (.iload_n 1, 1), (.if_icmp .eq 7, 3), (.iconst 1, 1), (.goto 4, 3), (.iconst 0, 1), (.ireturn, 1)]
set_option maxHeartbeats 4000000 in
set_option maxRecDepth 100000 in
theorem dt_M_cover : g_dc (g_b M_M_cover) 0 dl_M_cover = true := by decide +kernel
def M_M_meets : gM := (⟨"BandPressModel", "meets", "(IIIIII)I"⟩, prog_14_method_39_code, some .int, 6, { frames := 0, cells := 0, slots := 0, locals := 0 }, false, false, none)
def dl_M_meets : List (Instr × Nat) := [(.iload_n 1, 1), (.iload 5, 2), (.if_icmp .gt 39, 3), (.iload 5, 2), (.iload_n 3, 1), (.if_icmp .ge 33, 3), (.iload 5, 2), (.iload_n 1, 1), (.isub, 1), (.i2l, 1), (.iload_n 2, 1), (.iload_n 0, 1), (.isub, 1), (.i2l, 1), (.lmul, 1), (.iload 4, 2), (.iload_n 0, 1), (.isub, 1), (.i2l, 1), (.iload_n 3, 1), (.iload_n 1, 1), (.isub, 1), (.i2l, 1), (.lmul, 1), (.lcmp, 1), (.ifCond .gt 7, 3), (.iconst 1, 1), (.goto 4, 3), (.iconst 0, 1), (.ireturn, 1), (.iload_n 3, 1), (.iload 5, 2), (.if_icmp .gt 39, 3), (.iload 5, 2), (.iload_n 1, 1), (.if_icmp .ge 33, 3), (.iload 5, 2), (.iload_n 3, 1), (.isub, 1), (.i2l, 1), (.iload_n 0, 1), (.iload_n 2, 1), (.isub, 1), (.i2l, 1), (.lmul, 1), (.iload 4, 2), (.iload_n 2, 1), (.isub, 1), (.i2l, 1), (.iload_n 1, 1), (.iload_n 3, 1), (.isub, 1), (.i2l, 1), (.lmul, 1), (.lcmp, 1), (.ifCond .gt 7, 3), (.iconst (-1), 1), (.goto 4, 3), (.iconst 0, 1), (.ireturn, 1), (.iconst 0, 1), (.ireturn, 1)]
set_option maxHeartbeats 4000000 in
set_option maxRecDepth 100000 in
theorem dt_M_meets : g_dc (g_b M_M_meets) 0 dl_M_meets = true := by decide +kernel
def M_M_isIn : gM := (⟨"BandPressModel", "isIn", "(IIZ)Z"⟩, prog_14_method_40_code, some .boolean, 11, { frames := 1, cells := 0, slots := 0, locals := 25 }, false, false, none)
def dl_M_isIn : List (Instr × Nat) := [(.iconst 0, 1), (.istore 4, 2), (.iconst 0, 1), (.istore 5, 2), (.iconst 0, 1), (.istore 6, 2), (.iconst 0, 1), (.istore 7, 2), (.iload 7, 2), (.aload_n 0, 1), (.getfield 220, 3), (.if_icmp .ge 126, 3), (.aload_n 0, 1), (.getfield 44, 3), (.iload 7, 2), (.baload, 1), (.ifCond .eq 7, 3), (.iload 7, 2), (.istore 6, 2), (.iload 7, 2), (.iconst 1, 1), (.iadd, 1), (.aload_n 0, 1), (.getfield 220, 3), (.if_icmp .eq 15, 3), (.aload_n 0, 1), (.getfield 44, 3), (.iload 7, 2), (.iconst 1, 1), (.iadd, 1), (.baload, 1), (.ifCond .eq 7, 3), (.iconst 1, 1), (.goto 4, 3), (.iconst 0, 1), (.istore 8, 2), (.iload 8, 2), (.ifCond .eq 8, 3), (.iload 6, 2), (.goto 7, 3), (.iload 7, 2), (.iconst 1, 1), (.iadd, 1), (.istore 9, 2), (.aload_n 0, 1), (.getfield 38, 3), (.iload 7, 2), (.iaload, 1), (.aload_n 0, 1), (.getfield 41, 3), (.iload 7, 2), (.iaload, 1), (.aload_n 0, 1), (.getfield 38, 3), (.iload 9, 2), (.iaload, 1), (.aload_n 0, 1), (.getfield 41, 3), (.iload 9, 2), (.iaload, 1), (.iload_n 1, 1), (.iload_n 2, 1), (.invokestatic 289, 3), (.istore 10, 2), (.iload 4, 2), (.iload 10, 2), (.iadd, 1), (.istore 4, 2), (.iload 5, 2), (.iload 10, 2), (.ifCond .eq 7, 3), (.iconst 1, 1), (.goto 4, 3), (.iconst 0, 1), (.iadd, 1), (.istore 5, 2), (.iinc 7 1, 3), (.goto (-129), 3), (.iload_n 3, 1), (.ifCond .eq 16, 3), (.iload 4, 2), (.ifCond .eq 7, 3), (.iconst 1, 1), (.goto 20, 3), (.iconst 0, 1), (.goto 16, 3), (.iload 5, 2), (.iconst 2, 1), (.irem, 1), (.iconst 1, 1), (.if_icmp .ne 7, 3), (.iconst 1, 1), (.goto 4, 3), (.iconst 0, 1), (.ireturn, 1)]
set_option maxHeartbeats 4000000 in
set_option maxRecDepth 100000 in
theorem dt_M_isIn : g_dc (g_b M_M_isIn) 0 dl_M_isIn = true := by decide +kernel
def M_M_look : gM := (⟨"BandPressModel", "look", "(Z)I"⟩, prog_14_method_41_code, some .int, 7, { frames := 2, cells := 0, slots := 0, locals := 55 }, false, false, none)
def dl_M_look : List (Instr × Nat) := [(.iconst 0, 1), (.istore_n 2, 1), (.iconst 0, 1), (.istore_n 3, 1), (.iload_n 3, 1), (.bipush 48, 2), (.if_icmp .ge 110, 3), (.iconst 0, 1), (.istore 4, 2), (.iconst 0, 1), (.istore 5, 2), (.iload 5, 2), (.bipush 64, 2), (.if_icmp .ge 91, 3), (.bipush 64, 2), (.iload_n 3, 1), (.imul, 1), (.iload 5, 2), (.iadd, 1), (.istore 6, 2), (.aload_n 0, 1), (.getfield 56, 3), (.iload 6, 2), (.aload_n 0, 1), (.getfield 50, 3), (.iload 6, 2), (.baload, 1), (.ifCond .eq 26, 3), (.aload_n 0, 1), (.iconst 4, 1), (.iload 5, 2), (.imul, 1), (.iconst 2, 1), (.iadd, 1), (.iconst 4, 1), (.iload_n 3, 1), (.imul, 1), (.iconst 2, 1), (.iadd, 1), (.iload_n 1, 1), (.invokevirtual 293, 3), (.ifCond .eq 7, 3), (.iconst 1, 1), (.goto 4, 3), (.iconst 0, 1), (.bastore, 1), (.iload_n 2, 1), (.aload_n 0, 1), (.getfield 56, 3), (.iload 6, 2), (.baload, 1), (.ifCond .eq 12, 3), (.iload 4, 2), (.ifCond .ne 7, 3), (.iconst 1, 1), (.goto 4, 3), (.iconst 0, 1), (.iadd, 1), (.istore_n 2, 1), (.aload_n 0, 1), (.getfield 56, 3), (.iload 6, 2), (.baload, 1), (.istore 4, 2), (.iinc 5 1, 3), (.goto (-92), 3), (.iinc 3 1, 3), (.goto (-110), 3), (.iload_n 2, 1), (.ireturn, 1)]
set_option maxHeartbeats 4000000 in
set_option maxRecDepth 100000 in
theorem dt_M_look : g_dc (g_b M_M_look) 0 dl_M_look = true := by decide +kernel
def M_M_noPath : gM := (⟨"BandPressModel", "noPath", "()V"⟩, prog_14_method_35_code, none, 1, { frames := 0, cells := 0, slots := 0, locals := 0 }, false, false, none)
def dl_M_noPath : List (Instr × Nat) := [(.aload_n 0, 1), (.iconst 0, 1), (.putfield 220, 3), (.aload_n 0, 1), (.iconst 0, 1), (.putfield 217, 3), (.aload_n 0, 1), (.iconst 0, 1), (.putfield 203, 3), (.return_, 1)]
set_option maxHeartbeats 4000000 in
set_option maxRecDepth 100000 in
theorem dt_M_noPath : g_dc (g_b M_M_noPath) 0 dl_M_noPath = true := by decide +kernel
def M_M_cut : gM := (⟨"BandPressModel", "cut", "()V"⟩, prog_14_method_44_code, none, 2, { frames := 3, cells := 0, slots := 0, locals := 81 }, false, false, none)
def dl_M_cut : List (Instr × Nat) := [(.aload_n 0, 1), (.iconst 1, 1), (.invokevirtual 226, 3), (.pop, 1), (.iconst 0, 1), (.istore_n 1, 1), (.iload_n 1, 1), (.sipush 3072, 3), (.if_icmp .ge 21, 3), (.aload_n 0, 1), (.getfield 50, 3), (.iload_n 1, 1), (.aload_n 0, 1), (.getfield 56, 3), (.iload_n 1, 1), (.baload, 1), (.bastore, 1), (.iinc 1 1, 3), (.goto (-22), 3), (.aload_n 0, 1), (.invokevirtual 154, 3), (.return_, 1)]
set_option maxHeartbeats 4000000 in
set_option maxRecDepth 100000 in
theorem dt_M_cut : g_dc (g_b M_M_cut) 0 dl_M_cut = true := by decide +kernel
def M_M_isDigit : gM := (⟨"BandPressModel", "isDigit", "(I)Z"⟩, prog_14_method_4_code, some .boolean, 1, { frames := 0, cells := 0, slots := 0, locals := 0 }, false, false, none)
def dl_M_isDigit : List (Instr × Nat) := [(.iload_n 0, 1), (.bipush 48, 2), (.if_icmp .lt 13, 3), (.iload_n 0, 1), (.bipush 57, 2), (.if_icmp .gt 7, 3), (.iconst 1, 1), (.goto 4, 3), (.iconst 0, 1), (.ireturn, 1)]
set_option maxHeartbeats 4000000 in
set_option maxRecDepth 100000 in
theorem dt_M_isDigit : g_dc (g_b M_M_isDigit) 0 dl_M_isDigit = true := by decide +kernel
def M_M_isLetter : gM := (⟨"BandPressModel", "isLetter", "(I)Z"⟩, prog_14_method_5_code, some .boolean, 1, { frames := 0, cells := 0, slots := 0, locals := 0 }, false, false, none)
def dl_M_isLetter : List (Instr × Nat) := [(.iload_n 0, 1), (.bipush 97, 2), (.if_icmp .lt 13, 3), (.iload_n 0, 1), (.bipush 122, 2), (.if_icmp .gt 7, 3), (.iconst 1, 1), (.goto 4, 3), (.iconst 0, 1), (.ireturn, 1)]
set_option maxHeartbeats 4000000 in
set_option maxRecDepth 100000 in
theorem dt_M_isLetter : g_dc (g_b M_M_isLetter) 0 dl_M_isLetter = true := by decide +kernel
def M_M_needs : gM := (⟨"BandPressModel", "needs", "(I)I"⟩, prog_14_method_6_code, some .int, 1, { frames := 1, cells := 0, slots := 0, locals := 20 }, false, false, none)
def dl_M_needs : List (Instr × Nat) := [(.iload_n 0, 1), (.tableswitch 386 37 126 #[379, 386, 386, 386, 386, 379, 379, 386, 379, 386, 379, 386, 386, 386, 386, 386, 386, 386, 386, 386, 386, 377, 386, 379, 379, 386, 381, 386, 386, 386, 383, 377, 375, 375, 377, 386, 386, 386, 386, 379, 379, 375, 377, 375, 375, 379, 379, 379, 375, 375, 375, 379, 386, 375, 386, 386, 386, 386, 386, 386, 386, 386, 386, 386, 386, 386, 386, 386, 386, 386, 386, 386, 386, 386, 386, 386, 386, 386, 386, 386, 386, 386, 386, 386, 386, 386, 375, 386, 375, 377], 375), (.iconst 0, 1), (.ireturn, 1), (.iconst 1, 1), (.ireturn, 1), (.iconst 2, 1), (.ireturn, 1), (.iconst 3, 1), (.ireturn, 1), (.bipush 6, 2), (.ireturn, 1), (.iload_n 0, 1), (.invokestatic 96, 3), (.ifCond .ne 10, 3), (.iload_n 0, 1), (.invokestatic 100, 3), (.ifCond .eq 7, 3), (.iconst 0, 1), (.goto 4, 3), (.iconst (-1), 1), (.ireturn, 1)]
set_option maxHeartbeats 4000000 in
set_option maxRecDepth 100000 in
theorem dt_M_needs : g_dc (g_b M_M_needs) 0 dl_M_needs = true := by decide +kernel
def M_M_place : gM := (⟨"BandPressModel", "place", "(IIZ)V"⟩, prog_14_method_36_code, none, 4, { frames := 0, cells := 0, slots := 0, locals := 0 }, false, false, none)
def dl_M_place : List (Instr × Nat) := [(.aload_n 0, 1), (.getfield 38, 3), (.aload_n 0, 1), (.getfield 220, 3), (.iload_n 1, 1), (.iastore, 1), (.aload_n 0, 1), (.getfield 41, 3), (.aload_n 0, 1), (.getfield 220, 3), (.iload_n 2, 1), (.iastore, 1), (.aload_n 0, 1), (.getfield 44, 3), (.aload_n 0, 1), (.getfield 220, 3), (.iload_n 3, 1), (.bastore, 1), (.aload_n 0, 1), (.dup, 1), (.getfield 220, 3), (.iconst 1, 1), (.iadd, 1), (.putfield 220, 3), (.aload_n 0, 1), (.iload_n 1, 1), (.putfield 262, 3), (.aload_n 0, 1), (.iload_n 2, 1), (.putfield 268, 3), (.aload_n 0, 1), (.iconst 1, 1), (.putfield 217, 3), (.iload_n 3, 1), (.ifCond .ne 4, 3), (.return_, 1), (.aload_n 0, 1), (.iload_n 1, 1), (.putfield 259, 3), (.aload_n 0, 1), (.iload_n 2, 1), (.putfield 265, 3), (.aload_n 0, 1), (.iconst 0, 1), (.putfield 203, 3), (.return_, 1)]
set_option maxHeartbeats 4000000 in
set_option maxRecDepth 100000 in
theorem dt_M_place : g_dc (g_b M_M_place) 0 dl_M_place = true := by decide +kernel
def M_M_number : gM := (⟨"BandPressModel", "number", "(I)I"⟩, prog_14_method_15_code, some .int, 2, { frames := 0, cells := 0, slots := 0, locals := 0 }, false, false, none)
def dl_M_number : List (Instr × Nat) := [(.aload_n 0, 1), (.getfield 16, 3), (.aload_n 0, 1), (.getfield 145, 3), (.iconst 1, 1), (.isub, 1), (.iload_n 1, 1), (.isub, 1), (.iaload, 1), (.ireturn, 1)]
set_option maxHeartbeats 4000000 in
set_option maxRecDepth 100000 in
theorem dt_M_number : g_dc (g_b M_M_number) 0 dl_M_number = true := by decide +kernel
def M_M_draw : gM := (⟨"BandPressModel", "draw", "(I)V"⟩, prog_14_method_37_code, none, 6, { frames := 3, cells := 0, slots := 0, locals := 80 }, false, false, none)
def dl_M_draw : List (Instr × Nat) := [(.iload_n 1, 1), (.invokestatic 103, 3), (.istore_n 2, 1), (.iload_n 1, 1), (.bipush 77, 2), (.if_icmp .eq 23, 3), (.aload_n 0, 1), (.getfield 203, 3), (.ifCond .eq 16, 3), (.aload_n 0, 1), (.aload_n 0, 1), (.getfield 262, 3), (.aload_n 0, 1), (.getfield 268, 3), (.iconst 1, 1), (.invokevirtual 281, 3), (.iload_n 1, 1), (.bipush 67, 2), (.if_icmp .ne 85, 3), (.aload_n 0, 1), (.getfield 262, 3), (.istore_n 3, 1), (.aload_n 0, 1), (.getfield 268, 3), (.istore 4, 2), (.iconst 1, 1), (.istore 5, 2), (.iload 5, 2), (.bipush 9, 2), (.if_icmp .ge 61, 3), (.aload_n 0, 1), (.aload_n 0, 1), (.iload 5, 2), (.iload_n 3, 1), (.aload_n 0, 1), (.iconst 5, 1), (.invokevirtual 185, 3), (.aload_n 0, 1), (.iconst 3, 1), (.invokevirtual 185, 3), (.aload_n 0, 1), (.iconst 1, 1), (.invokevirtual 185, 3), (.iconst 1, 1), (.invokevirtual 285, 3), (.aload_n 0, 1), (.iload 5, 2), (.iload 4, 2), (.aload_n 0, 1), (.iconst 4, 1), (.invokevirtual 185, 3), (.aload_n 0, 1), (.iconst 2, 1), (.invokevirtual 185, 3), (.aload_n 0, 1), (.iconst 0, 1), (.invokevirtual 185, 3), (.iconst 0, 1), (.invokevirtual 285, 3), (.iconst 0, 1), (.invokevirtual 281, 3), (.iinc 5 1, 3), (.goto (-62), 3), (.goto 38, 3), (.aload_n 0, 1), (.aload_n 0, 1), (.aload_n 0, 1), (.iconst 1, 1), (.invokevirtual 185, 3), (.invokevirtual 188, 3), (.l2i, 1), (.aload_n 0, 1), (.aload_n 0, 1), (.iconst 0, 1), (.invokevirtual 185, 3), (.invokevirtual 197, 3), (.l2i, 1), (.iload_n 1, 1), (.bipush 77, 2), (.if_icmp .ne 7, 3), (.iconst 1, 1), (.goto 4, 3), (.iconst 0, 1), (.invokevirtual 281, 3), (.aload_n 0, 1), (.dup, 1), (.getfield 145, 3), (.iload_n 2, 1), (.isub, 1), (.putfield 145, 3), (.return_, 1)]
set_option maxHeartbeats 4000000 in
set_option maxRecDepth 100000 in
theorem dt_M_draw : g_dc (g_b M_M_draw) 0 dl_M_draw = true := by decide +kernel
def M_M_empty : gM := (⟨"BandPressModel", "empty", "(I)V"⟩, prog_14_method_62_code, none, 2, { frames := 0, cells := 0, slots := 0, locals := 0 }, false, false, none)
def dl_M_empty : List (Instr × Nat) := [(.aload_n 0, 1), (.getfield 62, 3), (.iload_n 1, 1), (.iconst (-1), 1), (.iastore, 1), (.aload_n 0, 1), (.getfield 65, 3), (.iload_n 1, 1), (.iconst 0, 1), (.iastore, 1), (.aload_n 0, 1), (.getfield 68, 3), (.iload_n 1, 1), (.iconst 0, 1), (.iastore, 1), (.return_, 1)]
set_option maxHeartbeats 4000000 in
set_option maxRecDepth 100000 in
theorem dt_M_empty : g_dc (g_b M_M_empty) 0 dl_M_empty = true := by decide +kernel
def M_M_endJob : gM := (⟨"BandPressModel", "endJob", "(II)V"⟩, prog_14_method_13_code, none, 4, { frames := 0, cells := 0, slots := 0, locals := 0 }, false, false, none)
def dl_M_endJob : List (Instr × Nat) := [(.aload_n 0, 1), (.iconst 2, 1), (.putfield 107, 3), (.aload_n 0, 1), (.iload_n 1, 1), (.putfield 133, 3), (.aload_n 0, 1), (.iload_n 1, 1), (.ifCond .ne 7, 3), (.iconst 0, 1), (.goto 4, 3), (.iload_n 2, 1), (.putfield 136, 3), (.aload_n 0, 1), (.aload_n 0, 1), (.getfield 123, 3), (.aload_n 0, 1), (.getfield 126, 3), (.ifCond .eq 14, 3), (.aload_n 0, 1), (.getfield 139, 3), (.iconst 1, 1), (.iadd, 1), (.iconst 2, 1), (.idiv, 1), (.goto 7, 3), (.aload_n 0, 1), (.getfield 139, 3), (.imul, 1), (.putfield 113, 3), (.iconst 0, 1), (.istore_n 3, 1), (.iload_n 3, 1), (.bipush 40, 2), (.if_icmp .ge 16, 3), (.aload_n 0, 1), (.getfield 80, 3), (.iload_n 3, 1), (.iconst 0, 1), (.bastore, 1), (.iinc 3 1, 3), (.goto (-16), 3), (.return_, 1)]
set_option maxHeartbeats 4000000 in
set_option maxRecDepth 100000 in
theorem dt_M_endJob : g_dc (g_b M_M_endJob) 0 dl_M_endJob = true := by decide +kernel
def M_M_enter : gM := (⟨"BandPressModel", "enter", "(III)V"⟩, prog_14_method_9_code, none, 4, { frames := 0, cells := 0, slots := 0, locals := 0 }, false, false, none)
def dl_M_enter : List (Instr × Nat) := [(.aload_n 0, 1), (.getfield 26, 3), (.aload_n 0, 1), (.getfield 157, 3), (.iload_n 1, 1), (.iastore, 1), (.aload_n 0, 1), (.getfield 32, 3), (.aload_n 0, 1), (.getfield 157, 3), (.iload_n 1, 1), (.iastore, 1), (.aload_n 0, 1), (.getfield 29, 3), (.aload_n 0, 1), (.getfield 157, 3), (.iload_n 2, 1), (.iastore, 1), (.aload_n 0, 1), (.getfield 35, 3), (.aload_n 0, 1), (.getfield 157, 3), (.iload_n 3, 1), (.iastore, 1), (.aload_n 0, 1), (.dup, 1), (.getfield 157, 3), (.iconst 1, 1), (.iadd, 1), (.putfield 157, 3), (.return_, 1)]
set_option maxHeartbeats 4000000 in
set_option maxRecDepth 100000 in
theorem dt_M_enter : g_dc (g_b M_M_enter) 0 dl_M_enter = true := by decide +kernel
def M_M_isKind : gM := (⟨"BandPressModel", "isKind", "(II)Z"⟩, prog_14_method_17_code, some .boolean, 5, { frames := 0, cells := 0, slots := 0, locals := 0 }, false, false, none)
def dl_M_isKind : List (Instr × Nat) := [(.iload_n 1, 1), (.bipush 68, 2), (.if_icmp .eq 15, 3), (.iload_n 1, 1), (.bipush 88, 2), (.if_icmp .eq 9, 3), (.iload_n 1, 1), (.bipush 79, 2), (.if_icmp .ne 5, 3), (.iconst 1, 1), (.ireturn, 1), (.iconst 0, 1), (.istore_n 3, 1), (.iload_n 3, 1), (.iload_n 2, 1), (.if_icmp .ge 65, 3), (.iload_n 1, 1), (.bipush 63, 2), (.if_icmp .ne 16, 3), (.iload_n 3, 1), (.iconst 2, 1), (.if_icmp .ge 7, 3), (.iconst 1, 1), (.goto 22, 3), (.iconst 0, 1), (.goto 18, 3), (.iload_n 1, 1), (.bipush 82, 2), (.if_icmp .ne 11, 3), (.iload_n 3, 1), (.ifCond .ne 7, 3), (.iconst 1, 1), (.goto 4, 3), (.iconst 0, 1), (.istore 4, 2), (.aload_n 0, 1), (.getfield 22, 3), (.aload_n 0, 1), (.getfield 145, 3), (.iconst 1, 1), (.isub, 1), (.iload_n 3, 1), (.isub, 1), (.baload, 1), (.iload 4, 2), (.if_icmp .eq 5, 3), (.iconst 0, 1), (.ireturn, 1), (.iinc 3 1, 3), (.goto (-64), 3), (.iconst 1, 1), (.ireturn, 1)]
set_option maxHeartbeats 4000000 in
set_option maxRecDepth 100000 in
theorem dt_M_isKind : g_dc (g_b M_M_isKind) 0 dl_M_isKind = true := by decide +kernel
def M_M_quotient : gM := (⟨"BandPressModel", "quotient", "()I"⟩, prog_14_method_23_code, some .int, 1, { frames := 1, cells := 0, slots := 0, locals := 21 }, false, false, none)
def dl_M_quotient : List (Instr × Nat) := [(.aload_n 0, 1), (.iconst 0, 1), (.invokevirtual 185, 3), (.ifCond .ne 7, 3), (.iconst 0, 1), (.goto 14, 3), (.aload_n 0, 1), (.iconst 1, 1), (.invokevirtual 185, 3), (.aload_n 0, 1), (.iconst 0, 1), (.invokevirtual 185, 3), (.idiv, 1), (.ireturn, 1)]
set_option maxHeartbeats 4000000 in
set_option maxRecDepth 100000 in
theorem dt_M_quotient : g_dc (g_b M_M_quotient) 0 dl_M_quotient = true := by decide +kernel
def M_M_result : gM := (⟨"BandPressModel", "result", "(I)J"⟩, prog_14_method_24_code, some .long, 6, { frames := 2, cells := 0, slots := 0, locals := 41 }, false, false, none)
def dl_M_result : List (Instr × Nat) := [(.aload_n 0, 1), (.iconst 1, 1), (.invokevirtual 185, 3), (.i2l, 1), (.lstore_n 2, 1), (.aload_n 0, 1), (.iconst 0, 1), (.invokevirtual 185, 3), (.i2l, 1), (.lstore 4, 2), (.iload_n 1, 1), (.bipush 43, 2), (.if_icmp .ne 10, 3), (.lload_n 2, 1), (.lload 4, 2), (.ladd, 1), (.goto 44, 3), (.iload_n 1, 1), (.bipush 45, 2), (.if_icmp .ne 10, 3), (.lload_n 2, 1), (.lload 4, 2), (.lsub, 1), (.goto 31, 3), (.iload_n 1, 1), (.bipush 42, 2), (.if_icmp .ne 10, 3), (.lload_n 2, 1), (.lload 4, 2), (.lmul, 1), (.goto 18, 3), (.iload_n 1, 1), (.bipush 47, 2), (.if_icmp .ne 11, 3), (.aload_n 0, 1), (.invokevirtual 200, 3), (.i2l, 1), (.goto 4, 3), (.lconst 0, 1), (.lreturn, 1)]
set_option maxHeartbeats 4000000 in
set_option maxRecDepth 100000 in
theorem dt_M_result : g_dc (g_b M_M_result) 0 dl_M_result = true := by decide +kernel
def M_M_isFar : gM := (⟨"BandPressModel", "isFar", "(JI)Z"⟩, prog_14_method_18_code, some .boolean, 3, { frames := 0, cells := 0, slots := 0, locals := 0 }, false, false, none)
def dl_M_isFar : List (Instr × Nat) := [(.lload_n 0, 1), (.iload_n 2, 1), (.i2l, 1), (.lcmp, 1), (.ifCond .gt 11, 3), (.lload_n 0, 1), (.iload_n 2, 1), (.ineg, 1), (.i2l, 1), (.lcmp, 1), (.ifCond .ge 7, 3), (.iconst 1, 1), (.goto 4, 3), (.iconst 0, 1), (.ireturn, 1)]
set_option maxHeartbeats 4000000 in
set_option maxRecDepth 100000 in
theorem dt_M_isFar : g_dc (g_b M_M_isFar) 0 dl_M_isFar = true := by decide +kernel
def M_M_isNear : gM := (⟨"BandPressModel", "isNear", "(I)Z"⟩, prog_14_method_22_code, some .boolean, 4, { frames := 2, cells := 0, slots := 0, locals := 42 }, false, false, none)
def dl_M_isNear : List (Instr × Nat) := [(.iconst 1, 1), (.istore_n 2, 1), (.iconst 0, 1), (.istore_n 3, 1), (.iload_n 3, 1), (.iload_n 1, 1), (.if_icmp .ge 55, 3), (.iload_n 2, 1), (.ifCond .eq 43, 3), (.aload_n 0, 1), (.aload_n 0, 1), (.iload_n 3, 1), (.iconst 1, 1), (.iadd, 1), (.invokevirtual 185, 3), (.invokevirtual 188, 3), (.ldc 192, 2), (.invokestatic 193, 3), (.ifCond .ne 24, 3), (.aload_n 0, 1), (.aload_n 0, 1), (.iload_n 3, 1), (.invokevirtual 185, 3), (.invokevirtual 197, 3), (.ldc 192, 2), (.invokestatic 193, 3), (.ifCond .ne 7, 3), (.iconst 1, 1), (.goto 4, 3), (.iconst 0, 1), (.istore_n 2, 1), (.iinc 3 2, 3), (.goto (-54), 3), (.iload_n 2, 1), (.ireturn, 1)]
set_option maxHeartbeats 4000000 in
set_option maxRecDepth 100000 in
theorem dt_M_isNear : g_dc (g_b M_M_isNear) 0 dl_M_isNear = true := by decide +kernel
def M_M_placesFor : gM := (⟨"BandPressModel", "placesFor", "(I)I"⟩, prog_14_method_26_code, some .int, 2, { frames := 0, cells := 0, slots := 0, locals := 0 }, false, false, none)
def dl_M_placesFor : List (Instr × Nat) := [(.iload_n 1, 1), (.aload_n 0, 1), (.getfield 203, 3), (.ifCond .eq 7, 3), (.iconst 1, 1), (.goto 4, 3), (.iconst 0, 1), (.iadd, 1), (.ireturn, 1)]
set_option maxHeartbeats 4000000 in
set_option maxRecDepth 100000 in
theorem dt_M_placesFor : g_dc (g_b M_M_placesFor) 0 dl_M_placesFor = true := by decide +kernel
def M_M_isRepeated : gM := (⟨"BandPressModel", "isRepeated", "()Z"⟩, prog_14_method_25_code, some .boolean, 2, { frames := 0, cells := 0, slots := 0, locals := 0 }, false, false, none)
def dl_M_isRepeated : List (Instr × Nat) := [(.iconst 0, 1), (.istore_n 1, 1), (.iload_n 1, 1), (.aload_n 0, 1), (.getfield 157, 3), (.if_icmp .ge 21, 3), (.aload_n 0, 1), (.getfield 35, 3), (.iload_n 1, 1), (.iaload, 1), (.iconst (-1), 1), (.if_icmp .eq 5, 3), (.iconst 1, 1), (.ireturn, 1), (.iinc 1 1, 3), (.goto (-23), 3), (.iconst 0, 1), (.ireturn, 1)]
set_option maxHeartbeats 4000000 in
set_option maxRecDepth 100000 in
theorem dt_M_isRepeated : g_dc (g_b M_M_isRepeated) 0 dl_M_isRepeated = true := by decide +kernel
def M_M_errorOf : gM := (⟨"BandPressModel", "errorOf", "(I)I"⟩, prog_14_method_27_code, some .int, 4, { frames := 3, cells := 0, slots := 0, locals := 81 }, false, false, none)
def dl_M_errorOf : List (Instr × Nat) := [(.iload_n 1, 1), (.invokestatic 103, 3), (.istore_n 2, 1), (.aload_n 0, 1), (.getfield 145, 3), (.iload_n 2, 1), (.if_icmp .ge 5, 3), (.iconst 1, 1), (.ireturn, 1), (.aload_n 0, 1), (.iload_n 1, 1), (.iload_n 2, 1), (.invokevirtual 206, 3), (.ifCond .ne 5, 3), (.iconst 2, 1), (.ireturn, 1), (.iconst 0, 1), (.istore_n 3, 1), (.iload_n 1, 1), (.bipush 43, 2), (.if_icmp .eq 21, 3), (.iload_n 1, 1), (.bipush 45, 2), (.if_icmp .eq 15, 3), (.iload_n 1, 1), (.bipush 42, 2), (.if_icmp .eq 9, 3), (.iload_n 1, 1), (.bipush 47, 2), (.if_icmp .ne 14, 3), (.aload_n 0, 1), (.iload_n 1, 1), (.invokevirtual 210, 3), (.ldc 213, 2), (.invokestatic 193, 3), (.istore_n 3, 1), (.iload_n 1, 1), (.bipush 77, 2), (.if_icmp .eq 21, 3), (.iload_n 1, 1), (.bipush 76, 2), (.if_icmp .eq 15, 3), (.iload_n 1, 1), (.bipush 67, 2), (.if_icmp .eq 9, 3), (.iload_n 1, 1), (.bipush 84, 2), (.if_icmp .ne 17, 3), (.aload_n 0, 1), (.iload_n 2, 1), (.invokevirtual 214, 3), (.ifCond .ne 7, 3), (.iconst 1, 1), (.goto 4, 3), (.iconst 0, 1), (.istore_n 3, 1), (.iload_n 1, 1), (.bipush 83, 2), (.if_icmp .ne 55, 3), (.aload_n 0, 1), (.getfield 47, 3), (.iconst 0, 1), (.iaload, 1), (.aload_n 0, 1), (.iconst 1, 1), (.invokevirtual 185, 3), (.invokestatic 181, 3), (.sipush 4096, 3), (.invokestatic 193, 3), (.ifCond .ne 26, 3), (.aload_n 0, 1), (.getfield 47, 3), (.iconst 1, 1), (.iaload, 1), (.aload_n 0, 1), (.iconst 0, 1), (.invokevirtual 185, 3), (.invokestatic 181, 3), (.sipush 4096, 3), (.invokestatic 193, 3), (.ifCond .eq 7, 3), (.iconst 1, 1), (.goto 4, 3), (.iconst 0, 1), (.istore_n 3, 1), (.iload_n 1, 1), (.bipush 71, 2), (.if_icmp .ne 27, 3), (.aload_n 0, 1), (.iconst 0, 1), (.invokevirtual 185, 3), (.ifCond .lt 13, 3), (.aload_n 0, 1), (.iconst 0, 1), (.invokevirtual 185, 3), (.bipush 16, 2), (.if_icmp .le 7, 3), (.iconst 1, 1), (.goto 4, 3), (.iconst 0, 1), (.istore_n 3, 1), (.iload_n 3, 1), (.ifCond .eq 5, 3), (.iconst 3, 1), (.ireturn, 1), (.iload_n 1, 1), (.bipush 47, 2), (.if_icmp .eq 9, 3), (.iload_n 1, 1), (.bipush 37, 2), (.if_icmp .ne 13, 3), (.aload_n 0, 1), (.iconst 0, 1), (.invokevirtual 185, 3), (.ifCond .ne 5, 3), (.iconst 4, 1), (.ireturn, 1), (.iload_n 1, 1), (.invokestatic 96, 3), (.ifCond .ne 22, 3), (.iload_n 1, 1), (.invokestatic 100, 3), (.ifCond .ne 15, 3), (.iload_n 1, 1), (.bipush 123, 2), (.if_icmp .eq 9, 3), (.iload_n 1, 1), (.bipush 68, 2), (.if_icmp .ne 12, 3), (.aload_n 0, 1), (.getfield 145, 3), (.bipush 32, 2), (.if_icmp .eq 32, 3), (.iload_n 1, 1), (.bipush 63, 2), (.if_icmp .eq 17, 3), (.iload_n 1, 1), (.bipush 82, 2), (.if_icmp .ne 22, 3), (.aload_n 0, 1), (.iconst 1, 1), (.invokevirtual 185, 3), (.ifCond .le 14, 3), (.aload_n 0, 1), (.getfield 157, 3), (.bipush 21, 2), (.if_icmp .ne 5, 3), (.iconst 5, 1), (.ireturn, 1), (.iload_n 1, 1), (.bipush 76, 2), (.if_icmp .eq 15, 3), (.iload_n 1, 1), (.bipush 67, 2), (.if_icmp .eq 9, 3), (.iload_n 1, 1), (.bipush 90, 2), (.if_icmp .ne 13, 3), (.aload_n 0, 1), (.getfield 217, 3), (.ifCond .ne 6, 3), (.bipush 6, 2), (.ireturn, 1), (.iload_n 1, 1), (.bipush 77, 2), (.if_icmp .ne 13, 3), (.aload_n 0, 1), (.getfield 220, 3), (.sipush 200, 3), (.if_icmp .eq 48, 3), (.iload_n 1, 1), (.bipush 76, 2), (.if_icmp .ne 19, 3), (.aload_n 0, 1), (.getfield 220, 3), (.aload_n 0, 1), (.iconst 1, 1), (.invokevirtual 223, 3), (.iadd, 1), (.sipush 200, 3), (.if_icmp .gt 26, 3), (.iload_n 1, 1), (.bipush 67, 2), (.if_icmp .ne 23, 3), (.aload_n 0, 1), (.getfield 220, 3), (.aload_n 0, 1), (.bipush 8, 2), (.invokevirtual 223, 3), (.iadd, 1), (.sipush 200, 3), (.if_icmp .le 6, 3), (.bipush 7, 2), (.ireturn, 1), (.iload_n 1, 1), (.bipush 70, 2), (.if_icmp .eq 9, 3), (.iload_n 1, 1), (.bipush 69, 2), (.if_icmp .ne 36, 3), (.aload_n 0, 1), (.getfield 151, 3), (.aload_n 0, 1), (.iload_n 1, 1), (.bipush 70, 2), (.if_icmp .ne 7, 3), (.iconst 1, 1), (.goto 4, 3), (.iconst 0, 1), (.invokevirtual 226, 3), (.iadd, 1), (.sipush 250, 3), (.if_icmp .le 8, 3), (.bipush 8, 2), (.goto 4, 3), (.iconst 0, 1), (.ireturn, 1), (.iload_n 1, 1), (.bipush 80, 2), (.if_icmp .ne 15, 3), (.aload_n 0, 1), (.getfield 139, 3), (.bipush 8, 2), (.if_icmp .ne 6, 3), (.bipush 9, 2), (.ireturn, 1), (.iload_n 1, 1), (.bipush 85, 2), (.if_icmp .ne 11, 3), (.aload_n 0, 1), (.getfield 148, 3), (.iconst 4, 1), (.if_icmp .eq 16, 3), (.iload_n 1, 1), (.bipush 86, 2), (.if_icmp .ne 13, 3), (.aload_n 0, 1), (.getfield 148, 3), (.ifCond .ne 6, 3), (.bipush 10, 2), (.ireturn, 1), (.iload_n 1, 1), (.bipush 81, 2), (.if_icmp .ne 15, 3), (.aload_n 0, 1), (.invokevirtual 230, 3), (.ifCond .ne 8, 3), (.bipush 11, 2), (.goto 4, 3), (.iconst 0, 1), (.ireturn, 1)]
set_option maxHeartbeats 4000000 in
set_option maxRecDepth 100000 in
theorem dt_M_errorOf : g_dc (g_b M_M_errorOf) 0 dl_M_errorOf = true := by decide +kernel
def M_M_faultOf : gM := (⟨"BandPressModel", "faultOf", "()I"⟩, prog_14_method_7_code, some .int, 5, { frames := 2, cells := 0, slots := 0, locals := 40 }, false, false, none)
def dl_M_faultOf : List (Instr × Nat) := [(.iconst 0, 1), (.istore_n 1, 1), (.iconst 0, 1), (.istore_n 2, 1), (.iload_n 2, 1), (.aload_n 0, 1), (.getfield 87, 3), (.if_icmp .ge 159, 3), (.aload_n 0, 1), (.getfield 7, 3), (.iload_n 2, 1), (.iaload, 1), (.istore_n 3, 1), (.iload_n 3, 1), (.bipush 32, 2), (.if_icmp .ne 6, 3), (.goto 137, 3), (.iload_n 3, 1), (.invokestatic 103, 3), (.iconst (-1), 1), (.if_icmp .eq 25, 3), (.iload_n 3, 1), (.bipush 125, 2), (.if_icmp .ne 7, 3), (.iload_n 1, 1), (.ifCond .eq 15, 3), (.iload_n 3, 1), (.bipush 123, 2), (.if_icmp .ne 11, 3), (.iload_n 1, 1), (.bipush 8, 2), (.if_icmp .ne 5, 3), (.iload_n 2, 1), (.ireturn, 1), (.iload_n 1, 1), (.iload_n 3, 1), (.bipush 123, 2), (.if_icmp .ne 7, 3), (.iconst 1, 1), (.goto 14, 3), (.iload_n 3, 1), (.bipush 125, 2), (.if_icmp .ne 7, 3), (.iconst (-1), 1), (.goto 4, 3), (.iconst 0, 1), (.iadd, 1), (.istore_n 1, 1), (.iload_n 3, 1), (.bipush 58, 2), (.if_icmp .ne 28, 3), (.iinc 2 1, 3), (.iload_n 2, 1), (.aload_n 0, 1), (.getfield 87, 3), (.if_icmp .eq 15, 3), (.aload_n 0, 1), (.getfield 7, 3), (.iload_n 2, 1), (.iaload, 1), (.invokestatic 100, 3), (.ifCond .ne 5, 3), (.iload_n 2, 1), (.ireturn, 1), (.iload_n 2, 1), (.istore 4, 2), (.iload_n 3, 1), (.invokestatic 96, 3), (.ifCond .eq 40, 3), (.iload_n 2, 1), (.iconst 1, 1), (.iadd, 1), (.aload_n 0, 1), (.getfield 87, 3), (.if_icmp .ge 30, 3), (.aload_n 0, 1), (.getfield 7, 3), (.iload_n 2, 1), (.iconst 1, 1), (.iadd, 1), (.iaload, 1), (.invokestatic 96, 3), (.ifCond .eq 16, 3), (.iinc 2 1, 3), (.iload_n 2, 1), (.iload 4, 2), (.iconst 5, 1), (.iadd, 1), (.if_icmp .ne (-39), 3), (.iload_n 2, 1), (.ireturn, 1), (.iinc 2 1, 3), (.goto (-161), 3), (.iload_n 1, 1), (.ifCond .le 10, 3), (.aload_n 0, 1), (.getfield 87, 3), (.goto 4, 3), (.iconst (-1), 1), (.ireturn, 1)]
set_option maxHeartbeats 4000000 in
set_option maxRecDepth 100000 in
theorem dt_M_faultOf : g_dc (g_b M_M_faultOf) 0 dl_M_faultOf = true := by decide +kernel
def M_M_toMake : gM := (⟨"BandPressModel", "toMake", "()I"⟩, prog_14_method_64_code, some .int, 4, { frames := 0, cells := 0, slots := 0, locals := 0 }, false, false, none)
def dl_M_toMake : List (Instr × Nat) := [(.iconst 0, 1), (.istore_n 1, 1), (.iload_n 1, 1), (.aload_n 0, 1), (.getfield 113, 3), (.if_icmp .ge 63, 3), (.aload_n 0, 1), (.getfield 80, 3), (.iload_n 1, 1), (.baload, 1), (.ifCond .ne 7, 3), (.iconst 1, 1), (.goto 4, 3), (.iconst 0, 1), (.istore_n 2, 1), (.iconst 0, 1), (.istore_n 3, 1), (.iload_n 3, 1), (.iconst 4, 1), (.if_icmp .ge 29, 3), (.iload_n 2, 1), (.ifCond .eq 17, 3), (.aload_n 0, 1), (.getfield 62, 3), (.iload_n 3, 1), (.iaload, 1), (.iload_n 1, 1), (.if_icmp .eq 7, 3), (.iconst 1, 1), (.goto 4, 3), (.iconst 0, 1), (.istore_n 2, 1), (.iinc 3 1, 3), (.goto (-28), 3), (.iload_n 2, 1), (.ifCond .eq 5, 3), (.iload_n 1, 1), (.ireturn, 1), (.iinc 1 1, 3), (.goto (-65), 3), (.iconst (-1), 1), (.ireturn, 1)]
set_option maxHeartbeats 4000000 in
set_option maxRecDepth 100000 in
theorem dt_M_toMake : g_dc (g_b M_M_toMake) 0 dl_M_toMake = true := by decide +kernel
def M_M_insideMany : gM := (⟨"BandPressModel", "insideMany", "()I"⟩, prog_14_method_58_code, some .int, 3, { frames := 0, cells := 0, slots := 0, locals := 0 }, false, false, none)
def dl_M_insideMany : List (Instr × Nat) := [(.iconst 0, 1), (.istore_n 1, 1), (.iconst 0, 1), (.istore_n 2, 1), (.iload_n 2, 1), (.iconst 4, 1), (.if_icmp .ge 27, 3), (.iload_n 1, 1), (.aload_n 0, 1), (.getfield 62, 3), (.iload_n 2, 1), (.iaload, 1), (.iconst (-1), 1), (.if_icmp .eq 7, 3), (.iconst 1, 1), (.goto 4, 3), (.iconst 0, 1), (.iadd, 1), (.istore_n 1, 1), (.iinc 2 1, 3), (.goto (-26), 3), (.iload_n 1, 1), (.ireturn, 1)]
set_option maxHeartbeats 4000000 in
set_option maxRecDepth 100000 in
theorem dt_M_insideMany : g_dc (g_b M_M_insideMany) 0 dl_M_insideMany = true := by decide +kernel
def M_M_feed : gM := (⟨"BandPressModel", "feed", "()V"⟩, prog_14_method_65_code, none, 2, { frames := 1, cells := 0, slots := 0, locals := 23 }, false, false, none)
def dl_M_feed : List (Instr × Nat) := [(.aload_n 0, 1), (.invokevirtual 342, 3), (.istore_n 1, 1), (.aload_n 0, 1), (.getfield 62, 3), (.iconst 0, 1), (.iaload, 1), (.iconst (-1), 1), (.if_icmp .ne 33, 3), (.aload_n 0, 1), (.getfield 62, 3), (.iconst 3, 1), (.iaload, 1), (.iconst (-1), 1), (.if_icmp .ne 23, 3), (.aload_n 0, 1), (.invokevirtual 345, 3), (.iconst 1, 1), (.if_icmp .gt 15, 3), (.aload_n 0, 1), (.getfield 348, 3), (.ifCond .eq 8, 3), (.iload_n 1, 1), (.iconst (-1), 1), (.if_icmp .ne 4, 3), (.return_, 1), (.aload_n 0, 1), (.dup, 1), (.getfield 348, 3), (.iconst 1, 1), (.isub, 1), (.putfield 348, 3), (.aload_n 0, 1), (.getfield 62, 3), (.iconst 0, 1), (.iload_n 1, 1), (.iastore, 1), (.aload_n 0, 1), (.getfield 65, 3), (.iconst 0, 1), (.iconst 0, 1), (.iastore, 1), (.aload_n 0, 1), (.getfield 68, 3), (.iconst 0, 1), (.iconst 0, 1), (.iastore, 1), (.return_, 1)]
set_option maxHeartbeats 4000000 in
set_option maxRecDepth 100000 in
theorem dt_M_feed : g_dc (g_b M_M_feed) 0 dl_M_feed = true := by decide +kernel
def M_M_cell : gM := (⟨"BandPressModel", "cell", "(II)I"⟩, prog_14_method_42_code, some .int, 4, { frames := 0, cells := 0, slots := 0, locals := 0 }, false, false, none)
def dl_M_cell : List (Instr × Nat) := [(.iload_n 1, 1), (.iconst 1, 1), (.iand, 1), (.ifCond .ne 17, 3), (.iload_n 0, 1), (.iconst 1, 1), (.iand, 1), (.ifCond .ne 7, 3), (.iconst 0, 1), (.goto 18, 3), (.iconst 2, 1), (.goto 14, 3), (.iload_n 0, 1), (.iconst 1, 1), (.iand, 1), (.ifCond .ne 7, 3), (.iconst 3, 1), (.goto 4, 3), (.iconst 1, 1), (.istore_n 2, 1), (.iload_n 1, 1), (.iconst 2, 1), (.iand, 1), (.ifCond .ne 17, 3), (.iload_n 0, 1), (.iconst 2, 1), (.iand, 1), (.ifCond .ne 7, 3), (.iconst 0, 1), (.goto 18, 3), (.iconst 2, 1), (.goto 14, 3), (.iload_n 0, 1), (.iconst 2, 1), (.iand, 1), (.ifCond .ne 7, 3), (.iconst 3, 1), (.goto 4, 3), (.iconst 1, 1), (.istore_n 3, 1), (.iconst 4, 1), (.iload_n 2, 1), (.imul, 1), (.iload_n 3, 1), (.iadd, 1), (.ireturn, 1)]
set_option maxHeartbeats 4000000 in
set_option maxRecDepth 100000 in
theorem dt_M_cell : g_dc (g_b M_M_cell) 0 dl_M_cell = true := by decide +kernel
def M_M_fill : gM := (⟨"BandPressModel", "fill", "(Z)V"⟩, prog_14_method_43_code, none, 3, { frames := 3, cells := 0, slots := 0, locals := 81 }, false, false, none)
def dl_M_fill : List (Instr × Nat) := [(.aload_n 0, 1), (.dup, 1), (.getfield 151, 3), (.aload_n 0, 1), (.iload_n 1, 1), (.invokevirtual 226, 3), (.iadd, 1), (.putfield 151, 3), (.iconst 0, 1), (.istore_n 2, 1), (.iload_n 2, 1), (.sipush 3072, 3), (.if_icmp .ge 53, 3), (.aload_n 0, 1), (.getfield 56, 3), (.iload_n 2, 1), (.baload, 1), (.ifCond .eq 38, 3), (.aload_n 0, 1), (.getfield 53, 3), (.sipush 24576, 3), (.iload_n 2, 1), (.iadd, 1), (.iload_n 2, 1), (.bipush 64, 2), (.irem, 1), (.iload_n 2, 1), (.bipush 64, 2), (.idiv, 1), (.invokestatic 297, 3), (.aload_n 0, 1), (.getfield 47, 3), (.iconst 4, 1), (.iaload, 1), (.if_icmp .ge 7, 3), (.iconst 1, 1), (.goto 4, 3), (.iconst 0, 1), (.bastore, 1), (.iinc 2 1, 3), (.goto (-54), 3), (.aload_n 0, 1), (.invokevirtual 154, 3), (.return_, 1)]
set_option maxHeartbeats 4000000 in
set_option maxRecDepth 100000 in
theorem dt_M_fill : g_dc (g_b M_M_fill) 0 dl_M_fill = true := by decide +kernel
def M_M_sidesOf : gM := (⟨"BandPressModel", "sidesOf", "()I"⟩, prog_14_method_59_code, some .int, 1, { frames := 0, cells := 0, slots := 0, locals := 0 }, false, false, none)
def dl_M_sidesOf : List (Instr × Nat) := [(.aload_n 0, 1), (.getfield 126, 3), (.ifCond .eq 7, 3), (.iconst 2, 1), (.goto 4, 3), (.iconst 1, 1), (.ireturn, 1)]
set_option maxHeartbeats 4000000 in
set_option maxRecDepth 100000 in
theorem dt_M_sidesOf : g_dc (g_b M_M_sidesOf) 0 dl_M_sidesOf = true := by decide +kernel
def M_M_goes : gM := (⟨"BandPressModel", "goes", "(I)Z"⟩, prog_14_method_60_code, some .boolean, 2, { frames := 1, cells := 0, slots := 0, locals := 20 }, false, false, none)
def dl_M_goes : List (Instr × Nat) := [(.aload_n 0, 1), (.getfield 62, 3), (.iload_n 1, 1), (.iaload, 1), (.iconst (-1), 1), (.if_icmp .eq 12, 3), (.aload_n 0, 1), (.getfield 77, 3), (.iload_n 1, 1), (.baload, 1), (.ifCond .eq 5, 3), (.iconst 0, 1), (.ireturn, 1), (.iload_n 1, 1), (.tableswitch 96 0 2 #[26, 51, 67], 26), (.aload_n 0, 1), (.getfield 62, 3), (.iconst 1, 1), (.iaload, 1), (.iconst (-1), 1), (.if_icmp .ne 16, 3), (.aload_n 0, 1), (.getfield 327, 3), (.bipush 80, 2), (.if_icmp .lt 7, 3), (.iconst 1, 1), (.goto 4, 3), (.iconst 0, 1), (.ireturn, 1), (.aload_n 0, 1), (.getfield 62, 3), (.iconst 2, 1), (.iaload, 1), (.iconst (-1), 1), (.if_icmp .ne 7, 3), (.iconst 1, 1), (.goto 4, 3), (.iconst 0, 1), (.ireturn, 1), (.aload_n 0, 1), (.getfield 65, 3), (.iconst 2, 1), (.iaload, 1), (.aload_n 0, 1), (.invokevirtual 330, 3), (.if_icmp .eq 13, 3), (.aload_n 0, 1), (.getfield 62, 3), (.iconst 3, 1), (.iaload, 1), (.iconst (-1), 1), (.if_icmp .ne 7, 3), (.iconst 1, 1), (.goto 4, 3), (.iconst 0, 1), (.ireturn, 1), (.aload_n 0, 1), (.getfield 62, 3), (.iconst 0, 1), (.iaload, 1), (.iconst (-1), 1), (.if_icmp .ne 7, 3), (.iconst 1, 1), (.goto 4, 3), (.iconst 0, 1), (.ireturn, 1)]
set_option maxHeartbeats 4000000 in
set_option maxRecDepth 100000 in
theorem dt_M_goes : g_dc (g_b M_M_goes) 0 dl_M_goes = true := by decide +kernel
def M_M_job : gM := (⟨"BandPressModel", "job", "(I)I"⟩, prog_14_method_45_code, some .int, 2, { frames := 0, cells := 0, slots := 0, locals := 0 }, false, false, none)
def dl_M_job : List (Instr × Nat) := [(.aload_n 0, 1), (.iconst 0, 1), (.putfield 83, 3), (.iload_n 1, 1), (.tableswitch 97 0 8 #[50, 55, 60, 65, 70, 75, 80, 85, 90], 50), (.aload_n 0, 1), (.getfield 107, 3), (.ireturn, 1), (.aload_n 0, 1), (.getfield 133, 3), (.ireturn, 1), (.aload_n 0, 1), (.getfield 136, 3), (.ireturn, 1), (.aload_n 0, 1), (.getfield 139, 3), (.ireturn, 1), (.aload_n 0, 1), (.getfield 142, 3), (.ireturn, 1), (.aload_n 0, 1), (.getfield 151, 3), (.ireturn, 1), (.aload_n 0, 1), (.getfield 145, 3), (.ireturn, 1), (.aload_n 0, 1), (.getfield 220, 3), (.ireturn, 1), (.aload_n 0, 1), (.getfield 47, 3), (.iconst 4, 1), (.iaload, 1), (.ireturn, 1), (.iconst (-1), 1), (.ireturn, 1)]
set_option maxHeartbeats 4000000 in
set_option maxRecDepth 100000 in
theorem dt_M_job : g_dc (g_b M_M_job) 0 dl_M_job = true := by decide +kernel
def M_M_load : gM := (⟨"BandPressModel", "load", "(I)I"⟩, prog_14_method_72_code, some .int, 2, { frames := 0, cells := 0, slots := 0, locals := 0 }, false, false, none)
def dl_M_load : List (Instr × Nat) := [(.aload_n 0, 1), (.iconst 0, 1), (.putfield 83, 3), (.iload_n 1, 1), (.iconst 1, 1), (.if_icmp .lt 22, 3), (.iload_n 1, 1), (.sipush 200, 3), (.if_icmp .gt 15, 3), (.aload_n 0, 1), (.getfield 348, 3), (.iload_n 1, 1), (.iadd, 1), (.sipush 500, 3), (.if_icmp .le 5, 3), (.iconst (-1), 1), (.ireturn, 1), (.aload_n 0, 1), (.dup, 1), (.getfield 348, 3), (.iload_n 1, 1), (.iadd, 1), (.putfield 348, 3), (.aload_n 0, 1), (.getfield 348, 3), (.ireturn, 1)]
set_option maxHeartbeats 4000000 in
set_option maxRecDepth 100000 in
theorem dt_M_load : g_dc (g_b M_M_load) 0 dl_M_load = true := by decide +kernel
def M_M_next : gM := (⟨"BandPressModel", "next", "()I"⟩, prog_14_method_10_code, some .int, 2, { frames := 0, cells := 0, slots := 0, locals := 0 }, false, false, none)
def dl_M_next : List (Instr × Nat) := [(.aload_n 0, 1), (.getfield 157, 3), (.ifCond .le 124, 3), (.aload_n 0, 1), (.getfield 157, 3), (.iconst 1, 1), (.isub, 1), (.istore_n 1, 1), (.aload_n 0, 1), (.getfield 26, 3), (.iload_n 1, 1), (.iaload, 1), (.aload_n 0, 1), (.getfield 29, 3), (.iload_n 1, 1), (.iaload, 1), (.if_icmp .ge 32, 3), (.aload_n 0, 1), (.getfield 13, 3), (.aload_n 0, 1), (.getfield 26, 3), (.iload_n 1, 1), (.iaload, 1), (.iaload, 1), (.bipush 32, 2), (.if_icmp .ne 16, 3), (.aload_n 0, 1), (.getfield 26, 3), (.iload_n 1, 1), (.dup2, 1), (.iaload, 1), (.iconst 1, 1), (.iadd, 1), (.iastore, 1), (.goto (-41), 3), (.aload_n 0, 1), (.getfield 26, 3), (.iload_n 1, 1), (.iaload, 1), (.aload_n 0, 1), (.getfield 29, 3), (.iload_n 1, 1), (.iaload, 1), (.if_icmp .ge 10, 3), (.aload_n 0, 1), (.getfield 26, 3), (.iload_n 1, 1), (.iaload, 1), (.ireturn, 1), (.aload_n 0, 1), (.getfield 35, 3), (.iload_n 1, 1), (.iaload, 1), (.iconst 1, 1), (.if_icmp .le 28, 3), (.aload_n 0, 1), (.getfield 35, 3), (.iload_n 1, 1), (.dup2, 1), (.iaload, 1), (.iconst 1, 1), (.isub, 1), (.iastore, 1), (.aload_n 0, 1), (.getfield 26, 3), (.iload_n 1, 1), (.aload_n 0, 1), (.getfield 32, 3), (.iload_n 1, 1), (.iaload, 1), (.iastore, 1), (.goto 13, 3), (.aload_n 0, 1), (.dup, 1), (.getfield 157, 3), (.iconst 1, 1), (.isub, 1), (.putfield 157, 3), (.goto (-125), 3), (.iconst (-1), 1), (.ireturn, 1)]
set_option maxHeartbeats 4000000 in
set_option maxRecDepth 100000 in
theorem dt_M_next : g_dc (g_b M_M_next) 0 dl_M_next = true := by decide +kernel
def M_M_octet : gM := (⟨"BandPressModel", "octet", "(III)I"⟩, prog_14_method_57_code, some .int, 4, { frames := 4, cells := 0, slots := 0, locals := 98 }, false, false, none)
def dl_M_octet : List (Instr × Nat) := [(.aload_n 0, 1), (.iconst 0, 1), (.putfield 83, 3), (.aload_n 0, 1), (.iload_n 1, 1), (.iload_n 2, 1), (.invokevirtual 324, 3), (.ifCond .eq 24, 3), (.iload_n 3, 1), (.ifCond .lt 20, 3), (.iload_n 3, 1), (.aload_n 0, 1), (.getfield 309, 3), (.if_icmp .ge 12, 3), (.aload_n 0, 1), (.getfield 59, 3), (.iload_n 3, 1), (.iaload, 1), (.goto 4, 3), (.iconst (-1), 1), (.ireturn, 1)]
set_option maxHeartbeats 4000000 in
set_option maxRecDepth 100000 in
theorem dt_M_octet : g_dc (g_b M_M_octet) 0 dl_M_octet = true := by decide +kernel
def M_M_swap : gM := (⟨"BandPressModel", "swap", "()V"⟩, prog_14_method_31_code, none, 3, { frames := 0, cells := 0, slots := 0, locals := 0 }, false, false, none)
def dl_M_swap : List (Instr × Nat) := [(.aload_n 0, 1), (.getfield 16, 3), (.aload_n 0, 1), (.getfield 145, 3), (.iconst 1, 1), (.isub, 1), (.iaload, 1), (.istore_n 1, 1), (.aload_n 0, 1), (.getfield 22, 3), (.aload_n 0, 1), (.getfield 145, 3), (.iconst 1, 1), (.isub, 1), (.baload, 1), (.istore_n 2, 1), (.aload_n 0, 1), (.getfield 16, 3), (.aload_n 0, 1), (.getfield 145, 3), (.iconst 1, 1), (.isub, 1), (.aload_n 0, 1), (.getfield 16, 3), (.aload_n 0, 1), (.getfield 145, 3), (.iconst 2, 1), (.isub, 1), (.iaload, 1), (.iastore, 1), (.aload_n 0, 1), (.getfield 22, 3), (.aload_n 0, 1), (.getfield 145, 3), (.iconst 1, 1), (.isub, 1), (.aload_n 0, 1), (.getfield 22, 3), (.aload_n 0, 1), (.getfield 145, 3), (.iconst 2, 1), (.isub, 1), (.baload, 1), (.bastore, 1), (.aload_n 0, 1), (.getfield 16, 3), (.aload_n 0, 1), (.getfield 145, 3), (.iconst 2, 1), (.isub, 1), (.iload_n 1, 1), (.iastore, 1), (.aload_n 0, 1), (.getfield 22, 3), (.aload_n 0, 1), (.getfield 145, 3), (.iconst 2, 1), (.isub, 1), (.iload_n 2, 1), (.bastore, 1), (.return_, 1)]
set_option maxHeartbeats 4000000 in
set_option maxRecDepth 100000 in
theorem dt_M_swap : g_dc (g_b M_M_swap) 0 dl_M_swap = true := by decide +kernel
def M_M_repeat : gM := (⟨"BandPressModel", "repeat", "()V"⟩, prog_14_method_32_code, none, 3, { frames := 1, cells := 0, slots := 0, locals := 23 }, false, false, none)
def dl_M_repeat : List (Instr × Nat) := [(.aload_n 0, 1), (.iconst 0, 1), (.invokevirtual 185, 3), (.istore_n 1, 1), (.aload_n 0, 1), (.iconst 1, 1), (.invokevirtual 185, 3), (.istore_n 2, 1), (.aload_n 0, 1), (.dup, 1), (.getfield 145, 3), (.iconst 2, 1), (.isub, 1), (.putfield 145, 3), (.iload_n 2, 1), (.ifCond .le 16, 3), (.aload_n 0, 1), (.iload_n 1, 1), (.iconst 1, 1), (.iadd, 1), (.aload_n 0, 1), (.iload_n 1, 1), (.invokevirtual 164, 3), (.iload_n 2, 1), (.invokevirtual 160, 3), (.return_, 1)]
set_option maxHeartbeats 4000000 in
set_option maxRecDepth 100000 in
theorem dt_M_repeat : g_dc (g_b M_M_repeat) 0 dl_M_repeat = true := by decide +kernel
def M_M_quit : gM := (⟨"BandPressModel", "quit", "()V"⟩, prog_14_method_33_code, none, 1, { frames := 0, cells := 0, slots := 0, locals := 0 }, false, false, none)
def dl_M_quit : List (Instr × Nat) := [(.aload_n 0, 1), (.getfield 35, 3), (.aload_n 0, 1), (.getfield 157, 3), (.iconst 1, 1), (.isub, 1), (.iaload, 1), (.iconst (-1), 1), (.if_icmp .ne 16, 3), (.aload_n 0, 1), (.dup, 1), (.getfield 157, 3), (.iconst 1, 1), (.isub, 1), (.putfield 157, 3), (.goto (-25), 3), (.aload_n 0, 1), (.dup, 1), (.getfield 157, 3), (.iconst 1, 1), (.isub, 1), (.putfield 157, 3), (.return_, 1)]
set_option maxHeartbeats 4000000 in
set_option maxRecDepth 100000 in
theorem dt_M_quit : g_dc (g_b M_M_quit) 0 dl_M_quit = true := by decide +kernel
def M_M_push : gM := (⟨"BandPressModel", "push", "(IZ)V"⟩, prog_14_method_16_code, none, 3, { frames := 0, cells := 0, slots := 0, locals := 0 }, false, false, none)
def dl_M_push : List (Instr × Nat) := [(.aload_n 0, 1), (.getfield 16, 3), (.aload_n 0, 1), (.getfield 145, 3), (.iload_n 1, 1), (.iastore, 1), (.aload_n 0, 1), (.getfield 22, 3), (.aload_n 0, 1), (.getfield 145, 3), (.iload_n 2, 1), (.bastore, 1), (.aload_n 0, 1), (.dup, 1), (.getfield 145, 3), (.iconst 1, 1), (.iadd, 1), (.putfield 145, 3), (.return_, 1)]
set_option maxHeartbeats 4000000 in
set_option maxRecDepth 100000 in
theorem dt_M_push : g_dc (g_b M_M_push) 0 dl_M_push = true := by decide +kernel
def M_M_state : gM := (⟨"BandPressModel", "state", "(I)V"⟩, prog_14_method_34_code, none, 7, { frames := 2, cells := 0, slots := 0, locals := 42 }, false, false, none)
def dl_M_state : List (Instr × Nat) := [(.iload_n 1, 1), (.lookupswitch 363 #[(71, 157), (83, 102), (84, 51), (85, 185), (86, 274)], 51), (.aload_n 0, 1), (.aload_n 0, 1), (.iconst 1, 1), (.invokevirtual 185, 3), (.invokevirtual 188, 3), (.lstore_n 2, 1), (.aload_n 0, 1), (.aload_n 0, 1), (.iconst 0, 1), (.invokevirtual 185, 3), (.invokevirtual 197, 3), (.lstore 4, 2), (.aload_n 0, 1), (.getfield 47, 3), (.iconst 2, 1), (.lload_n 2, 1), (.l2i, 1), (.iastore, 1), (.aload_n 0, 1), (.getfield 47, 3), (.iconst 3, 1), (.lload 4, 2), (.l2i, 1), (.iastore, 1), (.aload_n 0, 1), (.dup, 1), (.getfield 145, 3), (.iconst 2, 1), (.isub, 1), (.putfield 145, 3), (.goto 339, 3), (.aload_n 0, 1), (.getfield 47, 3), (.iconst 0, 1), (.aload_n 0, 1), (.getfield 47, 3), (.iconst 0, 1), (.iaload, 1), (.aload_n 0, 1), (.iconst 1, 1), (.invokevirtual 185, 3), (.invokestatic 181, 3), (.l2i, 1), (.iastore, 1), (.aload_n 0, 1), (.getfield 47, 3), (.iconst 1, 1), (.aload_n 0, 1), (.getfield 47, 3), (.iconst 1, 1), (.iaload, 1), (.aload_n 0, 1), (.iconst 0, 1), (.invokevirtual 185, 3), (.invokestatic 181, 3), (.l2i, 1), (.iastore, 1), (.aload_n 0, 1), (.dup, 1), (.getfield 145, 3), (.iconst 2, 1), (.isub, 1), (.putfield 145, 3), (.goto 284, 3), (.aload_n 0, 1), (.dup, 1), (.getfield 145, 3), (.iconst 1, 1), (.isub, 1), (.putfield 145, 3), (.aload_n 0, 1), (.getfield 47, 3), (.iconst 4, 1), (.aload_n 0, 1), (.getfield 16, 3), (.aload_n 0, 1), (.getfield 145, 3), (.iaload, 1), (.iastore, 1), (.goto 256, 3), (.aload_n 0, 1), (.dup, 1), (.getfield 148, 3), (.iconst 1, 1), (.iadd, 1), (.putfield 148, 3), (.iconst 0, 1), (.istore 6, 2), (.iload 6, 2), (.iconst 5, 1), (.if_icmp .ge 30, 3), (.aload_n 0, 1), (.getfield 47, 3), (.iconst 5, 1), (.aload_n 0, 1), (.getfield 148, 3), (.imul, 1), (.iload 6, 2), (.iadd, 1), (.aload_n 0, 1), (.getfield 47, 3), (.iload 6, 2), (.iaload, 1), (.iastore, 1), (.iinc 6 1, 3), (.goto (-30), 3), (.iconst 0, 1), (.istore 6, 2), (.iload 6, 2), (.sipush 3072, 3), (.if_icmp .ge 32, 3), (.aload_n 0, 1), (.getfield 50, 3), (.sipush 3072, 3), (.aload_n 0, 1), (.getfield 148, 3), (.imul, 1), (.iload 6, 2), (.iadd, 1), (.aload_n 0, 1), (.getfield 50, 3), (.iload 6, 2), (.baload, 1), (.bastore, 1), (.iinc 6 1, 3), (.goto (-34), 3), (.goto 167, 3), (.iconst 0, 1), (.istore 6, 2), (.iload 6, 2), (.iconst 5, 1), (.if_icmp .ge 30, 3), (.aload_n 0, 1), (.getfield 47, 3), (.iload 6, 2), (.aload_n 0, 1), (.getfield 47, 3), (.iconst 5, 1), (.aload_n 0, 1), (.getfield 148, 3), (.imul, 1), (.iload 6, 2), (.iadd, 1), (.iaload, 1), (.iastore, 1), (.iinc 6 1, 3), (.goto (-30), 3), (.iconst 0, 1), (.istore 6, 2), (.iload 6, 2), (.sipush 3072, 3), (.if_icmp .ge 32, 3), (.aload_n 0, 1), (.getfield 50, 3), (.iload 6, 2), (.aload_n 0, 1), (.getfield 50, 3), (.sipush 3072, 3), (.aload_n 0, 1), (.getfield 148, 3), (.imul, 1), (.iload 6, 2), (.iadd, 1), (.baload, 1), (.bastore, 1), (.iinc 6 1, 3), (.goto (-34), 3), (.aload_n 0, 1), (.dup, 1), (.getfield 148, 3), (.iconst 1, 1), (.isub, 1), (.putfield 148, 3), (.goto 78, 3), (.iconst 0, 1), (.istore 6, 2), (.iload 6, 2), (.sipush 3072, 3), (.if_icmp .ge 48, 3), (.aload_n 0, 1), (.getfield 53, 3), (.sipush 3072, 3), (.aload_n 0, 1), (.getfield 139, 3), (.imul, 1), (.iload 6, 2), (.iadd, 1), (.aload_n 0, 1), (.getfield 53, 3), (.sipush 24576, 3), (.iload 6, 2), (.iadd, 1), (.baload, 1), (.bastore, 1), (.aload_n 0, 1), (.getfield 53, 3), (.sipush 24576, 3), (.iload 6, 2), (.iadd, 1), (.iconst 0, 1), (.bastore, 1), (.iinc 6 1, 3), (.goto (-50), 3), (.aload_n 0, 1), (.dup, 1), (.getfield 139, 3), (.iconst 1, 1), (.iadd, 1), (.putfield 139, 3), (.aload_n 0, 1), (.iconst 0, 1), (.putfield 151, 3), (.aload_n 0, 1), (.invokevirtual 154, 3), (.return_, 1)]
set_option maxHeartbeats 4000000 in
set_option maxRecDepth 100000 in
theorem dt_M_state : g_dc (g_b M_M_state) 0 dl_M_state = true := by decide +kernel
def M_M_order : gM := (⟨"BandPressModel", "order", "(I)V"⟩, prog_14_method_30_code, none, 2, { frames := 4, cells := 0, slots := 0, locals := 105 }, false, false, none)
def dl_M_order : List (Instr × Nat) := [(.iload_n 1, 1), (.tableswitch 418 67 126 #[344, 281, 393, 393, 418, 418, 418, 418, 418, 344, 344, 386, 310, 418, 337, 330, 418, 418, 418, 418, 411, 323, 418, 352, 418, 418, 418, 418, 418, 418, 418, 418, 418, 418, 418, 418, 418, 418, 418, 418, 418, 418, 418, 418, 418, 418, 418, 418, 418, 418, 418, 418, 418, 418, 418, 418, 418, 418, 418, 255], 255), (.aload_n 0, 1), (.getfield 16, 3), (.aload_n 0, 1), (.getfield 145, 3), (.iconst 1, 1), (.isub, 1), (.aload_n 0, 1), (.getfield 16, 3), (.aload_n 0, 1), (.getfield 145, 3), (.iconst 1, 1), (.isub, 1), (.iaload, 1), (.ineg, 1), (.iastore, 1), (.goto 145, 3), (.aload_n 0, 1), (.aload_n 0, 1), (.getfield 16, 3), (.aload_n 0, 1), (.getfield 145, 3), (.iconst 1, 1), (.isub, 1), (.iaload, 1), (.aload_n 0, 1), (.getfield 22, 3), (.aload_n 0, 1), (.getfield 145, 3), (.iconst 1, 1), (.isub, 1), (.baload, 1), (.invokevirtual 237, 3), (.goto 116, 3), (.aload_n 0, 1), (.dup, 1), (.getfield 145, 3), (.iconst 1, 1), (.isub, 1), (.putfield 145, 3), (.goto 103, 3), (.aload_n 0, 1), (.invokevirtual 247, 3), (.goto 96, 3), (.aload_n 0, 1), (.invokevirtual 250, 3), (.goto 89, 3), (.aload_n 0, 1), (.invokevirtual 253, 3), (.goto 82, 3), (.aload_n 0, 1), (.iload_n 1, 1), (.invokevirtual 256, 3), (.goto 74, 3), (.aload_n 0, 1), (.getfield 203, 3), (.ifCond .eq 6, 3), (.goto 64, 3), (.aload_n 0, 1), (.iconst 1, 1), (.putfield 203, 3), (.aload_n 0, 1), (.aload_n 0, 1), (.getfield 259, 3), (.putfield 262, 3), (.aload_n 0, 1), (.aload_n 0, 1), (.getfield 265, 3), (.putfield 268, 3), (.goto 40, 3), (.aload_n 0, 1), (.invokevirtual 154, 3), (.goto 33, 3), (.aload_n 0, 1), (.iload_n 1, 1), (.bipush 70, 2), (.if_icmp .ne 7, 3), (.iconst 1, 1), (.goto 4, 3), (.iconst 0, 1), (.invokevirtual 271, 3), (.goto 15, 3), (.aload_n 0, 1), (.invokevirtual 275, 3), (.goto 8, 3), (.aload_n 0, 1), (.iload_n 1, 1), (.invokevirtual 278, 3), (.return_, 1)]
set_option maxHeartbeats 4000000 in
set_option maxRecDepth 100000 in
theorem dt_M_order : g_dc (g_b M_M_order) 0 dl_M_order = true := by decide +kernel
def M_M_out1 : gM := (⟨"BandPressModel", "out", "(II)I"⟩, prog_14_method_75_code, some .int, 6, { frames := 0, cells := 0, slots := 0, locals := 0 }, false, false, none)
def dl_M_out1 : List (Instr × Nat) := [(.aload_n 0, 1), (.iconst 0, 1), (.putfield 83, 3), (.iload_n 1, 1), (.ifCond .lt 20, 3), (.iload_n 1, 1), (.aload_n 0, 1), (.getfield 110, 3), (.if_icmp .ge 12, 3), (.iload_n 2, 1), (.ifCond .lt 8, 3), (.iload_n 2, 1), (.iconst 3, 1), (.if_icmp .le 5, 3), (.iconst (-1), 1), (.ireturn, 1), (.aload_n 0, 1), (.getfield 71, 3), (.iload_n 1, 1), (.iaload, 1), (.istore_n 3, 1), (.aload_n 0, 1), (.getfield 113, 3), (.aload_n 0, 1), (.getfield 123, 3), (.idiv, 1), (.istore 4, 2), (.aload_n 0, 1), (.getfield 126, 3), (.ifCond .eq 12, 3), (.iload_n 3, 1), (.iload 4, 2), (.irem, 1), (.iconst 2, 1), (.imul, 1), (.goto 7, 3), (.iload_n 3, 1), (.iload 4, 2), (.irem, 1), (.istore 5, 2), (.iload_n 2, 1), (.ifCond .ne 7, 3), (.iload_n 3, 1), (.goto 51, 3), (.iload_n 2, 1), (.iconst 1, 1), (.if_icmp .ne 10, 3), (.iload_n 3, 1), (.iload 4, 2), (.idiv, 1), (.goto 39, 3), (.iload_n 2, 1), (.iconst 2, 1), (.if_icmp .ne 8, 3), (.iload 5, 2), (.goto 29, 3), (.aload_n 0, 1), (.getfield 126, 3), (.ifCond .eq 21, 3), (.iload 5, 2), (.iconst 1, 1), (.iadd, 1), (.aload_n 0, 1), (.getfield 139, 3), (.if_icmp .ge 10, 3), (.iload 5, 2), (.iconst 1, 1), (.iadd, 1), (.goto 4, 3), (.iconst (-1), 1), (.ireturn, 1)]
set_option maxHeartbeats 4000000 in
set_option maxRecDepth 100000 in
theorem dt_M_out1 : g_dc (g_b M_M_out1) 0 dl_M_out1 = true := by decide +kernel
def M_M_isPixel : gM := (⟨"BandPressModel", "isPixel", "(II)Z"⟩, prog_14_method_48_code, some .boolean, 2, { frames := 0, cells := 0, slots := 0, locals := 0 }, false, false, none)
def dl_M_isPixel : List (Instr × Nat) := [(.iload_n 0, 1), (.ifCond .lt 23, 3), (.iload_n 0, 1), (.bipush 64, 2), (.if_icmp .ge 17, 3), (.iload_n 1, 1), (.ifCond .lt 13, 3), (.iload_n 1, 1), (.bipush 48, 2), (.if_icmp .ge 7, 3), (.iconst 1, 1), (.goto 4, 3), (.iconst 0, 1), (.ireturn, 1)]
set_option maxHeartbeats 4000000 in
set_option maxRecDepth 100000 in
theorem dt_M_isPixel : g_dc (g_b M_M_isPixel) 0 dl_M_isPixel = true := by decide +kernel
def M_M_pixel : gM := (⟨"BandPressModel", "pixel", "(III)Z"⟩, prog_14_method_49_code, some .boolean, 4, { frames := 1, cells := 0, slots := 0, locals := 21 }, false, false, none)
def dl_M_pixel : List (Instr × Nat) := [(.aload_n 0, 1), (.iconst 0, 1), (.putfield 83, 3), (.iload_n 1, 1), (.iconst (-1), 1), (.if_icmp .lt 53, 3), (.iload_n 1, 1), (.aload_n 0, 1), (.getfield 139, 3), (.if_icmp .ge 45, 3), (.iload_n 2, 1), (.iload_n 3, 1), (.invokestatic 302, 3), (.ifCond .eq 37, 3), (.aload_n 0, 1), (.getfield 53, 3), (.sipush 3072, 3), (.iload_n 1, 1), (.iconst (-1), 1), (.if_icmp .ne 8, 3), (.bipush 8, 2), (.goto 4, 3), (.iload_n 1, 1), (.imul, 1), (.bipush 64, 2), (.iload_n 3, 1), (.imul, 1), (.iadd, 1), (.iload_n 2, 1), (.iadd, 1), (.baload, 1), (.ifCond .eq 7, 3), (.iconst 1, 1), (.goto 4, 3), (.iconst 0, 1), (.ireturn, 1)]
set_option maxHeartbeats 4000000 in
set_option maxRecDepth 100000 in
theorem dt_M_pixel : g_dc (g_b M_M_pixel) 0 dl_M_pixel = true := by decide +kernel
def M_M_stateOf : gM := (⟨"BandPressModel", "stateOf", "()I"⟩, prog_14_method_67_code, some .int, 1, { frames := 1, cells := 0, slots := 0, locals := 22 }, false, false, none)
def dl_M_stateOf : List (Instr × Nat) := [(.aload_n 0, 1), (.getfield 354, 3), (.ifCond .eq 5, 3), (.iconst 5, 1), (.ireturn, 1), (.aload_n 0, 1), (.getfield 357, 3), (.ifCond .eq 5, 3), (.iconst 3, 1), (.ireturn, 1), (.aload_n 0, 1), (.getfield 110, 3), (.aload_n 0, 1), (.getfield 113, 3), (.if_icmp .lt 5, 3), (.iconst 0, 1), (.ireturn, 1), (.aload_n 0, 1), (.invokevirtual 345, 3), (.ifCond .ne 14, 3), (.aload_n 0, 1), (.getfield 348, 3), (.ifCond .ne 7, 3), (.iconst 4, 1), (.goto 17, 3), (.aload_n 0, 1), (.getfield 327, 3), (.bipush 80, 2), (.if_icmp .ge 7, 3), (.iconst 1, 1), (.goto 4, 3), (.iconst 2, 1), (.ireturn, 1)]
set_option maxHeartbeats 4000000 in
set_option maxRecDepth 100000 in
theorem dt_M_stateOf : g_dc (g_b M_M_stateOf) 0 dl_M_stateOf = true := by decide +kernel
def M_M_press : gM := (⟨"BandPressModel", "press", "(I)I"⟩, prog_14_method_76_code, some .int, 2, { frames := 2, cells := 0, slots := 0, locals := 42 }, false, false, none)
def dl_M_press : List (Instr × Nat) := [(.aload_n 0, 1), (.iconst 0, 1), (.putfield 83, 3), (.iload_n 1, 1), (.tableswitch 89 0 6 #[42, 47, 52, 57, 62, 79, 84], 42), (.aload_n 0, 1), (.invokevirtual 372, 3), (.ireturn, 1), (.aload_n 0, 1), (.getfield 327, 3), (.ireturn, 1), (.aload_n 0, 1), (.getfield 348, 3), (.ireturn, 1), (.aload_n 0, 1), (.getfield 110, 3), (.ireturn, 1), (.aload_n 0, 1), (.getfield 107, 3), (.iconst 2, 1), (.if_icmp .ne 10, 3), (.aload_n 0, 1), (.getfield 113, 3), (.goto 4, 3), (.iconst 0, 1), (.ireturn, 1), (.aload_n 0, 1), (.getfield 351, 3), (.ireturn, 1), (.aload_n 0, 1), (.getfield 366, 3), (.ireturn, 1), (.iconst (-1), 1), (.ireturn, 1)]
set_option maxHeartbeats 4000000 in
set_option maxRecDepth 100000 in
theorem dt_M_press : g_dc (g_b M_M_press) 0 dl_M_press = true := by decide +kernel
def M_M_reckon : gM := (⟨"BandPressModel", "reckon", "(I)V"⟩, prog_14_method_29_code, none, 5, { frames := 3, cells := 0, slots := 0, locals := 66 }, false, false, none)
def dl_M_reckon : List (Instr × Nat) := [(.iload_n 1, 1), (.bipush 63, 2), (.if_icmp .ne 49, 3), (.aload_n 0, 1), (.iconst 2, 1), (.invokevirtual 185, 3), (.ifCond .eq 11, 3), (.aload_n 0, 1), (.iconst 1, 1), (.invokevirtual 185, 3), (.goto 8, 3), (.aload_n 0, 1), (.iconst 0, 1), (.invokevirtual 185, 3), (.istore_n 2, 1), (.aload_n 0, 1), (.dup, 1), (.getfield 145, 3), (.iconst 3, 1), (.isub, 1), (.putfield 145, 3), (.aload_n 0, 1), (.iload_n 2, 1), (.iconst 1, 1), (.iadd, 1), (.aload_n 0, 1), (.iload_n 2, 1), (.invokevirtual 164, 3), (.iconst (-1), 1), (.invokevirtual 160, 3), (.return_, 1), (.aload_n 0, 1), (.getfield 145, 3), (.iconst 1, 1), (.if_icmp .le 11, 3), (.aload_n 0, 1), (.iconst 1, 1), (.invokevirtual 185, 3), (.goto 4, 3), (.iconst 0, 1), (.istore_n 2, 1), (.aload_n 0, 1), (.iconst 0, 1), (.invokevirtual 185, 3), (.istore_n 3, 1), (.aload_n 0, 1), (.iload_n 1, 1), (.invokevirtual 210, 3), (.l2i, 1), (.istore 4, 2), (.aload_n 0, 1), (.dup, 1), (.getfield 145, 3), (.iload_n 1, 1), (.invokestatic 103, 3), (.isub, 1), (.putfield 145, 3), (.iload_n 1, 1), (.lookupswitch 81 #[(37, 34), (60, 45), (61, 63)], 34), (.aload_n 0, 1), (.iload_n 2, 1), (.iload_n 3, 1), (.irem, 1), (.iconst 0, 1), (.invokevirtual 237, 3), (.goto 46, 3), (.aload_n 0, 1), (.iload_n 2, 1), (.iload_n 3, 1), (.if_icmp .ge 7, 3), (.iconst 1, 1), (.goto 4, 3), (.iconst 0, 1), (.iconst 0, 1), (.invokevirtual 237, 3), (.goto 28, 3), (.aload_n 0, 1), (.iload_n 2, 1), (.iload_n 3, 1), (.if_icmp .ne 7, 3), (.iconst 1, 1), (.goto 4, 3), (.iconst 0, 1), (.iconst 0, 1), (.invokevirtual 237, 3), (.goto 10, 3), (.aload_n 0, 1), (.iload 4, 2), (.iconst 0, 1), (.invokevirtual 237, 3), (.return_, 1)]
set_option maxHeartbeats 4000000 in
set_option maxRecDepth 100000 in
theorem dt_M_reckon : g_dc (g_b M_M_reckon) 0 dl_M_reckon = true := by decide +kernel
def M_M_wordLong : gM := (⟨"BandPressModel", "wordLong", "(I)I"⟩, prog_14_method_12_code, some .int, 3, { frames := 1, cells := 0, slots := 0, locals := 23 }, false, false, none)
def dl_M_wordLong : List (Instr × Nat) := [(.aload_n 0, 1), (.getfield 13, 3), (.iload_n 1, 1), (.iaload, 1), (.bipush 123, 2), (.if_icmp .ne 13, 3), (.aload_n 0, 1), (.iload_n 1, 1), (.invokevirtual 164, 3), (.iload_n 1, 1), (.isub, 1), (.iconst 1, 1), (.iadd, 1), (.ireturn, 1), (.aload_n 0, 1), (.getfield 13, 3), (.iload_n 1, 1), (.iaload, 1), (.bipush 58, 2), (.if_icmp .ne 5, 3), (.iconst 2, 1), (.ireturn, 1), (.iconst 1, 1), (.istore_n 2, 1), (.aload_n 0, 1), (.getfield 13, 3), (.iload_n 1, 1), (.iaload, 1), (.invokestatic 96, 3), (.ifCond .eq 33, 3), (.iload_n 1, 1), (.iload_n 2, 1), (.iadd, 1), (.aload_n 0, 1), (.getfield 120, 3), (.if_icmp .ge 23, 3), (.aload_n 0, 1), (.getfield 13, 3), (.iload_n 1, 1), (.iload_n 2, 1), (.iadd, 1), (.iaload, 1), (.invokestatic 96, 3), (.ifCond .eq 9, 3), (.iinc 2 1, 3), (.goto (-39), 3), (.iload_n 2, 1), (.ireturn, 1)]
set_option maxHeartbeats 4000000 in
set_option maxRecDepth 100000 in
theorem dt_M_wordLong : g_dc (g_b M_M_wordLong) 0 dl_M_wordLong = true := by decide +kernel
def M_M_step : gM := (⟨"BandPressModel", "step", "(I)V"⟩, prog_14_method_28_code, none, 6, { frames := 5, cells := 0, slots := 0, locals := 126 }, false, false, none)
def dl_M_step : List (Instr × Nat) := [(.aload_n 0, 1), (.getfield 13, 3), (.iload_n 1, 1), (.iaload, 1), (.istore_n 2, 1), (.aload_n 0, 1), (.iload_n 2, 1), (.invokevirtual 174, 3), (.istore_n 3, 1), (.iload_n 3, 1), (.ifCond .le 10, 3), (.aload_n 0, 1), (.iload_n 3, 1), (.iload_n 1, 1), (.invokevirtual 170, 3), (.return_, 1), (.aload_n 0, 1), (.dup, 1), (.getfield 142, 3), (.iconst 1, 1), (.iadd, 1), (.putfield 142, 3), (.aload_n 0, 1), (.getfield 26, 3), (.aload_n 0, 1), (.getfield 157, 3), (.iconst 1, 1), (.isub, 1), (.iload_n 1, 1), (.aload_n 0, 1), (.iload_n 1, 1), (.invokevirtual 234, 3), (.iadd, 1), (.iastore, 1), (.iload_n 2, 1), (.invokestatic 96, 3), (.ifCond .eq 55, 3), (.iconst 0, 1), (.istore 4, 2), (.iconst 0, 1), (.istore 5, 2), (.iload 5, 2), (.aload_n 0, 1), (.iload_n 1, 1), (.invokevirtual 234, 3), (.if_icmp .ge 29, 3), (.bipush 10, 2), (.iload 4, 2), (.imul, 1), (.aload_n 0, 1), (.getfield 13, 3), (.iload_n 1, 1), (.iload 5, 2), (.iadd, 1), (.iaload, 1), (.iadd, 1), (.bipush 48, 2), (.isub, 1), (.istore 4, 2), (.iinc 5 1, 3), (.goto (-33), 3), (.aload_n 0, 1), (.iload 4, 2), (.iconst 0, 1), (.invokevirtual 237, 3), (.goto 112, 3), (.iload_n 2, 1), (.invokestatic 100, 3), (.ifCond .eq 20, 3), (.aload_n 0, 1), (.aload_n 0, 1), (.getfield 19, 3), (.iload_n 2, 1), (.bipush 97, 2), (.isub, 1), (.iaload, 1), (.iconst 0, 1), (.invokevirtual 237, 3), (.goto 88, 3), (.iload_n 2, 1), (.bipush 123, 2), (.if_icmp .ne 12, 3), (.aload_n 0, 1), (.iload_n 1, 1), (.iconst 1, 1), (.invokevirtual 237, 3), (.goto 73, 3), (.iload_n 2, 1), (.bipush 58, 2), (.if_icmp .ne 41, 3), (.aload_n 0, 1), (.dup, 1), (.getfield 145, 3), (.iconst 1, 1), (.isub, 1), (.putfield 145, 3), (.aload_n 0, 1), (.getfield 19, 3), (.aload_n 0, 1), (.getfield 13, 3), (.iload_n 1, 1), (.iconst 1, 1), (.iadd, 1), (.iaload, 1), (.bipush 97, 2), (.isub, 1), (.aload_n 0, 1), (.getfield 16, 3), (.aload_n 0, 1), (.getfield 145, 3), (.iaload, 1), (.iastore, 1), (.goto 29, 3), (.iload_n 2, 1), (.invokestatic 103, 3), (.ifCond .le 17, 3), (.iload_n 2, 1), (.bipush 65, 2), (.if_icmp .ge 11, 3), (.aload_n 0, 1), (.iload_n 2, 1), (.invokevirtual 241, 3), (.goto 8, 3), (.aload_n 0, 1), (.iload_n 2, 1), (.invokevirtual 244, 3), (.return_, 1)]
set_option maxHeartbeats 4000000 in
set_option maxRecDepth 100000 in
theorem dt_M_step : g_dc (g_b M_M_step) 0 dl_M_step = true := by decide +kernel
def M_M_run : gM := (⟨"BandPressModel", "run", "(I)I"⟩, prog_14_method_14_code, some .int, 5, { frames := 6, cells := 0, slots := 0, locals := 151 }, false, false, none)
def dl_M_run : List (Instr × Nat) := [(.aload_n 0, 1), (.aload_n 0, 1), (.getfield 107, 3), (.iconst 1, 1), (.if_icmp .eq 7, 3), (.iconst 1, 1), (.goto 20, 3), (.iload_n 1, 1), (.iconst 1, 1), (.if_icmp .lt 10, 3), (.iload_n 1, 1), (.sipush 5000, 3), (.if_icmp .le 7, 3), (.iconst 2, 1), (.goto 4, 3), (.iconst 0, 1), (.putfield 83, 3), (.aload_n 0, 1), (.getfield 83, 3), (.ifCond .eq 5, 3), (.iconst 0, 1), (.ireturn, 1), (.iload_n 1, 1), (.istore_n 2, 1), (.aload_n 0, 1), (.invokevirtual 167, 3), (.istore_n 3, 1), (.aload_n 0, 1), (.getfield 107, 3), (.iconst 1, 1), (.if_icmp .ne 97, 3), (.iload_n 3, 1), (.iconst (-1), 1), (.if_icmp .eq 7, 3), (.iload_n 2, 1), (.ifCond .le 88, 3), (.iload_n 3, 1), (.iconst (-1), 1), (.if_icmp .ne 12, 3), (.aload_n 0, 1), (.iconst 0, 1), (.iconst 0, 1), (.invokevirtual 170, 3), (.goto (-28), 3), (.aload_n 0, 1), (.getfield 142, 3), (.aload_n 0, 1), (.getfield 130, 3), (.if_icmp .ne 35, 3), (.aload_n 0, 1), (.aload_n 0, 1), (.getfield 13, 3), (.iload_n 3, 1), (.iaload, 1), (.invokevirtual 174, 3), (.istore 4, 2), (.aload_n 0, 1), (.iload 4, 2), (.ifCond .le 8, 3), (.iload 4, 2), (.goto 5, 3), (.bipush 12, 2), (.iload_n 3, 1), (.invokevirtual 170, 3), (.goto (-71), 3), (.aload_n 0, 1), (.iload_n 3, 1), (.invokevirtual 177, 3), (.iinc 2 (-1), 3), (.aload_n 0, 1), (.getfield 107, 3), (.iconst 1, 1), (.if_icmp .ne 10, 3), (.aload_n 0, 1), (.invokevirtual 167, 3), (.goto 4, 3), (.iconst (-1), 1), (.istore_n 3, 1), (.goto (-99), 3), (.aload_n 0, 1), (.getfield 107, 3), (.iconst 1, 1), (.if_icmp .ne 7, 3), (.iconst 0, 1), (.goto 15, 3), (.aload_n 0, 1), (.getfield 133, 3), (.ifCond .ne 7, 3), (.iconst 1, 1), (.goto 4, 3), (.iconst 2, 1), (.ireturn, 1)]
set_option maxHeartbeats 4000000 in
set_option maxRecDepth 100000 in
theorem dt_M_run : g_dc (g_b M_M_run) 0 dl_M_run = true := by decide +kernel
def M_M_isSection : gM := (⟨"BandPressModel", "isSection", "(I)Z"⟩, prog_14_method_69_code, some .boolean, 1, { frames := 0, cells := 0, slots := 0, locals := 0 }, false, false, none)
def dl_M_isSection : List (Instr × Nat) := [(.iload_n 0, 1), (.ifCond .lt 12, 3), (.iload_n 0, 1), (.iconst 4, 1), (.if_icmp .ge 7, 3), (.iconst 1, 1), (.goto 4, 3), (.iconst 0, 1), (.ireturn, 1)]
set_option maxHeartbeats 4000000 in
set_option maxRecDepth 100000 in
theorem dt_M_isSection : g_dc (g_b M_M_isSection) 0 dl_M_isSection = true := by decide +kernel
def M_M_section : gM := (⟨"BandPressModel", "section", "(II)I"⟩, prog_14_method_74_code, some .int, 3, { frames := 1, cells := 0, slots := 0, locals := 20 }, false, false, none)
def dl_M_section : List (Instr × Nat) := [(.aload_n 0, 1), (.iconst 0, 1), (.putfield 83, 3), (.iload_n 1, 1), (.invokestatic 375, 3), (.ifCond .ne 5, 3), (.iconst (-1), 1), (.ireturn, 1), (.iload_n 2, 1), (.tableswitch 54 0 2 #[25, 32, 39], 25), (.aload_n 0, 1), (.getfield 62, 3), (.iload_n 1, 1), (.iaload, 1), (.ireturn, 1), (.aload_n 0, 1), (.getfield 65, 3), (.iload_n 1, 1), (.iaload, 1), (.ireturn, 1), (.aload_n 0, 1), (.getfield 74, 3), (.iload_n 1, 1), (.baload, 1), (.ifCond .eq 7, 3), (.iconst 1, 1), (.goto 4, 3), (.iconst 0, 1), (.ireturn, 1), (.iconst (-1), 1), (.ireturn, 1)]
set_option maxHeartbeats 4000000 in
set_option maxRecDepth 100000 in
theorem dt_M_section : g_dc (g_b M_M_section) 0 dl_M_section = true := by decide +kernel
def M_M_shift : gM := (⟨"BandPressModel", "shift", "(II)V"⟩, prog_14_method_61_code, none, 3, { frames := 1, cells := 0, slots := 0, locals := 21 }, false, false, none)
def dl_M_shift : List (Instr × Nat) := [(.aload_n 0, 1), (.getfield 62, 3), (.iload_n 2, 1), (.aload_n 0, 1), (.getfield 62, 3), (.iload_n 1, 1), (.iaload, 1), (.iastore, 1), (.aload_n 0, 1), (.getfield 65, 3), (.iload_n 2, 1), (.aload_n 0, 1), (.getfield 65, 3), (.iload_n 1, 1), (.iaload, 1), (.iastore, 1), (.aload_n 0, 1), (.getfield 68, 3), (.iload_n 2, 1), (.iconst 0, 1), (.iastore, 1), (.aload_n 0, 1), (.getfield 77, 3), (.iload_n 2, 1), (.iconst 1, 1), (.bastore, 1), (.aload_n 0, 1), (.iload_n 1, 1), (.invokevirtual 333, 3), (.return_, 1)]
set_option maxHeartbeats 4000000 in
set_option maxRecDepth 100000 in
theorem dt_M_shift : g_dc (g_b M_M_shift) 0 dl_M_shift = true := by decide +kernel
def M_M_start : gM := (⟨"BandPressModel", "start", "(IZI)I"⟩, prog_14_method_8_code, some .int, 6, { frames := 3, cells := 0, slots := 0, locals := 64 }, false, false, none)
def dl_M_start : List (Instr × Nat) := [(.aload_n 0, 1), (.iconst 0, 1), (.putfield 83, 3), (.iload_n 1, 1), (.iconst 1, 1), (.if_icmp .lt 39, 3), (.iload_n 1, 1), (.iconst 4, 1), (.if_icmp .gt 34, 3), (.iload_n 3, 1), (.iconst 1, 1), (.if_icmp .lt 29, 3), (.iload_n 3, 1), (.sipush 20000, 3), (.if_icmp .gt 22, 3), (.aload_n 0, 1), (.getfield 107, 3), (.iconst 1, 1), (.if_icmp .eq 14, 3), (.aload_n 0, 1), (.getfield 110, 3), (.aload_n 0, 1), (.getfield 113, 3), (.if_icmp .ge 5, 3), (.iconst (-1), 1), (.ireturn, 1), (.aload_n 0, 1), (.invokevirtual 116, 3), (.istore 4, 2), (.iload 4, 2), (.iconst (-1), 1), (.if_icmp .eq 13, 3), (.aload_n 0, 1), (.iconst 0, 1), (.putfield 87, 3), (.iconst 1, 1), (.iload 4, 2), (.iadd, 1), (.ireturn, 1), (.aload_n 0, 1), (.aload_n 0, 1), (.getfield 87, 3), (.putfield 120, 3), (.aload_n 0, 1), (.iconst 0, 1), (.putfield 87, 3), (.iconst 0, 1), (.istore 5, 2), (.iload 5, 2), (.aload_n 0, 1), (.getfield 120, 3), (.if_icmp .ge 23, 3), (.aload_n 0, 1), (.getfield 13, 3), (.iload 5, 2), (.aload_n 0, 1), (.getfield 7, 3), (.iload 5, 2), (.iaload, 1), (.iastore, 1), (.iinc 5 1, 3), (.goto (-26), 3), (.aload_n 0, 1), (.iload_n 1, 1), (.putfield 123, 3), (.aload_n 0, 1), (.iload_n 2, 1), (.putfield 126, 3), (.aload_n 0, 1), (.iload_n 3, 1), (.putfield 130, 3), (.aload_n 0, 1), (.iconst 1, 1), (.putfield 107, 3), (.aload_n 0, 1), (.iconst 0, 1), (.putfield 133, 3), (.aload_n 0, 1), (.iconst 0, 1), (.putfield 136, 3), (.aload_n 0, 1), (.iconst 0, 1), (.putfield 139, 3), (.aload_n 0, 1), (.iconst 0, 1), (.putfield 142, 3), (.aload_n 0, 1), (.iconst 0, 1), (.putfield 145, 3), (.aload_n 0, 1), (.iconst 0, 1), (.putfield 148, 3), (.aload_n 0, 1), (.iconst 0, 1), (.putfield 151, 3), (.aload_n 0, 1), (.iconst 0, 1), (.putfield 113, 3), (.aload_n 0, 1), (.iconst 0, 1), (.putfield 110, 3), (.iconst 0, 1), (.istore 5, 2), (.iload 5, 2), (.bipush 26, 2), (.if_icmp .ge 17, 3), (.aload_n 0, 1), (.getfield 19, 3), (.iload 5, 2), (.iconst 0, 1), (.iastore, 1), (.iinc 5 1, 3), (.goto (-18), 3), (.aload_n 0, 1), (.invokevirtual 154, 3), (.aload_n 0, 1), (.getfield 47, 3), (.iconst 0, 1), (.bipush 16, 2), (.iastore, 1), (.aload_n 0, 1), (.getfield 47, 3), (.iconst 1, 1), (.bipush 16, 2), (.iastore, 1), (.aload_n 0, 1), (.getfield 47, 3), (.iconst 2, 1), (.iconst 0, 1), (.iastore, 1), (.aload_n 0, 1), (.getfield 47, 3), (.iconst 3, 1), (.iconst 0, 1), (.iastore, 1), (.aload_n 0, 1), (.getfield 47, 3), (.iconst 4, 1), (.bipush 16, 2), (.iastore, 1), (.iconst 0, 1), (.istore 5, 2), (.iload 5, 2), (.sipush 3072, 3), (.if_icmp .ge 29, 3), (.aload_n 0, 1), (.getfield 50, 3), (.iload 5, 2), (.iconst 1, 1), (.bastore, 1), (.aload_n 0, 1), (.getfield 53, 3), (.sipush 24576, 3), (.iload 5, 2), (.iadd, 1), (.iconst 0, 1), (.bastore, 1), (.iinc 5 1, 3), (.goto (-31), 3), (.aload_n 0, 1), (.iconst 0, 1), (.putfield 157, 3), (.aload_n 0, 1), (.iconst 0, 1), (.aload_n 0, 1), (.getfield 120, 3), (.iconst (-1), 1), (.invokevirtual 160, 3), (.iconst 0, 1), (.ireturn, 1)]
set_option maxHeartbeats 4000000 in
set_option maxRecDepth 100000 in
theorem dt_M_start : g_dc (g_b M_M_start) 0 dl_M_start = true := by decide +kernel
def M_M_stick : gM := (⟨"BandPressModel", "stick", "(IZ)Z"⟩, prog_14_method_70_code, some .boolean, 3, { frames := 1, cells := 0, slots := 0, locals := 20 }, false, false, none)
def dl_M_stick : List (Instr × Nat) := [(.aload_n 0, 1), (.iconst 0, 1), (.putfield 83, 3), (.iload_n 1, 1), (.invokestatic 375, 3), (.ifCond .ne 5, 3), (.iconst 0, 1), (.ireturn, 1), (.aload_n 0, 1), (.getfield 74, 3), (.iload_n 1, 1), (.iload_n 2, 1), (.bastore, 1), (.iconst 1, 1), (.ireturn, 1)]
set_option maxHeartbeats 4000000 in
set_option maxRecDepth 100000 in
theorem dt_M_stick : g_dc (g_b M_M_stick) 0 dl_M_stick = true := by decide +kernel
def M_M_take : gM := (⟨"BandPressModel", "take", "(I)Z"⟩, prog_14_method_71_code, some .boolean, 2, { frames := 1, cells := 0, slots := 0, locals := 21 }, false, false, none)
def dl_M_take : List (Instr × Nat) := [(.aload_n 0, 1), (.iconst 0, 1), (.putfield 83, 3), (.iload_n 1, 1), (.invokestatic 375, 3), (.ifCond .eq 27, 3), (.aload_n 0, 1), (.getfield 62, 3), (.iload_n 1, 1), (.iaload, 1), (.iconst (-1), 1), (.if_icmp .eq 17, 3), (.aload_n 0, 1), (.getfield 354, 3), (.ifCond .ne 12, 3), (.aload_n 0, 1), (.getfield 357, 3), (.ifCond .ne 5, 3), (.iconst 0, 1), (.ireturn, 1), (.aload_n 0, 1), (.iload_n 1, 1), (.invokevirtual 333, 3), (.iconst 1, 1), (.ireturn, 1)]
set_option maxHeartbeats 4000000 in
set_option maxRecDepth 100000 in
theorem dt_M_take : g_dc (g_b M_M_take) 0 dl_M_take = true := by decide +kernel
def M_M_thrown : gM := (⟨"BandPressModel", "thrown", "()I"⟩, prog_14_method_2_code, some .int, 1, { frames := 0, cells := 0, slots := 0, locals := 0 }, false, false, none)
def dl_M_thrown : List (Instr × Nat) := [(.aload_n 0, 1), (.getfield 83, 3), (.ireturn, 1)]
set_option maxHeartbeats 4000000 in
set_option maxRecDepth 100000 in
theorem dt_M_thrown : g_dc (g_b M_M_thrown) 0 dl_M_thrown = true := by decide +kernel
def M_M_turn : gM := (⟨"BandPressModel", "turn", "(I)Z"⟩, prog_14_method_63_code, some .boolean, 2, { frames := 2, cells := 0, slots := 0, locals := 43 }, false, false, none)
def dl_M_turn : List (Instr × Nat) := [(.aload_n 0, 1), (.iload_n 1, 1), (.invokevirtual 336, 3), (.ifCond .ne 21, 3), (.aload_n 0, 1), (.getfield 77, 3), (.iload_n 1, 1), (.baload, 1), (.ifCond .ne 10, 3), (.aload_n 0, 1), (.getfield 68, 3), (.iload_n 1, 1), (.iconst 0, 1), (.iastore, 1), (.iconst 0, 1), (.ireturn, 1), (.aload_n 0, 1), (.getfield 74, 3), (.iload_n 1, 1), (.baload, 1), (.ifCond .eq 29, 3), (.aload_n 0, 1), (.getfield 68, 3), (.iload_n 1, 1), (.dup2, 1), (.iaload, 1), (.iconst 1, 1), (.iadd, 1), (.iastore, 1), (.aload_n 0, 1), (.getfield 68, 3), (.iload_n 1, 1), (.iaload, 1), (.iconst 4, 1), (.if_icmp .ne 7, 3), (.iconst 1, 1), (.goto 4, 3), (.iconst 0, 1), (.ireturn, 1), (.iload_n 1, 1), (.iconst 1, 1), (.if_icmp .ne 13, 3), (.aload_n 0, 1), (.getfield 65, 3), (.iconst 1, 1), (.dup2, 1), (.iaload, 1), (.iconst 1, 1), (.iadd, 1), (.iastore, 1), (.iload_n 1, 1), (.iconst 2, 1), (.if_icmp .ne 61, 3), (.aload_n 0, 1), (.getfield 65, 3), (.iconst 2, 1), (.iaload, 1), (.aload_n 0, 1), (.invokevirtual 330, 3), (.if_icmp .ne 48, 3), (.aload_n 0, 1), (.getfield 71, 3), (.aload_n 0, 1), (.getfield 110, 3), (.aload_n 0, 1), (.getfield 62, 3), (.iconst 2, 1), (.iaload, 1), (.iastore, 1), (.aload_n 0, 1), (.getfield 80, 3), (.aload_n 0, 1), (.getfield 62, 3), (.iconst 2, 1), (.iaload, 1), (.iconst 1, 1), (.bastore, 1), (.aload_n 0, 1), (.dup, 1), (.getfield 110, 3), (.iconst 1, 1), (.iadd, 1), (.putfield 110, 3), (.aload_n 0, 1), (.iconst 2, 1), (.invokevirtual 333, 3), (.goto 20, 3), (.aload_n 0, 1), (.iload_n 1, 1), (.iload_n 1, 1), (.iconst 3, 1), (.if_icmp .ne 7, 3), (.iconst 0, 1), (.goto 6, 3), (.iload_n 1, 1), (.iconst 1, 1), (.iadd, 1), (.invokevirtual 339, 3), (.iconst 0, 1), (.ireturn, 1)]
set_option maxHeartbeats 4000000 in
set_option maxRecDepth 100000 in
theorem dt_M_turn : g_dc (g_b M_M_turn) 0 dl_M_turn = true := by decide +kernel
def M_M_tickOnce : gM := (⟨"BandPressModel", "tickOnce", "()V"⟩, prog_14_method_66_code, none, 5, { frames := 3, cells := 0, slots := 0, locals := 64 }, false, false, none)
def dl_M_tickOnce : List (Instr × Nat) := [(.aload_n 0, 1), (.dup, 1), (.getfield 351, 3), (.iconst 1, 1), (.iadd, 1), (.putfield 351, 3), (.aload_n 0, 1), (.getfield 354, 3), (.istore_n 1, 1), (.aload_n 0, 1), (.getfield 110, 3), (.aload_n 0, 1), (.getfield 113, 3), (.if_icmp .ge 7, 3), (.iconst 1, 1), (.goto 4, 3), (.iconst 0, 1), (.istore_n 2, 1), (.aload_n 0, 1), (.aload_n 0, 1), (.getfield 354, 3), (.ifCond .ne 34, 3), (.iload_n 2, 1), (.ifCond .eq 30, 3), (.aload_n 0, 1), (.getfield 327, 3), (.bipush 10, 2), (.iadd, 1), (.bipush 100, 2), (.if_icmp .le 8, 3), (.bipush 100, 2), (.goto 31, 3), (.aload_n 0, 1), (.getfield 327, 3), (.bipush 10, 2), (.iadd, 1), (.goto 21, 3), (.aload_n 0, 1), (.getfield 327, 3), (.iconst 5, 1), (.if_icmp .ge 7, 3), (.iconst 0, 1), (.goto 9, 3), (.aload_n 0, 1), (.getfield 327, 3), (.iconst 5, 1), (.isub, 1), (.putfield 327, 3), (.aload_n 0, 1), (.getfield 354, 3), (.ifCond .ne 63, 3), (.aload_n 0, 1), (.getfield 357, 3), (.ifCond .eq 56, 3), (.aload_n 0, 1), (.invokevirtual 345, 3), (.ifCond .le 7, 3), (.iconst 1, 1), (.goto 4, 3), (.iconst 0, 1), (.istore_n 3, 1), (.iconst 0, 1), (.istore 4, 2), (.iload 4, 2), (.iconst 4, 1), (.if_icmp .ge 29, 3), (.iload_n 3, 1), (.ifCond .ne 13, 3), (.aload_n 0, 1), (.getfield 74, 3), (.iload 4, 2), (.baload, 1), (.ifCond .eq 7, 3), (.iconst 1, 1), (.goto 4, 3), (.iconst 0, 1), (.istore_n 3, 1), (.iinc 4 1, 3), (.goto (-29), 3), (.aload_n 0, 1), (.iload_n 3, 1), (.putfield 357, 3), (.iload_n 1, 1), (.ifCond .ne 10, 3), (.aload_n 0, 1), (.getfield 357, 3), (.ifCond .eq 7, 3), (.iconst 1, 1), (.goto 4, 3), (.iconst 0, 1), (.istore_n 1, 1), (.iconst 0, 1), (.istore_n 3, 1), (.iload_n 3, 1), (.iconst 4, 1), (.if_icmp .ge 36, 3), (.aload_n 0, 1), (.getfield 77, 3), (.iload_n 3, 1), (.iconst 0, 1), (.bastore, 1), (.aload_n 0, 1), (.getfield 68, 3), (.iload_n 3, 1), (.iload_n 1, 1), (.ifCond .eq 7, 3), (.iconst 0, 1), (.goto 9, 3), (.aload_n 0, 1), (.getfield 68, 3), (.iload_n 3, 1), (.iaload, 1), (.iastore, 1), (.iinc 3 1, 3), (.goto (-35), 3), (.iload_n 1, 1), (.ifCond .eq 4, 3), (.return_, 1), (.aload_n 0, 1), (.iconst 2, 1), (.invokevirtual 360, 3), (.istore_n 3, 1), (.aload_n 0, 1), (.iconst 3, 1), (.invokevirtual 360, 3), (.ifCond .ne 7, 3), (.iload_n 3, 1), (.ifCond .eq 7, 3), (.iconst 1, 1), (.goto 4, 3), (.iconst 0, 1), (.istore_n 3, 1), (.aload_n 0, 1), (.iconst 1, 1), (.invokevirtual 360, 3), (.ifCond .ne 7, 3), (.iload_n 3, 1), (.ifCond .eq 7, 3), (.iconst 1, 1), (.goto 4, 3), (.iconst 0, 1), (.istore_n 3, 1), (.aload_n 0, 1), (.iconst 0, 1), (.invokevirtual 360, 3), (.ifCond .ne 7, 3), (.iload_n 3, 1), (.ifCond .eq 7, 3), (.iconst 1, 1), (.goto 4, 3), (.iconst 0, 1), (.istore_n 3, 1), (.aload_n 0, 1), (.invokevirtual 363, 3), (.iload_n 3, 1), (.ifCond .ne 4, 3), (.return_, 1), (.aload_n 0, 1), (.iconst 1, 1), (.putfield 357, 3), (.aload_n 0, 1), (.dup, 1), (.getfield 366, 3), (.iconst 1, 1), (.iadd, 1), (.putfield 366, 3), (.iconst 0, 1), (.istore 4, 2), (.iload 4, 2), (.iconst 4, 1), (.if_icmp .ge 17, 3), (.aload_n 0, 1), (.getfield 68, 3), (.iload 4, 2), (.iconst 0, 1), (.iastore, 1), (.iinc 4 1, 3), (.goto (-17), 3), (.return_, 1)]
set_option maxHeartbeats 4000000 in
set_option maxRecDepth 100000 in
theorem dt_M_tickOnce : g_dc (g_b M_M_tickOnce) 0 dl_M_tickOnce = true := by decide +kernel
def M_M_tick : gM := (⟨"BandPressModel", "tick", "(I)I"⟩, prog_14_method_68_code, some .int, 3, { frames := 4, cells := 0, slots := 0, locals := 88 }, false, false, none)
def dl_M_tick : List (Instr × Nat) := [(.aload_n 0, 1), (.iload_n 1, 1), (.iconst 1, 1), (.if_icmp .lt 10, 3), (.iload_n 1, 1), (.sipush 1000, 3), (.if_icmp .le 7, 3), (.iconst 1, 1), (.goto 4, 3), (.iconst 0, 1), (.putfield 83, 3), (.aload_n 0, 1), (.getfield 83, 3), (.ifCond .eq 5, 3), (.iconst 0, 1), (.ireturn, 1), (.iconst 0, 1), (.istore_n 2, 1), (.iload_n 2, 1), (.iload_n 1, 1), (.if_icmp .ge 13, 3), (.aload_n 0, 1), (.invokevirtual 369, 3), (.iinc 2 1, 3), (.goto (-12), 3), (.aload_n 0, 1), (.invokevirtual 372, 3), (.ireturn, 1)]
set_option maxHeartbeats 4000000 in
set_option maxRecDepth 100000 in
theorem dt_M_tick : g_dc (g_b M_M_tick) 0 dl_M_tick = true := by decide +kernel
def M_M_type : gM := (⟨"BandPressModel", "type", "(JI)Z"⟩, prog_14_method_3_code, some .boolean, 7, { frames := 0, cells := 0, slots := 0, locals := 0 }, false, false, none)
def dl_M_type : List (Instr × Nat) := [(.aload_n 0, 1), (.iconst 0, 1), (.putfield 83, 3), (.iload_n 3, 1), (.iconst 1, 1), (.if_icmp .lt 21, 3), (.iload_n 3, 1), (.bipush 8, 2), (.if_icmp .gt 15, 3), (.aload_n 0, 1), (.getfield 87, 3), (.iload_n 3, 1), (.iadd, 1), (.sipush 300, 3), (.if_icmp .le 5, 3), (.iconst 0, 1), (.ireturn, 1), (.iconst 0, 1), (.istore 4, 2), (.iload 4, 2), (.iload_n 3, 1), (.if_icmp .ge 42, 3), (.lload_n 1, 1), (.bipush 8, 2), (.iload 4, 2), (.imul, 1), (.lshr, 1), (.ldc2_w 90, 3), (.land, 1), (.lstore 5, 2), (.lload 5, 2), (.ldc2_w 92, 3), (.lcmp, 1), (.ifCond .lt 12, 3), (.lload 5, 2), (.ldc2_w 94, 3), (.lcmp, 1), (.ifCond .le 5, 3), (.iconst 0, 1), (.ireturn, 1), (.iinc 4 1, 3), (.goto (-42), 3), (.iload_n 3, 1), (.iconst 1, 1), (.isub, 1), (.istore 4, 2), (.iload 4, 2), (.ifCond .lt 40, 3), (.aload_n 0, 1), (.getfield 7, 3), (.aload_n 0, 1), (.getfield 87, 3), (.lload_n 1, 1), (.bipush 8, 2), (.iload 4, 2), (.imul, 1), (.lshr, 1), (.ldc2_w 90, 3), (.land, 1), (.l2i, 1), (.iastore, 1), (.aload_n 0, 1), (.dup, 1), (.getfield 87, 3), (.iconst 1, 1), (.iadd, 1), (.putfield 87, 3), (.iinc 4 (-1), 3), (.goto (-39), 3), (.iconst 1, 1), (.ireturn, 1)]
set_option maxHeartbeats 4000000 in
set_option maxRecDepth 100000 in
theorem dt_M_type : g_dc (g_b M_M_type) 0 dl_M_type = true := by decide +kernel
def M_M_value : gM := (⟨"BandPressModel", "value", "(I)I"⟩, prog_14_method_46_code, some .int, 2, { frames := 0, cells := 0, slots := 0, locals := 0 }, false, false, none)
def dl_M_value : List (Instr × Nat) := [(.aload_n 0, 1), (.iload_n 1, 1), (.ifCond .lt 11, 3), (.iload_n 1, 1), (.aload_n 0, 1), (.getfield 145, 3), (.if_icmp .lt 7, 3), (.iconst 1, 1), (.goto 4, 3), (.iconst 0, 1), (.putfield 83, 3), (.aload_n 0, 1), (.getfield 83, 3), (.ifCond .eq 5, 3), (.iconst 0, 1), (.ireturn, 1), (.aload_n 0, 1), (.getfield 22, 3), (.aload_n 0, 1), (.getfield 145, 3), (.iconst 1, 1), (.isub, 1), (.iload_n 1, 1), (.isub, 1), (.baload, 1), (.ifCond .eq 9, 3), (.ldc_w 301, 3), (.goto 4, 3), (.iconst 0, 1), (.aload_n 0, 1), (.getfield 16, 3), (.aload_n 0, 1), (.getfield 145, 3), (.iconst 1, 1), (.isub, 1), (.iload_n 1, 1), (.isub, 1), (.iaload, 1), (.iadd, 1), (.ireturn, 1)]
set_option maxHeartbeats 4000000 in
set_option maxRecDepth 100000 in
theorem dt_M_value : g_dc (g_b M_M_value) 0 dl_M_value = true := by decide +kernel
def M_M_variable : gM := (⟨"BandPressModel", "variable", "(I)I"⟩, prog_14_method_47_code, some .int, 2, { frames := 0, cells := 0, slots := 0, locals := 0 }, false, false, none)
def dl_M_variable : List (Instr × Nat) := [(.aload_n 0, 1), (.iconst 0, 1), (.putfield 83, 3), (.iload_n 1, 1), (.ifCond .lt 9, 3), (.iload_n 1, 1), (.bipush 25, 2), (.if_icmp .le 7, 3), (.iconst 0, 1), (.goto 9, 3), (.aload_n 0, 1), (.getfield 19, 3), (.iload_n 1, 1), (.iaload, 1), (.ireturn, 1)]
set_option maxHeartbeats 4000000 in
set_option maxRecDepth 100000 in
theorem dt_M_variable : g_dc (g_b M_M_variable) 0 dl_M_variable = true := by decide +kernel
