section
-- ===== PART A: goes FIRST, ahead of the names: the tables' words, and 'selects' of the private methods out of them =====
/-- a private method of a class that the tables say can be made, by its rows of tables_1 -/
def lw_okq (q : MethodName × Nat) : Prop := (q.1.cls ≠ "java/lang/invoke/MethodHandle" ∧ q.1.cls ≠ "java/lang/invoke/VarHandle") ∧ Cond.instantiable q.1.cls q.2 ∈ tables_1 ∧ Cond.privateMethod q.1 ∈ tables_1 ∧ Cond.instanceMethod q.1 ∈ tables_1
theorem lw_p0 : lw_okq (⟨"BandPress$Calls", "push", "(III)V"⟩, 5) := ⟨⟨by decide +kernel, by decide +kernel⟩, List.mem_of_getElem? (i := 67) (by decide +kernel), List.mem_of_getElem? (i := 527) (by decide +kernel), List.mem_of_getElem? (i := 528) (by decide +kernel)⟩
theorem lw_p1 : lw_okq (⟨"BandPress$Pages", "clean", "()V"⟩, 4) := ⟨⟨by decide +kernel, by decide +kernel⟩, List.mem_of_getElem? (i := 189) (by decide +kernel), List.mem_of_getElem? (i := 563) (by decide +kernel), List.mem_of_getElem? (i := 564) (by decide +kernel)⟩
theorem lw_p2 : lw_okq (⟨"BandPress$Packer", "add", "(I)V"⟩, 3) := ⟨⟨by decide +kernel, by decide +kernel⟩, List.mem_of_getElem? (i := 346) (by decide +kernel), List.mem_of_getElem? (i := 614) (by decide +kernel), List.mem_of_getElem? (i := 615) (by decide +kernel)⟩
theorem lw_p3 : lw_okq (⟨"BandPress$Packer", "packLine", "(J)V"⟩, 3) := ⟨⟨by decide +kernel, by decide +kernel⟩, List.mem_of_getElem? (i := 346) (by decide +kernel), List.mem_of_getElem? (i := 618) (by decide +kernel), List.mem_of_getElem? (i := 619) (by decide +kernel)⟩
theorem lw_p4 : lw_okq (⟨"BandPress$Packer", "octetsAlike", "(I)I"⟩, 3) := ⟨⟨by decide +kernel, by decide +kernel⟩, List.mem_of_getElem? (i := 346) (by decide +kernel), List.mem_of_getElem? (i := 622) (by decide +kernel), List.mem_of_getElem? (i := 623) (by decide +kernel)⟩
theorem lw_p5 : lw_okq (⟨"BandPress$Packer", "octetsApart", "(I)I"⟩, 3) := ⟨⟨by decide +kernel, by decide +kernel⟩, List.mem_of_getElem? (i := 346) (by decide +kernel), List.mem_of_getElem? (i := 626) (by decide +kernel), List.mem_of_getElem? (i := 627) (by decide +kernel)⟩
theorem lw_p6 : lw_okq (⟨"BandPress$Machine", "empty", "(I)V"⟩, 12) := ⟨⟨by decide +kernel, by decide +kernel⟩, List.mem_of_getElem? (i := 295) (by decide +kernel), List.mem_of_getElem? (i := 650) (by decide +kernel), List.mem_of_getElem? (i := 651) (by decide +kernel)⟩
theorem lw_p7 : lw_okq (⟨"BandPress$Machine", "inside", "()I"⟩, 12) := ⟨⟨by decide +kernel, by decide +kernel⟩, List.mem_of_getElem? (i := 295) (by decide +kernel), List.mem_of_getElem? (i := 696) (by decide +kernel), List.mem_of_getElem? (i := 697) (by decide +kernel)⟩
theorem lw_p8 : lw_okq (⟨"java/lang/Throwable", "fillInStackTrace", "(I)Ljava/lang/Throwable;"⟩, 6) := ⟨⟨by decide +kernel, by decide +kernel⟩, List.mem_of_getElem? (i := 747) (by decide +kernel), List.mem_of_getElem? (i := 745) (by decide +kernel), List.mem_of_getElem? (i := 746) (by decide +kernel)⟩
theorem lw_p9 : lw_okq (⟨"BandPress$Job", "errorOf", "(I)I"⟩, 13) := ⟨⟨by decide +kernel, by decide +kernel⟩, List.mem_of_getElem? (i := 59) (by decide +kernel), List.mem_of_getElem? (i := 804) (by decide +kernel), List.mem_of_getElem? (i := 805) (by decide +kernel)⟩
theorem lw_p10 : lw_okq (⟨"BandPress$Job", "kindsFit", "(II)Z"⟩, 13) := ⟨⟨by decide +kernel, by decide +kernel⟩, List.mem_of_getElem? (i := 59) (by decide +kernel), List.mem_of_getElem? (i := 811) (by decide +kernel), List.mem_of_getElem? (i := 812) (by decide +kernel)⟩
theorem lw_p11 : lw_okq (⟨"BandPress$Job", "goesBeyond", "(I)Z"⟩, 13) := ⟨⟨by decide +kernel, by decide +kernel⟩, List.mem_of_getElem? (i := 59) (by decide +kernel), List.mem_of_getElem? (i := 824) (by decide +kernel), List.mem_of_getElem? (i := 825) (by decide +kernel)⟩
theorem lw_p12 : lw_okq (⟨"BandPress$Job", "resultOf", "(I)J"⟩, 13) := ⟨⟨by decide +kernel, by decide +kernel⟩, List.mem_of_getElem? (i := 59) (by decide +kernel), List.mem_of_getElem? (i := 828) (by decide +kernel), List.mem_of_getElem? (i := 829) (by decide +kernel)⟩
theorem lw_p13 : lw_okq (⟨"BandPress$Job", "isFarOff", "(I)Z"⟩, 13) := ⟨⟨by decide +kernel, by decide +kernel⟩, List.mem_of_getElem? (i := 59) (by decide +kernel), List.mem_of_getElem? (i := 837) (by decide +kernel), List.mem_of_getElem? (i := 838) (by decide +kernel)⟩
theorem lw_p14 : lw_okq (⟨"BandPress$Job", "lacksRoom", "(I)Z"⟩, 13) := ⟨⟨by decide +kernel, by decide +kernel⟩, List.mem_of_getElem? (i := 59) (by decide +kernel), List.mem_of_getElem? (i := 865) (by decide +kernel), List.mem_of_getElem? (i := 866) (by decide +kernel)⟩
theorem lw_p15 : lw_okq (⟨"BandPress$Job", "placesFor", "(I)I"⟩, 13) := ⟨⟨by decide +kernel, by decide +kernel⟩, List.mem_of_getElem? (i := 59) (by decide +kernel), List.mem_of_getElem? (i := 879) (by decide +kernel), List.mem_of_getElem? (i := 880) (by decide +kernel)⟩
def lw_privs_1 : List (MethodName × Nat) := [(⟨"BandPress$Calls", "push", "(III)V"⟩, 5), (⟨"BandPress$Pages", "clean", "()V"⟩, 4), (⟨"BandPress$Packer", "add", "(I)V"⟩, 3), (⟨"BandPress$Packer", "packLine", "(J)V"⟩, 3), (⟨"BandPress$Packer", "octetsAlike", "(I)I"⟩, 3), (⟨"BandPress$Packer", "octetsApart", "(I)I"⟩, 3), (⟨"BandPress$Machine", "empty", "(I)V"⟩, 12), (⟨"BandPress$Machine", "inside", "()I"⟩, 12), (⟨"java/lang/Throwable", "fillInStackTrace", "(I)Ljava/lang/Throwable;"⟩, 6), (⟨"BandPress$Job", "errorOf", "(I)I"⟩, 13), (⟨"BandPress$Job", "kindsFit", "(II)Z"⟩, 13), (⟨"BandPress$Job", "goesBeyond", "(I)Z"⟩, 13), (⟨"BandPress$Job", "resultOf", "(I)J"⟩, 13), (⟨"BandPress$Job", "isFarOff", "(I)Z"⟩, 13), (⟨"BandPress$Job", "lacksRoom", "(I)Z"⟩, 13), (⟨"BandPress$Job", "placesFor", "(I)I"⟩, 13)]
theorem lw_r1 : ∀ q ∈ lw_privs_1, lw_okq q := List.forall_mem_cons.mpr ⟨lw_p0, List.forall_mem_cons.mpr ⟨lw_p1, List.forall_mem_cons.mpr ⟨lw_p2, List.forall_mem_cons.mpr ⟨lw_p3, List.forall_mem_cons.mpr ⟨lw_p4, List.forall_mem_cons.mpr ⟨lw_p5, List.forall_mem_cons.mpr ⟨lw_p6, List.forall_mem_cons.mpr ⟨lw_p7, List.forall_mem_cons.mpr ⟨lw_p8, List.forall_mem_cons.mpr ⟨lw_p9, List.forall_mem_cons.mpr ⟨lw_p10, List.forall_mem_cons.mpr ⟨lw_p11, List.forall_mem_cons.mpr ⟨lw_p12, List.forall_mem_cons.mpr ⟨lw_p13, List.forall_mem_cons.mpr ⟨lw_p14, List.forall_mem_cons.mpr ⟨lw_p15, fun _ h => absurd h List.not_mem_nil⟩⟩⟩⟩⟩⟩⟩⟩⟩⟩⟩⟩⟩⟩⟩⟩
theorem lw_p16 : lw_okq (⟨"BandPress$Job", "marksTooMuch", "(I)Z"⟩, 13) := ⟨⟨by decide +kernel, by decide +kernel⟩, List.mem_of_getElem? (i := 59) (by decide +kernel), List.mem_of_getElem? (i := 887) (by decide +kernel), List.mem_of_getElem? (i := 888) (by decide +kernel)⟩
theorem lw_p17 : lw_okq (⟨"BandPress$Filler", "meetEdges", "(LBandPress$Path;I)Z"⟩, 2) := ⟨⟨by decide +kernel, by decide +kernel⟩, List.mem_of_getElem? (i := 89) (by decide +kernel), List.mem_of_getElem? (i := 895) (by decide +kernel), List.mem_of_getElem? (i := 896) (by decide +kernel)⟩
theorem lw_p18 : lw_okq (⟨"BandPress$Filler", "sweep", "(Z)J"⟩, 2) := ⟨⟨by decide +kernel, by decide +kernel⟩, List.mem_of_getElem? (i := 89) (by decide +kernel), List.mem_of_getElem? (i := 912) (by decide +kernel), List.mem_of_getElem? (i := 913) (by decide +kernel)⟩
theorem lw_p19 : lw_okq (⟨"BandPress$Text", "behindDigits", "(I)I"⟩, 4) := ⟨⟨by decide +kernel, by decide +kernel⟩, List.mem_of_getElem? (i := 38) (by decide +kernel), List.mem_of_getElem? (i := 950) (by decide +kernel), List.mem_of_getElem? (i := 951) (by decide +kernel)⟩
theorem lw_p20 : lw_okq (⟨"BandPress$Job", "perform", "(II)V"⟩, 13) := ⟨⟨by decide +kernel, by decide +kernel⟩, List.mem_of_getElem? (i := 59) (by decide +kernel), List.mem_of_getElem? (i := 958) (by decide +kernel), List.mem_of_getElem? (i := 959) (by decide +kernel)⟩
theorem lw_p21 : lw_okq (⟨"BandPress$Job", "assign", "(I)V"⟩, 13) := ⟨⟨by decide +kernel, by decide +kernel⟩, List.mem_of_getElem? (i := 59) (by decide +kernel), List.mem_of_getElem? (i := 971) (by decide +kernel), List.mem_of_getElem? (i := 972) (by decide +kernel)⟩
theorem lw_p22 : lw_okq (⟨"BandPress$Job", "control", "(I)V"⟩, 13) := ⟨⟨by decide +kernel, by decide +kernel⟩, List.mem_of_getElem? (i := 59) (by decide +kernel), List.mem_of_getElem? (i := 977) (by decide +kernel), List.mem_of_getElem? (i := 978) (by decide +kernel)⟩
theorem lw_p23 : lw_okq (⟨"BandPress$Job", "draw", "(I)V"⟩, 13) := ⟨⟨by decide +kernel, by decide +kernel⟩, List.mem_of_getElem? (i := 59) (by decide +kernel), List.mem_of_getElem? (i := 993) (by decide +kernel), List.mem_of_getElem? (i := 994) (by decide +kernel)⟩
theorem lw_p24 : lw_okq (⟨"BandPress$Job", "placedX", "(I)I"⟩, 13) := ⟨⟨by decide +kernel, by decide +kernel⟩, List.mem_of_getElem? (i := 59) (by decide +kernel), List.mem_of_getElem? (i := 997) (by decide +kernel), List.mem_of_getElem? (i := 998) (by decide +kernel)⟩
theorem lw_p25 : lw_okq (⟨"BandPress$Job", "placedY", "(I)I"⟩, 13) := ⟨⟨by decide +kernel, by decide +kernel⟩, List.mem_of_getElem? (i := 59) (by decide +kernel), List.mem_of_getElem? (i := 1001) (by decide +kernel), List.mem_of_getElem? (i := 1002) (by decide +kernel)⟩
theorem lw_p26 : lw_okq (⟨"BandPress$Path", "add", "(IIZ)V"⟩, 8) := ⟨⟨by decide +kernel, by decide +kernel⟩, List.mem_of_getElem? (i := 151) (by decide +kernel), List.mem_of_getElem? (i := 1009) (by decide +kernel), List.mem_of_getElem? (i := 1010) (by decide +kernel)⟩
theorem lw_p27 : lw_okq (⟨"BandPress$Path", "goOn", "()V"⟩, 8) := ⟨⟨by decide +kernel, by decide +kernel⟩, List.mem_of_getElem? (i := 151) (by decide +kernel), List.mem_of_getElem? (i := 1017) (by decide +kernel), List.mem_of_getElem? (i := 1018) (by decide +kernel)⟩
theorem lw_p28 : lw_okq (⟨"BandPress$Job", "use", "(I)V"⟩, 13) := ⟨⟨by decide +kernel, by decide +kernel⟩, List.mem_of_getElem? (i := 59) (by decide +kernel), List.mem_of_getElem? (i := 1043) (by decide +kernel), List.mem_of_getElem? (i := 1044) (by decide +kernel)⟩
theorem lw_p29 : lw_okq (⟨"BandPress$Job", "reckon", "(I)V"⟩, 13) := ⟨⟨by decide +kernel, by decide +kernel⟩, List.mem_of_getElem? (i := 59) (by decide +kernel), List.mem_of_getElem? (i := 1091) (by decide +kernel), List.mem_of_getElem? (i := 1092) (by decide +kernel)⟩
theorem lw_p30 : lw_okq (⟨"BandPress$Machine", "anySticks", "()Z"⟩, 12) := ⟨⟨by decide +kernel, by decide +kernel⟩, List.mem_of_getElem? (i := 295) (by decide +kernel), List.mem_of_getElem? (i := 1139) (by decide +kernel), List.mem_of_getElem? (i := 1140) (by decide +kernel)⟩
theorem lw_p31 : lw_okq (⟨"BandPress$Machine", "moveAll", "()V"⟩, 12) := ⟨⟨by decide +kernel, by decide +kernel⟩, List.mem_of_getElem? (i := 295) (by decide +kernel), List.mem_of_getElem? (i := 1144) (by decide +kernel), List.mem_of_getElem? (i := 1145) (by decide +kernel)⟩
def lw_privs_2 : List (MethodName × Nat) := [(⟨"BandPress$Job", "marksTooMuch", "(I)Z"⟩, 13), (⟨"BandPress$Filler", "meetEdges", "(LBandPress$Path;I)Z"⟩, 2), (⟨"BandPress$Filler", "sweep", "(Z)J"⟩, 2), (⟨"BandPress$Text", "behindDigits", "(I)I"⟩, 4), (⟨"BandPress$Job", "perform", "(II)V"⟩, 13), (⟨"BandPress$Job", "assign", "(I)V"⟩, 13), (⟨"BandPress$Job", "control", "(I)V"⟩, 13), (⟨"BandPress$Job", "draw", "(I)V"⟩, 13), (⟨"BandPress$Job", "placedX", "(I)I"⟩, 13), (⟨"BandPress$Job", "placedY", "(I)I"⟩, 13), (⟨"BandPress$Path", "add", "(IIZ)V"⟩, 8), (⟨"BandPress$Path", "goOn", "()V"⟩, 8), (⟨"BandPress$Job", "use", "(I)V"⟩, 13), (⟨"BandPress$Job", "reckon", "(I)V"⟩, 13), (⟨"BandPress$Machine", "anySticks", "()Z"⟩, 12), (⟨"BandPress$Machine", "moveAll", "()V"⟩, 12)]
theorem lw_r2 : ∀ q ∈ lw_privs_2, lw_okq q := List.forall_mem_cons.mpr ⟨lw_p16, List.forall_mem_cons.mpr ⟨lw_p17, List.forall_mem_cons.mpr ⟨lw_p18, List.forall_mem_cons.mpr ⟨lw_p19, List.forall_mem_cons.mpr ⟨lw_p20, List.forall_mem_cons.mpr ⟨lw_p21, List.forall_mem_cons.mpr ⟨lw_p22, List.forall_mem_cons.mpr ⟨lw_p23, List.forall_mem_cons.mpr ⟨lw_p24, List.forall_mem_cons.mpr ⟨lw_p25, List.forall_mem_cons.mpr ⟨lw_p26, List.forall_mem_cons.mpr ⟨lw_p27, List.forall_mem_cons.mpr ⟨lw_p28, List.forall_mem_cons.mpr ⟨lw_p29, List.forall_mem_cons.mpr ⟨lw_p30, List.forall_mem_cons.mpr ⟨lw_p31, fun _ h => absurd h List.not_mem_nil⟩⟩⟩⟩⟩⟩⟩⟩⟩⟩⟩⟩⟩⟩⟩⟩
theorem lw_p32 : lw_okq (⟨"BandPress$Machine", "moveFrom", "(I)V"⟩, 12) := ⟨⟨by decide +kernel, by decide +kernel⟩, List.mem_of_getElem? (i := 295) (by decide +kernel), List.mem_of_getElem? (i := 1148) (by decide +kernel), List.mem_of_getElem? (i := 1149) (by decide +kernel)⟩
theorem lw_p33 : lw_okq (⟨"BandPress$Machine", "wayFrom", "(I)I"⟩, 12) := ⟨⟨by decide +kernel, by decide +kernel⟩, List.mem_of_getElem? (i := 295) (by decide +kernel), List.mem_of_getElem? (i := 1152) (by decide +kernel), List.mem_of_getElem? (i := 1153) (by decide +kernel)⟩
theorem lw_p34 : lw_okq (⟨"BandPress$Machine", "ifFree", "(I)I"⟩, 12) := ⟨⟨by decide +kernel, by decide +kernel⟩, List.mem_of_getElem? (i := 295) (by decide +kernel), List.mem_of_getElem? (i := 1157) (by decide +kernel), List.mem_of_getElem? (i := 1158) (by decide +kernel)⟩
theorem lw_p35 : lw_okq (⟨"BandPress$Machine", "move", "(II)V"⟩, 12) := ⟨⟨by decide +kernel, by decide +kernel⟩, List.mem_of_getElem? (i := 295) (by decide +kernel), List.mem_of_getElem? (i := 1161) (by decide +kernel), List.mem_of_getElem? (i := 1162) (by decide +kernel)⟩
theorem lw_p36 : lw_okq (⟨"BandPress$Machine", "place", "(III)V"⟩, 12) := ⟨⟨by decide +kernel, by decide +kernel⟩, List.mem_of_getElem? (i := 295) (by decide +kernel), List.mem_of_getElem? (i := 1173) (by decide +kernel), List.mem_of_getElem? (i := 1174) (by decide +kernel)⟩
theorem lw_p37 : lw_okq (⟨"BandPress$Machine", "feed", "()V"⟩, 12) := ⟨⟨by decide +kernel, by decide +kernel⟩, List.mem_of_getElem? (i := 295) (by decide +kernel), List.mem_of_getElem? (i := 1177) (by decide +kernel), List.mem_of_getElem? (i := 1178) (by decide +kernel)⟩
theorem lw_p38 : lw_okq (⟨"BandPress$Machine", "nextToMake", "()I"⟩, 12) := ⟨⟨by decide +kernel, by decide +kernel⟩, List.mem_of_getElem? (i := 295) (by decide +kernel), List.mem_of_getElem? (i := 1181) (by decide +kernel), List.mem_of_getElem? (i := 1182) (by decide +kernel)⟩
theorem lw_p39 : lw_okq (⟨"BandPress$Machine", "isInside", "(I)Z"⟩, 12) := ⟨⟨by decide +kernel, by decide +kernel⟩, List.mem_of_getElem? (i := 295) (by decide +kernel), List.mem_of_getElem? (i := 1186) (by decide +kernel), List.mem_of_getElem? (i := 1187) (by decide +kernel)⟩
theorem lw_p40 : lw_okq (⟨"BandPressModel", "faultOf", "()I"⟩, 55) := ⟨⟨by decide +kernel, by decide +kernel⟩, List.mem_of_getElem? (i := 1190) (by decide +kernel), List.mem_of_getElem? (i := 1377) (by decide +kernel), List.mem_of_getElem? (i := 1378) (by decide +kernel)⟩
theorem lw_p41 : lw_okq (⟨"BandPressModel", "noPath", "()V"⟩, 55) := ⟨⟨by decide +kernel, by decide +kernel⟩, List.mem_of_getElem? (i := 1190) (by decide +kernel), List.mem_of_getElem? (i := 1390) (by decide +kernel), List.mem_of_getElem? (i := 1391) (by decide +kernel)⟩
theorem lw_p42 : lw_okq (⟨"BandPressModel", "enter", "(III)V"⟩, 55) := ⟨⟨by decide +kernel, by decide +kernel⟩, List.mem_of_getElem? (i := 1190) (by decide +kernel), List.mem_of_getElem? (i := 1394) (by decide +kernel), List.mem_of_getElem? (i := 1395) (by decide +kernel)⟩
theorem lw_p43 : lw_okq (⟨"BandPressModel", "next", "()I"⟩, 55) := ⟨⟨by decide +kernel, by decide +kernel⟩, List.mem_of_getElem? (i := 1190) (by decide +kernel), List.mem_of_getElem? (i := 1402) (by decide +kernel), List.mem_of_getElem? (i := 1403) (by decide +kernel)⟩
theorem lw_p44 : lw_okq (⟨"BandPressModel", "endJob", "(II)V"⟩, 55) := ⟨⟨by decide +kernel, by decide +kernel⟩, List.mem_of_getElem? (i := 1190) (by decide +kernel), List.mem_of_getElem? (i := 1406) (by decide +kernel), List.mem_of_getElem? (i := 1407) (by decide +kernel)⟩
theorem lw_p45 : lw_okq (⟨"BandPressModel", "errorOf", "(I)I"⟩, 55) := ⟨⟨by decide +kernel, by decide +kernel⟩, List.mem_of_getElem? (i := 1190) (by decide +kernel), List.mem_of_getElem? (i := 1410) (by decide +kernel), List.mem_of_getElem? (i := 1411) (by decide +kernel)⟩
theorem lw_p46 : lw_okq (⟨"BandPressModel", "isKind", "(II)Z"⟩, 55) := ⟨⟨by decide +kernel, by decide +kernel⟩, List.mem_of_getElem? (i := 1190) (by decide +kernel), List.mem_of_getElem? (i := 1414) (by decide +kernel), List.mem_of_getElem? (i := 1415) (by decide +kernel)⟩
theorem lw_p47 : lw_okq (⟨"BandPressModel", "result", "(I)J"⟩, 55) := ⟨⟨by decide +kernel, by decide +kernel⟩, List.mem_of_getElem? (i := 1190) (by decide +kernel), List.mem_of_getElem? (i := 1418) (by decide +kernel), List.mem_of_getElem? (i := 1419) (by decide +kernel)⟩
def lw_privs_3 : List (MethodName × Nat) := [(⟨"BandPress$Machine", "moveFrom", "(I)V"⟩, 12), (⟨"BandPress$Machine", "wayFrom", "(I)I"⟩, 12), (⟨"BandPress$Machine", "ifFree", "(I)I"⟩, 12), (⟨"BandPress$Machine", "move", "(II)V"⟩, 12), (⟨"BandPress$Machine", "place", "(III)V"⟩, 12), (⟨"BandPress$Machine", "feed", "()V"⟩, 12), (⟨"BandPress$Machine", "nextToMake", "()I"⟩, 12), (⟨"BandPress$Machine", "isInside", "(I)Z"⟩, 12), (⟨"BandPressModel", "faultOf", "()I"⟩, 55), (⟨"BandPressModel", "noPath", "()V"⟩, 55), (⟨"BandPressModel", "enter", "(III)V"⟩, 55), (⟨"BandPressModel", "next", "()I"⟩, 55), (⟨"BandPressModel", "endJob", "(II)V"⟩, 55), (⟨"BandPressModel", "errorOf", "(I)I"⟩, 55), (⟨"BandPressModel", "isKind", "(II)Z"⟩, 55), (⟨"BandPressModel", "result", "(I)J"⟩, 55)]
theorem lw_r3 : ∀ q ∈ lw_privs_3, lw_okq q := List.forall_mem_cons.mpr ⟨lw_p32, List.forall_mem_cons.mpr ⟨lw_p33, List.forall_mem_cons.mpr ⟨lw_p34, List.forall_mem_cons.mpr ⟨lw_p35, List.forall_mem_cons.mpr ⟨lw_p36, List.forall_mem_cons.mpr ⟨lw_p37, List.forall_mem_cons.mpr ⟨lw_p38, List.forall_mem_cons.mpr ⟨lw_p39, List.forall_mem_cons.mpr ⟨lw_p40, List.forall_mem_cons.mpr ⟨lw_p41, List.forall_mem_cons.mpr ⟨lw_p42, List.forall_mem_cons.mpr ⟨lw_p43, List.forall_mem_cons.mpr ⟨lw_p44, List.forall_mem_cons.mpr ⟨lw_p45, List.forall_mem_cons.mpr ⟨lw_p46, List.forall_mem_cons.mpr ⟨lw_p47, fun _ h => absurd h List.not_mem_nil⟩⟩⟩⟩⟩⟩⟩⟩⟩⟩⟩⟩⟩⟩⟩⟩
theorem lw_p48 : lw_okq (⟨"BandPressModel", "number", "(I)I"⟩, 55) := ⟨⟨by decide +kernel, by decide +kernel⟩, List.mem_of_getElem? (i := 1190) (by decide +kernel), List.mem_of_getElem? (i := 1422) (by decide +kernel), List.mem_of_getElem? (i := 1423) (by decide +kernel)⟩
theorem lw_p49 : lw_okq (⟨"BandPressModel", "quotient", "()I"⟩, 55) := ⟨⟨by decide +kernel, by decide +kernel⟩, List.mem_of_getElem? (i := 1190) (by decide +kernel), List.mem_of_getElem? (i := 1426) (by decide +kernel), List.mem_of_getElem? (i := 1427) (by decide +kernel)⟩
theorem lw_p50 : lw_okq (⟨"BandPressModel", "isNear", "(I)Z"⟩, 55) := ⟨⟨by decide +kernel, by decide +kernel⟩, List.mem_of_getElem? (i := 1190) (by decide +kernel), List.mem_of_getElem? (i := 1434) (by decide +kernel), List.mem_of_getElem? (i := 1435) (by decide +kernel)⟩
theorem lw_p51 : lw_okq (⟨"BandPressModel", "xOf", "(I)J"⟩, 55) := ⟨⟨by decide +kernel, by decide +kernel⟩, List.mem_of_getElem? (i := 1190) (by decide +kernel), List.mem_of_getElem? (i := 1438) (by decide +kernel), List.mem_of_getElem? (i := 1439) (by decide +kernel)⟩
theorem lw_p52 : lw_okq (⟨"BandPressModel", "yOf", "(I)J"⟩, 55) := ⟨⟨by decide +kernel, by decide +kernel⟩, List.mem_of_getElem? (i := 1190) (by decide +kernel), List.mem_of_getElem? (i := 1446) (by decide +kernel), List.mem_of_getElem? (i := 1447) (by decide +kernel)⟩
theorem lw_p53 : lw_okq (⟨"BandPressModel", "placesFor", "(I)I"⟩, 55) := ⟨⟨by decide +kernel, by decide +kernel⟩, List.mem_of_getElem? (i := 1190) (by decide +kernel), List.mem_of_getElem? (i := 1450) (by decide +kernel), List.mem_of_getElem? (i := 1451) (by decide +kernel)⟩
theorem lw_p54 : lw_okq (⟨"BandPressModel", "look", "(Z)I"⟩, 55) := ⟨⟨by decide +kernel, by decide +kernel⟩, List.mem_of_getElem? (i := 1190) (by decide +kernel), List.mem_of_getElem? (i := 1454) (by decide +kernel), List.mem_of_getElem? (i := 1455) (by decide +kernel)⟩
theorem lw_p55 : lw_okq (⟨"BandPressModel", "isIn", "(IIZ)Z"⟩, 55) := ⟨⟨by decide +kernel, by decide +kernel⟩, List.mem_of_getElem? (i := 1190) (by decide +kernel), List.mem_of_getElem? (i := 1458) (by decide +kernel), List.mem_of_getElem? (i := 1459) (by decide +kernel)⟩
theorem lw_p56 : lw_okq (⟨"BandPressModel", "isRepeated", "()Z"⟩, 55) := ⟨⟨by decide +kernel, by decide +kernel⟩, List.mem_of_getElem? (i := 1190) (by decide +kernel), List.mem_of_getElem? (i := 1465) (by decide +kernel), List.mem_of_getElem? (i := 1466) (by decide +kernel)⟩
theorem lw_p57 : lw_okq (⟨"BandPressModel", "step", "(I)V"⟩, 55) := ⟨⟨by decide +kernel, by decide +kernel⟩, List.mem_of_getElem? (i := 1190) (by decide +kernel), List.mem_of_getElem? (i := 1469) (by decide +kernel), List.mem_of_getElem? (i := 1470) (by decide +kernel)⟩
theorem lw_p58 : lw_okq (⟨"BandPressModel", "wordLong", "(I)I"⟩, 55) := ⟨⟨by decide +kernel, by decide +kernel⟩, List.mem_of_getElem? (i := 1190) (by decide +kernel), List.mem_of_getElem? (i := 1473) (by decide +kernel), List.mem_of_getElem? (i := 1474) (by decide +kernel)⟩
theorem lw_p59 : lw_okq (⟨"BandPressModel", "closing", "(I)I"⟩, 55) := ⟨⟨by decide +kernel, by decide +kernel⟩, List.mem_of_getElem? (i := 1190) (by decide +kernel), List.mem_of_getElem? (i := 1477) (by decide +kernel), List.mem_of_getElem? (i := 1478) (by decide +kernel)⟩
theorem lw_p60 : lw_okq (⟨"BandPressModel", "push", "(IZ)V"⟩, 55) := ⟨⟨by decide +kernel, by decide +kernel⟩, List.mem_of_getElem? (i := 1190) (by decide +kernel), List.mem_of_getElem? (i := 1481) (by decide +kernel), List.mem_of_getElem? (i := 1482) (by decide +kernel)⟩
theorem lw_p61 : lw_okq (⟨"BandPressModel", "reckon", "(I)V"⟩, 55) := ⟨⟨by decide +kernel, by decide +kernel⟩, List.mem_of_getElem? (i := 1190) (by decide +kernel), List.mem_of_getElem? (i := 1485) (by decide +kernel), List.mem_of_getElem? (i := 1486) (by decide +kernel)⟩
theorem lw_p62 : lw_okq (⟨"BandPressModel", "order", "(I)V"⟩, 55) := ⟨⟨by decide +kernel, by decide +kernel⟩, List.mem_of_getElem? (i := 1190) (by decide +kernel), List.mem_of_getElem? (i := 1489) (by decide +kernel), List.mem_of_getElem? (i := 1490) (by decide +kernel)⟩
theorem lw_p63 : lw_okq (⟨"BandPressModel", "swap", "()V"⟩, 55) := ⟨⟨by decide +kernel, by decide +kernel⟩, List.mem_of_getElem? (i := 1190) (by decide +kernel), List.mem_of_getElem? (i := 1493) (by decide +kernel), List.mem_of_getElem? (i := 1494) (by decide +kernel)⟩
def lw_privs_4 : List (MethodName × Nat) := [(⟨"BandPressModel", "number", "(I)I"⟩, 55), (⟨"BandPressModel", "quotient", "()I"⟩, 55), (⟨"BandPressModel", "isNear", "(I)Z"⟩, 55), (⟨"BandPressModel", "xOf", "(I)J"⟩, 55), (⟨"BandPressModel", "yOf", "(I)J"⟩, 55), (⟨"BandPressModel", "placesFor", "(I)I"⟩, 55), (⟨"BandPressModel", "look", "(Z)I"⟩, 55), (⟨"BandPressModel", "isIn", "(IIZ)Z"⟩, 55), (⟨"BandPressModel", "isRepeated", "()Z"⟩, 55), (⟨"BandPressModel", "step", "(I)V"⟩, 55), (⟨"BandPressModel", "wordLong", "(I)I"⟩, 55), (⟨"BandPressModel", "closing", "(I)I"⟩, 55), (⟨"BandPressModel", "push", "(IZ)V"⟩, 55), (⟨"BandPressModel", "reckon", "(I)V"⟩, 55), (⟨"BandPressModel", "order", "(I)V"⟩, 55), (⟨"BandPressModel", "swap", "()V"⟩, 55)]
theorem lw_r4 : ∀ q ∈ lw_privs_4, lw_okq q := List.forall_mem_cons.mpr ⟨lw_p48, List.forall_mem_cons.mpr ⟨lw_p49, List.forall_mem_cons.mpr ⟨lw_p50, List.forall_mem_cons.mpr ⟨lw_p51, List.forall_mem_cons.mpr ⟨lw_p52, List.forall_mem_cons.mpr ⟨lw_p53, List.forall_mem_cons.mpr ⟨lw_p54, List.forall_mem_cons.mpr ⟨lw_p55, List.forall_mem_cons.mpr ⟨lw_p56, List.forall_mem_cons.mpr ⟨lw_p57, List.forall_mem_cons.mpr ⟨lw_p58, List.forall_mem_cons.mpr ⟨lw_p59, List.forall_mem_cons.mpr ⟨lw_p60, List.forall_mem_cons.mpr ⟨lw_p61, List.forall_mem_cons.mpr ⟨lw_p62, List.forall_mem_cons.mpr ⟨lw_p63, fun _ h => absurd h List.not_mem_nil⟩⟩⟩⟩⟩⟩⟩⟩⟩⟩⟩⟩⟩⟩⟩⟩
theorem lw_p64 : lw_okq (⟨"BandPressModel", "repeat", "()V"⟩, 55) := ⟨⟨by decide +kernel, by decide +kernel⟩, List.mem_of_getElem? (i := 1190) (by decide +kernel), List.mem_of_getElem? (i := 1497) (by decide +kernel), List.mem_of_getElem? (i := 1498) (by decide +kernel)⟩
theorem lw_p65 : lw_okq (⟨"BandPressModel", "quit", "()V"⟩, 55) := ⟨⟨by decide +kernel, by decide +kernel⟩, List.mem_of_getElem? (i := 1190) (by decide +kernel), List.mem_of_getElem? (i := 1501) (by decide +kernel), List.mem_of_getElem? (i := 1502) (by decide +kernel)⟩
theorem lw_p66 : lw_okq (⟨"BandPressModel", "draw", "(I)V"⟩, 55) := ⟨⟨by decide +kernel, by decide +kernel⟩, List.mem_of_getElem? (i := 1190) (by decide +kernel), List.mem_of_getElem? (i := 1505) (by decide +kernel), List.mem_of_getElem? (i := 1506) (by decide +kernel)⟩
theorem lw_p67 : lw_okq (⟨"BandPressModel", "place", "(IIZ)V"⟩, 55) := ⟨⟨by decide +kernel, by decide +kernel⟩, List.mem_of_getElem? (i := 1190) (by decide +kernel), List.mem_of_getElem? (i := 1509) (by decide +kernel), List.mem_of_getElem? (i := 1510) (by decide +kernel)⟩
theorem lw_p68 : lw_okq (⟨"BandPressModel", "along", "(IIIIIZ)I"⟩, 55) := ⟨⟨by decide +kernel, by decide +kernel⟩, List.mem_of_getElem? (i := 1190) (by decide +kernel), List.mem_of_getElem? (i := 1513) (by decide +kernel), List.mem_of_getElem? (i := 1514) (by decide +kernel)⟩
theorem lw_p69 : lw_okq (⟨"BandPressModel", "fill", "(Z)V"⟩, 55) := ⟨⟨by decide +kernel, by decide +kernel⟩, List.mem_of_getElem? (i := 1190) (by decide +kernel), List.mem_of_getElem? (i := 1517) (by decide +kernel), List.mem_of_getElem? (i := 1518) (by decide +kernel)⟩
theorem lw_p70 : lw_okq (⟨"BandPressModel", "cut", "()V"⟩, 55) := ⟨⟨by decide +kernel, by decide +kernel⟩, List.mem_of_getElem? (i := 1190) (by decide +kernel), List.mem_of_getElem? (i := 1524) (by decide +kernel), List.mem_of_getElem? (i := 1525) (by decide +kernel)⟩
theorem lw_p71 : lw_okq (⟨"BandPressModel", "state", "(I)V"⟩, 55) := ⟨⟨by decide +kernel, by decide +kernel⟩, List.mem_of_getElem? (i := 1190) (by decide +kernel), List.mem_of_getElem? (i := 1528) (by decide +kernel), List.mem_of_getElem? (i := 1529) (by decide +kernel)⟩
theorem lw_p72 : lw_okq (⟨"BandPressModel", "pack", "(II)Z"⟩, 55) := ⟨⟨by decide +kernel, by decide +kernel⟩, List.mem_of_getElem? (i := 1190) (by decide +kernel), List.mem_of_getElem? (i := 1556) (by decide +kernel), List.mem_of_getElem? (i := 1557) (by decide +kernel)⟩
theorem lw_p73 : lw_okq (⟨"BandPressModel", "isLikeAbove", "(II)Z"⟩, 55) := ⟨⟨by decide +kernel, by decide +kernel⟩, List.mem_of_getElem? (i := 1190) (by decide +kernel), List.mem_of_getElem? (i := 1560) (by decide +kernel), List.mem_of_getElem? (i := 1561) (by decide +kernel)⟩
theorem lw_p74 : lw_okq (⟨"BandPressModel", "byteOf", "(III)I"⟩, 55) := ⟨⟨by decide +kernel, by decide +kernel⟩, List.mem_of_getElem? (i := 1190) (by decide +kernel), List.mem_of_getElem? (i := 1564) (by decide +kernel), List.mem_of_getElem? (i := 1565) (by decide +kernel)⟩
theorem lw_p75 : lw_okq (⟨"BandPressModel", "out", "(I)V"⟩, 55) := ⟨⟨by decide +kernel, by decide +kernel⟩, List.mem_of_getElem? (i := 1190) (by decide +kernel), List.mem_of_getElem? (i := 1568) (by decide +kernel), List.mem_of_getElem? (i := 1569) (by decide +kernel)⟩
theorem lw_p76 : lw_okq (⟨"BandPressModel", "line", "(II)V"⟩, 55) := ⟨⟨by decide +kernel, by decide +kernel⟩, List.mem_of_getElem? (i := 1190) (by decide +kernel), List.mem_of_getElem? (i := 1572) (by decide +kernel), List.mem_of_getElem? (i := 1573) (by decide +kernel)⟩
theorem lw_p77 : lw_okq (⟨"BandPressModel", "alike", "(III)I"⟩, 55) := ⟨⟨by decide +kernel, by decide +kernel⟩, List.mem_of_getElem? (i := 1190) (by decide +kernel), List.mem_of_getElem? (i := 1576) (by decide +kernel), List.mem_of_getElem? (i := 1577) (by decide +kernel)⟩
theorem lw_p78 : lw_okq (⟨"BandPressModel", "tickOnce", "()V"⟩, 55) := ⟨⟨by decide +kernel, by decide +kernel⟩, List.mem_of_getElem? (i := 1190) (by decide +kernel), List.mem_of_getElem? (i := 1588) (by decide +kernel), List.mem_of_getElem? (i := 1589) (by decide +kernel)⟩
theorem lw_p79 : lw_okq (⟨"BandPressModel", "insideMany", "()I"⟩, 55) := ⟨⟨by decide +kernel, by decide +kernel⟩, List.mem_of_getElem? (i := 1190) (by decide +kernel), List.mem_of_getElem? (i := 1592) (by decide +kernel), List.mem_of_getElem? (i := 1593) (by decide +kernel)⟩
def lw_privs_5 : List (MethodName × Nat) := [(⟨"BandPressModel", "repeat", "()V"⟩, 55), (⟨"BandPressModel", "quit", "()V"⟩, 55), (⟨"BandPressModel", "draw", "(I)V"⟩, 55), (⟨"BandPressModel", "place", "(IIZ)V"⟩, 55), (⟨"BandPressModel", "along", "(IIIIIZ)I"⟩, 55), (⟨"BandPressModel", "fill", "(Z)V"⟩, 55), (⟨"BandPressModel", "cut", "()V"⟩, 55), (⟨"BandPressModel", "state", "(I)V"⟩, 55), (⟨"BandPressModel", "pack", "(II)Z"⟩, 55), (⟨"BandPressModel", "isLikeAbove", "(II)Z"⟩, 55), (⟨"BandPressModel", "byteOf", "(III)I"⟩, 55), (⟨"BandPressModel", "out", "(I)V"⟩, 55), (⟨"BandPressModel", "line", "(II)V"⟩, 55), (⟨"BandPressModel", "alike", "(III)I"⟩, 55), (⟨"BandPressModel", "tickOnce", "()V"⟩, 55), (⟨"BandPressModel", "insideMany", "()I"⟩, 55)]
theorem lw_r5 : ∀ q ∈ lw_privs_5, lw_okq q := List.forall_mem_cons.mpr ⟨lw_p64, List.forall_mem_cons.mpr ⟨lw_p65, List.forall_mem_cons.mpr ⟨lw_p66, List.forall_mem_cons.mpr ⟨lw_p67, List.forall_mem_cons.mpr ⟨lw_p68, List.forall_mem_cons.mpr ⟨lw_p69, List.forall_mem_cons.mpr ⟨lw_p70, List.forall_mem_cons.mpr ⟨lw_p71, List.forall_mem_cons.mpr ⟨lw_p72, List.forall_mem_cons.mpr ⟨lw_p73, List.forall_mem_cons.mpr ⟨lw_p74, List.forall_mem_cons.mpr ⟨lw_p75, List.forall_mem_cons.mpr ⟨lw_p76, List.forall_mem_cons.mpr ⟨lw_p77, List.forall_mem_cons.mpr ⟨lw_p78, List.forall_mem_cons.mpr ⟨lw_p79, fun _ h => absurd h List.not_mem_nil⟩⟩⟩⟩⟩⟩⟩⟩⟩⟩⟩⟩⟩⟩⟩⟩
theorem lw_p80 : lw_okq (⟨"BandPressModel", "turn", "(I)Z"⟩, 55) := ⟨⟨by decide +kernel, by decide +kernel⟩, List.mem_of_getElem? (i := 1190) (by decide +kernel), List.mem_of_getElem? (i := 1596) (by decide +kernel), List.mem_of_getElem? (i := 1597) (by decide +kernel)⟩
theorem lw_p81 : lw_okq (⟨"BandPressModel", "goes", "(I)Z"⟩, 55) := ⟨⟨by decide +kernel, by decide +kernel⟩, List.mem_of_getElem? (i := 1190) (by decide +kernel), List.mem_of_getElem? (i := 1600) (by decide +kernel), List.mem_of_getElem? (i := 1601) (by decide +kernel)⟩
theorem lw_p82 : lw_okq (⟨"BandPressModel", "sidesOf", "()I"⟩, 55) := ⟨⟨by decide +kernel, by decide +kernel⟩, List.mem_of_getElem? (i := 1190) (by decide +kernel), List.mem_of_getElem? (i := 1604) (by decide +kernel), List.mem_of_getElem? (i := 1605) (by decide +kernel)⟩
theorem lw_p83 : lw_okq (⟨"BandPressModel", "empty", "(I)V"⟩, 55) := ⟨⟨by decide +kernel, by decide +kernel⟩, List.mem_of_getElem? (i := 1190) (by decide +kernel), List.mem_of_getElem? (i := 1608) (by decide +kernel), List.mem_of_getElem? (i := 1609) (by decide +kernel)⟩
theorem lw_p84 : lw_okq (⟨"BandPressModel", "shift", "(II)V"⟩, 55) := ⟨⟨by decide +kernel, by decide +kernel⟩, List.mem_of_getElem? (i := 1190) (by decide +kernel), List.mem_of_getElem? (i := 1612) (by decide +kernel), List.mem_of_getElem? (i := 1613) (by decide +kernel)⟩
theorem lw_p85 : lw_okq (⟨"BandPressModel", "feed", "()V"⟩, 55) := ⟨⟨by decide +kernel, by decide +kernel⟩, List.mem_of_getElem? (i := 1190) (by decide +kernel), List.mem_of_getElem? (i := 1616) (by decide +kernel), List.mem_of_getElem? (i := 1617) (by decide +kernel)⟩
theorem lw_p86 : lw_okq (⟨"BandPressModel", "toMake", "()I"⟩, 55) := ⟨⟨by decide +kernel, by decide +kernel⟩, List.mem_of_getElem? (i := 1190) (by decide +kernel), List.mem_of_getElem? (i := 1620) (by decide +kernel), List.mem_of_getElem? (i := 1621) (by decide +kernel)⟩
theorem lw_p87 : lw_okq (⟨"BandPressModel", "stateOf", "()I"⟩, 55) := ⟨⟨by decide +kernel, by decide +kernel⟩, List.mem_of_getElem? (i := 1190) (by decide +kernel), List.mem_of_getElem? (i := 1624) (by decide +kernel), List.mem_of_getElem? (i := 1625) (by decide +kernel)⟩
def lw_privs_6 : List (MethodName × Nat) := [(⟨"BandPressModel", "turn", "(I)Z"⟩, 55), (⟨"BandPressModel", "goes", "(I)Z"⟩, 55), (⟨"BandPressModel", "sidesOf", "()I"⟩, 55), (⟨"BandPressModel", "empty", "(I)V"⟩, 55), (⟨"BandPressModel", "shift", "(II)V"⟩, 55), (⟨"BandPressModel", "feed", "()V"⟩, 55), (⟨"BandPressModel", "toMake", "()I"⟩, 55), (⟨"BandPressModel", "stateOf", "()I"⟩, 55)]
theorem lw_r6 : ∀ q ∈ lw_privs_6, lw_okq q := List.forall_mem_cons.mpr ⟨lw_p80, List.forall_mem_cons.mpr ⟨lw_p81, List.forall_mem_cons.mpr ⟨lw_p82, List.forall_mem_cons.mpr ⟨lw_p83, List.forall_mem_cons.mpr ⟨lw_p84, List.forall_mem_cons.mpr ⟨lw_p85, List.forall_mem_cons.mpr ⟨lw_p86, List.forall_mem_cons.mpr ⟨lw_p87, fun _ h => absurd h List.not_mem_nil⟩⟩⟩⟩⟩⟩⟩⟩
def lw_privs : List (MethodName × Nat) := lw_privs_1 ++ (lw_privs_2 ++ (lw_privs_3 ++ (lw_privs_4 ++ (lw_privs_5 ++ (lw_privs_6)))))
def lw_tbl : List Cond := k2_sels lw_privs ++ tables_1
theorem lw_privs_ok : ∀ q ∈ lw_privs, lw_okq q := by
  show ∀ q ∈ lw_privs_1 ++ (lw_privs_2 ++ (lw_privs_3 ++ (lw_privs_4 ++ (lw_privs_5 ++ (lw_privs_6))))), lw_okq q
  exact List.forall_mem_append.mpr ⟨lw_r1, List.forall_mem_append.mpr ⟨lw_r2, List.forall_mem_append.mpr ⟨lw_r3, List.forall_mem_append.mpr ⟨lw_r4, List.forall_mem_append.mpr ⟨lw_r5, lw_r6⟩⟩⟩⟩⟩
end
section
/-! names by program (gen/lay.py) -/
def R_0 : String := "BandPress"
def F_0 : u_T := fun k => match k with
  | 0 => ("BandPress", "tape", "LBandPress$Text;", true)
  | 1 => ("BandPress", "work", "LBandPress$Job;", true)
  | 2 => ("BandPress", "order", "LBandPress$Order;", true)
  | 3 => ("BandPress", "machine", "LBandPress$Machine;", true)
  | _ => ("BandPress", "packer", "LBandPress$Packer;", true)
def t_0 : Nat → FieldType := fun k => match k with
  | 0 => (.object "BandPress$Text")
  | 1 => (.object "BandPress$Job")
  | 2 => (.object "BandPress$Order")
  | 3 => (.object "BandPress$Machine")
  | _ => (.object "BandPress$Packer")
def R_1 : String := "BandPress$Text"
def F_1 : u_T := fun k => match k with
  | 0 => ("BandPress$Text", "signs", "[I", true)
  | 1 => ("BandPress$Text", "closings", "[I", true)
  | 2 => ("BandPress$Text", "open", "[I", true)
  | _ => ("BandPress$Text", "length", "I", false)
def t_1 : Nat → FieldType := fun k => match k with
  | 0 => (.array .int)
  | 1 => (.array .int)
  | 2 => (.array .int)
  | _ => .int
def R_2 : String := "BandPress$Job"
def F_2 : u_T := fun k => match k with
  | 0 => ("BandPress$Job", "script", "LBandPress$Text;", true)
  | 1 => ("BandPress$Job", "calls", "LBandPress$Calls;", true)
  | 2 => ("BandPress$Job", "filler", "LBandPress$Filler;", true)
  | 3 => ("BandPress$Job", "stack", "LBandPress$Values;", true)
  | 4 => ("BandPress$Job", "variables", "[I", true)
  | 5 => ("BandPress$Job", "settings", "LBandPress$Settings;", true)
  | 6 => ("BandPress$Job", "path", "LBandPress$Path;", true)
  | 7 => ("BandPress$Job", "pages", "LBandPress$Pages;", true)
  | 8 => ("BandPress$Job", "state", "I", false)
  | 9 => ("BandPress$Job", "error", "I", false)
  | 10 => ("BandPress$Job", "errorPlace", "I", false)
  | 11 => ("BandPress$Job", "steps", "I", false)
  | _ => ("BandPress$Job", "limit", "I", false)
def t_2 : Nat → FieldType := fun k => match k with
  | 0 => (.object "BandPress$Text")
  | 1 => (.object "BandPress$Calls")
  | 2 => (.object "BandPress$Filler")
  | 3 => (.object "BandPress$Values")
  | 4 => (.array .int)
  | 5 => (.object "BandPress$Settings")
  | 6 => (.object "BandPress$Path")
  | 7 => (.object "BandPress$Pages")
  | 8 => .int
  | 9 => .int
  | 10 => .int
  | 11 => .int
  | _ => .int
def R_3 : String := "BandPress$Calls"
def F_3 : u_T := fun k => match k with
  | 0 => ("BandPress$Calls", "next", "[I", true)
  | 1 => ("BandPress$Calls", "first", "[I", true)
  | 2 => ("BandPress$Calls", "end", "[I", true)
  | 3 => ("BandPress$Calls", "times", "[I", true)
  | _ => ("BandPress$Calls", "depth", "I", false)
def t_3 : Nat → FieldType := fun k => match k with
  | 0 => (.array .int)
  | 1 => (.array .int)
  | 2 => (.array .int)
  | 3 => (.array .int)
  | _ => .int
def R_4 : String := "BandPress$Filler"
def F_4 : u_T := fun k => match k with
  | 0 => ("BandPress$Filler", "rows", "[J", true)
  | _ => ("BandPress$Filler", "turns", "[I", true)
def t_4 : Nat → FieldType := fun k => match k with
  | 0 => (.array .long)
  | _ => (.array .int)
def R_5 : String := "BandPress$Values"
def F_5 : u_T := fun k => match k with
  | 0 => ("BandPress$Values", "held", "[I", true)
  | _ => ("BandPress$Values", "size", "I", false)
def t_5 : Nat → FieldType := fun k => match k with
  | 0 => (.array .int)
  | _ => .int
def R_6 : String := "BandPress$Settings"
def F_6 : u_T := fun k => match k with
  | 0 => ("BandPress$Settings", "sx", "[I", true)
  | 1 => ("BandPress$Settings", "sy", "[I", true)
  | 2 => ("BandPress$Settings", "tx", "[I", true)
  | 3 => ("BandPress$Settings", "ty", "[I", true)
  | 4 => ("BandPress$Settings", "grey", "[I", true)
  | 5 => ("BandPress$Settings", "clip", "[J", true)
  | _ => ("BandPress$Settings", "level", "I", false)
def t_6 : Nat → FieldType := fun k => match k with
  | 0 => (.array .int)
  | 1 => (.array .int)
  | 2 => (.array .int)
  | 3 => (.array .int)
  | 4 => (.array .int)
  | 5 => (.array .long)
  | _ => .int
def R_7 : String := "BandPress$Path"
def F_7 : u_T := fun k => match k with
  | 0 => ("BandPress$Path", "xs", "[I", true)
  | 1 => ("BandPress$Path", "ys", "[I", true)
  | 2 => ("BandPress$Path", "begins", "[Z", true)
  | 3 => ("BandPress$Path", "curveX", "[I", true)
  | 4 => ("BandPress$Path", "curveY", "[I", true)
  | 5 => ("BandPress$Path", "size", "I", false)
  | 6 => ("BandPress$Path", "subpath", "I", false)
  | _ => ("BandPress$Path", "closed", "Z", false)
def t_7 : Nat → FieldType := fun k => match k with
  | 0 => (.array .int)
  | 1 => (.array .int)
  | 2 => (.array .boolean)
  | 3 => (.array .int)
  | 4 => (.array .int)
  | 5 => .int
  | 6 => .int
  | _ => .boolean
def R_8 : String := "BandPress$Pages"
def F_8 : u_T := fun k => match k with
  | 0 => ("BandPress$Pages", "lines", "[J", true)
  | 1 => ("BandPress$Pages", "drawn", "[J", true)
  | 2 => ("BandPress$Pages", "kept", "I", false)
  | _ => ("BandPress$Pages", "marks", "I", false)
def t_8 : Nat → FieldType := fun k => match k with
  | 0 => (.array .long)
  | 1 => (.array .long)
  | 2 => .int
  | _ => .int
def R_9 : String := "BandPress$Order"
def F_9 : u_T := fun k => match k with
  | 0 => ("BandPress$Order", "outSheets", "[I", true)
  | 1 => ("BandPress$Order", "isOut", "[Z", true)
  | 2 => ("BandPress$Order", "outCount", "I", false)
  | 3 => ("BandPress$Order", "count", "I", false)
  | 4 => ("BandPress$Order", "copies", "I", false)
  | 5 => ("BandPress$Order", "twoSided", "Z", false)
  | 6 => ("BandPress$Order", "pages", "I", false)
  | _ => ("BandPress$Order", "perCopy", "I", false)
def t_9 : Nat → FieldType := fun k => match k with
  | 0 => (.array .int)
  | 1 => (.array .boolean)
  | 2 => .int
  | 3 => .int
  | 4 => .int
  | 5 => .boolean
  | 6 => .int
  | _ => .int
def R_10 : String := "BandPress$Machine"
def F_10 : u_T := fun k => match k with
  | 0 => ("BandPress$Machine", "order", "LBandPress$Order;", true)
  | 1 => ("BandPress$Machine", "sheets", "[I", true)
  | 2 => ("BandPress$Machine", "printed", "[I", true)
  | 3 => ("BandPress$Machine", "sticks", "[Z", true)
  | 4 => ("BandPress$Machine", "came", "[Z", true)
  | 5 => ("BandPress$Machine", "stuck", "[I", true)
  | 6 => ("BandPress$Machine", "heat", "I", false)
  | 7 => ("BandPress$Machine", "tray", "I", false)
  | 8 => ("BandPress$Machine", "open", "Z", false)
  | 9 => ("BandPress$Machine", "ticks", "I", false)
  | 10 => ("BandPress$Machine", "jams", "I", false)
  | _ => ("BandPress$Machine", "jammed", "Z", false)
def t_10 : Nat → FieldType := fun k => match k with
  | 0 => (.object "BandPress$Order")
  | 1 => (.array .int)
  | 2 => (.array .int)
  | 3 => (.array .boolean)
  | 4 => (.array .boolean)
  | 5 => (.array .int)
  | 6 => .int
  | 7 => .int
  | 8 => .boolean
  | 9 => .int
  | 10 => .int
  | _ => .boolean
def R_11 : String := "BandPress$Packer"
def F_11 : u_T := fun k => match k with
  | 0 => ("BandPress$Packer", "packed", "[I", true)
  | 1 => ("BandPress$Packer", "size", "I", false)
  | _ => ("BandPress$Packer", "octets", "[I", true)
def t_11 : Nat → FieldType := fun k => match k with
  | 0 => (.array .int)
  | 1 => .int
  | _ => (.array .int)
def R_12 : String := "BandPressModel"
def F_12 : u_T := fun k => match k with
  | 0 => ("BandPressModel", "code", "I", false)
  | 1 => ("BandPressModel", "tape", "[I", true)
  | 2 => ("BandPressModel", "text", "[I", true)
  | 3 => ("BandPressModel", "typed", "I", false)
  | 4 => ("BandPressModel", "size", "I", false)
  | 5 => ("BandPressModel", "phase", "I", false)
  | 6 => ("BandPressModel", "error", "I", false)
  | 7 => ("BandPressModel", "errorPlace", "I", false)
  | 8 => ("BandPressModel", "pages", "I", false)
  | 9 => ("BandPressModel", "steps", "I", false)
  | 10 => ("BandPressModel", "limit", "I", false)
  | 11 => ("BandPressModel", "copies", "I", false)
  | 12 => ("BandPressModel", "sides", "Z", false)
  | 13 => ("BandPressModel", "high", "I", false)
  | 14 => ("BandPressModel", "value", "[I", true)
  | 15 => ("BandPressModel", "variable", "[I", true)
  | 16 => ("BandPressModel", "isProcedure", "[Z", true)
  | 17 => ("BandPressModel", "depth", "I", false)
  | 18 => ("BandPressModel", "at", "[I", true)
  | 19 => ("BandPressModel", "end", "[I", true)
  | 20 => ("BandPressModel", "begin", "[I", true)
  | 21 => ("BandPressModel", "more", "[I", true)
  | 22 => ("BandPressModel", "places", "I", false)
  | 23 => ("BandPressModel", "lastX", "I", false)
  | 24 => ("BandPressModel", "lastY", "I", false)
  | 25 => ("BandPressModel", "firstX", "I", false)
  | 26 => ("BandPressModel", "firstY", "I", false)
  | 27 => ("BandPressModel", "hasPlace", "Z", false)
  | 28 => ("BandPressModel", "isClosed", "Z", false)
  | 29 => ("BandPressModel", "placeX", "[I", true)
  | 30 => ("BandPressModel", "placeY", "[I", true)
  | 31 => ("BandPressModel", "begins", "[Z", true)
  | 32 => ("BandPressModel", "saved", "I", false)
  | 33 => ("BandPressModel", "matrix", "[I", true)
  | 34 => ("BandPressModel", "clip", "[Z", true)
  | 35 => ("BandPressModel", "black", "[Z", true)
  | 36 => ("BandPressModel", "marks", "I", false)
  | 37 => ("BandPressModel", "inside", "[Z", true)
  | 38 => ("BandPressModel", "row", "[I", true)
  | 39 => ("BandPressModel", "rowLong", "I", false)
  | 40 => ("BandPressModel", "tray", "I", false)
  | 41 => ("BandPressModel", "heat", "I", false)
  | 42 => ("BandPressModel", "ticks", "I", false)
  | 43 => ("BandPressModel", "jams", "I", false)
  | 44 => ("BandPressModel", "sheets", "I", false)
  | 45 => ("BandPressModel", "outs", "I", false)
  | 46 => ("BandPressModel", "open", "Z", false)
  | 47 => ("BandPressModel", "jammed", "Z", false)
  | 48 => ("BandPressModel", "in", "[I", true)
  | 49 => ("BandPressModel", "printed", "[I", true)
  | 50 => ("BandPressModel", "stuck", "[I", true)
  | 51 => ("BandPressModel", "outSheet", "[I", true)
  | 52 => ("BandPressModel", "sticks", "[Z", true)
  | 53 => ("BandPressModel", "moved", "[Z", true)
  | _ => ("BandPressModel", "isOut", "[Z", true)
def t_12 : Nat → FieldType := fun k => match k with
  | 0 => .int
  | 1 => (.array .int)
  | 2 => (.array .int)
  | 3 => .int
  | 4 => .int
  | 5 => .int
  | 6 => .int
  | 7 => .int
  | 8 => .int
  | 9 => .int
  | 10 => .int
  | 11 => .int
  | 12 => .boolean
  | 13 => .int
  | 14 => (.array .int)
  | 15 => (.array .int)
  | 16 => (.array .boolean)
  | 17 => .int
  | 18 => (.array .int)
  | 19 => (.array .int)
  | 20 => (.array .int)
  | 21 => (.array .int)
  | 22 => .int
  | 23 => .int
  | 24 => .int
  | 25 => .int
  | 26 => .int
  | 27 => .boolean
  | 28 => .boolean
  | 29 => (.array .int)
  | 30 => (.array .int)
  | 31 => (.array .boolean)
  | 32 => .int
  | 33 => (.array .int)
  | 34 => (.array .boolean)
  | 35 => (.array .boolean)
  | 36 => .int
  | 37 => (.array .boolean)
  | 38 => (.array .int)
  | 39 => .int
  | 40 => .int
  | 41 => .int
  | 42 => .int
  | 43 => .int
  | 44 => .int
  | 45 => .int
  | 46 => .boolean
  | 47 => .boolean
  | 48 => (.array .int)
  | 49 => (.array .int)
  | 50 => (.array .int)
  | 51 => (.array .int)
  | 52 => (.array .boolean)
  | 53 => (.array .boolean)
  | _ => (.array .boolean)
def g_cl : List vw_C := [(R_0, F_0, 5), (R_1, F_1, 4), (R_2, F_2, 13), (R_3, F_3, 5), (R_4, F_4, 2), (R_5, F_5, 2), (R_6, F_6, 7), (R_7, F_7, 8), (R_8, F_8, 4), (R_9, F_9, 8), (R_10, F_10, 12), (R_11, F_11, 3), (R_12, F_12, 55)]
def g_isN : Cond → Bool
  | .fieldLinkNest .. => true
  | .methodLinkNest .. => true
  | _ => false
def g_T : List Cond := lw_tbl.filter goodWord
def g_N : List Cond := lw_tbl.filter g_isN
theorem g_Tm {w : Cond} (i : Nat) (h : lw_tbl[i]? = some w) (hg : goodWord w = true) : w ∈ g_T := List.mem_filter.mpr ⟨List.mem_of_getElem? h, hg⟩
theorem g_Nm {w : Cond} (i : Nat) (h : lw_tbl[i]? = some w) (hg : g_isN w = true) : w ∈ g_N := List.mem_filter.mpr ⟨List.mem_of_getElem? h, hg⟩
set_option maxHeartbeats 4000000 in
set_option maxRecDepth 100000 in
theorem g_clw0 : (g_cl.all fun q => (u_ws q.1 q.2.1 q.2.2).all fun w => decide (w ∈ lw_tbl) && goodWord w) = true := by decide +kernel
theorem g_clw {ci : Nat} {C : String} {T : u_T} {N : Nat} (h : g_cl[ci]? = some (C, T, N)) : ∀ w ∈ u_ws C T N, w ∈ g_T := by
  intro w hw
  have h1 := List.all_eq_true.mp (List.all_eq_true.mp g_clw0 (C, T, N) (List.mem_of_getElem? h)) w hw
  simp only [Bool.and_eq_true, decide_eq_true_eq] at h1
  exact List.mem_filter.mpr h1
theorem g_clt {ci : Nat} {C : String} {T : u_T} {N : Nat} (h : g_cl[ci]? = some (C, T, N)) : ∃ ty : Nat → FieldType, ∀ k, k < N → parseFieldDescriptor (T k).2.2.1 = some (ty k) := by
  have hl : ci < 13 := by
    have := (List.getElem?_eq_some_iff.mp h).1
    exact this
  rcases (show ci = 0 ∨ ci = 1 ∨ ci = 2 ∨ ci = 3 ∨ ci = 4 ∨ ci = 5 ∨ ci = 6 ∨ ci = 7 ∨ ci = 8 ∨ ci = 9 ∨ ci = 10 ∨ ci = 11 ∨ ci = 12 by omega) with rfl | rfl | rfl | rfl | rfl | rfl | rfl | rfl | rfl | rfl | rfl | rfl | rfl
  · cases h; exact ⟨t_0, by decide +kernel⟩
  · cases h; exact ⟨t_1, by decide +kernel⟩
  · cases h; exact ⟨t_2, by decide +kernel⟩
  · cases h; exact ⟨t_3, by decide +kernel⟩
  · cases h; exact ⟨t_4, by decide +kernel⟩
  · cases h; exact ⟨t_5, by decide +kernel⟩
  · cases h; exact ⟨t_6, by decide +kernel⟩
  · cases h; exact ⟨t_7, by decide +kernel⟩
  · cases h; exact ⟨t_8, by decide +kernel⟩
  · cases h; exact ⟨t_9, by decide +kernel⟩
  · cases h; exact ⟨t_10, by decide +kernel⟩
  · cases h; exact ⟨t_11, by decide +kernel⟩
  · cases h; exact ⟨t_12, by decide +kernel⟩
theorem g_cln {ci : Nat} {C : String} {T : u_T} {N : Nat} (h : g_cl[ci]? = some (C, T, N)) : ∀ a, a < N → ∀ b, b < N → a ≠ b → (T a).2.1 ≠ (T b).2.1 := by
  have hl : ci < 13 := by
    have := (List.getElem?_eq_some_iff.mp h).1
    exact this
  rcases (show ci = 0 ∨ ci = 1 ∨ ci = 2 ∨ ci = 3 ∨ ci = 4 ∨ ci = 5 ∨ ci = 6 ∨ ci = 7 ∨ ci = 8 ∨ ci = 9 ∨ ci = 10 ∨ ci = 11 ∨ ci = 12 by omega) with rfl | rfl | rfl | rfl | rfl | rfl | rfl | rfl | rfl | rfl | rfl | rfl | rfl
  · cases h; decide +kernel
  · cases h; decide +kernel
  · cases h; decide +kernel
  · cases h; decide +kernel
  · cases h; decide +kernel
  · cases h; decide +kernel
  · cases h; decide +kernel
  · cases h; decide +kernel
  · cases h; decide +kernel
  · cases h; decide +kernel
  · cases h; decide +kernel
  · cases h; decide +kernel
  · cases h; decide +kernel
def g_nS : Nat := 4
def g_len : List Nat := [3, 5, 9, 15]
def g_byt : List (List Int32) := [[63, 82, 81], [77, 76, 67, 90, 78], [70, 69, 87, 84, 83, 71, 85, 86, 80], [32, 123, 125, 58, 43, 45, 42, 47, 37, 126, 60, 61, 68, 88, 79]]
def g_ldc : List (String × Nat × String × Nat) := [("BandPress$Job", 239, "?RQ", 0), ("BandPress$Job", 248, "MLCZN", 1), ("BandPress$Job", 253, "FEWTSGUVP", 2), ("BandPress$Text", 59, " {}:+-*/%~<=DXO", 3), ("BandPress$Text", 65, "?RQ", 0), ("BandPress$Text", 67, "MLCZN", 1), ("BandPress$Text", 69, "FEWTSGUVP", 2)]
def g_cellN : Nat := 16
def g_cell : List Int32 := [0, 8, 2, 10, 12, 4, 14, 6, 3, 11, 1, 9, 15, 7, 13, 5]
def g_side (q : Nat) : Bool := decide (49 ≤ q) && decide (q < 74)
def gFu : Nat := 1000000000000
def g_ex (k : Nat) : String := match k with
  | 0 => "java/lang/IllegalStateException"
  | 1 => "java/lang/IllegalArgumentException"
  | _ => "java/util/NoSuchElementException"
/-- an exception of kind k has been thrown: its object is of that class -/
def g_Ex (k : Nat) (oc : Outcome) (t : State) : Prop := ∃ (a : Addr) (cell : Cell), oc = .threw a ∧ t.heap[a]? = some cell ∧ (∀ z, cell.vm ≠ .statics z) ∧ t.vm.findClass (g_ex k) = some cell.cls
end
section
/-! ints and longs as integers: a number stands for its class modulo 2^32, 2^64; w32, w64 give the number in the range -/
def w32 (z : Int) : Int := (z + 2147483648) % 4294967296 - 2147483648
def w64 (z : Int) : Int := (z + 9223372036854775808) % 18446744073709551616 - 9223372036854775808
theorem w32_id {z : Int} (h : -2147483648 ≤ z) (h' : z < 2147483648) : w32 z = z := by
  simp only [w32]; omega
theorem w64_id {z : Int} (h : -9223372036854775808 ≤ z) (h' : z < 9223372036854775808) : w64 z = z := by
  simp only [w64]; omega
theorem w32_lo (z : Int) : -2147483648 ≤ w32 z := by simp only [w32]; omega
theorem w32_hi (z : Int) : w32 z < 2147483648 := by simp only [w32]; omega
theorem w64_lo (z : Int) : -9223372036854775808 ≤ w64 z := by simp only [w64]; omega
theorem w64_hi (z : Int) : w64 z < 9223372036854775808 := by simp only [w64]; omega
theorem w32_w32 (z : Int) : w32 (w32 z) = w32 z := w32_id (w32_lo z) (w32_hi z)
theorem w64_w64 (z : Int) : w64 (w64 z) = w64 z := w64_id (w64_lo z) (w64_hi z)
theorem w64_w32 (z : Int) : w64 (w32 z) = w32 z := w64_id (by have := w32_lo z; omega) (by have := w32_hi z; omega)
theorem w32_w64 (z : Int) : w32 (w64 z) = w32 z := by simp only [w32, w64]; omega
theorem w32_toInt (z : Int) : (Int32.ofInt z).toInt = w32 z := by
  rw [Int32.toInt_ofInt]
  simp only [Int.bmod, w32, Int32.size]
  split <;> omega
theorem w64_toInt (z : Int) : (Int64.ofInt z).toInt = w64 z := by
  rw [Int64.toInt_ofInt]
  simp only [Int.bmod, w64, Int64.size]
  split <;> omega
theorem w32_ofInt (z : Int) : Int32.ofInt (w32 z) = Int32.ofInt z := Int32.toInt_inj.mp (by rw [w32_toInt, w32_toInt, w32_w32])
theorem w64_ofInt (z : Int) : Int64.ofInt (w64 z) = Int64.ofInt z := Int64.toInt_inj.mp (by rw [w64_toInt, w64_toInt, w64_w64])
theorem w32_eq {x y : Int} : Int32.ofInt x = Int32.ofInt y ↔ w32 x = w32 y := by
  rw [← Int32.toInt_inj, w32_toInt, w32_toInt]
theorem w64_eq {x y : Int} : Int64.ofInt x = Int64.ofInt y ↔ w64 x = w64 y := by
  rw [← Int64.toInt_inj, w64_toInt, w64_toInt]
theorem w32_lt {x y : Int} : Int32.ofInt x < Int32.ofInt y ↔ w32 x < w32 y := by
  rw [Int32.lt_iff_toInt_lt, w32_toInt, w32_toInt]
theorem w32_le {x y : Int} : Int32.ofInt x ≤ Int32.ofInt y ↔ w32 x ≤ w32 y := by
  rw [Int32.le_iff_toInt_le, w32_toInt, w32_toInt]
theorem w64_lt {x y : Int} : Int64.ofInt x < Int64.ofInt y ↔ w64 x < w64 y := by
  rw [Int64.lt_iff_toInt_lt, w64_toInt, w64_toInt]
theorem w32_0 {x : Int} : Int32.ofInt x = 0 ↔ w32 x = 0 := by
  rw [show (0 : Int32) = Int32.ofInt 0 from rfl, w32_eq, show w32 0 = 0 from rfl]
theorem w64_0 {x : Int} : Int64.ofInt x = 0 ↔ w64 x = 0 := by
  rw [show (0 : Int64) = Int64.ofInt 0 from rfl, w64_eq, show w64 0 = 0 from rfl]
theorem w32_l0 {x : Int} : Int32.ofInt x < 0 ↔ w32 x < 0 := by
  rw [show (0 : Int32) = Int32.ofInt 0 from rfl, w32_lt, show w32 0 = 0 from rfl]
theorem w32_0l {x : Int} : 0 < Int32.ofInt x ↔ 0 < w32 x := by
  rw [show (0 : Int32) = Int32.ofInt 0 from rfl, w32_lt, show w32 0 = 0 from rfl]
theorem w32_le0 {x : Int} : Int32.ofInt x ≤ 0 ↔ w32 x ≤ 0 := by
  rw [show (0 : Int32) = Int32.ofInt 0 from rfl, w32_le, show w32 0 = 0 from rfl]
theorem w32_0le {x : Int} : 0 ≤ Int32.ofInt x ↔ 0 ≤ w32 x := by
  rw [show (0 : Int32) = Int32.ofInt 0 from rfl, w32_le, show w32 0 = 0 from rfl]
theorem w32_in {i : Int} {n : Nat} : vp_in (Int32.ofInt i) n ↔ 0 ≤ w32 i ∧ w32 i < n := by
  rw [vp_in_iff, w32_toInt]
theorem w32_cl (i : Int) : (Int32.ofInt i).toNatClampNeg = (w32 i).toNat := by
  show (Int32.ofInt i).toInt.toNat = _
  rw [w32_toInt]
/-! what the instructions reckon -/
def i_div (x y : Int) : Int := (Int32.ofInt x / Int32.ofInt y).toInt
def i_rem (x y : Int) : Int := (Int32.ofInt x - Int32.ofInt x / Int32.ofInt y * Int32.ofInt y).toInt
def i_and (x y : Int) : Int := (Int32.ofInt x &&& Int32.ofInt y).toInt
def i_or (x y : Int) : Int := (Int32.ofInt x ||| Int32.ofInt y).toInt
def i_xor (x y : Int) : Int := (Int32.ofInt x ^^^ Int32.ofInt y).toInt
def i_shl (x y : Int) : Int := (Int32.ofInt x <<< (Int32.ofInt y &&& 31)).toInt
def i_shr (x y : Int) : Int := (Int32.ofInt x >>> (Int32.ofInt y &&& 31)).toInt
def i_ushr (x y : Int) : Int := ((Int32.ofInt x).toUInt32 >>> ((Int32.ofInt y).toUInt32 &&& Int32.toUInt32 31)).toInt32.toInt
def i_2c (x : Int) : Int := ((Int32.ofInt x).toUInt32 % 65536).toInt32.toInt
def i_2b (x : Int) : Int := (Int32.ofInt x).toInt8.toInt32.toInt
def i_nar (ty : FieldType) (x : Int) : Int := (vp_nar ty (Int32.ofInt x)).toInt
def l_div (x y : Int) : Int := (Int64.ofInt x / Int64.ofInt y).toInt
def l_rem (x y : Int) : Int := (Int64.ofInt x - Int64.ofInt x / Int64.ofInt y * Int64.ofInt y).toInt
def l_and (x y : Int) : Int := (Int64.ofInt x &&& Int64.ofInt y).toInt
def l_or (x y : Int) : Int := (Int64.ofInt x ||| Int64.ofInt y).toInt
def l_xor (x y : Int) : Int := (Int64.ofInt x ^^^ Int64.ofInt y).toInt
def l_shl (x y : Int) : Int := (Int64.ofInt x <<< ((Int32.ofInt y).toInt64 &&& 63)).toInt
def l_shr (x y : Int) : Int := (Int64.ofInt x >>> ((Int32.ofInt y).toInt64 &&& 63)).toInt
def l_ushr (x y : Int) : Int := ((Int64.ofInt x).toUInt64 >>> ((Int32.ofInt y).toInt64.toUInt64 &&& Int64.toUInt64 63)).toInt64.toInt
def l_cmp (x y : Int) : Int := if w64 y < w64 x then 1 else if w64 x = w64 y then 0 else -1
theorem l_cmp_eq (x y : Int) : lg_cmp (Int64.ofInt x) (Int64.ofInt y) = Int32.ofInt (l_cmp x y) := by
  simp only [lg_cmp, l_cmp, gt_iff_lt, w64_lt, w64_eq]
  split
  · rfl
  · split <;> rfl
theorem i_2l_eq (x : Int) : (Int32.ofInt x).toInt64 = Int64.ofInt (w32 x) := Int64.toInt_inj.mp (by rw [Int32.toInt_toInt64, w32_toInt, w64_toInt, w64_w32])
end
section
/-! THE JUDGEMENT G: a method's walk over a STORE instead of a heap (never compiled before round 3's proving).
    A store sg gives each cell's numbers by the cell's number and the place, as integers (they stand for ints or longs, modulo
    2^32 or 2^64); the SHAPE (a list) says what each cell is; references are numbers of cells. -/
abbrev gS : Type := Nat → Nat → Int
abbrev gF : Type := Option (Option Nat)
abbrev gH : Type := (Nat × Nat) ⊕ (Nat × List gF)
abbrev gZ : Type := List gH × Nat × Nat
abbrev gO : Type := Option Value ⊕ Nat
/-- name, code, returned type, locals, room, whether it makes cells, whether it says so at its end, the script that it reads -/
abbrev gM : Type := MethodName × ByteArray × Option FieldType × Nat × Room × Bool × Bool × Option (Nat × (Nat → Int32))
abbrev g_y (M : gM) : MethodName := M.1
abbrev g_b (M : gM) : ByteArray := M.2.1
abbrev g_r (M : gM) : Option FieldType := M.2.2.1
abbrev g_n (M : gM) : Nat := M.2.2.2.1
abbrev g_m (M : gM) : Room := M.2.2.2.2.1
abbrev g_a (M : gM) : Bool := M.2.2.2.2.2.1
abbrev g_z (M : gM) : Bool := M.2.2.2.2.2.2.1
abbrev g_x (M : gM) : Option (Nat × (Nat → Int32)) := M.2.2.2.2.2.2.2
theorem g_nz {M : gM} {P : Prop} (h : g_z M = false) (h2 : g_z M = true) : P := by rw [h] at h2; cases h2
def gi (z : Int) : Value := .int (Int32.ofInt z)
def gl (z : Int) : Value := .long (Int64.ofInt z)
def g_v (ad : Nat → Nat) (v : Value) : Value := match v with
  | .ref q => .ref (ad q)
  | w => w
theorem g_v_cat (ad : Nat → Nat) (v : Value) : (g_v ad v).category = v.category := by cases v <;> rfl
def g_fv (ad : Nat → Nat) (r : Nat → Int) (k : Nat) (f : gF) : Value := match f with
  | none => gi (r k)
  | some none => .null
  | some (some q) => .ref (ad q)
/-- a cell: array types 0 int, 1 boolean, 2 char, 3 long -/
def g_c (ad ca : Nat → Nat) (r : Nat → Int) (sh : gH) : va_E := match sh with
  | .inl (3, n) => .inl (ca 3, n, .inr (.inl fun j => Int64.ofInt (r j)))
  | .inl (t, n) => .inl (ca t, n, .inl fun j => Int32.ofInt (r j))
  | .inr (ci, fl) => .inr (ci, fl.mapIdx (g_fv ad r))
def g_w (ad ca : Nat → Nat) (S : List gH) (sg : gS) : va_W := S.mapIdx (fun q sh => (ad q, g_c ad ca (sg q) sh))
def g_ty (ca : Nat → Nat) : List (ClassId × FieldType) := [(ca 0, .int), (ca 1, .boolean), (ca 2, .char), (ca 3, .long)]
/-- a number is put at a place of a cell -/
def g_up (sg : gS) (q k : Nat) (z : Int) : gS := fun i j => if i = q ∧ j = k then z else sg i j
/-- a new cell's numbers are 0 -/
def g_nw (sg : gS) (q : Nat) : gS := fun i j => if i = q then 0 else sg i j
theorem g_up_ne {sg : gS} {q k : Nat} {z : Int} {i : Nat} (h : i ≠ q) : g_up sg q k z i = sg i := by
  funext j
  simp [g_up, h]
theorem g_w_get {ad ca : Nat → Nat} {S : List gH} {sg : gS} {q : Nat} {sh : gH} (h : S[q]? = some sh) : (g_w ad ca S sg)[q]? = some (ad q, g_c ad ca (sg q) sh) := by
  simp [g_w, List.getElem?_mapIdx, h]
theorem g_w_up {ad ca : Nat → Nat} {S : List gH} {sg sg' : gS} {q : Nat} {sh : gH} (hS : S[q]? = some sh) (h : ∀ j, j ≠ q → sg' j = sg j) :
    (g_w ad ca S sg).set q (ad q, g_c ad ca (sg' q) sh) = g_w ad ca S sg' := by
  apply List.ext_getElem?
  intro i
  by_cases hi : i = q
  · subst hi
    have hlt : i < (g_w ad ca S sg).length := by
      simpa [g_w] using (List.getElem?_eq_some_iff.mp hS).1
    rw [List.getElem?_set_self hlt, g_w_get hS]
  · rw [List.getElem?_set_ne (fun e => hi e.symm)]
    simp only [g_w, List.getElem?_mapIdx, h i hi]
theorem g_fs_set {ad : Nat → Nat} {sg : gS} {q : Nat} {fl : List gF} {k : Nat} {z : Int} (hk : fl[k]? = some none) : (fl.mapIdx (g_fv ad (sg q))).set k (gi z) = fl.mapIdx (g_fv ad (g_up sg q k z q)) := by
  apply List.ext_getElem?
  intro i
  by_cases hi : i = k
  · subst hi
    have hlt : i < (fl.mapIdx (g_fv ad (sg q))).length := by simpa using (List.getElem?_eq_some_iff.mp hk).1
    rw [List.getElem?_set_self hlt, List.getElem?_mapIdx, hk]
    simp [g_fv, g_up]
  · rw [List.getElem?_set_ne (fun e => hi e.symm)]
    simp only [List.getElem?_mapIdx]
    cases fl[i]? with
    | none => rfl
    | some f => cases f with
      | none => simp [g_fv, g_up, hi]
      | some o => cases o <;> rfl
theorem g_up_i (sg : gS) (q k : Nat) (z : Int) : upd (fun j => Int32.ofInt (sg q j)) k (Int32.ofInt z) = fun j => Int32.ofInt (g_up sg q k z q j) := by
  funext j
  by_cases h : j = k <;> simp [upd, g_up, h]
theorem g_up_l (sg : gS) (q k : Nat) (z : Int) : vp_updL (fun j => Int64.ofInt (sg q j)) k (Int64.ofInt z) = fun j => Int64.ofInt (g_up sg q k z q j) := by
  funext j
  by_cases h : j = k <;> simp [vp_updL, g_up, h]
/-- the addresses are the shape's, whatever the numbers are -/
theorem g_D {ad ca : Nat → Nat} {S : List gH} {sg sg' : gS} {A : Nat → Prop} (h : va_D A (g_w ad ca S sg)) : va_D A (g_w ad ca S sg') := by
  have key : ∀ (k : Nat) (q : Nat × va_E), (g_w ad ca S sg')[k]? = some q → ∃ q0, (g_w ad ca S sg)[k]? = some q0 ∧ q0.1 = q.1 := by
    intro k q hq
    simp only [g_w, List.getElem?_mapIdx, Option.map_eq_some_iff] at hq ⊢
    obtain ⟨sh, h1, h2⟩ := hq
    exact ⟨_, ⟨sh, h1, rfl⟩, by rw [← h2]⟩
  refine ⟨fun i j x y hx hy e => ?_, fun k q hq => ?_⟩
  · obtain ⟨x0, a1, a2⟩ := key i x hx
    obtain ⟨y0, b1, b2⟩ := key j y hy
    exact h.1 i j x0 y0 a1 b1 (by rw [a2, b2]; exact e)
  · obtain ⟨q0, a1, a2⟩ := key k q hq
    rw [← a2]
    exact h.2 k q0 a1
/-- the locals: a place that holds nothing known, or a value -/
def g_lp : Nat → List (Option Value) → List (Nat × Value)
  | _, [] => []
  | i, none :: l => g_lp (i + 1) l
  | i, some v :: l => (i, v) :: g_lp (i + 1) l
abbrev g_lq (ad : Nat → Nat) (lv : List (Option Value)) : List (Nat × Value) := (g_lp 0 lv).map (fun q => (q.1, g_v ad q.2))
theorem g_lp_mem {lv : List (Option Value)} : ∀ {i j : Nat} {v : Value}, (j, v) ∈ g_lp i lv ↔ ∃ k, j = i + k ∧ lv[k]? = some (some v) := by
  induction lv with
  | nil => intro i j v; simp [g_lp]
  | cons o l ih =>
    intro i j v
    cases o with
    | none =>
      rw [show g_lp i (none :: l) = g_lp (i + 1) l from rfl, ih]
      constructor
      · rintro ⟨k, h1, h2⟩
        exact ⟨k + 1, by omega, by simpa using h2⟩
      · rintro ⟨k, h1, h2⟩
        cases k with
        | zero => simp at h2
        | succ k => exact ⟨k, by omega, by simpa using h2⟩
    | some w =>
      rw [show g_lp i (some w :: l) = (i, w) :: g_lp (i + 1) l from rfl, List.mem_cons, ih]
      constructor
      · rintro (h | ⟨k, h1, h2⟩)
        · cases h
          exact ⟨0, by omega, by simp⟩
        · exact ⟨k + 1, by omega, by simpa using h2⟩
      · rintro ⟨k, h1, h2⟩
        cases k with
        | zero =>
          simp at h2
          subst h2
          exact Or.inl (by rw [h1]; rfl)
        | succ k => exact Or.inr ⟨k, by omega, by simpa using h2⟩
theorem g_lq_mem {ad : Nat → Nat} {lv : List (Option Value)} {q : Nat × Value} : q ∈ g_lq ad lv ↔ ∃ v, lv[q.1]? = some (some v) ∧ q.2 = g_v ad v := by
  constructor
  · intro h
    obtain ⟨⟨j, v⟩, h1, h2⟩ := List.mem_map.mp h
    obtain ⟨k, h3, h4⟩ := g_lp_mem.mp h1
    subst h2
    exact ⟨v, by rw [show j = k by omega]; exact h4, rfl⟩
  · rintro ⟨v, h1, h2⟩
    exact List.mem_map.mpr ⟨(q.1, v), g_lp_mem.mpr ⟨q.1, by omega, h1⟩, by rw [← h2]⟩
theorem g_rd {ls : Array Slot} {n i : Nat} {ad : Nat → Nat} {lv : List (Option Value)} {v : Value} (h : lv_has ls n (g_lq ad lv)) (hi : lv[i]? = some (some v)) : ls[i]? = some (.val (g_v ad v)) :=
  h.2.2 (i, g_v ad v) (g_lq_mem.mpr ⟨v, hi, rfl⟩)
theorem g_lw {ls : Array Slot} {n : Nat} {l l' : List (Nat × Value)} (h : lv_has ls n l) (hs : ∀ q ∈ l', q ∈ l) : lv_has ls n l' := ⟨h.1, h.2.1, fun q hq => h.2.2 q (hs q hq)⟩
/-- the place ahead holds no long -/
def g_nl (lv : List (Option Value)) (i : Nat) : Bool := match i with
  | 0 => true
  | j + 1 => match lv[j]? with
    | some (some (.long _)) => false
    | some (some (.double _)) => false
    | _ => true
theorem g_nl_cat {lv : List (Option Value)} {j : Nat} {v : Value} (h : g_nl lv (j + 1) = true) (hv : lv[j]? = some (some v)) : v.category = 1 := by
  simp only [g_nl, hv] at h
  cases v <;> first | rfl | simp at h
theorem g_set1 {ls : Array Slot} {n i : Nat} {ad : Nat → Nat} {lv : List (Option Value)} {v w : Value} (hw : w = g_v ad v) (hn : g_nl lv i = true)
    (h : lv_has ls n ((i, w) :: (g_lq ad lv).filter (fun q => !(q.1 == i) && !(q.1 + 1 == i && q.2.category == 2)))) : lv_has ls n (g_lq ad (lv.set i (some v))) := by
  refine g_lw h fun q hq => ?_
  obtain ⟨u, h1, h2⟩ := g_lq_mem.mp hq
  by_cases hi : q.1 = i
  · have hlt : i < lv.length := by
      have h3 := (List.getElem?_eq_some_iff.mp h1).1
      rw [hi] at h3
      simpa using h3
    rw [hi, List.getElem?_set_self hlt] at h1
    have e : u = v := by simpa using h1.symm
    subst e
    exact List.mem_cons.mpr (Or.inl (by rw [hw, ← h2, ← hi]))
  · rw [List.getElem?_set_ne (fun e => hi e.symm)] at h1
    refine List.mem_cons.mpr (Or.inr (List.mem_filter.mpr ⟨g_lq_mem.mpr ⟨u, h1, h2⟩, ?_⟩))
    have hc : ¬ (q.1 + 1 = i ∧ q.2.category = 2) := by
      rintro ⟨e, hc⟩
      subst e
      have := g_nl_cat hn h1
      rw [h2, g_v_cat, this] at hc
      omega
    simp only [Bool.and_eq_true, Bool.not_eq_true', beq_eq_false_iff_ne, ne_eq, Bool.and_eq_false_iff]
    refine ⟨hi, ?_⟩
    by_cases e : q.1 + 1 = i
    · exact Or.inr fun z => hc ⟨e, z⟩
    · exact Or.inl e
theorem g_set2 {ls : Array Slot} {n i : Nat} {ad : Nat → Nat} {lv : List (Option Value)} {v w : Value} (hw : w = g_v ad v) (hn : g_nl lv i = true)
    (h : lv_has ls n ((i, w) :: (g_lq ad lv).filter (fun q => !(q.1 == i) && (!(q.1 == i + 1) && !(q.1 + 1 == i && q.2.category == 2))))) : lv_has ls n (g_lq ad ((lv.set i (some v)).set (i + 1) none)) := by
  refine g_lw h fun q hq => ?_
  obtain ⟨u, h1, h2⟩ := g_lq_mem.mp hq
  have hj : q.1 ≠ i + 1 := by
    intro e
    rw [e] at h1
    have hlt : i + 1 < ((lv.set i (some v)).set (i + 1) none).length := (List.getElem?_eq_some_iff.mp h1).1
    rw [List.getElem?_set_self (by simpa using hlt)] at h1
    simp at h1
  rw [List.getElem?_set_ne (fun e => hj e.symm)] at h1
  by_cases hi : q.1 = i
  · have hlt : i < lv.length := by
      have h3 := (List.getElem?_eq_some_iff.mp h1).1
      rw [hi] at h3
      simpa using h3
    rw [hi, List.getElem?_set_self hlt] at h1
    have e : u = v := by simpa using h1.symm
    subst e
    exact List.mem_cons.mpr (Or.inl (by rw [hw, ← h2, ← hi]))
  · rw [List.getElem?_set_ne (fun e => hi e.symm)] at h1
    refine List.mem_cons.mpr (Or.inr (List.mem_filter.mpr ⟨g_lq_mem.mpr ⟨u, h1, h2⟩, ?_⟩))
    have hc : ¬ (q.1 + 1 = i ∧ q.2.category = 2) := by
      rintro ⟨e, hc⟩
      subst e
      have := g_nl_cat hn h1
      rw [h2, g_v_cat, this] at hc
      omega
    simp only [Bool.and_eq_true, Bool.not_eq_true', beq_eq_false_iff_ne, ne_eq, Bool.and_eq_false_iff]
    refine ⟨hi, hj, ?_⟩
    by_cases e : q.1 + 1 = i
    · exact Or.inr fun z => hc ⟨e, z⟩
    · exact Or.inl e
/-- fewer locals known -/
def g_sub : List (Option Value) → List (Option Value) → Prop
  | [], _ => True
  | none :: l, [] => g_sub l []
  | none :: l, _ :: t => g_sub l t
  | some _ :: _, [] => False
  | some v :: l, o :: t => o = some v ∧ g_sub l t
theorem g_sub_get : ∀ {l t : List (Option Value)}, g_sub l t → ∀ {i : Nat} {v : Value}, l[i]? = some (some v) → t[i]? = some (some v) := by
  intro l
  induction l with
  | nil => intro t _ i v h; simp at h
  | cons o l ih =>
    intro t hs i v h
    cases t with
    | nil =>
      cases o with
      | none =>
        cases i with
        | zero => simp at h
        | succ i =>
          have := ih (t := []) hs (i := i) (v := v) (by simpa using h)
          simp at this
      | some w => exact hs.elim
    | cons u t =>
      cases o with
      | none =>
        cases i with
        | zero => simp at h
        | succ i => simpa using ih (t := t) hs (i := i) (v := v) (by simpa using h)
      | some w =>
        cases i with
        | zero =>
          have e : w = v := by simpa using h
          rw [hs.1, e]
          rfl
        | succ i => simpa using ih (t := t) hs.2 (i := i) (v := v) (by simpa using h)
end
section
/-- the constants outside of the world: texts (1000 + i, their bytes 2000 + i), CELL (3000) -/
def g_K (s : State) (A : Nat → Prop) (ad : Nat → Nat) : Prop :=
  vk_S g_nS g_len g_byt (fun i => ad (1000 + i)) (fun i => ad (2000 + i)) A s s.heap ∧ (∀ r ∈ g_ldc, vk_R r.1 r.2.1 r.2.2.1 (ad (1000 + r.2.2.2)) s) ∧
  va_Z "BandPress" "CELL" "[I" (.ref (ad 3000)) A s s.heap ∧ va_T .int (ad 3000) g_cellN (fun j => .int (g_cell.getD j 0)) A s s.heap ∧ va_Z "java/lang/String" "COMPACT_STRINGS" "Z" (.int 1) A s s.heap ∧ (∀ w ∈ g_N, va_Nw w s) ∧ va_Zq "java/lang/Throwable" "UNASSIGNED_STACK" "[Ljava/lang/StackTraceElement;" A s s.heap ∧ va_Zq "java/lang/Throwable" "SUPPRESSED_SENTINEL" "Ljava/util/List;" A s s.heap
theorem g_Nw_warm {s U : State} (hW : s.WarmedH U.vm) {w : Cond} (hw : w ∈ g_N) (h : va_Nw w s) : va_Nw w U := by
  have hk := (List.mem_filter.mp hw).2
  cases w <;> first | exact va_Nw.warmF hW h | exact va_Nw.warmM hW h | simp [g_isN] at hk
theorem g_K_call {s U : State} {A B : Nat → Prop} {ad : Nat → Nat} {H : Heap} {locs : List Loc} (h : g_K s A ad) (hS : va_S A s.heap H locs) (hU : U.heap = H) (hW : s.WarmedH U.vm) (hB : ∀ q, B q → A q) : g_K U B ad := by
  obtain ⟨h1, h2, h3, h4, h5, h6, h7, h8⟩ := h
  subst hU
  exact ⟨((h1.kept hS.2.1).moved hW.alike).narrow hB, fun r hr => (h2 r hr).warm hW, ((h3.kept hS.2.1).moved hW.alike).narrow hB, ((h4.kept hS.2.1).moved hW.alike).narrow hB, ((h5.kept hS.2.1).moved hW.alike).narrow hB, fun w hw => g_Nw_warm hW hw (h6 w hw), ((h7.kept hS.2.1).moved hW.alike).narrow hB, ((h8.kept hS.2.1).moved hW.alike).narrow hB⟩
theorem g_K_blind {U : State} {A : Nat → Prop} {ad : Nat → Nat} {g : JFrame} {mk : MethodId} {a : Array Value} (h : g_K U A ad) : g_K (U.calling g mk a) A ad := by
  obtain ⟨h1, h2, h3, h4, h5, h6, h7, h8⟩ := h
  exact ⟨vk_S.moved (u := U) (U := U.calling g mk a) (Vm.Alike.refl U.vm) h1, fun r hr => (h2 r hr).same (u := U) rfl, va_Z.moved (u := U) (U := U.calling g mk a) (Vm.Alike.refl U.vm) h3, va_T.moved (u := U) (U := U.calling g mk a) (Vm.Alike.refl U.vm) h4, va_Z.moved (u := U) (U := U.calling g mk a) (Vm.Alike.refl U.vm) h5,
    fun w hw => by
      have hk := (List.mem_filter.mp hw).2
      cases w <;> first | exact va_Nw.same (u := U) rfl rfl (h6 _ hw) | simp [g_isN] at hk, va_Zq.moved (u := U) (U := U.calling g mk a) (Vm.Alike.refl U.vm) h7, va_Zq.moved (u := U) (U := U.calling g mk a) (Vm.Alike.refl U.vm) h8⟩
/-- the tables' words that last -/
theorem g_T_good {w : Cond} (h : w ∈ g_T) : goodWord w = true := (List.mem_filter.mp h).2
def g_ws (M : gM) : List Cond := .code (g_y M) (g_b M) (g_n M) (g_r M) :: g_T
theorem g_goodIn {M : gM} (h : Cond.code (g_y M) (g_b M) (g_n M) (g_r M) ∈ g_T) : GoodIn g_T (g_ws M) := by
  intro w hw
  have hm : w ∈ g_T := by
    rcases List.mem_cons.mp hw with e | e
    · rw [e]; exact h
    · exact e
  exact ⟨hm, good_of_word (g_T_good hm)⟩
def g_sc (M : gM) (s : State) (A : Nat → Prop) (ad : Nat → Nat) : Prop := ∀ r, g_x M = some r → va_X (ad 4000) r.1 r.2 s s.heap ∧ ad 4000 < s.heap.size ∧ ¬ A (ad 4000)
def g_X (p : Program) (l : Launch) (s : State) (m : MethodId) (args : Array Value) (meth : Method) (c : Code) (R : Room) (D : va_G) (A : Nat → Prop) (ad ca : Nat → Nat) (M : gM) : Prop :=
  p.tables.exec = Jvm.exec ∧ c.code = g_b M ∧ meth.sig.returnType = g_r M ∧ c.maxLocals = g_n M ∧ s.vm.findClass (g_y M).cls = some m.cls ∧ meth.locks = false ∧ (∀ w ∈ g_T, w.before args s = true) ∧ R = g_m M ∧
  va_K D g_cl (g_ty ca) s ∧ (∀ q : Nat, s.heap.size ≤ q → A q) ∧ g_K s A ad ∧ meth.name = (g_y M).name ∧ (∀ q : Nat, q < 900 → ad (q + 1) = ad q + 1) ∧ g_sc M s A ad ∧ (∀ (q : Nat) (cell : Cell), A q → s.heap[q]? = some cell → cell.vm.isStatics = false) ∧ l.stackTraces = false ∧ (c.exceptionTable.isEmpty = true ∨ (g_y M).cls = "BandPressLaw")
def g_Y (s : State) (D : va_G) (A : Nat → Prop) (ad ca : Nat → Nat) (M : gM) (Z : gZ) (sg : gS) (lv : List (Option Value)) (H : Heap) (locs : List Loc) (ls : Array Slot) : Prop :=
  va_P D g_cl (g_w ad ca Z.1 sg) H ∧ va_D A (g_w ad ca Z.1 sg) ∧ va_S A s.heap H locs ∧ lv_has ls (g_n M) (g_lq ad lv) ∧ (g_a M = true → s.heap.size + Z.2.1 = ad Z.1.length ∧ Z.1.length ≤ 900 ∧ (Z.1 = [] → Z.2.1 = 0))
/-- how a method ends: it returns, or (later rows) throws the exception of a kind -/
def g_E (ad : Nat → Nat) (o : gO) (oc : Outcome) (t : State) : Prop := match o with
  | .inl r => oc = .returned (r.map (g_v ad))
  | .inr k => g_Ex k oc t
def g_Q (D : va_G) (A : Nat → Prop) (ad ca : Nat → Nat) (al : Bool) (mc : Nat) (Q : gO → List gH → gS → Prop) : Array Value → State → Outcome → State → Prop := fun _ st oc t =>
  (∃ (o : gO) (S : List gH) (sg : gS), g_E ad o oc t ∧ Q o S sg ∧ va_P D g_cl (g_w ad ca S sg) t.heap ∧ va_D A (g_w ad ca S sg) ∧ (al = true → st.heap.size + mc = ad S.length ∧ S.length ≤ 900 ∧ S ≠ [])) ∧ va_F A st t
def gMQ (below : List Frame) (Qc : Array Value → State → Outcome → State → Prop) (a : Array Value) (s : State) (mc ms : Nat) (free : Addr → Prop) : State → Prop := fun t =>
  ∃ o, t.status = .running ∧ Ended t below o ∧ Qc a s o t ∧ ∃ L : List Loc, s.WarmedH t.vm ∧ s.sameButNew ({ t with vm := s.vm } : State) L mc ms ∧ ∀ q ∈ L, free q.base
theorem gMQ_of {below : List Frame} {Qc : Array Value → State → Outcome → State → Prop} {a : Array Value} {s : State} {mc ms : Nat} {free : Addr → Prop} {t : State} (h : MQ below Qc a s mc ms free t) : gMQ below Qc a s mc ms free t := by
  obtain ⟨o, h1, h2, h3, L, ⟨-, hW, hs⟩, hf⟩ := h
  exact ⟨o, h1, h2, h3, L, hW, hs, hf⟩
theorem g_post {p : Program} {l : Launch} {e : Env} {R : Room} {s : State} {m : MethodId} {args : Array Value} {below : List Frame} {meth : Method} {c : Code} {H : Heap} {locs : List Loc} {cells slots : Nat} {Q Q' : State → Prop} {g : JFrame} (h : ∀ t, Q t → Q' t) (k : W p l e R s m args below meth c H locs cells slots Q g) : W p l e R s m args below meth c H locs cells slots Q' g := by
  intro T hT X
  obtain ⟨t, a, b⟩ := k T hT X
  exact ⟨t, a, h t b⟩
/-- THE JUDGEMENT: from pc, with these locals and this stack, the method ends with Q -/
def G (M : gM) (Q : gO → List gH → gS → Prop) (Z : gZ) (sg : gS) (pc : Nat) (lv : List (Option Value)) (st : List Value) : Prop :=
  ∀ (p : Program) (l : Launch) (e : Env) (R : Room) (s : State) (m : MethodId) (args : Array Value) (below : List Frame) (meth : Method) (c : Code) (D : va_G) (A : Nat → Prop) (ad ca : Nat → Nat),
    g_X p l s m args meth c R D A ad ca M → ∀ (H : Heap) (locs : List Loc) (ls : Array Slot), g_Y s D A ad ca M Z sg lv H locs ls →
    W p l e R s m args below meth c H locs Z.2.1 Z.2.2 (gMQ below (g_Q D A ad ca (g_z M) (g_m M).cells Q) args s (g_m M).cells (g_m M).slots A) (F0 m pc ls (st.map (g_v ad)))
/-- THE CONTRACT: called with these arguments on this store -/
def g_P (D : va_G) (ad ca : Nat → Nat) (al : Bool) (S : List gH) (sg : gS) (sz : Nat) (U : State) : Prop :=
  U.heap.size = sz ∧ va_P D g_cl (g_w ad ca S sg) U.heap ∧ va_K D g_cl (g_ty ca) U ∧ va_D (fun _ => True) (g_w ad ca S sg) ∧ g_K U (va_A (g_w ad ca S sg) sz) ad ∧ (∀ q : Nat, q < 900 → ad (q + 1) = ad q + 1) ∧ (al = true → U.heap.size = ad S.length ∧ S.length ≤ 900)
def Ct (M : gM) (S : List gH) (as : List Value) (sg : gS) (Q : gO → List gH → gS → Prop) : Prop :=
  ∀ (l : Launch) (D : va_G) (ad ca : Nat → Nat) (sz : Nat), l.stackTraces = false → Met l (g_y M) (g_ws M) (g_m M) (va_Pc (as.map (g_v ad)) (g_P D ad ca (g_a M) S sg sz)) (g_Q D (va_A (g_w ad ca S sg) sz) ad ca (g_z M) (g_m M).cells Q) (g_m M).cells (g_m M).slots (va_A (g_w ad ca S sg) sz)
theorem g_args (ad : Nat → Nat) : ∀ (as : List Value) (i : Nat), lv_args i (as.map (g_v ad)) = (lv_args i as).map (fun q => (q.1, g_v ad q.2)) := by
  intro as
  induction as with
  | nil => intro i; rfl
  | cons v vs ih =>
    intro i
    simp only [List.map_cons, lv_args, g_v_cat, ih]
theorem g_slen (ad : Nat → Nat) (as : List Value) : (lg_sl (as.map (g_v ad))).length = (lg_sl as).length := by
  induction as with
  | nil => rfl
  | cons v vs ih =>
    simp only [lg_sl, List.map_cons, List.flatMap_cons, List.length_append, g_v_cat] at ih ⊢
    rw [ih]
    split <;> rfl
theorem g_ns {D : va_G} {ws : va_W} {H : Heap} (h : va_P D g_cl ws H) (q : Nat) (hq : va_A ws H.size q) {cell : Cell} (hc : H[q]? = some cell) : cell.vm.isStatics = false := by
  rcases hq with ⟨k, e, hk⟩ | hq
  · have h1 := h k _ hk
    cases e with
    | inl a =>
      have h2 : H[q]? = some (vp_cell a.1 a.2) := h1
      rw [h2] at hc
      cases hc
      obtain ⟨c0, n, f⟩ := a
      rcases f with f | f | f | f | f <;> rfl
    | inr o =>
      obtain ⟨r, -, cell', q1, q2, q3, q4⟩ := h1
      rw [show H[q]? = some cell' from q1] at hc
      cases hc
      rw [q3]
      rfl
  · have := (Array.getElem?_eq_some_iff.mp hc).1
    omega
/-- a contract out of the walk of the body -/
theorem Ct_of {M : gM} {S : List gH} {as : List Value} {sg : gS} {Q : gO → List gH → gS → Prop} (lv : List (Option Value)) (hc : plainName (g_y M).cls = true) (hl : g_lp 0 lv = lv_args 0 as) (hn : (lg_sl as).length ≤ g_n M) (hx : g_x M = none) (hQ : ∀ o S' sg', Q o S' sg' → ∃ r : Option Value, o = .inl r)
    (h : G M Q (S, 0, 0) sg 0 lv []) : Ct M S as sg Q := by
  intro l D ad ca sz hst
  refine Met.ofW (cc := g_b M) (maxL := g_n M) (ret := g_r M) hc rfl ?_
  intro p e s m args below meth c s₁ B hml hv
  obtain ⟨rfl, hsz, hP, hK, hD0, hKK, had, hal⟩ := hv
  subst hsz
  have hts := atoms_spec (ws := g_ws M) B.pre
  have hD := hD0.self (sz := s.heap.size)
  have hen := lv_entry (as.map (g_v ad)) (n := g_n M) (by rw [g_slen]; exact hn)
  rw [lg_entry_eq]
  generalize (lg_sl (as.map (g_v ad)) ++ List.replicate (g_n M - (lg_sl (as.map (g_v ad))).length) Slot.unset).toArray = ls at hen ⊢
  rw [g_args, ← hl] at hen
  refine g_post (fun t ht => ?_) (h p l e _ s m _ below meth c D _ ad ca
    ⟨B.exec, B.bytes, B.returns, hml, findClass_of_methodNamed B.named, B.notSynchronized, fun w hw => hts w (List.mem_cons_of_mem _ hw), rfl, hK, fun q hq => Or.inr hq, hKK, (name_of_methodNamed B.named B.method).1, had, fun r hr => (by rw [hx] at hr; cases hr), fun q cell hq hc => g_ns hP q hq hc, hst, Or.inl (B.noHandlers (hts _ List.mem_cons_self))⟩
    s.heap [] ls ⟨hP, hD, va_S.rf, hen, fun ha => ⟨(hal ha).1, (hal ha).2, fun _ => rfl⟩⟩)
  obtain ⟨o, h1, h2, h3, L, hW, hs, hf⟩ := ht
  obtain ⟨⟨o', S', sg', hE, hq, -⟩, -⟩ := id h3
  obtain ⟨r, rfl⟩ := hQ o' S' sg' hq
  exact ⟨o, h1, h2, h3, L, ⟨⟨_, hE⟩, hW, hs⟩, hf⟩
/-- what is known of a call's link -/
def g_lk (own : String) (idx : Nat) (y : MethodName) : Prop := Cond.methodLink own idx y ∈ g_T ∨ ∃ h : String, Cond.methodLinkNest own idx y h ∈ g_N
def g_mb (M : gM) (n : Nat) : Prop := Cond.initialized (g_y M).cls ∈ g_T ∧ Cond.code (g_y M) (g_b M) (g_n M) (g_r M) ∈ g_T ∧ ((g_y M).cls ≠ "java/lang/invoke/MethodHandle" ∧ (g_y M).cls ≠ "java/lang/invoke/VarHandle" ∧ (parseMethodDescriptor (g_y M).desc).map (fun d => d.parameters.length) = some n)
def g_mv (M : gM) (n : Nat) : Prop := g_mb M n ∧ Cond.instanceMethod (g_y M) ∈ g_T ∧ Cond.selects (g_y M).cls (g_y M) (g_y M) ∈ g_T
def g_ms (M : gM) (n : Nat) : Prop := g_mb M n ∧ Cond.static (g_y M) ∈ g_T
def g_mi (M : gM) (n : Nat) : Prop := g_mb M n ∧ Cond.instanceMethod (g_y M) ∈ g_T ∧ (g_y M).name = "<init>" ∧ g_r M = none
/-- the callee fits in the caller's room -/
def g_ft (M N : gM) (Z : gZ) : Bool := decide ((g_m N).frames + 1 ≤ (g_m M).frames) && decide (8 + (g_n N + 11) + (g_m N).locals ≤ (g_m M).locals) && decide (Z.2.1 + (g_m N).cells ≤ (g_m M).cells) && decide (Z.2.2 + (g_m N).slots ≤ (g_m M).slots)
def g_cr (st : List Value) : Bool := decide ((st.map fun v => v.category).sum ≤ 8)
theorem g_cr_ok {st : List Value} (ad : Nat → Nat) {m : MethodId} {pc : Nat} {ls : Array Slot} {rest : List Value} (h : g_cr st = true) : 2 * (F0 m pc ls rest).monitorRoom + ((st.map (g_v ad)).map fun v => v.category).sum ≤ 8 := by
  refine lv_room ?_
  have e : ((st.map (g_v ad)).map fun v => v.category) = st.map fun v => v.category := by
    rw [List.map_map]
    exact List.map_congr_left fun v _ => g_v_cat ad v
  rw [e]
  exact of_decide_eq_true h
section GC
variable {p : Program} {l : Launch} {e : Env} {R : Room} {s : State} {m : MethodId} {args : Array Value} {below : List Frame} {meth : Method} {c : Code} {D : va_G} {A : Nat → Prop} {ad ca : Nat → Nat} {M N : gM} {Z : gZ} {sg : gS} {pc : Nat} {lv : List (Option Value)} {st : List Value} {Q Q' : gO → List gH → gS → Prop} {as : List Value} {H : Heap} {locs : List Loc} {ls : Array Slot}
theorem g_blind {B : List Value} {S : List gH} {al : Bool} {sz : Nat} : FrameBlind (va_Pc B (g_P D ad ca al S sg sz)) := by
  intro a U g mk q
  obtain ⟨q0, q1, qP, qK, qD, qC, qa, ql⟩ := q
  exact ⟨q0, q1, qP, va_K.moved (u := U) (U := U.calling g mk a) (Vm.Alike.refl U.vm) qK, qD, g_K_blind qC, qa, ql⟩
theorem g_Asub (X : g_X p l s m args meth c R D A ad ca M) (Y : g_Y s D A ad ca M Z sg lv H locs ls) : ∀ q, va_A (g_w ad ca Z.1 sg) H.size q → A q := by
  intro q h
  rcases h with ⟨k, e, h⟩ | h
  · exact Y.2.1.2 k (q, e) h
  · exact X.2.2.2.2.2.2.2.2.2.1 q (Nat.le_trans Y.2.2.1.1 h)
theorem g_sz (X : g_X p l s m args meth c R D A ad ca M) (Y : g_Y s D A ad ca M Z sg lv H locs ls) {T : State} (hT : T.heap = H) (X1 : Stand p l e R s m args below meth c T locs Z.2.1 Z.2.2) (ha : g_a M = true) : H.size = ad Z.1.length := by
  obtain ⟨h1, h2, h3⟩ := Y.2.2.2.2 ha
  have hu := X1.heapSize
  rw [hT, h1] at hu
  by_cases h0 : Z.1 = []
  · have h4 := h3 h0
    have h5 := Y.2.2.1.1
    omega
  · have hlen : 0 < Z.1.length := List.length_pos_iff.mpr h0
    have hlt : Z.1.length - 1 < Z.1.length := by omega
    have hg : Z.1[Z.1.length - 1]? = some (Z.1[Z.1.length - 1]) := List.getElem?_eq_getElem hlt
    have h6 := (Y.1 _ _ (g_w_get hg)).lt
    have h7 := X.2.2.2.2.2.2.2.2.2.2.2.2.1 (Z.1.length - 1) (by omega)
    rw [show Z.1.length - 1 + 1 = Z.1.length by omega] at h7
    have h8 : ad (Z.1.length - 1) < H.size := h6
    omega
theorem g_pre (X : g_X p l s m args meth c R D A ad ca M) (Y : g_Y s D A ad ca M Z sg lv H locs ls) {al : Bool} (hsz : al = true → H.size = ad Z.1.length ∧ Z.1.length ≤ 900) : ∀ U : State, U.heap = H → s.WarmedH U.vm → va_Pc (as.map (g_v ad)) (g_P D ad ca al Z.1 sg H.size) (as.map (g_v ad)).toArray U := by
  intro U hU hW
  refine ⟨rfl, by rw [hU], by rw [hU]; exact Y.1, va_K.moved hW.alike X.2.2.2.2.2.2.2.2.1, Y.2.1.weaken (fun _ _ _ _ => trivial), g_K_call X.2.2.2.2.2.2.2.2.2.2.1 Y.2.2.1 hU hW (g_Asub X Y), X.2.2.2.2.2.2.2.2.2.2.2.2.1, fun h => ?_⟩
  rw [hU]
  exact hsz h
/-- behind a call -/
theorem g_back (X : g_X p l s m args meth c R D A ad ca M) (Y : g_Y s D A ad ca M Z sg lv H locs ls) {a : Array Value} {st0 : List Value} {al : Bool} {mc ms : Nat} (hal : g_a M = true → (al = true ∧ H.size = ad Z.1.length) ∨ (mc = 0 ∧ ∀ (o : gO) (S : List gH) (sg' : gS), Q' o S sg' → S = Z.1))
    (hr : va_Run p l e R s m args below meth c H locs Z.2.1 Z.2.2 mc ms (F0 m pc ls st0) (st.map (g_v ad)) (g_Q D (va_A (g_w ad ca Z.1 sg) H.size) ad ca al mc Q' a) (va_A (g_w ad ca Z.1 sg) H.size))
    (k : ∀ (o : gO) (S : List gH) (sg' : gS), Q' o S sg' → ∃ r : Option Value, o = .inl r ∧ G M Q (S, Z.2.1 + mc, Z.2.2 + ms) sg' (pc + 3) lv (r.toList ++ st)) :
    W p l e R s m args below meth c H locs Z.2.1 Z.2.2 (gMQ below (g_Q D A ad ca (g_z M) (g_m M).cells Q) args s (g_m M).cells (g_m M).slots A) (F0 m pc ls st0) := by
  intro T hT X1
  obtain ⟨v, st₀, t, T', L, h0, X', hL, e1, e2, ⟨⟨o, S, sg', hE, hq, hP, hD, hz⟩, hF⟩, go⟩ := hr T hT X1
  obtain ⟨r, rfl, kG⟩ := k o S sg' hq
  have hv : v = r.map (g_v ad) := by
    have h : Outcome.returned v = .returned (r.map (g_v ad)) := hE
    exact Outcome.returned.inj h
  subst hv
  have hsub := g_Asub X Y
  obtain ⟨hz1, hk1⟩ := hF
  rw [h0] at hz1 hk1
  have hS1 : va_S A s.heap T'.heap (locs ++ L) := ⟨Nat.le_trans Y.2.2.1.1 (by rw [e1]; exact hz1), fun q h1 h2 => by
      rw [e1, hk1 q (Nat.lt_of_lt_of_le h1 Y.2.2.1.1) (fun z => h2 (hsub q z))]
      exact Y.2.2.1.2.1 q h1 h2, fun q hq => by
      rcases List.mem_append.mp hq with h | h
      · exact Y.2.2.1.2.2 q h
      · exact hsub _ (hL q h)⟩
  have hst : (r.map (g_v ad)).toList ++ st.map (g_v ad) = (r.toList ++ st).map (g_v ad) := by cases r <;> simp
  obtain ⟨t2, a1, b1⟩ := kG p l e R s m args below meth c D A ad ca X T'.heap (locs ++ L) ls ⟨by rw [e1]; exact hP, hD.weaken (fun _ _ _ h => hsub _ h), hS1, Y.2.2.2.1, fun ha => by
      obtain ⟨h6, h7, h8⟩ := Y.2.2.2.2 ha
      rcases hal ha with ⟨h1, h2⟩ | ⟨h1, h2⟩
      · obtain ⟨h3, h4, h5⟩ := hz h1
        rw [h0] at h3
        exact ⟨by show s.heap.size + (Z.2.1 + mc) = ad S.length; omega, h4, fun h => absurd h h5⟩
      · have hS := h2 _ _ _ hq
        refine ⟨?_, by show S.length ≤ 900; rw [hS]; exact h7, fun h => ?_⟩
        · show s.heap.size + (Z.2.1 + mc) = ad S.length
          rw [hS, h1]
          exact h6
        · show Z.2.1 + mc = 0
          have := h8 (hS ▸ h)
          omega⟩ T' rfl X'
  refine ⟨t2, go t2 ?_, b1⟩
  rw [← hst] at a1
  exact a1
theorem g_bit (h : g_ft M N Z = true) (hR : R = g_m M) : ((g_m N).frames + 1 ≤ R.frames ∧ 8 + (g_n N + 11) + (g_m N).locals ≤ R.locals) ∧ Z.2.1 + (g_m N).cells ≤ R.cells ∧ Z.2.2 + (g_m N).slots ≤ R.slots := by
  subst hR
  simp only [g_ft, Bool.and_eq_true, decide_eq_true_eq] at h
  exact ⟨⟨h.1.1.1, h.1.1.2⟩, h.1.2, h.2⟩
end GC
section GCALL
variable {M N : gM} {Z : gZ} {sg : gS} {pc : Nat} {lv : List (Option Value)} {st : List Value} {Q Q' : gO → List gH → gS → Prop} {as stk : List Value} {idx n : Nat}
theorem G_cV {b ci : Nat} {fl : List gF} (hc : Ct N Z.1 (.ref b :: as) sg Q') (hd : decode (g_b M) pc = .ok (.invokevirtual idx, 3)) (hlk : g_lk (g_y M).cls idx (g_y N)) (hm : g_mv N n) (hn : as.length = n) (hS : Z.1[b]? = some (.inr (ci, fl))) (hci : (g_cl[ci]?).map (fun q => q.1) = some (g_y N).cls)
    (hft : g_ft M N Z = true) (hcr : g_cr st = true) (hal : (g_a N = true → g_a M = true) ∧ (g_a M = true → g_z N = true ∨ ((g_m N).cells = 0 ∧ ∀ (o : gO) (S : List gH) (sg' : gS), Q' o S sg' → S = Z.1))) (hs : stk = as.reverse ++ .ref b :: st)
    (k : ∀ (o : gO) (S : List gH) (sg' : gS), Q' o S sg' → ∃ r : Option Value, o = .inl r ∧ G M Q (S, Z.2.1 + (g_m N).cells, Z.2.2 + (g_m N).slots) sg' (pc + 3) lv (r.toList ++ st)) : G M Q Z sg pc lv stk := by
  intro p l e R s m args below meth c D A ad ca X H locs ls Y
  subst hs
  have hst : (as.reverse ++ .ref b :: st).map (g_v ad) = (as.map (g_v ad)).reverse ++ .ref (ad b) :: st.map (g_v ad) := by simp [g_v]
  obtain ⟨hR1, hR2⟩ := g_bit (N := N) hft X.2.2.2.2.2.2.2.1
  have hts := X.2.2.2.2.2.2.1
  have hal2 : g_a N = true → g_a M = true := hal.1
  have hcell : ∃ cellB : Cell, H[ad b]? = some cellB ∧ cellB.vm.isStatics = false ∧ s.vm.findClass (g_y N).cls = some cellB.cls := by
    obtain ⟨r, h1, cell, q1, q2, q3, q4⟩ := Y.1 b _ (g_w_get hS)
    obtain ⟨hSl, hfc, kC, hkC, hkind⟩ := X.2.2.2.2.2.2.2.2.1.1 ci _ h1
    rw [h1] at hci
    have e : r.1 = (g_y N).cls := by simpa using hci
    exact ⟨cell, q1, by rw [q3]; rfl, by rw [← e, q2]; exact hfc⟩
  obtain ⟨⟨hini, hcode, hd2⟩, hinst, hsel⟩ := hm
  intro T hT X1
  have hpre : PreV s H (g_y N).cls (ad b) (va_Pc ((.ref b :: as).map (g_v ad)) (g_P D ad ca (g_a N) Z.1 sg H.size)) (as.map (g_v ad)) := ⟨g_blind, hcell, g_pre (as := .ref b :: as) X Y (fun ha => ⟨g_sz X Y hT X1 (hal2 ha), (Y.2.2.2.2 (hal2 ha)).2.1⟩)⟩
  rw [hst]
  rcases hlk with hl | ⟨h, hl⟩
  · refine g_back (al := g_z N) X Y (fun ha => (hal.2 ha).imp (fun h => ⟨h, g_sz X Y hT X1 ha⟩) id) (va_runV (As := as.map (g_v ad)) (rest := st.map (g_v ad)) (C := (g_y N).cls) ⟨X.1, X.2.1, X.2.2.2.1, X.2.2.2.2.1, hts⟩ (hc l D ad ca H.size X.2.2.2.2.2.2.2.2.2.2.2.2.2.2.2.1) ⟨callB_of n hts (g_goodIn hcode) rfl rfl rfl (hts _ hini) (hts _ hl) hd2 hR1, hts _ hinst, hts _ hsel⟩ hpre rfl (by simpa using hn) Y.2.2.2.1.1 rfl (g_cr_ok ad hcr) hd hR2) k T hT X1
  · refine g_back (al := g_z N) X Y (fun ha => (hal.2 ha).imp (fun h => ⟨h, g_sz X Y hT X1 ha⟩) id) (va_runVN (As := as.map (g_v ad)) (rest := st.map (g_v ad)) (C := (g_y N).cls) ⟨X.1, X.2.1, X.2.2.2.1, X.2.2.2.2.1, hts⟩ (hc l D ad ca H.size X.2.2.2.2.2.2.2.2.2.2.2.2.2.2.2.1) ⟨va_cnB n hts (g_goodIn hcode) rfl rfl rfl (X.2.2.2.2.2.2.2.2.2.2.1.2.2.2.2.2.1 _ hl) (hts _ hini) hd2 hR1, hts _ hinst, hts _ hsel⟩ hpre rfl (by simpa using hn) Y.2.2.2.1.1 rfl (g_cr_ok ad hcr) hd hR2) k T hT X1
theorem G_cS (hc : Ct N Z.1 as sg Q') (hd : decode (g_b M) pc = .ok (.invokestatic idx, 3)) (hlk : g_lk (g_y M).cls idx (g_y N)) (hm : g_ms N n) (hn : as.length = n)
    (hft : g_ft M N Z = true) (hcr : g_cr st = true) (hal : (g_a N = true → g_a M = true) ∧ (g_a M = true → g_z N = true ∨ ((g_m N).cells = 0 ∧ ∀ (o : gO) (S : List gH) (sg' : gS), Q' o S sg' → S = Z.1))) (hs : stk = as.reverse ++ st)
    (k : ∀ (o : gO) (S : List gH) (sg' : gS), Q' o S sg' → ∃ r : Option Value, o = .inl r ∧ G M Q (S, Z.2.1 + (g_m N).cells, Z.2.2 + (g_m N).slots) sg' (pc + 3) lv (r.toList ++ st)) : G M Q Z sg pc lv stk := by
  intro p l e R s m args below meth c D A ad ca X H locs ls Y
  subst hs
  have hst : (as.reverse ++ st).map (g_v ad) = (as.map (g_v ad)).reverse ++ st.map (g_v ad) := by simp
  obtain ⟨hR1, hR2⟩ := g_bit (N := N) hft X.2.2.2.2.2.2.2.1
  have hts := X.2.2.2.2.2.2.1
  have hal2 : g_a N = true → g_a M = true := hal.1
  obtain ⟨⟨hini, hcode, hd2⟩, hstat⟩ := hm
  intro T hT X1
  have hpre : PreS s H (va_Pc (as.map (g_v ad)) (g_P D ad ca (g_a N) Z.1 sg H.size)) (as.map (g_v ad)) := ⟨g_blind, g_pre X Y (fun ha => ⟨g_sz X Y hT X1 (hal2 ha), (Y.2.2.2.2 (hal2 ha)).2.1⟩)⟩
  rw [hst]
  rcases hlk with hl | ⟨h, hl⟩
  · refine g_back (al := g_z N) X Y (fun ha => (hal.2 ha).imp (fun h => ⟨h, g_sz X Y hT X1 ha⟩) id) (va_runS (As := as.map (g_v ad)) (rest := st.map (g_v ad)) ⟨X.1, X.2.1, X.2.2.2.1, X.2.2.2.2.1, hts⟩ (hc l D ad ca H.size X.2.2.2.2.2.2.2.2.2.2.2.2.2.2.2.1) ⟨callB_of n hts (g_goodIn hcode) rfl rfl rfl (hts _ hini) (hts _ hl) hd2 hR1, hts _ hstat⟩ hpre rfl (by simpa using hn) Y.2.2.2.1.1 rfl (g_cr_ok ad hcr) hd hR2) k T hT X1
  · refine g_back (al := g_z N) X Y (fun ha => (hal.2 ha).imp (fun h => ⟨h, g_sz X Y hT X1 ha⟩) id) (va_runSN (As := as.map (g_v ad)) (rest := st.map (g_v ad)) ⟨X.1, X.2.1, X.2.2.2.1, X.2.2.2.2.1, hts⟩ (hc l D ad ca H.size X.2.2.2.2.2.2.2.2.2.2.2.2.2.2.2.1) ⟨va_cnB n hts (g_goodIn hcode) rfl rfl rfl (X.2.2.2.2.2.2.2.2.2.2.1.2.2.2.2.2.1 _ hl) (hts _ hini) hd2 hR1, hts _ hstat, trivial⟩ hpre rfl (by simpa using hn) Y.2.2.2.1.1 rfl (g_cr_ok ad hcr) hd hR2) k T hT X1
theorem G_cI {b : Nat} (hc : Ct N Z.1 (.ref b :: as) sg Q') (hd : decode (g_b M) pc = .ok (.invokespecial idx, 3)) (hlk : g_lk (g_y M).cls idx (g_y N)) (hm : g_mi N n) (hn : as.length = n)
    (hft : g_ft M N Z = true) (hcr : g_cr st = true) (hal : (g_a N = true → g_a M = true) ∧ (g_a M = true → g_z N = true ∨ ((g_m N).cells = 0 ∧ ∀ (o : gO) (S : List gH) (sg' : gS), Q' o S sg' → S = Z.1))) (hs : stk = as.reverse ++ .ref b :: st)
    (k : ∀ (o : gO) (S : List gH) (sg' : gS), Q' o S sg' → ∃ r : Option Value, o = .inl r ∧ G M Q (S, Z.2.1 + (g_m N).cells, Z.2.2 + (g_m N).slots) sg' (pc + 3) lv (r.toList ++ st)) : G M Q Z sg pc lv stk := by
  intro p l e R s m args below meth c D A ad ca X H locs ls Y
  subst hs
  have hst : (as.reverse ++ .ref b :: st).map (g_v ad) = (as.map (g_v ad)).reverse ++ .ref (ad b) :: st.map (g_v ad) := by simp [g_v]
  obtain ⟨hR1, hR2⟩ := g_bit (N := N) hft X.2.2.2.2.2.2.2.1
  have hts := X.2.2.2.2.2.2.1
  have hal2 : g_a N = true → g_a M = true := hal.1
  obtain ⟨⟨hini, hcode, hd2⟩, hinst, hnm, hret⟩ := hm
  intro T hT X1
  have hpre : PreS s H (va_Pc ((.ref b :: as).map (g_v ad)) (g_P D ad ca (g_a N) Z.1 sg H.size)) (.ref (ad b) :: as.map (g_v ad)) := ⟨g_blind, g_pre (as := .ref b :: as) X Y (fun ha => ⟨g_sz X Y hT X1 (hal2 ha), (Y.2.2.2.2 (hal2 ha)).2.1⟩)⟩
  rw [hst]
  have hgi := g_goodIn hcode
  rcases hlk with hl | ⟨h, hl⟩
  · refine g_back (al := g_z N) X Y (fun ha => (hal.2 ha).imp (fun h => ⟨h, g_sz X Y hT X1 ha⟩) id) (va_runI (As := as.map (g_v ad)) (rest := st.map (g_v ad)) (bytes := g_b N) (maxL := g_n N) ⟨X.1, X.2.1, X.2.2.2.1, X.2.2.2.2.1, hts⟩ (hc l D ad ca H.size X.2.2.2.2.2.2.2.2.2.2.2.2.2.2.2.1) ⟨by rw [← hret]; exact callB_of n hts hgi rfl rfl rfl (hts _ hini) (hts _ hl) hd2 hR1, hnm, hts _ hinst⟩ hpre rfl (by simpa using hn) Y.2.2.2.1.1 rfl (g_cr_ok ad hcr) hd hR2) k T hT X1
  · refine g_back (al := g_z N) X Y (fun ha => (hal.2 ha).imp (fun h => ⟨h, g_sz X Y hT X1 ha⟩) id) (va_runIN (As := as.map (g_v ad)) (rest := st.map (g_v ad)) (bytes := g_b N) (maxL := g_n N) ⟨X.1, X.2.1, X.2.2.2.1, X.2.2.2.2.1, hts⟩ (hc l D ad ca H.size X.2.2.2.2.2.2.2.2.2.2.2.2.2.2.2.1) ⟨by rw [← hret]; exact va_cnB n hts hgi rfl rfl rfl (X.2.2.2.2.2.2.2.2.2.2.1.2.2.2.2.2.1 _ hl) (hts _ hini) hd2 hR1, hnm, hts _ hinst⟩ hpre rfl (by simpa using hn) Y.2.2.2.1.1 rfl (g_cr_ok ad hcr) hd hR2) k T hT X1
end GCALL
def g_c0 (N : gM) : Bool := decide ((g_m N).cells = 0) && decide ((g_m N).slots = 0)
theorem g_c0_eq {N : gM} (h : g_c0 N = true) : (g_m N).cells = 0 ∧ (g_m N).slots = 0 := by
  simpa [g_c0] using h
end
section
section GR
variable {M : gM} {Q : gO → List gH → gS → Prop} {Z : gZ} {sg : gS} {pc : Nat} {lv : List (Option Value)} {st : List Value}
theorem gi_eq {a : Int32} {z : Int} (h : a = Int32.ofInt z) : Value.int a = gi z := by rw [h]; rfl
theorem gl_eq {a : Int64} {z : Int} (h : a = Int64.ofInt z) : Value.long a = gl z := by rw [h]; rfl
theorem G_iconst {n : Int} (hd : decode (g_b M) pc = .ok (.iconst n, 1)) (k : G M Q Z sg (pc + 1) lv (gi n :: st)) : G M Q Z sg pc lv st :=
  fun p l e R s m args below meth c D A ad ca X H locs ls Y => lv_iconst X.1 X.2.1 hd rfl (k p l e R s m args below meth c D A ad ca X H locs ls Y)
theorem G_bipush {n : Int} (hd : decode (g_b M) pc = .ok (.bipush n, 2)) (hv : (Int8.ofInt n).toInt32 = Int32.ofInt n) (k : G M Q Z sg (pc + 2) lv (gi n :: st)) : G M Q Z sg pc lv st :=
  fun p l e R s m args below meth c D A ad ca X H locs ls Y => lv_bipush X.1 X.2.1 hd hv (k p l e R s m args below meth c D A ad ca X H locs ls Y)
theorem G_sipush {n : Int} (hd : decode (g_b M) pc = .ok (.sipush n, 3)) (hv : (Int16.ofInt n).toInt32 = Int32.ofInt n) (k : G M Q Z sg (pc + 3) lv (gi n :: st)) : G M Q Z sg pc lv st :=
  fun p l e R s m args below meth c D A ad ca X H locs ls Y => lv_sipush X.1 X.2.1 hd hv (k p l e R s m args below meth c D A ad ca X H locs ls Y)
theorem G_lconst {n : Fin 2} {z : Int} (hd : decode (g_b M) pc = .ok (.lconst n, 1)) (hv : Int64.ofNat (n : Nat) = Int64.ofInt z) (k : G M Q Z sg (pc + 1) lv (gl z :: st)) : G M Q Z sg pc lv st :=
  fun p l e R s m args below meth c D A ad ca X H locs ls Y => lv_lconst X.1 X.2.1 hd hv (k p l e R s m args below meth c D A ad ca X H locs ls Y)
theorem G_ldc {idx : Nat} {v : Int32} {z : Int} (hd : decode (g_b M) pc = .ok (.ldc idx, 2)) (hw : Cond.constant (g_y M).cls idx v ∈ g_T) (hv : v = Int32.ofInt z) (k : G M Q Z sg (pc + 2) lv (gi z :: st)) : G M Q Z sg pc lv st :=
  fun p l e R s m args below meth c D A ad ca X H locs ls Y => lv_ldc X.1 X.2.1 X.2.2.2.2.1 (X.2.2.2.2.2.2.1 _ hw) hd (by rw [gi_eq hv]; exact k p l e R s m args below meth c D A ad ca X H locs ls Y)
theorem G_ldc_w {idx : Nat} {v : Int32} {z : Int} (hd : decode (g_b M) pc = .ok (.ldc_w idx, 3)) (hw : Cond.constant (g_y M).cls idx v ∈ g_T) (hv : v = Int32.ofInt z) (k : G M Q Z sg (pc + 3) lv (gi z :: st)) : G M Q Z sg pc lv st :=
  fun p l e R s m args below meth c D A ad ca X H locs ls Y => lv_ldcw X.1 X.2.1 X.2.2.2.2.1 (X.2.2.2.2.2.2.1 _ hw) hd (by rw [gi_eq hv]; exact k p l e R s m args below meth c D A ad ca X H locs ls Y)
theorem G_ldc2 {idx : Nat} {v : Int64} {z : Int} (hd : decode (g_b M) pc = .ok (.ldc2_w idx, 3)) (hw : Cond.constantLong (g_y M).cls idx v ∈ g_T) (hv : v = Int64.ofInt z) (k : G M Q Z sg (pc + 3) lv (gl z :: st)) : G M Q Z sg pc lv st :=
  fun p l e R s m args below meth c D A ad ca X H locs ls Y => lv_ldc2 X.1 X.2.1 X.2.2.2.2.1 (X.2.2.2.2.2.2.1 _ hw) hd (by rw [gl_eq hv]; exact k p l e R s m args below meth c D A ad ca X H locs ls Y)
theorem G_iload_n {j : Fin 4} {i : Nat} {x : Int} (hd : decode (g_b M) pc = .ok (.iload_n j, 1)) (hj : (j : Nat) = i) (hi : lv[i]? = some (some (gi x))) (k : G M Q Z sg (pc + 1) lv (gi x :: st)) : G M Q Z sg pc lv st :=
  fun p l e R s m args below meth c D A ad ca X H locs ls Y => lv_iload_n X.1 X.2.1 hd hj (g_rd Y.2.2.2.1 hi) (k p l e R s m args below meth c D A ad ca X H locs ls Y)
theorem G_iload {i : Nat} {x : Int} (hd : decode (g_b M) pc = .ok (.iload i, 2)) (hi : lv[i]? = some (some (gi x))) (k : G M Q Z sg (pc + 2) lv (gi x :: st)) : G M Q Z sg pc lv st :=
  fun p l e R s m args below meth c D A ad ca X H locs ls Y => lv_iload X.1 X.2.1 hd (g_rd Y.2.2.2.1 hi) (k p l e R s m args below meth c D A ad ca X H locs ls Y)
theorem G_lload_n {j : Fin 4} {i : Nat} {x : Int} (hd : decode (g_b M) pc = .ok (.lload_n j, 1)) (hj : (j : Nat) = i) (hi : lv[i]? = some (some (gl x))) (k : G M Q Z sg (pc + 1) lv (gl x :: st)) : G M Q Z sg pc lv st :=
  fun p l e R s m args below meth c D A ad ca X H locs ls Y => lv_lload_n X.1 X.2.1 hd hj (g_rd Y.2.2.2.1 hi) (k p l e R s m args below meth c D A ad ca X H locs ls Y)
theorem G_lload {i : Nat} {x : Int} (hd : decode (g_b M) pc = .ok (.lload i, 2)) (hi : lv[i]? = some (some (gl x))) (k : G M Q Z sg (pc + 2) lv (gl x :: st)) : G M Q Z sg pc lv st :=
  fun p l e R s m args below meth c D A ad ca X H locs ls Y => lv_lload X.1 X.2.1 hd (g_rd Y.2.2.2.1 hi) (k p l e R s m args below meth c D A ad ca X H locs ls Y)
theorem G_aload_n {j : Fin 4} {i : Nat} {x : Nat} (hd : decode (g_b M) pc = .ok (.aload_n j, 1)) (hj : (j : Nat) = i) (hi : lv[i]? = some (some (Value.ref x))) (k : G M Q Z sg (pc + 1) lv (Value.ref x :: st)) : G M Q Z sg pc lv st :=
  fun p l e R s m args below meth c D A ad ca X H locs ls Y => lv_aload_n X.1 X.2.1 hd hj (g_rd Y.2.2.2.1 hi) (k p l e R s m args below meth c D A ad ca X H locs ls Y)
theorem G_aload {i : Nat} {x : Nat} (hd : decode (g_b M) pc = .ok (.aload i, 2)) (hi : lv[i]? = some (some (Value.ref x))) (k : G M Q Z sg (pc + 2) lv (Value.ref x :: st)) : G M Q Z sg pc lv st :=
  fun p l e R s m args below meth c D A ad ca X H locs ls Y => lv_aload X.1 X.2.1 hd (g_rd Y.2.2.2.1 hi) (k p l e R s m args below meth c D A ad ca X H locs ls Y)
theorem G_istore_n {j : Fin 4} {i : Nat} {x : Int} {lv' : List (Option Value)} (hd : decode (g_b M) pc = .ok (.istore_n j, 1)) (hj : (j : Nat) = i) (hn : i < g_n M) (ho : g_nl lv i = true) (hl : lv.set i (some (gi x)) = lv') (k : G M Q Z sg (pc + 1) lv' st) : G M Q Z sg pc lv (gi x :: st) := by
  subst hl
  exact fun p l e R s m args below meth c D A ad ca X H locs ls Y => lv_istore_n X.1 X.2.1 hd hj Y.2.2.2.1 hn rfl fun ls' h => k p l e R s m args below meth c D A ad ca X H locs ls' ⟨Y.1, Y.2.1, Y.2.2.1, g_set1 rfl ho h, Y.2.2.2.2⟩
theorem G_istore {i : Nat} {x : Int} {lv' : List (Option Value)} (hd : decode (g_b M) pc = .ok (.istore i, 2)) (hn : i < g_n M) (ho : g_nl lv i = true) (hl : lv.set i (some (gi x)) = lv') (k : G M Q Z sg (pc + 2) lv' st) : G M Q Z sg pc lv (gi x :: st) := by
  subst hl
  exact fun p l e R s m args below meth c D A ad ca X H locs ls Y => lv_istore X.1 X.2.1 hd Y.2.2.2.1 hn rfl fun ls' h => k p l e R s m args below meth c D A ad ca X H locs ls' ⟨Y.1, Y.2.1, Y.2.2.1, g_set1 rfl ho h, Y.2.2.2.2⟩
theorem G_astore_n {j : Fin 4} {i : Nat} {x : Nat} {lv' : List (Option Value)} (hd : decode (g_b M) pc = .ok (.astore_n j, 1)) (hj : (j : Nat) = i) (hn : i < g_n M) (ho : g_nl lv i = true) (hl : lv.set i (some (Value.ref x)) = lv') (k : G M Q Z sg (pc + 1) lv' st) : G M Q Z sg pc lv (Value.ref x :: st) := by
  subst hl
  exact fun p l e R s m args below meth c D A ad ca X H locs ls Y => lv_astore_n X.1 X.2.1 hd hj Y.2.2.2.1 hn rfl fun ls' h => k p l e R s m args below meth c D A ad ca X H locs ls' ⟨Y.1, Y.2.1, Y.2.2.1, g_set1 rfl ho h, Y.2.2.2.2⟩
theorem G_astore {i : Nat} {x : Nat} {lv' : List (Option Value)} (hd : decode (g_b M) pc = .ok (.astore i, 2)) (hn : i < g_n M) (ho : g_nl lv i = true) (hl : lv.set i (some (Value.ref x)) = lv') (k : G M Q Z sg (pc + 2) lv' st) : G M Q Z sg pc lv (Value.ref x :: st) := by
  subst hl
  exact fun p l e R s m args below meth c D A ad ca X H locs ls Y => lv_astore X.1 X.2.1 hd Y.2.2.2.1 hn rfl fun ls' h => k p l e R s m args below meth c D A ad ca X H locs ls' ⟨Y.1, Y.2.1, Y.2.2.1, g_set1 rfl ho h, Y.2.2.2.2⟩
theorem G_lstore_n {j : Fin 4} {i : Nat} {x : Int} {lv' : List (Option Value)} (hd : decode (g_b M) pc = .ok (.lstore_n j, 1)) (hj : (j : Nat) = i) (hn : i + 1 < g_n M) (ho : g_nl lv i = true) (hl : (lv.set i (some (gl x))).set (i + 1) none = lv') (k : G M Q Z sg (pc + 1) lv' st) : G M Q Z sg pc lv (gl x :: st) := by
  subst hl
  exact fun p l e R s m args below meth c D A ad ca X H locs ls Y => lv_lstore_n X.1 X.2.1 hd hj Y.2.2.2.1 hn rfl fun ls' h => k p l e R s m args below meth c D A ad ca X H locs ls' ⟨Y.1, Y.2.1, Y.2.2.1, g_set2 rfl ho h, Y.2.2.2.2⟩
theorem G_lstore {i : Nat} {x : Int} {lv' : List (Option Value)} (hd : decode (g_b M) pc = .ok (.lstore i, 2)) (hn : i + 1 < g_n M) (ho : g_nl lv i = true) (hl : (lv.set i (some (gl x))).set (i + 1) none = lv') (k : G M Q Z sg (pc + 2) lv' st) : G M Q Z sg pc lv (gl x :: st) := by
  subst hl
  exact fun p l e R s m args below meth c D A ad ca X H locs ls Y => lv_lstore X.1 X.2.1 hd Y.2.2.2.1 hn rfl fun ls' h => k p l e R s m args below meth c D A ad ca X H locs ls' ⟨Y.1, Y.2.1, Y.2.2.1, g_set2 rfl ho h, Y.2.2.2.2⟩
theorem G_iinc {i : Nat} {n x : Int} {lv' : List (Option Value)} (hd : decode (g_b M) pc = .ok (.iinc i n, 3)) (hi : lv[i]? = some (some (gi x))) (hn : i < g_n M) (ho : g_nl lv i = true) (hl : lv.set i (some (gi (x + n))) = lv') (k : G M Q Z sg (pc + 3) lv' st) : G M Q Z sg pc lv st := by
  subst hl
  intro p l e R s m args below meth c D A ad ca X H locs ls Y
  obtain ⟨j, hj⟩ := List.getElem?_of_mem (g_lq_mem (ad := ad) (q := (i, gi x)) |>.mpr ⟨gi x, hi, rfl⟩)
  exact lv_iinc X.1 X.2.1 hd Y.2.2.2.1 hj rfl hn rfl fun ls' h => k p l e R s m args below meth c D A ad ca X H locs ls' ⟨Y.1, Y.2.1, Y.2.2.1, g_set1 (v := gi (x + n)) (by rw [← Int32.ofInt_add]; rfl) ho h, Y.2.2.2.2⟩
theorem G_sub {lv' : List (Option Value)} (hs : g_sub lv' lv) (k : G M Q Z sg pc lv' st) : G M Q Z sg pc lv st :=
  fun p l e R s m args below meth c D A ad ca X H locs ls Y => k p l e R s m args below meth c D A ad ca X H locs ls ⟨Y.1, Y.2.1, Y.2.2.1, g_lw Y.2.2.2.1 (fun q hq => by
    obtain ⟨v, h1, h2⟩ := g_lq_mem.mp hq
    exact g_lq_mem.mpr ⟨v, g_sub_get hs h1, h2⟩), Y.2.2.2.2⟩
theorem G_iadd {x y : Int} (hd : decode (g_b M) pc = .ok (.iadd, 1)) (k : G M Q Z sg (pc + 1) lv (gi (x + y) :: st)) : G M Q Z sg pc lv (gi y :: gi x :: st) :=
  fun p l e R s m args below meth c D A ad ca X H locs ls Y => lv_iadd (x := Int32.ofInt x) (y := Int32.ofInt y) X.1 X.2.1 hd (by rw [gi_eq (z := x + y) ((Int32.ofInt_add x y).symm)]; exact k p l e R s m args below meth c D A ad ca X H locs ls Y)
theorem G_isub {x y : Int} (hd : decode (g_b M) pc = .ok (.isub, 1)) (k : G M Q Z sg (pc + 1) lv (gi (x - y) :: st)) : G M Q Z sg pc lv (gi y :: gi x :: st) :=
  fun p l e R s m args below meth c D A ad ca X H locs ls Y => lv_isub (x := Int32.ofInt x) (y := Int32.ofInt y) X.1 X.2.1 hd (by rw [gi_eq (z := x - y) ((Int32.ofInt_sub x y).symm)]; exact k p l e R s m args below meth c D A ad ca X H locs ls Y)
theorem G_imul {x y : Int} (hd : decode (g_b M) pc = .ok (.imul, 1)) (k : G M Q Z sg (pc + 1) lv (gi (x * y) :: st)) : G M Q Z sg pc lv (gi y :: gi x :: st) :=
  fun p l e R s m args below meth c D A ad ca X H locs ls Y => lv_imul (x := Int32.ofInt x) (y := Int32.ofInt y) X.1 X.2.1 hd (by rw [gi_eq (z := x * y) ((Int32.ofInt_mul x y).symm)]; exact k p l e R s m args below meth c D A ad ca X H locs ls Y)
theorem G_ladd {x y : Int} (hd : decode (g_b M) pc = .ok (.ladd, 1)) (k : G M Q Z sg (pc + 1) lv (gl (x + y) :: st)) : G M Q Z sg pc lv (gl y :: gl x :: st) :=
  fun p l e R s m args below meth c D A ad ca X H locs ls Y => lv_ladd (x := Int64.ofInt x) (y := Int64.ofInt y) X.1 X.2.1 hd (by rw [gl_eq (z := x + y) ((Int64.ofInt_add x y).symm)]; exact k p l e R s m args below meth c D A ad ca X H locs ls Y)
theorem G_lsub {x y : Int} (hd : decode (g_b M) pc = .ok (.lsub, 1)) (k : G M Q Z sg (pc + 1) lv (gl (x - y) :: st)) : G M Q Z sg pc lv (gl y :: gl x :: st) :=
  fun p l e R s m args below meth c D A ad ca X H locs ls Y => lv_lsub (x := Int64.ofInt x) (y := Int64.ofInt y) X.1 X.2.1 hd (by rw [gl_eq (z := x - y) ((Int64.ofInt_sub x y).symm)]; exact k p l e R s m args below meth c D A ad ca X H locs ls Y)
theorem G_lmul {x y : Int} (hd : decode (g_b M) pc = .ok (.lmul, 1)) (k : G M Q Z sg (pc + 1) lv (gl (x * y) :: st)) : G M Q Z sg pc lv (gl y :: gl x :: st) :=
  fun p l e R s m args below meth c D A ad ca X H locs ls Y => lv_lmul (x := Int64.ofInt x) (y := Int64.ofInt y) X.1 X.2.1 hd (by rw [gl_eq (z := x * y) ((Int64.ofInt_mul x y).symm)]; exact k p l e R s m args below meth c D A ad ca X H locs ls Y)
theorem G_iand {x y : Int} (hd : decode (g_b M) pc = .ok (.iand, 1)) (k : G M Q Z sg (pc + 1) lv (gi (i_and x y) :: st)) : G M Q Z sg pc lv (gi y :: gi x :: st) :=
  fun p l e R s m args below meth c D A ad ca X H locs ls Y => lv_iand (x := Int32.ofInt x) (y := Int32.ofInt y) X.1 X.2.1 hd (by rw [gi_eq (z := i_and x y) ((Int32.ofInt_toInt _).symm)]; exact k p l e R s m args below meth c D A ad ca X H locs ls Y)
theorem G_land {x y : Int} (hd : decode (g_b M) pc = .ok (.land, 1)) (k : G M Q Z sg (pc + 1) lv (gl (l_and x y) :: st)) : G M Q Z sg pc lv (gl y :: gl x :: st) :=
  fun p l e R s m args below meth c D A ad ca X H locs ls Y => lv_land (x := Int64.ofInt x) (y := Int64.ofInt y) X.1 X.2.1 hd (by rw [gl_eq (z := l_and x y) ((Int64.ofInt_toInt _).symm)]; exact k p l e R s m args below meth c D A ad ca X H locs ls Y)
theorem G_ior {x y : Int} (hd : decode (g_b M) pc = .ok (.ior, 1)) (k : G M Q Z sg (pc + 1) lv (gi (i_or x y) :: st)) : G M Q Z sg pc lv (gi y :: gi x :: st) :=
  fun p l e R s m args below meth c D A ad ca X H locs ls Y => lv_ior (x := Int32.ofInt x) (y := Int32.ofInt y) X.1 X.2.1 hd (by rw [gi_eq (z := i_or x y) ((Int32.ofInt_toInt _).symm)]; exact k p l e R s m args below meth c D A ad ca X H locs ls Y)
theorem G_lor {x y : Int} (hd : decode (g_b M) pc = .ok (.lor, 1)) (k : G M Q Z sg (pc + 1) lv (gl (l_or x y) :: st)) : G M Q Z sg pc lv (gl y :: gl x :: st) :=
  fun p l e R s m args below meth c D A ad ca X H locs ls Y => lv_lor (x := Int64.ofInt x) (y := Int64.ofInt y) X.1 X.2.1 hd (by rw [gl_eq (z := l_or x y) ((Int64.ofInt_toInt _).symm)]; exact k p l e R s m args below meth c D A ad ca X H locs ls Y)
theorem G_ixor {x y : Int} (hd : decode (g_b M) pc = .ok (.ixor, 1)) (k : G M Q Z sg (pc + 1) lv (gi (i_xor x y) :: st)) : G M Q Z sg pc lv (gi y :: gi x :: st) :=
  fun p l e R s m args below meth c D A ad ca X H locs ls Y => lv_ixor (x := Int32.ofInt x) (y := Int32.ofInt y) X.1 X.2.1 hd (by rw [gi_eq (z := i_xor x y) ((Int32.ofInt_toInt _).symm)]; exact k p l e R s m args below meth c D A ad ca X H locs ls Y)
theorem G_lxor {x y : Int} (hd : decode (g_b M) pc = .ok (.lxor, 1)) (k : G M Q Z sg (pc + 1) lv (gl (l_xor x y) :: st)) : G M Q Z sg pc lv (gl y :: gl x :: st) :=
  fun p l e R s m args below meth c D A ad ca X H locs ls Y => lv_lxor (x := Int64.ofInt x) (y := Int64.ofInt y) X.1 X.2.1 hd (by rw [gl_eq (z := l_xor x y) ((Int64.ofInt_toInt _).symm)]; exact k p l e R s m args below meth c D A ad ca X H locs ls Y)
theorem G_ishl {x y : Int} (hd : decode (g_b M) pc = .ok (.ishl, 1)) (k : G M Q Z sg (pc + 1) lv (gi (i_shl x y) :: st)) : G M Q Z sg pc lv (gi y :: gi x :: st) :=
  fun p l e R s m args below meth c D A ad ca X H locs ls Y => lv_ishl (x := Int32.ofInt x) (y := Int32.ofInt y) X.1 X.2.1 hd (by rw [gi_eq (z := i_shl x y) ((Int32.ofInt_toInt _).symm)]; exact k p l e R s m args below meth c D A ad ca X H locs ls Y)
theorem G_ishr {x y : Int} (hd : decode (g_b M) pc = .ok (.ishr, 1)) (k : G M Q Z sg (pc + 1) lv (gi (i_shr x y) :: st)) : G M Q Z sg pc lv (gi y :: gi x :: st) :=
  fun p l e R s m args below meth c D A ad ca X H locs ls Y => lv_ishr (x := Int32.ofInt x) (y := Int32.ofInt y) X.1 X.2.1 hd (by rw [gi_eq (z := i_shr x y) ((Int32.ofInt_toInt _).symm)]; exact k p l e R s m args below meth c D A ad ca X H locs ls Y)
theorem G_idiv {x y : Int} (hd : decode (g_b M) pc = .ok (.idiv, 1)) (hz : ¬ w32 y = 0) (k : G M Q Z sg (pc + 1) lv (gi (i_div x y) :: st)) : G M Q Z sg pc lv (gi y :: gi x :: st) :=
  fun p l e R s m args below meth c D A ad ca X H locs ls Y => lv_idiv (x := Int32.ofInt x) (y := Int32.ofInt y) X.1 X.2.1 hd (fun q => hz (w32_0.mp q)) (by rw [gi_eq (z := i_div x y) ((Int32.ofInt_toInt _).symm)]; exact k p l e R s m args below meth c D A ad ca X H locs ls Y)
theorem G_ldiv {x y : Int} (hd : decode (g_b M) pc = .ok (.ldiv, 1)) (hz : ¬ w64 y = 0) (k : G M Q Z sg (pc + 1) lv (gl (l_div x y) :: st)) : G M Q Z sg pc lv (gl y :: gl x :: st) :=
  fun p l e R s m args below meth c D A ad ca X H locs ls Y => lv_ldiv (x := Int64.ofInt x) (y := Int64.ofInt y) X.1 X.2.1 hd (fun q => hz (w64_0.mp q)) (by rw [gl_eq (z := l_div x y) ((Int64.ofInt_toInt _).symm)]; exact k p l e R s m args below meth c D A ad ca X H locs ls Y)
theorem G_irem {x y : Int} (hd : decode (g_b M) pc = .ok (.irem, 1)) (hz : ¬ w32 y = 0) (k : G M Q Z sg (pc + 1) lv (gi (i_rem x y) :: st)) : G M Q Z sg pc lv (gi y :: gi x :: st) :=
  fun p l e R s m args below meth c D A ad ca X H locs ls Y => lv_irem (x := Int32.ofInt x) (y := Int32.ofInt y) X.1 X.2.1 hd (fun q => hz (w32_0.mp q)) (by rw [gi_eq (z := i_rem x y) ((Int32.ofInt_toInt _).symm)]; exact k p l e R s m args below meth c D A ad ca X H locs ls Y)
theorem G_lrem {x y : Int} (hd : decode (g_b M) pc = .ok (.lrem, 1)) (hz : ¬ w64 y = 0) (k : G M Q Z sg (pc + 1) lv (gl (l_rem x y) :: st)) : G M Q Z sg pc lv (gl y :: gl x :: st) :=
  fun p l e R s m args below meth c D A ad ca X H locs ls Y => lv_lrem (x := Int64.ofInt x) (y := Int64.ofInt y) X.1 X.2.1 hd (fun q => hz (w64_0.mp q)) (by rw [gl_eq (z := l_rem x y) ((Int64.ofInt_toInt _).symm)]; exact k p l e R s m args below meth c D A ad ca X H locs ls Y)
theorem G_iushr {x y : Int} (hd : decode (g_b M) pc = .ok (.iushr, 1)) (k : G M Q Z sg (pc + 1) lv (gi (i_ushr x y) :: st)) : G M Q Z sg pc lv (gi y :: gi x :: st) :=
  fun p l e R s m args below meth c D A ad ca X H locs ls Y => lv_iushr X.1 X.2.1 hd (Int32.ofInt_toInt _).symm (k p l e R s m args below meth c D A ad ca X H locs ls Y)
theorem G_lushr {x y : Int} (hd : decode (g_b M) pc = .ok (.lushr, 1)) (k : G M Q Z sg (pc + 1) lv (gl (l_ushr x y) :: st)) : G M Q Z sg pc lv (gi y :: gl x :: st) :=
  fun p l e R s m args below meth c D A ad ca X H locs ls Y => lv_lushr X.1 X.2.1 hd (Int64.ofInt_toInt _).symm (k p l e R s m args below meth c D A ad ca X H locs ls Y)
theorem G_lshl {x y : Int} (hd : decode (g_b M) pc = .ok (.lshl, 1)) (k : G M Q Z sg (pc + 1) lv (gl (l_shl x y) :: st)) : G M Q Z sg pc lv (gi y :: gl x :: st) :=
  fun p l e R s m args below meth c D A ad ca X H locs ls Y => lv_lshl X.1 X.2.1 hd (Int64.ofInt_toInt _).symm (k p l e R s m args below meth c D A ad ca X H locs ls Y)
theorem G_lshr {x y : Int} (hd : decode (g_b M) pc = .ok (.lshr, 1)) (k : G M Q Z sg (pc + 1) lv (gl (l_shr x y) :: st)) : G M Q Z sg pc lv (gi y :: gl x :: st) :=
  fun p l e R s m args below meth c D A ad ca X H locs ls Y => lv_lshr X.1 X.2.1 hd (Int64.ofInt_toInt _).symm (k p l e R s m args below meth c D A ad ca X H locs ls Y)
theorem G_ineg {x : Int} (hd : decode (g_b M) pc = .ok (.ineg, 1)) (k : G M Q Z sg (pc + 1) lv (gi (-x) :: st)) : G M Q Z sg pc lv (gi x :: st) :=
  fun p l e R s m args below meth c D A ad ca X H locs ls Y => lv_ineg (x := Int32.ofInt x) X.1 X.2.1 hd (by rw [gi_eq (Int32.ofInt_neg x).symm]; exact k p l e R s m args below meth c D A ad ca X H locs ls Y)
theorem G_lneg {x : Int} (hd : decode (g_b M) pc = .ok (.lneg, 1)) (k : G M Q Z sg (pc + 1) lv (gl (-x) :: st)) : G M Q Z sg pc lv (gl x :: st) :=
  fun p l e R s m args below meth c D A ad ca X H locs ls Y => lv_lneg (x := Int64.ofInt x) X.1 X.2.1 hd (by rw [gl_eq (Int64.ofInt_neg x).symm]; exact k p l e R s m args below meth c D A ad ca X H locs ls Y)
theorem G_i2l {x : Int} (hd : decode (g_b M) pc = .ok (.i2l, 1)) (k : G M Q Z sg (pc + 1) lv (gl (w32 x) :: st)) : G M Q Z sg pc lv (gi x :: st) :=
  fun p l e R s m args below meth c D A ad ca X H locs ls Y => lv_i2l X.1 X.2.1 hd (i_2l_eq x) (k p l e R s m args below meth c D A ad ca X H locs ls Y)
theorem G_l2i {x : Int} (hd : decode (g_b M) pc = .ok (.l2i, 1)) (k : G M Q Z sg (pc + 1) lv (gi x :: st)) : G M Q Z sg pc lv (gl x :: st) :=
  fun p l e R s m args below meth c D A ad ca X H locs ls Y => lv_l2i X.1 X.2.1 hd Int64.toInt32_ofInt (k p l e R s m args below meth c D A ad ca X H locs ls Y)
theorem G_i2c {x : Int} (hd : decode (g_b M) pc = .ok (.i2c, 1)) (k : G M Q Z sg (pc + 1) lv (gi (i_2c x) :: st)) : G M Q Z sg pc lv (gi x :: st) :=
  fun p l e R s m args below meth c D A ad ca X H locs ls Y => lv_i2c X.1 X.2.1 hd (Int32.ofInt_toInt _).symm (k p l e R s m args below meth c D A ad ca X H locs ls Y)
theorem G_i2b {x : Int} (hd : decode (g_b M) pc = .ok (.i2b, 1)) (k : G M Q Z sg (pc + 1) lv (gi (i_2b x) :: st)) : G M Q Z sg pc lv (gi x :: st) :=
  fun p l e R s m args below meth c D A ad ca X H locs ls Y => lv_i2b X.1 X.2.1 hd (Int32.ofInt_toInt _).symm (k p l e R s m args below meth c D A ad ca X H locs ls Y)
theorem G_lcmp {x y : Int} (hd : decode (g_b M) pc = .ok (.lcmp, 1)) (k : G M Q Z sg (pc + 1) lv (gi (l_cmp x y) :: st)) : G M Q Z sg pc lv (gl y :: gl x :: st) :=
  fun p l e R s m args below meth c D A ad ca X H locs ls Y => W.lcmp (x := Int64.ofInt x) (y := Int64.ofInt y) X.1 X.2.1 hd (by rw [gi_eq (l_cmp_eq x y)]; exact k p l e R s m args below meth c D A ad ca X H locs ls Y)
theorem G_dup {a : Value} (hd : decode (g_b M) pc = .ok (.dup, 1)) (ha : a.category = 1) (k : G M Q Z sg (pc + 1) lv (a :: a :: st)) : G M Q Z sg pc lv (a :: st) :=
  fun p l e R s m args below meth c D A ad ca X H locs ls Y => lv_dup X.1 X.2.1 hd (by rw [g_v_cat]; exact ha) (k p l e R s m args below meth c D A ad ca X H locs ls Y)
theorem G_pop {a : Value} (hd : decode (g_b M) pc = .ok (.pop, 1)) (ha : a.category = 1) (k : G M Q Z sg (pc + 1) lv st) : G M Q Z sg pc lv (a :: st) :=
  fun p l e R s m args below meth c D A ad ca X H locs ls Y => lv_pop X.1 X.2.1 hd (by rw [g_v_cat]; exact ha) (k p l e R s m args below meth c D A ad ca X H locs ls Y)
theorem G_dup_x1 {a b : Value} (hd : decode (g_b M) pc = .ok (.dup_x1, 1)) (ha : a.category = 1) (hb : b.category = 1) (k : G M Q Z sg (pc + 1) lv (a :: b :: a :: st)) : G M Q Z sg pc lv (a :: b :: st) :=
  fun p l e R s m args below meth c D A ad ca X H locs ls Y => lv_dup_x1 X.1 X.2.1 hd (by rw [g_v_cat]; exact ha) (by rw [g_v_cat]; exact hb) (k p l e R s m args below meth c D A ad ca X H locs ls Y)
theorem G_dup_x2 {a b w : Value} (hd : decode (g_b M) pc = .ok (.dup_x2, 1)) (ha : a.category = 1) (hb : b.category = 1) (hw : w.category = 1) (k : G M Q Z sg (pc + 1) lv (a :: b :: w :: a :: st)) : G M Q Z sg pc lv (a :: b :: w :: st) :=
  fun p l e R s m args below meth c D A ad ca X H locs ls Y => lv_dup_x2 X.1 X.2.1 hd (by rw [g_v_cat]; exact ha) (by rw [g_v_cat]; exact hb) (by rw [g_v_cat]; exact hw) (k p l e R s m args below meth c D A ad ca X H locs ls Y)
theorem G_dup2_11 {a b : Value} (hd : decode (g_b M) pc = .ok (.dup2, 1)) (ha : a.category = 1) (hb : b.category = 1) (k : G M Q Z sg (pc + 1) lv (a :: b :: a :: b :: st)) : G M Q Z sg pc lv (a :: b :: st) :=
  fun p l e R s m args below meth c D A ad ca X H locs ls Y => lv_dup2_11 X.1 X.2.1 hd (by rw [g_v_cat]; exact ha) (by rw [g_v_cat]; exact hb) (k p l e R s m args below meth c D A ad ca X H locs ls Y)
theorem G_dup2_2 {a : Value} (hd : decode (g_b M) pc = .ok (.dup2, 1)) (ha : a.category = 2) (k : G M Q Z sg (pc + 1) lv (a :: a :: st)) : G M Q Z sg pc lv (a :: st) :=
  fun p l e R s m args below meth c D A ad ca X H locs ls Y => lv_dup2_2 X.1 X.2.1 hd (by rw [g_v_cat]; exact ha) (k p l e R s m args below meth c D A ad ca X H locs ls Y)
theorem G_pop2_2 {a : Value} (hd : decode (g_b M) pc = .ok (.pop2, 1)) (ha : a.category = 2) (k : G M Q Z sg (pc + 1) lv st) : G M Q Z sg pc lv (a :: st) :=
  fun p l e R s m args below meth c D A ad ca X H locs ls Y => lv_pop2_2 X.1 X.2.1 hd (by rw [g_v_cat]; exact ha) (k p l e R s m args below meth c D A ad ca X H locs ls Y)
theorem G_pop2_11 {a b : Value} (hd : decode (g_b M) pc = .ok (.pop2, 1)) (ha : a.category = 1) (hb : b.category = 1) (k : G M Q Z sg (pc + 1) lv st) : G M Q Z sg pc lv (a :: b :: st) :=
  fun p l e R s m args below meth c D A ad ca X H locs ls Y => lv_pop2_11 X.1 X.2.1 hd (by rw [g_v_cat]; exact ha) (by rw [g_v_cat]; exact hb) (k p l e R s m args below meth c D A ad ca X H locs ls Y)
theorem G_dup2_x1_2 {a b : Value} (hd : decode (g_b M) pc = .ok (.dup2_x1, 1)) (ha : a.category = 2) (hb : b.category = 1) (k : G M Q Z sg (pc + 1) lv (a :: b :: a :: st)) : G M Q Z sg pc lv (a :: b :: st) :=
  fun p l e R s m args below meth c D A ad ca X H locs ls Y => lv_dup2_x1_2 X.1 X.2.1 hd (by rw [g_v_cat]; exact ha) (by rw [g_v_cat]; exact hb) (k p l e R s m args below meth c D A ad ca X H locs ls Y)
theorem G_dup2_x2_2 {a b w : Value} (hd : decode (g_b M) pc = .ok (.dup2_x2, 1)) (ha : a.category = 2) (hb : b.category = 1) (hw : w.category = 1) (k : G M Q Z sg (pc + 1) lv (a :: b :: w :: a :: st)) : G M Q Z sg pc lv (a :: b :: w :: st) :=
  fun p l e R s m args below meth c D A ad ca X H locs ls Y => lv_dup2_x2_2 X.1 X.2.1 hd (by rw [g_v_cat]; exact ha) (by rw [g_v_cat]; exact hb) (by rw [g_v_cat]; exact hw) (k p l e R s m args below meth c D A ad ca X H locs ls Y)
theorem G_icmp_eq {x y a b : Int} {off : Int} {tgt : Nat} (hd : decode (g_b M) pc = .ok (.if_icmp .eq off, 3)) (ht : (pc : Int) + off = (tgt : Int)) (ha : w32 x = a) (hb : w32 y = b) (kt : a = b → G M Q Z sg tgt lv st) (kf : ¬ a = b → G M Q Z sg (pc + 3) lv st) : G M Q Z sg pc lv (gi y :: gi x :: st) := by
  subst ha hb
  exact fun p l e R s m args below meth c D A ad ca X H locs ls Y => lv_icmp_eq (x := Int32.ofInt x) (y := Int32.ofInt y) X.1 X.2.1 hd ht (fun h => kt (w32_eq.mp h) p l e R s m args below meth c D A ad ca X H locs ls Y) (fun h => kf (fun q => h (w32_eq.mpr q)) p l e R s m args below meth c D A ad ca X H locs ls Y)
theorem G_icmp_lt {x y a b : Int} {off : Int} {tgt : Nat} (hd : decode (g_b M) pc = .ok (.if_icmp .lt off, 3)) (ht : (pc : Int) + off = (tgt : Int)) (ha : w32 x = a) (hb : w32 y = b) (kt : a < b → G M Q Z sg tgt lv st) (kf : ¬ a < b → G M Q Z sg (pc + 3) lv st) : G M Q Z sg pc lv (gi y :: gi x :: st) := by
  subst ha hb
  exact fun p l e R s m args below meth c D A ad ca X H locs ls Y => lv_icmp_lt (x := Int32.ofInt x) (y := Int32.ofInt y) X.1 X.2.1 hd ht (fun h => kt (w32_lt.mp h) p l e R s m args below meth c D A ad ca X H locs ls Y) (fun h => kf (fun q => h (w32_lt.mpr q)) p l e R s m args below meth c D A ad ca X H locs ls Y)
theorem G_icmp_ge {x y a b : Int} {off : Int} {tgt : Nat} (hd : decode (g_b M) pc = .ok (.if_icmp .ge off, 3)) (ht : (pc : Int) + off = (tgt : Int)) (ha : w32 x = a) (hb : w32 y = b) (kt : b ≤ a → G M Q Z sg tgt lv st) (kf : ¬ b ≤ a → G M Q Z sg (pc + 3) lv st) : G M Q Z sg pc lv (gi y :: gi x :: st) := by
  subst ha hb
  exact fun p l e R s m args below meth c D A ad ca X H locs ls Y => lv_icmp_ge (x := Int32.ofInt x) (y := Int32.ofInt y) X.1 X.2.1 hd ht (fun h => kt (w32_le.mp h) p l e R s m args below meth c D A ad ca X H locs ls Y) (fun h => kf (fun q => h (w32_le.mpr q)) p l e R s m args below meth c D A ad ca X H locs ls Y)
theorem G_icmp_gt {x y a b : Int} {off : Int} {tgt : Nat} (hd : decode (g_b M) pc = .ok (.if_icmp .gt off, 3)) (ht : (pc : Int) + off = (tgt : Int)) (ha : w32 x = a) (hb : w32 y = b) (kt : b < a → G M Q Z sg tgt lv st) (kf : ¬ b < a → G M Q Z sg (pc + 3) lv st) : G M Q Z sg pc lv (gi y :: gi x :: st) := by
  subst ha hb
  exact fun p l e R s m args below meth c D A ad ca X H locs ls Y => lv_icmp_gt (x := Int32.ofInt x) (y := Int32.ofInt y) X.1 X.2.1 hd ht (fun h => kt (w32_lt.mp h) p l e R s m args below meth c D A ad ca X H locs ls Y) (fun h => kf (fun q => h (w32_lt.mpr q)) p l e R s m args below meth c D A ad ca X H locs ls Y)
theorem G_icmp_le {x y a b : Int} {off : Int} {tgt : Nat} (hd : decode (g_b M) pc = .ok (.if_icmp .le off, 3)) (ht : (pc : Int) + off = (tgt : Int)) (ha : w32 x = a) (hb : w32 y = b) (kt : a ≤ b → G M Q Z sg tgt lv st) (kf : ¬ a ≤ b → G M Q Z sg (pc + 3) lv st) : G M Q Z sg pc lv (gi y :: gi x :: st) := by
  subst ha hb
  exact fun p l e R s m args below meth c D A ad ca X H locs ls Y => lv_icmp_le (x := Int32.ofInt x) (y := Int32.ofInt y) X.1 X.2.1 hd ht (fun h => kt (w32_le.mp h) p l e R s m args below meth c D A ad ca X H locs ls Y) (fun h => kf (fun q => h (w32_le.mpr q)) p l e R s m args below meth c D A ad ca X H locs ls Y)
theorem G_icmp_ne {x y a b : Int} {off : Int} {tgt : Nat} (hd : decode (g_b M) pc = .ok (.if_icmp .ne off, 3)) (ht : (pc : Int) + off = (tgt : Int)) (ha : w32 x = a) (hb : w32 y = b) (kt : ¬ a = b → G M Q Z sg tgt lv st) (kf : a = b → G M Q Z sg (pc + 3) lv st) : G M Q Z sg pc lv (gi y :: gi x :: st) := by
  subst ha hb
  exact fun p l e R s m args below meth c D A ad ca X H locs ls Y => lv_icmp_ne (x := Int32.ofInt x) (y := Int32.ofInt y) X.1 X.2.1 hd ht (fun h => kt (fun q => h (w32_eq.mpr q)) p l e R s m args below meth c D A ad ca X H locs ls Y) (fun h => kf (w32_eq.mp h) p l e R s m args below meth c D A ad ca X H locs ls Y)
theorem G_if_eq {x a : Int} {off : Int} {tgt : Nat} (hd : decode (g_b M) pc = .ok (.ifCond .eq off, 3)) (ht : (pc : Int) + off = (tgt : Int)) (ha : w32 x = a) (kt : a = 0 → G M Q Z sg tgt lv st) (kf : ¬ a = 0 → G M Q Z sg (pc + 3) lv st) : G M Q Z sg pc lv (gi x :: st) := by
  subst ha
  exact fun p l e R s m args below meth c D A ad ca X H locs ls Y => lv_if_eq (x := Int32.ofInt x) X.1 X.2.1 hd ht (fun h => kt (w32_0.mp h) p l e R s m args below meth c D A ad ca X H locs ls Y) (fun h => kf (fun q => h (w32_0.mpr q)) p l e R s m args below meth c D A ad ca X H locs ls Y)
theorem G_if_lt {x a : Int} {off : Int} {tgt : Nat} (hd : decode (g_b M) pc = .ok (.ifCond .lt off, 3)) (ht : (pc : Int) + off = (tgt : Int)) (ha : w32 x = a) (kt : a < 0 → G M Q Z sg tgt lv st) (kf : ¬ a < 0 → G M Q Z sg (pc + 3) lv st) : G M Q Z sg pc lv (gi x :: st) := by
  subst ha
  exact fun p l e R s m args below meth c D A ad ca X H locs ls Y => lv_if_lt (x := Int32.ofInt x) X.1 X.2.1 hd ht (fun h => kt (w32_l0.mp h) p l e R s m args below meth c D A ad ca X H locs ls Y) (fun h => kf (fun q => h (w32_l0.mpr q)) p l e R s m args below meth c D A ad ca X H locs ls Y)
theorem G_if_ge {x a : Int} {off : Int} {tgt : Nat} (hd : decode (g_b M) pc = .ok (.ifCond .ge off, 3)) (ht : (pc : Int) + off = (tgt : Int)) (ha : w32 x = a) (kt : 0 ≤ a → G M Q Z sg tgt lv st) (kf : ¬ 0 ≤ a → G M Q Z sg (pc + 3) lv st) : G M Q Z sg pc lv (gi x :: st) := by
  subst ha
  exact fun p l e R s m args below meth c D A ad ca X H locs ls Y => lv_if_ge (x := Int32.ofInt x) X.1 X.2.1 hd ht (fun h => kt (w32_0le.mp h) p l e R s m args below meth c D A ad ca X H locs ls Y) (fun h => kf (fun q => h (w32_0le.mpr q)) p l e R s m args below meth c D A ad ca X H locs ls Y)
theorem G_if_gt {x a : Int} {off : Int} {tgt : Nat} (hd : decode (g_b M) pc = .ok (.ifCond .gt off, 3)) (ht : (pc : Int) + off = (tgt : Int)) (ha : w32 x = a) (kt : 0 < a → G M Q Z sg tgt lv st) (kf : ¬ 0 < a → G M Q Z sg (pc + 3) lv st) : G M Q Z sg pc lv (gi x :: st) := by
  subst ha
  exact fun p l e R s m args below meth c D A ad ca X H locs ls Y => lv_if_gt (x := Int32.ofInt x) X.1 X.2.1 hd ht (fun h => kt (w32_0l.mp h) p l e R s m args below meth c D A ad ca X H locs ls Y) (fun h => kf (fun q => h (w32_0l.mpr q)) p l e R s m args below meth c D A ad ca X H locs ls Y)
theorem G_if_le {x a : Int} {off : Int} {tgt : Nat} (hd : decode (g_b M) pc = .ok (.ifCond .le off, 3)) (ht : (pc : Int) + off = (tgt : Int)) (ha : w32 x = a) (kt : a ≤ 0 → G M Q Z sg tgt lv st) (kf : ¬ a ≤ 0 → G M Q Z sg (pc + 3) lv st) : G M Q Z sg pc lv (gi x :: st) := by
  subst ha
  exact fun p l e R s m args below meth c D A ad ca X H locs ls Y => lv_if_le (x := Int32.ofInt x) X.1 X.2.1 hd ht (fun h => kt (w32_le0.mp h) p l e R s m args below meth c D A ad ca X H locs ls Y) (fun h => kf (fun q => h (w32_le0.mpr q)) p l e R s m args below meth c D A ad ca X H locs ls Y)
theorem G_if_ne {x a : Int} {off : Int} {tgt : Nat} (hd : decode (g_b M) pc = .ok (.ifCond .ne off, 3)) (ht : (pc : Int) + off = (tgt : Int)) (ha : w32 x = a) (kt : ¬ a = 0 → G M Q Z sg tgt lv st) (kf : a = 0 → G M Q Z sg (pc + 3) lv st) : G M Q Z sg pc lv (gi x :: st) := by
  subst ha
  exact fun p l e R s m args below meth c D A ad ca X H locs ls Y => lv_if_ne (x := Int32.ofInt x) X.1 X.2.1 hd ht (fun h => kt (fun q => h (w32_0.mpr q)) p l e R s m args below meth c D A ad ca X H locs ls Y) (fun h => kf (w32_0.mp h) p l e R s m args below meth c D A ad ca X H locs ls Y)
theorem G_goto {off : Int} {tgt : Nat} (hd : decode (g_b M) pc = .ok (.goto off, 3)) (ht : (pc : Int) + off = (tgt : Int)) (k : G M Q Z sg tgt lv st) : G M Q Z sg pc lv st :=
  fun p l e R s m args below meth c D A ad ca X H locs ls Y => lv_goto X.1 X.2.1 hd ht (k p l e R s m args below meth c D A ad ca X H locs ls Y)
def g_sw (P : Nat → Prop) (z : Int) (d : Nat) : List (Int × Nat) → Prop
  | [] => P d
  | (a, t) :: r => (z = a → P t) ∧ (¬ z = a → g_sw P z d r)
def g_so (pc : Nat) (ks : List (Int × Nat)) : List (Int × Int) := ks.map fun q => (q.1, (q.2 : Int) - (pc : Int))
theorem g_sw_off {P : Nat → Prop} {pc d : Nat} {z : Int} : ∀ {ks : List (Int × Nat)}, g_sw P z d ks → ∃ t : Nat, (pc : Int) + Op.lookupswitch.offset (g_so pc ks) ((d : Int) - (pc : Int)) z = (t : Int) ∧ P t := by
  intro ks
  induction ks with
  | nil =>
    intro h
    refine ⟨d, ?_, h⟩
    show (pc : Int) + ((d : Int) - (pc : Int)) = (d : Int)
    omega
  | cons q r ih =>
    intro h
    obtain ⟨a, t⟩ := q
    rw [show g_so pc ((a, t) :: r) = (a, (t : Int) - (pc : Int)) :: g_so pc r from rfl, Op.lookupswitch.offset_cons]
    by_cases e : a = z
    · rw [if_pos e]
      exact ⟨t, by omega, h.1 e.symm⟩
    · rw [if_neg e]
      exact ih (h.2 fun q => e q.symm)
theorem G_lookup {d : Int} {ps : Array (Int × Int)} {len : Nat} {x a : Int} (ks : List (Int × Nat)) (dt : Nat) (hd : decode (g_b M) pc = .ok (.lookupswitch d ps, len)) (hk : (decide (d = (dt : Int) - (pc : Int)) && decide (ps.toList = g_so pc ks)) = true) (hp : (ps.toList.zip (ps.toList.drop 1)).all (fun (a, next) => a.1 < next.1) = true) (ha : w32 x = a) (k : g_sw (fun t => G M Q Z sg t lv st) a dt ks) : G M Q Z sg pc lv (gi x :: st) := by
  subst ha
  simp only [Bool.and_eq_true, decide_eq_true_eq] at hk
  obtain ⟨e1, e2⟩ := hk
  obtain ⟨t, h1, h2⟩ := g_sw_off (pc := pc) k
  exact fun p l e R s m args below meth c D A ad ca X H locs ls Y => lv_lookup (x := Int32.ofInt x) (tgt := t) X.1 X.2.1 hd hp (by rw [w32_toInt, e1, e2]) h1 (h2 p l e R s m args below meth c D A ad ca X H locs ls Y)
def g_tk : Int → List Int → List (Int × Int)
  | _, [] => []
  | a, o :: r => (a, o) :: g_tk (a + 1) r
theorem g_tk_in {d z : Int} : ∀ {os : List Int} {lo : Int} {o : Int}, lo ≤ z → os[(z - lo).toNat]? = some o → Op.lookupswitch.offset (g_tk lo os) d z = o := by
  intro os
  induction os with
  | nil => intro lo o _ h; simp at h
  | cons y r ih =>
    intro lo o hl h
    rw [show g_tk lo (y :: r) = (lo, y) :: g_tk (lo + 1) r from rfl, Op.lookupswitch.offset_cons]
    by_cases e : lo = z
    · rw [if_pos e]
      rw [show (z - lo).toNat = 0 by omega] at h
      simpa using h
    · rw [if_neg e]
      refine ih (by omega) ?_
      rw [show (z - lo).toNat = (z - (lo + 1)).toNat + 1 by omega] at h
      simpa using h
theorem g_tk_out {d z : Int} : ∀ {os : List Int} {lo : Int}, z < lo ∨ lo + os.length ≤ z → Op.lookupswitch.offset (g_tk lo os) d z = d := by
  intro os
  induction os with
  | nil => intro lo _; rfl
  | cons y r ih =>
    intro lo h
    rw [show g_tk lo (y :: r) = (lo, y) :: g_tk (lo + 1) r from rfl, Op.lookupswitch.offset_cons]
    have h2 : z < lo ∨ lo + ((r.length : Int) + 1) ≤ z := by simpa using h
    rw [if_neg (by omega)]
    exact ih (by omega)
theorem G_table {d lo hi : Int} {os : Array Int} {len : Nat} {x a : Int} (ks : List (Int × Nat)) (dt : Nat) (hd : decode (g_b M) pc = .ok (.tableswitch d lo hi os, len)) (hk : (decide (d = (dt : Int) - (pc : Int)) && decide (g_tk lo os.toList = g_so pc ks)) = true) (hp : decide (lo + os.toList.length = hi + 1) = true) (ha : w32 x = a) (k : g_sw (fun t => G M Q Z sg t lv st) a dt ks) : G M Q Z sg pc lv (gi x :: st) := by
  subst ha
  simp only [Bool.and_eq_true, decide_eq_true_eq] at hk hp
  obtain ⟨e1, e2⟩ := hk
  obtain ⟨t, h1, h2⟩ := g_sw_off (pc := pc) k
  rw [← e1, ← e2] at h1
  intro p l e R s m args below meth c D A ad ca X H locs ls Y
  have hw := h2 p l e R s m args below meth c D A ad ca X H locs ls Y
  by_cases c1 : w32 x < lo ∨ hi < w32 x
  · rw [g_tk_out (by omega)] at h1
    exact lv_tableOut (x := Int32.ofInt x) (tgt := t) X.1 X.2.1 hd (by rw [w32_toInt]; exact c1) h1 hw
  · have hlt : (w32 x - lo).toNat < os.toList.length := by omega
    have ho : os.toList[(w32 x - lo).toNat]? = some (os.toList[(w32 x - lo).toNat]) := List.getElem?_eq_getElem hlt
    rw [g_tk_in (by omega) ho] at h1
    exact lv_tableIn (x := Int32.ofInt x) (tgt := t) X.1 X.2.1 hd (by rw [w32_toInt]; omega) (by rw [w32_toInt]; omega) (by rw [w32_toInt, ← Array.getElem?_toList]; exact ho) h1 hw
end GR
end
section
/-! fields, arrays, new cells, constants, returns -/
def g_fl (own : String) (idx ci k : Nat) : Prop := ∃ (C : String) (T : u_T) (N : Nat), g_cl[ci]? = some (C, T, N) ∧ k < N ∧ (Cond.fieldLink own idx (T k).1 (T k).2.1 (T k).2.2.1 ∈ g_T ∨ ∃ h : String, Cond.fieldLinkNest own idx (T k).1 (T k).2.1 (T k).2.2.1 h ∈ g_N)
def g_fp (own : String) (idx ci k : Nat) (fin : Bool) (ty : FieldType) : Prop := ∃ (C : String) (T : u_T) (N : Nat), g_cl[ci]? = some (C, T, N) ∧ k < N ∧ (T k).2.2.2 = fin ∧ parseFieldDescriptor (T k).2.2.1 = some ty ∧ (Cond.fieldLink own idx (T k).1 (T k).2.1 (T k).2.2.1 ∈ g_T ∨ ∃ h : String, Cond.fieldLinkNest own idx (T k).1 (T k).2.1 (T k).2.2.1 h ∈ g_N)
theorem g_len_w (ad ca : Nat → Nat) (S : List gH) (sg : gS) : (g_w ad ca S sg).length = S.length := by simp [g_w]
theorem g_w_push (ad ca : Nat → Nat) (S : List gH) (sg : gS) (sh : gH) : g_w ad ca (S ++ [sh]) (g_nw sg S.length) = g_w ad ca S sg ++ [(ad S.length, g_c ad ca (fun _ => 0) sh)] := by
  apply List.ext_getElem?
  intro i
  by_cases h : i < S.length
  · rw [List.getElem?_append_left (by rw [g_len_w]; exact h)]
    simp only [g_w, List.getElem?_mapIdx, List.getElem?_append_left h]
    have e : g_nw sg S.length i = sg i := by
      funext j
      simp [g_nw, Nat.ne_of_lt h]
    rw [e]
  · by_cases h2 : i = S.length
    · subst h2
      rw [List.getElem?_append_right (by rw [g_len_w]; exact Nat.le_refl _), g_len_w]
      have e : g_nw sg S.length S.length = fun _ => 0 := by
        funext j
        simp [g_nw]
      simp [g_w, List.getElem?_mapIdx, e]
    · rw [List.getElem?_eq_none (by simp [g_len_w]; omega), List.getElem?_eq_none (by simp [g_len_w]; omega)]
theorem g_w_ref {ad ca : Nat → Nat} {S : List gH} {sg : gS} {q k ci r : Nat} {fl : List gF} (hS : S[q]? = some (.inr (ci, fl))) (hk : k < fl.length) :
    (g_w ad ca S sg).set q (ad q, .inr (ci, (fl.mapIdx (g_fv ad (sg q))).set k (.ref (ad r)))) = g_w ad ca (S.set q (.inr (ci, fl.set k (some (some r))))) sg := by
  have hq := (List.getElem?_eq_some_iff.mp hS).1
  apply List.ext_getElem?
  intro i
  by_cases hi : i = q
  · subst hi
    rw [List.getElem?_set_self (by rw [g_len_w]; exact hq), g_w_get (List.getElem?_set_self hq)]
    show _ = some (ad i, Sum.inr (ci, (fl.set k (some (some r))).mapIdx (g_fv ad (sg i))))
    congr 4
    apply List.ext_getElem?
    intro j
    by_cases hj : j = k
    · subst hj
      rw [List.getElem?_set_self (by simpa using hk), List.getElem?_mapIdx, List.getElem?_set_self hk]
      rfl
    · rw [List.getElem?_set_ne (fun e => hj e.symm), List.getElem?_mapIdx, List.getElem?_mapIdx, List.getElem?_set_ne (fun e => hj e.symm)]
  · rw [List.getElem?_set_ne (fun e => hi e.symm)]
    simp only [g_w, List.getElem?_mapIdx, List.getElem?_set_ne (fun e => hi e.symm)]
section GHP
variable {M : gM} {Q : gO → List gH → gS → Prop} {Z : gZ} {sg : gS} {pc : Nat} {lv : List (Option Value)} {st : List Value} {q ci k idx n : Nat} {fl : List gF}
theorem G_get {v : Value} (hd : decode (g_b M) pc = .ok (.getfield idx, 3)) (hS : Z.1[q]? = some (.inr (ci, fl))) (hl : g_fl (g_y M).cls idx ci k) {f : gF} (hf : fl[k]? = some f) (hv : ∀ ad : Nat → Nat, g_fv ad (sg q) k f = g_v ad v) (kk : G M Q Z sg (pc + 3) lv (v :: st)) : G M Q Z sg pc lv (.ref q :: st) := by
  intro p l e R s m args below meth c D A ad ca X H locs ls Y
  obtain ⟨C, T, N, hc, hk, hl⟩ := hl
  have hv2 : (fl.mapIdx (g_fv ad (sg q)))[k]? = some (g_v ad v) := by
    rw [List.getElem?_mapIdx, hf, Option.map_some, hv ad]
  have kw := kk p l e R s m args below meth c D A ad ca X H locs ls Y
  rcases hl with hl | ⟨h, hl⟩
  · exact va_get X.1 X.2.1 X.2.2.2.2.2.2.1 (g_clw hc) X.2.2.2.2.1 X.2.2.2.2.2.2.2.2.1 Y.1 q (g_w_get hS) hc k hk (X.2.2.2.2.2.2.1 _ hl) (fun _ h => h) hv2 hd kw
  · exact va_getN X.1 X.2.1 X.2.2.2.2.2.2.1 (g_clw hc) X.2.2.2.2.1 X.2.2.2.2.2.2.2.2.1 Y.1 q (g_w_get hS) hc k hk (va_Nw.use rfl (X.2.2.2.2.2.2.2.2.2.2.1.2.2.2.2.2.1 _ hl)) (fun _ h => h) hv2 hd kw
theorem G_getI (hd : decode (g_b M) pc = .ok (.getfield idx, 3)) (hS : Z.1[q]? = some (.inr (ci, fl))) (hl : g_fl (g_y M).cls idx ci k) (hf : fl[k]? = some none) (kk : G M Q Z sg (pc + 3) lv (gi (sg q k) :: st)) : G M Q Z sg pc lv (.ref q :: st) :=
  G_get hd hS hl hf (fun _ => rfl) kk
theorem G_getR {r : Nat} (hd : decode (g_b M) pc = .ok (.getfield idx, 3)) (hS : Z.1[q]? = some (.inr (ci, fl))) (hl : g_fl (g_y M).cls idx ci k) (hf : fl[k]? = some (some (some r))) (kk : G M Q Z sg (pc + 3) lv (.ref r :: st)) : G M Q Z sg pc lv (.ref q :: st) :=
  G_get hd hS hl hf (fun _ => rfl) kk
theorem G_put {z : Int} {ty : FieldType} (hd : decode (g_b M) pc = .ok (.putfield idx, 3)) (hS : Z.1[q]? = some (.inr (ci, fl))) (hl : g_fp (g_y M).cls idx ci k false ty) (hf : fl[k]? = some none) (hn : narrow ty (gi z) = gi z) (hfit : fits ty (gi z) = true) (kk : G M Q Z (g_up sg q k z) (pc + 3) lv st) : G M Q Z sg pc lv (gi z :: .ref q :: st) := by
  intro p l e R s m args below meth c D A ad ca X H locs ls Y
  obtain ⟨C, T, N, hc, hk, hfin, hty, hl⟩ := hl
  obtain ⟨ty0, hty0⟩ := g_clt hc
  have hlen : k < (fl.mapIdx (g_fv ad (sg q))).length := by simpa using (List.getElem?_eq_some_iff.mp hf).1
  have ew : (g_w ad ca Z.1 sg).set q (ad q, .inr (ci, (fl.mapIdx (g_fv ad (sg q))).set k (gi z))) = g_w ad ca Z.1 (g_up sg q k z) := by
    rw [g_fs_set hf]
    exact g_w_up (sh := .inr (ci, fl)) hS (fun j hj => g_up_ne hj)
  have kw : ∀ (H1 : Heap) (locs1 : List Loc), va_P D g_cl ((g_w ad ca Z.1 sg).set q (ad q, .inr (ci, (fl.mapIdx (g_fv ad (sg q))).set k (gi z)))) H1 → va_D A ((g_w ad ca Z.1 sg).set q (ad q, .inr (ci, (fl.mapIdx (g_fv ad (sg q))).set k (gi z)))) → va_S A s.heap H1 locs1 → W p l e R s m args below meth c H1 locs1 Z.2.1 Z.2.2 (gMQ below (g_Q D A ad ca (g_z M) (g_m M).cells Q) args s (g_m M).cells (g_m M).slots A) (F0 m (pc + 3) ls (st.map (g_v ad))) := by
    intro H1 locs1 h1 h2 h3
    rw [ew] at h1 h2
    exact kk p l e R s m args below meth c D A ad ca X H1 locs1 ls ⟨h1, h2, h3, Y.2.2.2.1, Y.2.2.2.2⟩
  rcases hl with hl | ⟨h, hl⟩
  · exact va_put X.1 X.2.1 X.2.2.2.2.2.2.1 (g_clw hc) ty0 hty0 (g_cln hc) X.2.2.2.2.1 X.2.2.2.2.2.2.2.2.1 Y.1 Y.2.1 Y.2.2.1 q (g_w_get hS) hc k hk (X.2.2.2.2.2.2.1 _ hl) (fun _ h => h) hfin hty hn hfit hlen hd kw
  · exact va_putN X.1 X.2.1 X.2.2.2.2.2.2.1 (g_clw hc) ty0 hty0 (g_cln hc) X.2.2.2.2.1 X.2.2.2.2.2.2.2.2.1 Y.1 Y.2.1 Y.2.2.1 q (g_w_get hS) hc k hk (va_Nw.use rfl (X.2.2.2.2.2.2.2.2.2.2.1.2.2.2.2.2.1 _ hl)) (fun _ h => h) hfin hty hn hfit hlen hd kw
theorem G_putI {z : Int} (hd : decode (g_b M) pc = .ok (.putfield idx, 3)) (hS : Z.1[q]? = some (.inr (ci, fl))) (hl : g_fp (g_y M).cls idx ci k false .int) (hf : fl[k]? = some none) (kk : G M Q Z (g_up sg q k z) (pc + 3) lv st) : G M Q Z sg pc lv (gi z :: .ref q :: st) :=
  G_put hd hS hl hf rfl rfl kk
theorem g_bool {z : Int} (hz : w32 z = 0 ∨ w32 z = 1) : narrow .boolean (gi z) = gi z ∧ fits .boolean (gi z) = true := by
  rcases hz with h | h
  · rw [show gi z = gi 0 by rw [gi, gi, w32_eq.mpr (h.trans (show (0 : Int) = w32 0 by decide))]]
    exact ⟨by decide, by decide⟩
  · rw [show gi z = gi 1 by rw [gi, gi, w32_eq.mpr (h.trans (show (1 : Int) = w32 1 by decide))]]
    exact ⟨by decide, by decide⟩
theorem G_putZ {z : Int} (hd : decode (g_b M) pc = .ok (.putfield idx, 3)) (hS : Z.1[q]? = some (.inr (ci, fl))) (hl : g_fp (g_y M).cls idx ci k false .boolean) (hf : fl[k]? = some none) (hz : w32 z = 0 ∨ w32 z = 1) (kk : G M Q Z (g_up sg q k z) (pc + 3) lv st) : G M Q Z sg pc lv (gi z :: .ref q :: st) :=
  G_put hd hS hl hf (g_bool hz).1 (g_bool hz).2 kk
/-- a constructor sets a final reference -/
theorem G_putR {r : Nat} {ty : FieldType} (hd : decode (g_b M) pc = .ok (.putfield idx, 3)) (hS : Z.1[q]? = some (.inr (ci, fl))) (hl : g_fp (g_y M).cls idx ci k true ty) (hi : (g_y M).name = "<init>") (hc : (g_cl[ci]?).map (fun x => (x.2.1 k).1) = some (g_y M).cls) (hn : ∀ a : Nat, narrow ty (.ref a) = .ref a) (hfit : ∀ a : Nat, fits ty (.ref a) = true) (hk : k < fl.length) (hlk : ∀ C T N, g_cl[ci]? = some (C, T, N) → Cond.fieldLink (g_y M).cls idx (T k).1 (T k).2.1 (T k).2.2.1 ∈ g_T)
    (kk : G M Q (Z.1.set q (.inr (ci, fl.set k (some (some r)))), Z.2.1, Z.2.2) sg (pc + 3) lv st) : G M Q Z sg pc lv (.ref r :: .ref q :: st) := by
  intro p l e R s m args below meth c D A ad ca X H locs ls Y
  obtain ⟨C, T, N, hc2, hk2, hfin, hty, -⟩ := hl
  obtain ⟨ty0, hty0⟩ := g_clt hc2
  have hown : (T k).1 = (g_y M).cls := by
    rw [hc2] at hc
    simpa using hc
  have hlen : k < (fl.mapIdx (g_fv ad (sg q))).length := by simpa using hk
  refine va_putF X.1 X.2.1 X.2.2.2.2.2.2.1 (g_clw hc2) ty0 hty0 (g_cln hc2) X.2.2.2.2.1 X.2.2.2.2.2.2.2.2.1 Y.1 Y.2.1 Y.2.2.1 q (g_w_get hS) hc2 k hk2 (X.2.2.2.2.2.2.1 _ (hlk C T N hc2)) (fun _ h => h) hfin (X.2.2.2.2.2.2.2.2.2.2.2.1.trans hi) hown hty (hn (ad r)) (hfit (ad r)) hlen hd fun H1 locs1 h1 h2 h3 => ?_
  rw [show g_v ad (.ref r) = .ref (ad r) from rfl, g_w_ref hS hk] at h1 h2
  refine kk p l e R s m args below meth c D A ad ca X H1 locs1 ls ⟨h1, h2, h3, Y.2.2.2.1, fun ha => ?_⟩
  obtain ⟨a1, a2, a3⟩ := Y.2.2.2.2 ha
  refine ⟨by simpa using a1, by simpa using a2, fun h => a3 ?_⟩
  have : (Z.1.set q (.inr (ci, fl.set k (some (some r))))).length = 0 := by
    have h2 : Z.1.set q (.inr (ci, fl.set k (some (some r)))) = [] := h
    rw [h2]
    rfl
  exact List.length_eq_zero_iff.mp (by simpa using this)
theorem G_iaload {i a : Int} (hd : decode (g_b M) pc = .ok (.iaload, 1)) (hS : Z.1[q]? = some (.inl (0, n))) (ha : w32 i = a) (hi : 0 ≤ a ∧ a < (n : Int)) (kk : G M Q Z sg (pc + 1) lv (gi (sg q a.toNat) :: st)) : G M Q Z sg pc lv (gi i :: .ref q :: st) := by
  subst ha
  intro p l e R s m args below meth c D A ad ca X H locs ls Y
  refine va_iald (i := Int32.ofInt i) X.1 X.2.1 X.2.2.2.2.2.2.2.2.1 Y.1 q 0 (g_w_get hS) rfl (w32_in.mpr hi) hd ?_
  rw [w32_cl]
  exact kk p l e R s m args below meth c D A ad ca X H locs ls Y
theorem G_zaload {i a : Int} (hd : decode (g_b M) pc = .ok (.baload, 1)) (hS : Z.1[q]? = some (.inl (1, n))) (ha : w32 i = a) (hi : 0 ≤ a ∧ a < (n : Int)) (kk : G M Q Z sg (pc + 1) lv (gi (sg q a.toNat) :: st)) : G M Q Z sg pc lv (gi i :: .ref q :: st) := by
  subst ha
  intro p l e R s m args below meth c D A ad ca X H locs ls Y
  refine va_zald (i := Int32.ofInt i) X.1 X.2.1 X.2.2.2.2.2.2.2.2.1 Y.1 q 1 (g_w_get hS) rfl (w32_in.mpr hi) hd ?_
  rw [w32_cl]
  exact kk p l e R s m args below meth c D A ad ca X H locs ls Y
theorem G_caload {i a : Int} (hd : decode (g_b M) pc = .ok (.caload, 1)) (hS : Z.1[q]? = some (.inl (2, n))) (ha : w32 i = a) (hi : 0 ≤ a ∧ a < (n : Int)) (kk : G M Q Z sg (pc + 1) lv (gi (sg q a.toNat) :: st)) : G M Q Z sg pc lv (gi i :: .ref q :: st) := by
  subst ha
  intro p l e R s m args below meth c D A ad ca X H locs ls Y
  refine va_cald (i := Int32.ofInt i) X.1 X.2.1 X.2.2.2.2.2.2.2.2.1 Y.1 q 2 (g_w_get hS) rfl (w32_in.mpr hi) hd ?_
  rw [w32_cl]
  exact kk p l e R s m args below meth c D A ad ca X H locs ls Y
theorem G_laload {i a : Int} (hd : decode (g_b M) pc = .ok (.laload, 1)) (hS : Z.1[q]? = some (.inl (3, n))) (ha : w32 i = a) (hi : 0 ≤ a ∧ a < (n : Int)) (kk : G M Q Z sg (pc + 1) lv (gl (sg q a.toNat) :: st)) : G M Q Z sg pc lv (gi i :: .ref q :: st) := by
  subst ha
  intro p l e R s m args below meth c D A ad ca X H locs ls Y
  refine va_lald (i := Int32.ofInt i) X.1 X.2.1 X.2.2.2.2.2.2.2.2.1 Y.1 q 3 (g_w_get hS) rfl (w32_in.mpr hi) hd ?_
  rw [w32_cl]
  exact kk p l e R s m args below meth c D A ad ca X H locs ls Y
theorem G_iastore {i a z : Int} (hd : decode (g_b M) pc = .ok (.iastore, 1)) (hS : Z.1[q]? = some (.inl (0, n))) (ha : w32 i = a) (hi : 0 ≤ a ∧ a < (n : Int)) (kk : G M Q Z (g_up sg q a.toNat (z)) (pc + 1) lv st) : G M Q Z sg pc lv (gi z :: gi i :: .ref q :: st) := by
  subst ha
  intro p l e R s m args below meth c D A ad ca X H locs ls Y
  refine va_iast (i := Int32.ofInt i) (x := Int32.ofInt z) X.1 X.2.1 X.2.2.2.2.2.2.2.2.1 Y.1 Y.2.1 Y.2.2.1 q 0 (g_w_get hS) rfl (w32_in.mpr hi) hd fun H1 locs1 h1 h2 h3 => ?_
  rw [w32_cl, g_up_i] at h1 h2
  have ew := g_w_up (ad := ad) (ca := ca) (sg' := g_up sg q (w32 i).toNat (z)) hS (fun j hj => g_up_ne hj)
  exact kk p l e R s m args below meth c D A ad ca X H1 locs1 ls ⟨ew ▸ h1, ew ▸ h2, h3, Y.2.2.2.1, Y.2.2.2.2⟩
theorem G_zastore {i a z : Int} (hd : decode (g_b M) pc = .ok (.bastore, 1)) (hS : Z.1[q]? = some (.inl (1, n))) (ha : w32 i = a) (hi : 0 ≤ a ∧ a < (n : Int)) (kk : G M Q Z (g_up sg q a.toNat (i_nar .boolean z)) (pc + 1) lv st) : G M Q Z sg pc lv (gi z :: gi i :: .ref q :: st) := by
  subst ha
  intro p l e R s m args below meth c D A ad ca X H locs ls Y
  have ez : vp_nar .boolean (Int32.ofInt z) = Int32.ofInt (i_nar .boolean z) := (Int32.ofInt_toInt _).symm
  refine va_zast (i := Int32.ofInt i) (x := Int32.ofInt z) X.1 X.2.1 X.2.2.2.2.2.2.2.2.1 Y.1 Y.2.1 Y.2.2.1 q 1 (g_w_get hS) rfl (w32_in.mpr hi) hd fun H1 locs1 h1 h2 h3 => ?_
  rw [w32_cl, ez, g_up_i] at h1 h2
  have ew := g_w_up (ad := ad) (ca := ca) (sg' := g_up sg q (w32 i).toNat (i_nar .boolean z)) hS (fun j hj => g_up_ne hj)
  exact kk p l e R s m args below meth c D A ad ca X H1 locs1 ls ⟨ew ▸ h1, ew ▸ h2, h3, Y.2.2.2.1, Y.2.2.2.2⟩
theorem G_castore {i a z : Int} (hd : decode (g_b M) pc = .ok (.castore, 1)) (hS : Z.1[q]? = some (.inl (2, n))) (ha : w32 i = a) (hi : 0 ≤ a ∧ a < (n : Int)) (kk : G M Q Z (g_up sg q a.toNat (i_nar .char z)) (pc + 1) lv st) : G M Q Z sg pc lv (gi z :: gi i :: .ref q :: st) := by
  subst ha
  intro p l e R s m args below meth c D A ad ca X H locs ls Y
  have ez : vp_nar .char (Int32.ofInt z) = Int32.ofInt (i_nar .char z) := (Int32.ofInt_toInt _).symm
  refine va_cast (i := Int32.ofInt i) (x := Int32.ofInt z) X.1 X.2.1 X.2.2.2.2.2.2.2.2.1 Y.1 Y.2.1 Y.2.2.1 q 2 (g_w_get hS) rfl (w32_in.mpr hi) hd fun H1 locs1 h1 h2 h3 => ?_
  rw [w32_cl, ez, g_up_i] at h1 h2
  have ew := g_w_up (ad := ad) (ca := ca) (sg' := g_up sg q (w32 i).toNat (i_nar .char z)) hS (fun j hj => g_up_ne hj)
  exact kk p l e R s m args below meth c D A ad ca X H1 locs1 ls ⟨ew ▸ h1, ew ▸ h2, h3, Y.2.2.2.1, Y.2.2.2.2⟩
theorem G_lastore {i a z : Int} (hd : decode (g_b M) pc = .ok (.lastore, 1)) (hS : Z.1[q]? = some (.inl (3, n))) (ha : w32 i = a) (hi : 0 ≤ a ∧ a < (n : Int)) (kk : G M Q Z (g_up sg q a.toNat z) (pc + 1) lv st) : G M Q Z sg pc lv (gl z :: gi i :: .ref q :: st) := by
  subst ha
  intro p l e R s m args below meth c D A ad ca X H locs ls Y
  refine va_last (i := Int32.ofInt i) (x := Int64.ofInt z) X.1 X.2.1 X.2.2.2.2.2.2.2.2.1 Y.1 Y.2.1 Y.2.2.1 q 3 (g_w_get hS) rfl (w32_in.mpr hi) hd fun H1 locs1 h1 h2 h3 => ?_
  rw [w32_cl, g_up_l] at h1 h2
  have ew := g_w_up (ad := ad) (ca := ca) (sg' := g_up sg q (w32 i).toNat z) hS (fun j hj => g_up_ne hj)
  exact kk p l e R s m args below meth c D A ad ca X H1 locs1 ls ⟨ew ▸ h1, ew ▸ h2, h3, Y.2.2.2.1, Y.2.2.2.2⟩
theorem G_alen {t : Nat} {z : Int} (hd : decode (g_b M) pc = .ok (.arraylength, 1)) (hS : Z.1[q]? = some (.inl (t, n))) (ht : t < 4) (hz : Int32.ofNat n = Int32.ofInt z) (kk : G M Q Z sg (pc + 1) lv (gi z :: st)) : G M Q Z sg pc lv (.ref q :: st) := by
  intro p l e R s m args below meth c D A ad ca X H locs ls Y
  have kw := kk p l e R s m args below meth c D A ad ca X H locs ls Y
  rcases (show t = 0 ∨ t = 1 ∨ t = 2 ∨ t = 3 by omega) with rfl | rfl | rfl | rfl
  · exact va_alen X.1 X.2.1 X.2.2.2.2.2.2.2.2.1 Y.1 q 0 (g_w_get hS) (ty := .int) rfl hz hd kw
  · exact va_alen X.1 X.2.1 X.2.2.2.2.2.2.2.2.1 Y.1 q 1 (g_w_get hS) (ty := .boolean) rfl hz hd kw
  · exact va_alen X.1 X.2.1 X.2.2.2.2.2.2.2.2.1 Y.1 q 2 (g_w_get hS) (ty := .char) rfl hz hd kw
  · exact va_alen X.1 X.2.1 X.2.2.2.2.2.2.2.2.1 Y.1 q 3 (g_w_get hS) (ty := .long) rfl hz hd kw
/-- the end -/
theorem g_end {p : Program} {s : State} {m : MethodId} {args : Array Value} {meth : Method} {c : Code} {R : Room} {D : va_G} {A : Nat → Prop} {ad ca : Nat → Nat} {H : Heap} {locs : List Loc} {ls : Array Slot} {o : gO} {oc : Outcome} {t : State} (Y : g_Y s D A ad ca M Z sg lv H locs ls) (hc : Z.2.1 = (g_m M).cells) (h0 : g_z M = true → g_a M = true ∧ Z.1 ≠ []) (hE : g_E ad o oc t) (hq : Q o Z.1 sg) (ht : t.heap = H) : g_Q D A ad ca (g_z M) (g_m M).cells Q args s oc t :=
  ⟨⟨o, Z.1, sg, hE, hq, by rw [ht]; exact Y.1, Y.2.1, fun ha => by rw [← hc]; exact ⟨(Y.2.2.2.2 (h0 ha).1).1, (Y.2.2.2.2 (h0 ha).1).2.1, (h0 ha).2⟩⟩, Y.2.2.1.F ht⟩
theorem G_ireturn {z : Int} {ty : FieldType} (hd : decode (g_b M) pc = .ok (.ireturn, 1)) (hr : g_r M = some ty) (hn : narrow ty (gi z) = gi z) (hc : Z.2 = ((g_m M).cells, (g_m M).slots)) (h0 : g_z M = true → g_a M = true ∧ Z.1 ≠ []) (hq : Q (.inl (some (gi z))) Z.1 sg) : G M Q Z sg pc lv [gi z] := by
  intro p l e R s m args below meth c D A ad ca X H locs ls Y
  have e1 : Z.2.1 = (g_m M).cells := by rw [hc]
  have e2 : Z.2.2 = (g_m M).slots := by rw [hc]
  rw [e1, e2]
  exact g_post (fun t ht => gMQ_of ht) (W.zret (v := Int32.ofInt z) X.1 X.2.1 (X.2.2.1.trans hr) hn (fun t ht hW => g_end (o := .inl (some (gi z))) (p := p) (m := m) (meth := meth) (c := c) (R := R) Y e1 h0 rfl hq ht) Y.2.2.1.2.2 hd X.2.2.2.2.2.1)
theorem G_lreturn {z : Int} (hd : decode (g_b M) pc = .ok (.lreturn, 1)) (hr : g_r M = some .long) (hc : Z.2 = ((g_m M).cells, (g_m M).slots)) (h0 : g_z M = true → g_a M = true ∧ Z.1 ≠ []) (hq : Q (.inl (some (gl z))) Z.1 sg) : G M Q Z sg pc lv [gl z] := by
  intro p l e R s m args below meth c D A ad ca X H locs ls Y
  have e1 : Z.2.1 = (g_m M).cells := by rw [hc]
  have e2 : Z.2.2 = (g_m M).slots := by rw [hc]
  rw [e1, e2]
  exact g_post (fun t ht => gMQ_of ht) (W.lret (v := Int64.ofInt z) X.1 X.2.1 (X.2.2.1.trans hr) (fun t ht hW => g_end (o := .inl (some (gl z))) (p := p) (m := m) (meth := meth) (c := c) (R := R) Y e1 h0 rfl hq ht) Y.2.2.1.2.2 hd X.2.2.2.2.2.1)
theorem G_return (hd : decode (g_b M) pc = .ok (.return_, 1)) (hr : g_r M = none) (hc : Z.2 = ((g_m M).cells, (g_m M).slots)) (h0 : g_z M = true → g_a M = true ∧ Z.1 ≠ []) (hq : Q (.inl none) Z.1 sg) : G M Q Z sg pc lv [] := by
  intro p l e R s m args below meth c D A ad ca X H locs ls Y
  have e1 : Z.2.1 = (g_m M).cells := by rw [hc]
  have e2 : Z.2.2 = (g_m M).slots := by rw [hc]
  rw [e1, e2]
  exact g_post (fun t ht => gMQ_of ht) (W.vret X.1 X.2.1 (X.2.2.1.trans hr) (fun t ht hW => g_end (o := .inl none) (p := p) (m := m) (meth := meth) (c := c) (R := R) Y e1 h0 rfl hq ht) Y.2.2.1.2.2 hd X.2.2.2.2.2.1)
/-- a reference that is a constant or the world's goes back -/
theorem G_areturn {r : Nat} {rt : FieldType} (hd : decode (g_b M) pc = .ok (.areturn, 1)) (hr : g_r M = some rt) (hrt : (∃ n, rt = .object n) ∨ ∃ t, rt = .array t) (hc : Z.2 = ((g_m M).cells, (g_m M).slots)) (h0 : g_z M = true → g_a M = true ∧ Z.1 ≠ []) (hq : Q (.inl (some (.ref r))) Z.1 sg) : G M Q Z sg pc lv [.ref r] := by
  intro p l e R s m args below meth c D A ad ca X H locs ls Y
  have e1 : Z.2.1 = (g_m M).cells := by rw [hc]
  have e2 : Z.2.2 = (g_m M).slots := by rw [hc]
  rw [e1, e2]
  exact g_post (fun t ht => gMQ_of ht) (W.aret (v := .ref (ad r)) X.1 X.2.1 (X.2.2.1.trans hr) hrt (Or.inr ⟨_, rfl⟩) (fun t ht hW => g_end (o := .inl (some (.ref r))) (p := p) (m := m) (meth := meth) (c := c) (R := R) Y e1 h0 rfl hq ht) Y.2.2.1.2.2 hd X.2.2.2.2.2.1)
end GHP
end
section
/-! constants: texts and their bytes, CELL, COMPACT_STRINGS; copies of arrays; new cells -/
section GCN
variable {M N : gM} {Q : gO → List gH → gS → Prop} {Z : gZ} {sg : gS} {pc : Nat} {lv : List (Option Value)} {st : List Value} {q ci k idx n i : Nat} {fl : List gF}
theorem G_ldcS {tx : String} (hd : decode (g_b M) pc = .ok (.ldc idx, 2)) (hr : ((g_y M).cls, idx, tx, i) ∈ g_ldc) (kk : G M Q Z sg (pc + 2) lv (.ref (1000 + i) :: st)) : G M Q Z sg pc lv st :=
  fun p l e R s m args below meth c D A ad ca X H locs ls Y => va_ldcS X.1 X.2.1 X.2.2.2.2.1 (X.2.2.2.2.2.2.2.2.2.2.1.2.1 _ hr) hd (kk p l e R s m args below meth c D A ad ca X H locs ls Y)
theorem G_getSV (hd : decode (g_b M) pc = .ok (.getfield idx, 3)) (hi : i < g_nS) (hl : Cond.fieldLink (g_y M).cls idx "java/lang/String" "value" "[B" ∈ g_T) (kk : G M Q Z sg (pc + 3) lv (.ref (2000 + i) :: st)) : G M Q Z sg pc lv (.ref (1000 + i) :: st) :=
  fun p l e R s m args below meth c D A ad ca X H locs ls Y => vk_getf X.1 X.2.1 (X.2.2.2.2.2.2.2.2.2.2.1.1.1 i hi).2.2.1 Y.2.2.1 X.2.2.2.2.1 (X.2.2.2.2.2.2.1 _ hl) (fun _ h => h) hd (kk p l e R s m args below meth c D A ad ca X H locs ls Y)
theorem G_getSC (hd : decode (g_b M) pc = .ok (.getfield idx, 3)) (hi : i < g_nS) (hl : Cond.fieldLink (g_y M).cls idx "java/lang/String" "coder" "B" ∈ g_T) (kk : G M Q Z sg (pc + 3) lv (gi 0 :: st)) : G M Q Z sg pc lv (.ref (1000 + i) :: st) :=
  fun p l e R s m args below meth c D A ad ca X H locs ls Y => vk_getf X.1 X.2.1 (X.2.2.2.2.2.2.2.2.2.2.1.1.1 i hi).2.1 Y.2.2.1 X.2.2.2.2.1 (X.2.2.2.2.2.2.1 _ hl) (fun _ h => h) hd (kk p l e R s m args below meth c D A ad ca X H locs ls Y)
/-- a byte of a text -/
def g_by (i j : Nat) : Int := ((g_byt.getD i []).getD j 0).toInt
theorem G_bald {x a : Int} (hd : decode (g_b M) pc = .ok (.baload, 1)) (hi : i < g_nS) (ha : w32 x = a) (hx : 0 ≤ a ∧ a < ((g_len.getD i 0 : Nat) : Int)) (kk : G M Q Z sg (pc + 1) lv (gi (g_by i a.toNat) :: st)) : G M Q Z sg pc lv (gi x :: .ref (2000 + i) :: st) := by
  subst ha
  intro p l e R s m args below meth c D A ad ca X H locs ls Y
  refine va_tb (i := Int32.ofInt x) X.1 X.2.1 (X.2.2.2.2.2.2.2.2.2.2.1.1.1 i hi).2.2.2 Y.2.2.1 (w32_in.mpr hx) (v := gi (g_by i (w32 x).toNat)) ?_ hd (kk p l e R s m args below meth c D A ad ca X H locs ls Y)
  rw [w32_cl]
  exact gi_eq (Int32.ofInt_toInt _).symm
theorem G_blen {z : Int} (hd : decode (g_b M) pc = .ok (.arraylength, 1)) (hi : i < g_nS) (hz : Int32.ofNat (g_len.getD i 0) = Int32.ofInt z) (kk : G M Q Z sg (pc + 1) lv (gi z :: st)) : G M Q Z sg pc lv (.ref (2000 + i) :: st) :=
  fun p l e R s m args below meth c D A ad ca X H locs ls Y => va_tlen X.1 X.2.1 (X.2.2.2.2.2.2.2.2.2.2.1.1.1 i hi).2.2.2 Y.2.2.1 hz hd (kk p l e R s m args below meth c D A ad ca X H locs ls Y)
theorem G_compact (hd : decode (g_b M) pc = .ok (.getstatic idx, 3)) (hl : Cond.fieldLink (g_y M).cls idx "java/lang/String" "COMPACT_STRINGS" "Z" ∈ g_T) (kk : G M Q Z sg (pc + 3) lv (gi 1 :: st)) : G M Q Z sg pc lv st :=
  fun p l e R s m args below meth c D A ad ca X H locs ls Y => va_gets X.1 X.2.1 X.2.2.2.2.2.2.2.2.2.2.1.2.2.2.2.1 Y.2.2.1 X.2.2.2.2.1 (X.2.2.2.2.2.2.1 _ hl) (fun _ h => h) hd (kk p l e R s m args below meth c D A ad ca X H locs ls Y)
theorem G_cellS {host : String} (hd : decode (g_b M) pc = .ok (.getstatic idx, 3)) (hl : Cond.fieldLinkNest (g_y M).cls idx "BandPress" "CELL" "[I" host ∈ g_N) (kk : G M Q Z sg (pc + 3) lv (.ref 3000 :: st)) : G M Q Z sg pc lv st :=
  fun p l e R s m args below meth c D A ad ca X H locs ls Y => va_getsN X.1 X.2.1 X.2.2.2.2.2.2.2.2.2.2.1.2.2.1 Y.2.2.1 X.2.2.2.2.1 (va_Nw.use rfl (X.2.2.2.2.2.2.2.2.2.2.1.2.2.2.2.2.1 _ hl)) (fun _ h => h) hd (kk p l e R s m args below meth c D A ad ca X H locs ls Y)
def g_ce (j : Nat) : Int := (g_cell.getD j 0).toInt
theorem G_cald {x a : Int} (hd : decode (g_b M) pc = .ok (.iaload, 1)) (ha : w32 x = a) (hx : 0 ≤ a ∧ a < ((g_cellN : Nat) : Int)) (kk : G M Q Z sg (pc + 1) lv (gi (g_ce a.toNat) :: st)) : G M Q Z sg pc lv (gi x :: .ref 3000 :: st) := by
  subst ha
  intro p l e R s m args below meth c D A ad ca X H locs ls Y
  refine va_ti (i := Int32.ofInt x) X.1 X.2.1 X.2.2.2.2.2.2.2.2.2.2.1.2.2.2.1 Y.2.2.1 (w32_in.mpr hx) (v := gi (g_ce (w32 x).toNat)) ?_ hd (kk p l e R s m args below meth c D A ad ca X H locs ls Y)
  rw [w32_cl]
  exact gi_eq (Int32.ofInt_toInt _).symm
end GCN
section GCK
variable {M N : gM} {S : List gH} {sg : gS} {pc : Nat} {lv : List (Option Value)} {st : List Value} {Q Q' : gO → List gH → gS → Prop} {Qi : Int → gS → Prop} {as stk : List Value} {idx n c1 c2 i : Nat} {Z : gZ}
/-- a call on a text -/
theorem G_cK (hc : Ct N Z.1 (.ref (1000 + i) :: as) sg Q') (hd : decode (g_b M) pc = .ok (.invokevirtual idx, 3)) (hlk : Cond.methodLink (g_y M).cls idx (g_y N) ∈ g_T) (hm : g_mv N n) (hn : as.length = n) (hi : i < g_nS) (hci : (g_y N).cls = "java/lang/String")
    (hft : g_ft M N Z = true) (hcr : g_cr st = true) (hal : (g_a N = true → g_a M = true) ∧ (g_a M = true → g_z N = true ∨ ((g_m N).cells = 0 ∧ ∀ (o : gO) (S : List gH) (sg' : gS), Q' o S sg' → S = Z.1))) (hs : stk = as.reverse ++ .ref (1000 + i) :: st)
    (k : ∀ (o : gO) (S : List gH) (sg' : gS), Q' o S sg' → ∃ r : Option Value, o = .inl r ∧ G M Q (S, Z.2.1 + (g_m N).cells, Z.2.2 + (g_m N).slots) sg' (pc + 3) lv (r.toList ++ st)) : G M Q Z sg pc lv stk := by
  intro p l e R s m args below meth c D A ad ca X H locs ls Y
  subst hs
  have hst : (as.reverse ++ .ref (1000 + i) :: st).map (g_v ad) = (as.map (g_v ad)).reverse ++ .ref (ad (1000 + i)) :: st.map (g_v ad) := by simp [g_v]
  obtain ⟨hR1, hR2⟩ := g_bit (N := N) hft X.2.2.2.2.2.2.2.1
  have hts := X.2.2.2.2.2.2.1
  have hal2 : g_a N = true → g_a M = true := hal.1
  have hcell : ∃ cellB : Cell, H[ad (1000 + i)]? = some cellB ∧ cellB.vm.isStatics = false ∧ s.vm.findClass (g_y N).cls = some cellB.cls := by
    obtain ⟨cell, h1, h2, h3, h4⟩ := ((X.2.2.2.2.2.2.2.2.2.2.1.1.1 i hi).1).kept Y.2.2.1.2.1
    exact ⟨cell, h1, h2, by rw [hci]; exact h3⟩
  obtain ⟨⟨hini, hcode, hd2⟩, hinst, hsel⟩ := hm
  intro T hT X1
  have hpre : PreV s H (g_y N).cls (ad (1000 + i)) (va_Pc ((.ref (1000 + i) :: as).map (g_v ad)) (g_P D ad ca (g_a N) Z.1 sg H.size)) (as.map (g_v ad)) := ⟨g_blind, hcell, g_pre (as := .ref (1000 + i) :: as) X Y (fun ha => ⟨g_sz X Y hT X1 (hal2 ha), (Y.2.2.2.2 (hal2 ha)).2.1⟩)⟩
  rw [hst]
  exact g_back (al := g_z N) X Y (fun ha => (hal.2 ha).imp (fun h => ⟨h, g_sz X Y hT X1 ha⟩) id) (va_runV (As := as.map (g_v ad)) (rest := st.map (g_v ad)) (C := (g_y N).cls) ⟨X.1, X.2.1, X.2.2.2.1, X.2.2.2.2.1, hts⟩ (hc l D ad ca H.size X.2.2.2.2.2.2.2.2.2.2.2.2.2.2.2.1) ⟨callB_of n hts (g_goodIn hcode) rfl rfl rfl (hts _ hini) (hts _ hlk) hd2 hR1, hts _ hinst, hts _ hsel⟩ hpre rfl (by simpa using hn) Y.2.2.2.1.1 rfl (g_cr_ok ad hcr) hd hR2) k T hT X1
end GCK
/-- a part of an array is copied into an array -/
def g_cp (sg : gS) (a b sp dp n : Nat) : gS := fun i j => if i = b ∧ dp ≤ j ∧ j < dp + n then sg a (sp + (j - dp)) else sg i j
theorem g_cp_ne {sg : gS} {a b sp dp n i : Nat} (h : i ≠ b) : g_cp sg a b sp dp n i = sg i := by
  funext j
  simp [g_cp, h]
section GAC
variable {M N : gM} {Q : gO → List gH → gS → Prop} {Z : gZ} {sg : gS} {pc : Nat} {lv : List (Option Value)} {st : List Value} {a b idx n0 n1 : Nat} {x y n sp dp nn : Int}
def g_cw (own : String) (idx : Nat) : Prop := Cond.methodLink own idx arraycopyName ∈ g_T ∧ Cond.native arraycopyName ∈ g_T ∧ Cond.static arraycopyName ∈ g_T ∧ Cond.initialized "java/lang/System" ∈ g_T
def g_acr (M : gM) (st : List Value) : Bool := decide (1 ≤ (g_m M).frames) && decide ((st.map fun v => v.category).sum + (nativeFrameWords "java/lang/System" "arraycopy" 5 + 11) ≤ (g_m M).locals)
theorem g_acr_ok {R : Room} (ad : Nat → Nat) (h : g_acr M st = true) (hR : R = g_m M) : 1 ≤ R.frames ∧ ((st.map (g_v ad)).map fun v => v.category).sum + (nativeFrameWords "java/lang/System" "arraycopy" 5 + 11) ≤ R.locals := by
  subst hR
  have e : ((st.map (g_v ad)).map fun v => v.category) = st.map fun v => v.category := by
    rw [List.map_map]
    exact List.map_congr_left fun v _ => g_v_cat ad v
  rw [e]
  simpa [g_acr] using h
theorem g_cp_i (sg : gS) (a b sp dp n : Nat) : va_cpy (fun j => Int32.ofInt (sg a j)) (fun j => Int32.ofInt (sg b j)) sp dp n = fun j => Int32.ofInt (g_cp sg a b sp dp n b j) := by
  funext j
  simp only [va_cpy, g_cp, true_and]
  split <;> rfl
theorem g_cp_l (sg : gS) (a b sp dp n : Nat) : va_cpy (fun j => Int64.ofInt (sg a j)) (fun j => Int64.ofInt (sg b j)) sp dp n = fun j => Int64.ofInt (g_cp sg a b sp dp n b j) := by
  funext j
  simp only [va_cpy, g_cp, true_and]
  split <;> rfl
theorem w32_nn {z : Int} (h : 0 ≤ w32 z) : ¬ Int32.ofInt z < 0 := fun q => by have := w32_l0.mp q; omega
theorem G_copyI (hd : decode (g_b M) pc = .ok (.invokestatic idx, 3)) (hw : g_cw (g_y M).cls idx) (hS0 : Z.1[a]? = some (.inl (0, n0))) (hS1 : Z.1[b]? = some (.inl (0, n1))) (hr : g_acr M st = true) (hsp : w32 x = sp) (hdp : w32 y = dp) (hnn : w32 n = nn) (h1 : 0 ≤ sp ∧ 0 ≤ dp ∧ 0 ≤ nn ∧ sp + nn ≤ n0 ∧ dp + nn ≤ n1)
    (kk : G M Q Z (g_cp sg a b sp.toNat dp.toNat nn.toNat) (pc + 3) lv st) : G M Q Z sg pc lv (gi n :: gi y :: .ref b :: gi x :: .ref a :: st) := by
  subst hsp hdp hnn
  intro p l e R s m args below meth c D A ad ca X H locs ls Y
  have hts := X.2.2.2.2.2.2.1
  obtain ⟨r1, r2⟩ := g_acr_ok ad hr X.2.2.2.2.2.2.2.1
  obtain ⟨g1, g2, g3, g4, g5⟩ := h1
  refine va_copyi (sp := Int32.ofInt x) (dp := Int32.ofInt y) (n := Int32.ofInt n) (ty := .int) (rest := st.map (g_v ad)) X.1 X.2.1 (X.2.2.2.1.trans Y.2.2.2.1.1.symm) X.2.2.2.2.1 (hts _ hw.1) (hts _ hw.2.1) (hts _ hw.2.2.1) (hts _ hw.2.2.2) X.2.2.2.2.2.2.2.2.1 Y.1 Y.2.1 Y.2.2.1 a b 0 0 (g_w_get hS0) (g_w_get hS1) rfl rfl rfl (w32_nn g1) (w32_nn g2) (w32_nn g3) (by rw [w32_cl, w32_cl]; omega) (by rw [w32_cl, w32_cl]; omega) (fun j hj => rfl) r1 r2 hd fun H1 locs1 k1 k2 k3 => ?_
  rw [w32_cl, w32_cl, w32_cl, g_cp_i] at k1 k2
  have ew := g_w_up (ad := ad) (ca := ca) (sg' := g_cp sg a b (w32 x).toNat (w32 y).toNat (w32 n).toNat) hS1 (fun j hj => g_cp_ne hj)
  exact kk p l e R s m args below meth c D A ad ca X H1 locs1 ls ⟨ew ▸ k1, ew ▸ k2, k3, Y.2.2.2.1, Y.2.2.2.2⟩
theorem G_copyL (hd : decode (g_b M) pc = .ok (.invokestatic idx, 3)) (hw : g_cw (g_y M).cls idx) (hS0 : Z.1[a]? = some (.inl (3, n0))) (hS1 : Z.1[b]? = some (.inl (3, n1))) (hr : g_acr M st = true) (hsp : w32 x = sp) (hdp : w32 y = dp) (hnn : w32 n = nn) (h1 : 0 ≤ sp ∧ 0 ≤ dp ∧ 0 ≤ nn ∧ sp + nn ≤ n0 ∧ dp + nn ≤ n1)
    (kk : G M Q Z (g_cp sg a b sp.toNat dp.toNat nn.toNat) (pc + 3) lv st) : G M Q Z sg pc lv (gi n :: gi y :: .ref b :: gi x :: .ref a :: st) := by
  subst hsp hdp hnn
  intro p l e R s m args below meth c D A ad ca X H locs ls Y
  have hts := X.2.2.2.2.2.2.1
  obtain ⟨r1, r2⟩ := g_acr_ok ad hr X.2.2.2.2.2.2.2.1
  obtain ⟨g1, g2, g3, g4, g5⟩ := h1
  refine va_copyl (sp := Int32.ofInt x) (dp := Int32.ofInt y) (n := Int32.ofInt n) (ty := .long) (rest := st.map (g_v ad)) X.1 X.2.1 (X.2.2.2.1.trans Y.2.2.2.1.1.symm) X.2.2.2.2.1 (hts _ hw.1) (hts _ hw.2.1) (hts _ hw.2.2.1) (hts _ hw.2.2.2) X.2.2.2.2.2.2.2.2.1 Y.1 Y.2.1 Y.2.2.1 a b 3 3 (g_w_get hS0) (g_w_get hS1) rfl rfl rfl (w32_nn g1) (w32_nn g2) (w32_nn g3) (by rw [w32_cl, w32_cl]; omega) (by rw [w32_cl, w32_cl]; omega) (fun j hj => rfl) r1 r2 hd fun H1 locs1 k1 k2 k3 => ?_
  rw [w32_cl, w32_cl, w32_cl, g_cp_l] at k1 k2
  have ew := g_w_up (ad := ad) (ca := ca) (sg' := g_cp sg a b (w32 x).toNat (w32 y).toNat (w32 n).toNat) hS1 (fun j hj => g_cp_ne hj)
  exact kk p l e R s m args below meth c D A ad ca X H1 locs1 ls ⟨ew ▸ k1, ew ▸ k2, k3, Y.2.2.2.1, Y.2.2.2.2⟩
end GAC
end
section
/-! a side of the store: the class's cells, or the model's; J puts it into the whole -/
def g_set (s : gS) (q : Nat) (r : Nat → Int) : gS := fun i => if i = q then r else s i
theorem g_up_set (s : gS) (q k : Nat) (z : Int) : g_up s q k z = g_set s q (fun j => if j = k then z else s q j) := by
  funext i j
  by_cases h : i = q <;> simp [g_up, g_set, h]
theorem g_cp_set (s : gS) (a b sp dp n : Nat) : g_cp s a b sp dp n = g_set s b (fun j => if dp ≤ j ∧ j < dp + n then s a (sp + (j - dp)) else s b j) := by
  funext i j
  by_cases h : i = b <;> simp [g_cp, g_set, h]
def g_in (J : gS → gS) (q : Nat) : Prop := ∀ s : gS, J s q = s q ∧ ∀ r : Nat → Int, g_set (J s) q r = J (g_set s q r)
def g_jc (J : gS → gS) : Prop := ∀ q : Nat, g_side q = false → g_in J q
def g_jm (J : gS → gS) : Prop := ∀ q : Nat, g_side q = true → g_in J q
def g_j (s t : gS) : gS := fun q => if g_side q then t q else s q
theorem g_j_c (t : gS) : g_jc (fun s => g_j s t) := by
  intro q hq s
  refine ⟨by simp [g_j, hq], fun r => ?_⟩
  funext i
  by_cases h : i = q
  · subst h; simp [g_set, g_j, hq]
  · by_cases h2 : g_side i = true <;> simp [g_set, g_j, h, h2]
theorem g_j_m (t : gS) : g_jm (fun s => g_j t s) := by
  intro q hq s
  refine ⟨by simp [g_j, hq], fun r => ?_⟩
  funext i
  by_cases h : i = q
  · subst h; simp [g_set, g_j, hq]
  · by_cases h2 : g_side i = true <;> simp [g_set, g_j, h, h2]
theorem g_j_id : g_jc (fun s => s) ∧ g_jm (fun s => s) := ⟨fun _ _ _ => ⟨rfl, fun _ => rfl⟩, fun _ _ _ => ⟨rfl, fun _ => rfl⟩⟩
theorem g_in_up {J : gS → gS} {q : Nat} (h : g_in J q) (s : gS) (k : Nat) (z : Int) : g_up (J s) q k z = J (g_up s q k z) := by
  rw [g_up_set, g_up_set, (h s).1, (h s).2]
theorem g_in_cp {J : gS → gS} {a b : Nat} (ha : g_in J a) (hb : g_in J b) (s : gS) (sp dp n : Nat) : g_cp (J s) a b sp dp n = J (g_cp s a b sp dp n) := by
  rw [g_cp_set, g_cp_set, (ha s).1, (hb s).1, (hb s).2]
/-! answers: an int, a long, nothing, a known reference -/
def QE (S : List gH) (J : gS → gS) (z : Int) (s : gS) : gO → List gH → gS → Prop := fun o S' sg => S' = S ∧ o = .inl (some (gi z)) ∧ sg = J s
def QF (S : List gH) (J : gS → gS) (z : Int) (s : gS) : gO → List gH → gS → Prop := fun o S' sg => S' = S ∧ o = .inl (some (gl z)) ∧ sg = J s
def QG (S : List gH) (J : gS → gS) (_ : Int) (s : gS) : gO → List gH → gS → Prop := fun o S' sg => S' = S ∧ o = .inl none ∧ sg = J s
def QX (S : List gH) (J : gS → gS) (t z : Int) (s : gS) : gO → List gH → gS → Prop := fun o S' sg => S' = S ∧ (o = if t = 0 then .inl (some (gi z)) else .inr (t - 1).toNat) ∧ sg = J s
def QH (r : Nat) (S : List gH) (J : gS → gS) (_ : Int) (s : gS) : gO → List gH → gS → Prop := fun o S' sg => S' = S ∧ o = .inl (some (.ref r)) ∧ sg = J s
/-! the methods as functions: what h says at each step -/
abbrev gA : Type := Option (Int × gS)
/-- of a method that may throw: 0, or 1 and the exception's number -/
abbrev gT : Type := Option (Int × Int × gS)
def g_bi {β : Type} (m : gA) (f : Int → gS → Option β) : Option β := match m with
  | none => none
  | some (z, s) => f z s
def g_le {α β : Type} (x : α) (f : α → Option β) : Option β := f x
section GOB
variable {β : Type} {o : β} {a b : Option β} {c : Prop}
theorem o_b {m : gA} {f : Int → gS → Option β} (h : g_bi m f = some o) : ∃ z s, m = some (z, s) ∧ f z s = some o := by
  cases hm : m with
  | none => rw [hm] at h; cases h
  | some q => obtain ⟨z, s⟩ := q; rw [hm] at h; exact ⟨z, s, rfl, h⟩
theorem o_l {α : Type} {x : α} {f : α → Option β} (h : g_le x f = some o) (y : α) (e : y = x) : f y = some o := by subst e; exact h
theorem o_t [Decidable c] (hc : c) (h : (if c then a else b) = some o) : a = some o := by rwa [if_pos hc] at h
theorem o_f [Decidable c] (hc : ¬ c) (h : (if c then a else b) = some o) : b = some o := by rwa [if_neg hc] at h
theorem o_g [Decidable c] (h : (if c then a else none) = some o) : c ∧ a = some o := by
  by_cases hc : c
  · exact ⟨hc, o_t hc h⟩
  · rw [if_neg hc] at h; cases h
end GOB
theorem q_e {S : List gH} {J : gS → gS} {z z0 : Int} {s s0 : gS} (h : (some (z, s) : gA) = some (z0, s0)) : QE S J z0 s0 (.inl (some (gi z))) S (J s) := by cases h; exact ⟨rfl, rfl, rfl⟩
theorem q_f {S : List gH} {J : gS → gS} {z z0 : Int} {s s0 : gS} (h : (some (z, s) : gA) = some (z0, s0)) : QF S J z0 s0 (.inl (some (gl z))) S (J s) := by cases h; exact ⟨rfl, rfl, rfl⟩
theorem q_g {S : List gH} {J : gS → gS} {z z0 : Int} {s s0 : gS} (h : (some (z, s) : gA) = some (z0, s0)) : QG S J z0 s0 (.inl none) S (J s) := by cases h; exact ⟨rfl, rfl, rfl⟩
theorem q_h {S : List gH} {J : gS → gS} {r : Nat} {z z0 : Int} {s s0 : gS} (h : (some (z, s) : gA) = some (z0, s0)) : QH r S J z0 s0 (.inl (some (.ref r))) S (J s) := by cases h; exact ⟨rfl, rfl, rfl⟩
section GSD
variable {M N : gM} {Q : gO → List gH → gS → Prop} {Z : gZ} {J : gS → gS} {s s1 : gS} {pc : Nat} {lv : List (Option Value)} {st : List Value} {q ci k idx n a b n0 n1 c1 c2 : Nat} {fl : List gF} {S : List gH} {as stk : List Value} {z z1 : Int} {x y nn sp dp m : Int}
theorem H_topi (k : ∀ v : Int, v = z → G M Q Z (J s) pc lv (gi v :: st)) : G M Q Z (J s) pc lv (gi z :: st) := k z rfl
theorem H_topl (k : ∀ v : Int, v = z → G M Q Z (J s) pc lv (gl v :: st)) : G M Q Z (J s) pc lv (gl z :: st) := k z rfl
theorem H_getI (hd : decode (g_b M) pc = .ok (.getfield idx, 3)) (hS : Z.1[q]? = some (.inr (ci, fl))) (hl : g_fl (g_y M).cls idx ci k) (hf : fl[k]? = some none) (hJ : g_in J q) (kk : G M Q Z (J s) (pc + 3) lv (gi (s q k) :: st)) : G M Q Z (J s) pc lv (.ref q :: st) :=
  G_getI hd hS hl hf (by rw [(hJ s).1]; exact kk)
theorem H_putI (hd : decode (g_b M) pc = .ok (.putfield idx, 3)) (hS : Z.1[q]? = some (.inr (ci, fl))) (hl : g_fp (g_y M).cls idx ci k false .int) (hf : fl[k]? = some none) (hJ : g_in J q) (kk : ∀ s1 : gS, s1 = g_up s q k z → G M Q Z (J s1) (pc + 3) lv st) : G M Q Z (J s) pc lv (gi z :: .ref q :: st) :=
  G_putI hd hS hl hf (by rw [g_in_up hJ]; exact kk _ rfl)
theorem H_putZ (hd : decode (g_b M) pc = .ok (.putfield idx, 3)) (hS : Z.1[q]? = some (.inr (ci, fl))) (hl : g_fp (g_y M).cls idx ci k false .boolean) (hf : fl[k]? = some none) (hJ : g_in J q) (hz : w32 z = 0 ∨ w32 z = 1) (kk : ∀ s1 : gS, s1 = g_up s q k z → G M Q Z (J s1) (pc + 3) lv st) : G M Q Z (J s) pc lv (gi z :: .ref q :: st) :=
  G_putZ hd hS hl hf hz (by rw [g_in_up hJ]; exact kk _ rfl)
theorem H_iaload {j : Nat} (hd : decode (g_b M) pc = .ok (.iaload, 1)) (hS : Z.1[q]? = some (.inl (0, n))) (hJ : g_in J q) (ha : w32 x = y) (hi : 0 ≤ y ∧ y < (n : Int)) (hj : y.toNat = j) (kk : G M Q Z (J s) (pc + 1) lv (gi (s q j) :: st)) : G M Q Z (J s) pc lv (gi x :: .ref q :: st) := by
  subst hj
  exact G_iaload hd hS ha hi (by rw [(hJ s).1]; exact kk)
theorem H_zaload {j : Nat} (hd : decode (g_b M) pc = .ok (.baload, 1)) (hS : Z.1[q]? = some (.inl (1, n))) (hJ : g_in J q) (ha : w32 x = y) (hi : 0 ≤ y ∧ y < (n : Int)) (hj : y.toNat = j) (kk : G M Q Z (J s) (pc + 1) lv (gi (s q j) :: st)) : G M Q Z (J s) pc lv (gi x :: .ref q :: st) := by
  subst hj
  exact G_zaload hd hS ha hi (by rw [(hJ s).1]; exact kk)
theorem H_caload {j : Nat} (hd : decode (g_b M) pc = .ok (.caload, 1)) (hS : Z.1[q]? = some (.inl (2, n))) (hJ : g_in J q) (ha : w32 x = y) (hi : 0 ≤ y ∧ y < (n : Int)) (hj : y.toNat = j) (kk : G M Q Z (J s) (pc + 1) lv (gi (s q j) :: st)) : G M Q Z (J s) pc lv (gi x :: .ref q :: st) := by
  subst hj
  exact G_caload hd hS ha hi (by rw [(hJ s).1]; exact kk)
theorem H_laload {j : Nat} (hd : decode (g_b M) pc = .ok (.laload, 1)) (hS : Z.1[q]? = some (.inl (3, n))) (hJ : g_in J q) (ha : w32 x = y) (hi : 0 ≤ y ∧ y < (n : Int)) (hj : y.toNat = j) (kk : G M Q Z (J s) (pc + 1) lv (gl (s q j) :: st)) : G M Q Z (J s) pc lv (gi x :: .ref q :: st) := by
  subst hj
  exact G_laload hd hS ha hi (by rw [(hJ s).1]; exact kk)
theorem H_iastore {j : Nat} (hd : decode (g_b M) pc = .ok (.iastore, 1)) (hS : Z.1[q]? = some (.inl (0, n))) (hJ : g_in J q) (ha : w32 x = y) (hi : 0 ≤ y ∧ y < (n : Int)) (hj : y.toNat = j) (kk : ∀ s1 : gS, s1 = g_up s q j (z) → G M Q Z (J s1) (pc + 1) lv st) : G M Q Z (J s) pc lv (gi z :: gi x :: .ref q :: st) := by
  subst hj
  exact G_iastore hd hS ha hi (by rw [g_in_up hJ]; exact kk _ rfl)
theorem H_zastore {j : Nat} (hd : decode (g_b M) pc = .ok (.bastore, 1)) (hS : Z.1[q]? = some (.inl (1, n))) (hJ : g_in J q) (ha : w32 x = y) (hi : 0 ≤ y ∧ y < (n : Int)) (hj : y.toNat = j) (kk : ∀ s1 : gS, s1 = g_up s q j (i_nar .boolean z) → G M Q Z (J s1) (pc + 1) lv st) : G M Q Z (J s) pc lv (gi z :: gi x :: .ref q :: st) := by
  subst hj
  exact G_zastore hd hS ha hi (by rw [g_in_up hJ]; exact kk _ rfl)
theorem H_castore {j : Nat} (hd : decode (g_b M) pc = .ok (.castore, 1)) (hS : Z.1[q]? = some (.inl (2, n))) (hJ : g_in J q) (ha : w32 x = y) (hi : 0 ≤ y ∧ y < (n : Int)) (hj : y.toNat = j) (kk : ∀ s1 : gS, s1 = g_up s q j (i_nar .char z) → G M Q Z (J s1) (pc + 1) lv st) : G M Q Z (J s) pc lv (gi z :: gi x :: .ref q :: st) := by
  subst hj
  exact G_castore hd hS ha hi (by rw [g_in_up hJ]; exact kk _ rfl)
theorem H_lastore {j : Nat} (hd : decode (g_b M) pc = .ok (.lastore, 1)) (hS : Z.1[q]? = some (.inl (3, n))) (hJ : g_in J q) (ha : w32 x = y) (hi : 0 ≤ y ∧ y < (n : Int)) (hj : y.toNat = j) (kk : ∀ s1 : gS, s1 = g_up s q j (z) → G M Q Z (J s1) (pc + 1) lv st) : G M Q Z (J s) pc lv (gl z :: gi x :: .ref q :: st) := by
  subst hj
  exact G_lastore hd hS ha hi (by rw [g_in_up hJ]; exact kk _ rfl)
theorem H_copyI (hd : decode (g_b M) pc = .ok (.invokestatic idx, 3)) (hw : g_cw (g_y M).cls idx) (hS0 : Z.1[a]? = some (.inl (0, n0))) (hS1 : Z.1[b]? = some (.inl (0, n1))) (hr : g_acr M st = true) (hJa : g_in J a) (hJb : g_in J b) {js jd jn : Nat} (hsp : w32 x = sp) (hdp : w32 y = dp) (hnn : w32 m = nn) (ejs : sp.toNat = js) (ejd : dp.toNat = jd) (ejn : nn.toNat = jn) (h1 : 0 ≤ sp ∧ 0 ≤ dp ∧ 0 ≤ nn ∧ sp + nn ≤ n0 ∧ dp + nn ≤ n1)
    (kk : ∀ s1 : gS, s1 = g_cp s a b js jd jn → G M Q Z (J s1) (pc + 3) lv st) : G M Q Z (J s) pc lv (gi m :: gi y :: .ref b :: gi x :: .ref a :: st) := by
  subst ejs ejd ejn
  exact G_copyI hd hw hS0 hS1 hr hsp hdp hnn h1 (by rw [g_in_cp hJa hJb]; exact kk _ rfl)
theorem H_copyL (hd : decode (g_b M) pc = .ok (.invokestatic idx, 3)) (hw : g_cw (g_y M).cls idx) (hS0 : Z.1[a]? = some (.inl (3, n0))) (hS1 : Z.1[b]? = some (.inl (3, n1))) (hr : g_acr M st = true) (hJa : g_in J a) (hJb : g_in J b) {js jd jn : Nat} (hsp : w32 x = sp) (hdp : w32 y = dp) (hnn : w32 m = nn) (ejs : sp.toNat = js) (ejd : dp.toNat = jd) (ejn : nn.toNat = jn) (h1 : 0 ≤ sp ∧ 0 ≤ dp ∧ 0 ≤ nn ∧ sp + nn ≤ n0 ∧ dp + nn ≤ n1)
    (kk : ∀ s1 : gS, s1 = g_cp s a b js jd jn → G M Q Z (J s1) (pc + 3) lv st) : G M Q Z (J s) pc lv (gi m :: gi y :: .ref b :: gi x :: .ref a :: st) := by
  subst ejs ejd ejn
  exact G_copyL hd hw hS0 hS1 hr hsp hdp hnn h1 (by rw [g_in_cp hJa hJb]; exact kk _ rfl)
theorem H_cVE (hc : Ct N S (.ref b :: as) (J s) (QE S J z1 s1)) (hd : decode (g_b M) pc = .ok (.invokevirtual idx, 3)) (hlk : g_lk (g_y M).cls idx (g_y N)) (hm : g_mv N n) (hn : as.length = n) (hS : S[b]? = some (.inr (ci, fl))) (hci : (g_cl[ci]?).map (fun q => q.1) = some (g_y N).cls) (hft : g_ft M N (S, c1, c2) = true) (hcr : g_cr st = true) (h0 : g_c0 N = true) (hal : g_a N = false) (hs : stk = as.reverse ++ .ref b :: st)
    (kk : G M Q (S, c1, c2) (J s1) (pc + 3) lv (gi z1 :: st)) : G M Q (S, c1, c2) (J s) pc lv stk := by
  refine G_cV (Z := (S, c1, c2)) hc hd hlk hm hn hS hci hft hcr ⟨fun h => (by rw [hal] at h; cases h), fun _ => Or.inr ⟨(g_c0_eq h0).1, fun o S' sg' hq => hq.1⟩⟩ hs fun o S' sg' hq => ?_
  obtain ⟨rfl, rfl, rfl⟩ := hq
  refine ⟨_, rfl, ?_⟩
  rw [(g_c0_eq h0).1, (g_c0_eq h0).2]
  exact kk
theorem H_cVF (hc : Ct N S (.ref b :: as) (J s) (QF S J z1 s1)) (hd : decode (g_b M) pc = .ok (.invokevirtual idx, 3)) (hlk : g_lk (g_y M).cls idx (g_y N)) (hm : g_mv N n) (hn : as.length = n) (hS : S[b]? = some (.inr (ci, fl))) (hci : (g_cl[ci]?).map (fun q => q.1) = some (g_y N).cls) (hft : g_ft M N (S, c1, c2) = true) (hcr : g_cr st = true) (h0 : g_c0 N = true) (hal : g_a N = false) (hs : stk = as.reverse ++ .ref b :: st)
    (kk : G M Q (S, c1, c2) (J s1) (pc + 3) lv (gl z1 :: st)) : G M Q (S, c1, c2) (J s) pc lv stk := by
  refine G_cV (Z := (S, c1, c2)) hc hd hlk hm hn hS hci hft hcr ⟨fun h => (by rw [hal] at h; cases h), fun _ => Or.inr ⟨(g_c0_eq h0).1, fun o S' sg' hq => hq.1⟩⟩ hs fun o S' sg' hq => ?_
  obtain ⟨rfl, rfl, rfl⟩ := hq
  refine ⟨_, rfl, ?_⟩
  rw [(g_c0_eq h0).1, (g_c0_eq h0).2]
  exact kk
theorem H_cVG (hc : Ct N S (.ref b :: as) (J s) (QG S J z1 s1)) (hd : decode (g_b M) pc = .ok (.invokevirtual idx, 3)) (hlk : g_lk (g_y M).cls idx (g_y N)) (hm : g_mv N n) (hn : as.length = n) (hS : S[b]? = some (.inr (ci, fl))) (hci : (g_cl[ci]?).map (fun q => q.1) = some (g_y N).cls) (hft : g_ft M N (S, c1, c2) = true) (hcr : g_cr st = true) (h0 : g_c0 N = true) (hal : g_a N = false) (hs : stk = as.reverse ++ .ref b :: st)
    (kk : G M Q (S, c1, c2) (J s1) (pc + 3) lv (st)) : G M Q (S, c1, c2) (J s) pc lv stk := by
  refine G_cV (Z := (S, c1, c2)) hc hd hlk hm hn hS hci hft hcr ⟨fun h => (by rw [hal] at h; cases h), fun _ => Or.inr ⟨(g_c0_eq h0).1, fun o S' sg' hq => hq.1⟩⟩ hs fun o S' sg' hq => ?_
  obtain ⟨rfl, rfl, rfl⟩ := hq
  refine ⟨_, rfl, ?_⟩
  rw [(g_c0_eq h0).1, (g_c0_eq h0).2]
  exact kk
theorem H_cVH (hc : Ct N S (.ref b :: as) (J s) (QH a S J z1 s1)) (hd : decode (g_b M) pc = .ok (.invokevirtual idx, 3)) (hlk : g_lk (g_y M).cls idx (g_y N)) (hm : g_mv N n) (hn : as.length = n) (hS : S[b]? = some (.inr (ci, fl))) (hci : (g_cl[ci]?).map (fun q => q.1) = some (g_y N).cls) (hft : g_ft M N (S, c1, c2) = true) (hcr : g_cr st = true) (h0 : g_c0 N = true) (hal : g_a N = false) (hs : stk = as.reverse ++ .ref b :: st)
    (kk : G M Q (S, c1, c2) (J s1) (pc + 3) lv (.ref a :: st)) : G M Q (S, c1, c2) (J s) pc lv stk := by
  refine G_cV (Z := (S, c1, c2)) hc hd hlk hm hn hS hci hft hcr ⟨fun h => (by rw [hal] at h; cases h), fun _ => Or.inr ⟨(g_c0_eq h0).1, fun o S' sg' hq => hq.1⟩⟩ hs fun o S' sg' hq => ?_
  obtain ⟨rfl, rfl, rfl⟩ := hq
  refine ⟨_, rfl, ?_⟩
  rw [(g_c0_eq h0).1, (g_c0_eq h0).2]
  exact kk
theorem H_cSE (hc : Ct N S as (J s) (QE S J z1 s1)) (hd : decode (g_b M) pc = .ok (.invokestatic idx, 3)) (hlk : g_lk (g_y M).cls idx (g_y N)) (hm : g_ms N n) (hn : as.length = n) (hft : g_ft M N (S, c1, c2) = true) (hcr : g_cr st = true) (h0 : g_c0 N = true) (hal : g_a N = false) (hs : stk = as.reverse ++ st)
    (kk : G M Q (S, c1, c2) (J s1) (pc + 3) lv (gi z1 :: st)) : G M Q (S, c1, c2) (J s) pc lv stk := by
  refine G_cS (Z := (S, c1, c2)) hc hd hlk hm hn hft hcr ⟨fun h => (by rw [hal] at h; cases h), fun _ => Or.inr ⟨(g_c0_eq h0).1, fun o S' sg' hq => hq.1⟩⟩ hs fun o S' sg' hq => ?_
  obtain ⟨rfl, rfl, rfl⟩ := hq
  refine ⟨_, rfl, ?_⟩
  rw [(g_c0_eq h0).1, (g_c0_eq h0).2]
  exact kk
theorem H_cSF (hc : Ct N S as (J s) (QF S J z1 s1)) (hd : decode (g_b M) pc = .ok (.invokestatic idx, 3)) (hlk : g_lk (g_y M).cls idx (g_y N)) (hm : g_ms N n) (hn : as.length = n) (hft : g_ft M N (S, c1, c2) = true) (hcr : g_cr st = true) (h0 : g_c0 N = true) (hal : g_a N = false) (hs : stk = as.reverse ++ st)
    (kk : G M Q (S, c1, c2) (J s1) (pc + 3) lv (gl z1 :: st)) : G M Q (S, c1, c2) (J s) pc lv stk := by
  refine G_cS (Z := (S, c1, c2)) hc hd hlk hm hn hft hcr ⟨fun h => (by rw [hal] at h; cases h), fun _ => Or.inr ⟨(g_c0_eq h0).1, fun o S' sg' hq => hq.1⟩⟩ hs fun o S' sg' hq => ?_
  obtain ⟨rfl, rfl, rfl⟩ := hq
  refine ⟨_, rfl, ?_⟩
  rw [(g_c0_eq h0).1, (g_c0_eq h0).2]
  exact kk
theorem H_cSG (hc : Ct N S as (J s) (QG S J z1 s1)) (hd : decode (g_b M) pc = .ok (.invokestatic idx, 3)) (hlk : g_lk (g_y M).cls idx (g_y N)) (hm : g_ms N n) (hn : as.length = n) (hft : g_ft M N (S, c1, c2) = true) (hcr : g_cr st = true) (h0 : g_c0 N = true) (hal : g_a N = false) (hs : stk = as.reverse ++ st)
    (kk : G M Q (S, c1, c2) (J s1) (pc + 3) lv (st)) : G M Q (S, c1, c2) (J s) pc lv stk := by
  refine G_cS (Z := (S, c1, c2)) hc hd hlk hm hn hft hcr ⟨fun h => (by rw [hal] at h; cases h), fun _ => Or.inr ⟨(g_c0_eq h0).1, fun o S' sg' hq => hq.1⟩⟩ hs fun o S' sg' hq => ?_
  obtain ⟨rfl, rfl, rfl⟩ := hq
  refine ⟨_, rfl, ?_⟩
  rw [(g_c0_eq h0).1, (g_c0_eq h0).2]
  exact kk
theorem H_cSH (hc : Ct N S as (J s) (QH a S J z1 s1)) (hd : decode (g_b M) pc = .ok (.invokestatic idx, 3)) (hlk : g_lk (g_y M).cls idx (g_y N)) (hm : g_ms N n) (hn : as.length = n) (hft : g_ft M N (S, c1, c2) = true) (hcr : g_cr st = true) (h0 : g_c0 N = true) (hal : g_a N = false) (hs : stk = as.reverse ++ st)
    (kk : G M Q (S, c1, c2) (J s1) (pc + 3) lv (.ref a :: st)) : G M Q (S, c1, c2) (J s) pc lv stk := by
  refine G_cS (Z := (S, c1, c2)) hc hd hlk hm hn hft hcr ⟨fun h => (by rw [hal] at h; cases h), fun _ => Or.inr ⟨(g_c0_eq h0).1, fun o S' sg' hq => hq.1⟩⟩ hs fun o S' sg' hq => ?_
  obtain ⟨rfl, rfl, rfl⟩ := hq
  refine ⟨_, rfl, ?_⟩
  rw [(g_c0_eq h0).1, (g_c0_eq h0).2]
  exact kk
theorem H_cKE (hc : Ct N S (.ref (1000 + b) :: as) (J s) (QE S J z1 s1)) (hd : decode (g_b M) pc = .ok (.invokevirtual idx, 3)) (hlk : Cond.methodLink (g_y M).cls idx (g_y N) ∈ g_T) (hm : g_mv N n) (hn : as.length = n) (hi : b < g_nS) (hci : (g_y N).cls = "java/lang/String") (hft : g_ft M N (S, c1, c2) = true) (hcr : g_cr st = true) (h0 : g_c0 N = true) (hal : g_a N = false) (hs : stk = as.reverse ++ .ref (1000 + b) :: st)
    (kk : G M Q (S, c1, c2) (J s1) (pc + 3) lv (gi z1 :: st)) : G M Q (S, c1, c2) (J s) pc lv stk := by
  refine G_cK (Z := (S, c1, c2)) hc hd hlk hm hn hi hci hft hcr ⟨fun h => (by rw [hal] at h; cases h), fun _ => Or.inr ⟨(g_c0_eq h0).1, fun o S' sg' hq => hq.1⟩⟩ hs fun o S' sg' hq => ?_
  obtain ⟨rfl, rfl, rfl⟩ := hq
  refine ⟨_, rfl, ?_⟩
  rw [(g_c0_eq h0).1, (g_c0_eq h0).2]
  exact kk
theorem H_cKF (hc : Ct N S (.ref (1000 + b) :: as) (J s) (QF S J z1 s1)) (hd : decode (g_b M) pc = .ok (.invokevirtual idx, 3)) (hlk : Cond.methodLink (g_y M).cls idx (g_y N) ∈ g_T) (hm : g_mv N n) (hn : as.length = n) (hi : b < g_nS) (hci : (g_y N).cls = "java/lang/String") (hft : g_ft M N (S, c1, c2) = true) (hcr : g_cr st = true) (h0 : g_c0 N = true) (hal : g_a N = false) (hs : stk = as.reverse ++ .ref (1000 + b) :: st)
    (kk : G M Q (S, c1, c2) (J s1) (pc + 3) lv (gl z1 :: st)) : G M Q (S, c1, c2) (J s) pc lv stk := by
  refine G_cK (Z := (S, c1, c2)) hc hd hlk hm hn hi hci hft hcr ⟨fun h => (by rw [hal] at h; cases h), fun _ => Or.inr ⟨(g_c0_eq h0).1, fun o S' sg' hq => hq.1⟩⟩ hs fun o S' sg' hq => ?_
  obtain ⟨rfl, rfl, rfl⟩ := hq
  refine ⟨_, rfl, ?_⟩
  rw [(g_c0_eq h0).1, (g_c0_eq h0).2]
  exact kk
theorem H_cKG (hc : Ct N S (.ref (1000 + b) :: as) (J s) (QG S J z1 s1)) (hd : decode (g_b M) pc = .ok (.invokevirtual idx, 3)) (hlk : Cond.methodLink (g_y M).cls idx (g_y N) ∈ g_T) (hm : g_mv N n) (hn : as.length = n) (hi : b < g_nS) (hci : (g_y N).cls = "java/lang/String") (hft : g_ft M N (S, c1, c2) = true) (hcr : g_cr st = true) (h0 : g_c0 N = true) (hal : g_a N = false) (hs : stk = as.reverse ++ .ref (1000 + b) :: st)
    (kk : G M Q (S, c1, c2) (J s1) (pc + 3) lv (st)) : G M Q (S, c1, c2) (J s) pc lv stk := by
  refine G_cK (Z := (S, c1, c2)) hc hd hlk hm hn hi hci hft hcr ⟨fun h => (by rw [hal] at h; cases h), fun _ => Or.inr ⟨(g_c0_eq h0).1, fun o S' sg' hq => hq.1⟩⟩ hs fun o S' sg' hq => ?_
  obtain ⟨rfl, rfl, rfl⟩ := hq
  refine ⟨_, rfl, ?_⟩
  rw [(g_c0_eq h0).1, (g_c0_eq h0).2]
  exact kk
theorem H_cKH (hc : Ct N S (.ref (1000 + b) :: as) (J s) (QH a S J z1 s1)) (hd : decode (g_b M) pc = .ok (.invokevirtual idx, 3)) (hlk : Cond.methodLink (g_y M).cls idx (g_y N) ∈ g_T) (hm : g_mv N n) (hn : as.length = n) (hi : b < g_nS) (hci : (g_y N).cls = "java/lang/String") (hft : g_ft M N (S, c1, c2) = true) (hcr : g_cr st = true) (h0 : g_c0 N = true) (hal : g_a N = false) (hs : stk = as.reverse ++ .ref (1000 + b) :: st)
    (kk : G M Q (S, c1, c2) (J s1) (pc + 3) lv (.ref a :: st)) : G M Q (S, c1, c2) (J s) pc lv stk := by
  refine G_cK (Z := (S, c1, c2)) hc hd hlk hm hn hi hci hft hcr ⟨fun h => (by rw [hal] at h; cases h), fun _ => Or.inr ⟨(g_c0_eq h0).1, fun o S' sg' hq => hq.1⟩⟩ hs fun o S' sg' hq => ?_
  obtain ⟨rfl, rfl, rfl⟩ := hq
  refine ⟨_, rfl, ?_⟩
  rw [(g_c0_eq h0).1, (g_c0_eq h0).2]
  exact kk
end GSD
/-! decode tables -/
def g_dc (b : ByteArray) : Nat → List (Instr × Nat) → Bool
  | _, [] => true
  | pc, x :: r => decide (decode b pc = .ok x) && g_dc b (pc + x.2) r
def g_pk : Nat → List (Instr × Nat) → Nat → Option (Nat × Instr × Nat)
  | _, [], _ => none
  | pc, x :: _, 0 => some (pc, x)
  | pc, x :: r, j + 1 => g_pk (pc + x.2) r j
theorem g_da {b : ByteArray} : ∀ {L : List (Instr × Nat)} {pc0 : Nat}, g_dc b pc0 L = true → ∀ (j : Nat) {pc : Nat} {x : Instr × Nat}, g_pk pc0 L j = some (pc, x) → decode b pc = .ok x := by
  intro L
  induction L with
  | nil => intro pc0 _ j pc x h; simp [g_pk] at h
  | cons y r ih =>
    intro pc0 h j pc x hp
    simp only [g_dc, Bool.and_eq_true, decide_eq_true_eq] at h
    cases j with
    | zero =>
      have e : some (pc0, y) = some (pc, x) := hp
      cases e
      exact h.1
    | succ j => exact ih h.2 j hp
end
section
/-! new cells: what the constructors do; the returns of methods that may throw; the script -/
def g_dk (ty : FieldType) (f : Option gF) : Bool := match f with
  | some none => decide (defaultValue ty = .int 0)
  | some (some none) => decide (defaultValue ty = .null)
  | _ => false
theorem g_dk_ok {N : Nat} {ty : Nat → FieldType} {fl : List gF} (ad : Nat → Nat) (h : ((List.range N).all fun j => g_dk (ty j) fl[j]?) = true) : ∀ j, j < N → defaultValue (ty j) = vp_V (fl.mapIdx (g_fv ad (fun _ => 0))) j := by
  intro j hj
  have h1 := List.all_eq_true.mp h j (List.mem_range.mpr hj)
  rw [vp_V, List.getD_eq_getElem?_getD, List.getElem?_mapIdx]
  cases hf : fl[j]? with
  | none => rw [hf] at h1; cases h1
  | some f =>
    rw [hf] at h1
    cases f with
    | none => exact of_decide_eq_true h1
    | some o => cases o with
      | none => exact of_decide_eq_true h1
      | some q => cases h1
/-- an array's kind: its place among the types, its class's name, its first contents -/
def g_ark (t n : Nat) (ty : FieldType) : Prop := (∀ ca : Nat → Nat, (g_ty ca)[t]? = some (ca t, ty)) ∧ (∀ (U : State) (cA : ClassId), va_RA U cA ty → U.vm.findClass ("[" ++ ty.toString) = some cA) ∧ ∀ ad ca : Nat → Nat, ∃ e : ClassId × vp_A, g_c ad ca (fun _ => 0) (.inl (t, n)) = .inl e ∧ vp_cell e.1 e.2 = arrV (ca t) n (fun _ => defaultValue ty)
theorem g_ark0 (n : Nat) : g_ark 0 n .int := ⟨fun _ => rfl, fun _ _ h => h, fun _ _ => ⟨_, rfl, rfl⟩⟩
theorem g_ark1 (n : Nat) : g_ark 1 n .boolean := ⟨fun _ => rfl, fun _ _ h => h, fun _ _ => ⟨_, rfl, rfl⟩⟩
theorem g_ark3 (n : Nat) : g_ark 3 n .long := ⟨fun _ => rfl, fun _ _ h => h, fun _ _ => ⟨_, rfl, rfl⟩⟩
/-- the answer of a constructor -/
def QC (S : List gH) (s : gS) : gO → List gH → gS → Prop := fun o S' sg => S' = S ∧ o = .inl none ∧ sg = s
theorem q_rC {S : List gH} {s : gS} : ∀ o S' sg', QC S s o S' sg' → ∃ r : Option Value, o = .inl r := fun _ _ _ h => ⟨_, h.2.1⟩
theorem q_rE {S : List gH} {J : gS → gS} {z : Int} {s : gS} : ∀ o S' sg', QE S J z s o S' sg' → ∃ r : Option Value, o = .inl r := fun _ _ _ h => ⟨_, h.2.1⟩
theorem q_rF {S : List gH} {J : gS → gS} {z : Int} {s : gS} : ∀ o S' sg', QF S J z s o S' sg' → ∃ r : Option Value, o = .inl r := fun _ _ _ h => ⟨_, h.2.1⟩
theorem q_rG {S : List gH} {J : gS → gS} {z : Int} {s : gS} : ∀ o S' sg', QG S J z s o S' sg' → ∃ r : Option Value, o = .inl r := fun _ _ _ h => ⟨_, h.2.1⟩
theorem q_rH {S : List gH} {J : gS → gS} {q : Nat} {z : Int} {s : gS} : ∀ o S' sg', QH q S J z s o S' sg' → ∃ r : Option Value, o = .inl r := fun _ _ _ h => ⟨_, h.2.1⟩
theorem q_x {S : List gH} {J : gS → gS} {z t0 z0 : Int} {s s0 : gS} (h : (some (0, z, s) : gT) = some (t0, z0, s0)) : QX S J t0 z0 s0 (.inl (some (gi z))) S (J s) := by cases h; exact ⟨rfl, rfl, rfl⟩
theorem q_t {S : List gH} {J : gS → gS} {k : Nat} {t0 z0 : Int} {s s0 : gS} (h : (some ((k : Int) + 1, 0, s) : gT) = some (t0, z0, s0)) : QX S J t0 z0 s0 (.inr k) S (J s) := by
  cases h
  refine ⟨rfl, ?_, rfl⟩
  rw [if_neg (by omega), show ((k : Int) + 1 - 1).toNat = k by omega]
section GMK
variable {M N : gM} {Q : gO → List gH → gS → Prop} {Z : gZ} {sg : gS} {pc : Nat} {lv : List (Option Value)} {st : List Value} {q ci k idx n t b : Nat} {fl : List gF} {S S' : List gH} {as stk : List Value}
theorem G_new {C : String} {T : u_T} {N : Nat} (ty : Nat → FieldType) (hd : decode (g_b M) pc = .ok (.new idx, 3)) (hc : g_cl[ci]? = some (C, T, N)) (hty : ∀ k, k < N → parseFieldDescriptor (T k).2.2.1 = some (ty k)) (hl : Cond.classLink (g_y M).cls idx C ∈ g_T) (hi : Cond.instantiable C N ∈ g_T) (hini : Cond.initialized C ∈ g_T) (ha : g_a M = true) (hlen : Z.1.length < 900) (hcells : Z.2.1 + 1 ≤ (g_m M).cells) (hslots : Z.2.2 + N ≤ (g_m M).slots) (hfl : ((List.range N).all fun j => g_dk (ty j) fl[j]?) = true) (hS : S' = Z.1 ++ [.inr (ci, fl)]) (hn : n = Z.1.length)
    (kk : G M Q (S', Z.2.1 + 1, Z.2.2 + N) (g_nw sg n) (pc + 3) lv (.ref n :: st)) : G M Q Z sg pc lv st := by
  subst hS hn
  intro p l e R s m args below meth c D A ad ca X H locs ls Y T0 hT X1
  have hsz := g_sz X Y hT X1 ha
  have hR := X.2.2.2.2.2.2.2.1
  have hts := X.2.2.2.2.2.2.1
  have hKn := X.2.2.2.2.2.2.2.2.1.1 ci _ hc
  have hA : A (ad Z.1.length) := X.2.2.2.2.2.2.2.2.2.1 _ (by rw [← hsz]; exact Y.2.2.1.1)
  suffices hw : W p l e R s m args below meth c H locs Z.2.1 Z.2.2 (gMQ below (g_Q D A ad ca (g_z M) (g_m M).cells Q) args s (g_m M).cells (g_m M).slots A) (F0 m pc ls (st.map (g_v ad))) from hw T0 hT X1
  refine W.newcK (h := ad Z.1.length) X.1 X.2.1 X.2.2.2.2.1 (hts _ hl) (hts _ hi) (hts _ hini) rfl hd (by rw [hR]; exact hcells) (by rw [hR]; exact hslots) hKn.2.1 hsz (fun H1 kC hkC e1 z1 o1 => ?_)
  have hk : ∀ (k : Nat) (x : Nat × va_E), (g_w ad ca Z.1 sg)[k]? = some x → H1[x.1]? = H[x.1]? := fun k x hx => o1 x.1 (by rw [← hsz]; exact (Y.1 k x hx).lt)
  obtain ⟨y1, y2, y3⟩ := Y.2.2.2.2 ha
  have had := X.2.2.2.2.2.2.2.2.2.2.2.2.1 Z.1.length hlen
  refine kk p l e R s m args below meth c D A ad ca X H1 locs ls ⟨?_, ?_, ⟨Nat.le_trans Y.2.2.1.1 (by omega), fun x h1 h2 => (o1 x (by have := Y.2.2.1.1; omega)).trans (Y.2.2.1.2.1 x h1 h2), Y.2.2.1.2.2⟩, Y.2.2.2.1, fun _ => ⟨?_, ?_, ?_⟩⟩
  · show va_P D g_cl (g_w ad ca (Z.1 ++ [.inr (ci, fl)]) (g_nw sg Z.1.length)) H1
    rw [g_w_push]
    refine (Y.1.kept hk).app (fun k x hx => ?_)
    have hz : k < 1 := (List.getElem?_eq_some_iff.mp hx).1
    rw [show k = 0 by omega] at hx
    cases hx
    exact ⟨_, hc, (u_born ty hts (g_clw hc) hKn hkC e1 hty).to (g_dk_ok ad hfl)⟩
  · show va_D A (g_w ad ca (Z.1 ++ [.inr (ci, fl)]) (g_nw sg Z.1.length))
    rw [g_w_push]
    exact Y.2.1.push Y.1 hsz.symm hA
  · show s.heap.size + (Z.2.1 + 1) = ad (Z.1 ++ [(.inr (ci, fl) : gH)]).length
    rw [List.length_append, List.length_singleton, had]
    omega
  · show (Z.1 ++ [(.inr (ci, fl) : gH)]).length ≤ 900
    rw [List.length_append, List.length_singleton]
    omega
  · intro h
    cases (List.append_eq_nil_iff.mp h).2
theorem G_newarray {atype : ArrayType} {ty : FieldType} {i : Int} (hd : decode (g_b M) pc = .ok (.newarray atype, 2)) (hty : newarray.typeOf atype = ty) (hk : g_ark t n ty) (hw : Cond.arrayClass ty ∈ g_T) (hi : w32 i = (n : Int)) (hb : n * componentBytes ty ≤ 536870912) (ha : g_a M = true) (hlen : Z.1.length < 900) (hcells : Z.2.1 + 1 ≤ (g_m M).cells) (hslots : Z.2.2 + n ≤ (g_m M).slots) (hS : S' = Z.1 ++ [.inl (t, n)]) (hq : q = Z.1.length)
    (kk : G M Q (S', Z.2.1 + 1, Z.2.2 + n) (g_nw sg q) (pc + 2) lv (.ref q :: st)) : G M Q Z sg pc lv (gi i :: st) := by
  subst hS hq hty
  intro p l e R s m args below meth c D A ad ca X H locs ls Y T0 hT X1
  have hsz := g_sz X Y hT X1 ha
  have hR := X.2.2.2.2.2.2.2.1
  have hts := X.2.2.2.2.2.2.1
  obtain ⟨k1, k2, k3⟩ := hk
  have hA : A (ad Z.1.length) := X.2.2.2.2.2.2.2.2.2.1 _ (by rw [← hsz]; exact Y.2.2.1.1)
  obtain ⟨-, hra⟩ := X.2.2.2.2.2.2.2.2.1.2 t _ (k1 ca)
  suffices hw : W p l e R s m args below meth c H locs Z.2.1 Z.2.2 (gMQ below (g_Q D A ad ca (g_z M) (g_m M).cells Q) args s (g_m M).cells (g_m M).slots A) (F0 m pc ls ((gi i :: st).map (g_v ad))) from hw T0 hT X1
  refine va_newaK (h := ad Z.1.length) (N := n) (n := Int32.ofInt i) X.1 X.2.1 (hts _ hw) rfl hd rfl (w32_nn (by omega)) (by rw [w32_cl]; omega) hb (by rw [hR]; exact hcells) (by rw [hR]; exact hslots) hsz (fun H1 cA e1 z1 o1 hAr hNm => ?_)
  have hcA : cA = ca t := Option.some.inj (hNm.symm.trans (k2 s _ hra))
  subst hcA
  have hk : ∀ (k : Nat) (x : Nat × va_E), (g_w ad ca Z.1 sg)[k]? = some x → H1[x.1]? = H[x.1]? := fun k x hx => o1 x.1 (by rw [← hsz]; exact (Y.1 k x hx).lt)
  obtain ⟨y1, y2, y3⟩ := Y.2.2.2.2 ha
  have had := X.2.2.2.2.2.2.2.2.2.2.2.2.1 Z.1.length hlen
  refine kk p l e R s m args below meth c D A ad ca X H1 locs ls ⟨?_, ?_, ⟨Nat.le_trans Y.2.2.1.1 (by omega), fun x h1 h2 => (o1 x (by have := Y.2.2.1.1; omega)).trans (Y.2.2.1.2.1 x h1 h2), Y.2.2.1.2.2⟩, Y.2.2.2.1, fun _ => ⟨?_, ?_, ?_⟩⟩
  · show va_P D g_cl (g_w ad ca (Z.1 ++ [.inl (t, n)]) (g_nw sg Z.1.length)) H1
    rw [g_w_push]
    refine (Y.1.kept hk).app (fun k x hx => ?_)
    have hz : k < 1 := (List.getElem?_eq_some_iff.mp hx).1
    rw [show k = 0 by omega] at hx
    cases hx
    obtain ⟨ee, q1, q2⟩ := k3 ad ca
    show va_at D g_cl (ad Z.1.length, g_c ad ca (fun _ => 0) (.inl (t, n))) H1
    rw [q1]
    show H1[ad Z.1.length]? = some (vp_cell ee.1 ee.2)
    rw [q2]
    exact e1
  · show va_D A (g_w ad ca (Z.1 ++ [.inl (t, n)]) (g_nw sg Z.1.length))
    rw [g_w_push]
    exact Y.2.1.push Y.1 hsz.symm hA
  · show s.heap.size + (Z.2.1 + 1) = ad (Z.1 ++ [(.inl (t, n) : gH)]).length
    rw [List.length_append, List.length_singleton, had]
    omega
  · show (Z.1 ++ [(.inl (t, n) : gH)]).length ≤ 900
    rw [List.length_append, List.length_singleton]
    omega
  · intro h
    cases (List.append_eq_nil_iff.mp h).2
def g_oir (M : gM) (st : List Value) : Bool := decide (1 ≤ (g_m M).frames) && decide ((st.map fun v => v.category).sum + 12 ≤ (g_m M).locals)
theorem G_objInit (hd : decode (g_b M) pc = .ok (.invokespecial idx, 3)) (hl : Cond.methodLink (g_y M).cls idx Lib.objectInit ∈ g_T) (hi : Cond.instanceMethod Lib.objectInit ∈ g_T) (hc : Cond.code Lib.objectInit ⟨#[0xb1]⟩ 1 none ∈ g_T) (hr : g_oir M st = true) (kk : G M Q Z sg (pc + 3) lv st) : G M Q Z sg pc lv (.ref b :: st) := by
  intro p l e R s m args below meth c D A ad ca X H locs ls Y
  have hts := X.2.2.2.2.2.2.1
  simp only [g_oir, Bool.and_eq_true, decide_eq_true_eq] at hr
  have ee : ((st.map (g_v ad)).map fun v => v.category) = st.map fun v => v.category := by
    rw [List.map_map]
    exact List.map_congr_left fun v _ => g_v_cat ad v
  refine W.objInit (a := ad b) (rest := st.map (g_v ad)) X.1 X.2.1 X.2.2.2.2.1 (hts _ hl) (hts _ hi) (hts _ hc) rfl (Y.2.2.2.1.1.trans X.2.2.2.1.symm) rfl hd (by rw [X.2.2.2.2.2.2.2.1]; exact hr.1) ?_ (kk p l e R s m args below meth c D A ad ca X H locs ls Y)
  rw [X.2.2.2.2.2.2.2.1, ee]
  show 2 * 0 + _ + 12 ≤ _
  omega
/-- a constructor sets a final reference -/
theorem G_putF {r : Nat} {ty : FieldType} (hd : decode (g_b M) pc = .ok (.putfield idx, 3)) (hS : Z.1[q]? = some (.inr (ci, fl))) (hl : g_fp (g_y M).cls idx ci k true ty) (hi : (g_y M).name = "<init>") (hc : (g_cl[ci]?).map (fun x => (x.2.1 k).1) = some (g_y M).cls) (hn : ∀ a : Nat, narrow ty (.ref a) = .ref a) (hfit : ∀ a : Nat, fits ty (.ref a) = true) (hk : k < fl.length) (hlk : ∀ C T N, g_cl[ci]? = some (C, T, N) → Cond.fieldLink (g_y M).cls idx (T k).1 (T k).2.1 (T k).2.2.1 ∈ g_T) (hS' : S' = Z.1.set q (.inr (ci, fl.set k (some (some r)))))
    (kk : G M Q (S', Z.2.1, Z.2.2) sg (pc + 3) lv st) : G M Q Z sg pc lv (.ref r :: .ref q :: st) := by
  subst hS'
  exact G_putR hd hS hl hi hc hn hfit hk hlk kk
theorem H_cI {c1 c2 : Nat} {f : gS} (hc : Ct N S (.ref b :: as) sg (QC S' f)) (hd : decode (g_b M) pc = .ok (.invokespecial idx, 3)) (hlk : g_lk (g_y M).cls idx (g_y N)) (hm : g_mi N n) (hn : as.length = n) (hft : g_ft M N (S, c1, c2) = true) (hcr : g_cr st = true) (hal : g_a M = true ∧ g_z N = true) (hs : stk = as.reverse ++ .ref b :: st)
    (kk : G M Q (S', c1 + (g_m N).cells, c2 + (g_m N).slots) f (pc + 3) lv st) : G M Q (S, c1, c2) sg pc lv stk := by
  refine G_cI (Z := (S, c1, c2)) hc hd hlk hm hn hft hcr ⟨fun _ => hal.1, fun _ => Or.inl hal.2⟩ hs fun o S1 sg' hq => ?_
  obtain ⟨rfl, rfl, rfl⟩ := hq
  exact ⟨none, rfl, kk⟩
theorem G_ireturnX {z : Int} {ty : FieldType} (hd : decode (g_b M) pc = .ok (.ireturn, 1)) (hr : g_r M = some ty) (hn : narrow ty (gi z) = gi z) (h1 : Z.2.1 ≤ (g_m M).cells) (h2 : Z.2.2 ≤ (g_m M).slots) (hz : g_z M = false) (hq : Q (.inl (some (gi z))) Z.1 sg) : G M Q Z sg pc lv [gi z] := by
  intro p l e R s m args below meth c D A ad ca X H locs ls Y T hT X1
  refine g_post (fun t ht => gMQ_of ht) (W.zret (v := Int32.ofInt z) X.1 X.2.1 (X.2.2.1.trans hr) hn (fun t ht hW => ?_) Y.2.2.1.2.2 hd X.2.2.2.2.2.1) T hT (stand_widen X1 h1 h2)
  exact ⟨⟨.inl (some (gi z)), Z.1, sg, rfl, hq, by rw [ht]; exact Y.1, Y.2.1, fun ha => g_nz hz ha⟩, Y.2.2.1.F ht⟩
/-- a number of the script -/
def g_sx (r : Nat × (Nat → Int32)) (j : Nat) : Int := (r.2 j).toInt
theorem G_sld {r : Nat × (Nat → Int32)} {x a : Int} (hd : decode (g_b M) pc = .ok (.iaload, 1)) (hr : g_x M = some r) (ha : w32 x = a) (hx : 0 ≤ a ∧ a < ((r.1 : Nat) : Int)) (kk : G M Q Z sg (pc + 1) lv (gi (g_sx r a.toNat) :: st)) : G M Q Z sg pc lv (gi x :: .ref 4000 :: st) := by
  subst ha
  intro p l e R s m args below meth c D A ad ca X H locs ls Y
  obtain ⟨h1, h2, h3⟩ := X.2.2.2.2.2.2.2.2.2.2.2.2.2.1 r hr
  have hv : Value.int (r.2 (Int32.ofInt x).toNatClampNeg) = gi (g_sx r (w32 x).toNat) := by rw [w32_cl]; exact gi_eq (Int32.ofInt_toInt _).symm
  refine va_sld (i := Int32.ofInt x) X.1 X.2.1 h1 h2 h3 Y.2.2.1 (w32_in.mpr hx) hd ?_
  rw [hv]
  exact kk p l e R s m args below meth c D A ad ca X H locs ls Y
theorem G_slen {r : Nat × (Nat → Int32)} {z : Int} (hd : decode (g_b M) pc = .ok (.arraylength, 1)) (hr : g_x M = some r) (hz : Int32.ofNat r.1 = Int32.ofInt z) (kk : G M Q Z sg (pc + 1) lv (gi z :: st)) : G M Q Z sg pc lv (.ref 4000 :: st) := by
  intro p l e R s m args below meth c D A ad ca X H locs ls Y
  obtain ⟨h1, h2, h3⟩ := X.2.2.2.2.2.2.2.2.2.2.2.2.2.1 r hr
  refine va_slen X.1 X.2.1 h1 h2 h3 Y.2.2.1 hd ?_
  rw [gi_eq hz]
  exact kk p l e R s m args below meth c D A ad ca X H locs ls Y
end GMK
theorem q_c {S : List gH} {z z0 : Int} {s s0 : gS} (h : (some (z, s) : gA) = some (z0, s0)) : QC S s0 (.inl none) S s := by cases h; exact ⟨rfl, rfl, rfl⟩
end
section
/-! a method throws an exception of its own making -/
section GTH
variable {p : Program} {l : Launch} {e : Env} {R : Room} {s : State} {m : MethodId} {args : Array Value} {below : List Frame} {meth : Method} {c : Code} {T : State} {locs : List Loc} {cells slots : Nat}
/-- the walk seen from where it is now -/
theorem g_reroot (X : Stand p l e R s m args below meth c T locs cells slots) (h1 : cells ≤ R.cells) (h2 : slots ≤ R.slots) : Stand p l e { R with cells := R.cells - cells, slots := R.slots - slots } (T.setFrames s.frames) m args below meth c T [] 0 0 := by
  obtain ⟨g₀, hfr⟩ := X.frames_eq
  have hcur : T.cur < T.threads.size := State.cur_lt_of_frames hfr
  have hf : (T.setFrames s.frames).frames = s.frames := State.frames_setFrames _ hcur
  have hm : ∀ mm, (T.setFrames s.frames).vm.method? mm = s.vm.method? mm := fun mm => X.warmed.alike.method? mm
  have hmT : ∀ mm, T.vm.method? mm = s.vm.method? mm := X.warmed.alike.method?
  have hl : (T.setFrames s.frames).localsInUse = s.localsInUse := by
    rw [State.localsInUse_invoking (hf.trans X.frames) X.method' X.code, State.localsInUse_invoking X.frames X.method X.code]
  obtain ⟨t, ht, -⟩ := State.frames_cons (hf.trans X.frames)
  obtain ⟨t0, ht0, -⟩ := State.frames_cons hfr
  have hcur' : (T.setFrames s.frames).cur < (T.setFrames s.frames).threads.size := State.cur_lt_of_frames (hf.trans X.frames)
  refine ⟨X.admits, X.cas, X.clock, hf.trans X.frames, ?_, ?_, X.method', X.code, X.here, X.tail, State.WarmedH.refl _, ?_, ?_, ?_⟩
  · have hr := X.room
    have ha := X.heapSize
    have hb := X.used
    have hk : (T.setFrames s.frames).slotsTrue = true := X.book
    have hlim : e.platform.stackLimits (T.setFrames s.frames).me = e.platform.stackLimits s.me := by rw [State.stackLimits_setFrames]; exact X.limits
    have hby : (T.setFrames s.frames).me.stackBytes = s.me.stackBytes := by rw [State.stackBytes_setFrames]; exact X.bytes
    simp only [State.hasRoom, Bool.and_eq_true, decide_eq_true_eq] at hr ⊢
    rw [hl, hf, hlim, hby]
    refine ⟨⟨⟨⟨hr.1.1.1.1, hr.1.1.1.2⟩, ?_⟩, ?_⟩, hk⟩
    · show T.heap.size + (R.cells - cells) ≤ _
      have := hr.1.1.2
      omega
    · show T.slotsUsed + (R.slots - slots) ≤ _
      have := hr.1.2
      omega
  · have h := X.hears
    cases below with
    | nil => simpa [State.hears, hmT] using h
    | cons f r => cases f <;> first | exact h | simpa [State.hears, State.code?_eq, hmT] using h
  · rw [State.stackLimits_setFrames]
  · rw [State.stackBytes_setFrames]
  · have h := (State.sameButNew.refl (T.setFrames s.frames) ht).setFrames T.frames hcur'
    rw [State.setFrames_setFrames, State.setFrames_self ht0] at h
    exact h
end GTH
def g_exn (_ : Nat) : List String := ["java/lang/RuntimeException", "java/lang/Exception"]
def g_sr (w : Cond) : Bool := decide (w = .isRef (.static "java/lang/Throwable" "UNASSIGNED_STACK" "[Ljava/lang/StackTraceElement;")) || decide (w = .isRef (.static "java/lang/Throwable" "SUPPRESSED_SENTINEL" "Ljava/util/List;"))
def g_exw (own : String) (idx ic k : Nat) : Prop := Cond.classLink own idx (g_ex k) ∈ g_T ∧ Cond.initialized (g_ex k) ∈ g_T ∧ Bundle.fit (g_ex k) = true ∧ (∀ n ∈ g_exn k, Bundle.fit n = true) ∧ ∀ w ∈ Bundle.ownAtoms0 own ic (g_ex k) (g_exn k), w ∈ g_T ∨ g_sr w = true
def g_exr (M : gM) (Z : gZ) (st : List Value) : Bool := decide (5 < (g_m M).frames) && decide ((st.map fun v => v.category).sum + 81 ≤ (g_m M).locals) && decide (Z.2.1 + 1 = (g_m M).cells) && decide (Z.2.2 + 6 = (g_m M).slots)
theorem g_isRef {C n d : String} {A : Nat → Prop} {s : State} {args : Array Value} (h : va_Zq C n d A s s.heap) : (Cond.isRef (.static C n d)).before args s = true := by
  rcases h with h | ⟨t, h⟩
  · obtain ⟨cf, kf, fi, f, a, cell, h1, h2, h3, h4, h5, h6, h7, -⟩ := h
    simp [Cond.before, Cond.holds, Cond.value, Term.eval, State.fieldNamed?, h1, h2, h4, h5, h6, h7]
  · obtain ⟨cf, kf, fi, f, a, cell, h1, h2, h3, h4, h5, h6, h7, -⟩ := h
    simp [Cond.before, Cond.holds, Cond.value, Term.eval, State.fieldNamed?, h1, h2, h4, h5, h6, h7]
theorem g_cellEq {a b : Cell} (h : b = { a with slots := b.slots }) (hs : ∀ i : Nat, b.slots[i]? = a.slots[i]?) : b = a := by
  have e : b.slots = a.slots := Array.ext_getElem? hs
  rw [h, e]
section GTX
variable {M : gM} {Q : gO → List gH → gS → Prop} {Z : gZ} {sg : gS} {pc : Nat} {lv : List (Option Value)} {st : List Value} {idx ic : Nat}
theorem G_throw (k : Nat) (hd0 : decode (g_b M) pc = .ok (.new idx, 3)) (hd1 : decode (g_b M) (pc + 3) = .ok (.dup, 1)) (hd2 : decode (g_b M) (pc + 3 + 1) = .ok (.invokespecial ic, 3)) (hd3 : decode (g_b M) (pc + 3 + 1 + 3) = .ok (.athrow, 1)) (hx : g_exw (g_y M).cls idx ic k) (hn : (g_y M).cls ≠ "BandPressLaw") (hr : g_exr M Z st = true) (hz : g_z M = false) (hq : Q (.inr k) Z.1 sg) : G M Q Z sg pc lv st := by
  intro p l e R s m args below meth c D A ad ca X H locs ls Y T hT X1
  obtain ⟨hcl, hini, hfit, hfitn, hat⟩ := hx
  simp only [g_exr, Bool.and_eq_true, decide_eq_true_eq] at hr
  obtain ⟨⟨⟨hr1, hr2⟩, hr3⟩, hr4⟩ := hr
  have hR := X.2.2.2.2.2.2.2.1
  have hts := X.2.2.2.2.2.2.1
  have hexT : c.exceptionTable.isEmpty = true := (X.2.2.2.2.2.2.2.2.2.2.2.2.2.2.2.2).resolve_right hn
  have htr : e.platform.stackTraces = false := by
    have := X1.admits.platform
    rw [this]
    exact X.2.2.2.2.2.2.2.2.2.2.2.2.2.2.2.1
  have X2 := g_reroot X1 (by rw [hR]; omega) (by rw [hR]; omega)
  have hW0 : s.WarmedH (T.setFrames s.frames).vm := X1.warmed
  have hts' : ∀ w ∈ g_T, w.before args (T.setFrames s.frames) = true := fun w hw => word_at hW0 (good_of_word (g_T_good hw)) (hts w hw)
  have hown' : (T.setFrames s.frames).vm.findClass (g_y M).cls = some m.cls := by
    rw [hW0.alike.findClass]
    exact X.2.2.2.2.1
  have hK := g_K_call (U := T.setFrames s.frames) (B := fun q => A q) X.2.2.2.2.2.2.2.2.2.2.1 Y.2.2.1 hT hW0 (fun _ h => h)
  have hat' : ∀ w ∈ Bundle.ownAtoms0 (g_y M).cls ic (g_ex k) (g_exn k), w.before args (T.setFrames s.frames) = true := by
    intro w hw
    rcases hat w hw with h | h
    · exact hts' w h
    · simp only [g_sr, Bool.or_eq_true, decide_eq_true_eq] at h
      rcases h with rfl | rfl
      · exact g_isRef hK.2.2.2.2.2.2.1
      · exact g_isRef hK.2.2.2.2.2.2.2
  have inner : W p l e { R with cells := R.cells - Z.2.1, slots := R.slots - Z.2.2 } (T.setFrames s.frames) m args below meth c T.heap [] 0 0 (fun U => U.status = .running ∧ Ended U below (.threw T.heap.size) ∧ (T.setFrames s.frames).WarmedH U.vm ∧ (T.setFrames s.frames).sameButNew ({ U with vm := (T.setFrames s.frames).vm } : State) [] (0 + 1) (0 + 6) ∧ ∃ ce : Cell, U.heap[T.heap.size]? = some ce ∧ Bundle.OwnCell args (T.setFrames s.frames) (g_ex k) T.heap.size .null ce) (F0 m pc ls (st.map (g_v ad))) := by
    refine W.newc (C := g_ex k) (n := 6) X.1 X.2.1 hown' (hts' _ hcl) (hat' _ (by simp [Bundle.ownAtoms0])) (hts' _ hini) rfl hd0 (by show 0 + 1 ≤ R.cells - Z.2.1; rw [hR]; omega) (by show 0 + 6 ≤ R.slots - Z.2.2; rw [hR]; omega) (fun cC kC h1 h2 h3 h4 => ?_)
    refine lv_dup X.1 X.2.1 hd1 rfl ?_
    intro T2 hT2 X3
    have e2 : ((st.map (g_v ad)).map fun v => v.category) = st.map fun v => v.category := by
      rw [List.map_map]
      exact List.map_congr_left fun v _ => g_v_cat ad v
    obtain ⟨U, a1, a2, a3, a4, a5, ce, a6, a7⟩ := X3.ctorThrow0 (own := (g_y M).cls) (cls := g_ex k) (names := g_exn k) (ic := ic) (a := T.heap.size) (cX := cC) (kX := kC) (rest := st.map (g_v ad)) (g := F0 m (pc + 3 + 1) ls (.ref T.heap.size :: .ref T.heap.size :: st.map (g_v ad))) X.1 htr hown' hfit hfitn hat' (fun x hx => by cases hx) h1 h2
      (by rw [hT2, Array.getElem?_push_size]) (Nat.le_refl _) rfl (Y.2.2.2.1.1.trans X.2.2.2.1.symm) rfl rfl rfl (by rw [X.2.1]; exact hd2) (by rw [X.2.1]; exact hd3)
      (fun x hx => by rw [Array.isEmpty_iff] at hexT; rw [hexT] at hx; cases hx) (by show 2 + 3 < R.frames; rw [hR]; omega) (by
        show 2 * 0 + (1 + ((st.map (g_v ad)).map fun v => v.category).sum) + (13 * (2 + 1) + 41) ≤ R.locals
        rw [e2, hR]
        omega) X.2.2.2.2.2.1
    exact ⟨U, a1, a2, a3, a4, a5, ce, a6, a7⟩
  obtain ⟨U, b1, b2, b3, b4, b5, ce, b6, b7⟩ := inner T rfl X2
  have hsT : T.sameButNew ({ U with vm := T.vm } : State) [] 1 6 := by
    obtain ⟨e1, r⟩ := b5
    rw [State.setFrames_setFrames] at e1
    exact ⟨e1, r⟩
  have hheap : ∀ q : Nat, q < H.size → U.heap[q]? = H[q]? := by
    intro q hq2
    have hlt : q < T.heap.size := by rw [hT]; exact hq2
    obtain ⟨c', q1, q2, q3, q4⟩ := hsT.2.2.2.2.2 q _ (Array.getElem?_eq_getElem hlt)
    have e1 := g_cellEq q2 (fun i => q4 i (by simp))
    rw [← hT, Array.getElem?_eq_getElem hlt, ← e1]
    exact q1
  have hsz : H.size ≤ U.heap.size := by
    have := hsT.2.1
    rw [hT] at this
    exact this
  refine ⟨U, b1, .threw T.heap.size, b2, b3, ⟨⟨.inr k, Z.1, sg, ⟨T.heap.size, ce, rfl, b6, fun z hz2 => ?_, ?_⟩, hq, ?_, Y.2.1, fun ha => g_nz hz ha⟩, ?_, ?_⟩, locs, ?_, ?_, Y.2.2.1.2.2⟩
  · rw [b7.vm] at hz2
    cases hz2
  · rw [b4.alike.findClass]
    exact b7.cls
  · exact Y.1.kept fun k2 q hk2 => hheap q.1 (Y.1 k2 q hk2).lt
  · exact Nat.le_trans Y.2.2.1.1 hsz
  · intro q h1 h2
    rw [hheap q (Nat.lt_of_lt_of_le h1 Y.2.2.1.1)]
    exact Y.2.2.1.2.1 q h1 h2
  · exact State.WarmedH.trans X1.warmed b4
  · have h := X1.same.trans (hsT.setVm s.vm)
    rw [List.append_nil, hr3, hr4] at h
    exact h
end GTX
theorem g_exa {ws : List Cond} (h : (ws.all fun w => (decide (w ∈ lw_tbl) && goodWord w) || g_sr w) = true) : ∀ w ∈ ws, w ∈ g_T ∨ g_sr w = true := by
  intro w hw
  have h1 := List.all_eq_true.mp h w hw
  simp only [Bool.or_eq_true, Bool.and_eq_true, decide_eq_true_eq] at h1
  exact h1.imp (fun h => List.mem_filter.mpr h) id
end
section
/-! methods and their instructions by program -/
def M_Text_init : gM := (⟨"BandPress$Text", "<init>", "()V"⟩, prog_11_method_1_code, none, 1, { frames := 1, cells := 3, slots := 608, locals := 12 }, true, true, none)
def dl_Text_init : List (Instr × Nat) := [(.aload_n 0, 1), (.invokespecial 3, 3), (.aload_n 0, 1), (.sipush 300, 3), (.newarray .int, 2), (.putfield 9, 3), (.aload_n 0, 1), (.sipush 300, 3), (.newarray .int, 2), (.putfield 15, 3), (.aload_n 0, 1), (.bipush 8, 2), (.newarray .int, 2), (.putfield 18, 3), (.return_, 1)]
set_option maxHeartbeats 4000000 in
set_option maxRecDepth 100000 in
theorem dt_Text_init : g_dc (g_b M_Text_init) 0 dl_Text_init = true := by decide +kernel
def M_Calls_init : gM := (⟨"BandPress$Calls", "<init>", "()V"⟩, prog_2_method_1_code, none, 1, { frames := 1, cells := 4, slots := 84, locals := 12 }, true, true, none)
def dl_Calls_init : List (Instr × Nat) := [(.aload_n 0, 1), (.invokespecial 3, 3), (.aload_n 0, 1), (.bipush 21, 2), (.newarray .int, 2), (.putfield 9, 3), (.aload_n 0, 1), (.bipush 21, 2), (.newarray .int, 2), (.putfield 15, 3), (.aload_n 0, 1), (.bipush 21, 2), (.newarray .int, 2), (.putfield 18, 3), (.aload_n 0, 1), (.bipush 21, 2), (.newarray .int, 2), (.putfield 21, 3), (.aload_n 0, 1), (.iconst (-1), 1), (.putfield 24, 3), (.return_, 1)]
set_option maxHeartbeats 4000000 in
set_option maxRecDepth 100000 in
theorem dt_Calls_init : g_dc (g_b M_Calls_init) 0 dl_Calls_init = true := by decide +kernel
def M_Filler_init : gM := (⟨"BandPress$Filler", "<init>", "()V"⟩, prog_3_method_1_code, none, 1, { frames := 1, cells := 2, slots := 112, locals := 12 }, true, true, none)
def dl_Filler_init : List (Instr × Nat) := [(.aload_n 0, 1), (.invokespecial 3, 3), (.aload_n 0, 1), (.bipush 48, 2), (.newarray .long, 2), (.putfield 9, 3), (.aload_n 0, 1), (.bipush 64, 2), (.newarray .int, 2), (.putfield 15, 3), (.return_, 1)]
set_option maxHeartbeats 4000000 in
set_option maxRecDepth 100000 in
theorem dt_Filler_init : g_dc (g_b M_Filler_init) 0 dl_Filler_init = true := by decide +kernel
def M_Values_init : gM := (⟨"BandPress$Values", "<init>", "()V"⟩, prog_12_method_1_code, none, 1, { frames := 1, cells := 1, slots := 32, locals := 12 }, true, true, none)
def dl_Values_init : List (Instr × Nat) := [(.aload_n 0, 1), (.invokespecial 3, 3), (.aload_n 0, 1), (.bipush 32, 2), (.newarray .int, 2), (.putfield 9, 3), (.return_, 1)]
set_option maxHeartbeats 4000000 in
set_option maxRecDepth 100000 in
theorem dt_Values_init : g_dc (g_b M_Values_init) 0 dl_Values_init = true := by decide +kernel
def M_Settings_init : gM := (⟨"BandPress$Settings", "<init>", "()V"⟩, prog_10_method_1_code, none, 1, { frames := 1, cells := 6, slots := 265, locals := 24 }, true, true, none)
def dl_Settings_init : List (Instr × Nat) := [(.aload_n 0, 1), (.invokespecial 3, 3), (.aload_n 0, 1), (.iconst 5, 1), (.newarray .int, 2), (.putfield 9, 3), (.aload_n 0, 1), (.iconst 5, 1), (.newarray .int, 2), (.putfield 15, 3), (.aload_n 0, 1), (.iconst 5, 1), (.newarray .int, 2), (.putfield 18, 3), (.aload_n 0, 1), (.iconst 5, 1), (.newarray .int, 2), (.putfield 21, 3), (.aload_n 0, 1), (.iconst 5, 1), (.newarray .int, 2), (.putfield 24, 3), (.aload_n 0, 1), (.sipush 240, 3), (.newarray .long, 2), (.putfield 27, 3), (.aload_n 0, 1), (.getfield 9, 3), (.iconst 0, 1), (.bipush 16, 2), (.iastore, 1), (.aload_n 0, 1), (.getfield 15, 3), (.iconst 0, 1), (.bipush 16, 2), (.iastore, 1), (.aload_n 0, 1), (.getfield 24, 3), (.iconst 0, 1), (.bipush 16, 2), (.iastore, 1), (.aload_n 0, 1), (.getfield 27, 3), (.ldc2_w 31, 3), (.invokestatic 33, 3), (.return_, 1)]
set_option maxHeartbeats 4000000 in
set_option maxRecDepth 100000 in
theorem dt_Settings_init : g_dc (g_b M_Settings_init) 0 dl_Settings_init = true := by decide +kernel
def M_Path_init : gM := (⟨"BandPress$Path", "<init>", "()V"⟩, prog_9_method_1_code, none, 1, { frames := 1, cells := 5, slots := 650, locals := 12 }, true, true, none)
def dl_Path_init : List (Instr × Nat) := [(.aload_n 0, 1), (.invokespecial 3, 3), (.aload_n 0, 1), (.sipush 200, 3), (.newarray .int, 2), (.putfield 9, 3), (.aload_n 0, 1), (.sipush 200, 3), (.newarray .int, 2), (.putfield 15, 3), (.aload_n 0, 1), (.sipush 200, 3), (.newarray .boolean, 2), (.putfield 18, 3), (.aload_n 0, 1), (.bipush 25, 2), (.newarray .int, 2), (.putfield 22, 3), (.aload_n 0, 1), (.bipush 25, 2), (.newarray .int, 2), (.putfield 25, 3), (.return_, 1)]
set_option maxHeartbeats 4000000 in
set_option maxRecDepth 100000 in
theorem dt_Path_init : g_dc (g_b M_Path_init) 0 dl_Path_init = true := by decide +kernel
def M_Pages_init : gM := (⟨"BandPress$Pages", "<init>", "()V"⟩, prog_8_method_1_code, none, 1, { frames := 1, cells := 2, slots := 432, locals := 12 }, true, true, none)
def dl_Pages_init : List (Instr × Nat) := [(.aload_n 0, 1), (.invokespecial 3, 3), (.aload_n 0, 1), (.sipush 384, 3), (.newarray .long, 2), (.putfield 9, 3), (.aload_n 0, 1), (.bipush 48, 2), (.newarray .long, 2), (.putfield 15, 3), (.return_, 1)]
set_option maxHeartbeats 4000000 in
set_option maxRecDepth 100000 in
theorem dt_Pages_init : g_dc (g_b M_Pages_init) 0 dl_Pages_init = true := by decide +kernel
def M_Job_init : gM := (⟨"BandPress$Job", "<init>", "()V"⟩, prog_4_method_1_code, none, 1, { frames := 2, cells := 31, slots := 2241, locals := 44 }, true, true, none)
def dl_Job_init : List (Instr × Nat) := [(.aload_n 0, 1), (.invokespecial 3, 3), (.aload_n 0, 1), (.new 9, 3), (.dup, 1), (.invokespecial 11, 3), (.putfield 12, 3), (.aload_n 0, 1), (.new 18, 3), (.dup, 1), (.invokespecial 20, 3), (.putfield 21, 3), (.aload_n 0, 1), (.new 25, 3), (.dup, 1), (.invokespecial 27, 3), (.putfield 28, 3), (.aload_n 0, 1), (.new 32, 3), (.dup, 1), (.invokespecial 34, 3), (.putfield 35, 3), (.aload_n 0, 1), (.bipush 26, 2), (.newarray .int, 2), (.putfield 39, 3), (.aload_n 0, 1), (.new 43, 3), (.dup, 1), (.invokespecial 45, 3), (.putfield 46, 3), (.aload_n 0, 1), (.new 50, 3), (.dup, 1), (.invokespecial 52, 3), (.putfield 53, 3), (.aload_n 0, 1), (.new 57, 3), (.dup, 1), (.invokespecial 59, 3), (.putfield 60, 3), (.return_, 1)]
set_option maxHeartbeats 4000000 in
set_option maxRecDepth 100000 in
theorem dt_Job_init : g_dc (g_b M_Job_init) 0 dl_Job_init = true := by decide +kernel
def M_Order_init : gM := (⟨"BandPress$Order", "<init>", "()V"⟩, prog_6_method_1_code, none, 1, { frames := 1, cells := 2, slots := 64, locals := 12 }, true, true, none)
def dl_Order_init : List (Instr × Nat) := [(.aload_n 0, 1), (.invokespecial 3, 3), (.aload_n 0, 1), (.bipush 32, 2), (.newarray .int, 2), (.putfield 9, 3), (.aload_n 0, 1), (.bipush 32, 2), (.newarray .boolean, 2), (.putfield 15, 3), (.return_, 1)]
set_option maxHeartbeats 4000000 in
set_option maxRecDepth 100000 in
theorem dt_Order_init : g_dc (g_b M_Order_init) 0 dl_Order_init = true := by decide +kernel
def M_Machine_init : gM := (⟨"BandPress$Machine", "<init>", "(LBandPress$Order;)V"⟩, prog_5_method_1_code, none, 2, { frames := 1, cells := 5, slots := 20, locals := 12 }, true, true, none)
def dl_Machine_init : List (Instr × Nat) := [(.aload_n 0, 1), (.invokespecial 3, 3), (.aload_n 0, 1), (.iconst 4, 1), (.newarray .int, 2), (.dup, 1), (.iconst 0, 1), (.iconst (-1), 1), (.iastore, 1), (.dup, 1), (.iconst 1, 1), (.iconst (-1), 1), (.iastore, 1), (.dup, 1), (.iconst 2, 1), (.iconst (-1), 1), (.iastore, 1), (.dup, 1), (.iconst 3, 1), (.iconst (-1), 1), (.iastore, 1), (.putfield 9, 3), (.aload_n 0, 1), (.iconst 4, 1), (.newarray .int, 2), (.putfield 15, 3), (.aload_n 0, 1), (.iconst 4, 1), (.newarray .boolean, 2), (.putfield 18, 3), (.aload_n 0, 1), (.iconst 4, 1), (.newarray .boolean, 2), (.putfield 22, 3), (.aload_n 0, 1), (.iconst 4, 1), (.newarray .int, 2), (.putfield 25, 3), (.aload_n 0, 1), (.aload_n 1, 1), (.putfield 28, 3), (.return_, 1)]
set_option maxHeartbeats 4000000 in
set_option maxRecDepth 100000 in
theorem dt_Machine_init : g_dc (g_b M_Machine_init) 0 dl_Machine_init = true := by decide +kernel
def M_Packer_init : gM := (⟨"BandPress$Packer", "<init>", "()V"⟩, prog_7_method_1_code, none, 1, { frames := 1, cells := 2, slots := 136, locals := 12 }, true, true, none)
def dl_Packer_init : List (Instr × Nat) := [(.aload_n 0, 1), (.invokespecial 3, 3), (.aload_n 0, 1), (.sipush 128, 3), (.newarray .int, 2), (.putfield 9, 3), (.aload_n 0, 1), (.bipush 8, 2), (.newarray .int, 2), (.putfield 15, 3), (.return_, 1)]
set_option maxHeartbeats 4000000 in
set_option maxRecDepth 100000 in
theorem dt_Packer_init : g_dc (g_b M_Packer_init) 0 dl_Packer_init = true := by decide +kernel
def M_B_init : gM := (⟨"BandPress", "<init>", "()V"⟩, prog_1_method_1_code, none, 1, { frames := 3, cells := 48, slots := 3109, locals := 64 }, true, true, none)
def dl_B_init : List (Instr × Nat) := [(.aload_n 0, 1), (.invokespecial 1, 3), (.aload_n 0, 1), (.new 7, 3), (.dup, 1), (.invokespecial 9, 3), (.putfield 10, 3), (.aload_n 0, 1), (.new 16, 3), (.dup, 1), (.invokespecial 18, 3), (.putfield 19, 3), (.aload_n 0, 1), (.new 23, 3), (.dup, 1), (.invokespecial 25, 3), (.putfield 26, 3), (.aload_n 0, 1), (.new 30, 3), (.dup, 1), (.aload_n 0, 1), (.getfield 26, 3), (.invokespecial 32, 3), (.putfield 35, 3), (.aload_n 0, 1), (.new 39, 3), (.dup, 1), (.invokespecial 41, 3), (.putfield 42, 3), (.return_, 1)]
set_option maxHeartbeats 4000000 in
set_option maxRecDepth 100000 in
theorem dt_B_init : g_dc (g_b M_B_init) 0 dl_B_init = true := by decide +kernel
def M_M_init : gM := (⟨"BandPressModel", "<init>", "()V"⟩, prog_14_method_1_code, none, 2, { frames := 1, cells := 24, slots := 48225, locals := 12 }, true, true, none)
def dl_M_init : List (Instr × Nat) := [(.aload_n 0, 1), (.invokespecial 1, 3), (.aload_n 0, 1), (.sipush 300, 3), (.newarray .int, 2), (.putfield 7, 3), (.aload_n 0, 1), (.sipush 300, 3), (.newarray .int, 2), (.putfield 13, 3), (.aload_n 0, 1), (.bipush 33, 2), (.newarray .int, 2), (.putfield 16, 3), (.aload_n 0, 1), (.bipush 26, 2), (.newarray .int, 2), (.putfield 19, 3), (.aload_n 0, 1), (.bipush 33, 2), (.newarray .boolean, 2), (.putfield 22, 3), (.aload_n 0, 1), (.bipush 22, 2), (.newarray .int, 2), (.putfield 26, 3), (.aload_n 0, 1), (.bipush 22, 2), (.newarray .int, 2), (.putfield 29, 3), (.aload_n 0, 1), (.bipush 22, 2), (.newarray .int, 2), (.putfield 32, 3), (.aload_n 0, 1), (.bipush 22, 2), (.newarray .int, 2), (.putfield 35, 3), (.aload_n 0, 1), (.sipush 200, 3), (.newarray .int, 2), (.putfield 38, 3), (.aload_n 0, 1), (.sipush 200, 3), (.newarray .int, 2), (.putfield 41, 3), (.aload_n 0, 1), (.sipush 200, 3), (.newarray .boolean, 2), (.putfield 44, 3), (.aload_n 0, 1), (.bipush 25, 2), (.newarray .int, 2), (.putfield 47, 3), (.aload_n 0, 1), (.sipush 15360, 3), (.newarray .boolean, 2), (.putfield 50, 3), (.aload_n 0, 1), (.sipush 27648, 3), (.newarray .boolean, 2), (.putfield 53, 3), (.aload_n 0, 1), (.sipush 3072, 3), (.newarray .boolean, 2), (.putfield 56, 3), (.aload_n 0, 1), (.sipush 640, 3), (.newarray .int, 2), (.putfield 59, 3), (.aload_n 0, 1), (.iconst 4, 1), (.newarray .int, 2), (.putfield 62, 3), (.aload_n 0, 1), (.iconst 4, 1), (.newarray .int, 2), (.putfield 65, 3), (.aload_n 0, 1), (.iconst 4, 1), (.newarray .int, 2), (.putfield 68, 3), (.aload_n 0, 1), (.bipush 40, 2), (.newarray .int, 2), (.putfield 71, 3), (.aload_n 0, 1), (.iconst 4, 1), (.newarray .boolean, 2), (.putfield 74, 3), (.aload_n 0, 1), (.iconst 4, 1), (.newarray .boolean, 2), (.putfield 77, 3), (.aload_n 0, 1), (.bipush 40, 2), (.newarray .boolean, 2), (.putfield 80, 3), (.iconst 0, 1), (.istore_n 1, 1), (.iload_n 1, 1), (.iconst 4, 1), (.if_icmp .ge 16, 3), (.aload_n 0, 1), (.getfield 62, 3), (.iload_n 1, 1), (.iconst (-1), 1), (.iastore, 1), (.iinc 1 1, 3), (.goto (-15), 3), (.aload_n 0, 1), (.getfield 47, 3), (.iconst 0, 1), (.bipush 16, 2), (.iastore, 1), (.aload_n 0, 1), (.getfield 47, 3), (.iconst 1, 1), (.bipush 16, 2), (.iastore, 1), (.aload_n 0, 1), (.getfield 47, 3), (.iconst 4, 1), (.bipush 16, 2), (.iastore, 1), (.return_, 1)]
set_option maxHeartbeats 4000000 in
set_option maxRecDepth 100000 in
theorem dt_M_init : g_dc (g_b M_M_init) 0 dl_M_init = true := by decide +kernel
def M_Pages_isKept : gM := (⟨"BandPress$Pages", "isKept", "(I)Z"⟩, prog_8_method_3_code, some .boolean, 2, { frames := 0, cells := 0, slots := 0, locals := 0 }, false, false, none)
def dl_Pages_isKept : List (Instr × Nat) := [(.iload_n 1, 1), (.ifCond .lt 15, 3), (.iload_n 1, 1), (.aload_n 0, 1), (.getfield 18, 3), (.if_icmp .ge 7, 3), (.iconst 1, 1), (.goto 4, 3), (.iconst 0, 1), (.ireturn, 1)]
set_option maxHeartbeats 4000000 in
set_option maxRecDepth 100000 in
theorem dt_Pages_isKept : g_dc (g_b M_Pages_isKept) 0 dl_Pages_isKept = true := by decide +kernel
def M_Pages_line : gM := (⟨"BandPress$Pages", "line", "(II)J"⟩, prog_8_method_4_code, some .long, 3, { frames := 1, cells := 0, slots := 0, locals := 21 }, false, false, none)
def dl_Pages_line : List (Instr × Nat) := [(.iload_n 2, 1), (.ifCond .lt 9, 3), (.iload_n 2, 1), (.bipush 48, 2), (.if_icmp .lt 5, 3), (.lconst 0, 1), (.lreturn, 1), (.aload_n 0, 1), (.iload_n 1, 1), (.invokevirtual 25, 3), (.ifCond .eq 17, 3), (.aload_n 0, 1), (.getfield 9, 3), (.iload_n 1, 1), (.bipush 48, 2), (.imul, 1), (.iload_n 2, 1), (.iadd, 1), (.laload, 1), (.goto 18, 3), (.iload_n 1, 1), (.iconst (-1), 1), (.if_icmp .ne 12, 3), (.aload_n 0, 1), (.getfield 15, 3), (.iload_n 2, 1), (.laload, 1), (.goto 4, 3), (.lconst 0, 1), (.lreturn, 1)]
set_option maxHeartbeats 4000000 in
set_option maxRecDepth 100000 in
theorem dt_Pages_line : g_dc (g_b M_Pages_line) 0 dl_Pages_line = true := by decide +kernel
def M_Packer_linesAlike : gM := (⟨"BandPress$Packer", "linesAlike", "(LBandPress$Pages;III)I"⟩, prog_7_method_3_code, some .int, 8, { frames := 2, cells := 0, slots := 0, locals := 43 }, false, false, none)
def dl_Packer_linesAlike : List (Instr × Nat) := [(.iload_n 2, 1), (.bipush 8, 2), (.imul, 1), (.istore 4, 2), (.iload_n 3, 1), (.ifCond .ne 7, 3), (.lconst 0, 1), (.goto 14, 3), (.aload_n 0, 1), (.iload_n 1, 1), (.iload 4, 2), (.iload_n 3, 1), (.iadd, 1), (.iconst 1, 1), (.isub, 1), (.invokevirtual 30, 3), (.lstore 5, 2), (.iload_n 3, 1), (.istore 7, 2), (.iload 7, 2), (.bipush 8, 2), (.if_icmp .ge 25, 3), (.aload_n 0, 1), (.iload_n 1, 1), (.iload 4, 2), (.iload 7, 2), (.iadd, 1), (.invokevirtual 30, 3), (.lload 5, 2), (.lcmp, 1), (.ifCond .ne 9, 3), (.iinc 7 1, 3), (.goto (-26), 3), (.iload 7, 2), (.iload_n 3, 1), (.isub, 1), (.ireturn, 1)]
set_option maxHeartbeats 4000000 in
set_option maxRecDepth 100000 in
theorem dt_Packer_linesAlike : g_dc (g_b M_Packer_linesAlike) 0 dl_Packer_linesAlike = true := by decide +kernel
def M_Packer_add : gM := (⟨"BandPress$Packer", "add", "(I)V"⟩, prog_7_method_7_code, none, 2, { frames := 0, cells := 0, slots := 0, locals := 0 }, false, false, none)
def dl_Packer_add : List (Instr × Nat) := [(.aload_n 0, 1), (.getfield 18, 3), (.sipush 128, 3), (.if_icmp .ge 23, 3), (.aload_n 0, 1), (.getfield 9, 3), (.aload_n 0, 1), (.getfield 18, 3), (.iload_n 1, 1), (.iastore, 1), (.aload_n 0, 1), (.dup, 1), (.getfield 18, 3), (.iconst 1, 1), (.iadd, 1), (.putfield 18, 3), (.return_, 1)]
set_option maxHeartbeats 4000000 in
set_option maxRecDepth 100000 in
theorem dt_Packer_add : g_dc (g_b M_Packer_add) 0 dl_Packer_add = true := by decide +kernel
def M_Math_max : gM := (⟨"java/lang/Math", "max", "(II)I"⟩, prog_20_method_65_code, some .int, 2, { frames := 0, cells := 0, slots := 0, locals := 0 }, false, false, none)
def dl_Math_max : List (Instr × Nat) := [(.iload_n 0, 1), (.iload_n 1, 1), (.if_icmp .lt 7, 3), (.iload_n 0, 1), (.goto 4, 3), (.iload_n 1, 1), (.ireturn, 1)]
set_option maxHeartbeats 4000000 in
set_option maxRecDepth 100000 in
theorem dt_Math_max : g_dc (g_b M_Math_max) 0 dl_Math_max = true := by decide +kernel
def M_Packer_octetsAlike : gM := (⟨"BandPress$Packer", "octetsAlike", "(I)I"⟩, prog_7_method_5_code, some .int, 3, { frames := 0, cells := 0, slots := 0, locals := 0 }, false, false, none)
def dl_Packer_octetsAlike : List (Instr × Nat) := [(.iload_n 1, 1), (.istore_n 2, 1), (.iload_n 2, 1), (.bipush 8, 2), (.if_icmp .ge 24, 3), (.aload_n 0, 1), (.getfield 15, 3), (.iload_n 2, 1), (.iaload, 1), (.aload_n 0, 1), (.getfield 15, 3), (.iload_n 1, 1), (.iaload, 1), (.if_icmp .ne 9, 3), (.iinc 2 1, 3), (.goto (-24), 3), (.iload_n 2, 1), (.iload_n 1, 1), (.isub, 1), (.ireturn, 1)]
set_option maxHeartbeats 4000000 in
set_option maxRecDepth 100000 in
theorem dt_Packer_octetsAlike : g_dc (g_b M_Packer_octetsAlike) 0 dl_Packer_octetsAlike = true := by decide +kernel
def M_Packer_octetsApart : gM := (⟨"BandPress$Packer", "octetsApart", "(I)I"⟩, prog_7_method_6_code, some .int, 3, { frames := 1, cells := 0, slots := 0, locals := 22 }, false, false, none)
def dl_Packer_octetsApart : List (Instr × Nat) := [(.iload_n 1, 1), (.istore_n 2, 1), (.iload_n 2, 1), (.bipush 8, 2), (.if_icmp .ge 18, 3), (.aload_n 0, 1), (.iload_n 2, 1), (.invokevirtual 46, 3), (.iconst 2, 1), (.if_icmp .ge 9, 3), (.iinc 2 1, 3), (.goto (-18), 3), (.iload_n 2, 1), (.iload_n 1, 1), (.isub, 1), (.ireturn, 1)]
set_option maxHeartbeats 4000000 in
set_option maxRecDepth 100000 in
theorem dt_Packer_octetsApart : g_dc (g_b M_Packer_octetsApart) 0 dl_Packer_octetsApart = true := by decide +kernel
def M_Packer_packLine : gM := (⟨"BandPress$Packer", "packLine", "(J)V"⟩, prog_7_method_4_code, none, 6, { frames := 2, cells := 0, slots := 0, locals := 44 }, false, false, none)
def dl_Packer_packLine : List (Instr × Nat) := [(.iconst 0, 1), (.istore_n 3, 1), (.iload_n 3, 1), (.bipush 8, 2), (.if_icmp .ge 29, 3), (.aload_n 0, 1), (.getfield 15, 3), (.iload_n 3, 1), (.lload_n 1, 1), (.bipush 8, 2), (.bipush 7, 2), (.iload_n 3, 1), (.isub, 1), (.imul, 1), (.lushr, 1), (.l2i, 1), (.sipush 255, 3), (.iand, 1), (.iastore, 1), (.iinc 3 1, 3), (.goto (-29), 3), (.iconst 0, 1), (.istore_n 3, 1), (.iconst 0, 1), (.istore 4, 2), (.iload 4, 2), (.bipush 8, 2), (.if_icmp .ge 93, 3), (.aload_n 0, 1), (.iload 4, 2), (.invokevirtual 46, 3), (.istore_n 3, 1), (.iload_n 3, 1), (.iconst 1, 1), (.if_icmp .le 26, 3), (.aload_n 0, 1), (.sipush 128, 3), (.iload_n 3, 1), (.iadd, 1), (.invokevirtual 26, 3), (.aload_n 0, 1), (.aload_n 0, 1), (.getfield 15, 3), (.iload 4, 2), (.iaload, 1), (.invokevirtual 26, 3), (.goto 45, 3), (.aload_n 0, 1), (.iload 4, 2), (.invokevirtual 50, 3), (.istore_n 3, 1), (.aload_n 0, 1), (.iload_n 3, 1), (.invokevirtual 26, 3), (.iload 4, 2), (.istore 5, 2), (.iload 5, 2), (.iload 4, 2), (.iload_n 3, 1), (.iadd, 1), (.if_icmp .ge 20, 3), (.aload_n 0, 1), (.aload_n 0, 1), (.getfield 15, 3), (.iload 5, 2), (.iaload, 1), (.invokevirtual 26, 3), (.iinc 5 1, 3), (.goto (-23), 3), (.iload 4, 2), (.iconst 1, 1), (.iload_n 3, 1), (.invokestatic 40, 3), (.iadd, 1), (.istore 4, 2), (.goto (-94), 3), (.return_, 1)]
set_option maxHeartbeats 4000000 in
set_option maxRecDepth 100000 in
theorem dt_Packer_packLine : g_dc (g_b M_Packer_packLine) 0 dl_Packer_packLine = true := by decide +kernel
def M_Packer_pack : gM := (⟨"BandPress$Packer", "pack", "(LBandPress$Pages;II)V"⟩, prog_7_method_2_code, none, 6, { frames := 3, cells := 0, slots := 0, locals := 70 }, false, false, none)
def dl_Packer_pack : List (Instr × Nat) := [(.aload_n 0, 1), (.iconst 0, 1), (.putfield 18, 3), (.iconst 0, 1), (.istore 4, 2), (.iconst 0, 1), (.istore 5, 2), (.iload 5, 2), (.bipush 8, 2), (.if_icmp .ge 61, 3), (.aload_n 1, 1), (.iload_n 2, 1), (.iload_n 3, 1), (.iload 5, 2), (.invokestatic 22, 3), (.istore 4, 2), (.iload 4, 2), (.ifCond .le 16, 3), (.aload_n 0, 1), (.sipush 192, 3), (.iload 4, 2), (.iadd, 1), (.invokevirtual 26, 3), (.goto 19, 3), (.aload_n 0, 1), (.aload_n 1, 1), (.iload_n 2, 1), (.iload_n 3, 1), (.bipush 8, 2), (.imul, 1), (.iload 5, 2), (.iadd, 1), (.invokevirtual 30, 3), (.invokevirtual 36, 3), (.iload 5, 2), (.iconst 1, 1), (.iload 4, 2), (.invokestatic 40, 3), (.iadd, 1), (.istore 5, 2), (.goto (-62), 3), (.return_, 1)]
set_option maxHeartbeats 4000000 in
set_option maxRecDepth 100000 in
theorem dt_Packer_pack : g_dc (g_b M_Packer_pack) 0 dl_Packer_pack = true := by decide +kernel
def M_B_band : gM := (⟨"BandPress", "band", "(II)I"⟩, prog_1_method_9_code, some .int, 3, { frames := 4, cells := 0, slots := 0, locals := 95 }, false, false, none)
def dl_B_band : List (Instr × Nat) := [(.aload_n 0, 1), (.getfield 19, 3), (.getfield 83, 3), (.iload_n 1, 1), (.invokevirtual 152, 3), (.ifCond .eq 13, 3), (.iload_n 2, 1), (.ifCond .lt 9, 3), (.iload_n 2, 1), (.bipush 6, 2), (.if_icmp .lt 5, 3), (.iconst (-1), 1), (.ireturn, 1), (.aload_n 0, 1), (.getfield 42, 3), (.aload_n 0, 1), (.getfield 19, 3), (.getfield 83, 3), (.iload_n 1, 1), (.iload_n 2, 1), (.invokevirtual 156, 3), (.aload_n 0, 1), (.getfield 42, 3), (.getfield 160, 3), (.ireturn, 1)]
set_option maxHeartbeats 4000000 in
set_option maxRecDepth 100000 in
theorem dt_B_band : g_dc (g_b M_B_band) 0 dl_B_band = true := by decide +kernel
def M_B_cover : gM := (⟨"BandPress", "cover", "(Z)Z"⟩, prog_1_method_15_code, some .boolean, 3, { frames := 0, cells := 0, slots := 0, locals := 0 }, false, false, none)
def dl_B_cover : List (Instr × Nat) := [(.aload_n 0, 1), (.getfield 35, 3), (.getfield 182, 3), (.iload_n 1, 1), (.if_icmp .eq 7, 3), (.iconst 1, 1), (.goto 4, 3), (.iconst 0, 1), (.istore_n 2, 1), (.aload_n 0, 1), (.getfield 35, 3), (.iload_n 1, 1), (.putfield 182, 3), (.iload_n 2, 1), (.ireturn, 1)]
set_option maxHeartbeats 4000000 in
set_option maxRecDepth 100000 in
theorem dt_B_cover : g_dc (g_b M_B_cover) 0 dl_B_cover = true := by decide +kernel
def M_Settings_greyNow : gM := (⟨"BandPress$Settings", "greyNow", "()I"⟩, prog_10_method_12_code, some .int, 1, { frames := 0, cells := 0, slots := 0, locals := 0 }, false, false, none)
def dl_Settings_greyNow : List (Instr × Nat) := [(.aload_n 0, 1), (.getfield 24, 3), (.aload_n 0, 1), (.getfield 39, 3), (.iaload, 1), (.ireturn, 1)]
set_option maxHeartbeats 4000000 in
set_option maxRecDepth 100000 in
theorem dt_Settings_greyNow : g_dc (g_b M_Settings_greyNow) 0 dl_Settings_greyNow = true := by decide +kernel
def M_B_job : gM := (⟨"BandPress", "job", "(I)I"⟩, prog_1_method_5_code, some .int, 2, { frames := 1, cells := 0, slots := 0, locals := 20 }, false, false, none)
def dl_B_job : List (Instr × Nat) := [(.iload_n 1, 1), (.tableswitch 138 0 8 #[51, 59, 67, 75, 86, 94, 105, 116, 127], 51), (.aload_n 0, 1), (.getfield 19, 3), (.getfield 100, 3), (.ireturn, 1), (.aload_n 0, 1), (.getfield 19, 3), (.getfield 97, 3), (.ireturn, 1), (.aload_n 0, 1), (.getfield 19, 3), (.getfield 103, 3), (.ireturn, 1), (.aload_n 0, 1), (.getfield 19, 3), (.getfield 83, 3), (.getfield 87, 3), (.ireturn, 1), (.aload_n 0, 1), (.getfield 19, 3), (.getfield 106, 3), (.ireturn, 1), (.aload_n 0, 1), (.getfield 19, 3), (.getfield 83, 3), (.getfield 109, 3), (.ireturn, 1), (.aload_n 0, 1), (.getfield 19, 3), (.getfield 112, 3), (.getfield 116, 3), (.ireturn, 1), (.aload_n 0, 1), (.getfield 19, 3), (.getfield 121, 3), (.getfield 125, 3), (.ireturn, 1), (.aload_n 0, 1), (.getfield 19, 3), (.getfield 128, 3), (.invokevirtual 132, 3), (.ireturn, 1), (.iconst (-1), 1), (.ireturn, 1)]
set_option maxHeartbeats 4000000 in
set_option maxRecDepth 100000 in
theorem dt_B_job : g_dc (g_b M_B_job) 0 dl_B_job = true := by decide +kernel
def M_B_load : gM := (⟨"BandPress", "load", "(I)I"⟩, prog_1_method_14_code, some .int, 2, { frames := 0, cells := 0, slots := 0, locals := 0 }, false, false, none)
def dl_B_load : List (Instr × Nat) := [(.iload_n 1, 1), (.iconst 1, 1), (.if_icmp .lt 25, 3), (.iload_n 1, 1), (.sipush 200, 3), (.if_icmp .gt 18, 3), (.aload_n 0, 1), (.getfield 35, 3), (.getfield 179, 3), (.iload_n 1, 1), (.iadd, 1), (.sipush 500, 3), (.if_icmp .le 5, 3), (.iconst (-1), 1), (.ireturn, 1), (.aload_n 0, 1), (.getfield 35, 3), (.dup, 1), (.getfield 179, 3), (.iload_n 1, 1), (.iadd, 1), (.putfield 179, 3), (.aload_n 0, 1), (.getfield 35, 3), (.getfield 179, 3), (.ireturn, 1)]
set_option maxHeartbeats 4000000 in
set_option maxRecDepth 100000 in
theorem dt_B_load : g_dc (g_b M_B_load) 0 dl_B_load = true := by decide +kernel
def M_B_octet : gM := (⟨"BandPress", "octet", "(III)I"⟩, prog_1_method_10_code, some .int, 4, { frames := 4, cells := 0, slots := 0, locals := 95 }, false, false, none)
def dl_B_octet : List (Instr × Nat) := [(.aload_n 0, 1), (.getfield 19, 3), (.getfield 83, 3), (.iload_n 1, 1), (.invokevirtual 152, 3), (.ifCond .eq 13, 3), (.iload_n 2, 1), (.ifCond .lt 9, 3), (.iload_n 2, 1), (.bipush 6, 2), (.if_icmp .lt 5, 3), (.iconst (-1), 1), (.ireturn, 1), (.aload_n 0, 1), (.getfield 42, 3), (.aload_n 0, 1), (.getfield 19, 3), (.getfield 83, 3), (.iload_n 1, 1), (.iload_n 2, 1), (.invokevirtual 156, 3), (.iload_n 3, 1), (.ifCond .lt 14, 3), (.iload_n 3, 1), (.aload_n 0, 1), (.getfield 42, 3), (.getfield 160, 3), (.if_icmp .lt 7, 3), (.iconst (-1), 1), (.goto 12, 3), (.aload_n 0, 1), (.getfield 42, 3), (.getfield 161, 3), (.iload_n 3, 1), (.iaload, 1), (.ireturn, 1)]
set_option maxHeartbeats 4000000 in
set_option maxRecDepth 100000 in
theorem dt_B_octet : g_dc (g_b M_B_octet) 0 dl_B_octet = true := by decide +kernel
def M_Order_sides : gM := (⟨"BandPress$Order", "sides", "()I"⟩, prog_6_method_5_code, some .int, 1, { frames := 0, cells := 0, slots := 0, locals := 0 }, false, false, none)
def dl_Order_sides : List (Instr × Nat) := [(.aload_n 0, 1), (.getfield 23, 3), (.ifCond .eq 7, 3), (.iconst 2, 1), (.goto 4, 3), (.iconst 1, 1), (.ireturn, 1)]
set_option maxHeartbeats 4000000 in
set_option maxRecDepth 100000 in
theorem dt_Order_sides : g_dc (g_b M_Order_sides) 0 dl_Order_sides = true := by decide +kernel
def M_Order_firstPage : gM := (⟨"BandPress$Order", "firstPage", "(I)I"⟩, prog_6_method_9_code, some .int, 2, { frames := 1, cells := 0, slots := 0, locals := 20 }, false, false, none)
def dl_Order_firstPage : List (Instr × Nat) := [(.aload_n 0, 1), (.getfield 30, 3), (.ifCond .ne 7, 3), (.iconst 0, 1), (.goto 14, 3), (.iload_n 1, 1), (.aload_n 0, 1), (.getfield 30, 3), (.irem, 1), (.aload_n 0, 1), (.invokevirtual 49, 3), (.imul, 1), (.ireturn, 1)]
set_option maxHeartbeats 4000000 in
set_option maxRecDepth 100000 in
theorem dt_Order_firstPage : g_dc (g_b M_Order_firstPage) 0 dl_Order_firstPage = true := by decide +kernel
def M_Order_secondPage : gM := (⟨"BandPress$Order", "secondPage", "(I)I"⟩, prog_6_method_10_code, some .int, 3, { frames := 2, cells := 0, slots := 0, locals := 41 }, false, false, none)
def dl_Order_secondPage : List (Instr × Nat) := [(.aload_n 0, 1), (.iload_n 1, 1), (.invokevirtual 53, 3), (.iconst 1, 1), (.iadd, 1), (.istore_n 2, 1), (.aload_n 0, 1), (.getfield 23, 3), (.ifCond .eq 15, 3), (.iload_n 2, 1), (.aload_n 0, 1), (.getfield 27, 3), (.if_icmp .ge 7, 3), (.iload_n 2, 1), (.goto 4, 3), (.iconst (-1), 1), (.ireturn, 1)]
set_option maxHeartbeats 4000000 in
set_option maxRecDepth 100000 in
theorem dt_Order_secondPage : g_dc (g_b M_Order_secondPage) 0 dl_Order_secondPage = true := by decide +kernel
def M_Order_copyOf : gM := (⟨"BandPress$Order", "copyOf", "(I)I"⟩, prog_6_method_8_code, some .int, 2, { frames := 0, cells := 0, slots := 0, locals := 0 }, false, false, none)
def dl_Order_copyOf : List (Instr × Nat) := [(.aload_n 0, 1), (.getfield 30, 3), (.ifCond .ne 7, 3), (.iconst 0, 1), (.goto 9, 3), (.iload_n 1, 1), (.aload_n 0, 1), (.getfield 30, 3), (.idiv, 1), (.ireturn, 1)]
set_option maxHeartbeats 4000000 in
set_option maxRecDepth 100000 in
theorem dt_Order_copyOf : g_dc (g_b M_Order_copyOf) 0 dl_Order_copyOf = true := by decide +kernel
def M_B_out : gM := (⟨"BandPress", "out", "(II)I"⟩, prog_1_method_17_code, some .int, 4, { frames := 3, cells := 0, slots := 0, locals := 63 }, false, false, none)
def dl_B_out : List (Instr × Nat) := [(.iload_n 1, 1), (.ifCond .lt 14, 3), (.iload_n 1, 1), (.aload_n 0, 1), (.getfield 26, 3), (.getfield 192, 3), (.if_icmp .lt 5, 3), (.iconst (-1), 1), (.ireturn, 1), (.aload_n 0, 1), (.getfield 26, 3), (.getfield 195, 3), (.iload_n 1, 1), (.iaload, 1), (.istore_n 3, 1), (.iload_n 2, 1), (.tableswitch 61 0 3 #[32, 34, 43, 52], 32), (.iload_n 3, 1), (.ireturn, 1), (.aload_n 0, 1), (.getfield 26, 3), (.iload_n 3, 1), (.invokevirtual 198, 3), (.ireturn, 1), (.aload_n 0, 1), (.getfield 26, 3), (.iload_n 3, 1), (.invokevirtual 201, 3), (.ireturn, 1), (.aload_n 0, 1), (.getfield 26, 3), (.iload_n 3, 1), (.invokevirtual 204, 3), (.ireturn, 1), (.iconst (-1), 1), (.ireturn, 1)]
set_option maxHeartbeats 4000000 in
set_option maxRecDepth 100000 in
theorem dt_B_out : g_dc (g_b M_B_out) 0 dl_B_out = true := by decide +kernel
def M_B_pixel : gM := (⟨"BandPress", "pixel", "(III)Z"⟩, prog_1_method_8_code, some .boolean, 4, { frames := 2, cells := 0, slots := 0, locals := 43 }, false, false, none)
def dl_B_pixel : List (Instr × Nat) := [(.iload_n 2, 1), (.ifCond .lt 19, 3), (.iload_n 2, 1), (.bipush 64, 2), (.if_icmp .ge 13, 3), (.iload_n 3, 1), (.ifCond .lt 9, 3), (.iload_n 3, 1), (.bipush 48, 2), (.if_icmp .lt 5, 3), (.iconst 0, 1), (.ireturn, 1), (.aload_n 0, 1), (.getfield 19, 3), (.getfield 83, 3), (.iload_n 1, 1), (.iload_n 3, 1), (.invokevirtual 148, 3), (.bipush 63, 2), (.iload_n 2, 1), (.isub, 1), (.lushr, 1), (.lconst 1, 1), (.land, 1), (.lconst 0, 1), (.lcmp, 1), (.ifCond .eq 7, 3), (.iconst 1, 1), (.goto 4, 3), (.iconst 0, 1), (.ireturn, 1)]
set_option maxHeartbeats 4000000 in
set_option maxRecDepth 100000 in
theorem dt_B_pixel : g_dc (g_b M_B_pixel) 0 dl_B_pixel = true := by decide +kernel
def M_Order_left : gM := (⟨"BandPress$Order", "left", "()I"⟩, prog_6_method_4_code, some .int, 1, { frames := 0, cells := 0, slots := 0, locals := 0 }, false, false, none)
def dl_Order_left : List (Instr × Nat) := [(.aload_n 0, 1), (.getfield 33, 3), (.aload_n 0, 1), (.getfield 36, 3), (.isub, 1), (.ireturn, 1)]
set_option maxHeartbeats 4000000 in
set_option maxRecDepth 100000 in
theorem dt_Order_left : g_dc (g_b M_Order_left) 0 dl_Order_left = true := by decide +kernel
def M_Machine_inside : gM := (⟨"BandPress$Machine", "inside", "()I"⟩, prog_5_method_16_code, some .int, 3, { frames := 0, cells := 0, slots := 0, locals := 0 }, false, false, none)
def dl_Machine_inside : List (Instr × Nat) := [(.iconst 0, 1), (.istore_n 1, 1), (.iconst 0, 1), (.istore_n 2, 1), (.iload_n 2, 1), (.iconst 4, 1), (.if_icmp .ge 27, 3), (.iload_n 1, 1), (.aload_n 0, 1), (.getfield 9, 3), (.iload_n 2, 1), (.iaload, 1), (.iconst (-1), 1), (.if_icmp .ne 7, 3), (.iconst 0, 1), (.goto 4, 3), (.iconst 1, 1), (.iadd, 1), (.istore_n 1, 1), (.iinc 2 1, 3), (.goto (-26), 3), (.iload_n 1, 1), (.ireturn, 1)]
set_option maxHeartbeats 4000000 in
set_option maxRecDepth 100000 in
theorem dt_Machine_inside : g_dc (g_b M_Machine_inside) 0 dl_Machine_inside = true := by decide +kernel
def M_Machine_state : gM := (⟨"BandPress$Machine", "state", "()I"⟩, prog_5_method_3_code, some .int, 1, { frames := 1, cells := 0, slots := 0, locals := 22 }, false, false, none)
def dl_Machine_state : List (Instr × Nat) := [(.aload_n 0, 1), (.getfield 32, 3), (.ifCond .eq 5, 3), (.iconst 5, 1), (.ireturn, 1), (.aload_n 0, 1), (.getfield 36, 3), (.ifCond .eq 5, 3), (.iconst 3, 1), (.ireturn, 1), (.aload_n 0, 1), (.getfield 28, 3), (.invokevirtual 39, 3), (.ifCond .ne 5, 3), (.iconst 0, 1), (.ireturn, 1), (.aload_n 0, 1), (.invokevirtual 45, 3), (.ifCond .ne 12, 3), (.aload_n 0, 1), (.getfield 48, 3), (.ifCond .ne 5, 3), (.iconst 4, 1), (.ireturn, 1), (.aload_n 0, 1), (.getfield 52, 3), (.bipush 80, 2), (.if_icmp .ge 7, 3), (.iconst 1, 1), (.goto 4, 3), (.iconst 2, 1), (.ireturn, 1)]
set_option maxHeartbeats 4000000 in
set_option maxRecDepth 100000 in
theorem dt_Machine_state : g_dc (g_b M_Machine_state) 0 dl_Machine_state = true := by decide +kernel
def M_B_press : gM := (⟨"BandPress", "press", "(I)I"⟩, prog_1_method_18_code, some .int, 2, { frames := 2, cells := 0, slots := 0, locals := 42 }, false, false, none)
def dl_B_press : List (Instr × Nat) := [(.iload_n 1, 1), (.tableswitch 99 0 6 #[43, 51, 59, 67, 75, 83, 91], 43), (.aload_n 0, 1), (.getfield 35, 3), (.invokevirtual 167, 3), (.ireturn, 1), (.aload_n 0, 1), (.getfield 35, 3), (.getfield 207, 3), (.ireturn, 1), (.aload_n 0, 1), (.getfield 35, 3), (.getfield 179, 3), (.ireturn, 1), (.aload_n 0, 1), (.getfield 26, 3), (.getfield 192, 3), (.ireturn, 1), (.aload_n 0, 1), (.getfield 26, 3), (.getfield 210, 3), (.ireturn, 1), (.aload_n 0, 1), (.getfield 35, 3), (.getfield 213, 3), (.ireturn, 1), (.aload_n 0, 1), (.getfield 35, 3), (.getfield 216, 3), (.ireturn, 1), (.iconst (-1), 1), (.ireturn, 1)]
set_option maxHeartbeats 4000000 in
set_option maxRecDepth 100000 in
theorem dt_B_press : g_dc (g_b M_B_press) 0 dl_B_press = true := by decide +kernel
def M_Job_isUnderWay : gM := (⟨"BandPress$Job", "isUnderWay", "()Z"⟩, prog_4_method_2_code, some .boolean, 1, { frames := 0, cells := 0, slots := 0, locals := 0 }, false, false, none)
def dl_Job_isUnderWay : List (Instr × Nat) := [(.aload_n 0, 1), (.getfield 64, 3), (.iconst 1, 1), (.if_icmp .ne 7, 3), (.iconst 1, 1), (.goto 4, 3), (.iconst 0, 1), (.ireturn, 1)]
set_option maxHeartbeats 4000000 in
set_option maxRecDepth 100000 in
theorem dt_Job_isUnderWay : g_dc (g_b M_Job_isUnderWay) 0 dl_Job_isUnderWay = true := by decide +kernel
def M_Calls_isOver : gM := (⟨"BandPress$Calls", "isOver", "()Z"⟩, prog_2_method_4_code, some .boolean, 1, { frames := 0, cells := 0, slots := 0, locals := 0 }, false, false, none)
def dl_Calls_isOver : List (Instr × Nat) := [(.aload_n 0, 1), (.getfield 24, 3), (.ifCond .ge 7, 3), (.iconst 1, 1), (.goto 4, 3), (.iconst 0, 1), (.ireturn, 1)]
set_option maxHeartbeats 4000000 in
set_option maxRecDepth 100000 in
theorem dt_Calls_isOver : g_dc (g_b M_Calls_isOver) 0 dl_Calls_isOver = true := by decide +kernel
def M_Job_endIfOver : gM := (⟨"BandPress$Job", "endIfOver", "()V"⟩, prog_4_method_4_code, none, 1, { frames := 1, cells := 0, slots := 0, locals := 20 }, false, false, none)
def dl_Job_endIfOver : List (Instr × Nat) := [(.aload_n 0, 1), (.getfield 21, 3), (.invokevirtual 104, 3), (.ifCond .eq 8, 3), (.aload_n 0, 1), (.iconst 2, 1), (.putfield 64, 3), (.return_, 1)]
set_option maxHeartbeats 4000000 in
set_option maxRecDepth 100000 in
theorem dt_Job_endIfOver : g_dc (g_b M_Job_endIfOver) 0 dl_Job_endIfOver = true := by decide +kernel
def M_Calls_place : gM := (⟨"BandPress$Calls", "place", "()I"⟩, prog_2_method_6_code, some .int, 1, { frames := 0, cells := 0, slots := 0, locals := 0 }, false, false, none)
def dl_Calls_place : List (Instr × Nat) := [(.aload_n 0, 1), (.getfield 24, 3), (.ifCond .ge 7, 3), (.iconst 0, 1), (.goto 12, 3), (.aload_n 0, 1), (.getfield 9, 3), (.aload_n 0, 1), (.getfield 24, 3), (.iaload, 1), (.ireturn, 1)]
set_option maxHeartbeats 4000000 in
set_option maxRecDepth 100000 in
theorem dt_Calls_place : g_dc (g_b M_Calls_place) 0 dl_Calls_place = true := by decide +kernel
def M_Text_sign : gM := (⟨"BandPress$Text", "sign", "(I)I"⟩, prog_11_method_6_code, some .int, 2, { frames := 0, cells := 0, slots := 0, locals := 0 }, false, false, none)
def dl_Text_sign : List (Instr × Nat) := [(.iload_n 1, 1), (.ifCond .lt 11, 3), (.iload_n 1, 1), (.aload_n 0, 1), (.getfield 21, 3), (.if_icmp .lt 8, 3), (.bipush 32, 2), (.goto 9, 3), (.aload_n 0, 1), (.getfield 9, 3), (.iload_n 1, 1), (.iaload, 1), (.ireturn, 1)]
set_option maxHeartbeats 4000000 in
set_option maxRecDepth 100000 in
theorem dt_Text_sign : g_dc (g_b M_Text_sign) 0 dl_Text_sign = true := by decide +kernel
def M_Job_needs : gM := (⟨"BandPress$Job", "needs", "(I)I"⟩, prog_4_method_7_code, some .int, 1, { frames := 0, cells := 0, slots := 0, locals := 0 }, false, false, none)
def dl_Job_needs : List (Instr × Nat) := [(.iload_n 0, 1), (.tableswitch 384 37 126 #[377, 384, 384, 384, 384, 377, 377, 384, 377, 384, 377, 384, 384, 384, 384, 384, 384, 384, 384, 384, 384, 375, 384, 377, 377, 384, 379, 384, 384, 384, 381, 375, 384, 384, 375, 384, 384, 384, 384, 377, 377, 384, 375, 384, 384, 377, 377, 377, 384, 384, 384, 377, 384, 384, 384, 384, 384, 384, 384, 384, 384, 384, 384, 384, 384, 384, 384, 384, 384, 384, 384, 384, 384, 384, 384, 384, 384, 384, 384, 384, 384, 384, 384, 384, 384, 384, 384, 384, 384, 375], 375), (.iconst 1, 1), (.ireturn, 1), (.iconst 2, 1), (.ireturn, 1), (.iconst 3, 1), (.ireturn, 1), (.bipush 6, 2), (.ireturn, 1), (.iconst 0, 1), (.ireturn, 1)]
set_option maxHeartbeats 4000000 in
set_option maxRecDepth 100000 in
theorem dt_Job_needs : g_dc (g_b M_Job_needs) 0 dl_Job_needs = true := by decide +kernel
def M_Values_peek : gM := (⟨"BandPress$Values", "peek", "(I)I"⟩, prog_12_method_4_code, some .int, 2, { frames := 0, cells := 0, slots := 0, locals := 0 }, false, false, none)
def dl_Values_peek : List (Instr × Nat) := [(.iload_n 1, 1), (.ifCond .lt 11, 3), (.iload_n 1, 1), (.aload_n 0, 1), (.getfield 15, 3), (.if_icmp .lt 7, 3), (.iconst 0, 1), (.goto 16, 3), (.aload_n 0, 1), (.getfield 9, 3), (.aload_n 0, 1), (.getfield 15, 3), (.iconst 1, 1), (.isub, 1), (.iload_n 1, 1), (.isub, 1), (.iaload, 1), (.ireturn, 1)]
set_option maxHeartbeats 4000000 in
set_option maxRecDepth 100000 in
theorem dt_Values_peek : g_dc (g_b M_Values_peek) 0 dl_Values_peek = true := by decide +kernel
def M_Values_isProcedure : gM := (⟨"BandPress$Values", "isProcedure", "(I)Z"⟩, prog_12_method_3_code, some .boolean, 2, { frames := 1, cells := 0, slots := 0, locals := 21 }, false, false, none)
def dl_Values_isProcedure : List (Instr × Nat) := [(.aload_n 0, 1), (.iload_n 1, 1), (.invokevirtual 19, 3), (.ldc 23, 2), (.if_icmp .lt 7, 3), (.iconst 1, 1), (.goto 4, 3), (.iconst 0, 1), (.ireturn, 1)]
set_option maxHeartbeats 4000000 in
set_option maxRecDepth 100000 in
theorem dt_Values_isProcedure : g_dc (g_b M_Values_isProcedure) 0 dl_Values_isProcedure = true := by decide +kernel
def M_Job_kindsFit : gM := (⟨"BandPress$Job", "kindsFit", "(II)Z"⟩, prog_4_method_8_code, some .boolean, 5, { frames := 2, cells := 0, slots := 0, locals := 42 }, false, false, none)
def dl_Job_kindsFit : List (Instr × Nat) := [(.iload_n 1, 1), (.bipush 68, 2), (.if_icmp .eq 15, 3), (.iload_n 1, 1), (.bipush 88, 2), (.if_icmp .eq 9, 3), (.iload_n 1, 1), (.bipush 79, 2), (.if_icmp .ne 5, 3), (.iconst 1, 1), (.ireturn, 1), (.iload_n 1, 1), (.bipush 63, 2), (.if_icmp .ne 7, 3), (.iconst 2, 1), (.goto 14, 3), (.iload_n 1, 1), (.bipush 82, 2), (.if_icmp .ne 7, 3), (.iconst 1, 1), (.goto 4, 3), (.iconst 0, 1), (.istore_n 3, 1), (.iconst 0, 1), (.istore 4, 2), (.iload 4, 2), (.iload_n 2, 1), (.if_icmp .ge 34, 3), (.aload_n 0, 1), (.getfield 35, 3), (.iload 4, 2), (.invokevirtual 171, 3), (.iload 4, 2), (.iload_n 3, 1), (.if_icmp .ge 7, 3), (.iconst 1, 1), (.goto 4, 3), (.iconst 0, 1), (.if_icmp .eq 5, 3), (.iconst 0, 1), (.ireturn, 1), (.iinc 4 1, 3), (.goto (-34), 3), (.iconst 1, 1), (.ireturn, 1)]
set_option maxHeartbeats 4000000 in
set_option maxRecDepth 100000 in
theorem dt_Job_kindsFit : g_dc (g_b M_Job_kindsFit) 0 dl_Job_kindsFit = true := by decide +kernel
def M_Math_floorDiv : gM := (⟨"java/lang/Math", "floorDiv", "(JJ)J"⟩, prog_20_method_49_code, some .long, 6, { frames := 0, cells := 0, slots := 0, locals := 0 }, false, false, none)
def dl_Math_floorDiv : List (Instr × Nat) := [(.lload_n 0, 1), (.lload_n 2, 1), (.ldiv, 1), (.lstore 4, 2), (.lload_n 0, 1), (.lload_n 2, 1), (.lxor, 1), (.lconst 0, 1), (.lcmp, 1), (.ifCond .ge 17, 3), (.lload 4, 2), (.lload_n 2, 1), (.lmul, 1), (.lload_n 0, 1), (.lcmp, 1), (.ifCond .eq 8, 3), (.lload 4, 2), (.lconst 1, 1), (.lsub, 1), (.lreturn, 1), (.lload 4, 2), (.lreturn, 1)]
set_option maxHeartbeats 4000000 in
set_option maxRecDepth 100000 in
theorem dt_Math_floorDiv : g_dc (g_b M_Math_floorDiv) 0 dl_Math_floorDiv = true := by decide +kernel
def M_Settings_stretchedX : gM := (⟨"BandPress$Settings", "stretchedX", "(I)J"⟩, prog_10_method_6_code, some .long, 2, { frames := 1, cells := 0, slots := 0, locals := 25 }, false, false, none)
def dl_Settings_stretchedX : List (Instr × Nat) := [(.aload_n 0, 1), (.getfield 9, 3), (.aload_n 0, 1), (.getfield 39, 3), (.iaload, 1), (.i2l, 1), (.iload_n 1, 1), (.i2l, 1), (.lmul, 1), (.ldc2_w 49, 3), (.invokestatic 51, 3), (.lreturn, 1)]
set_option maxHeartbeats 4000000 in
set_option maxRecDepth 100000 in
theorem dt_Settings_stretchedX : g_dc (g_b M_Settings_stretchedX) 0 dl_Settings_stretchedX = true := by decide +kernel
def M_Math_abs : gM := (⟨"java/lang/Math", "abs", "(J)J"⟩, prog_20_method_61_code, some .long, 2, { frames := 0, cells := 0, slots := 0, locals := 0 }, false, false, none)
def dl_Math_abs : List (Instr × Nat) := [(.lload_n 0, 1), (.lconst 0, 1), (.lcmp, 1), (.ifCond .ge 8, 3), (.lload_n 0, 1), (.lneg, 1), (.goto 4, 3), (.lload_n 0, 1), (.lreturn, 1)]
set_option maxHeartbeats 4000000 in
set_option maxRecDepth 100000 in
theorem dt_Math_abs : g_dc (g_b M_Math_abs) 0 dl_Math_abs = true := by decide +kernel
def M_Settings_stretchedY : gM := (⟨"BandPress$Settings", "stretchedY", "(I)J"⟩, prog_10_method_7_code, some .long, 2, { frames := 1, cells := 0, slots := 0, locals := 25 }, false, false, none)
def dl_Settings_stretchedY : List (Instr × Nat) := [(.aload_n 0, 1), (.getfield 15, 3), (.aload_n 0, 1), (.getfield 39, 3), (.iaload, 1), (.i2l, 1), (.iload_n 1, 1), (.i2l, 1), (.lmul, 1), (.ldc2_w 49, 3), (.invokestatic 51, 3), (.lreturn, 1)]
set_option maxHeartbeats 4000000 in
set_option maxRecDepth 100000 in
theorem dt_Settings_stretchedY : g_dc (g_b M_Settings_stretchedY) 0 dl_Settings_stretchedY = true := by decide +kernel
def M_Settings_placedX : gM := (⟨"BandPress$Settings", "placedX", "(I)J"⟩, prog_10_method_8_code, some .long, 2, { frames := 2, cells := 0, slots := 0, locals := 46 }, false, false, none)
def dl_Settings_placedX : List (Instr × Nat) := [(.aload_n 0, 1), (.getfield 18, 3), (.aload_n 0, 1), (.getfield 39, 3), (.iaload, 1), (.i2l, 1), (.aload_n 0, 1), (.iload_n 1, 1), (.invokevirtual 57, 3), (.ladd, 1), (.lreturn, 1)]
set_option maxHeartbeats 4000000 in
set_option maxRecDepth 100000 in
theorem dt_Settings_placedX : g_dc (g_b M_Settings_placedX) 0 dl_Settings_placedX = true := by decide +kernel
def M_Settings_placedY : gM := (⟨"BandPress$Settings", "placedY", "(I)J"⟩, prog_10_method_9_code, some .long, 2, { frames := 2, cells := 0, slots := 0, locals := 46 }, false, false, none)
def dl_Settings_placedY : List (Instr × Nat) := [(.aload_n 0, 1), (.getfield 21, 3), (.aload_n 0, 1), (.getfield 39, 3), (.iaload, 1), (.i2l, 1), (.aload_n 0, 1), (.iload_n 1, 1), (.invokevirtual 61, 3), (.ladd, 1), (.lreturn, 1)]
set_option maxHeartbeats 4000000 in
set_option maxRecDepth 100000 in
theorem dt_Settings_placedY : g_dc (g_b M_Settings_placedY) 0 dl_Settings_placedY = true := by decide +kernel
def M_Job_isFarOff : gM := (⟨"BandPress$Job", "isFarOff", "(I)Z"⟩, prog_4_method_10_code, some .boolean, 2, { frames := 3, cells := 0, slots := 0, locals := 67 }, false, false, none)
def dl_Job_isFarOff : List (Instr × Nat) := [(.aload_n 0, 1), (.getfield 46, 3), (.aload_n 0, 1), (.getfield 35, 3), (.iload_n 1, 1), (.invokevirtual 149, 3), (.invokevirtual 197, 3), (.invokestatic 178, 3), (.ldc2_w 200, 3), (.lcmp, 1), (.ifCond .gt 30, 3), (.aload_n 0, 1), (.getfield 46, 3), (.aload_n 0, 1), (.getfield 35, 3), (.iload_n 1, 1), (.iconst 1, 1), (.isub, 1), (.invokevirtual 149, 3), (.invokevirtual 202, 3), (.invokestatic 178, 3), (.ldc2_w 200, 3), (.lcmp, 1), (.ifCond .le 7, 3), (.iconst 1, 1), (.goto 4, 3), (.iconst 0, 1), (.ireturn, 1)]
set_option maxHeartbeats 4000000 in
set_option maxRecDepth 100000 in
theorem dt_Job_isFarOff : g_dc (g_b M_Job_isFarOff) 0 dl_Job_isFarOff = true := by decide +kernel
def M_Job_resultOf : gM := (⟨"BandPress$Job", "resultOf", "(I)J"⟩, prog_4_method_14_code, some .long, 6, { frames := 1, cells := 0, slots := 0, locals := 21 }, false, false, none)
def dl_Job_resultOf : List (Instr × Nat) := [(.aload_n 0, 1), (.getfield 35, 3), (.iconst 1, 1), (.invokevirtual 149, 3), (.i2l, 1), (.lstore_n 2, 1), (.aload_n 0, 1), (.getfield 35, 3), (.iconst 0, 1), (.invokevirtual 149, 3), (.i2l, 1), (.lstore 4, 2), (.iload_n 1, 1), (.tableswitch 187 37 61 #[145, 187, 187, 187, 187, 124, 114, 187, 119, 187, 129, 187, 187, 187, 187, 187, 187, 187, 187, 187, 187, 187, 187, 161, 174], 114), (.lload_n 2, 1), (.lload 4, 2), (.ladd, 1), (.lreturn, 1), (.lload_n 2, 1), (.lload 4, 2), (.lsub, 1), (.lreturn, 1), (.lload_n 2, 1), (.lload 4, 2), (.lmul, 1), (.lreturn, 1), (.lload 4, 2), (.lconst 0, 1), (.lcmp, 1), (.ifCond .ne 7, 3), (.lconst 0, 1), (.goto 7, 3), (.lload_n 2, 1), (.lload 4, 2), (.ldiv, 1), (.lreturn, 1), (.lload 4, 2), (.lconst 0, 1), (.lcmp, 1), (.ifCond .ne 7, 3), (.lconst 0, 1), (.goto 7, 3), (.lload_n 2, 1), (.lload 4, 2), (.lrem, 1), (.lreturn, 1), (.lload_n 2, 1), (.lload 4, 2), (.lcmp, 1), (.ifCond .ge 7, 3), (.lconst 1, 1), (.goto 4, 3), (.lconst 0, 1), (.lreturn, 1), (.lload_n 2, 1), (.lload 4, 2), (.lcmp, 1), (.ifCond .ne 7, 3), (.lconst 1, 1), (.goto 4, 3), (.lconst 0, 1), (.lreturn, 1), (.lconst 0, 1), (.lreturn, 1)]
set_option maxHeartbeats 4000000 in
set_option maxRecDepth 100000 in
theorem dt_Job_resultOf : g_dc (g_b M_Job_resultOf) 0 dl_Job_resultOf = true := by decide +kernel
def M_Job_goesBeyond : gM := (⟨"BandPress$Job", "goesBeyond", "(I)Z"⟩, prog_4_method_9_code, some .boolean, 2, { frames := 4, cells := 0, slots := 0, locals := 88 }, false, false, none)
def dl_Job_goesBeyond : List (Instr × Nat) := [(.iload_n 1, 1), (.lookupswitch 226 #[(42, 83), (43, 83), (45, 83), (67, 110), (71, 196), (76, 104), (77, 104), (83, 140), (84, 104)], 83), (.aload_n 0, 1), (.iload_n 1, 1), (.invokevirtual 174, 3), (.invokestatic 178, 3), (.ldc2_w 184, 3), (.lcmp, 1), (.ifCond .le 7, 3), (.iconst 1, 1), (.goto 4, 3), (.iconst 0, 1), (.ireturn, 1), (.aload_n 0, 1), (.iconst 1, 1), (.invokevirtual 186, 3), (.ireturn, 1), (.aload_n 0, 1), (.iconst 5, 1), (.invokevirtual 186, 3), (.ifCond .ne 19, 3), (.aload_n 0, 1), (.iconst 3, 1), (.invokevirtual 186, 3), (.ifCond .ne 11, 3), (.aload_n 0, 1), (.iconst 1, 1), (.invokevirtual 186, 3), (.ifCond .eq 7, 3), (.iconst 1, 1), (.goto 4, 3), (.iconst 0, 1), (.ireturn, 1), (.aload_n 0, 1), (.getfield 46, 3), (.aload_n 0, 1), (.getfield 35, 3), (.iconst 1, 1), (.invokevirtual 149, 3), (.invokevirtual 189, 3), (.invokestatic 178, 3), (.ldc2_w 192, 3), (.lcmp, 1), (.ifCond .gt 28, 3), (.aload_n 0, 1), (.getfield 46, 3), (.aload_n 0, 1), (.getfield 35, 3), (.iconst 0, 1), (.invokevirtual 149, 3), (.invokevirtual 194, 3), (.invokestatic 178, 3), (.ldc2_w 192, 3), (.lcmp, 1), (.ifCond .le 7, 3), (.iconst 1, 1), (.goto 4, 3), (.iconst 0, 1), (.ireturn, 1), (.aload_n 0, 1), (.getfield 35, 3), (.iconst 0, 1), (.invokevirtual 149, 3), (.ifCond .lt 16, 3), (.aload_n 0, 1), (.getfield 35, 3), (.iconst 0, 1), (.invokevirtual 149, 3), (.bipush 16, 2), (.if_icmp .le 7, 3), (.iconst 1, 1), (.goto 4, 3), (.iconst 0, 1), (.ireturn, 1), (.iconst 0, 1), (.ireturn, 1)]
set_option maxHeartbeats 4000000 in
set_option maxRecDepth 100000 in
theorem dt_Job_goesBeyond : g_dc (g_b M_Job_goesBeyond) 0 dl_Job_goesBeyond = true := by decide +kernel
def M_B_isDigit : gM := (⟨"BandPress", "isDigit", "(I)Z"⟩, prog_1_method_19_code, some .boolean, 1, { frames := 0, cells := 0, slots := 0, locals := 0 }, false, false, none)
def dl_B_isDigit : List (Instr × Nat) := [(.iload_n 0, 1), (.bipush 48, 2), (.if_icmp .lt 13, 3), (.iload_n 0, 1), (.bipush 57, 2), (.if_icmp .gt 7, 3), (.iconst 1, 1), (.goto 4, 3), (.iconst 0, 1), (.ireturn, 1)]
set_option maxHeartbeats 4000000 in
set_option maxRecDepth 100000 in
theorem dt_B_isDigit : g_dc (g_b M_B_isDigit) 0 dl_B_isDigit = true := by decide +kernel
def M_B_isLetter : gM := (⟨"BandPress", "isLetter", "(I)Z"⟩, prog_1_method_20_code, some .boolean, 1, { frames := 0, cells := 0, slots := 0, locals := 0 }, false, false, none)
def dl_B_isLetter : List (Instr × Nat) := [(.iload_n 0, 1), (.bipush 97, 2), (.if_icmp .lt 13, 3), (.iload_n 0, 1), (.bipush 122, 2), (.if_icmp .gt 7, 3), (.iconst 1, 1), (.goto 4, 3), (.iconst 0, 1), (.ireturn, 1)]
set_option maxHeartbeats 4000000 in
set_option maxRecDepth 100000 in
theorem dt_B_isLetter : g_dc (g_b M_B_isLetter) 0 dl_B_isLetter = true := by decide +kernel
def M_Values_isFull : gM := (⟨"BandPress$Values", "isFull", "()Z"⟩, prog_12_method_2_code, some .boolean, 1, { frames := 0, cells := 0, slots := 0, locals := 0 }, false, false, none)
def dl_Values_isFull : List (Instr × Nat) := [(.aload_n 0, 1), (.getfield 15, 3), (.bipush 32, 2), (.if_icmp .lt 7, 3), (.iconst 1, 1), (.goto 4, 3), (.iconst 0, 1), (.ireturn, 1)]
set_option maxHeartbeats 4000000 in
set_option maxRecDepth 100000 in
theorem dt_Values_isFull : g_dc (g_b M_Values_isFull) 0 dl_Values_isFull = true := by decide +kernel
def M_Calls_isFull : gM := (⟨"BandPress$Calls", "isFull", "()Z"⟩, prog_2_method_5_code, some .boolean, 1, { frames := 0, cells := 0, slots := 0, locals := 0 }, false, false, none)
def dl_Calls_isFull : List (Instr × Nat) := [(.aload_n 0, 1), (.getfield 24, 3), (.bipush 20, 2), (.if_icmp .lt 7, 3), (.iconst 1, 1), (.goto 4, 3), (.iconst 0, 1), (.ireturn, 1)]
set_option maxHeartbeats 4000000 in
set_option maxRecDepth 100000 in
theorem dt_Calls_isFull : g_dc (g_b M_Calls_isFull) 0 dl_Calls_isFull = true := by decide +kernel
def M_Job_lacksRoom : gM := (⟨"BandPress$Job", "lacksRoom", "(I)Z"⟩, prog_4_method_11_code, some .boolean, 3, { frames := 1, cells := 0, slots := 0, locals := 21 }, false, false, none)
def dl_Job_lacksRoom : List (Instr × Nat) := [(.iload_n 1, 1), (.invokestatic 205, 3), (.ifCond .ne 22, 3), (.iload_n 1, 1), (.invokestatic 208, 3), (.ifCond .ne 15, 3), (.iload_n 1, 1), (.bipush 123, 2), (.if_icmp .eq 9, 3), (.iload_n 1, 1), (.bipush 68, 2), (.if_icmp .ne 11, 3), (.aload_n 0, 1), (.getfield 35, 3), (.invokevirtual 211, 3), (.ireturn, 1), (.iload_n 1, 1), (.bipush 63, 2), (.if_icmp .eq 21, 3), (.iload_n 1, 1), (.bipush 82, 2), (.if_icmp .ne 19, 3), (.aload_n 0, 1), (.getfield 35, 3), (.iconst 1, 1), (.invokevirtual 149, 3), (.iconst 1, 1), (.if_icmp .lt 7, 3), (.iconst 1, 1), (.goto 4, 3), (.iconst 0, 1), (.istore_n 2, 1), (.iload_n 2, 1), (.ifCond .eq 17, 3), (.aload_n 0, 1), (.getfield 21, 3), (.invokevirtual 212, 3), (.ifCond .eq 7, 3), (.iconst 1, 1), (.goto 4, 3), (.iconst 0, 1), (.ireturn, 1)]
set_option maxHeartbeats 4000000 in
set_option maxRecDepth 100000 in
theorem dt_Job_lacksRoom : g_dc (g_b M_Job_lacksRoom) 0 dl_Job_lacksRoom = true := by decide +kernel
def M_Path_placesFor : gM := (⟨"BandPress$Path", "placesFor", "(I)I"⟩, prog_9_method_3_code, some .int, 2, { frames := 0, cells := 0, slots := 0, locals := 0 }, false, false, none)
def dl_Path_placesFor : List (Instr × Nat) := [(.aload_n 0, 1), (.getfield 35, 3), (.ifCond .eq 9, 3), (.iload_n 1, 1), (.iconst 1, 1), (.iadd, 1), (.goto 4, 3), (.iload_n 1, 1), (.ireturn, 1)]
set_option maxHeartbeats 4000000 in
set_option maxRecDepth 100000 in
theorem dt_Path_placesFor : g_dc (g_b M_Path_placesFor) 0 dl_Path_placesFor = true := by decide +kernel
def M_Job_placesFor : gM := (⟨"BandPress$Job", "placesFor", "(I)I"⟩, prog_4_method_12_code, some .int, 2, { frames := 1, cells := 0, slots := 0, locals := 21 }, false, false, none)
def dl_Job_placesFor : List (Instr × Nat) := [(.iload_n 1, 1), (.lookupswitch 56 #[(67, 46), (76, 37), (77, 35)], 35), (.iconst 1, 1), (.ireturn, 1), (.aload_n 0, 1), (.getfield 53, 3), (.iconst 1, 1), (.invokevirtual 213, 3), (.ireturn, 1), (.aload_n 0, 1), (.getfield 53, 3), (.bipush 8, 2), (.invokevirtual 213, 3), (.ireturn, 1), (.iconst 0, 1), (.ireturn, 1)]
set_option maxHeartbeats 4000000 in
set_option maxRecDepth 100000 in
theorem dt_Job_placesFor : g_dc (g_b M_Job_placesFor) 0 dl_Job_placesFor = true := by decide +kernel
def M_Math_min : gM := (⟨"java/lang/Math", "min", "(JJ)J"⟩, prog_20_method_70_code, some .long, 4, { frames := 0, cells := 0, slots := 0, locals := 0 }, false, false, none)
def dl_Math_min : List (Instr × Nat) := [(.lload_n 0, 1), (.lload_n 2, 1), (.lcmp, 1), (.ifCond .gt 7, 3), (.lload_n 0, 1), (.goto 4, 3), (.lload_n 2, 1), (.lreturn, 1)]
set_option maxHeartbeats 4000000 in
set_option maxRecDepth 100000 in
theorem dt_Math_min : g_dc (g_b M_Math_min) 0 dl_Math_min = true := by decide +kernel
def M_Math_max1 : gM := (⟨"java/lang/Math", "max", "(JJ)J"⟩, prog_20_method_66_code, some .long, 4, { frames := 0, cells := 0, slots := 0, locals := 0 }, false, false, none)
def dl_Math_max1 : List (Instr × Nat) := [(.lload_n 0, 1), (.lload_n 2, 1), (.lcmp, 1), (.ifCond .lt 7, 3), (.lload_n 0, 1), (.goto 4, 3), (.lload_n 2, 1), (.lreturn, 1)]
set_option maxHeartbeats 4000000 in
set_option maxRecDepth 100000 in
theorem dt_Math_max1 : g_dc (g_b M_Math_max1) 0 dl_Math_max1 = true := by decide +kernel
def M_Filler_firstPixel : gM := (⟨"BandPress$Filler", "firstPixel", "(LBandPress$Path;III)I"⟩, prog_3_method_4_code, some .int, 12, { frames := 1, cells := 0, slots := 0, locals := 25 }, false, false, none)
def dl_Filler_firstPixel : List (Instr × Nat) := [(.aload_n 0, 1), (.getfield 37, 3), (.iload_n 2, 1), (.iaload, 1), (.i2l, 1), (.aload_n 0, 1), (.getfield 37, 3), (.iload_n 1, 1), (.iaload, 1), (.i2l, 1), (.lsub, 1), (.lstore 4, 2), (.lload 4, 2), (.lconst 0, 1), (.lcmp, 1), (.ifCond .gt 6, 3), (.bipush 64, 2), (.ireturn, 1), (.aload_n 0, 1), (.getfield 44, 3), (.iload_n 2, 1), (.iaload, 1), (.i2l, 1), (.aload_n 0, 1), (.getfield 44, 3), (.iload_n 1, 1), (.iaload, 1), (.i2l, 1), (.lsub, 1), (.lstore 6, 2), (.aload_n 0, 1), (.getfield 44, 3), (.iload_n 1, 1), (.iaload, 1), (.i2l, 1), (.lload 4, 2), (.lmul, 1), (.iload_n 3, 1), (.aload_n 0, 1), (.getfield 37, 3), (.iload_n 1, 1), (.iaload, 1), (.isub, 1), (.i2l, 1), (.lload 6, 2), (.lmul, 1), (.ladd, 1), (.lstore 8, 2), (.ldc2_w 47, 3), (.lload 4, 2), (.lmul, 1), (.lload 8, 2), (.lsub, 1), (.ldc2_w 49, 3), (.lload 4, 2), (.lmul, 1), (.invokestatic 51, 3), (.lneg, 1), (.lstore 10, 2), (.lconst 0, 1), (.lload 10, 2), (.ldc2_w 57, 3), (.invokestatic 59, 3), (.invokestatic 62, 3), (.l2i, 1), (.ireturn, 1)]
set_option maxHeartbeats 4000000 in
set_option maxRecDepth 100000 in
theorem dt_Filler_firstPixel : g_dc (g_b M_Filler_firstPixel) 0 dl_Filler_firstPixel = true := by decide +kernel
def M_Filler_meetEdges : gM := (⟨"BandPress$Filler", "meetEdges", "(LBandPress$Path;I)Z"⟩, prog_3_method_3_code, some .boolean, 11, { frames := 2, cells := 0, slots := 0, locals := 56 }, false, false, none)
def dl_Filler_meetEdges : List (Instr × Nat) := [(.iconst 0, 1), (.istore_n 3, 1), (.iconst 0, 1), (.istore 4, 2), (.iconst 0, 1), (.istore 5, 2), (.iload 5, 2), (.aload_n 1, 1), (.getfield 27, 3), (.if_icmp .ge 199, 3), (.aload_n 1, 1), (.getfield 33, 3), (.iload 5, 2), (.baload, 1), (.ifCond .eq 8, 3), (.iload 5, 2), (.goto 5, 3), (.iload 4, 2), (.istore 4, 2), (.iload 5, 2), (.iconst 1, 1), (.iadd, 1), (.aload_n 1, 1), (.getfield 27, 3), (.if_icmp .eq 15, 3), (.aload_n 1, 1), (.getfield 33, 3), (.iload 5, 2), (.iconst 1, 1), (.iadd, 1), (.baload, 1), (.ifCond .eq 7, 3), (.iconst 1, 1), (.goto 4, 3), (.iconst 0, 1), (.istore 6, 2), (.iload 6, 2), (.ifCond .eq 8, 3), (.iload 4, 2), (.goto 7, 3), (.iload 5, 2), (.iconst 1, 1), (.iadd, 1), (.istore 7, 2), (.aload_n 1, 1), (.getfield 37, 3), (.iload 5, 2), (.iaload, 1), (.iload_n 2, 1), (.if_icmp .gt 18, 3), (.iload_n 2, 1), (.aload_n 1, 1), (.getfield 37, 3), (.iload 7, 2), (.iaload, 1), (.if_icmp .ge 7, 3), (.iconst 1, 1), (.goto 4, 3), (.iconst 0, 1), (.istore 8, 2), (.aload_n 1, 1), (.getfield 37, 3), (.iload 7, 2), (.iaload, 1), (.iload_n 2, 1), (.if_icmp .gt 18, 3), (.iload_n 2, 1), (.aload_n 1, 1), (.getfield 37, 3), (.iload 5, 2), (.iaload, 1), (.if_icmp .ge 7, 3), (.iconst 1, 1), (.goto 4, 3), (.iconst 0, 1), (.istore 9, 2), (.iload 8, 2), (.ifCond .ne 8, 3), (.iload 9, 2), (.ifCond .eq 60, 3), (.iload 8, 2), (.ifCond .eq 15, 3), (.aload_n 1, 1), (.iload 5, 2), (.iload 7, 2), (.iload_n 2, 1), (.invokestatic 40, 3), (.goto 12, 3), (.aload_n 1, 1), (.iload 7, 2), (.iload 5, 2), (.iload_n 2, 1), (.invokestatic 40, 3), (.istore 10, 2), (.iload 10, 2), (.bipush 64, 2), (.if_icmp .ge 25, 3), (.aload_n 0, 1), (.getfield 15, 3), (.iload 10, 2), (.dup2, 1), (.iaload, 1), (.iload 8, 2), (.ifCond .eq 7, 3), (.iconst 1, 1), (.goto 4, 3), (.iconst (-1), 1), (.iadd, 1), (.iastore, 1), (.iconst 1, 1), (.istore_n 3, 1), (.iinc 5 1, 3), (.goto (-202), 3), (.iload_n 3, 1), (.ireturn, 1)]
set_option maxHeartbeats 4000000 in
set_option maxRecDepth 100000 in
theorem dt_Filler_meetEdges : g_dc (g_b M_Filler_meetEdges) 0 dl_Filler_meetEdges = true := by decide +kernel
def M_Filler_sweep : gM := (⟨"BandPress$Filler", "sweep", "(Z)J"⟩, prog_3_method_5_code, some .long, 7, { frames := 0, cells := 0, slots := 0, locals := 0 }, false, false, none)
def dl_Filler_sweep : List (Instr × Nat) := [(.lconst 0, 1), (.lstore_n 2, 1), (.iconst 0, 1), (.istore 4, 2), (.iconst 0, 1), (.istore 5, 2), (.iload 5, 2), (.bipush 64, 2), (.if_icmp .ge 75, 3), (.iload 4, 2), (.aload_n 0, 1), (.getfield 15, 3), (.iload 5, 2), (.iaload, 1), (.iadd, 1), (.istore 4, 2), (.aload_n 0, 1), (.getfield 15, 3), (.iload 5, 2), (.iconst 0, 1), (.iastore, 1), (.iload_n 1, 1), (.ifCond .eq 18, 3), (.iload 4, 2), (.iconst 1, 1), (.iand, 1), (.ifCond .eq 7, 3), (.iconst 1, 1), (.goto 17, 3), (.iconst 0, 1), (.goto 13, 3), (.iload 4, 2), (.ifCond .eq 7, 3), (.iconst 1, 1), (.goto 4, 3), (.iconst 0, 1), (.istore 6, 2), (.lload_n 2, 1), (.iconst 1, 1), (.lshl, 1), (.iload 6, 2), (.ifCond .eq 7, 3), (.lconst 1, 1), (.goto 4, 3), (.lconst 0, 1), (.lor, 1), (.lstore_n 2, 1), (.iinc 5 1, 3), (.goto (-76), 3), (.lload_n 2, 1), (.lreturn, 1)]
set_option maxHeartbeats 4000000 in
set_option maxRecDepth 100000 in
theorem dt_Filler_sweep : g_dc (g_b M_Filler_sweep) 0 dl_Filler_sweep = true := by decide +kernel
def M_Filler_trace : gM := (⟨"BandPress$Filler", "trace", "(LBandPress$Path;Z)V"⟩, prog_3_method_2_code, none, 4, { frames := 3, cells := 0, slots := 0, locals := 86 }, false, false, none)
def dl_Filler_trace : List (Instr × Nat) := [(.iconst 0, 1), (.istore_n 3, 1), (.iload_n 3, 1), (.bipush 48, 2), (.if_icmp .ge 37, 3), (.aload_n 0, 1), (.getfield 9, 3), (.iload_n 3, 1), (.aload_n 0, 1), (.aload_n 1, 1), (.iconst 4, 1), (.iload_n 3, 1), (.imul, 1), (.iconst 2, 1), (.iadd, 1), (.invokevirtual 19, 3), (.ifCond .eq 11, 3), (.aload_n 0, 1), (.iload_n 2, 1), (.invokevirtual 23, 3), (.goto 4, 3), (.lconst 0, 1), (.lastore, 1), (.iinc 3 1, 3), (.goto (-37), 3), (.return_, 1)]
set_option maxHeartbeats 4000000 in
set_option maxRecDepth 100000 in
theorem dt_Filler_trace : g_dc (g_b M_Filler_trace) 0 dl_Filler_trace = true := by decide +kernel
def M_Settings_clipLine : gM := (⟨"BandPress$Settings", "clipLine", "(I)J"⟩, prog_10_method_14_code, some .long, 2, { frames := 0, cells := 0, slots := 0, locals := 0 }, false, false, none)
def dl_Settings_clipLine : List (Instr × Nat) := [(.aload_n 0, 1), (.getfield 27, 3), (.aload_n 0, 1), (.getfield 39, 3), (.bipush 48, 2), (.imul, 1), (.iload_n 1, 1), (.iadd, 1), (.laload, 1), (.lreturn, 1)]
set_option maxHeartbeats 4000000 in
set_option maxRecDepth 100000 in
theorem dt_Settings_clipLine : g_dc (g_b M_Settings_clipLine) 0 dl_Settings_clipLine = true := by decide +kernel
def M_Long_bitCount : gM := (⟨"java/lang/Long", "bitCount", "(J)I"⟩, prog_19_method_50_code, some .int, 2, { frames := 0, cells := 0, slots := 0, locals := 0 }, false, false, none)
def dl_Long_bitCount : List (Instr × Nat) := [(.lload_n 0, 1), (.lload_n 0, 1), (.iconst 1, 1), (.lushr, 1), (.ldc2_w 314, 3), (.land, 1), (.lsub, 1), (.lstore_n 0, 1), (.lload_n 0, 1), (.ldc2_w 316, 3), (.land, 1), (.lload_n 0, 1), (.iconst 2, 1), (.lushr, 1), (.ldc2_w 316, 3), (.land, 1), (.ladd, 1), (.lstore_n 0, 1), (.lload_n 0, 1), (.lload_n 0, 1), (.iconst 4, 1), (.lushr, 1), (.ladd, 1), (.ldc2_w 318, 3), (.land, 1), (.lstore_n 0, 1), (.lload_n 0, 1), (.lload_n 0, 1), (.bipush 8, 2), (.lushr, 1), (.ladd, 1), (.lstore_n 0, 1), (.lload_n 0, 1), (.lload_n 0, 1), (.bipush 16, 2), (.lushr, 1), (.ladd, 1), (.lstore_n 0, 1), (.lload_n 0, 1), (.lload_n 0, 1), (.bipush 32, 2), (.lushr, 1), (.ladd, 1), (.lstore_n 0, 1), (.lload_n 0, 1), (.l2i, 1), (.bipush 127, 2), (.iand, 1), (.ireturn, 1)]
set_option maxHeartbeats 4000000 in
set_option maxRecDepth 100000 in
theorem dt_Long_bitCount : g_dc (g_b M_Long_bitCount) 0 dl_Long_bitCount = true := by decide +kernel
def M_Pages_marksOf : gM := (⟨"BandPress$Pages", "marksOf", "([JLBandPress$Settings;)I"⟩, prog_8_method_7_code, some .int, 6, { frames := 1, cells := 0, slots := 0, locals := 21 }, false, false, none)
def dl_Pages_marksOf : List (Instr × Nat) := [(.iconst 0, 1), (.istore_n 2, 1), (.iconst 0, 1), (.istore_n 3, 1), (.iload_n 3, 1), (.bipush 48, 2), (.if_icmp .ge 37, 3), (.aload_n 0, 1), (.iload_n 3, 1), (.laload, 1), (.aload_n 1, 1), (.iload_n 3, 1), (.invokevirtual 35, 3), (.land, 1), (.lstore 4, 2), (.iload_n 2, 1), (.lload 4, 2), (.lload 4, 2), (.iconst 1, 1), (.lushr, 1), (.ldc2_w 41, 3), (.lxor, 1), (.land, 1), (.invokestatic 43, 3), (.iadd, 1), (.istore_n 2, 1), (.iinc 3 1, 3), (.goto (-37), 3), (.iload_n 2, 1), (.ireturn, 1)]
set_option maxHeartbeats 4000000 in
set_option maxRecDepth 100000 in
theorem dt_Pages_marksOf : g_dc (g_b M_Pages_marksOf) 0 dl_Pages_marksOf = true := by decide +kernel
def M_Job_marksTooMuch : gM := (⟨"BandPress$Job", "marksTooMuch", "(I)Z"⟩, prog_4_method_13_code, some .boolean, 2, { frames := 4, cells := 0, slots := 0, locals := 109 }, false, false, none)
def dl_Job_marksTooMuch : List (Instr × Nat) := [(.aload_n 0, 1), (.getfield 28, 3), (.aload_n 0, 1), (.getfield 53, 3), (.iload_n 1, 1), (.bipush 69, 2), (.if_icmp .ne 7, 3), (.iconst 1, 1), (.goto 4, 3), (.iconst 0, 1), (.invokevirtual 214, 3), (.aload_n 0, 1), (.getfield 60, 3), (.getfield 218, 3), (.aload_n 0, 1), (.getfield 28, 3), (.getfield 221, 3), (.aload_n 0, 1), (.getfield 46, 3), (.invokestatic 225, 3), (.iadd, 1), (.sipush 250, 3), (.if_icmp .le 7, 3), (.iconst 1, 1), (.goto 4, 3), (.iconst 0, 1), (.ireturn, 1)]
set_option maxHeartbeats 4000000 in
set_option maxRecDepth 100000 in
theorem dt_Job_marksTooMuch : g_dc (g_b M_Job_marksTooMuch) 0 dl_Job_marksTooMuch = true := by decide +kernel
def M_Pages_isFull : gM := (⟨"BandPress$Pages", "isFull", "()Z"⟩, prog_8_method_5_code, some .boolean, 1, { frames := 0, cells := 0, slots := 0, locals := 0 }, false, false, none)
def dl_Pages_isFull : List (Instr × Nat) := [(.aload_n 0, 1), (.getfield 18, 3), (.bipush 8, 2), (.if_icmp .lt 7, 3), (.iconst 1, 1), (.goto 4, 3), (.iconst 0, 1), (.ireturn, 1)]
set_option maxHeartbeats 4000000 in
set_option maxRecDepth 100000 in
theorem dt_Pages_isFull : g_dc (g_b M_Pages_isFull) 0 dl_Pages_isFull = true := by decide +kernel
def M_Settings_saved : gM := (⟨"BandPress$Settings", "saved", "()I"⟩, prog_10_method_3_code, some .int, 1, { frames := 0, cells := 0, slots := 0, locals := 0 }, false, false, none)
def dl_Settings_saved : List (Instr × Nat) := [(.aload_n 0, 1), (.getfield 39, 3), (.ireturn, 1)]
set_option maxHeartbeats 4000000 in
set_option maxRecDepth 100000 in
theorem dt_Settings_saved : g_dc (g_b M_Settings_saved) 0 dl_Settings_saved = true := by decide +kernel
def M_Calls_innermostLoop : gM := (⟨"BandPress$Calls", "innermostLoop", "()I"⟩, prog_2_method_8_code, some .int, 2, { frames := 0, cells := 0, slots := 0, locals := 0 }, false, false, none)
def dl_Calls_innermostLoop : List (Instr × Nat) := [(.aload_n 0, 1), (.getfield 24, 3), (.istore_n 1, 1), (.iload_n 1, 1), (.ifCond .lt 20, 3), (.aload_n 0, 1), (.getfield 21, 3), (.iload_n 1, 1), (.iaload, 1), (.ifCond .le 5, 3), (.iload_n 1, 1), (.ireturn, 1), (.iinc 1 (-1), 3), (.goto (-18), 3), (.iconst (-1), 1), (.ireturn, 1)]
set_option maxHeartbeats 4000000 in
set_option maxRecDepth 100000 in
theorem dt_Calls_innermostLoop : g_dc (g_b M_Calls_innermostLoop) 0 dl_Calls_innermostLoop = true := by decide +kernel
def M_Job_errorOf : gM := (⟨"BandPress$Job", "errorOf", "(I)I"⟩, prog_4_method_6_code, some .int, 3, { frames := 5, cells := 0, slots := 0, locals := 130 }, false, false, none)
def dl_Job_errorOf : List (Instr × Nat) := [(.iload_n 1, 1), (.invokestatic 135, 3), (.istore_n 2, 1), (.aload_n 0, 1), (.getfield 35, 3), (.getfield 138, 3), (.iload_n 2, 1), (.if_icmp .ge 5, 3), (.iconst 1, 1), (.ireturn, 1), (.aload_n 0, 1), (.iload_n 1, 1), (.iload_n 2, 1), (.invokevirtual 141, 3), (.ifCond .ne 5, 3), (.iconst 2, 1), (.ireturn, 1), (.aload_n 0, 1), (.iload_n 1, 1), (.invokevirtual 145, 3), (.ifCond .eq 5, 3), (.iconst 3, 1), (.ireturn, 1), (.iload_n 1, 1), (.bipush 47, 2), (.if_icmp .eq 9, 3), (.iload_n 1, 1), (.bipush 37, 2), (.if_icmp .ne 16, 3), (.aload_n 0, 1), (.getfield 35, 3), (.iconst 0, 1), (.invokevirtual 149, 3), (.ifCond .ne 5, 3), (.iconst 4, 1), (.ireturn, 1), (.aload_n 0, 1), (.iload_n 1, 1), (.invokevirtual 152, 3), (.ifCond .eq 5, 3), (.iconst 5, 1), (.ireturn, 1), (.iload_n 1, 1), (.bipush 76, 2), (.if_icmp .eq 15, 3), (.iload_n 1, 1), (.bipush 67, 2), (.if_icmp .eq 9, 3), (.iload_n 1, 1), (.bipush 90, 2), (.if_icmp .ne 16, 3), (.aload_n 0, 1), (.getfield 53, 3), (.getfield 155, 3), (.ifCond .ne 6, 3), (.bipush 6, 2), (.ireturn, 1), (.aload_n 0, 1), (.getfield 53, 3), (.getfield 155, 3), (.aload_n 0, 1), (.iload_n 1, 1), (.invokevirtual 156, 3), (.iadd, 1), (.sipush 200, 3), (.if_icmp .le 6, 3), (.bipush 7, 2), (.ireturn, 1), (.iload_n 1, 1), (.bipush 70, 2), (.if_icmp .eq 9, 3), (.iload_n 1, 1), (.bipush 69, 2), (.if_icmp .ne 14, 3), (.aload_n 0, 1), (.iload_n 1, 1), (.invokevirtual 159, 3), (.ifCond .eq 6, 3), (.bipush 8, 2), (.ireturn, 1), (.iload_n 1, 1), (.bipush 80, 2), (.if_icmp .ne 16, 3), (.aload_n 0, 1), (.getfield 60, 3), (.invokevirtual 162, 3), (.ifCond .eq 6, 3), (.bipush 9, 2), (.ireturn, 1), (.iload_n 1, 1), (.bipush 85, 2), (.if_icmp .ne 14, 3), (.aload_n 0, 1), (.getfield 46, 3), (.invokevirtual 165, 3), (.iconst 4, 1), (.if_icmp .eq 19, 3), (.iload_n 1, 1), (.bipush 86, 2), (.if_icmp .ne 16, 3), (.aload_n 0, 1), (.getfield 46, 3), (.invokevirtual 165, 3), (.ifCond .ne 6, 3), (.bipush 10, 2), (.ireturn, 1), (.iload_n 1, 1), (.bipush 81, 2), (.if_icmp .ne 17, 3), (.aload_n 0, 1), (.getfield 21, 3), (.invokevirtual 168, 3), (.iconst (-1), 1), (.if_icmp .ne 6, 3), (.bipush 11, 2), (.ireturn, 1), (.aload_n 0, 1), (.getfield 98, 3), (.aload_n 0, 1), (.getfield 101, 3), (.if_icmp .lt 8, 3), (.bipush 12, 2), (.goto 4, 3), (.iconst 0, 1), (.ireturn, 1)]
set_option maxHeartbeats 4000000 in
set_option maxRecDepth 100000 in
theorem dt_Job_errorOf : g_dc (g_b M_Job_errorOf) 0 dl_Job_errorOf = true := by decide +kernel
def M_Text_closing : gM := (⟨"BandPress$Text", "closing", "(I)I"⟩, prog_11_method_7_code, some .int, 2, { frames := 0, cells := 0, slots := 0, locals := 0 }, false, false, none)
def dl_Text_closing : List (Instr × Nat) := [(.iload_n 1, 1), (.ifCond .lt 11, 3), (.iload_n 1, 1), (.aload_n 0, 1), (.getfield 21, 3), (.if_icmp .lt 10, 3), (.aload_n 0, 1), (.getfield 21, 3), (.goto 9, 3), (.aload_n 0, 1), (.getfield 15, 3), (.iload_n 1, 1), (.iaload, 1), (.ireturn, 1)]
set_option maxHeartbeats 4000000 in
set_option maxRecDepth 100000 in
theorem dt_Text_closing : g_dc (g_b M_Text_closing) 0 dl_Text_closing = true := by decide +kernel
def M_Text_behindDigits : gM := (⟨"BandPress$Text", "behindDigits", "(I)I"⟩, prog_11_method_11_code, some .int, 3, { frames := 1, cells := 0, slots := 0, locals := 21 }, false, false, none)
def dl_Text_behindDigits : List (Instr × Nat) := [(.iload_n 1, 1), (.istore_n 2, 1), (.iload_n 2, 1), (.aload_n 0, 1), (.getfield 21, 3), (.if_icmp .ge 20, 3), (.aload_n 0, 1), (.iload_n 2, 1), (.invokevirtual 49, 3), (.invokestatic 33, 3), (.ifCond .eq 9, 3), (.iinc 2 1, 3), (.goto (-22), 3), (.iload_n 2, 1), (.ireturn, 1)]
set_option maxHeartbeats 4000000 in
set_option maxRecDepth 100000 in
theorem dt_Text_behindDigits : g_dc (g_b M_Text_behindDigits) 0 dl_Text_behindDigits = true := by decide +kernel
def M_Text_behind : gM := (⟨"BandPress$Text", "behind", "(I)I"⟩, prog_11_method_9_code, some .int, 3, { frames := 2, cells := 0, slots := 0, locals := 43 }, false, false, none)
def dl_Text_behind : List (Instr × Nat) := [(.aload_n 0, 1), (.iload_n 1, 1), (.invokevirtual 49, 3), (.istore_n 2, 1), (.iload_n 2, 1), (.bipush 123, 2), (.if_icmp .ne 11, 3), (.aload_n 0, 1), (.iload_n 1, 1), (.invokevirtual 53, 3), (.iconst 1, 1), (.iadd, 1), (.ireturn, 1), (.iload_n 2, 1), (.bipush 58, 2), (.if_icmp .ne 7, 3), (.iload_n 1, 1), (.iconst 2, 1), (.iadd, 1), (.ireturn, 1), (.iload_n 2, 1), (.invokestatic 33, 3), (.ifCond .eq 11, 3), (.aload_n 0, 1), (.iload_n 1, 1), (.invokevirtual 56, 3), (.goto 6, 3), (.iload_n 1, 1), (.iconst 1, 1), (.iadd, 1), (.ireturn, 1)]
set_option maxHeartbeats 4000000 in
set_option maxRecDepth 100000 in
theorem dt_Text_behind : g_dc (g_b M_Text_behind) 0 dl_Text_behind = true := by decide +kernel
def M_Calls_goTo : gM := (⟨"BandPress$Calls", "goTo", "(I)V"⟩, prog_2_method_7_code, none, 2, { frames := 0, cells := 0, slots := 0, locals := 0 }, false, false, none)
def dl_Calls_goTo : List (Instr × Nat) := [(.aload_n 0, 1), (.getfield 24, 3), (.ifCond .lt 13, 3), (.aload_n 0, 1), (.getfield 9, 3), (.aload_n 0, 1), (.getfield 24, 3), (.iload_n 1, 1), (.iastore, 1), (.return_, 1)]
set_option maxHeartbeats 4000000 in
set_option maxRecDepth 100000 in
theorem dt_Calls_goTo : g_dc (g_b M_Calls_goTo) 0 dl_Calls_goTo = true := by decide +kernel
def M_Text_number : gM := (⟨"BandPress$Text", "number", "(I)I"⟩, prog_11_method_10_code, some .int, 5, { frames := 2, cells := 0, slots := 0, locals := 43 }, false, false, none)
def dl_Text_number : List (Instr × Nat) := [(.aload_n 0, 1), (.iload_n 1, 1), (.invokevirtual 56, 3), (.istore_n 2, 1), (.iconst 0, 1), (.istore_n 3, 1), (.iload_n 1, 1), (.istore 4, 2), (.iload 4, 2), (.iload_n 2, 1), (.if_icmp .ge 24, 3), (.bipush 10, 2), (.iload_n 3, 1), (.imul, 1), (.aload_n 0, 1), (.iload 4, 2), (.invokevirtual 49, 3), (.iadd, 1), (.bipush 48, 2), (.isub, 1), (.istore_n 3, 1), (.iinc 4 1, 3), (.goto (-24), 3), (.iload_n 3, 1), (.ireturn, 1)]
set_option maxHeartbeats 4000000 in
set_option maxRecDepth 100000 in
theorem dt_Text_number : g_dc (g_b M_Text_number) 0 dl_Text_number = true := by decide +kernel
def M_Values_push : gM := (⟨"BandPress$Values", "push", "(I)V"⟩, prog_12_method_5_code, none, 2, { frames := 0, cells := 0, slots := 0, locals := 0 }, false, false, none)
def dl_Values_push : List (Instr × Nat) := [(.aload_n 0, 1), (.getfield 15, 3), (.bipush 32, 2), (.if_icmp .ge 23, 3), (.aload_n 0, 1), (.getfield 9, 3), (.aload_n 0, 1), (.getfield 15, 3), (.iload_n 1, 1), (.iastore, 1), (.aload_n 0, 1), (.dup, 1), (.getfield 15, 3), (.iconst 1, 1), (.iadd, 1), (.putfield 15, 3), (.return_, 1)]
set_option maxHeartbeats 4000000 in
set_option maxRecDepth 100000 in
theorem dt_Values_push : g_dc (g_b M_Values_push) 0 dl_Values_push = true := by decide +kernel
def M_Values_drop : gM := (⟨"BandPress$Values", "drop", "(I)V"⟩, prog_12_method_6_code, none, 2, { frames := 1, cells := 0, slots := 0, locals := 21 }, false, false, none)
def dl_Values_drop : List (Instr × Nat) := [(.aload_n 0, 1), (.iconst 0, 1), (.aload_n 0, 1), (.getfield 15, 3), (.iload_n 1, 1), (.isub, 1), (.invokestatic 24, 3), (.putfield 15, 3), (.return_, 1)]
set_option maxHeartbeats 4000000 in
set_option maxRecDepth 100000 in
theorem dt_Values_drop : g_dc (g_b M_Values_drop) 0 dl_Values_drop = true := by decide +kernel
def M_Job_assign : gM := (⟨"BandPress$Job", "assign", "(I)V"⟩, prog_4_method_16_code, none, 2, { frames := 2, cells := 0, slots := 0, locals := 42 }, false, false, none)
def dl_Job_assign : List (Instr × Nat) := [(.iload_n 1, 1), (.invokestatic 208, 3), (.ifCond .eq 20, 3), (.aload_n 0, 1), (.getfield 39, 3), (.iload_n 1, 1), (.bipush 97, 2), (.isub, 1), (.aload_n 0, 1), (.getfield 35, 3), (.iconst 0, 1), (.invokevirtual 149, 3), (.iastore, 1), (.aload_n 0, 1), (.getfield 35, 3), (.iconst 1, 1), (.invokevirtual 75, 3), (.return_, 1)]
set_option maxHeartbeats 4000000 in
set_option maxRecDepth 100000 in
theorem dt_Job_assign : g_dc (g_b M_Job_assign) 0 dl_Job_assign = true := by decide +kernel
def M_String_isLatin1 : gM := (⟨"java/lang/String", "isLatin1", "()Z"⟩, prog_22_method_154_code, some .boolean, 1, { frames := 0, cells := 0, slots := 0, locals := 0 }, false, false, none)
def dl_String_isLatin1 : List (Instr × Nat) := [(.getstatic 38, 3), (.ifCond .eq 14, 3), (.aload_n 0, 1), (.getfield 15, 3), (.ifCond .ne 7, 3), (.iconst 1, 1), (.goto 4, 3), (.iconst 0, 1), (.ireturn, 1)]
set_option maxHeartbeats 4000000 in
set_option maxRecDepth 100000 in
theorem dt_String_isLatin1 : g_dc (g_b M_String_isLatin1) 0 dl_String_isLatin1 = true := by decide +kernel
def M_String_coder : gM := (⟨"java/lang/String", "coder", "()B"⟩, prog_22_method_152_code, some .byte, 1, { frames := 0, cells := 0, slots := 0, locals := 0 }, false, false, none)
def dl_String_coder : List (Instr × Nat) := [(.getstatic 38, 3), (.ifCond .eq 10, 3), (.aload_n 0, 1), (.getfield 15, 3), (.goto 4, 3), (.iconst 1, 1), (.ireturn, 1)]
set_option maxHeartbeats 4000000 in
set_option maxRecDepth 100000 in
theorem dt_String_coder : g_dc (g_b M_String_coder) 0 dl_String_coder = true := by decide +kernel
def M_String_length : gM := (⟨"java/lang/String", "length", "()I"⟩, prog_22_method_54_code, some .int, 1, { frames := 1, cells := 0, slots := 0, locals := 20 }, false, false, none)
def dl_String_length : List (Instr × Nat) := [(.aload_n 0, 1), (.getfield 9, 3), (.arraylength, 1), (.aload_n 0, 1), (.invokevirtual 335, 3), (.ishr, 1), (.ireturn, 1)]
set_option maxHeartbeats 4000000 in
set_option maxRecDepth 100000 in
theorem dt_String_length : g_dc (g_b M_String_length) 0 dl_String_length = true := by decide +kernel
def M_StringLatin1_canEncode : gM := (⟨"java/lang/StringLatin1", "canEncode", "(I)Z"⟩, prog_23_method_4_code, some .boolean, 1, { frames := 0, cells := 0, slots := 0, locals := 0 }, false, false, none)
def dl_StringLatin1_canEncode : List (Instr × Nat) := [(.iload_n 0, 1), (.ifCond .lt 14, 3), (.iload_n 0, 1), (.sipush 255, 3), (.if_icmp .gt 7, 3), (.iconst 1, 1), (.goto 4, 3), (.iconst 0, 1), (.ireturn, 1)]
set_option maxHeartbeats 4000000 in
set_option maxRecDepth 100000 in
theorem dt_StringLatin1_canEncode : g_dc (g_b M_StringLatin1_canEncode) 0 dl_StringLatin1_canEncode = true := by decide +kernel
def M_Math_min1 : gM := (⟨"java/lang/Math", "min", "(II)I"⟩, prog_20_method_69_code, some .int, 2, { frames := 0, cells := 0, slots := 0, locals := 0 }, false, false, none)
def dl_Math_min1 : List (Instr × Nat) := [(.iload_n 0, 1), (.iload_n 1, 1), (.if_icmp .gt 7, 3), (.iload_n 0, 1), (.goto 4, 3), (.iload_n 1, 1), (.ireturn, 1)]
set_option maxHeartbeats 4000000 in
set_option maxRecDepth 100000 in
theorem dt_Math_min1 : g_dc (g_b M_Math_min1) 0 dl_Math_min1 = true := by decide +kernel
def M_StringLatin1_indexOfChar : gM := (⟨"java/lang/StringLatin1", "indexOfChar", "([BIII)I"⟩, prog_23_method_23_code, some .int, 6, { frames := 0, cells := 0, slots := 0, locals := 0 }, false, false, none)
def dl_StringLatin1_indexOfChar : List (Instr × Nat) := [(.iload_n 1, 1), (.i2b, 1), (.istore 4, 2), (.iload_n 2, 1), (.istore 5, 2), (.iload 5, 2), (.iload_n 3, 1), (.if_icmp .ge 21, 3), (.aload_n 0, 1), (.iload 5, 2), (.baload, 1), (.iload 4, 2), (.if_icmp .ne 6, 3), (.iload 5, 2), (.ireturn, 1), (.iinc 5 1, 3), (.goto (-21), 3), (.iconst (-1), 1), (.ireturn, 1)]
set_option maxHeartbeats 4000000 in
set_option maxRecDepth 100000 in
theorem dt_StringLatin1_indexOfChar : g_dc (g_b M_StringLatin1_indexOfChar) 0 dl_StringLatin1_indexOfChar = true := by decide +kernel
def M_StringLatin1_indexOf : gM := (⟨"java/lang/StringLatin1", "indexOf", "([BIII)I"⟩, prog_23_method_22_code, some .int, 4, { frames := 1, cells := 0, slots := 0, locals := 25 }, false, false, none)
def dl_StringLatin1_indexOf : List (Instr × Nat) := [(.iload_n 1, 1), (.invokestatic 88, 3), (.ifCond .ne 5, 3), (.iconst (-1), 1), (.ireturn, 1), (.iload_n 2, 1), (.iconst 0, 1), (.invokestatic 92, 3), (.istore_n 2, 1), (.iload_n 3, 1), (.aload_n 0, 1), (.arraylength, 1), (.invokestatic 38, 3), (.istore_n 3, 1), (.iload_n 2, 1), (.iload_n 3, 1), (.if_icmp .lt 5, 3), (.iconst (-1), 1), (.ireturn, 1), (.aload_n 0, 1), (.iload_n 1, 1), (.iload_n 2, 1), (.iload_n 3, 1), (.invokestatic 95, 3), (.ireturn, 1)]
set_option maxHeartbeats 4000000 in
set_option maxRecDepth 100000 in
theorem dt_StringLatin1_indexOf : g_dc (g_b M_StringLatin1_indexOf) 0 dl_StringLatin1_indexOf = true := by decide +kernel
def M_String_indexOf1 : gM := (⟨"java/lang/String", "indexOf", "(II)I"⟩, prog_22_method_80_code, some .int, 3, { frames := 2, cells := 0, slots := 0, locals := 48 }, false, false, none)
def dl_String_indexOf1 : List (Instr × Nat) := [(.aload_n 0, 1), (.invokevirtual 492, 3), (.ifCond .eq 19, 3), (.aload_n 0, 1), (.getfield 9, 3), (.iload_n 1, 1), (.iload_n 2, 1), (.aload_n 0, 1), (.invokevirtual 505, 3), (.invokestatic 637, 3), (.goto 16, 3), (.aload_n 0, 1), (.getfield 9, 3), (.iload_n 1, 1), (.iload_n 2, 1), (.aload_n 0, 1), (.invokevirtual 505, 3), (.invokestatic 640, 3), (.ireturn, 1)]
set_option maxHeartbeats 4000000 in
set_option maxRecDepth 100000 in
theorem dt_String_indexOf1 : g_dc (g_b M_String_indexOf1) 0 dl_String_indexOf1 = true := by decide +kernel
def M_String_indexOf : gM := (⟨"java/lang/String", "indexOf", "(I)I"⟩, prog_22_method_79_code, some .int, 2, { frames := 3, cells := 0, slots := 0, locals := 70 }, false, false, none)
def dl_String_indexOf : List (Instr × Nat) := [(.aload_n 0, 1), (.iload_n 1, 1), (.iconst 0, 1), (.invokevirtual 633, 3), (.ireturn, 1)]
set_option maxHeartbeats 4000000 in
set_option maxRecDepth 100000 in
theorem dt_String_indexOf : g_dc (g_b M_String_indexOf) 0 dl_String_indexOf = true := by decide +kernel
def M_B_isOneOf : gM := (⟨"BandPress", "isOneOf", "(Ljava/lang/String;I)Z"⟩, prog_1_method_21_code, some .boolean, 2, { frames := 4, cells := 0, slots := 0, locals := 91 }, false, false, none)
def dl_B_isOneOf : List (Instr × Nat) := [(.aload_n 0, 1), (.iload_n 1, 1), (.i2c, 1), (.invokevirtual 219, 3), (.ifCond .lt 7, 3), (.iconst 1, 1), (.goto 4, 3), (.iconst 0, 1), (.ireturn, 1)]
set_option maxHeartbeats 4000000 in
set_option maxRecDepth 100000 in
theorem dt_B_isOneOf : g_dc (g_b M_B_isOneOf) 0 dl_B_isOneOf = true := by decide +kernel
def M_Calls_leaveLoop : gM := (⟨"BandPress$Calls", "leaveLoop", "()V"⟩, prog_2_method_9_code, none, 2, { frames := 1, cells := 0, slots := 0, locals := 21 }, false, false, none)
def dl_Calls_leaveLoop : List (Instr × Nat) := [(.aload_n 0, 1), (.invokevirtual 50, 3), (.istore_n 1, 1), (.iload_n 1, 1), (.iconst (-1), 1), (.if_icmp .eq 10, 3), (.aload_n 0, 1), (.iload_n 1, 1), (.iconst 1, 1), (.isub, 1), (.putfield 24, 3), (.return_, 1)]
set_option maxHeartbeats 4000000 in
set_option maxRecDepth 100000 in
theorem dt_Calls_leaveLoop : g_dc (g_b M_Calls_leaveLoop) 0 dl_Calls_leaveLoop = true := by decide +kernel
def M_Text_skipBlanks : gM := (⟨"BandPress$Text", "skipBlanks", "(II)I"⟩, prog_11_method_8_code, some .int, 4, { frames := 1, cells := 0, slots := 0, locals := 21 }, false, false, none)
def dl_Text_skipBlanks : List (Instr × Nat) := [(.iload_n 1, 1), (.istore_n 3, 1), (.iload_n 3, 1), (.iload_n 2, 1), (.if_icmp .ge 19, 3), (.aload_n 0, 1), (.iload_n 3, 1), (.invokevirtual 49, 3), (.bipush 32, 2), (.if_icmp .ne 9, 3), (.iinc 3 1, 3), (.goto (-18), 3), (.iload_n 3, 1), (.ireturn, 1)]
set_option maxHeartbeats 4000000 in
set_option maxRecDepth 100000 in
theorem dt_Text_skipBlanks : g_dc (g_b M_Text_skipBlanks) 0 dl_Text_skipBlanks = true := by decide +kernel
def M_Calls_push : gM := (⟨"BandPress$Calls", "push", "(III)V"⟩, prog_2_method_11_code, none, 4, { frames := 0, cells := 0, slots := 0, locals := 0 }, false, false, none)
def dl_Calls_push : List (Instr × Nat) := [(.aload_n 0, 1), (.getfield 24, 3), (.bipush 20, 2), (.if_icmp .ge 53, 3), (.aload_n 0, 1), (.dup, 1), (.getfield 24, 3), (.iconst 1, 1), (.iadd, 1), (.putfield 24, 3), (.aload_n 0, 1), (.getfield 9, 3), (.aload_n 0, 1), (.getfield 24, 3), (.iload_n 1, 1), (.iastore, 1), (.aload_n 0, 1), (.getfield 15, 3), (.aload_n 0, 1), (.getfield 24, 3), (.iload_n 1, 1), (.iastore, 1), (.aload_n 0, 1), (.getfield 18, 3), (.aload_n 0, 1), (.getfield 24, 3), (.iload_n 2, 1), (.iastore, 1), (.aload_n 0, 1), (.getfield 21, 3), (.aload_n 0, 1), (.getfield 24, 3), (.iload_n 3, 1), (.iastore, 1), (.return_, 1)]
set_option maxHeartbeats 4000000 in
set_option maxRecDepth 100000 in
theorem dt_Calls_push : g_dc (g_b M_Calls_push) 0 dl_Calls_push = true := by decide +kernel
def M_Calls_enter : gM := (⟨"BandPress$Calls", "enter", "(LBandPress$Text;II)V"⟩, prog_2_method_3_code, none, 6, { frames := 2, cells := 0, slots := 0, locals := 44 }, false, false, none)
def dl_Calls_enter : List (Instr × Nat) := [(.iload_n 2, 1), (.ldc 41, 2), (.isub, 1), (.istore 4, 2), (.aload_n 1, 1), (.iload 4, 2), (.invokevirtual 42, 3), (.istore 5, 2), (.aload_n 1, 1), (.iload 4, 2), (.iconst 1, 1), (.iadd, 1), (.iload 5, 2), (.invokevirtual 46, 3), (.iload 5, 2), (.if_icmp .ge 14, 3), (.aload_n 0, 1), (.iload 4, 2), (.iconst 1, 1), (.iadd, 1), (.iload 5, 2), (.iload_n 3, 1), (.invokevirtual 33, 3), (.return_, 1)]
set_option maxHeartbeats 4000000 in
set_option maxRecDepth 100000 in
theorem dt_Calls_enter : g_dc (g_b M_Calls_enter) 0 dl_Calls_enter = true := by decide +kernel
def M_Job_control : gM := (⟨"BandPress$Job", "control", "(I)V"⟩, prog_4_method_17_code, none, 5, { frames := 3, cells := 0, slots := 0, locals := 69 }, false, false, none)
def dl_Job_control : List (Instr × Nat) := [(.aload_n 0, 1), (.getfield 35, 3), (.iconst 0, 1), (.invokevirtual 149, 3), (.istore_n 2, 1), (.aload_n 0, 1), (.getfield 35, 3), (.iconst 1, 1), (.invokevirtual 149, 3), (.istore_n 3, 1), (.aload_n 0, 1), (.getfield 35, 3), (.iconst 2, 1), (.invokevirtual 149, 3), (.istore 4, 2), (.iload_n 1, 1), (.bipush 81, 2), (.if_icmp .ne 13, 3), (.aload_n 0, 1), (.getfield 21, 3), (.invokevirtual 261, 3), (.goto 68, 3), (.iload_n 1, 1), (.bipush 63, 2), (.if_icmp .ne 36, 3), (.aload_n 0, 1), (.getfield 35, 3), (.iconst 3, 1), (.invokevirtual 75, 3), (.aload_n 0, 1), (.getfield 21, 3), (.aload_n 0, 1), (.getfield 12, 3), (.iload 4, 2), (.ifCond .eq 7, 3), (.iload_n 3, 1), (.goto 4, 3), (.iload_n 2, 1), (.iconst 0, 1), (.invokevirtual 264, 3), (.goto 29, 3), (.aload_n 0, 1), (.getfield 35, 3), (.iconst 2, 1), (.invokevirtual 75, 3), (.iload_n 3, 1), (.iconst 1, 1), (.if_icmp .lt 16, 3), (.aload_n 0, 1), (.getfield 21, 3), (.aload_n 0, 1), (.getfield 12, 3), (.iload_n 2, 1), (.iload_n 3, 1), (.invokevirtual 264, 3), (.return_, 1)]
set_option maxHeartbeats 4000000 in
set_option maxRecDepth 100000 in
theorem dt_Job_control : g_dc (g_b M_Job_control) 0 dl_Job_control = true := by decide +kernel
def M_Path_close : gM := (⟨"BandPress$Path", "close", "()V"⟩, prog_9_method_6_code, none, 1, { frames := 0, cells := 0, slots := 0, locals := 0 }, false, false, none)
def dl_Path_close : List (Instr × Nat) := [(.aload_n 0, 1), (.iconst 1, 1), (.putfield 35, 3), (.return_, 1)]
set_option maxHeartbeats 4000000 in
set_option maxRecDepth 100000 in
theorem dt_Path_close : g_dc (g_b M_Path_close) 0 dl_Path_close = true := by decide +kernel
def M_Job_placedX : gM := (⟨"BandPress$Job", "placedX", "(I)I"⟩, prog_4_method_19_code, some .int, 2, { frames := 3, cells := 0, slots := 0, locals := 67 }, false, false, none)
def dl_Job_placedX : List (Instr × Nat) := [(.aload_n 0, 1), (.getfield 46, 3), (.aload_n 0, 1), (.getfield 35, 3), (.iload_n 1, 1), (.invokevirtual 149, 3), (.invokevirtual 197, 3), (.l2i, 1), (.ireturn, 1)]
set_option maxHeartbeats 4000000 in
set_option maxRecDepth 100000 in
theorem dt_Job_placedX : g_dc (g_b M_Job_placedX) 0 dl_Job_placedX = true := by decide +kernel
def M_Job_placedY : gM := (⟨"BandPress$Job", "placedY", "(I)I"⟩, prog_4_method_20_code, some .int, 2, { frames := 3, cells := 0, slots := 0, locals := 67 }, false, false, none)
def dl_Job_placedY : List (Instr × Nat) := [(.aload_n 0, 1), (.getfield 46, 3), (.aload_n 0, 1), (.getfield 35, 3), (.iload_n 1, 1), (.invokevirtual 149, 3), (.invokevirtual 202, 3), (.l2i, 1), (.ireturn, 1)]
set_option maxHeartbeats 4000000 in
set_option maxRecDepth 100000 in
theorem dt_Job_placedY : g_dc (g_b M_Job_placedY) 0 dl_Job_placedY = true := by decide +kernel
def M_Path_add : gM := (⟨"BandPress$Path", "add", "(IIZ)V"⟩, prog_9_method_12_code, none, 4, { frames := 0, cells := 0, slots := 0, locals := 0 }, false, false, none)
def dl_Path_add : List (Instr × Nat) := [(.aload_n 0, 1), (.getfield 28, 3), (.sipush 200, 3), (.if_icmp .ge 43, 3), (.aload_n 0, 1), (.getfield 9, 3), (.aload_n 0, 1), (.getfield 28, 3), (.iload_n 1, 1), (.iastore, 1), (.aload_n 0, 1), (.getfield 15, 3), (.aload_n 0, 1), (.getfield 28, 3), (.iload_n 2, 1), (.iastore, 1), (.aload_n 0, 1), (.getfield 18, 3), (.aload_n 0, 1), (.getfield 28, 3), (.iload_n 3, 1), (.bastore, 1), (.aload_n 0, 1), (.dup, 1), (.getfield 28, 3), (.iconst 1, 1), (.iadd, 1), (.putfield 28, 3), (.return_, 1)]
set_option maxHeartbeats 4000000 in
set_option maxRecDepth 100000 in
theorem dt_Path_add : g_dc (g_b M_Path_add) 0 dl_Path_add = true := by decide +kernel
def M_Path_begin : gM := (⟨"BandPress$Path", "begin", "(II)V"⟩, prog_9_method_4_code, none, 3, { frames := 1, cells := 0, slots := 0, locals := 23 }, false, false, none)
def dl_Path_begin : List (Instr × Nat) := [(.aload_n 0, 1), (.aload_n 0, 1), (.getfield 28, 3), (.putfield 32, 3), (.aload_n 0, 1), (.iconst 0, 1), (.putfield 35, 3), (.aload_n 0, 1), (.iload_n 1, 1), (.iload_n 2, 1), (.iconst 1, 1), (.invokevirtual 39, 3), (.return_, 1)]
set_option maxHeartbeats 4000000 in
set_option maxRecDepth 100000 in
theorem dt_Path_begin : g_dc (g_b M_Path_begin) 0 dl_Path_begin = true := by decide +kernel
def M_Path_goOn : gM := (⟨"BandPress$Path", "goOn", "()V"⟩, prog_9_method_11_code, none, 1, { frames := 2, cells := 0, slots := 0, locals := 45 }, false, false, none)
def dl_Path_goOn : List (Instr × Nat) := [(.aload_n 0, 1), (.getfield 35, 3), (.ifCond .eq 25, 3), (.aload_n 0, 1), (.aload_n 0, 1), (.getfield 9, 3), (.aload_n 0, 1), (.getfield 32, 3), (.iaload, 1), (.aload_n 0, 1), (.getfield 15, 3), (.aload_n 0, 1), (.getfield 32, 3), (.iaload, 1), (.invokevirtual 63, 3), (.return_, 1)]
set_option maxHeartbeats 4000000 in
set_option maxRecDepth 100000 in
theorem dt_Path_goOn : g_dc (g_b M_Path_goOn) 0 dl_Path_goOn = true := by decide +kernel
def M_Path_lineTo : gM := (⟨"BandPress$Path", "lineTo", "(II)V"⟩, prog_9_method_5_code, none, 3, { frames := 3, cells := 0, slots := 0, locals := 65 }, false, false, none)
def dl_Path_lineTo : List (Instr × Nat) := [(.aload_n 0, 1), (.invokevirtual 43, 3), (.aload_n 0, 1), (.iload_n 1, 1), (.iload_n 2, 1), (.iconst 0, 1), (.invokevirtual 39, 3), (.return_, 1)]
set_option maxHeartbeats 4000000 in
set_option maxRecDepth 100000 in
theorem dt_Path_lineTo : g_dc (g_b M_Path_lineTo) 0 dl_Path_lineTo = true := by decide +kernel
def M_Path_bend : gM := (⟨"BandPress$Path", "bend", "(III)V"⟩, prog_9_method_7_code, none, 4, { frames := 0, cells := 0, slots := 0, locals := 0 }, false, false, none)
def dl_Path_bend : List (Instr × Nat) := [(.aload_n 0, 1), (.getfield 22, 3), (.iload_n 1, 1), (.bipush 8, 2), (.imul, 1), (.iload_n 2, 1), (.iastore, 1), (.aload_n 0, 1), (.getfield 25, 3), (.iload_n 1, 1), (.bipush 8, 2), (.imul, 1), (.iload_n 3, 1), (.iastore, 1), (.return_, 1)]
set_option maxHeartbeats 4000000 in
set_option maxRecDepth 100000 in
theorem dt_Path_bend : g_dc (g_b M_Path_bend) 0 dl_Path_bend = true := by decide +kernel
def M_Path_middle : gM := (⟨"BandPress$Path", "middle", "(II)I"⟩, prog_9_method_10_code, some .int, 2, { frames := 0, cells := 0, slots := 0, locals := 0 }, false, false, none)
def dl_Path_middle : List (Instr × Nat) := [(.iload_n 0, 1), (.iload_n 1, 1), (.iadd, 1), (.iconst 1, 1), (.ishr, 1), (.ireturn, 1)]
set_option maxHeartbeats 4000000 in
set_option maxRecDepth 100000 in
theorem dt_Path_middle : g_dc (g_b M_Path_middle) 0 dl_Path_middle = true := by decide +kernel
def M_Path_halve : gM := (⟨"BandPress$Path", "halve", "([III)V"⟩, prog_9_method_9_code, none, 9, { frames := 1, cells := 0, slots := 0, locals := 21 }, false, false, none)
def dl_Path_halve : List (Instr × Nat) := [(.iload_n 2, 1), (.iconst 2, 1), (.idiv, 1), (.istore_n 3, 1), (.aload_n 0, 1), (.iload_n 1, 1), (.iaload, 1), (.aload_n 0, 1), (.iload_n 1, 1), (.iload_n 2, 1), (.iadd, 1), (.iaload, 1), (.invokestatic 60, 3), (.istore 4, 2), (.aload_n 0, 1), (.iload_n 1, 1), (.iload_n 2, 1), (.iadd, 1), (.iaload, 1), (.aload_n 0, 1), (.iload_n 1, 1), (.iconst 2, 1), (.iload_n 2, 1), (.imul, 1), (.iadd, 1), (.iaload, 1), (.invokestatic 60, 3), (.istore 5, 2), (.aload_n 0, 1), (.iload_n 1, 1), (.iconst 2, 1), (.iload_n 2, 1), (.imul, 1), (.iadd, 1), (.iaload, 1), (.aload_n 0, 1), (.iload_n 1, 1), (.iconst 3, 1), (.iload_n 2, 1), (.imul, 1), (.iadd, 1), (.iaload, 1), (.invokestatic 60, 3), (.istore 6, 2), (.iload 4, 2), (.iload 5, 2), (.invokestatic 60, 3), (.istore 7, 2), (.iload 5, 2), (.iload 6, 2), (.invokestatic 60, 3), (.istore 8, 2), (.aload_n 0, 1), (.iload_n 1, 1), (.iload_n 3, 1), (.iadd, 1), (.iload 4, 2), (.iastore, 1), (.aload_n 0, 1), (.iload_n 1, 1), (.iconst 2, 1), (.iload_n 3, 1), (.imul, 1), (.iadd, 1), (.iload 7, 2), (.iastore, 1), (.aload_n 0, 1), (.iload_n 1, 1), (.iconst 3, 1), (.iload_n 3, 1), (.imul, 1), (.iadd, 1), (.iload 7, 2), (.iload 8, 2), (.invokestatic 60, 3), (.iastore, 1), (.aload_n 0, 1), (.iload_n 1, 1), (.iconst 4, 1), (.iload_n 3, 1), (.imul, 1), (.iadd, 1), (.iload 8, 2), (.iastore, 1), (.aload_n 0, 1), (.iload_n 1, 1), (.iconst 5, 1), (.iload_n 3, 1), (.imul, 1), (.iadd, 1), (.iload 6, 2), (.iastore, 1), (.return_, 1)]
set_option maxHeartbeats 4000000 in
set_option maxRecDepth 100000 in
theorem dt_Path_halve : g_dc (g_b M_Path_halve) 0 dl_Path_halve = true := by decide +kernel
def M_Path_curve : gM := (⟨"BandPress$Path", "curve", "()V"⟩, prog_9_method_8_code, none, 4, { frames := 3, cells := 0, slots := 0, locals := 65 }, false, false, none)
def dl_Path_curve : List (Instr × Nat) := [(.aload_n 0, 1), (.invokevirtual 43, 3), (.iconst 0, 1), (.aload_n 0, 1), (.getfield 28, 3), (.iconst 1, 1), (.isub, 1), (.invokestatic 46, 3), (.istore_n 1, 1), (.aload_n 0, 1), (.iconst 0, 1), (.aload_n 0, 1), (.getfield 9, 3), (.iload_n 1, 1), (.iaload, 1), (.aload_n 0, 1), (.getfield 15, 3), (.iload_n 1, 1), (.iaload, 1), (.invokevirtual 52, 3), (.bipush 8, 2), (.istore_n 2, 1), (.iload_n 2, 1), (.iconst 1, 1), (.if_icmp .le 45, 3), (.iconst 0, 1), (.istore_n 3, 1), (.iload_n 3, 1), (.bipush 24, 2), (.if_icmp .ge 30, 3), (.aload_n 0, 1), (.getfield 22, 3), (.iload_n 3, 1), (.iload_n 2, 1), (.invokestatic 56, 3), (.aload_n 0, 1), (.getfield 25, 3), (.iload_n 3, 1), (.iload_n 2, 1), (.invokestatic 56, 3), (.iload_n 3, 1), (.iconst 3, 1), (.iload_n 2, 1), (.imul, 1), (.iadd, 1), (.istore_n 3, 1), (.goto (-30), 3), (.iload_n 2, 1), (.iconst 2, 1), (.idiv, 1), (.istore_n 2, 1), (.goto (-44), 3), (.iconst 3, 1), (.istore_n 2, 1), (.iload_n 2, 1), (.bipush 24, 2), (.if_icmp .gt 26, 3), (.aload_n 0, 1), (.aload_n 0, 1), (.getfield 22, 3), (.iload_n 2, 1), (.iaload, 1), (.aload_n 0, 1), (.getfield 25, 3), (.iload_n 2, 1), (.iaload, 1), (.iconst 0, 1), (.invokevirtual 39, 3), (.iinc 2 3, 3), (.goto (-26), 3), (.return_, 1)]
set_option maxHeartbeats 4000000 in
set_option maxRecDepth 100000 in
theorem dt_Path_curve : g_dc (g_b M_Path_curve) 0 dl_Path_curve = true := by decide +kernel
def M_Path_clear : gM := (⟨"BandPress$Path", "clear", "()V"⟩, prog_9_method_2_code, none, 1, { frames := 0, cells := 0, slots := 0, locals := 0 }, false, false, none)
def dl_Path_clear : List (Instr × Nat) := [(.aload_n 0, 1), (.iconst 0, 1), (.putfield 28, 3), (.aload_n 0, 1), (.iconst 0, 1), (.putfield 32, 3), (.aload_n 0, 1), (.iconst 0, 1), (.putfield 35, 3), (.return_, 1)]
set_option maxHeartbeats 4000000 in
set_option maxRecDepth 100000 in
theorem dt_Path_clear : g_dc (g_b M_Path_clear) 0 dl_Path_clear = true := by decide +kernel
def M_Job_draw : gM := (⟨"BandPress$Job", "draw", "(I)V"⟩, prog_4_method_18_code, none, 2, { frames := 4, cells := 0, slots := 0, locals := 88 }, false, false, none)
def dl_Job_draw : List (Instr × Nat) := [(.iload_n 1, 1), (.lookupswitch 157 #[(67, 83), (76, 63), (77, 43), (90, 147)], 43), (.aload_n 0, 1), (.getfield 53, 3), (.aload_n 0, 1), (.iconst 1, 1), (.invokevirtual 268, 3), (.aload_n 0, 1), (.iconst 0, 1), (.invokevirtual 270, 3), (.invokevirtual 272, 3), (.goto 104, 3), (.aload_n 0, 1), (.getfield 53, 3), (.aload_n 0, 1), (.iconst 1, 1), (.invokevirtual 268, 3), (.aload_n 0, 1), (.iconst 0, 1), (.invokevirtual 270, 3), (.invokevirtual 274, 3), (.goto 84, 3), (.aload_n 0, 1), (.getfield 53, 3), (.iconst 1, 1), (.aload_n 0, 1), (.iconst 5, 1), (.invokevirtual 268, 3), (.aload_n 0, 1), (.iconst 4, 1), (.invokevirtual 270, 3), (.invokevirtual 277, 3), (.aload_n 0, 1), (.getfield 53, 3), (.iconst 2, 1), (.aload_n 0, 1), (.iconst 3, 1), (.invokevirtual 268, 3), (.aload_n 0, 1), (.iconst 2, 1), (.invokevirtual 270, 3), (.invokevirtual 277, 3), (.aload_n 0, 1), (.getfield 53, 3), (.iconst 3, 1), (.aload_n 0, 1), (.iconst 1, 1), (.invokevirtual 268, 3), (.aload_n 0, 1), (.iconst 0, 1), (.invokevirtual 270, 3), (.invokevirtual 277, 3), (.aload_n 0, 1), (.getfield 53, 3), (.invokevirtual 281, 3), (.goto 20, 3), (.aload_n 0, 1), (.getfield 53, 3), (.invokevirtual 284, 3), (.goto 10, 3), (.aload_n 0, 1), (.getfield 53, 3), (.invokevirtual 88, 3), (.aload_n 0, 1), (.getfield 35, 3), (.iload_n 1, 1), (.invokestatic 135, 3), (.invokevirtual 75, 3), (.return_, 1)]
set_option maxHeartbeats 4000000 in
set_option maxRecDepth 100000 in
theorem dt_Job_draw : g_dc (g_b M_Job_draw) 0 dl_Job_draw = true := by decide +kernel
def M_Settings_cutClip : gM := (⟨"BandPress$Settings", "cutClip", "([J)V"⟩, prog_10_method_15_code, none, 3, { frames := 0, cells := 0, slots := 0, locals := 0 }, false, false, none)
def dl_Settings_cutClip : List (Instr × Nat) := [(.iconst 0, 1), (.istore_n 2, 1), (.iload_n 2, 1), (.bipush 48, 2), (.if_icmp .ge 29, 3), (.aload_n 0, 1), (.getfield 27, 3), (.aload_n 0, 1), (.getfield 39, 3), (.bipush 48, 2), (.imul, 1), (.iload_n 2, 1), (.iadd, 1), (.dup2, 1), (.laload, 1), (.aload_n 1, 1), (.iload_n 2, 1), (.laload, 1), (.land, 1), (.lastore, 1), (.iinc 2 1, 3), (.goto (-29), 3), (.return_, 1)]
set_option maxHeartbeats 4000000 in
set_option maxRecDepth 100000 in
theorem dt_Settings_cutClip : g_dc (g_b M_Settings_cutClip) 0 dl_Settings_cutClip = true := by decide +kernel
def M_Settings_save : gM := (⟨"BandPress$Settings", "save", "()V"⟩, prog_10_method_4_code, none, 2, { frames := 1, cells := 0, slots := 0, locals := 26 }, false, false, none)
def dl_Settings_save : List (Instr × Nat) := [(.aload_n 0, 1), (.getfield 39, 3), (.iconst 4, 1), (.if_icmp .ge 114, 3), (.aload_n 0, 1), (.getfield 39, 3), (.iconst 1, 1), (.iadd, 1), (.istore_n 1, 1), (.aload_n 0, 1), (.getfield 9, 3), (.iload_n 1, 1), (.aload_n 0, 1), (.getfield 9, 3), (.aload_n 0, 1), (.getfield 39, 3), (.iaload, 1), (.iastore, 1), (.aload_n 0, 1), (.getfield 15, 3), (.iload_n 1, 1), (.aload_n 0, 1), (.getfield 15, 3), (.aload_n 0, 1), (.getfield 39, 3), (.iaload, 1), (.iastore, 1), (.aload_n 0, 1), (.getfield 18, 3), (.iload_n 1, 1), (.aload_n 0, 1), (.getfield 18, 3), (.aload_n 0, 1), (.getfield 39, 3), (.iaload, 1), (.iastore, 1), (.aload_n 0, 1), (.getfield 21, 3), (.iload_n 1, 1), (.aload_n 0, 1), (.getfield 21, 3), (.aload_n 0, 1), (.getfield 39, 3), (.iaload, 1), (.iastore, 1), (.aload_n 0, 1), (.getfield 24, 3), (.iload_n 1, 1), (.aload_n 0, 1), (.getfield 24, 3), (.aload_n 0, 1), (.getfield 39, 3), (.iaload, 1), (.iastore, 1), (.aload_n 0, 1), (.getfield 27, 3), (.aload_n 0, 1), (.getfield 39, 3), (.bipush 48, 2), (.imul, 1), (.aload_n 0, 1), (.getfield 27, 3), (.iload_n 1, 1), (.bipush 48, 2), (.imul, 1), (.bipush 48, 2), (.invokestatic 43, 3), (.aload_n 0, 1), (.iload_n 1, 1), (.putfield 39, 3), (.return_, 1)]
set_option maxHeartbeats 4000000 in
set_option maxRecDepth 100000 in
theorem dt_Settings_save : g_dc (g_b M_Settings_save) 0 dl_Settings_save = true := by decide +kernel
def M_Settings_move : gM := (⟨"BandPress$Settings", "move", "(II)V"⟩, prog_10_method_10_code, none, 3, { frames := 3, cells := 0, slots := 0, locals := 67 }, false, false, none)
def dl_Settings_move : List (Instr × Nat) := [(.aload_n 0, 1), (.getfield 18, 3), (.aload_n 0, 1), (.getfield 39, 3), (.aload_n 0, 1), (.iload_n 1, 1), (.invokevirtual 64, 3), (.l2i, 1), (.iastore, 1), (.aload_n 0, 1), (.getfield 21, 3), (.aload_n 0, 1), (.getfield 39, 3), (.aload_n 0, 1), (.iload_n 2, 1), (.invokevirtual 67, 3), (.l2i, 1), (.iastore, 1), (.return_, 1)]
set_option maxHeartbeats 4000000 in
set_option maxRecDepth 100000 in
theorem dt_Settings_move : g_dc (g_b M_Settings_move) 0 dl_Settings_move = true := by decide +kernel
def M_Settings_stretch : gM := (⟨"BandPress$Settings", "stretch", "(II)V"⟩, prog_10_method_11_code, none, 3, { frames := 2, cells := 0, slots := 0, locals := 46 }, false, false, none)
def dl_Settings_stretch : List (Instr × Nat) := [(.aload_n 0, 1), (.getfield 9, 3), (.aload_n 0, 1), (.getfield 39, 3), (.aload_n 0, 1), (.iload_n 1, 1), (.invokevirtual 57, 3), (.l2i, 1), (.iastore, 1), (.aload_n 0, 1), (.getfield 15, 3), (.aload_n 0, 1), (.getfield 39, 3), (.aload_n 0, 1), (.iload_n 2, 1), (.invokevirtual 61, 3), (.l2i, 1), (.iastore, 1), (.return_, 1)]
set_option maxHeartbeats 4000000 in
set_option maxRecDepth 100000 in
theorem dt_Settings_stretch : g_dc (g_b M_Settings_stretch) 0 dl_Settings_stretch = true := by decide +kernel
def M_Arrays_fill : gM := (⟨"java/util/Arrays", "fill", "([JJ)V"⟩, prog_27_method_101_code, none, 5, { frames := 0, cells := 0, slots := 0, locals := 0 }, false, false, none)
def dl_Arrays_fill : List (Instr × Nat) := [(.iconst 0, 1), (.istore_n 3, 1), (.aload_n 0, 1), (.arraylength, 1), (.istore 4, 2), (.iload_n 3, 1), (.iload 4, 2), (.if_icmp .ge 13, 3), (.aload_n 0, 1), (.iload_n 3, 1), (.lload_n 1, 1), (.lastore, 1), (.iinc 3 1, 3), (.goto (-13), 3), (.return_, 1)]
set_option maxHeartbeats 4000000 in
set_option maxRecDepth 100000 in
theorem dt_Arrays_fill : g_dc (g_b M_Arrays_fill) 0 dl_Arrays_fill = true := by decide +kernel
def M_Pages_clean : gM := (⟨"BandPress$Pages", "clean", "()V"⟩, prog_8_method_9_code, none, 1, { frames := 1, cells := 0, slots := 0, locals := 24 }, false, false, none)
def dl_Pages_clean : List (Instr × Nat) := [(.aload_n 0, 1), (.getfield 15, 3), (.lconst 0, 1), (.invokestatic 64, 3), (.aload_n 0, 1), (.iconst 0, 1), (.putfield 49, 3), (.return_, 1)]
set_option maxHeartbeats 4000000 in
set_option maxRecDepth 100000 in
theorem dt_Pages_clean : g_dc (g_b M_Pages_clean) 0 dl_Pages_clean = true := by decide +kernel
def M_Pages_keep : gM := (⟨"BandPress$Pages", "keep", "()V"⟩, prog_8_method_6_code, none, 1, { frames := 2, cells := 0, slots := 0, locals := 44 }, false, false, none)
def dl_Pages_keep : List (Instr × Nat) := [(.aload_n 0, 1), (.getfield 18, 3), (.bipush 8, 2), (.if_icmp .ge 38, 3), (.aload_n 0, 1), (.getfield 15, 3), (.iconst 0, 1), (.aload_n 0, 1), (.getfield 9, 3), (.aload_n 0, 1), (.getfield 18, 3), (.bipush 48, 2), (.imul, 1), (.bipush 48, 2), (.invokestatic 29, 3), (.aload_n 0, 1), (.dup, 1), (.getfield 18, 3), (.iconst 1, 1), (.iadd, 1), (.putfield 18, 3), (.aload_n 0, 1), (.invokevirtual 22, 3), (.return_, 1)]
set_option maxHeartbeats 4000000 in
set_option maxRecDepth 100000 in
theorem dt_Pages_keep : g_dc (g_b M_Pages_keep) 0 dl_Pages_keep = true := by decide +kernel
def M_Settings_setGrey : gM := (⟨"BandPress$Settings", "setGrey", "(I)V"⟩, prog_10_method_13_code, none, 2, { frames := 0, cells := 0, slots := 0, locals := 0 }, false, false, none)
def dl_Settings_setGrey : List (Instr × Nat) := [(.aload_n 0, 1), (.getfield 24, 3), (.aload_n 0, 1), (.getfield 39, 3), (.iload_n 1, 1), (.iastore, 1), (.return_, 1)]
set_option maxHeartbeats 4000000 in
set_option maxRecDepth 100000 in
theorem dt_Settings_setGrey : g_dc (g_b M_Settings_setGrey) 0 dl_Settings_setGrey = true := by decide +kernel
def M_Pages_dots : gM := (⟨"BandPress$Pages", "dots", "(II)J"⟩, prog_8_method_10_code, some .long, 5, { frames := 0, cells := 0, slots := 0, locals := 0 }, false, false, none)
def dl_Pages_dots : List (Instr × Nat) := [(.lconst 0, 1), (.lstore_n 2, 1), (.iconst 0, 1), (.istore 4, 2), (.iload 4, 2), (.iconst 4, 1), (.if_icmp .ge 35, 3), (.lload_n 2, 1), (.iconst 1, 1), (.lshl, 1), (.getstatic 70, 3), (.iload_n 0, 1), (.iconst 4, 1), (.irem, 1), (.iconst 4, 1), (.imul, 1), (.iload 4, 2), (.iadd, 1), (.iaload, 1), (.iload_n 1, 1), (.if_icmp .ge 7, 3), (.lconst 1, 1), (.goto 4, 3), (.lconst 0, 1), (.lor, 1), (.lstore_n 2, 1), (.iinc 4 1, 3), (.goto (-35), 3), (.lload_n 2, 1), (.ldc2_w 74, 3), (.lmul, 1), (.lreturn, 1)]
set_option maxHeartbeats 4000000 in
set_option maxRecDepth 100000 in
theorem dt_Pages_dots : g_dc (g_b M_Pages_dots) 0 dl_Pages_dots = true := by decide +kernel
def M_Pages_paint : gM := (⟨"BandPress$Pages", "paint", "([JLBandPress$Settings;)V"⟩, prog_8_method_8_code, none, 6, { frames := 2, cells := 0, slots := 0, locals := 46 }, false, false, none)
def dl_Pages_paint : List (Instr × Nat) := [(.aload_n 0, 1), (.dup, 1), (.getfield 49, 3), (.aload_n 1, 1), (.aload_n 2, 1), (.invokestatic 52, 3), (.iadd, 1), (.putfield 49, 3), (.iconst 0, 1), (.istore_n 3, 1), (.iload_n 3, 1), (.bipush 48, 2), (.if_icmp .ge 51, 3), (.aload_n 1, 1), (.iload_n 3, 1), (.laload, 1), (.aload_n 2, 1), (.iload_n 3, 1), (.invokevirtual 35, 3), (.land, 1), (.lstore 4, 2), (.aload_n 0, 1), (.getfield 15, 3), (.iload_n 3, 1), (.aload_n 0, 1), (.getfield 15, 3), (.iload_n 3, 1), (.laload, 1), (.lload 4, 2), (.ldc2_w 41, 3), (.lxor, 1), (.land, 1), (.lload 4, 2), (.iload_n 3, 1), (.aload_n 2, 1), (.invokevirtual 56, 3), (.invokestatic 60, 3), (.land, 1), (.lor, 1), (.lastore, 1), (.iinc 3 1, 3), (.goto (-51), 3), (.return_, 1)]
set_option maxHeartbeats 4000000 in
set_option maxRecDepth 100000 in
theorem dt_Pages_paint : g_dc (g_b M_Pages_paint) 0 dl_Pages_paint = true := by decide +kernel
def M_Settings_takeBack : gM := (⟨"BandPress$Settings", "takeBack", "()V"⟩, prog_10_method_5_code, none, 1, { frames := 0, cells := 0, slots := 0, locals := 0 }, false, false, none)
def dl_Settings_takeBack : List (Instr × Nat) := [(.aload_n 0, 1), (.getfield 39, 3), (.ifCond .le 13, 3), (.aload_n 0, 1), (.dup, 1), (.getfield 39, 3), (.iconst 1, 1), (.isub, 1), (.putfield 39, 3), (.return_, 1)]
set_option maxHeartbeats 4000000 in
set_option maxRecDepth 100000 in
theorem dt_Settings_takeBack : g_dc (g_b M_Settings_takeBack) 0 dl_Settings_takeBack = true := by decide +kernel
def M_Job_use : gM := (⟨"BandPress$Job", "use", "(I)V"⟩, prog_4_method_21_code, none, 2, { frames := 4, cells := 0, slots := 0, locals := 109 }, false, false, none)
def dl_Job_use : List (Instr × Nat) := [(.iload_n 1, 1), (.tableswitch 252 69 87 #[91, 91, 224, 252, 252, 252, 252, 252, 252, 252, 252, 155, 252, 252, 198, 172, 242, 252, 119], 91), (.aload_n 0, 1), (.getfield 60, 3), (.aload_n 0, 1), (.getfield 28, 3), (.getfield 221, 3), (.aload_n 0, 1), (.getfield 46, 3), (.invokevirtual 287, 3), (.aload_n 0, 1), (.getfield 53, 3), (.invokevirtual 88, 3), (.goto 143, 3), (.aload_n 0, 1), (.getfield 28, 3), (.aload_n 0, 1), (.getfield 53, 3), (.iconst 0, 1), (.invokevirtual 214, 3), (.aload_n 0, 1), (.getfield 46, 3), (.aload_n 0, 1), (.getfield 28, 3), (.getfield 221, 3), (.invokevirtual 291, 3), (.aload_n 0, 1), (.getfield 53, 3), (.invokevirtual 88, 3), (.goto 107, 3), (.aload_n 0, 1), (.getfield 60, 3), (.invokevirtual 295, 3), (.aload_n 0, 1), (.getfield 53, 3), (.invokevirtual 88, 3), (.goto 90, 3), (.aload_n 0, 1), (.getfield 46, 3), (.aload_n 0, 1), (.getfield 35, 3), (.iconst 1, 1), (.invokevirtual 149, 3), (.aload_n 0, 1), (.getfield 35, 3), (.iconst 0, 1), (.invokevirtual 149, 3), (.invokevirtual 298, 3), (.goto 64, 3), (.aload_n 0, 1), (.getfield 46, 3), (.aload_n 0, 1), (.getfield 35, 3), (.iconst 1, 1), (.invokevirtual 149, 3), (.aload_n 0, 1), (.getfield 35, 3), (.iconst 0, 1), (.invokevirtual 149, 3), (.invokevirtual 301, 3), (.goto 38, 3), (.aload_n 0, 1), (.getfield 46, 3), (.aload_n 0, 1), (.getfield 35, 3), (.iconst 0, 1), (.invokevirtual 149, 3), (.invokevirtual 304, 3), (.goto 20, 3), (.aload_n 0, 1), (.getfield 46, 3), (.invokevirtual 307, 3), (.goto 10, 3), (.aload_n 0, 1), (.getfield 46, 3), (.invokevirtual 310, 3), (.aload_n 0, 1), (.getfield 35, 3), (.iload_n 1, 1), (.invokestatic 135, 3), (.invokevirtual 75, 3), (.return_, 1)]
set_option maxHeartbeats 4000000 in
set_option maxRecDepth 100000 in
theorem dt_Job_use : g_dc (g_b M_Job_use) 0 dl_Job_use = true := by decide +kernel
def M_Job_reckon : gM := (⟨"BandPress$Job", "reckon", "(I)V"⟩, prog_4_method_22_code, none, 5, { frames := 2, cells := 0, slots := 0, locals := 46 }, false, false, none)
def dl_Job_reckon : List (Instr × Nat) := [(.aload_n 0, 1), (.getfield 35, 3), (.iconst 0, 1), (.invokevirtual 149, 3), (.istore_n 2, 1), (.aload_n 0, 1), (.getfield 35, 3), (.iconst 1, 1), (.invokevirtual 149, 3), (.istore_n 3, 1), (.aload_n 0, 1), (.iload_n 1, 1), (.invokevirtual 174, 3), (.l2i, 1), (.istore 4, 2), (.iload_n 1, 1), (.bipush 68, 2), (.if_icmp .eq 14, 3), (.aload_n 0, 1), (.getfield 35, 3), (.iload_n 1, 1), (.invokestatic 135, 3), (.invokevirtual 75, 3), (.iload_n 1, 1), (.lookupswitch 89 #[(68, 47), (79, 44), (88, 58), (126, 77)], 44), (.goto 54, 3), (.aload_n 0, 1), (.getfield 35, 3), (.iload_n 2, 1), (.invokevirtual 232, 3), (.goto 43, 3), (.aload_n 0, 1), (.getfield 35, 3), (.iload_n 2, 1), (.invokevirtual 232, 3), (.aload_n 0, 1), (.getfield 35, 3), (.iload_n 3, 1), (.invokevirtual 232, 3), (.goto 24, 3), (.aload_n 0, 1), (.getfield 35, 3), (.iload_n 2, 1), (.ineg, 1), (.invokevirtual 232, 3), (.goto 12, 3), (.aload_n 0, 1), (.getfield 35, 3), (.iload 4, 2), (.invokevirtual 232, 3), (.return_, 1)]
set_option maxHeartbeats 4000000 in
set_option maxRecDepth 100000 in
theorem dt_Job_reckon : g_dc (g_b M_Job_reckon) 0 dl_Job_reckon = true := by decide +kernel
def M_Job_perform : gM := (⟨"BandPress$Job", "perform", "(II)V"⟩, prog_4_method_15_code, none, 3, { frames := 5, cells := 0, slots := 0, locals := 130 }, false, false, none)
def dl_Job_perform : List (Instr × Nat) := [(.iload_n 1, 1), (.invokestatic 205, 3), (.ifCond .eq 21, 3), (.aload_n 0, 1), (.getfield 35, 3), (.aload_n 0, 1), (.getfield 12, 3), (.iload_n 2, 1), (.invokevirtual 229, 3), (.invokevirtual 232, 3), (.goto 128, 3), (.iload_n 1, 1), (.invokestatic 208, 3), (.ifCond .eq 22, 3), (.aload_n 0, 1), (.getfield 35, 3), (.aload_n 0, 1), (.getfield 39, 3), (.iload_n 1, 1), (.bipush 97, 2), (.isub, 1), (.iaload, 1), (.invokevirtual 232, 3), (.goto 102, 3), (.iload_n 1, 1), (.bipush 123, 2), (.if_icmp .ne 17, 3), (.aload_n 0, 1), (.getfield 35, 3), (.ldc 235, 2), (.iload_n 2, 1), (.iadd, 1), (.invokevirtual 232, 3), (.goto 82, 3), (.iload_n 1, 1), (.bipush 58, 2), (.if_icmp .ne 20, 3), (.aload_n 0, 1), (.aload_n 0, 1), (.getfield 12, 3), (.iload_n 2, 1), (.iconst 1, 1), (.iadd, 1), (.invokevirtual 112, 3), (.invokevirtual 236, 3), (.goto 59, 3), (.ldc 239, 2), (.iload_n 1, 1), (.invokestatic 241, 3), (.ifCond .eq 11, 3), (.aload_n 0, 1), (.iload_n 1, 1), (.invokevirtual 245, 3), (.goto 42, 3), (.ldc 248, 2), (.iload_n 1, 1), (.invokestatic 241, 3), (.ifCond .eq 11, 3), (.aload_n 0, 1), (.iload_n 1, 1), (.invokevirtual 250, 3), (.goto 25, 3), (.ldc 253, 2), (.iload_n 1, 1), (.invokestatic 241, 3), (.ifCond .eq 11, 3), (.aload_n 0, 1), (.iload_n 1, 1), (.invokevirtual 255, 3), (.goto 8, 3), (.aload_n 0, 1), (.iload_n 1, 1), (.invokevirtual 258, 3), (.return_, 1)]
set_option maxHeartbeats 4000000 in
set_option maxRecDepth 100000 in
theorem dt_Job_perform : g_dc (g_b M_Job_perform) 0 dl_Job_perform = true := by decide +kernel
def M_Calls_settle : gM := (⟨"BandPress$Calls", "settle", "(LBandPress$Text;)V"⟩, prog_2_method_10_code, none, 3, { frames := 2, cells := 0, slots := 0, locals := 44 }, false, false, none)
def dl_Calls_settle : List (Instr × Nat) := [(.aload_n 0, 1), (.getfield 24, 3), (.istore_n 2, 1), (.iload_n 2, 1), (.ifCond .lt 100, 3), (.aload_n 0, 1), (.getfield 9, 3), (.iload_n 2, 1), (.aload_n 1, 1), (.aload_n 0, 1), (.getfield 9, 3), (.iload_n 2, 1), (.iaload, 1), (.aload_n 0, 1), (.getfield 18, 3), (.iload_n 2, 1), (.iaload, 1), (.invokevirtual 46, 3), (.iastore, 1), (.aload_n 0, 1), (.getfield 9, 3), (.iload_n 2, 1), (.iaload, 1), (.aload_n 0, 1), (.getfield 18, 3), (.iload_n 2, 1), (.iaload, 1), (.if_icmp .ge 4, 3), (.return_, 1), (.aload_n 0, 1), (.getfield 21, 3), (.iload_n 2, 1), (.iaload, 1), (.iconst 1, 1), (.if_icmp .le 36, 3), (.aload_n 0, 1), (.getfield 21, 3), (.iload_n 2, 1), (.dup2, 1), (.iaload, 1), (.iconst 1, 1), (.isub, 1), (.iastore, 1), (.aload_n 0, 1), (.getfield 9, 3), (.iload_n 2, 1), (.aload_n 1, 1), (.aload_n 0, 1), (.getfield 15, 3), (.iload_n 2, 1), (.iaload, 1), (.aload_n 0, 1), (.getfield 18, 3), (.iload_n 2, 1), (.iaload, 1), (.invokevirtual 46, 3), (.iastore, 1), (.return_, 1), (.aload_n 0, 1), (.dup, 1), (.getfield 24, 3), (.iconst 1, 1), (.isub, 1), (.putfield 24, 3), (.iinc 2 (-1), 3), (.goto (-98), 3), (.return_, 1)]
set_option maxHeartbeats 4000000 in
set_option maxRecDepth 100000 in
theorem dt_Calls_settle : g_dc (g_b M_Calls_settle) 0 dl_Calls_settle = true := by decide +kernel
def M_Job_step : gM := (⟨"BandPress$Job", "step", "()V"⟩, prog_4_method_5_code, none, 3, { frames := 6, cells := 0, slots := 0, locals := 152 }, false, false, none)
def dl_Job_step : List (Instr × Nat) := [(.aload_n 0, 1), (.getfield 21, 3), (.invokevirtual 108, 3), (.istore_n 1, 1), (.aload_n 0, 1), (.getfield 12, 3), (.iload_n 1, 1), (.invokevirtual 112, 3), (.istore_n 2, 1), (.aload_n 0, 1), (.aload_n 0, 1), (.iload_n 2, 1), (.invokevirtual 116, 3), (.putfield 92, 3), (.aload_n 0, 1), (.getfield 92, 3), (.ifCond .eq 14, 3), (.aload_n 0, 1), (.iload_n 1, 1), (.putfield 95, 3), (.aload_n 0, 1), (.iconst 2, 1), (.putfield 64, 3), (.return_, 1), (.aload_n 0, 1), (.getfield 21, 3), (.aload_n 0, 1), (.getfield 12, 3), (.iload_n 1, 1), (.invokevirtual 119, 3), (.invokevirtual 122, 3), (.aload_n 0, 1), (.iload_n 2, 1), (.iload_n 1, 1), (.invokevirtual 125, 3), (.aload_n 0, 1), (.dup, 1), (.getfield 98, 3), (.iconst 1, 1), (.iadd, 1), (.putfield 98, 3), (.aload_n 0, 1), (.getfield 21, 3), (.aload_n 0, 1), (.getfield 12, 3), (.invokevirtual 129, 3), (.aload_n 0, 1), (.invokevirtual 132, 3), (.return_, 1)]
set_option maxHeartbeats 4000000 in
set_option maxRecDepth 100000 in
theorem dt_Job_step : g_dc (g_b M_Job_step) 0 dl_Job_step = true := by decide +kernel
def M_Order_complete : gM := (⟨"BandPress$Order", "complete", "(I)V"⟩, prog_6_method_3_code, none, 2, { frames := 1, cells := 0, slots := 0, locals := 21 }, false, false, none)
def dl_Order_complete : List (Instr × Nat) := [(.aload_n 0, 1), (.iload_n 1, 1), (.putfield 27, 3), (.aload_n 0, 1), (.aload_n 0, 1), (.getfield 23, 3), (.ifCond .eq 14, 3), (.aload_n 0, 1), (.getfield 27, 3), (.iconst 1, 1), (.iadd, 1), (.iconst 2, 1), (.idiv, 1), (.goto 7, 3), (.aload_n 0, 1), (.getfield 27, 3), (.putfield 30, 3), (.aload_n 0, 1), (.aload_n 0, 1), (.getfield 19, 3), (.aload_n 0, 1), (.getfield 30, 3), (.imul, 1), (.bipush 32, 2), (.invokestatic 39, 3), (.putfield 33, 3), (.return_, 1)]
set_option maxHeartbeats 4000000 in
set_option maxRecDepth 100000 in
theorem dt_Order_complete : g_dc (g_b M_Order_complete) 0 dl_Order_complete = true := by decide +kernel
def M_B_run : gM := (⟨"BandPress", "run", "(I)I"⟩, prog_1_method_4_code, some .int, 3, { frames := 7, cells := 1, slots := 6, locals := 174 }, false, false, none)
def dl_B_run : List (Instr × Nat) := [(.aload_n 0, 1), (.getfield 19, 3), (.invokevirtual 50, 3), (.ifCond .ne 11, 3), (.new 71, 3), (.dup, 1), (.invokespecial 73, 3), (.athrow, 1), (.iload_n 1, 1), (.iconst 1, 1), (.if_icmp .lt 10, 3), (.iload_n 1, 1), (.sipush 5000, 3), (.if_icmp .le 11, 3), (.new 74, 3), (.dup, 1), (.invokespecial 76, 3), (.athrow, 1), (.aload_n 0, 1), (.getfield 19, 3), (.invokevirtual 77, 3), (.iconst 0, 1), (.istore_n 2, 1), (.iload_n 2, 1), (.iload_n 1, 1), (.if_icmp .ge 26, 3), (.aload_n 0, 1), (.getfield 19, 3), (.invokevirtual 50, 3), (.ifCond .eq 16, 3), (.aload_n 0, 1), (.getfield 19, 3), (.invokevirtual 80, 3), (.iinc 2 1, 3), (.goto (-25), 3), (.aload_n 0, 1), (.getfield 19, 3), (.invokevirtual 50, 3), (.ifCond .eq 5, 3), (.iconst 0, 1), (.ireturn, 1), (.aload_n 0, 1), (.getfield 26, 3), (.aload_n 0, 1), (.getfield 19, 3), (.getfield 83, 3), (.getfield 87, 3), (.invokevirtual 93, 3), (.aload_n 0, 1), (.getfield 19, 3), (.getfield 97, 3), (.ifCond .ne 7, 3), (.iconst 1, 1), (.goto 4, 3), (.iconst 2, 1), (.ireturn, 1)]
set_option maxHeartbeats 4000000 in
set_option maxRecDepth 100000 in
theorem dt_B_run : g_dc (g_b M_B_run) 0 dl_B_run = true := by decide +kernel
def M_Machine_isSection : gM := (⟨"BandPress$Machine", "isSection", "(I)Z"⟩, prog_5_method_2_code, some .boolean, 1, { frames := 0, cells := 0, slots := 0, locals := 0 }, false, false, none)
def dl_Machine_isSection : List (Instr × Nat) := [(.iload_n 0, 1), (.ifCond .lt 12, 3), (.iload_n 0, 1), (.iconst 4, 1), (.if_icmp .ge 7, 3), (.iconst 1, 1), (.goto 4, 3), (.iconst 0, 1), (.ireturn, 1)]
set_option maxHeartbeats 4000000 in
set_option maxRecDepth 100000 in
theorem dt_Machine_isSection : g_dc (g_b M_Machine_isSection) 0 dl_Machine_isSection = true := by decide +kernel
def M_B_section : gM := (⟨"BandPress", "section", "(II)I"⟩, prog_1_method_16_code, some .int, 3, { frames := 1, cells := 0, slots := 0, locals := 20 }, false, false, none)
def dl_B_section : List (Instr × Nat) := [(.iload_n 1, 1), (.invokestatic 169, 3), (.ifCond .ne 5, 3), (.iconst (-1), 1), (.ireturn, 1), (.iload_n 2, 1), (.tableswitch 64 0 2 #[26, 36, 46], 26), (.aload_n 0, 1), (.getfield 35, 3), (.getfield 186, 3), (.iload_n 1, 1), (.iaload, 1), (.ireturn, 1), (.aload_n 0, 1), (.getfield 35, 3), (.getfield 189, 3), (.iload_n 1, 1), (.iaload, 1), (.ireturn, 1), (.aload_n 0, 1), (.getfield 35, 3), (.getfield 172, 3), (.iload_n 1, 1), (.baload, 1), (.ifCond .eq 7, 3), (.iconst 1, 1), (.goto 4, 3), (.iconst 0, 1), (.ireturn, 1), (.iconst (-1), 1), (.ireturn, 1)]
set_option maxHeartbeats 4000000 in
set_option maxRecDepth 100000 in
theorem dt_B_section : g_dc (g_b M_B_section) 0 dl_B_section = true := by decide +kernel
def M_Text_isWord : gM := (⟨"BandPress$Text", "isWord", "(I)Z"⟩, prog_11_method_14_code, some .boolean, 1, { frames := 5, cells := 0, slots := 0, locals := 112 }, false, false, none)
def dl_Text_isWord : List (Instr × Nat) := [(.iload_n 0, 1), (.invokestatic 33, 3), (.ifCond .ne 46, 3), (.iload_n 0, 1), (.invokestatic 37, 3), (.ifCond .ne 39, 3), (.ldc 59, 2), (.iload_n 0, 1), (.invokestatic 61, 3), (.ifCond .ne 30, 3), (.ldc 65, 2), (.iload_n 0, 1), (.invokestatic 61, 3), (.ifCond .ne 21, 3), (.ldc 67, 2), (.iload_n 0, 1), (.invokestatic 61, 3), (.ifCond .ne 12, 3), (.ldc 69, 2), (.iload_n 0, 1), (.invokestatic 61, 3), (.ifCond .eq 7, 3), (.iconst 1, 1), (.goto 4, 3), (.iconst 0, 1), (.ireturn, 1)]
set_option maxHeartbeats 4000000 in
set_option maxRecDepth 100000 in
theorem dt_Text_isWord : g_dc (g_b M_Text_isWord) 0 dl_Text_isWord = true := by decide +kernel
def M_Text_fault : gM := (⟨"BandPress$Text", "fault", "()I"⟩, prog_11_method_4_code, some .int, 7, { frames := 6, cells := 0, slots := 0, locals := 132 }, false, false, none)
def dl_Text_fault : List (Instr × Nat) := [(.iconst 0, 1), (.istore_n 1, 1), (.iconst 0, 1), (.istore_n 2, 1), (.iconst 0, 1), (.istore_n 3, 1), (.iconst 0, 1), (.istore 4, 2), (.iload 4, 2), (.aload_n 0, 1), (.getfield 21, 3), (.if_icmp .ge 115, 3), (.aload_n 0, 1), (.getfield 9, 3), (.iload 4, 2), (.iaload, 1), (.istore 5, 2), (.iload 5, 2), (.invokestatic 33, 3), (.ifCond .eq 9, 3), (.iload_n 2, 1), (.iconst 1, 1), (.iadd, 1), (.goto 4, 3), (.iconst 0, 1), (.istore_n 2, 1), (.iload_n 1, 1), (.iload 5, 2), (.bipush 123, 2), (.if_icmp .ne 7, 3), (.iconst 1, 1), (.goto 15, 3), (.iload 5, 2), (.bipush 125, 2), (.if_icmp .ne 7, 3), (.iconst (-1), 1), (.goto 4, 3), (.iconst 0, 1), (.iadd, 1), (.istore_n 1, 1), (.iload_n 3, 1), (.ifCond .eq 11, 3), (.iload 5, 2), (.invokestatic 37, 3), (.goto 8, 3), (.iload 5, 2), (.invokestatic 40, 3), (.istore 6, 2), (.iload 6, 2), (.ifCond .eq 18, 3), (.iload_n 2, 1), (.iconst 5, 1), (.if_icmp .gt 13, 3), (.iload_n 1, 1), (.ifCond .lt 9, 3), (.iload_n 1, 1), (.bipush 8, 2), (.if_icmp .le 6, 3), (.iload 4, 2), (.ireturn, 1), (.iload 5, 2), (.bipush 58, 2), (.if_icmp .ne 7, 3), (.iconst 1, 1), (.goto 4, 3), (.iconst 0, 1), (.istore_n 3, 1), (.iinc 4 1, 3), (.goto (-118), 3), (.iload_n 1, 1), (.ifCond .gt 7, 3), (.iload_n 3, 1), (.ifCond .eq 10, 3), (.aload_n 0, 1), (.getfield 21, 3), (.goto 4, 3), (.iconst (-1), 1), (.ireturn, 1)]
set_option maxHeartbeats 4000000 in
set_option maxRecDepth 100000 in
theorem dt_Text_fault : g_dc (g_b M_Text_fault) 0 dl_Text_fault = true := by decide +kernel
def M_Text_copy : gM := (⟨"BandPress$Text", "copy", "(LBandPress$Text;)V"⟩, prog_11_method_5_code, none, 4, { frames := 1, cells := 0, slots := 0, locals := 26 }, false, false, none)
def dl_Text_copy : List (Instr × Nat) := [(.aload_n 0, 1), (.aload_n 1, 1), (.getfield 21, 3), (.putfield 21, 3), (.aload_n 1, 1), (.getfield 9, 3), (.iconst 0, 1), (.aload_n 0, 1), (.getfield 9, 3), (.iconst 0, 1), (.aload_n 0, 1), (.getfield 21, 3), (.invokestatic 43, 3), (.iconst 0, 1), (.istore_n 2, 1), (.iconst 0, 1), (.istore_n 3, 1), (.iload_n 3, 1), (.aload_n 0, 1), (.getfield 21, 3), (.if_icmp .ge 69, 3), (.aload_n 0, 1), (.getfield 9, 3), (.iload_n 3, 1), (.iaload, 1), (.bipush 123, 2), (.if_icmp .ne 22, 3), (.iload_n 2, 1), (.bipush 8, 2), (.if_icmp .ge 16, 3), (.aload_n 0, 1), (.getfield 18, 3), (.iload_n 2, 1), (.iload_n 3, 1), (.iastore, 1), (.iinc 2 1, 3), (.goto 33, 3), (.aload_n 0, 1), (.getfield 9, 3), (.iload_n 3, 1), (.iaload, 1), (.bipush 125, 2), (.if_icmp .ne 22, 3), (.iload_n 2, 1), (.ifCond .le 18, 3), (.iinc 2 (-1), 3), (.aload_n 0, 1), (.getfield 15, 3), (.aload_n 0, 1), (.getfield 18, 3), (.iload_n 2, 1), (.iaload, 1), (.iload_n 3, 1), (.iastore, 1), (.iinc 3 1, 3), (.goto (-71), 3), (.return_, 1)]
set_option maxHeartbeats 4000000 in
set_option maxRecDepth 100000 in
theorem dt_Text_copy : g_dc (g_b M_Text_copy) 0 dl_Text_copy = true := by decide +kernel
def M_Calls_begin : gM := (⟨"BandPress$Calls", "begin", "(LBandPress$Text;)V"⟩, prog_2_method_2_code, none, 2, { frames := 3, cells := 0, slots := 0, locals := 66 }, false, false, none)
def dl_Calls_begin : List (Instr × Nat) := [(.aload_n 0, 1), (.iconst (-1), 1), (.putfield 24, 3), (.aload_n 0, 1), (.iconst 0, 1), (.aload_n 1, 1), (.getfield 28, 3), (.iconst 0, 1), (.invokevirtual 33, 3), (.aload_n 0, 1), (.aload_n 1, 1), (.invokevirtual 37, 3), (.return_, 1)]
set_option maxHeartbeats 4000000 in
set_option maxRecDepth 100000 in
theorem dt_Calls_begin : g_dc (g_b M_Calls_begin) 0 dl_Calls_begin = true := by decide +kernel
def M_Arrays_fill1 : gM := (⟨"java/util/Arrays", "fill", "([II)V"⟩, prog_27_method_103_code, none, 4, { frames := 0, cells := 0, slots := 0, locals := 0 }, false, false, none)
def dl_Arrays_fill1 : List (Instr × Nat) := [(.iconst 0, 1), (.istore_n 2, 1), (.aload_n 0, 1), (.arraylength, 1), (.istore_n 3, 1), (.iload_n 2, 1), (.iload_n 3, 1), (.if_icmp .ge 13, 3), (.aload_n 0, 1), (.iload_n 2, 1), (.iload_n 1, 1), (.iastore, 1), (.iinc 2 1, 3), (.goto (-12), 3), (.return_, 1)]
set_option maxHeartbeats 4000000 in
set_option maxRecDepth 100000 in
theorem dt_Arrays_fill1 : g_dc (g_b M_Arrays_fill1) 0 dl_Arrays_fill1 = true := by decide +kernel
def M_Settings_reset : gM := (⟨"BandPress$Settings", "reset", "()V"⟩, prog_10_method_2_code, none, 1, { frames := 1, cells := 0, slots := 0, locals := 24 }, false, false, none)
def dl_Settings_reset : List (Instr × Nat) := [(.aload_n 0, 1), (.iconst 0, 1), (.putfield 39, 3), (.aload_n 0, 1), (.getfield 9, 3), (.iconst 0, 1), (.bipush 16, 2), (.iastore, 1), (.aload_n 0, 1), (.getfield 15, 3), (.iconst 0, 1), (.bipush 16, 2), (.iastore, 1), (.aload_n 0, 1), (.getfield 18, 3), (.iconst 0, 1), (.iconst 0, 1), (.iastore, 1), (.aload_n 0, 1), (.getfield 21, 3), (.iconst 0, 1), (.iconst 0, 1), (.iastore, 1), (.aload_n 0, 1), (.getfield 24, 3), (.iconst 0, 1), (.bipush 16, 2), (.iastore, 1), (.aload_n 0, 1), (.getfield 27, 3), (.ldc2_w 31, 3), (.invokestatic 33, 3), (.return_, 1)]
set_option maxHeartbeats 4000000 in
set_option maxRecDepth 100000 in
theorem dt_Settings_reset : g_dc (g_b M_Settings_reset) 0 dl_Settings_reset = true := by decide +kernel
def M_Pages_clear : gM := (⟨"BandPress$Pages", "clear", "()V"⟩, prog_8_method_2_code, none, 1, { frames := 2, cells := 0, slots := 0, locals := 44 }, false, false, none)
def dl_Pages_clear : List (Instr × Nat) := [(.aload_n 0, 1), (.iconst 0, 1), (.putfield 18, 3), (.aload_n 0, 1), (.invokevirtual 22, 3), (.return_, 1)]
set_option maxHeartbeats 4000000 in
set_option maxRecDepth 100000 in
theorem dt_Pages_clear : g_dc (g_b M_Pages_clear) 0 dl_Pages_clear = true := by decide +kernel
def M_Job_begin : gM := (⟨"BandPress$Job", "begin", "(LBandPress$Text;I)V"⟩, prog_4_method_3_code, none, 3, { frames := 4, cells := 0, slots := 0, locals := 87 }, false, false, none)
def dl_Job_begin : List (Instr × Nat) := [(.aload_n 0, 1), (.getfield 12, 3), (.aload_n 1, 1), (.invokevirtual 68, 3), (.aload_n 0, 1), (.getfield 21, 3), (.aload_n 0, 1), (.getfield 12, 3), (.invokevirtual 72, 3), (.aload_n 0, 1), (.getfield 35, 3), (.bipush 32, 2), (.invokevirtual 75, 3), (.aload_n 0, 1), (.getfield 39, 3), (.iconst 0, 1), (.invokestatic 79, 3), (.aload_n 0, 1), (.getfield 46, 3), (.invokevirtual 85, 3), (.aload_n 0, 1), (.getfield 53, 3), (.invokevirtual 88, 3), (.aload_n 0, 1), (.getfield 60, 3), (.invokevirtual 91, 3), (.aload_n 0, 1), (.iconst 1, 1), (.putfield 64, 3), (.aload_n 0, 1), (.iconst 0, 1), (.putfield 92, 3), (.aload_n 0, 1), (.iconst 0, 1), (.putfield 95, 3), (.aload_n 0, 1), (.iconst 0, 1), (.putfield 98, 3), (.aload_n 0, 1), (.iload_n 2, 1), (.putfield 101, 3), (.return_, 1)]
set_option maxHeartbeats 4000000 in
set_option maxRecDepth 100000 in
theorem dt_Job_begin : g_dc (g_b M_Job_begin) 0 dl_Job_begin = true := by decide +kernel
def M_Order_begin : gM := (⟨"BandPress$Order", "begin", "(IZ)V"⟩, prog_6_method_2_code, none, 4, { frames := 0, cells := 0, slots := 0, locals := 0 }, false, false, none)
def dl_Order_begin : List (Instr × Nat) := [(.aload_n 0, 1), (.iload_n 1, 1), (.putfield 19, 3), (.aload_n 0, 1), (.iload_n 2, 1), (.putfield 23, 3), (.aload_n 0, 1), (.iconst 0, 1), (.putfield 27, 3), (.aload_n 0, 1), (.iconst 0, 1), (.putfield 30, 3), (.aload_n 0, 1), (.iconst 0, 1), (.putfield 33, 3), (.aload_n 0, 1), (.iconst 0, 1), (.putfield 36, 3), (.iconst 0, 1), (.istore_n 3, 1), (.iload_n 3, 1), (.bipush 32, 2), (.if_icmp .ge 16, 3), (.aload_n 0, 1), (.getfield 15, 3), (.iload_n 3, 1), (.iconst 0, 1), (.bastore, 1), (.iinc 3 1, 3), (.goto (-16), 3), (.return_, 1)]
set_option maxHeartbeats 4000000 in
set_option maxRecDepth 100000 in
theorem dt_Order_begin : g_dc (g_b M_Order_begin) 0 dl_Order_begin = true := by decide +kernel
def M_Text_clear : gM := (⟨"BandPress$Text", "clear", "()V"⟩, prog_11_method_3_code, none, 1, { frames := 0, cells := 0, slots := 0, locals := 0 }, false, false, none)
def dl_Text_clear : List (Instr × Nat) := [(.aload_n 0, 1), (.iconst 0, 1), (.putfield 21, 3), (.return_, 1)]
set_option maxHeartbeats 4000000 in
set_option maxRecDepth 100000 in
theorem dt_Text_clear : g_dc (g_b M_Text_clear) 0 dl_Text_clear = true := by decide +kernel
def M_B_start : gM := (⟨"BandPress", "start", "(IZI)I"⟩, prog_1_method_3_code, some .int, 5, { frames := 7, cells := 0, slots := 0, locals := 158 }, false, false, none)
def dl_B_start : List (Instr × Nat) := [(.iload_n 1, 1), (.iconst 1, 1), (.if_icmp .lt 20, 3), (.iload_n 1, 1), (.iconst 4, 1), (.if_icmp .gt 15, 3), (.iload_n 3, 1), (.iconst 1, 1), (.if_icmp .lt 10, 3), (.iload_n 3, 1), (.sipush 20000, 3), (.if_icmp .le 5, 3), (.iconst (-1), 1), (.ireturn, 1), (.aload_n 0, 1), (.getfield 19, 3), (.invokevirtual 50, 3), (.ifCond .ne 13, 3), (.aload_n 0, 1), (.getfield 26, 3), (.invokevirtual 54, 3), (.ifCond .le 5, 3), (.iconst (-1), 1), (.ireturn, 1), (.aload_n 0, 1), (.getfield 10, 3), (.invokevirtual 58, 3), (.istore 4, 2), (.iload 4, 2), (.iconst (-1), 1), (.if_icmp .ne 24, 3), (.aload_n 0, 1), (.getfield 19, 3), (.aload_n 0, 1), (.getfield 10, 3), (.iload_n 3, 1), (.invokevirtual 61, 3), (.aload_n 0, 1), (.getfield 26, 3), (.iload_n 1, 1), (.iload_n 2, 1), (.invokevirtual 65, 3), (.aload_n 0, 1), (.getfield 10, 3), (.invokevirtual 68, 3), (.iload 4, 2), (.iconst (-1), 1), (.if_icmp .ne 7, 3), (.iconst 0, 1), (.goto 7, 3), (.iload 4, 2), (.iconst 1, 1), (.iadd, 1), (.ireturn, 1)]
set_option maxHeartbeats 4000000 in
set_option maxRecDepth 100000 in
theorem dt_B_start : g_dc (g_b M_B_start) 0 dl_B_start = true := by decide +kernel
def M_B_stick : gM := (⟨"BandPress", "stick", "(IZ)Z"⟩, prog_1_method_12_code, some .boolean, 3, { frames := 1, cells := 0, slots := 0, locals := 20 }, false, false, none)
def dl_B_stick : List (Instr × Nat) := [(.iload_n 1, 1), (.invokestatic 169, 3), (.ifCond .ne 5, 3), (.iconst 0, 1), (.ireturn, 1), (.aload_n 0, 1), (.getfield 35, 3), (.getfield 172, 3), (.iload_n 1, 1), (.iload_n 2, 1), (.bastore, 1), (.iconst 1, 1), (.ireturn, 1)]
set_option maxHeartbeats 4000000 in
set_option maxRecDepth 100000 in
theorem dt_B_stick : g_dc (g_b M_B_stick) 0 dl_B_stick = true := by decide +kernel
def M_Machine_empty : gM := (⟨"BandPress$Machine", "empty", "(I)V"⟩, prog_5_method_14_code, none, 2, { frames := 0, cells := 0, slots := 0, locals := 0 }, false, false, none)
def dl_Machine_empty : List (Instr × Nat) := [(.aload_n 0, 1), (.getfield 9, 3), (.iload_n 1, 1), (.iconst (-1), 1), (.iastore, 1), (.aload_n 0, 1), (.getfield 15, 3), (.iload_n 1, 1), (.iconst 0, 1), (.iastore, 1), (.return_, 1)]
set_option maxHeartbeats 4000000 in
set_option maxRecDepth 100000 in
theorem dt_Machine_empty : g_dc (g_b M_Machine_empty) 0 dl_Machine_empty = true := by decide +kernel
def M_Machine_remove : gM := (⟨"BandPress$Machine", "remove", "(I)Z"⟩, prog_5_method_4_code, some .boolean, 2, { frames := 1, cells := 0, slots := 0, locals := 21 }, false, false, none)
def dl_Machine_remove : List (Instr × Nat) := [(.aload_n 0, 1), (.getfield 9, 3), (.iload_n 1, 1), (.iaload, 1), (.iconst (-1), 1), (.if_icmp .eq 17, 3), (.aload_n 0, 1), (.getfield 32, 3), (.ifCond .ne 12, 3), (.aload_n 0, 1), (.getfield 36, 3), (.ifCond .ne 5, 3), (.iconst 0, 1), (.ireturn, 1), (.aload_n 0, 1), (.iload_n 1, 1), (.invokevirtual 55, 3), (.iconst 1, 1), (.ireturn, 1)]
set_option maxHeartbeats 4000000 in
set_option maxRecDepth 100000 in
theorem dt_Machine_remove : g_dc (g_b M_Machine_remove) 0 dl_Machine_remove = true := by decide +kernel
def M_B_take : gM := (⟨"BandPress", "take", "(I)Z"⟩, prog_1_method_13_code, some .boolean, 2, { frames := 2, cells := 0, slots := 0, locals := 42 }, false, false, none)
def dl_B_take : List (Instr × Nat) := [(.iload_n 1, 1), (.invokestatic 169, 3), (.ifCond .eq 18, 3), (.aload_n 0, 1), (.getfield 35, 3), (.iload_n 1, 1), (.invokevirtual 176, 3), (.ifCond .eq 7, 3), (.iconst 1, 1), (.goto 4, 3), (.iconst 0, 1), (.ireturn, 1)]
set_option maxHeartbeats 4000000 in
set_option maxRecDepth 100000 in
theorem dt_B_take : g_dc (g_b M_B_take) 0 dl_B_take = true := by decide +kernel
def M_Machine_anySticks : gM := (⟨"BandPress$Machine", "anySticks", "()Z"⟩, prog_5_method_17_code, some .boolean, 2, { frames := 0, cells := 0, slots := 0, locals := 0 }, false, false, none)
def dl_Machine_anySticks : List (Instr × Nat) := [(.iconst 0, 1), (.istore_n 1, 1), (.iload_n 1, 1), (.iconst 4, 1), (.if_icmp .ge 20, 3), (.aload_n 0, 1), (.getfield 18, 3), (.iload_n 1, 1), (.baload, 1), (.ifCond .eq 5, 3), (.iconst 1, 1), (.ireturn, 1), (.iinc 1 1, 3), (.goto (-19), 3), (.iconst 0, 1), (.ireturn, 1)]
set_option maxHeartbeats 4000000 in
set_option maxRecDepth 100000 in
theorem dt_Machine_anySticks : g_dc (g_b M_Machine_anySticks) 0 dl_Machine_anySticks = true := by decide +kernel
def M_Machine_ifFree : gM := (⟨"BandPress$Machine", "ifFree", "(I)I"⟩, prog_5_method_9_code, some .int, 2, { frames := 0, cells := 0, slots := 0, locals := 0 }, false, false, none)
def dl_Machine_ifFree : List (Instr × Nat) := [(.aload_n 0, 1), (.getfield 9, 3), (.iload_n 1, 1), (.iaload, 1), (.iconst (-1), 1), (.if_icmp .ne 7, 3), (.iload_n 1, 1), (.goto 4, 3), (.iconst (-1), 1), (.ireturn, 1)]
set_option maxHeartbeats 4000000 in
set_option maxRecDepth 100000 in
theorem dt_Machine_ifFree : g_dc (g_b M_Machine_ifFree) 0 dl_Machine_ifFree = true := by decide +kernel
def M_Machine_wayFrom : gM := (⟨"BandPress$Machine", "wayFrom", "(I)I"⟩, prog_5_method_8_code, some .int, 2, { frames := 1, cells := 0, slots := 0, locals := 21 }, false, false, none)
def dl_Machine_wayFrom : List (Instr × Nat) := [(.aload_n 0, 1), (.getfield 9, 3), (.iload_n 1, 1), (.iaload, 1), (.iconst (-1), 1), (.if_icmp .eq 12, 3), (.aload_n 0, 1), (.getfield 22, 3), (.iload_n 1, 1), (.baload, 1), (.ifCond .eq 5, 3), (.iconst (-1), 1), (.ireturn, 1), (.iload_n 1, 1), (.tableswitch 64 1 3 #[58, 26, 52], 26), (.aload_n 0, 1), (.getfield 15, 3), (.iconst 2, 1), (.iaload, 1), (.aload_n 0, 1), (.getfield 28, 3), (.invokevirtual 101, 3), (.if_icmp .lt 7, 3), (.iconst 4, 1), (.goto 8, 3), (.aload_n 0, 1), (.iconst 3, 1), (.invokevirtual 104, 3), (.ireturn, 1), (.aload_n 0, 1), (.iconst 0, 1), (.invokevirtual 104, 3), (.ireturn, 1), (.aload_n 0, 1), (.iconst 2, 1), (.invokevirtual 104, 3), (.ireturn, 1), (.aload_n 0, 1), (.getfield 52, 3), (.bipush 80, 2), (.if_icmp .lt 11, 3), (.aload_n 0, 1), (.iconst 1, 1), (.invokevirtual 104, 3), (.goto 4, 3), (.iconst (-1), 1), (.ireturn, 1)]
set_option maxHeartbeats 4000000 in
set_option maxRecDepth 100000 in
theorem dt_Machine_wayFrom : g_dc (g_b M_Machine_wayFrom) 0 dl_Machine_wayFrom = true := by decide +kernel
def M_Order_isLeft : gM := (⟨"BandPress$Order", "isLeft", "(I)Z"⟩, prog_6_method_6_code, some .boolean, 2, { frames := 0, cells := 0, slots := 0, locals := 0 }, false, false, none)
def dl_Order_isLeft : List (Instr × Nat) := [(.iload_n 1, 1), (.ifCond .lt 24, 3), (.iload_n 1, 1), (.aload_n 0, 1), (.getfield 33, 3), (.if_icmp .ge 16, 3), (.aload_n 0, 1), (.getfield 15, 3), (.iload_n 1, 1), (.baload, 1), (.ifCond .ne 7, 3), (.iconst 1, 1), (.goto 4, 3), (.iconst 0, 1), (.ireturn, 1)]
set_option maxHeartbeats 4000000 in
set_option maxRecDepth 100000 in
theorem dt_Order_isLeft : g_dc (g_b M_Order_isLeft) 0 dl_Order_isLeft = true := by decide +kernel
def M_Order_putOut : gM := (⟨"BandPress$Order", "putOut", "(I)V"⟩, prog_6_method_7_code, none, 2, { frames := 1, cells := 0, slots := 0, locals := 21 }, false, false, none)
def dl_Order_putOut : List (Instr × Nat) := [(.aload_n 0, 1), (.iload_n 1, 1), (.invokevirtual 45, 3), (.ifCond .eq 39, 3), (.aload_n 0, 1), (.getfield 36, 3), (.bipush 32, 2), (.if_icmp .ge 30, 3), (.aload_n 0, 1), (.getfield 15, 3), (.iload_n 1, 1), (.iconst 1, 1), (.bastore, 1), (.aload_n 0, 1), (.getfield 9, 3), (.aload_n 0, 1), (.getfield 36, 3), (.iload_n 1, 1), (.iastore, 1), (.aload_n 0, 1), (.dup, 1), (.getfield 36, 3), (.iconst 1, 1), (.iadd, 1), (.putfield 36, 3), (.return_, 1)]
set_option maxHeartbeats 4000000 in
set_option maxRecDepth 100000 in
theorem dt_Order_putOut : g_dc (g_b M_Order_putOut) 0 dl_Order_putOut = true := by decide +kernel
def M_Machine_place : gM := (⟨"BandPress$Machine", "place", "(III)V"⟩, prog_5_method_13_code, none, 4, { frames := 0, cells := 0, slots := 0, locals := 0 }, false, false, none)
def dl_Machine_place : List (Instr × Nat) := [(.aload_n 0, 1), (.getfield 9, 3), (.iload_n 1, 1), (.iload_n 2, 1), (.iastore, 1), (.aload_n 0, 1), (.getfield 15, 3), (.iload_n 1, 1), (.iload_n 3, 1), (.iastore, 1), (.aload_n 0, 1), (.getfield 22, 3), (.iload_n 1, 1), (.iconst 1, 1), (.bastore, 1), (.return_, 1)]
set_option maxHeartbeats 4000000 in
set_option maxRecDepth 100000 in
theorem dt_Machine_place : g_dc (g_b M_Machine_place) 0 dl_Machine_place = true := by decide +kernel
def M_Machine_move : gM := (⟨"BandPress$Machine", "move", "(II)V"⟩, prog_5_method_10_code, none, 4, { frames := 2, cells := 0, slots := 0, locals := 42 }, false, false, none)
def dl_Machine_move : List (Instr × Nat) := [(.iload_n 1, 1), (.iconst 1, 1), (.if_icmp .ne 14, 3), (.aload_n 0, 1), (.getfield 15, 3), (.iload_n 1, 1), (.iaload, 1), (.iconst 1, 1), (.iadd, 1), (.goto 9, 3), (.aload_n 0, 1), (.getfield 15, 3), (.iload_n 1, 1), (.iaload, 1), (.istore_n 3, 1), (.iload_n 2, 1), (.iconst 4, 1), (.if_icmp .ne 19, 3), (.aload_n 0, 1), (.getfield 28, 3), (.aload_n 0, 1), (.getfield 9, 3), (.iload_n 1, 1), (.iaload, 1), (.invokevirtual 107, 3), (.goto 15, 3), (.aload_n 0, 1), (.iload_n 2, 1), (.aload_n 0, 1), (.getfield 9, 3), (.iload_n 1, 1), (.iaload, 1), (.iload_n 3, 1), (.invokevirtual 110, 3), (.aload_n 0, 1), (.iload_n 1, 1), (.invokevirtual 55, 3), (.return_, 1)]
set_option maxHeartbeats 4000000 in
set_option maxRecDepth 100000 in
theorem dt_Machine_move : g_dc (g_b M_Machine_move) 0 dl_Machine_move = true := by decide +kernel
def M_Machine_moveFrom : gM := (⟨"BandPress$Machine", "moveFrom", "(I)V"⟩, prog_5_method_7_code, none, 3, { frames := 3, cells := 0, slots := 0, locals := 65 }, false, false, none)
def dl_Machine_moveFrom : List (Instr × Nat) := [(.aload_n 0, 1), (.iload_n 1, 1), (.invokevirtual 93, 3), (.istore_n 2, 1), (.iload_n 2, 1), (.iconst (-1), 1), (.if_icmp .eq 12, 3), (.aload_n 0, 1), (.getfield 18, 3), (.iload_n 1, 1), (.baload, 1), (.ifCond .ne 13, 3), (.aload_n 0, 1), (.getfield 25, 3), (.iload_n 1, 1), (.iconst 0, 1), (.iastore, 1), (.goto 13, 3), (.aload_n 0, 1), (.getfield 25, 3), (.iload_n 1, 1), (.dup2, 1), (.iaload, 1), (.iconst 1, 1), (.iadd, 1), (.iastore, 1), (.iload_n 2, 1), (.iconst (-1), 1), (.if_icmp .eq 18, 3), (.aload_n 0, 1), (.getfield 18, 3), (.iload_n 1, 1), (.baload, 1), (.ifCond .ne 9, 3), (.aload_n 0, 1), (.iload_n 1, 1), (.iload_n 2, 1), (.invokevirtual 97, 3), (.return_, 1)]
set_option maxHeartbeats 4000000 in
set_option maxRecDepth 100000 in
theorem dt_Machine_moveFrom : g_dc (g_b M_Machine_moveFrom) 0 dl_Machine_moveFrom = true := by decide +kernel
def M_Machine_isInside : gM := (⟨"BandPress$Machine", "isInside", "(I)Z"⟩, prog_5_method_15_code, some .boolean, 3, { frames := 0, cells := 0, slots := 0, locals := 0 }, false, false, none)
def dl_Machine_isInside : List (Instr × Nat) := [(.iconst 0, 1), (.istore_n 2, 1), (.iload_n 2, 1), (.iconst 4, 1), (.if_icmp .ge 21, 3), (.aload_n 0, 1), (.getfield 9, 3), (.iload_n 2, 1), (.iaload, 1), (.iload_n 1, 1), (.if_icmp .ne 5, 3), (.iconst 1, 1), (.ireturn, 1), (.iinc 2 1, 3), (.goto (-20), 3), (.iconst 0, 1), (.ireturn, 1)]
set_option maxHeartbeats 4000000 in
set_option maxRecDepth 100000 in
theorem dt_Machine_isInside : g_dc (g_b M_Machine_isInside) 0 dl_Machine_isInside = true := by decide +kernel
def M_Machine_nextToMake : gM := (⟨"BandPress$Machine", "nextToMake", "()I"⟩, prog_5_method_12_code, some .int, 2, { frames := 1, cells := 0, slots := 0, locals := 22 }, false, false, none)
def dl_Machine_nextToMake : List (Instr × Nat) := [(.aload_n 0, 1), (.getfield 28, 3), (.invokevirtual 39, 3), (.ifCond .ne 5, 3), (.iconst (-1), 1), (.ireturn, 1), (.iconst 0, 1), (.istore_n 1, 1), (.iload_n 1, 1), (.aload_n 0, 1), (.getfield 28, 3), (.getfield 117, 3), (.if_icmp .ge 30, 3), (.aload_n 0, 1), (.getfield 28, 3), (.iload_n 1, 1), (.invokevirtual 120, 3), (.ifCond .eq 13, 3), (.aload_n 0, 1), (.iload_n 1, 1), (.invokevirtual 124, 3), (.ifCond .ne 5, 3), (.iload_n 1, 1), (.ireturn, 1), (.iinc 1 1, 3), (.goto (-35), 3), (.iconst (-1), 1), (.ireturn, 1)]
set_option maxHeartbeats 4000000 in
set_option maxRecDepth 100000 in
theorem dt_Machine_nextToMake : g_dc (g_b M_Machine_nextToMake) 0 dl_Machine_nextToMake = true := by decide +kernel
def M_Machine_feed : gM := (⟨"BandPress$Machine", "feed", "()V"⟩, prog_5_method_11_code, none, 2, { frames := 2, cells := 0, slots := 0, locals := 43 }, false, false, none)
def dl_Machine_feed : List (Instr × Nat) := [(.aload_n 0, 1), (.getfield 48, 3), (.ifCond .eq 31, 3), (.aload_n 0, 1), (.getfield 9, 3), (.iconst 0, 1), (.iaload, 1), (.iconst (-1), 1), (.if_icmp .ne 21, 3), (.aload_n 0, 1), (.getfield 9, 3), (.iconst 3, 1), (.iaload, 1), (.iconst (-1), 1), (.if_icmp .ne 11, 3), (.aload_n 0, 1), (.invokevirtual 45, 3), (.iconst 2, 1), (.if_icmp .lt 4, 3), (.return_, 1), (.aload_n 0, 1), (.invokevirtual 114, 3), (.istore_n 1, 1), (.iload_n 1, 1), (.iconst (-1), 1), (.if_icmp .eq 20, 3), (.aload_n 0, 1), (.dup, 1), (.getfield 48, 3), (.iconst 1, 1), (.isub, 1), (.putfield 48, 3), (.aload_n 0, 1), (.iconst 0, 1), (.iload_n 1, 1), (.iconst 0, 1), (.invokevirtual 110, 3), (.return_, 1)]
set_option maxHeartbeats 4000000 in
set_option maxRecDepth 100000 in
theorem dt_Machine_feed : g_dc (g_b M_Machine_feed) 0 dl_Machine_feed = true := by decide +kernel
def M_Machine_moveAll : gM := (⟨"BandPress$Machine", "moveAll", "()V"⟩, prog_5_method_6_code, none, 2, { frames := 4, cells := 0, slots := 0, locals := 87 }, false, false, none)
def dl_Machine_moveAll : List (Instr × Nat) := [(.iconst 0, 1), (.istore_n 1, 1), (.iload_n 1, 1), (.iconst 4, 1), (.if_icmp .ge 16, 3), (.aload_n 0, 1), (.getfield 22, 3), (.iload_n 1, 1), (.iconst 0, 1), (.bastore, 1), (.iinc 1 1, 3), (.goto (-15), 3), (.aload_n 0, 1), (.iconst 2, 1), (.invokevirtual 84, 3), (.aload_n 0, 1), (.iconst 3, 1), (.invokevirtual 84, 3), (.aload_n 0, 1), (.iconst 1, 1), (.invokevirtual 84, 3), (.aload_n 0, 1), (.iconst 0, 1), (.invokevirtual 84, 3), (.aload_n 0, 1), (.invokevirtual 87, 3), (.iconst 0, 1), (.istore_n 1, 1), (.iload_n 1, 1), (.iconst 4, 1), (.if_icmp .ge 41, 3), (.aload_n 0, 1), (.getfield 25, 3), (.iload_n 1, 1), (.iaload, 1), (.iconst 4, 1), (.if_icmp .lt 25, 3), (.aload_n 0, 1), (.getfield 36, 3), (.ifCond .ne 18, 3), (.aload_n 0, 1), (.iconst 1, 1), (.putfield 36, 3), (.aload_n 0, 1), (.dup, 1), (.getfield 90, 3), (.iconst 1, 1), (.iadd, 1), (.putfield 90, 3), (.iinc 1 1, 3), (.goto (-40), 3), (.return_, 1)]
set_option maxHeartbeats 4000000 in
set_option maxRecDepth 100000 in
theorem dt_Machine_moveAll : g_dc (g_b M_Machine_moveAll) 0 dl_Machine_moveAll = true := by decide +kernel
def M_Machine_pass : gM := (⟨"BandPress$Machine", "pass", "()V"⟩, prog_5_method_5_code, none, 2, { frames := 5, cells := 0, slots := 0, locals := 108 }, false, false, none)
def dl_Machine_pass : List (Instr × Nat) := [(.aload_n 0, 1), (.dup, 1), (.getfield 59, 3), (.iconst 1, 1), (.iadd, 1), (.putfield 59, 3), (.aload_n 0, 1), (.getfield 32, 3), (.ifCond .ne 17, 3), (.aload_n 0, 1), (.getfield 28, 3), (.invokevirtual 39, 3), (.ifCond .le 7, 3), (.iconst 1, 1), (.goto 4, 3), (.iconst 0, 1), (.istore_n 1, 1), (.aload_n 0, 1), (.iload_n 1, 1), (.ifCond .eq 18, 3), (.bipush 100, 2), (.aload_n 0, 1), (.getfield 52, 3), (.bipush 10, 2), (.iadd, 1), (.invokestatic 62, 3), (.goto 13, 3), (.iconst 0, 1), (.aload_n 0, 1), (.getfield 52, 3), (.iconst 5, 1), (.isub, 1), (.invokestatic 68, 3), (.putfield 52, 3), (.aload_n 0, 1), (.getfield 32, 3), (.ifCond .ne 29, 3), (.aload_n 0, 1), (.getfield 36, 3), (.ifCond .eq 22, 3), (.aload_n 0, 1), (.invokevirtual 45, 3), (.ifCond .ne 15, 3), (.aload_n 0, 1), (.invokevirtual 71, 3), (.ifCond .ne 8, 3), (.aload_n 0, 1), (.iconst 0, 1), (.putfield 36, 3), (.aload_n 0, 1), (.getfield 32, 3), (.ifCond .ne 10, 3), (.aload_n 0, 1), (.getfield 36, 3), (.ifCond .eq 14, 3), (.aload_n 0, 1), (.getfield 25, 3), (.iconst 0, 1), (.invokestatic 75, 3), (.goto 7, 3), (.aload_n 0, 1), (.invokevirtual 81, 3), (.return_, 1)]
set_option maxHeartbeats 4000000 in
set_option maxRecDepth 100000 in
theorem dt_Machine_pass : g_dc (g_b M_Machine_pass) 0 dl_Machine_pass = true := by decide +kernel
def M_B_tick : gM := (⟨"BandPress", "tick", "(I)I"⟩, prog_1_method_11_code, some .int, 3, { frames := 7, cells := 1, slots := 6, locals := 129 }, false, false, none)
def dl_B_tick : List (Instr × Nat) := [(.iload_n 1, 1), (.iconst 1, 1), (.if_icmp .lt 10, 3), (.iload_n 1, 1), (.sipush 1000, 3), (.if_icmp .le 11, 3), (.new 74, 3), (.dup, 1), (.invokespecial 76, 3), (.athrow, 1), (.iconst 0, 1), (.istore_n 2, 1), (.iload_n 2, 1), (.iload_n 1, 1), (.if_icmp .ge 16, 3), (.aload_n 0, 1), (.getfield 35, 3), (.invokevirtual 164, 3), (.iinc 2 1, 3), (.goto (-15), 3), (.aload_n 0, 1), (.getfield 35, 3), (.invokevirtual 167, 3), (.ireturn, 1)]
set_option maxHeartbeats 4000000 in
set_option maxRecDepth 100000 in
theorem dt_B_tick : g_dc (g_b M_B_tick) 0 dl_B_tick = true := by decide +kernel
def M_Text_byteOf : gM := (⟨"BandPress$Text", "byteOf", "(JI)I"⟩, prog_11_method_13_code, some .int, 3, { frames := 0, cells := 0, slots := 0, locals := 0 }, false, false, none)
def dl_Text_byteOf : List (Instr × Nat) := [(.lload_n 0, 1), (.bipush 8, 2), (.iload_n 2, 1), (.imul, 1), (.lushr, 1), (.l2i, 1), (.sipush 255, 3), (.iand, 1), (.ireturn, 1)]
set_option maxHeartbeats 4000000 in
set_option maxRecDepth 100000 in
theorem dt_Text_byteOf : g_dc (g_b M_Text_byteOf) 0 dl_Text_byteOf = true := by decide +kernel
def M_Text_isPlain : gM := (⟨"BandPress$Text", "isPlain", "(JI)Z"⟩, prog_11_method_12_code, some .boolean, 5, { frames := 1, cells := 0, slots := 0, locals := 22 }, false, false, none)
def dl_Text_isPlain : List (Instr × Nat) := [(.iconst 0, 1), (.istore_n 3, 1), (.iload_n 3, 1), (.iload_n 2, 1), (.if_icmp .ge 32, 3), (.lload_n 0, 1), (.iload_n 3, 1), (.invokestatic 29, 3), (.istore 4, 2), (.iload 4, 2), (.bipush 32, 2), (.if_icmp .lt 10, 3), (.iload 4, 2), (.bipush 126, 2), (.if_icmp .le 5, 3), (.iconst 0, 1), (.ireturn, 1), (.iinc 3 1, 3), (.goto (-31), 3), (.iconst 1, 1), (.ireturn, 1)]
set_option maxHeartbeats 4000000 in
set_option maxRecDepth 100000 in
theorem dt_Text_isPlain : g_dc (g_b M_Text_isPlain) 0 dl_Text_isPlain = true := by decide +kernel
def M_Text_append : gM := (⟨"BandPress$Text", "append", "(JI)Z"⟩, prog_11_method_2_code, some .boolean, 5, { frames := 2, cells := 0, slots := 0, locals := 46 }, false, false, none)
def dl_Text_append : List (Instr × Nat) := [(.iload_n 3, 1), (.iconst 1, 1), (.if_icmp .lt 29, 3), (.iload_n 3, 1), (.bipush 8, 2), (.if_icmp .gt 23, 3), (.aload_n 0, 1), (.getfield 21, 3), (.iload_n 3, 1), (.iadd, 1), (.sipush 300, 3), (.if_icmp .gt 11, 3), (.lload_n 1, 1), (.iload_n 3, 1), (.invokestatic 25, 3), (.ifCond .ne 5, 3), (.iconst 0, 1), (.ireturn, 1), (.iload_n 3, 1), (.iconst 1, 1), (.isub, 1), (.istore 4, 2), (.iload 4, 2), (.ifCond .lt 34, 3), (.aload_n 0, 1), (.getfield 9, 3), (.aload_n 0, 1), (.getfield 21, 3), (.lload_n 1, 1), (.iload 4, 2), (.invokestatic 29, 3), (.iastore, 1), (.aload_n 0, 1), (.dup, 1), (.getfield 21, 3), (.iconst 1, 1), (.iadd, 1), (.putfield 21, 3), (.iinc 4 (-1), 3), (.goto (-33), 3), (.iconst 1, 1), (.ireturn, 1)]
set_option maxHeartbeats 4000000 in
set_option maxRecDepth 100000 in
theorem dt_Text_append : g_dc (g_b M_Text_append) 0 dl_Text_append = true := by decide +kernel
def M_B_type : gM := (⟨"BandPress", "type", "(JI)Z"⟩, prog_1_method_2_code, some .boolean, 4, { frames := 3, cells := 0, slots := 0, locals := 70 }, false, false, none)
def dl_B_type : List (Instr × Nat) := [(.aload_n 0, 1), (.getfield 10, 3), (.lload_n 1, 1), (.iload_n 3, 1), (.invokevirtual 46, 3), (.ireturn, 1)]
set_option maxHeartbeats 4000000 in
set_option maxRecDepth 100000 in
theorem dt_B_type : g_dc (g_b M_B_type) 0 dl_B_type = true := by decide +kernel
def M_B_value : gM := (⟨"BandPress", "value", "(I)I"⟩, prog_1_method_6_code, some .int, 2, { frames := 7, cells := 1, slots := 6, locals := 110 }, false, false, none)
def dl_B_value : List (Instr × Nat) := [(.iload_n 1, 1), (.ifCond .lt 17, 3), (.iload_n 1, 1), (.aload_n 0, 1), (.getfield 19, 3), (.getfield 112, 3), (.getfield 116, 3), (.if_icmp .lt 11, 3), (.new 137, 3), (.dup, 1), (.invokespecial 139, 3), (.athrow, 1), (.aload_n 0, 1), (.getfield 19, 3), (.getfield 112, 3), (.iload_n 1, 1), (.invokevirtual 140, 3), (.ireturn, 1)]
set_option maxHeartbeats 4000000 in
set_option maxRecDepth 100000 in
theorem dt_B_value : g_dc (g_b M_B_value) 0 dl_B_value = true := by decide +kernel
def M_B_variable : gM := (⟨"BandPress", "variable", "(I)I"⟩, prog_1_method_7_code, some .int, 2, { frames := 0, cells := 0, slots := 0, locals := 0 }, false, false, none)
def dl_B_variable : List (Instr × Nat) := [(.iload_n 1, 1), (.ifCond .lt 9, 3), (.iload_n 1, 1), (.bipush 26, 2), (.if_icmp .lt 7, 3), (.iconst 0, 1), (.goto 12, 3), (.aload_n 0, 1), (.getfield 19, 3), (.getfield 144, 3), (.iload_n 1, 1), (.iaload, 1), (.ireturn, 1)]
set_option maxHeartbeats 4000000 in
set_option maxRecDepth 100000 in
theorem dt_B_variable : g_dc (g_b M_B_variable) 0 dl_B_variable = true := by decide +kernel
def M_M_byteOf : gM := (⟨"BandPressModel", "byteOf", "(III)I"⟩, prog_14_method_50_code, some .int, 6, { frames := 0, cells := 0, slots := 0, locals := 0 }, false, false, none)
def dl_M_byteOf : List (Instr × Nat) := [(.iconst 0, 1), (.istore 4, 2), (.iconst 0, 1), (.istore 5, 2), (.iload 5, 2), (.bipush 8, 2), (.if_icmp .ge 47, 3), (.iconst 2, 1), (.iload 4, 2), (.imul, 1), (.aload_n 0, 1), (.getfield 53, 3), (.sipush 3072, 3), (.iload_n 1, 1), (.imul, 1), (.bipush 64, 2), (.iload_n 2, 1), (.imul, 1), (.iadd, 1), (.bipush 8, 2), (.iload_n 3, 1), (.imul, 1), (.iadd, 1), (.iload 5, 2), (.iadd, 1), (.baload, 1), (.ifCond .eq 7, 3), (.iconst 1, 1), (.goto 4, 3), (.iconst 0, 1), (.iadd, 1), (.istore 4, 2), (.iinc 5 1, 3), (.goto (-48), 3), (.iload 4, 2), (.ireturn, 1)]
set_option maxHeartbeats 4000000 in
set_option maxRecDepth 100000 in
theorem dt_M_byteOf : g_dc (g_b M_M_byteOf) 0 dl_M_byteOf = true := by decide +kernel
def M_M_alike : gM := (⟨"BandPressModel", "alike", "(III)I"⟩, prog_14_method_53_code, some .int, 5, { frames := 1, cells := 0, slots := 0, locals := 25 }, false, false, none)
def dl_M_alike : List (Instr × Nat) := [(.iconst 1, 1), (.istore 4, 2), (.iload_n 3, 1), (.iload 4, 2), (.iadd, 1), (.bipush 8, 2), (.if_icmp .ge 29, 3), (.aload_n 0, 1), (.iload_n 1, 1), (.iload_n 2, 1), (.iload_n 3, 1), (.iload 4, 2), (.iadd, 1), (.invokevirtual 305, 3), (.aload_n 0, 1), (.iload_n 1, 1), (.iload_n 2, 1), (.iload_n 3, 1), (.invokevirtual 305, 3), (.if_icmp .ne 9, 3), (.iinc 4 1, 3), (.goto (-32), 3), (.iload 4, 2), (.ireturn, 1)]
set_option maxHeartbeats 4000000 in
set_option maxRecDepth 100000 in
theorem dt_M_alike : g_dc (g_b M_M_alike) 0 dl_M_alike = true := by decide +kernel
def M_M_sixteenth : gM := (⟨"BandPressModel", "sixteenth", "(II)J"⟩, prog_14_method_21_code, some .long, 2, { frames := 0, cells := 0, slots := 0, locals := 0 }, false, false, none)
def dl_M_sixteenth : List (Instr × Nat) := [(.iload_n 0, 1), (.i2l, 1), (.iload_n 1, 1), (.i2l, 1), (.lmul, 1), (.iconst 4, 1), (.lshr, 1), (.lreturn, 1)]
set_option maxHeartbeats 4000000 in
set_option maxRecDepth 100000 in
theorem dt_M_sixteenth : g_dc (g_b M_M_sixteenth) 0 dl_M_sixteenth = true := by decide +kernel
def M_M_xOf : gM := (⟨"BandPressModel", "xOf", "(I)J"⟩, prog_14_method_19_code, some .long, 2, { frames := 1, cells := 0, slots := 0, locals := 21 }, false, false, none)
def dl_M_xOf : List (Instr × Nat) := [(.aload_n 0, 1), (.getfield 47, 3), (.iconst 2, 1), (.iaload, 1), (.i2l, 1), (.aload_n 0, 1), (.getfield 47, 3), (.iconst 0, 1), (.iaload, 1), (.iload_n 1, 1), (.invokestatic 181, 3), (.ladd, 1), (.lreturn, 1)]
set_option maxHeartbeats 4000000 in
set_option maxRecDepth 100000 in
theorem dt_M_xOf : g_dc (g_b M_M_xOf) 0 dl_M_xOf = true := by decide +kernel
def M_M_yOf : gM := (⟨"BandPressModel", "yOf", "(I)J"⟩, prog_14_method_20_code, some .long, 2, { frames := 1, cells := 0, slots := 0, locals := 21 }, false, false, none)
def dl_M_yOf : List (Instr × Nat) := [(.aload_n 0, 1), (.getfield 47, 3), (.iconst 3, 1), (.iaload, 1), (.i2l, 1), (.aload_n 0, 1), (.getfield 47, 3), (.iconst 1, 1), (.iaload, 1), (.iload_n 1, 1), (.invokestatic 181, 3), (.ladd, 1), (.lreturn, 1)]
set_option maxHeartbeats 4000000 in
set_option maxRecDepth 100000 in
theorem dt_M_yOf : g_dc (g_b M_M_yOf) 0 dl_M_yOf = true := by decide +kernel
def M_M_along : gM := (⟨"BandPressModel", "along", "(IIIIIZ)I"⟩, prog_14_method_38_code, some .int, 19, { frames := 2, cells := 0, slots := 0, locals := 42 }, false, false, none)
def dl_M_along : List (Instr × Nat) := [(.iload_n 2, 1), (.istore 7, 2), (.iload 6, 2), (.ifCond .eq 11, 3), (.aload_n 0, 1), (.iload_n 3, 1), (.invokevirtual 188, 3), (.goto 8, 3), (.aload_n 0, 1), (.iload_n 3, 1), (.invokevirtual 197, 3), (.l2i, 1), (.istore 8, 2), (.iload 6, 2), (.ifCond .eq 12, 3), (.aload_n 0, 1), (.iload 4, 2), (.invokevirtual 188, 3), (.goto 9, 3), (.aload_n 0, 1), (.iload 4, 2), (.invokevirtual 197, 3), (.l2i, 1), (.istore 9, 2), (.iload 6, 2), (.ifCond .eq 12, 3), (.aload_n 0, 1), (.iload 5, 2), (.invokevirtual 188, 3), (.goto 9, 3), (.aload_n 0, 1), (.iload 5, 2), (.invokevirtual 197, 3), (.l2i, 1), (.istore 10, 2), (.iload_n 1, 1), (.istore 11, 2), (.bipush 8, 2), (.istore 12, 2), (.iload 12, 2), (.iconst 1, 1), (.if_icmp .le 119, 3), (.iload 11, 2), (.ifCond .le 114, 3), (.iload 11, 2), (.iload 12, 2), (.if_icmp .ge 107, 3), (.iload 7, 2), (.iload 8, 2), (.iadd, 1), (.iconst 1, 1), (.ishr, 1), (.istore 13, 2), (.iload 8, 2), (.iload 9, 2), (.iadd, 1), (.iconst 1, 1), (.ishr, 1), (.istore 14, 2), (.iload 9, 2), (.iload 10, 2), (.iadd, 1), (.iconst 1, 1), (.ishr, 1), (.istore 15, 2), (.iload 13, 2), (.iload 14, 2), (.iadd, 1), (.iconst 1, 1), (.ishr, 1), (.istore 16, 2), (.iload 14, 2), (.iload 15, 2), (.iadd, 1), (.iconst 1, 1), (.ishr, 1), (.istore 17, 2), (.iload 16, 2), (.iload 17, 2), (.iadd, 1), (.iconst 1, 1), (.ishr, 1), (.istore 18, 2), (.iload 12, 2), (.iconst 2, 1), (.idiv, 1), (.istore 12, 2), (.iload 11, 2), (.iload 12, 2), (.if_icmp .gt 18, 3), (.iload 13, 2), (.istore 8, 2), (.iload 16, 2), (.istore 9, 2), (.iload 18, 2), (.istore 10, 2), (.goto 22, 3), (.iload 11, 2), (.iload 12, 2), (.isub, 1), (.istore 11, 2), (.iload 18, 2), (.istore 7, 2), (.iload 17, 2), (.istore 8, 2), (.iload 15, 2), (.istore 9, 2), (.goto (-119), 3), (.iload 11, 2), (.ifCond .ne 8, 3), (.iload 7, 2), (.goto 5, 3), (.iload 10, 2), (.ireturn, 1)]
set_option maxHeartbeats 4000000 in
set_option maxRecDepth 100000 in
theorem dt_M_along : g_dc (g_b M_M_along) 0 dl_M_along = true := by decide +kernel
def M_M_isLikeAbove : gM := (⟨"BandPressModel", "isLikeAbove", "(II)Z"⟩, prog_14_method_51_code, some .boolean, 5, { frames := 1, cells := 0, slots := 0, locals := 25 }, false, false, none)
def dl_M_isLikeAbove : List (Instr × Nat) := [(.iconst 1, 1), (.istore_n 3, 1), (.iconst 0, 1), (.istore 4, 2), (.iload 4, 2), (.bipush 8, 2), (.if_icmp .ge 51, 3), (.iload_n 3, 1), (.ifCond .eq 39, 3), (.aload_n 0, 1), (.iload_n 1, 1), (.iload_n 2, 1), (.iload 4, 2), (.invokevirtual 305, 3), (.iload_n 2, 1), (.bipush 8, 2), (.irem, 1), (.ifCond .ne 7, 3), (.iconst 0, 1), (.goto 13, 3), (.aload_n 0, 1), (.iload_n 1, 1), (.iload_n 2, 1), (.iconst 1, 1), (.isub, 1), (.iload 4, 2), (.invokevirtual 305, 3), (.if_icmp .ne 7, 3), (.iconst 1, 1), (.goto 4, 3), (.iconst 0, 1), (.istore_n 3, 1), (.iinc 4 1, 3), (.goto (-52), 3), (.iload_n 3, 1), (.ireturn, 1)]
set_option maxHeartbeats 4000000 in
set_option maxRecDepth 100000 in
theorem dt_M_isLikeAbove : g_dc (g_b M_M_isLikeAbove) 0 dl_M_isLikeAbove = true := by decide +kernel
def M_M_out : gM := (⟨"BandPressModel", "out", "(I)V"⟩, prog_14_method_52_code, none, 2, { frames := 0, cells := 0, slots := 0, locals := 0 }, false, false, none)
def dl_M_out : List (Instr × Nat) := [(.aload_n 0, 1), (.getfield 59, 3), (.aload_n 0, 1), (.getfield 309, 3), (.iload_n 1, 1), (.iastore, 1), (.aload_n 0, 1), (.dup, 1), (.getfield 309, 3), (.iconst 1, 1), (.iadd, 1), (.putfield 309, 3), (.return_, 1)]
set_option maxHeartbeats 4000000 in
set_option maxRecDepth 100000 in
theorem dt_M_out : g_dc (g_b M_M_out) 0 dl_M_out = true := by decide +kernel
def M_M_line : gM := (⟨"BandPressModel", "line", "(II)V"⟩, prog_14_method_54_code, none, 6, { frames := 2, cells := 0, slots := 0, locals := 49 }, false, false, none)
def dl_M_line : List (Instr × Nat) := [(.iconst 0, 1), (.istore_n 3, 1), (.iload_n 3, 1), (.bipush 8, 2), (.if_icmp .ge 115, 3), (.aload_n 0, 1), (.iload_n 1, 1), (.iload_n 2, 1), (.iload_n 3, 1), (.invokevirtual 312, 3), (.istore 4, 2), (.iload 4, 2), (.iconst 1, 1), (.if_icmp .le 27, 3), (.aload_n 0, 1), (.sipush 128, 3), (.iload 4, 2), (.iadd, 1), (.invokevirtual 315, 3), (.aload_n 0, 1), (.aload_n 0, 1), (.iload_n 1, 1), (.iload_n 2, 1), (.iload_n 3, 1), (.invokevirtual 305, 3), (.invokevirtual 315, 3), (.goto 68, 3), (.iload_n 3, 1), (.iload 4, 2), (.iadd, 1), (.bipush 8, 2), (.if_icmp .ge 23, 3), (.aload_n 0, 1), (.iload_n 1, 1), (.iload_n 2, 1), (.iload_n 3, 1), (.iload 4, 2), (.iadd, 1), (.invokevirtual 312, 3), (.iconst 2, 1), (.if_icmp .ge 9, 3), (.iinc 4 1, 3), (.goto (-26), 3), (.aload_n 0, 1), (.iload 4, 2), (.invokevirtual 315, 3), (.iconst 0, 1), (.istore 5, 2), (.iload 5, 2), (.iload 4, 2), (.if_icmp .ge 23, 3), (.aload_n 0, 1), (.aload_n 0, 1), (.iload_n 1, 1), (.iload_n 2, 1), (.iload_n 3, 1), (.iload 5, 2), (.iadd, 1), (.invokevirtual 305, 3), (.invokevirtual 315, 3), (.iinc 5 1, 3), (.goto (-24), 3), (.iload_n 3, 1), (.iload 4, 2), (.iadd, 1), (.istore_n 3, 1), (.goto (-115), 3), (.return_, 1)]
set_option maxHeartbeats 4000000 in
set_option maxRecDepth 100000 in
theorem dt_M_line : g_dc (g_b M_M_line) 0 dl_M_line = true := by decide +kernel
def M_M_pack : gM := (⟨"BandPressModel", "pack", "(II)Z"⟩, prog_14_method_55_code, some .boolean, 5, { frames := 3, cells := 0, slots := 0, locals := 74 }, false, false, none)
def dl_M_pack : List (Instr × Nat) := [(.iload_n 1, 1), (.ifCond .lt 20, 3), (.iload_n 1, 1), (.aload_n 0, 1), (.getfield 139, 3), (.if_icmp .ge 12, 3), (.iload_n 2, 1), (.ifCond .lt 8, 3), (.iload_n 2, 1), (.iconst 5, 1), (.if_icmp .le 5, 3), (.iconst 0, 1), (.ireturn, 1), (.aload_n 0, 1), (.iconst 0, 1), (.putfield 309, 3), (.bipush 8, 2), (.iload_n 2, 1), (.imul, 1), (.istore_n 3, 1), (.iload_n 3, 1), (.bipush 8, 2), (.iload_n 2, 1), (.imul, 1), (.bipush 8, 2), (.iadd, 1), (.if_icmp .ge 79, 3), (.iconst 0, 1), (.istore 4, 2), (.iload_n 3, 1), (.iload 4, 2), (.iadd, 1), (.bipush 8, 2), (.iload_n 2, 1), (.imul, 1), (.bipush 8, 2), (.iadd, 1), (.if_icmp .ge 21, 3), (.aload_n 0, 1), (.iload_n 1, 1), (.iload_n 3, 1), (.iload 4, 2), (.iadd, 1), (.invokevirtual 318, 3), (.ifCond .eq 9, 3), (.iinc 4 1, 3), (.goto (-29), 3), (.iload 4, 2), (.ifCond .le 16, 3), (.aload_n 0, 1), (.sipush 192, 3), (.iload 4, 2), (.iadd, 1), (.invokevirtual 315, 3), (.goto 9, 3), (.aload_n 0, 1), (.iload_n 1, 1), (.iload_n 3, 1), (.invokevirtual 321, 3), (.iload_n 3, 1), (.iload 4, 2), (.ifCond .le 8, 3), (.iload 4, 2), (.goto 4, 3), (.iconst 1, 1), (.iadd, 1), (.istore_n 3, 1), (.goto (-84), 3), (.iconst 1, 1), (.ireturn, 1)]
set_option maxHeartbeats 4000000 in
set_option maxRecDepth 100000 in
theorem dt_M_pack : g_dc (g_b M_M_pack) 0 dl_M_pack = true := by decide +kernel
def M_M_band : gM := (⟨"BandPressModel", "band", "(II)I"⟩, prog_14_method_56_code, some .int, 3, { frames := 4, cells := 0, slots := 0, locals := 98 }, false, false, none)
def dl_M_band : List (Instr × Nat) := [(.aload_n 0, 1), (.iconst 0, 1), (.putfield 83, 3), (.aload_n 0, 1), (.iload_n 1, 1), (.iload_n 2, 1), (.invokevirtual 324, 3), (.ifCond .eq 10, 3), (.aload_n 0, 1), (.getfield 309, 3), (.goto 4, 3), (.iconst (-1), 1), (.ireturn, 1)]
set_option maxHeartbeats 4000000 in
set_option maxRecDepth 100000 in
theorem dt_M_band : g_dc (g_b M_M_band) 0 dl_M_band = true := by decide +kernel
def M_M_closing : gM := (⟨"BandPressModel", "closing", "(I)I"⟩, prog_14_method_11_code, some .int, 4, { frames := 0, cells := 0, slots := 0, locals := 0 }, false, false, none)
def dl_M_closing : List (Instr × Nat) := [(.iconst 0, 1), (.istore_n 2, 1), (.iload_n 1, 1), (.istore_n 3, 1), (.iload_n 2, 1), (.ifCond .gt 8, 3), (.iload_n 3, 1), (.iload_n 1, 1), (.if_icmp .ne 43, 3), (.iload_n 2, 1), (.aload_n 0, 1), (.getfield 13, 3), (.iload_n 3, 1), (.iaload, 1), (.bipush 123, 2), (.if_icmp .ne 7, 3), (.iconst 1, 1), (.goto 19, 3), (.aload_n 0, 1), (.getfield 13, 3), (.iload_n 3, 1), (.iaload, 1), (.bipush 125, 2), (.if_icmp .ne 7, 3), (.iconst (-1), 1), (.goto 4, 3), (.iconst 0, 1), (.iadd, 1), (.istore_n 2, 1), (.iinc 3 1, 3), (.goto (-46), 3), (.iload_n 3, 1), (.iconst 1, 1), (.isub, 1), (.ireturn, 1)]
set_option maxHeartbeats 4000000 in
set_option maxRecDepth 100000 in
theorem dt_M_closing : g_dc (g_b M_M_closing) 0 dl_M_closing = true := by decide +kernel
def M_M_cover : gM := (⟨"BandPressModel", "cover", "(Z)Z"⟩, prog_14_method_73_code, some .boolean, 3, { frames := 0, cells := 0, slots := 0, locals := 0 }, false, false, none)
def dl_M_cover : List (Instr × Nat) := [(.aload_n 0, 1), (.iconst 0, 1), (.putfield 83, 3), (.aload_n 0, 1), (.getfield 354, 3), (.istore_n 2, 1), (.aload_n 0, 1), (.iload_n 1, 1), (.putfield 354, 3), (.iload_n 2, 1), (.iload_n 1, 1), (.if_icmp .eq 7, 3), (.iconst 1, 1), (.goto 4, 3), (.iconst 0, 1), (.ireturn, 1)]
set_option maxHeartbeats 4000000 in
set_option maxRecDepth 100000 in
theorem dt_M_cover : g_dc (g_b M_M_cover) 0 dl_M_cover = true := by decide +kernel
def M_M_meets : gM := (⟨"BandPressModel", "meets", "(IIIIII)I"⟩, prog_14_method_39_code, some .int, 6, { frames := 0, cells := 0, slots := 0, locals := 0 }, false, false, none)
def dl_M_meets : List (Instr × Nat) := [(.iload_n 1, 1), (.iload 5, 2), (.if_icmp .gt 39, 3), (.iload 5, 2), (.iload_n 3, 1), (.if_icmp .ge 33, 3), (.iload 5, 2), (.iload_n 1, 1), (.isub, 1), (.i2l, 1), (.iload_n 2, 1), (.iload_n 0, 1), (.isub, 1), (.i2l, 1), (.lmul, 1), (.iload 4, 2), (.iload_n 0, 1), (.isub, 1), (.i2l, 1), (.iload_n 3, 1), (.iload_n 1, 1), (.isub, 1), (.i2l, 1), (.lmul, 1), (.lcmp, 1), (.ifCond .gt 7, 3), (.iconst 1, 1), (.goto 4, 3), (.iconst 0, 1), (.ireturn, 1), (.iload_n 3, 1), (.iload 5, 2), (.if_icmp .gt 39, 3), (.iload 5, 2), (.iload_n 1, 1), (.if_icmp .ge 33, 3), (.iload 5, 2), (.iload_n 3, 1), (.isub, 1), (.i2l, 1), (.iload_n 0, 1), (.iload_n 2, 1), (.isub, 1), (.i2l, 1), (.lmul, 1), (.iload 4, 2), (.iload_n 2, 1), (.isub, 1), (.i2l, 1), (.iload_n 1, 1), (.iload_n 3, 1), (.isub, 1), (.i2l, 1), (.lmul, 1), (.lcmp, 1), (.ifCond .gt 7, 3), (.iconst (-1), 1), (.goto 4, 3), (.iconst 0, 1), (.ireturn, 1), (.iconst 0, 1), (.ireturn, 1)]
set_option maxHeartbeats 4000000 in
set_option maxRecDepth 100000 in
theorem dt_M_meets : g_dc (g_b M_M_meets) 0 dl_M_meets = true := by decide +kernel
def M_M_isIn : gM := (⟨"BandPressModel", "isIn", "(IIZ)Z"⟩, prog_14_method_40_code, some .boolean, 11, { frames := 1, cells := 0, slots := 0, locals := 25 }, false, false, none)
def dl_M_isIn : List (Instr × Nat) := [(.iconst 0, 1), (.istore 4, 2), (.iconst 0, 1), (.istore 5, 2), (.iconst 0, 1), (.istore 6, 2), (.iconst 0, 1), (.istore 7, 2), (.iload 7, 2), (.aload_n 0, 1), (.getfield 220, 3), (.if_icmp .ge 126, 3), (.aload_n 0, 1), (.getfield 44, 3), (.iload 7, 2), (.baload, 1), (.ifCond .eq 7, 3), (.iload 7, 2), (.istore 6, 2), (.iload 7, 2), (.iconst 1, 1), (.iadd, 1), (.aload_n 0, 1), (.getfield 220, 3), (.if_icmp .eq 15, 3), (.aload_n 0, 1), (.getfield 44, 3), (.iload 7, 2), (.iconst 1, 1), (.iadd, 1), (.baload, 1), (.ifCond .eq 7, 3), (.iconst 1, 1), (.goto 4, 3), (.iconst 0, 1), (.istore 8, 2), (.iload 8, 2), (.ifCond .eq 8, 3), (.iload 6, 2), (.goto 7, 3), (.iload 7, 2), (.iconst 1, 1), (.iadd, 1), (.istore 9, 2), (.aload_n 0, 1), (.getfield 38, 3), (.iload 7, 2), (.iaload, 1), (.aload_n 0, 1), (.getfield 41, 3), (.iload 7, 2), (.iaload, 1), (.aload_n 0, 1), (.getfield 38, 3), (.iload 9, 2), (.iaload, 1), (.aload_n 0, 1), (.getfield 41, 3), (.iload 9, 2), (.iaload, 1), (.iload_n 1, 1), (.iload_n 2, 1), (.invokestatic 289, 3), (.istore 10, 2), (.iload 4, 2), (.iload 10, 2), (.iadd, 1), (.istore 4, 2), (.iload 5, 2), (.iload 10, 2), (.ifCond .eq 7, 3), (.iconst 1, 1), (.goto 4, 3), (.iconst 0, 1), (.iadd, 1), (.istore 5, 2), (.iinc 7 1, 3), (.goto (-129), 3), (.iload_n 3, 1), (.ifCond .eq 16, 3), (.iload 4, 2), (.ifCond .eq 7, 3), (.iconst 1, 1), (.goto 20, 3), (.iconst 0, 1), (.goto 16, 3), (.iload 5, 2), (.iconst 2, 1), (.irem, 1), (.iconst 1, 1), (.if_icmp .ne 7, 3), (.iconst 1, 1), (.goto 4, 3), (.iconst 0, 1), (.ireturn, 1)]
set_option maxHeartbeats 4000000 in
set_option maxRecDepth 100000 in
theorem dt_M_isIn : g_dc (g_b M_M_isIn) 0 dl_M_isIn = true := by decide +kernel
def M_M_look : gM := (⟨"BandPressModel", "look", "(Z)I"⟩, prog_14_method_41_code, some .int, 7, { frames := 2, cells := 0, slots := 0, locals := 55 }, false, false, none)
def dl_M_look : List (Instr × Nat) := [(.iconst 0, 1), (.istore_n 2, 1), (.iconst 0, 1), (.istore_n 3, 1), (.iload_n 3, 1), (.bipush 48, 2), (.if_icmp .ge 110, 3), (.iconst 0, 1), (.istore 4, 2), (.iconst 0, 1), (.istore 5, 2), (.iload 5, 2), (.bipush 64, 2), (.if_icmp .ge 91, 3), (.bipush 64, 2), (.iload_n 3, 1), (.imul, 1), (.iload 5, 2), (.iadd, 1), (.istore 6, 2), (.aload_n 0, 1), (.getfield 56, 3), (.iload 6, 2), (.aload_n 0, 1), (.getfield 50, 3), (.iload 6, 2), (.baload, 1), (.ifCond .eq 26, 3), (.aload_n 0, 1), (.iconst 4, 1), (.iload 5, 2), (.imul, 1), (.iconst 2, 1), (.iadd, 1), (.iconst 4, 1), (.iload_n 3, 1), (.imul, 1), (.iconst 2, 1), (.iadd, 1), (.iload_n 1, 1), (.invokevirtual 293, 3), (.ifCond .eq 7, 3), (.iconst 1, 1), (.goto 4, 3), (.iconst 0, 1), (.bastore, 1), (.iload_n 2, 1), (.aload_n 0, 1), (.getfield 56, 3), (.iload 6, 2), (.baload, 1), (.ifCond .eq 12, 3), (.iload 4, 2), (.ifCond .ne 7, 3), (.iconst 1, 1), (.goto 4, 3), (.iconst 0, 1), (.iadd, 1), (.istore_n 2, 1), (.aload_n 0, 1), (.getfield 56, 3), (.iload 6, 2), (.baload, 1), (.istore 4, 2), (.iinc 5 1, 3), (.goto (-92), 3), (.iinc 3 1, 3), (.goto (-110), 3), (.iload_n 2, 1), (.ireturn, 1)]
set_option maxHeartbeats 4000000 in
set_option maxRecDepth 100000 in
theorem dt_M_look : g_dc (g_b M_M_look) 0 dl_M_look = true := by decide +kernel
def M_M_noPath : gM := (⟨"BandPressModel", "noPath", "()V"⟩, prog_14_method_35_code, none, 1, { frames := 0, cells := 0, slots := 0, locals := 0 }, false, false, none)
def dl_M_noPath : List (Instr × Nat) := [(.aload_n 0, 1), (.iconst 0, 1), (.putfield 220, 3), (.aload_n 0, 1), (.iconst 0, 1), (.putfield 217, 3), (.aload_n 0, 1), (.iconst 0, 1), (.putfield 203, 3), (.return_, 1)]
set_option maxHeartbeats 4000000 in
set_option maxRecDepth 100000 in
theorem dt_M_noPath : g_dc (g_b M_M_noPath) 0 dl_M_noPath = true := by decide +kernel
def M_M_cut : gM := (⟨"BandPressModel", "cut", "()V"⟩, prog_14_method_44_code, none, 2, { frames := 3, cells := 0, slots := 0, locals := 81 }, false, false, none)
def dl_M_cut : List (Instr × Nat) := [(.aload_n 0, 1), (.iconst 1, 1), (.invokevirtual 226, 3), (.pop, 1), (.iconst 0, 1), (.istore_n 1, 1), (.iload_n 1, 1), (.sipush 3072, 3), (.if_icmp .ge 21, 3), (.aload_n 0, 1), (.getfield 50, 3), (.iload_n 1, 1), (.aload_n 0, 1), (.getfield 56, 3), (.iload_n 1, 1), (.baload, 1), (.bastore, 1), (.iinc 1 1, 3), (.goto (-22), 3), (.aload_n 0, 1), (.invokevirtual 154, 3), (.return_, 1)]
set_option maxHeartbeats 4000000 in
set_option maxRecDepth 100000 in
theorem dt_M_cut : g_dc (g_b M_M_cut) 0 dl_M_cut = true := by decide +kernel
def M_M_isDigit : gM := (⟨"BandPressModel", "isDigit", "(I)Z"⟩, prog_14_method_4_code, some .boolean, 1, { frames := 0, cells := 0, slots := 0, locals := 0 }, false, false, none)
def dl_M_isDigit : List (Instr × Nat) := [(.iload_n 0, 1), (.bipush 48, 2), (.if_icmp .lt 13, 3), (.iload_n 0, 1), (.bipush 57, 2), (.if_icmp .gt 7, 3), (.iconst 1, 1), (.goto 4, 3), (.iconst 0, 1), (.ireturn, 1)]
set_option maxHeartbeats 4000000 in
set_option maxRecDepth 100000 in
theorem dt_M_isDigit : g_dc (g_b M_M_isDigit) 0 dl_M_isDigit = true := by decide +kernel
def M_M_isLetter : gM := (⟨"BandPressModel", "isLetter", "(I)Z"⟩, prog_14_method_5_code, some .boolean, 1, { frames := 0, cells := 0, slots := 0, locals := 0 }, false, false, none)
def dl_M_isLetter : List (Instr × Nat) := [(.iload_n 0, 1), (.bipush 97, 2), (.if_icmp .lt 13, 3), (.iload_n 0, 1), (.bipush 122, 2), (.if_icmp .gt 7, 3), (.iconst 1, 1), (.goto 4, 3), (.iconst 0, 1), (.ireturn, 1)]
set_option maxHeartbeats 4000000 in
set_option maxRecDepth 100000 in
theorem dt_M_isLetter : g_dc (g_b M_M_isLetter) 0 dl_M_isLetter = true := by decide +kernel
def M_M_needs : gM := (⟨"BandPressModel", "needs", "(I)I"⟩, prog_14_method_6_code, some .int, 1, { frames := 1, cells := 0, slots := 0, locals := 20 }, false, false, none)
def dl_M_needs : List (Instr × Nat) := [(.iload_n 0, 1), (.tableswitch 386 37 126 #[379, 386, 386, 386, 386, 379, 379, 386, 379, 386, 379, 386, 386, 386, 386, 386, 386, 386, 386, 386, 386, 377, 386, 379, 379, 386, 381, 386, 386, 386, 383, 377, 375, 375, 377, 386, 386, 386, 386, 379, 379, 375, 377, 375, 375, 379, 379, 379, 375, 375, 375, 379, 386, 375, 386, 386, 386, 386, 386, 386, 386, 386, 386, 386, 386, 386, 386, 386, 386, 386, 386, 386, 386, 386, 386, 386, 386, 386, 386, 386, 386, 386, 386, 386, 386, 386, 375, 386, 375, 377], 375), (.iconst 0, 1), (.ireturn, 1), (.iconst 1, 1), (.ireturn, 1), (.iconst 2, 1), (.ireturn, 1), (.iconst 3, 1), (.ireturn, 1), (.bipush 6, 2), (.ireturn, 1), (.iload_n 0, 1), (.invokestatic 96, 3), (.ifCond .ne 10, 3), (.iload_n 0, 1), (.invokestatic 100, 3), (.ifCond .eq 7, 3), (.iconst 0, 1), (.goto 4, 3), (.iconst (-1), 1), (.ireturn, 1)]
set_option maxHeartbeats 4000000 in
set_option maxRecDepth 100000 in
theorem dt_M_needs : g_dc (g_b M_M_needs) 0 dl_M_needs = true := by decide +kernel
def M_M_place : gM := (⟨"BandPressModel", "place", "(IIZ)V"⟩, prog_14_method_36_code, none, 4, { frames := 0, cells := 0, slots := 0, locals := 0 }, false, false, none)
def dl_M_place : List (Instr × Nat) := [(.aload_n 0, 1), (.getfield 38, 3), (.aload_n 0, 1), (.getfield 220, 3), (.iload_n 1, 1), (.iastore, 1), (.aload_n 0, 1), (.getfield 41, 3), (.aload_n 0, 1), (.getfield 220, 3), (.iload_n 2, 1), (.iastore, 1), (.aload_n 0, 1), (.getfield 44, 3), (.aload_n 0, 1), (.getfield 220, 3), (.iload_n 3, 1), (.bastore, 1), (.aload_n 0, 1), (.dup, 1), (.getfield 220, 3), (.iconst 1, 1), (.iadd, 1), (.putfield 220, 3), (.aload_n 0, 1), (.iload_n 1, 1), (.putfield 262, 3), (.aload_n 0, 1), (.iload_n 2, 1), (.putfield 268, 3), (.aload_n 0, 1), (.iconst 1, 1), (.putfield 217, 3), (.iload_n 3, 1), (.ifCond .ne 4, 3), (.return_, 1), (.aload_n 0, 1), (.iload_n 1, 1), (.putfield 259, 3), (.aload_n 0, 1), (.iload_n 2, 1), (.putfield 265, 3), (.aload_n 0, 1), (.iconst 0, 1), (.putfield 203, 3), (.return_, 1)]
set_option maxHeartbeats 4000000 in
set_option maxRecDepth 100000 in
theorem dt_M_place : g_dc (g_b M_M_place) 0 dl_M_place = true := by decide +kernel
def M_M_number : gM := (⟨"BandPressModel", "number", "(I)I"⟩, prog_14_method_15_code, some .int, 2, { frames := 0, cells := 0, slots := 0, locals := 0 }, false, false, none)
def dl_M_number : List (Instr × Nat) := [(.aload_n 0, 1), (.getfield 16, 3), (.aload_n 0, 1), (.getfield 145, 3), (.iconst 1, 1), (.isub, 1), (.iload_n 1, 1), (.isub, 1), (.iaload, 1), (.ireturn, 1)]
set_option maxHeartbeats 4000000 in
set_option maxRecDepth 100000 in
theorem dt_M_number : g_dc (g_b M_M_number) 0 dl_M_number = true := by decide +kernel
def M_M_draw : gM := (⟨"BandPressModel", "draw", "(I)V"⟩, prog_14_method_37_code, none, 6, { frames := 3, cells := 0, slots := 0, locals := 80 }, false, false, none)
def dl_M_draw : List (Instr × Nat) := [(.iload_n 1, 1), (.invokestatic 103, 3), (.istore_n 2, 1), (.iload_n 1, 1), (.bipush 77, 2), (.if_icmp .eq 23, 3), (.aload_n 0, 1), (.getfield 203, 3), (.ifCond .eq 16, 3), (.aload_n 0, 1), (.aload_n 0, 1), (.getfield 262, 3), (.aload_n 0, 1), (.getfield 268, 3), (.iconst 1, 1), (.invokevirtual 281, 3), (.iload_n 1, 1), (.bipush 67, 2), (.if_icmp .ne 85, 3), (.aload_n 0, 1), (.getfield 262, 3), (.istore_n 3, 1), (.aload_n 0, 1), (.getfield 268, 3), (.istore 4, 2), (.iconst 1, 1), (.istore 5, 2), (.iload 5, 2), (.bipush 9, 2), (.if_icmp .ge 61, 3), (.aload_n 0, 1), (.aload_n 0, 1), (.iload 5, 2), (.iload_n 3, 1), (.aload_n 0, 1), (.iconst 5, 1), (.invokevirtual 185, 3), (.aload_n 0, 1), (.iconst 3, 1), (.invokevirtual 185, 3), (.aload_n 0, 1), (.iconst 1, 1), (.invokevirtual 185, 3), (.iconst 1, 1), (.invokevirtual 285, 3), (.aload_n 0, 1), (.iload 5, 2), (.iload 4, 2), (.aload_n 0, 1), (.iconst 4, 1), (.invokevirtual 185, 3), (.aload_n 0, 1), (.iconst 2, 1), (.invokevirtual 185, 3), (.aload_n 0, 1), (.iconst 0, 1), (.invokevirtual 185, 3), (.iconst 0, 1), (.invokevirtual 285, 3), (.iconst 0, 1), (.invokevirtual 281, 3), (.iinc 5 1, 3), (.goto (-62), 3), (.goto 38, 3), (.aload_n 0, 1), (.aload_n 0, 1), (.aload_n 0, 1), (.iconst 1, 1), (.invokevirtual 185, 3), (.invokevirtual 188, 3), (.l2i, 1), (.aload_n 0, 1), (.aload_n 0, 1), (.iconst 0, 1), (.invokevirtual 185, 3), (.invokevirtual 197, 3), (.l2i, 1), (.iload_n 1, 1), (.bipush 77, 2), (.if_icmp .ne 7, 3), (.iconst 1, 1), (.goto 4, 3), (.iconst 0, 1), (.invokevirtual 281, 3), (.aload_n 0, 1), (.dup, 1), (.getfield 145, 3), (.iload_n 2, 1), (.isub, 1), (.putfield 145, 3), (.return_, 1)]
set_option maxHeartbeats 4000000 in
set_option maxRecDepth 100000 in
theorem dt_M_draw : g_dc (g_b M_M_draw) 0 dl_M_draw = true := by decide +kernel
def M_M_empty : gM := (⟨"BandPressModel", "empty", "(I)V"⟩, prog_14_method_62_code, none, 2, { frames := 0, cells := 0, slots := 0, locals := 0 }, false, false, none)
def dl_M_empty : List (Instr × Nat) := [(.aload_n 0, 1), (.getfield 62, 3), (.iload_n 1, 1), (.iconst (-1), 1), (.iastore, 1), (.aload_n 0, 1), (.getfield 65, 3), (.iload_n 1, 1), (.iconst 0, 1), (.iastore, 1), (.aload_n 0, 1), (.getfield 68, 3), (.iload_n 1, 1), (.iconst 0, 1), (.iastore, 1), (.return_, 1)]
set_option maxHeartbeats 4000000 in
set_option maxRecDepth 100000 in
theorem dt_M_empty : g_dc (g_b M_M_empty) 0 dl_M_empty = true := by decide +kernel
def M_M_endJob : gM := (⟨"BandPressModel", "endJob", "(II)V"⟩, prog_14_method_13_code, none, 4, { frames := 0, cells := 0, slots := 0, locals := 0 }, false, false, none)
def dl_M_endJob : List (Instr × Nat) := [(.aload_n 0, 1), (.iconst 2, 1), (.putfield 107, 3), (.aload_n 0, 1), (.iload_n 1, 1), (.putfield 133, 3), (.aload_n 0, 1), (.iload_n 1, 1), (.ifCond .ne 7, 3), (.iconst 0, 1), (.goto 4, 3), (.iload_n 2, 1), (.putfield 136, 3), (.aload_n 0, 1), (.aload_n 0, 1), (.getfield 123, 3), (.aload_n 0, 1), (.getfield 126, 3), (.ifCond .eq 14, 3), (.aload_n 0, 1), (.getfield 139, 3), (.iconst 1, 1), (.iadd, 1), (.iconst 2, 1), (.idiv, 1), (.goto 7, 3), (.aload_n 0, 1), (.getfield 139, 3), (.imul, 1), (.putfield 113, 3), (.iconst 0, 1), (.istore_n 3, 1), (.iload_n 3, 1), (.bipush 40, 2), (.if_icmp .ge 16, 3), (.aload_n 0, 1), (.getfield 80, 3), (.iload_n 3, 1), (.iconst 0, 1), (.bastore, 1), (.iinc 3 1, 3), (.goto (-16), 3), (.return_, 1)]
set_option maxHeartbeats 4000000 in
set_option maxRecDepth 100000 in
theorem dt_M_endJob : g_dc (g_b M_M_endJob) 0 dl_M_endJob = true := by decide +kernel
def M_M_enter : gM := (⟨"BandPressModel", "enter", "(III)V"⟩, prog_14_method_9_code, none, 4, { frames := 0, cells := 0, slots := 0, locals := 0 }, false, false, none)
def dl_M_enter : List (Instr × Nat) := [(.aload_n 0, 1), (.getfield 26, 3), (.aload_n 0, 1), (.getfield 157, 3), (.iload_n 1, 1), (.iastore, 1), (.aload_n 0, 1), (.getfield 32, 3), (.aload_n 0, 1), (.getfield 157, 3), (.iload_n 1, 1), (.iastore, 1), (.aload_n 0, 1), (.getfield 29, 3), (.aload_n 0, 1), (.getfield 157, 3), (.iload_n 2, 1), (.iastore, 1), (.aload_n 0, 1), (.getfield 35, 3), (.aload_n 0, 1), (.getfield 157, 3), (.iload_n 3, 1), (.iastore, 1), (.aload_n 0, 1), (.dup, 1), (.getfield 157, 3), (.iconst 1, 1), (.iadd, 1), (.putfield 157, 3), (.return_, 1)]
set_option maxHeartbeats 4000000 in
set_option maxRecDepth 100000 in
theorem dt_M_enter : g_dc (g_b M_M_enter) 0 dl_M_enter = true := by decide +kernel
def M_M_isKind : gM := (⟨"BandPressModel", "isKind", "(II)Z"⟩, prog_14_method_17_code, some .boolean, 5, { frames := 0, cells := 0, slots := 0, locals := 0 }, false, false, none)
def dl_M_isKind : List (Instr × Nat) := [(.iload_n 1, 1), (.bipush 68, 2), (.if_icmp .eq 15, 3), (.iload_n 1, 1), (.bipush 88, 2), (.if_icmp .eq 9, 3), (.iload_n 1, 1), (.bipush 79, 2), (.if_icmp .ne 5, 3), (.iconst 1, 1), (.ireturn, 1), (.iconst 0, 1), (.istore_n 3, 1), (.iload_n 3, 1), (.iload_n 2, 1), (.if_icmp .ge 65, 3), (.iload_n 1, 1), (.bipush 63, 2), (.if_icmp .ne 16, 3), (.iload_n 3, 1), (.iconst 2, 1), (.if_icmp .ge 7, 3), (.iconst 1, 1), (.goto 22, 3), (.iconst 0, 1), (.goto 18, 3), (.iload_n 1, 1), (.bipush 82, 2), (.if_icmp .ne 11, 3), (.iload_n 3, 1), (.ifCond .ne 7, 3), (.iconst 1, 1), (.goto 4, 3), (.iconst 0, 1), (.istore 4, 2), (.aload_n 0, 1), (.getfield 22, 3), (.aload_n 0, 1), (.getfield 145, 3), (.iconst 1, 1), (.isub, 1), (.iload_n 3, 1), (.isub, 1), (.baload, 1), (.iload 4, 2), (.if_icmp .eq 5, 3), (.iconst 0, 1), (.ireturn, 1), (.iinc 3 1, 3), (.goto (-64), 3), (.iconst 1, 1), (.ireturn, 1)]
set_option maxHeartbeats 4000000 in
set_option maxRecDepth 100000 in
theorem dt_M_isKind : g_dc (g_b M_M_isKind) 0 dl_M_isKind = true := by decide +kernel
def M_M_quotient : gM := (⟨"BandPressModel", "quotient", "()I"⟩, prog_14_method_23_code, some .int, 1, { frames := 1, cells := 0, slots := 0, locals := 21 }, false, false, none)
def dl_M_quotient : List (Instr × Nat) := [(.aload_n 0, 1), (.iconst 0, 1), (.invokevirtual 185, 3), (.ifCond .ne 7, 3), (.iconst 0, 1), (.goto 14, 3), (.aload_n 0, 1), (.iconst 1, 1), (.invokevirtual 185, 3), (.aload_n 0, 1), (.iconst 0, 1), (.invokevirtual 185, 3), (.idiv, 1), (.ireturn, 1)]
set_option maxHeartbeats 4000000 in
set_option maxRecDepth 100000 in
theorem dt_M_quotient : g_dc (g_b M_M_quotient) 0 dl_M_quotient = true := by decide +kernel
def M_M_result : gM := (⟨"BandPressModel", "result", "(I)J"⟩, prog_14_method_24_code, some .long, 6, { frames := 2, cells := 0, slots := 0, locals := 41 }, false, false, none)
def dl_M_result : List (Instr × Nat) := [(.aload_n 0, 1), (.iconst 1, 1), (.invokevirtual 185, 3), (.i2l, 1), (.lstore_n 2, 1), (.aload_n 0, 1), (.iconst 0, 1), (.invokevirtual 185, 3), (.i2l, 1), (.lstore 4, 2), (.iload_n 1, 1), (.bipush 43, 2), (.if_icmp .ne 10, 3), (.lload_n 2, 1), (.lload 4, 2), (.ladd, 1), (.goto 44, 3), (.iload_n 1, 1), (.bipush 45, 2), (.if_icmp .ne 10, 3), (.lload_n 2, 1), (.lload 4, 2), (.lsub, 1), (.goto 31, 3), (.iload_n 1, 1), (.bipush 42, 2), (.if_icmp .ne 10, 3), (.lload_n 2, 1), (.lload 4, 2), (.lmul, 1), (.goto 18, 3), (.iload_n 1, 1), (.bipush 47, 2), (.if_icmp .ne 11, 3), (.aload_n 0, 1), (.invokevirtual 200, 3), (.i2l, 1), (.goto 4, 3), (.lconst 0, 1), (.lreturn, 1)]
set_option maxHeartbeats 4000000 in
set_option maxRecDepth 100000 in
theorem dt_M_result : g_dc (g_b M_M_result) 0 dl_M_result = true := by decide +kernel
def M_M_isFar : gM := (⟨"BandPressModel", "isFar", "(JI)Z"⟩, prog_14_method_18_code, some .boolean, 3, { frames := 0, cells := 0, slots := 0, locals := 0 }, false, false, none)
def dl_M_isFar : List (Instr × Nat) := [(.lload_n 0, 1), (.iload_n 2, 1), (.i2l, 1), (.lcmp, 1), (.ifCond .gt 11, 3), (.lload_n 0, 1), (.iload_n 2, 1), (.ineg, 1), (.i2l, 1), (.lcmp, 1), (.ifCond .ge 7, 3), (.iconst 1, 1), (.goto 4, 3), (.iconst 0, 1), (.ireturn, 1)]
set_option maxHeartbeats 4000000 in
set_option maxRecDepth 100000 in
theorem dt_M_isFar : g_dc (g_b M_M_isFar) 0 dl_M_isFar = true := by decide +kernel
def M_M_isNear : gM := (⟨"BandPressModel", "isNear", "(I)Z"⟩, prog_14_method_22_code, some .boolean, 4, { frames := 2, cells := 0, slots := 0, locals := 42 }, false, false, none)
def dl_M_isNear : List (Instr × Nat) := [(.iconst 1, 1), (.istore_n 2, 1), (.iconst 0, 1), (.istore_n 3, 1), (.iload_n 3, 1), (.iload_n 1, 1), (.if_icmp .ge 55, 3), (.iload_n 2, 1), (.ifCond .eq 43, 3), (.aload_n 0, 1), (.aload_n 0, 1), (.iload_n 3, 1), (.iconst 1, 1), (.iadd, 1), (.invokevirtual 185, 3), (.invokevirtual 188, 3), (.ldc 192, 2), (.invokestatic 193, 3), (.ifCond .ne 24, 3), (.aload_n 0, 1), (.aload_n 0, 1), (.iload_n 3, 1), (.invokevirtual 185, 3), (.invokevirtual 197, 3), (.ldc 192, 2), (.invokestatic 193, 3), (.ifCond .ne 7, 3), (.iconst 1, 1), (.goto 4, 3), (.iconst 0, 1), (.istore_n 2, 1), (.iinc 3 2, 3), (.goto (-54), 3), (.iload_n 2, 1), (.ireturn, 1)]
set_option maxHeartbeats 4000000 in
set_option maxRecDepth 100000 in
theorem dt_M_isNear : g_dc (g_b M_M_isNear) 0 dl_M_isNear = true := by decide +kernel
def M_M_placesFor : gM := (⟨"BandPressModel", "placesFor", "(I)I"⟩, prog_14_method_26_code, some .int, 2, { frames := 0, cells := 0, slots := 0, locals := 0 }, false, false, none)
def dl_M_placesFor : List (Instr × Nat) := [(.iload_n 1, 1), (.aload_n 0, 1), (.getfield 203, 3), (.ifCond .eq 7, 3), (.iconst 1, 1), (.goto 4, 3), (.iconst 0, 1), (.iadd, 1), (.ireturn, 1)]
set_option maxHeartbeats 4000000 in
set_option maxRecDepth 100000 in
theorem dt_M_placesFor : g_dc (g_b M_M_placesFor) 0 dl_M_placesFor = true := by decide +kernel
def M_M_isRepeated : gM := (⟨"BandPressModel", "isRepeated", "()Z"⟩, prog_14_method_25_code, some .boolean, 2, { frames := 0, cells := 0, slots := 0, locals := 0 }, false, false, none)
def dl_M_isRepeated : List (Instr × Nat) := [(.iconst 0, 1), (.istore_n 1, 1), (.iload_n 1, 1), (.aload_n 0, 1), (.getfield 157, 3), (.if_icmp .ge 21, 3), (.aload_n 0, 1), (.getfield 35, 3), (.iload_n 1, 1), (.iaload, 1), (.iconst (-1), 1), (.if_icmp .eq 5, 3), (.iconst 1, 1), (.ireturn, 1), (.iinc 1 1, 3), (.goto (-23), 3), (.iconst 0, 1), (.ireturn, 1)]
set_option maxHeartbeats 4000000 in
set_option maxRecDepth 100000 in
theorem dt_M_isRepeated : g_dc (g_b M_M_isRepeated) 0 dl_M_isRepeated = true := by decide +kernel
def M_M_errorOf : gM := (⟨"BandPressModel", "errorOf", "(I)I"⟩, prog_14_method_27_code, some .int, 4, { frames := 3, cells := 0, slots := 0, locals := 81 }, false, false, none)
def dl_M_errorOf : List (Instr × Nat) := [(.iload_n 1, 1), (.invokestatic 103, 3), (.istore_n 2, 1), (.aload_n 0, 1), (.getfield 145, 3), (.iload_n 2, 1), (.if_icmp .ge 5, 3), (.iconst 1, 1), (.ireturn, 1), (.aload_n 0, 1), (.iload_n 1, 1), (.iload_n 2, 1), (.invokevirtual 206, 3), (.ifCond .ne 5, 3), (.iconst 2, 1), (.ireturn, 1), (.iconst 0, 1), (.istore_n 3, 1), (.iload_n 1, 1), (.bipush 43, 2), (.if_icmp .eq 21, 3), (.iload_n 1, 1), (.bipush 45, 2), (.if_icmp .eq 15, 3), (.iload_n 1, 1), (.bipush 42, 2), (.if_icmp .eq 9, 3), (.iload_n 1, 1), (.bipush 47, 2), (.if_icmp .ne 14, 3), (.aload_n 0, 1), (.iload_n 1, 1), (.invokevirtual 210, 3), (.ldc 213, 2), (.invokestatic 193, 3), (.istore_n 3, 1), (.iload_n 1, 1), (.bipush 77, 2), (.if_icmp .eq 21, 3), (.iload_n 1, 1), (.bipush 76, 2), (.if_icmp .eq 15, 3), (.iload_n 1, 1), (.bipush 67, 2), (.if_icmp .eq 9, 3), (.iload_n 1, 1), (.bipush 84, 2), (.if_icmp .ne 17, 3), (.aload_n 0, 1), (.iload_n 2, 1), (.invokevirtual 214, 3), (.ifCond .ne 7, 3), (.iconst 1, 1), (.goto 4, 3), (.iconst 0, 1), (.istore_n 3, 1), (.iload_n 1, 1), (.bipush 83, 2), (.if_icmp .ne 55, 3), (.aload_n 0, 1), (.getfield 47, 3), (.iconst 0, 1), (.iaload, 1), (.aload_n 0, 1), (.iconst 1, 1), (.invokevirtual 185, 3), (.invokestatic 181, 3), (.sipush 4096, 3), (.invokestatic 193, 3), (.ifCond .ne 26, 3), (.aload_n 0, 1), (.getfield 47, 3), (.iconst 1, 1), (.iaload, 1), (.aload_n 0, 1), (.iconst 0, 1), (.invokevirtual 185, 3), (.invokestatic 181, 3), (.sipush 4096, 3), (.invokestatic 193, 3), (.ifCond .eq 7, 3), (.iconst 1, 1), (.goto 4, 3), (.iconst 0, 1), (.istore_n 3, 1), (.iload_n 1, 1), (.bipush 71, 2), (.if_icmp .ne 27, 3), (.aload_n 0, 1), (.iconst 0, 1), (.invokevirtual 185, 3), (.ifCond .lt 13, 3), (.aload_n 0, 1), (.iconst 0, 1), (.invokevirtual 185, 3), (.bipush 16, 2), (.if_icmp .le 7, 3), (.iconst 1, 1), (.goto 4, 3), (.iconst 0, 1), (.istore_n 3, 1), (.iload_n 3, 1), (.ifCond .eq 5, 3), (.iconst 3, 1), (.ireturn, 1), (.iload_n 1, 1), (.bipush 47, 2), (.if_icmp .eq 9, 3), (.iload_n 1, 1), (.bipush 37, 2), (.if_icmp .ne 13, 3), (.aload_n 0, 1), (.iconst 0, 1), (.invokevirtual 185, 3), (.ifCond .ne 5, 3), (.iconst 4, 1), (.ireturn, 1), (.iload_n 1, 1), (.invokestatic 96, 3), (.ifCond .ne 22, 3), (.iload_n 1, 1), (.invokestatic 100, 3), (.ifCond .ne 15, 3), (.iload_n 1, 1), (.bipush 123, 2), (.if_icmp .eq 9, 3), (.iload_n 1, 1), (.bipush 68, 2), (.if_icmp .ne 12, 3), (.aload_n 0, 1), (.getfield 145, 3), (.bipush 32, 2), (.if_icmp .eq 32, 3), (.iload_n 1, 1), (.bipush 63, 2), (.if_icmp .eq 17, 3), (.iload_n 1, 1), (.bipush 82, 2), (.if_icmp .ne 22, 3), (.aload_n 0, 1), (.iconst 1, 1), (.invokevirtual 185, 3), (.ifCond .le 14, 3), (.aload_n 0, 1), (.getfield 157, 3), (.bipush 21, 2), (.if_icmp .ne 5, 3), (.iconst 5, 1), (.ireturn, 1), (.iload_n 1, 1), (.bipush 76, 2), (.if_icmp .eq 15, 3), (.iload_n 1, 1), (.bipush 67, 2), (.if_icmp .eq 9, 3), (.iload_n 1, 1), (.bipush 90, 2), (.if_icmp .ne 13, 3), (.aload_n 0, 1), (.getfield 217, 3), (.ifCond .ne 6, 3), (.bipush 6, 2), (.ireturn, 1), (.iload_n 1, 1), (.bipush 77, 2), (.if_icmp .ne 13, 3), (.aload_n 0, 1), (.getfield 220, 3), (.sipush 200, 3), (.if_icmp .eq 48, 3), (.iload_n 1, 1), (.bipush 76, 2), (.if_icmp .ne 19, 3), (.aload_n 0, 1), (.getfield 220, 3), (.aload_n 0, 1), (.iconst 1, 1), (.invokevirtual 223, 3), (.iadd, 1), (.sipush 200, 3), (.if_icmp .gt 26, 3), (.iload_n 1, 1), (.bipush 67, 2), (.if_icmp .ne 23, 3), (.aload_n 0, 1), (.getfield 220, 3), (.aload_n 0, 1), (.bipush 8, 2), (.invokevirtual 223, 3), (.iadd, 1), (.sipush 200, 3), (.if_icmp .le 6, 3), (.bipush 7, 2), (.ireturn, 1), (.iload_n 1, 1), (.bipush 70, 2), (.if_icmp .eq 9, 3), (.iload_n 1, 1), (.bipush 69, 2), (.if_icmp .ne 36, 3), (.aload_n 0, 1), (.getfield 151, 3), (.aload_n 0, 1), (.iload_n 1, 1), (.bipush 70, 2), (.if_icmp .ne 7, 3), (.iconst 1, 1), (.goto 4, 3), (.iconst 0, 1), (.invokevirtual 226, 3), (.iadd, 1), (.sipush 250, 3), (.if_icmp .le 8, 3), (.bipush 8, 2), (.goto 4, 3), (.iconst 0, 1), (.ireturn, 1), (.iload_n 1, 1), (.bipush 80, 2), (.if_icmp .ne 15, 3), (.aload_n 0, 1), (.getfield 139, 3), (.bipush 8, 2), (.if_icmp .ne 6, 3), (.bipush 9, 2), (.ireturn, 1), (.iload_n 1, 1), (.bipush 85, 2), (.if_icmp .ne 11, 3), (.aload_n 0, 1), (.getfield 148, 3), (.iconst 4, 1), (.if_icmp .eq 16, 3), (.iload_n 1, 1), (.bipush 86, 2), (.if_icmp .ne 13, 3), (.aload_n 0, 1), (.getfield 148, 3), (.ifCond .ne 6, 3), (.bipush 10, 2), (.ireturn, 1), (.iload_n 1, 1), (.bipush 81, 2), (.if_icmp .ne 15, 3), (.aload_n 0, 1), (.invokevirtual 230, 3), (.ifCond .ne 8, 3), (.bipush 11, 2), (.goto 4, 3), (.iconst 0, 1), (.ireturn, 1)]
set_option maxHeartbeats 4000000 in
set_option maxRecDepth 100000 in
theorem dt_M_errorOf : g_dc (g_b M_M_errorOf) 0 dl_M_errorOf = true := by decide +kernel
def M_M_faultOf : gM := (⟨"BandPressModel", "faultOf", "()I"⟩, prog_14_method_7_code, some .int, 5, { frames := 2, cells := 0, slots := 0, locals := 40 }, false, false, none)
def dl_M_faultOf : List (Instr × Nat) := [(.iconst 0, 1), (.istore_n 1, 1), (.iconst 0, 1), (.istore_n 2, 1), (.iload_n 2, 1), (.aload_n 0, 1), (.getfield 87, 3), (.if_icmp .ge 159, 3), (.aload_n 0, 1), (.getfield 7, 3), (.iload_n 2, 1), (.iaload, 1), (.istore_n 3, 1), (.iload_n 3, 1), (.bipush 32, 2), (.if_icmp .ne 6, 3), (.goto 137, 3), (.iload_n 3, 1), (.invokestatic 103, 3), (.iconst (-1), 1), (.if_icmp .eq 25, 3), (.iload_n 3, 1), (.bipush 125, 2), (.if_icmp .ne 7, 3), (.iload_n 1, 1), (.ifCond .eq 15, 3), (.iload_n 3, 1), (.bipush 123, 2), (.if_icmp .ne 11, 3), (.iload_n 1, 1), (.bipush 8, 2), (.if_icmp .ne 5, 3), (.iload_n 2, 1), (.ireturn, 1), (.iload_n 1, 1), (.iload_n 3, 1), (.bipush 123, 2), (.if_icmp .ne 7, 3), (.iconst 1, 1), (.goto 14, 3), (.iload_n 3, 1), (.bipush 125, 2), (.if_icmp .ne 7, 3), (.iconst (-1), 1), (.goto 4, 3), (.iconst 0, 1), (.iadd, 1), (.istore_n 1, 1), (.iload_n 3, 1), (.bipush 58, 2), (.if_icmp .ne 28, 3), (.iinc 2 1, 3), (.iload_n 2, 1), (.aload_n 0, 1), (.getfield 87, 3), (.if_icmp .eq 15, 3), (.aload_n 0, 1), (.getfield 7, 3), (.iload_n 2, 1), (.iaload, 1), (.invokestatic 100, 3), (.ifCond .ne 5, 3), (.iload_n 2, 1), (.ireturn, 1), (.iload_n 2, 1), (.istore 4, 2), (.iload_n 3, 1), (.invokestatic 96, 3), (.ifCond .eq 40, 3), (.iload_n 2, 1), (.iconst 1, 1), (.iadd, 1), (.aload_n 0, 1), (.getfield 87, 3), (.if_icmp .ge 30, 3), (.aload_n 0, 1), (.getfield 7, 3), (.iload_n 2, 1), (.iconst 1, 1), (.iadd, 1), (.iaload, 1), (.invokestatic 96, 3), (.ifCond .eq 16, 3), (.iinc 2 1, 3), (.iload_n 2, 1), (.iload 4, 2), (.iconst 5, 1), (.iadd, 1), (.if_icmp .ne (-39), 3), (.iload_n 2, 1), (.ireturn, 1), (.iinc 2 1, 3), (.goto (-161), 3), (.iload_n 1, 1), (.ifCond .le 10, 3), (.aload_n 0, 1), (.getfield 87, 3), (.goto 4, 3), (.iconst (-1), 1), (.ireturn, 1)]
set_option maxHeartbeats 4000000 in
set_option maxRecDepth 100000 in
theorem dt_M_faultOf : g_dc (g_b M_M_faultOf) 0 dl_M_faultOf = true := by decide +kernel
def M_M_toMake : gM := (⟨"BandPressModel", "toMake", "()I"⟩, prog_14_method_64_code, some .int, 4, { frames := 0, cells := 0, slots := 0, locals := 0 }, false, false, none)
def dl_M_toMake : List (Instr × Nat) := [(.iconst 0, 1), (.istore_n 1, 1), (.iload_n 1, 1), (.aload_n 0, 1), (.getfield 113, 3), (.if_icmp .ge 63, 3), (.aload_n 0, 1), (.getfield 80, 3), (.iload_n 1, 1), (.baload, 1), (.ifCond .ne 7, 3), (.iconst 1, 1), (.goto 4, 3), (.iconst 0, 1), (.istore_n 2, 1), (.iconst 0, 1), (.istore_n 3, 1), (.iload_n 3, 1), (.iconst 4, 1), (.if_icmp .ge 29, 3), (.iload_n 2, 1), (.ifCond .eq 17, 3), (.aload_n 0, 1), (.getfield 62, 3), (.iload_n 3, 1), (.iaload, 1), (.iload_n 1, 1), (.if_icmp .eq 7, 3), (.iconst 1, 1), (.goto 4, 3), (.iconst 0, 1), (.istore_n 2, 1), (.iinc 3 1, 3), (.goto (-28), 3), (.iload_n 2, 1), (.ifCond .eq 5, 3), (.iload_n 1, 1), (.ireturn, 1), (.iinc 1 1, 3), (.goto (-65), 3), (.iconst (-1), 1), (.ireturn, 1)]
set_option maxHeartbeats 4000000 in
set_option maxRecDepth 100000 in
theorem dt_M_toMake : g_dc (g_b M_M_toMake) 0 dl_M_toMake = true := by decide +kernel
def M_M_insideMany : gM := (⟨"BandPressModel", "insideMany", "()I"⟩, prog_14_method_58_code, some .int, 3, { frames := 0, cells := 0, slots := 0, locals := 0 }, false, false, none)
def dl_M_insideMany : List (Instr × Nat) := [(.iconst 0, 1), (.istore_n 1, 1), (.iconst 0, 1), (.istore_n 2, 1), (.iload_n 2, 1), (.iconst 4, 1), (.if_icmp .ge 27, 3), (.iload_n 1, 1), (.aload_n 0, 1), (.getfield 62, 3), (.iload_n 2, 1), (.iaload, 1), (.iconst (-1), 1), (.if_icmp .eq 7, 3), (.iconst 1, 1), (.goto 4, 3), (.iconst 0, 1), (.iadd, 1), (.istore_n 1, 1), (.iinc 2 1, 3), (.goto (-26), 3), (.iload_n 1, 1), (.ireturn, 1)]
set_option maxHeartbeats 4000000 in
set_option maxRecDepth 100000 in
theorem dt_M_insideMany : g_dc (g_b M_M_insideMany) 0 dl_M_insideMany = true := by decide +kernel
def M_M_feed : gM := (⟨"BandPressModel", "feed", "()V"⟩, prog_14_method_65_code, none, 2, { frames := 1, cells := 0, slots := 0, locals := 23 }, false, false, none)
def dl_M_feed : List (Instr × Nat) := [(.aload_n 0, 1), (.invokevirtual 342, 3), (.istore_n 1, 1), (.aload_n 0, 1), (.getfield 62, 3), (.iconst 0, 1), (.iaload, 1), (.iconst (-1), 1), (.if_icmp .ne 33, 3), (.aload_n 0, 1), (.getfield 62, 3), (.iconst 3, 1), (.iaload, 1), (.iconst (-1), 1), (.if_icmp .ne 23, 3), (.aload_n 0, 1), (.invokevirtual 345, 3), (.iconst 1, 1), (.if_icmp .gt 15, 3), (.aload_n 0, 1), (.getfield 348, 3), (.ifCond .eq 8, 3), (.iload_n 1, 1), (.iconst (-1), 1), (.if_icmp .ne 4, 3), (.return_, 1), (.aload_n 0, 1), (.dup, 1), (.getfield 348, 3), (.iconst 1, 1), (.isub, 1), (.putfield 348, 3), (.aload_n 0, 1), (.getfield 62, 3), (.iconst 0, 1), (.iload_n 1, 1), (.iastore, 1), (.aload_n 0, 1), (.getfield 65, 3), (.iconst 0, 1), (.iconst 0, 1), (.iastore, 1), (.aload_n 0, 1), (.getfield 68, 3), (.iconst 0, 1), (.iconst 0, 1), (.iastore, 1), (.return_, 1)]
set_option maxHeartbeats 4000000 in
set_option maxRecDepth 100000 in
theorem dt_M_feed : g_dc (g_b M_M_feed) 0 dl_M_feed = true := by decide +kernel
def M_M_cell : gM := (⟨"BandPressModel", "cell", "(II)I"⟩, prog_14_method_42_code, some .int, 4, { frames := 0, cells := 0, slots := 0, locals := 0 }, false, false, none)
def dl_M_cell : List (Instr × Nat) := [(.iload_n 1, 1), (.iconst 1, 1), (.iand, 1), (.ifCond .ne 17, 3), (.iload_n 0, 1), (.iconst 1, 1), (.iand, 1), (.ifCond .ne 7, 3), (.iconst 0, 1), (.goto 18, 3), (.iconst 2, 1), (.goto 14, 3), (.iload_n 0, 1), (.iconst 1, 1), (.iand, 1), (.ifCond .ne 7, 3), (.iconst 3, 1), (.goto 4, 3), (.iconst 1, 1), (.istore_n 2, 1), (.iload_n 1, 1), (.iconst 2, 1), (.iand, 1), (.ifCond .ne 17, 3), (.iload_n 0, 1), (.iconst 2, 1), (.iand, 1), (.ifCond .ne 7, 3), (.iconst 0, 1), (.goto 18, 3), (.iconst 2, 1), (.goto 14, 3), (.iload_n 0, 1), (.iconst 2, 1), (.iand, 1), (.ifCond .ne 7, 3), (.iconst 3, 1), (.goto 4, 3), (.iconst 1, 1), (.istore_n 3, 1), (.iconst 4, 1), (.iload_n 2, 1), (.imul, 1), (.iload_n 3, 1), (.iadd, 1), (.ireturn, 1)]
set_option maxHeartbeats 4000000 in
set_option maxRecDepth 100000 in
theorem dt_M_cell : g_dc (g_b M_M_cell) 0 dl_M_cell = true := by decide +kernel
def M_M_fill : gM := (⟨"BandPressModel", "fill", "(Z)V"⟩, prog_14_method_43_code, none, 3, { frames := 3, cells := 0, slots := 0, locals := 81 }, false, false, none)
def dl_M_fill : List (Instr × Nat) := [(.aload_n 0, 1), (.dup, 1), (.getfield 151, 3), (.aload_n 0, 1), (.iload_n 1, 1), (.invokevirtual 226, 3), (.iadd, 1), (.putfield 151, 3), (.iconst 0, 1), (.istore_n 2, 1), (.iload_n 2, 1), (.sipush 3072, 3), (.if_icmp .ge 53, 3), (.aload_n 0, 1), (.getfield 56, 3), (.iload_n 2, 1), (.baload, 1), (.ifCond .eq 38, 3), (.aload_n 0, 1), (.getfield 53, 3), (.sipush 24576, 3), (.iload_n 2, 1), (.iadd, 1), (.iload_n 2, 1), (.bipush 64, 2), (.irem, 1), (.iload_n 2, 1), (.bipush 64, 2), (.idiv, 1), (.invokestatic 297, 3), (.aload_n 0, 1), (.getfield 47, 3), (.iconst 4, 1), (.iaload, 1), (.if_icmp .ge 7, 3), (.iconst 1, 1), (.goto 4, 3), (.iconst 0, 1), (.bastore, 1), (.iinc 2 1, 3), (.goto (-54), 3), (.aload_n 0, 1), (.invokevirtual 154, 3), (.return_, 1)]
set_option maxHeartbeats 4000000 in
set_option maxRecDepth 100000 in
theorem dt_M_fill : g_dc (g_b M_M_fill) 0 dl_M_fill = true := by decide +kernel
def M_M_sidesOf : gM := (⟨"BandPressModel", "sidesOf", "()I"⟩, prog_14_method_59_code, some .int, 1, { frames := 0, cells := 0, slots := 0, locals := 0 }, false, false, none)
def dl_M_sidesOf : List (Instr × Nat) := [(.aload_n 0, 1), (.getfield 126, 3), (.ifCond .eq 7, 3), (.iconst 2, 1), (.goto 4, 3), (.iconst 1, 1), (.ireturn, 1)]
set_option maxHeartbeats 4000000 in
set_option maxRecDepth 100000 in
theorem dt_M_sidesOf : g_dc (g_b M_M_sidesOf) 0 dl_M_sidesOf = true := by decide +kernel
def M_M_goes : gM := (⟨"BandPressModel", "goes", "(I)Z"⟩, prog_14_method_60_code, some .boolean, 2, { frames := 1, cells := 0, slots := 0, locals := 20 }, false, false, none)
def dl_M_goes : List (Instr × Nat) := [(.aload_n 0, 1), (.getfield 62, 3), (.iload_n 1, 1), (.iaload, 1), (.iconst (-1), 1), (.if_icmp .eq 12, 3), (.aload_n 0, 1), (.getfield 77, 3), (.iload_n 1, 1), (.baload, 1), (.ifCond .eq 5, 3), (.iconst 0, 1), (.ireturn, 1), (.iload_n 1, 1), (.tableswitch 96 0 2 #[26, 51, 67], 26), (.aload_n 0, 1), (.getfield 62, 3), (.iconst 1, 1), (.iaload, 1), (.iconst (-1), 1), (.if_icmp .ne 16, 3), (.aload_n 0, 1), (.getfield 327, 3), (.bipush 80, 2), (.if_icmp .lt 7, 3), (.iconst 1, 1), (.goto 4, 3), (.iconst 0, 1), (.ireturn, 1), (.aload_n 0, 1), (.getfield 62, 3), (.iconst 2, 1), (.iaload, 1), (.iconst (-1), 1), (.if_icmp .ne 7, 3), (.iconst 1, 1), (.goto 4, 3), (.iconst 0, 1), (.ireturn, 1), (.aload_n 0, 1), (.getfield 65, 3), (.iconst 2, 1), (.iaload, 1), (.aload_n 0, 1), (.invokevirtual 330, 3), (.if_icmp .eq 13, 3), (.aload_n 0, 1), (.getfield 62, 3), (.iconst 3, 1), (.iaload, 1), (.iconst (-1), 1), (.if_icmp .ne 7, 3), (.iconst 1, 1), (.goto 4, 3), (.iconst 0, 1), (.ireturn, 1), (.aload_n 0, 1), (.getfield 62, 3), (.iconst 0, 1), (.iaload, 1), (.iconst (-1), 1), (.if_icmp .ne 7, 3), (.iconst 1, 1), (.goto 4, 3), (.iconst 0, 1), (.ireturn, 1)]
set_option maxHeartbeats 4000000 in
set_option maxRecDepth 100000 in
theorem dt_M_goes : g_dc (g_b M_M_goes) 0 dl_M_goes = true := by decide +kernel
def M_M_job : gM := (⟨"BandPressModel", "job", "(I)I"⟩, prog_14_method_45_code, some .int, 2, { frames := 0, cells := 0, slots := 0, locals := 0 }, false, false, none)
def dl_M_job : List (Instr × Nat) := [(.aload_n 0, 1), (.iconst 0, 1), (.putfield 83, 3), (.iload_n 1, 1), (.tableswitch 97 0 8 #[50, 55, 60, 65, 70, 75, 80, 85, 90], 50), (.aload_n 0, 1), (.getfield 107, 3), (.ireturn, 1), (.aload_n 0, 1), (.getfield 133, 3), (.ireturn, 1), (.aload_n 0, 1), (.getfield 136, 3), (.ireturn, 1), (.aload_n 0, 1), (.getfield 139, 3), (.ireturn, 1), (.aload_n 0, 1), (.getfield 142, 3), (.ireturn, 1), (.aload_n 0, 1), (.getfield 151, 3), (.ireturn, 1), (.aload_n 0, 1), (.getfield 145, 3), (.ireturn, 1), (.aload_n 0, 1), (.getfield 220, 3), (.ireturn, 1), (.aload_n 0, 1), (.getfield 47, 3), (.iconst 4, 1), (.iaload, 1), (.ireturn, 1), (.iconst (-1), 1), (.ireturn, 1)]
set_option maxHeartbeats 4000000 in
set_option maxRecDepth 100000 in
theorem dt_M_job : g_dc (g_b M_M_job) 0 dl_M_job = true := by decide +kernel
def M_M_load : gM := (⟨"BandPressModel", "load", "(I)I"⟩, prog_14_method_72_code, some .int, 2, { frames := 0, cells := 0, slots := 0, locals := 0 }, false, false, none)
def dl_M_load : List (Instr × Nat) := [(.aload_n 0, 1), (.iconst 0, 1), (.putfield 83, 3), (.iload_n 1, 1), (.iconst 1, 1), (.if_icmp .lt 22, 3), (.iload_n 1, 1), (.sipush 200, 3), (.if_icmp .gt 15, 3), (.aload_n 0, 1), (.getfield 348, 3), (.iload_n 1, 1), (.iadd, 1), (.sipush 500, 3), (.if_icmp .le 5, 3), (.iconst (-1), 1), (.ireturn, 1), (.aload_n 0, 1), (.dup, 1), (.getfield 348, 3), (.iload_n 1, 1), (.iadd, 1), (.putfield 348, 3), (.aload_n 0, 1), (.getfield 348, 3), (.ireturn, 1)]
set_option maxHeartbeats 4000000 in
set_option maxRecDepth 100000 in
theorem dt_M_load : g_dc (g_b M_M_load) 0 dl_M_load = true := by decide +kernel
def M_M_next : gM := (⟨"BandPressModel", "next", "()I"⟩, prog_14_method_10_code, some .int, 2, { frames := 0, cells := 0, slots := 0, locals := 0 }, false, false, none)
def dl_M_next : List (Instr × Nat) := [(.aload_n 0, 1), (.getfield 157, 3), (.ifCond .le 124, 3), (.aload_n 0, 1), (.getfield 157, 3), (.iconst 1, 1), (.isub, 1), (.istore_n 1, 1), (.aload_n 0, 1), (.getfield 26, 3), (.iload_n 1, 1), (.iaload, 1), (.aload_n 0, 1), (.getfield 29, 3), (.iload_n 1, 1), (.iaload, 1), (.if_icmp .ge 32, 3), (.aload_n 0, 1), (.getfield 13, 3), (.aload_n 0, 1), (.getfield 26, 3), (.iload_n 1, 1), (.iaload, 1), (.iaload, 1), (.bipush 32, 2), (.if_icmp .ne 16, 3), (.aload_n 0, 1), (.getfield 26, 3), (.iload_n 1, 1), (.dup2, 1), (.iaload, 1), (.iconst 1, 1), (.iadd, 1), (.iastore, 1), (.goto (-41), 3), (.aload_n 0, 1), (.getfield 26, 3), (.iload_n 1, 1), (.iaload, 1), (.aload_n 0, 1), (.getfield 29, 3), (.iload_n 1, 1), (.iaload, 1), (.if_icmp .ge 10, 3), (.aload_n 0, 1), (.getfield 26, 3), (.iload_n 1, 1), (.iaload, 1), (.ireturn, 1), (.aload_n 0, 1), (.getfield 35, 3), (.iload_n 1, 1), (.iaload, 1), (.iconst 1, 1), (.if_icmp .le 28, 3), (.aload_n 0, 1), (.getfield 35, 3), (.iload_n 1, 1), (.dup2, 1), (.iaload, 1), (.iconst 1, 1), (.isub, 1), (.iastore, 1), (.aload_n 0, 1), (.getfield 26, 3), (.iload_n 1, 1), (.aload_n 0, 1), (.getfield 32, 3), (.iload_n 1, 1), (.iaload, 1), (.iastore, 1), (.goto 13, 3), (.aload_n 0, 1), (.dup, 1), (.getfield 157, 3), (.iconst 1, 1), (.isub, 1), (.putfield 157, 3), (.goto (-125), 3), (.iconst (-1), 1), (.ireturn, 1)]
set_option maxHeartbeats 4000000 in
set_option maxRecDepth 100000 in
theorem dt_M_next : g_dc (g_b M_M_next) 0 dl_M_next = true := by decide +kernel
def M_M_octet : gM := (⟨"BandPressModel", "octet", "(III)I"⟩, prog_14_method_57_code, some .int, 4, { frames := 4, cells := 0, slots := 0, locals := 98 }, false, false, none)
def dl_M_octet : List (Instr × Nat) := [(.aload_n 0, 1), (.iconst 0, 1), (.putfield 83, 3), (.aload_n 0, 1), (.iload_n 1, 1), (.iload_n 2, 1), (.invokevirtual 324, 3), (.ifCond .eq 24, 3), (.iload_n 3, 1), (.ifCond .lt 20, 3), (.iload_n 3, 1), (.aload_n 0, 1), (.getfield 309, 3), (.if_icmp .ge 12, 3), (.aload_n 0, 1), (.getfield 59, 3), (.iload_n 3, 1), (.iaload, 1), (.goto 4, 3), (.iconst (-1), 1), (.ireturn, 1)]
set_option maxHeartbeats 4000000 in
set_option maxRecDepth 100000 in
theorem dt_M_octet : g_dc (g_b M_M_octet) 0 dl_M_octet = true := by decide +kernel
def M_M_swap : gM := (⟨"BandPressModel", "swap", "()V"⟩, prog_14_method_31_code, none, 3, { frames := 0, cells := 0, slots := 0, locals := 0 }, false, false, none)
def dl_M_swap : List (Instr × Nat) := [(.aload_n 0, 1), (.getfield 16, 3), (.aload_n 0, 1), (.getfield 145, 3), (.iconst 1, 1), (.isub, 1), (.iaload, 1), (.istore_n 1, 1), (.aload_n 0, 1), (.getfield 22, 3), (.aload_n 0, 1), (.getfield 145, 3), (.iconst 1, 1), (.isub, 1), (.baload, 1), (.istore_n 2, 1), (.aload_n 0, 1), (.getfield 16, 3), (.aload_n 0, 1), (.getfield 145, 3), (.iconst 1, 1), (.isub, 1), (.aload_n 0, 1), (.getfield 16, 3), (.aload_n 0, 1), (.getfield 145, 3), (.iconst 2, 1), (.isub, 1), (.iaload, 1), (.iastore, 1), (.aload_n 0, 1), (.getfield 22, 3), (.aload_n 0, 1), (.getfield 145, 3), (.iconst 1, 1), (.isub, 1), (.aload_n 0, 1), (.getfield 22, 3), (.aload_n 0, 1), (.getfield 145, 3), (.iconst 2, 1), (.isub, 1), (.baload, 1), (.bastore, 1), (.aload_n 0, 1), (.getfield 16, 3), (.aload_n 0, 1), (.getfield 145, 3), (.iconst 2, 1), (.isub, 1), (.iload_n 1, 1), (.iastore, 1), (.aload_n 0, 1), (.getfield 22, 3), (.aload_n 0, 1), (.getfield 145, 3), (.iconst 2, 1), (.isub, 1), (.iload_n 2, 1), (.bastore, 1), (.return_, 1)]
set_option maxHeartbeats 4000000 in
set_option maxRecDepth 100000 in
theorem dt_M_swap : g_dc (g_b M_M_swap) 0 dl_M_swap = true := by decide +kernel
def M_M_repeat : gM := (⟨"BandPressModel", "repeat", "()V"⟩, prog_14_method_32_code, none, 3, { frames := 1, cells := 0, slots := 0, locals := 23 }, false, false, none)
def dl_M_repeat : List (Instr × Nat) := [(.aload_n 0, 1), (.iconst 0, 1), (.invokevirtual 185, 3), (.istore_n 1, 1), (.aload_n 0, 1), (.iconst 1, 1), (.invokevirtual 185, 3), (.istore_n 2, 1), (.aload_n 0, 1), (.dup, 1), (.getfield 145, 3), (.iconst 2, 1), (.isub, 1), (.putfield 145, 3), (.iload_n 2, 1), (.ifCond .le 16, 3), (.aload_n 0, 1), (.iload_n 1, 1), (.iconst 1, 1), (.iadd, 1), (.aload_n 0, 1), (.iload_n 1, 1), (.invokevirtual 164, 3), (.iload_n 2, 1), (.invokevirtual 160, 3), (.return_, 1)]
set_option maxHeartbeats 4000000 in
set_option maxRecDepth 100000 in
theorem dt_M_repeat : g_dc (g_b M_M_repeat) 0 dl_M_repeat = true := by decide +kernel
def M_M_quit : gM := (⟨"BandPressModel", "quit", "()V"⟩, prog_14_method_33_code, none, 1, { frames := 0, cells := 0, slots := 0, locals := 0 }, false, false, none)
def dl_M_quit : List (Instr × Nat) := [(.aload_n 0, 1), (.getfield 35, 3), (.aload_n 0, 1), (.getfield 157, 3), (.iconst 1, 1), (.isub, 1), (.iaload, 1), (.iconst (-1), 1), (.if_icmp .ne 16, 3), (.aload_n 0, 1), (.dup, 1), (.getfield 157, 3), (.iconst 1, 1), (.isub, 1), (.putfield 157, 3), (.goto (-25), 3), (.aload_n 0, 1), (.dup, 1), (.getfield 157, 3), (.iconst 1, 1), (.isub, 1), (.putfield 157, 3), (.return_, 1)]
set_option maxHeartbeats 4000000 in
set_option maxRecDepth 100000 in
theorem dt_M_quit : g_dc (g_b M_M_quit) 0 dl_M_quit = true := by decide +kernel
def M_M_push : gM := (⟨"BandPressModel", "push", "(IZ)V"⟩, prog_14_method_16_code, none, 3, { frames := 0, cells := 0, slots := 0, locals := 0 }, false, false, none)
def dl_M_push : List (Instr × Nat) := [(.aload_n 0, 1), (.getfield 16, 3), (.aload_n 0, 1), (.getfield 145, 3), (.iload_n 1, 1), (.iastore, 1), (.aload_n 0, 1), (.getfield 22, 3), (.aload_n 0, 1), (.getfield 145, 3), (.iload_n 2, 1), (.bastore, 1), (.aload_n 0, 1), (.dup, 1), (.getfield 145, 3), (.iconst 1, 1), (.iadd, 1), (.putfield 145, 3), (.return_, 1)]
set_option maxHeartbeats 4000000 in
set_option maxRecDepth 100000 in
theorem dt_M_push : g_dc (g_b M_M_push) 0 dl_M_push = true := by decide +kernel
def M_M_state : gM := (⟨"BandPressModel", "state", "(I)V"⟩, prog_14_method_34_code, none, 7, { frames := 2, cells := 0, slots := 0, locals := 42 }, false, false, none)
def dl_M_state : List (Instr × Nat) := [(.iload_n 1, 1), (.lookupswitch 363 #[(71, 157), (83, 102), (84, 51), (85, 185), (86, 274)], 51), (.aload_n 0, 1), (.aload_n 0, 1), (.iconst 1, 1), (.invokevirtual 185, 3), (.invokevirtual 188, 3), (.lstore_n 2, 1), (.aload_n 0, 1), (.aload_n 0, 1), (.iconst 0, 1), (.invokevirtual 185, 3), (.invokevirtual 197, 3), (.lstore 4, 2), (.aload_n 0, 1), (.getfield 47, 3), (.iconst 2, 1), (.lload_n 2, 1), (.l2i, 1), (.iastore, 1), (.aload_n 0, 1), (.getfield 47, 3), (.iconst 3, 1), (.lload 4, 2), (.l2i, 1), (.iastore, 1), (.aload_n 0, 1), (.dup, 1), (.getfield 145, 3), (.iconst 2, 1), (.isub, 1), (.putfield 145, 3), (.goto 339, 3), (.aload_n 0, 1), (.getfield 47, 3), (.iconst 0, 1), (.aload_n 0, 1), (.getfield 47, 3), (.iconst 0, 1), (.iaload, 1), (.aload_n 0, 1), (.iconst 1, 1), (.invokevirtual 185, 3), (.invokestatic 181, 3), (.l2i, 1), (.iastore, 1), (.aload_n 0, 1), (.getfield 47, 3), (.iconst 1, 1), (.aload_n 0, 1), (.getfield 47, 3), (.iconst 1, 1), (.iaload, 1), (.aload_n 0, 1), (.iconst 0, 1), (.invokevirtual 185, 3), (.invokestatic 181, 3), (.l2i, 1), (.iastore, 1), (.aload_n 0, 1), (.dup, 1), (.getfield 145, 3), (.iconst 2, 1), (.isub, 1), (.putfield 145, 3), (.goto 284, 3), (.aload_n 0, 1), (.dup, 1), (.getfield 145, 3), (.iconst 1, 1), (.isub, 1), (.putfield 145, 3), (.aload_n 0, 1), (.getfield 47, 3), (.iconst 4, 1), (.aload_n 0, 1), (.getfield 16, 3), (.aload_n 0, 1), (.getfield 145, 3), (.iaload, 1), (.iastore, 1), (.goto 256, 3), (.aload_n 0, 1), (.dup, 1), (.getfield 148, 3), (.iconst 1, 1), (.iadd, 1), (.putfield 148, 3), (.iconst 0, 1), (.istore 6, 2), (.iload 6, 2), (.iconst 5, 1), (.if_icmp .ge 30, 3), (.aload_n 0, 1), (.getfield 47, 3), (.iconst 5, 1), (.aload_n 0, 1), (.getfield 148, 3), (.imul, 1), (.iload 6, 2), (.iadd, 1), (.aload_n 0, 1), (.getfield 47, 3), (.iload 6, 2), (.iaload, 1), (.iastore, 1), (.iinc 6 1, 3), (.goto (-30), 3), (.iconst 0, 1), (.istore 6, 2), (.iload 6, 2), (.sipush 3072, 3), (.if_icmp .ge 32, 3), (.aload_n 0, 1), (.getfield 50, 3), (.sipush 3072, 3), (.aload_n 0, 1), (.getfield 148, 3), (.imul, 1), (.iload 6, 2), (.iadd, 1), (.aload_n 0, 1), (.getfield 50, 3), (.iload 6, 2), (.baload, 1), (.bastore, 1), (.iinc 6 1, 3), (.goto (-34), 3), (.goto 167, 3), (.iconst 0, 1), (.istore 6, 2), (.iload 6, 2), (.iconst 5, 1), (.if_icmp .ge 30, 3), (.aload_n 0, 1), (.getfield 47, 3), (.iload 6, 2), (.aload_n 0, 1), (.getfield 47, 3), (.iconst 5, 1), (.aload_n 0, 1), (.getfield 148, 3), (.imul, 1), (.iload 6, 2), (.iadd, 1), (.iaload, 1), (.iastore, 1), (.iinc 6 1, 3), (.goto (-30), 3), (.iconst 0, 1), (.istore 6, 2), (.iload 6, 2), (.sipush 3072, 3), (.if_icmp .ge 32, 3), (.aload_n 0, 1), (.getfield 50, 3), (.iload 6, 2), (.aload_n 0, 1), (.getfield 50, 3), (.sipush 3072, 3), (.aload_n 0, 1), (.getfield 148, 3), (.imul, 1), (.iload 6, 2), (.iadd, 1), (.baload, 1), (.bastore, 1), (.iinc 6 1, 3), (.goto (-34), 3), (.aload_n 0, 1), (.dup, 1), (.getfield 148, 3), (.iconst 1, 1), (.isub, 1), (.putfield 148, 3), (.goto 78, 3), (.iconst 0, 1), (.istore 6, 2), (.iload 6, 2), (.sipush 3072, 3), (.if_icmp .ge 48, 3), (.aload_n 0, 1), (.getfield 53, 3), (.sipush 3072, 3), (.aload_n 0, 1), (.getfield 139, 3), (.imul, 1), (.iload 6, 2), (.iadd, 1), (.aload_n 0, 1), (.getfield 53, 3), (.sipush 24576, 3), (.iload 6, 2), (.iadd, 1), (.baload, 1), (.bastore, 1), (.aload_n 0, 1), (.getfield 53, 3), (.sipush 24576, 3), (.iload 6, 2), (.iadd, 1), (.iconst 0, 1), (.bastore, 1), (.iinc 6 1, 3), (.goto (-50), 3), (.aload_n 0, 1), (.dup, 1), (.getfield 139, 3), (.iconst 1, 1), (.iadd, 1), (.putfield 139, 3), (.aload_n 0, 1), (.iconst 0, 1), (.putfield 151, 3), (.aload_n 0, 1), (.invokevirtual 154, 3), (.return_, 1)]
set_option maxHeartbeats 4000000 in
set_option maxRecDepth 100000 in
theorem dt_M_state : g_dc (g_b M_M_state) 0 dl_M_state = true := by decide +kernel
def M_M_order : gM := (⟨"BandPressModel", "order", "(I)V"⟩, prog_14_method_30_code, none, 2, { frames := 4, cells := 0, slots := 0, locals := 105 }, false, false, none)
def dl_M_order : List (Instr × Nat) := [(.iload_n 1, 1), (.tableswitch 418 67 126 #[344, 281, 393, 393, 418, 418, 418, 418, 418, 344, 344, 386, 310, 418, 337, 330, 418, 418, 418, 418, 411, 323, 418, 352, 418, 418, 418, 418, 418, 418, 418, 418, 418, 418, 418, 418, 418, 418, 418, 418, 418, 418, 418, 418, 418, 418, 418, 418, 418, 418, 418, 418, 418, 418, 418, 418, 418, 418, 418, 255], 255), (.aload_n 0, 1), (.getfield 16, 3), (.aload_n 0, 1), (.getfield 145, 3), (.iconst 1, 1), (.isub, 1), (.aload_n 0, 1), (.getfield 16, 3), (.aload_n 0, 1), (.getfield 145, 3), (.iconst 1, 1), (.isub, 1), (.iaload, 1), (.ineg, 1), (.iastore, 1), (.goto 145, 3), (.aload_n 0, 1), (.aload_n 0, 1), (.getfield 16, 3), (.aload_n 0, 1), (.getfield 145, 3), (.iconst 1, 1), (.isub, 1), (.iaload, 1), (.aload_n 0, 1), (.getfield 22, 3), (.aload_n 0, 1), (.getfield 145, 3), (.iconst 1, 1), (.isub, 1), (.baload, 1), (.invokevirtual 237, 3), (.goto 116, 3), (.aload_n 0, 1), (.dup, 1), (.getfield 145, 3), (.iconst 1, 1), (.isub, 1), (.putfield 145, 3), (.goto 103, 3), (.aload_n 0, 1), (.invokevirtual 247, 3), (.goto 96, 3), (.aload_n 0, 1), (.invokevirtual 250, 3), (.goto 89, 3), (.aload_n 0, 1), (.invokevirtual 253, 3), (.goto 82, 3), (.aload_n 0, 1), (.iload_n 1, 1), (.invokevirtual 256, 3), (.goto 74, 3), (.aload_n 0, 1), (.getfield 203, 3), (.ifCond .eq 6, 3), (.goto 64, 3), (.aload_n 0, 1), (.iconst 1, 1), (.putfield 203, 3), (.aload_n 0, 1), (.aload_n 0, 1), (.getfield 259, 3), (.putfield 262, 3), (.aload_n 0, 1), (.aload_n 0, 1), (.getfield 265, 3), (.putfield 268, 3), (.goto 40, 3), (.aload_n 0, 1), (.invokevirtual 154, 3), (.goto 33, 3), (.aload_n 0, 1), (.iload_n 1, 1), (.bipush 70, 2), (.if_icmp .ne 7, 3), (.iconst 1, 1), (.goto 4, 3), (.iconst 0, 1), (.invokevirtual 271, 3), (.goto 15, 3), (.aload_n 0, 1), (.invokevirtual 275, 3), (.goto 8, 3), (.aload_n 0, 1), (.iload_n 1, 1), (.invokevirtual 278, 3), (.return_, 1)]
set_option maxHeartbeats 4000000 in
set_option maxRecDepth 100000 in
theorem dt_M_order : g_dc (g_b M_M_order) 0 dl_M_order = true := by decide +kernel
def M_M_out1 : gM := (⟨"BandPressModel", "out", "(II)I"⟩, prog_14_method_75_code, some .int, 6, { frames := 0, cells := 0, slots := 0, locals := 0 }, false, false, none)
def dl_M_out1 : List (Instr × Nat) := [(.aload_n 0, 1), (.iconst 0, 1), (.putfield 83, 3), (.iload_n 1, 1), (.ifCond .lt 20, 3), (.iload_n 1, 1), (.aload_n 0, 1), (.getfield 110, 3), (.if_icmp .ge 12, 3), (.iload_n 2, 1), (.ifCond .lt 8, 3), (.iload_n 2, 1), (.iconst 3, 1), (.if_icmp .le 5, 3), (.iconst (-1), 1), (.ireturn, 1), (.aload_n 0, 1), (.getfield 71, 3), (.iload_n 1, 1), (.iaload, 1), (.istore_n 3, 1), (.aload_n 0, 1), (.getfield 113, 3), (.aload_n 0, 1), (.getfield 123, 3), (.idiv, 1), (.istore 4, 2), (.aload_n 0, 1), (.getfield 126, 3), (.ifCond .eq 12, 3), (.iload_n 3, 1), (.iload 4, 2), (.irem, 1), (.iconst 2, 1), (.imul, 1), (.goto 7, 3), (.iload_n 3, 1), (.iload 4, 2), (.irem, 1), (.istore 5, 2), (.iload_n 2, 1), (.ifCond .ne 7, 3), (.iload_n 3, 1), (.goto 51, 3), (.iload_n 2, 1), (.iconst 1, 1), (.if_icmp .ne 10, 3), (.iload_n 3, 1), (.iload 4, 2), (.idiv, 1), (.goto 39, 3), (.iload_n 2, 1), (.iconst 2, 1), (.if_icmp .ne 8, 3), (.iload 5, 2), (.goto 29, 3), (.aload_n 0, 1), (.getfield 126, 3), (.ifCond .eq 21, 3), (.iload 5, 2), (.iconst 1, 1), (.iadd, 1), (.aload_n 0, 1), (.getfield 139, 3), (.if_icmp .ge 10, 3), (.iload 5, 2), (.iconst 1, 1), (.iadd, 1), (.goto 4, 3), (.iconst (-1), 1), (.ireturn, 1)]
set_option maxHeartbeats 4000000 in
set_option maxRecDepth 100000 in
theorem dt_M_out1 : g_dc (g_b M_M_out1) 0 dl_M_out1 = true := by decide +kernel
def M_M_isPixel : gM := (⟨"BandPressModel", "isPixel", "(II)Z"⟩, prog_14_method_48_code, some .boolean, 2, { frames := 0, cells := 0, slots := 0, locals := 0 }, false, false, none)
def dl_M_isPixel : List (Instr × Nat) := [(.iload_n 0, 1), (.ifCond .lt 23, 3), (.iload_n 0, 1), (.bipush 64, 2), (.if_icmp .ge 17, 3), (.iload_n 1, 1), (.ifCond .lt 13, 3), (.iload_n 1, 1), (.bipush 48, 2), (.if_icmp .ge 7, 3), (.iconst 1, 1), (.goto 4, 3), (.iconst 0, 1), (.ireturn, 1)]
set_option maxHeartbeats 4000000 in
set_option maxRecDepth 100000 in
theorem dt_M_isPixel : g_dc (g_b M_M_isPixel) 0 dl_M_isPixel = true := by decide +kernel
def M_M_pixel : gM := (⟨"BandPressModel", "pixel", "(III)Z"⟩, prog_14_method_49_code, some .boolean, 4, { frames := 1, cells := 0, slots := 0, locals := 21 }, false, false, none)
def dl_M_pixel : List (Instr × Nat) := [(.aload_n 0, 1), (.iconst 0, 1), (.putfield 83, 3), (.iload_n 1, 1), (.iconst (-1), 1), (.if_icmp .lt 53, 3), (.iload_n 1, 1), (.aload_n 0, 1), (.getfield 139, 3), (.if_icmp .ge 45, 3), (.iload_n 2, 1), (.iload_n 3, 1), (.invokestatic 302, 3), (.ifCond .eq 37, 3), (.aload_n 0, 1), (.getfield 53, 3), (.sipush 3072, 3), (.iload_n 1, 1), (.iconst (-1), 1), (.if_icmp .ne 8, 3), (.bipush 8, 2), (.goto 4, 3), (.iload_n 1, 1), (.imul, 1), (.bipush 64, 2), (.iload_n 3, 1), (.imul, 1), (.iadd, 1), (.iload_n 2, 1), (.iadd, 1), (.baload, 1), (.ifCond .eq 7, 3), (.iconst 1, 1), (.goto 4, 3), (.iconst 0, 1), (.ireturn, 1)]
set_option maxHeartbeats 4000000 in
set_option maxRecDepth 100000 in
theorem dt_M_pixel : g_dc (g_b M_M_pixel) 0 dl_M_pixel = true := by decide +kernel
def M_M_stateOf : gM := (⟨"BandPressModel", "stateOf", "()I"⟩, prog_14_method_67_code, some .int, 1, { frames := 1, cells := 0, slots := 0, locals := 22 }, false, false, none)
def dl_M_stateOf : List (Instr × Nat) := [(.aload_n 0, 1), (.getfield 354, 3), (.ifCond .eq 5, 3), (.iconst 5, 1), (.ireturn, 1), (.aload_n 0, 1), (.getfield 357, 3), (.ifCond .eq 5, 3), (.iconst 3, 1), (.ireturn, 1), (.aload_n 0, 1), (.getfield 110, 3), (.aload_n 0, 1), (.getfield 113, 3), (.if_icmp .lt 5, 3), (.iconst 0, 1), (.ireturn, 1), (.aload_n 0, 1), (.invokevirtual 345, 3), (.ifCond .ne 14, 3), (.aload_n 0, 1), (.getfield 348, 3), (.ifCond .ne 7, 3), (.iconst 4, 1), (.goto 17, 3), (.aload_n 0, 1), (.getfield 327, 3), (.bipush 80, 2), (.if_icmp .ge 7, 3), (.iconst 1, 1), (.goto 4, 3), (.iconst 2, 1), (.ireturn, 1)]
set_option maxHeartbeats 4000000 in
set_option maxRecDepth 100000 in
theorem dt_M_stateOf : g_dc (g_b M_M_stateOf) 0 dl_M_stateOf = true := by decide +kernel
def M_M_press : gM := (⟨"BandPressModel", "press", "(I)I"⟩, prog_14_method_76_code, some .int, 2, { frames := 2, cells := 0, slots := 0, locals := 42 }, false, false, none)
def dl_M_press : List (Instr × Nat) := [(.aload_n 0, 1), (.iconst 0, 1), (.putfield 83, 3), (.iload_n 1, 1), (.tableswitch 89 0 6 #[42, 47, 52, 57, 62, 79, 84], 42), (.aload_n 0, 1), (.invokevirtual 372, 3), (.ireturn, 1), (.aload_n 0, 1), (.getfield 327, 3), (.ireturn, 1), (.aload_n 0, 1), (.getfield 348, 3), (.ireturn, 1), (.aload_n 0, 1), (.getfield 110, 3), (.ireturn, 1), (.aload_n 0, 1), (.getfield 107, 3), (.iconst 2, 1), (.if_icmp .ne 10, 3), (.aload_n 0, 1), (.getfield 113, 3), (.goto 4, 3), (.iconst 0, 1), (.ireturn, 1), (.aload_n 0, 1), (.getfield 351, 3), (.ireturn, 1), (.aload_n 0, 1), (.getfield 366, 3), (.ireturn, 1), (.iconst (-1), 1), (.ireturn, 1)]
set_option maxHeartbeats 4000000 in
set_option maxRecDepth 100000 in
theorem dt_M_press : g_dc (g_b M_M_press) 0 dl_M_press = true := by decide +kernel
def M_M_reckon : gM := (⟨"BandPressModel", "reckon", "(I)V"⟩, prog_14_method_29_code, none, 5, { frames := 3, cells := 0, slots := 0, locals := 66 }, false, false, none)
def dl_M_reckon : List (Instr × Nat) := [(.iload_n 1, 1), (.bipush 63, 2), (.if_icmp .ne 49, 3), (.aload_n 0, 1), (.iconst 2, 1), (.invokevirtual 185, 3), (.ifCond .eq 11, 3), (.aload_n 0, 1), (.iconst 1, 1), (.invokevirtual 185, 3), (.goto 8, 3), (.aload_n 0, 1), (.iconst 0, 1), (.invokevirtual 185, 3), (.istore_n 2, 1), (.aload_n 0, 1), (.dup, 1), (.getfield 145, 3), (.iconst 3, 1), (.isub, 1), (.putfield 145, 3), (.aload_n 0, 1), (.iload_n 2, 1), (.iconst 1, 1), (.iadd, 1), (.aload_n 0, 1), (.iload_n 2, 1), (.invokevirtual 164, 3), (.iconst (-1), 1), (.invokevirtual 160, 3), (.return_, 1), (.aload_n 0, 1), (.getfield 145, 3), (.iconst 1, 1), (.if_icmp .le 11, 3), (.aload_n 0, 1), (.iconst 1, 1), (.invokevirtual 185, 3), (.goto 4, 3), (.iconst 0, 1), (.istore_n 2, 1), (.aload_n 0, 1), (.iconst 0, 1), (.invokevirtual 185, 3), (.istore_n 3, 1), (.aload_n 0, 1), (.iload_n 1, 1), (.invokevirtual 210, 3), (.l2i, 1), (.istore 4, 2), (.aload_n 0, 1), (.dup, 1), (.getfield 145, 3), (.iload_n 1, 1), (.invokestatic 103, 3), (.isub, 1), (.putfield 145, 3), (.iload_n 1, 1), (.lookupswitch 81 #[(37, 34), (60, 45), (61, 63)], 34), (.aload_n 0, 1), (.iload_n 2, 1), (.iload_n 3, 1), (.irem, 1), (.iconst 0, 1), (.invokevirtual 237, 3), (.goto 46, 3), (.aload_n 0, 1), (.iload_n 2, 1), (.iload_n 3, 1), (.if_icmp .ge 7, 3), (.iconst 1, 1), (.goto 4, 3), (.iconst 0, 1), (.iconst 0, 1), (.invokevirtual 237, 3), (.goto 28, 3), (.aload_n 0, 1), (.iload_n 2, 1), (.iload_n 3, 1), (.if_icmp .ne 7, 3), (.iconst 1, 1), (.goto 4, 3), (.iconst 0, 1), (.iconst 0, 1), (.invokevirtual 237, 3), (.goto 10, 3), (.aload_n 0, 1), (.iload 4, 2), (.iconst 0, 1), (.invokevirtual 237, 3), (.return_, 1)]
set_option maxHeartbeats 4000000 in
set_option maxRecDepth 100000 in
theorem dt_M_reckon : g_dc (g_b M_M_reckon) 0 dl_M_reckon = true := by decide +kernel
def M_M_wordLong : gM := (⟨"BandPressModel", "wordLong", "(I)I"⟩, prog_14_method_12_code, some .int, 3, { frames := 1, cells := 0, slots := 0, locals := 23 }, false, false, none)
def dl_M_wordLong : List (Instr × Nat) := [(.aload_n 0, 1), (.getfield 13, 3), (.iload_n 1, 1), (.iaload, 1), (.bipush 123, 2), (.if_icmp .ne 13, 3), (.aload_n 0, 1), (.iload_n 1, 1), (.invokevirtual 164, 3), (.iload_n 1, 1), (.isub, 1), (.iconst 1, 1), (.iadd, 1), (.ireturn, 1), (.aload_n 0, 1), (.getfield 13, 3), (.iload_n 1, 1), (.iaload, 1), (.bipush 58, 2), (.if_icmp .ne 5, 3), (.iconst 2, 1), (.ireturn, 1), (.iconst 1, 1), (.istore_n 2, 1), (.aload_n 0, 1), (.getfield 13, 3), (.iload_n 1, 1), (.iaload, 1), (.invokestatic 96, 3), (.ifCond .eq 33, 3), (.iload_n 1, 1), (.iload_n 2, 1), (.iadd, 1), (.aload_n 0, 1), (.getfield 120, 3), (.if_icmp .ge 23, 3), (.aload_n 0, 1), (.getfield 13, 3), (.iload_n 1, 1), (.iload_n 2, 1), (.iadd, 1), (.iaload, 1), (.invokestatic 96, 3), (.ifCond .eq 9, 3), (.iinc 2 1, 3), (.goto (-39), 3), (.iload_n 2, 1), (.ireturn, 1)]
set_option maxHeartbeats 4000000 in
set_option maxRecDepth 100000 in
theorem dt_M_wordLong : g_dc (g_b M_M_wordLong) 0 dl_M_wordLong = true := by decide +kernel
def M_M_step : gM := (⟨"BandPressModel", "step", "(I)V"⟩, prog_14_method_28_code, none, 6, { frames := 5, cells := 0, slots := 0, locals := 126 }, false, false, none)
def dl_M_step : List (Instr × Nat) := [(.aload_n 0, 1), (.getfield 13, 3), (.iload_n 1, 1), (.iaload, 1), (.istore_n 2, 1), (.aload_n 0, 1), (.iload_n 2, 1), (.invokevirtual 174, 3), (.istore_n 3, 1), (.iload_n 3, 1), (.ifCond .le 10, 3), (.aload_n 0, 1), (.iload_n 3, 1), (.iload_n 1, 1), (.invokevirtual 170, 3), (.return_, 1), (.aload_n 0, 1), (.dup, 1), (.getfield 142, 3), (.iconst 1, 1), (.iadd, 1), (.putfield 142, 3), (.aload_n 0, 1), (.getfield 26, 3), (.aload_n 0, 1), (.getfield 157, 3), (.iconst 1, 1), (.isub, 1), (.iload_n 1, 1), (.aload_n 0, 1), (.iload_n 1, 1), (.invokevirtual 234, 3), (.iadd, 1), (.iastore, 1), (.iload_n 2, 1), (.invokestatic 96, 3), (.ifCond .eq 55, 3), (.iconst 0, 1), (.istore 4, 2), (.iconst 0, 1), (.istore 5, 2), (.iload 5, 2), (.aload_n 0, 1), (.iload_n 1, 1), (.invokevirtual 234, 3), (.if_icmp .ge 29, 3), (.bipush 10, 2), (.iload 4, 2), (.imul, 1), (.aload_n 0, 1), (.getfield 13, 3), (.iload_n 1, 1), (.iload 5, 2), (.iadd, 1), (.iaload, 1), (.iadd, 1), (.bipush 48, 2), (.isub, 1), (.istore 4, 2), (.iinc 5 1, 3), (.goto (-33), 3), (.aload_n 0, 1), (.iload 4, 2), (.iconst 0, 1), (.invokevirtual 237, 3), (.goto 112, 3), (.iload_n 2, 1), (.invokestatic 100, 3), (.ifCond .eq 20, 3), (.aload_n 0, 1), (.aload_n 0, 1), (.getfield 19, 3), (.iload_n 2, 1), (.bipush 97, 2), (.isub, 1), (.iaload, 1), (.iconst 0, 1), (.invokevirtual 237, 3), (.goto 88, 3), (.iload_n 2, 1), (.bipush 123, 2), (.if_icmp .ne 12, 3), (.aload_n 0, 1), (.iload_n 1, 1), (.iconst 1, 1), (.invokevirtual 237, 3), (.goto 73, 3), (.iload_n 2, 1), (.bipush 58, 2), (.if_icmp .ne 41, 3), (.aload_n 0, 1), (.dup, 1), (.getfield 145, 3), (.iconst 1, 1), (.isub, 1), (.putfield 145, 3), (.aload_n 0, 1), (.getfield 19, 3), (.aload_n 0, 1), (.getfield 13, 3), (.iload_n 1, 1), (.iconst 1, 1), (.iadd, 1), (.iaload, 1), (.bipush 97, 2), (.isub, 1), (.aload_n 0, 1), (.getfield 16, 3), (.aload_n 0, 1), (.getfield 145, 3), (.iaload, 1), (.iastore, 1), (.goto 29, 3), (.iload_n 2, 1), (.invokestatic 103, 3), (.ifCond .le 17, 3), (.iload_n 2, 1), (.bipush 65, 2), (.if_icmp .ge 11, 3), (.aload_n 0, 1), (.iload_n 2, 1), (.invokevirtual 241, 3), (.goto 8, 3), (.aload_n 0, 1), (.iload_n 2, 1), (.invokevirtual 244, 3), (.return_, 1)]
set_option maxHeartbeats 4000000 in
set_option maxRecDepth 100000 in
theorem dt_M_step : g_dc (g_b M_M_step) 0 dl_M_step = true := by decide +kernel
def M_M_run : gM := (⟨"BandPressModel", "run", "(I)I"⟩, prog_14_method_14_code, some .int, 5, { frames := 6, cells := 0, slots := 0, locals := 151 }, false, false, none)
def dl_M_run : List (Instr × Nat) := [(.aload_n 0, 1), (.aload_n 0, 1), (.getfield 107, 3), (.iconst 1, 1), (.if_icmp .eq 7, 3), (.iconst 1, 1), (.goto 20, 3), (.iload_n 1, 1), (.iconst 1, 1), (.if_icmp .lt 10, 3), (.iload_n 1, 1), (.sipush 5000, 3), (.if_icmp .le 7, 3), (.iconst 2, 1), (.goto 4, 3), (.iconst 0, 1), (.putfield 83, 3), (.aload_n 0, 1), (.getfield 83, 3), (.ifCond .eq 5, 3), (.iconst 0, 1), (.ireturn, 1), (.iload_n 1, 1), (.istore_n 2, 1), (.aload_n 0, 1), (.invokevirtual 167, 3), (.istore_n 3, 1), (.aload_n 0, 1), (.getfield 107, 3), (.iconst 1, 1), (.if_icmp .ne 97, 3), (.iload_n 3, 1), (.iconst (-1), 1), (.if_icmp .eq 7, 3), (.iload_n 2, 1), (.ifCond .le 88, 3), (.iload_n 3, 1), (.iconst (-1), 1), (.if_icmp .ne 12, 3), (.aload_n 0, 1), (.iconst 0, 1), (.iconst 0, 1), (.invokevirtual 170, 3), (.goto (-28), 3), (.aload_n 0, 1), (.getfield 142, 3), (.aload_n 0, 1), (.getfield 130, 3), (.if_icmp .ne 35, 3), (.aload_n 0, 1), (.aload_n 0, 1), (.getfield 13, 3), (.iload_n 3, 1), (.iaload, 1), (.invokevirtual 174, 3), (.istore 4, 2), (.aload_n 0, 1), (.iload 4, 2), (.ifCond .le 8, 3), (.iload 4, 2), (.goto 5, 3), (.bipush 12, 2), (.iload_n 3, 1), (.invokevirtual 170, 3), (.goto (-71), 3), (.aload_n 0, 1), (.iload_n 3, 1), (.invokevirtual 177, 3), (.iinc 2 (-1), 3), (.aload_n 0, 1), (.getfield 107, 3), (.iconst 1, 1), (.if_icmp .ne 10, 3), (.aload_n 0, 1), (.invokevirtual 167, 3), (.goto 4, 3), (.iconst (-1), 1), (.istore_n 3, 1), (.goto (-99), 3), (.aload_n 0, 1), (.getfield 107, 3), (.iconst 1, 1), (.if_icmp .ne 7, 3), (.iconst 0, 1), (.goto 15, 3), (.aload_n 0, 1), (.getfield 133, 3), (.ifCond .ne 7, 3), (.iconst 1, 1), (.goto 4, 3), (.iconst 2, 1), (.ireturn, 1)]
set_option maxHeartbeats 4000000 in
set_option maxRecDepth 100000 in
theorem dt_M_run : g_dc (g_b M_M_run) 0 dl_M_run = true := by decide +kernel
def M_M_isSection : gM := (⟨"BandPressModel", "isSection", "(I)Z"⟩, prog_14_method_69_code, some .boolean, 1, { frames := 0, cells := 0, slots := 0, locals := 0 }, false, false, none)
def dl_M_isSection : List (Instr × Nat) := [(.iload_n 0, 1), (.ifCond .lt 12, 3), (.iload_n 0, 1), (.iconst 4, 1), (.if_icmp .ge 7, 3), (.iconst 1, 1), (.goto 4, 3), (.iconst 0, 1), (.ireturn, 1)]
set_option maxHeartbeats 4000000 in
set_option maxRecDepth 100000 in
theorem dt_M_isSection : g_dc (g_b M_M_isSection) 0 dl_M_isSection = true := by decide +kernel
def M_M_section : gM := (⟨"BandPressModel", "section", "(II)I"⟩, prog_14_method_74_code, some .int, 3, { frames := 1, cells := 0, slots := 0, locals := 20 }, false, false, none)
def dl_M_section : List (Instr × Nat) := [(.aload_n 0, 1), (.iconst 0, 1), (.putfield 83, 3), (.iload_n 1, 1), (.invokestatic 375, 3), (.ifCond .ne 5, 3), (.iconst (-1), 1), (.ireturn, 1), (.iload_n 2, 1), (.tableswitch 54 0 2 #[25, 32, 39], 25), (.aload_n 0, 1), (.getfield 62, 3), (.iload_n 1, 1), (.iaload, 1), (.ireturn, 1), (.aload_n 0, 1), (.getfield 65, 3), (.iload_n 1, 1), (.iaload, 1), (.ireturn, 1), (.aload_n 0, 1), (.getfield 74, 3), (.iload_n 1, 1), (.baload, 1), (.ifCond .eq 7, 3), (.iconst 1, 1), (.goto 4, 3), (.iconst 0, 1), (.ireturn, 1), (.iconst (-1), 1), (.ireturn, 1)]
set_option maxHeartbeats 4000000 in
set_option maxRecDepth 100000 in
theorem dt_M_section : g_dc (g_b M_M_section) 0 dl_M_section = true := by decide +kernel
def M_M_shift : gM := (⟨"BandPressModel", "shift", "(II)V"⟩, prog_14_method_61_code, none, 3, { frames := 1, cells := 0, slots := 0, locals := 21 }, false, false, none)
def dl_M_shift : List (Instr × Nat) := [(.aload_n 0, 1), (.getfield 62, 3), (.iload_n 2, 1), (.aload_n 0, 1), (.getfield 62, 3), (.iload_n 1, 1), (.iaload, 1), (.iastore, 1), (.aload_n 0, 1), (.getfield 65, 3), (.iload_n 2, 1), (.aload_n 0, 1), (.getfield 65, 3), (.iload_n 1, 1), (.iaload, 1), (.iastore, 1), (.aload_n 0, 1), (.getfield 68, 3), (.iload_n 2, 1), (.iconst 0, 1), (.iastore, 1), (.aload_n 0, 1), (.getfield 77, 3), (.iload_n 2, 1), (.iconst 1, 1), (.bastore, 1), (.aload_n 0, 1), (.iload_n 1, 1), (.invokevirtual 333, 3), (.return_, 1)]
set_option maxHeartbeats 4000000 in
set_option maxRecDepth 100000 in
theorem dt_M_shift : g_dc (g_b M_M_shift) 0 dl_M_shift = true := by decide +kernel
def M_M_start : gM := (⟨"BandPressModel", "start", "(IZI)I"⟩, prog_14_method_8_code, some .int, 6, { frames := 3, cells := 0, slots := 0, locals := 64 }, false, false, none)
def dl_M_start : List (Instr × Nat) := [(.aload_n 0, 1), (.iconst 0, 1), (.putfield 83, 3), (.iload_n 1, 1), (.iconst 1, 1), (.if_icmp .lt 39, 3), (.iload_n 1, 1), (.iconst 4, 1), (.if_icmp .gt 34, 3), (.iload_n 3, 1), (.iconst 1, 1), (.if_icmp .lt 29, 3), (.iload_n 3, 1), (.sipush 20000, 3), (.if_icmp .gt 22, 3), (.aload_n 0, 1), (.getfield 107, 3), (.iconst 1, 1), (.if_icmp .eq 14, 3), (.aload_n 0, 1), (.getfield 110, 3), (.aload_n 0, 1), (.getfield 113, 3), (.if_icmp .ge 5, 3), (.iconst (-1), 1), (.ireturn, 1), (.aload_n 0, 1), (.invokevirtual 116, 3), (.istore 4, 2), (.iload 4, 2), (.iconst (-1), 1), (.if_icmp .eq 13, 3), (.aload_n 0, 1), (.iconst 0, 1), (.putfield 87, 3), (.iconst 1, 1), (.iload 4, 2), (.iadd, 1), (.ireturn, 1), (.aload_n 0, 1), (.aload_n 0, 1), (.getfield 87, 3), (.putfield 120, 3), (.aload_n 0, 1), (.iconst 0, 1), (.putfield 87, 3), (.iconst 0, 1), (.istore 5, 2), (.iload 5, 2), (.aload_n 0, 1), (.getfield 120, 3), (.if_icmp .ge 23, 3), (.aload_n 0, 1), (.getfield 13, 3), (.iload 5, 2), (.aload_n 0, 1), (.getfield 7, 3), (.iload 5, 2), (.iaload, 1), (.iastore, 1), (.iinc 5 1, 3), (.goto (-26), 3), (.aload_n 0, 1), (.iload_n 1, 1), (.putfield 123, 3), (.aload_n 0, 1), (.iload_n 2, 1), (.putfield 126, 3), (.aload_n 0, 1), (.iload_n 3, 1), (.putfield 130, 3), (.aload_n 0, 1), (.iconst 1, 1), (.putfield 107, 3), (.aload_n 0, 1), (.iconst 0, 1), (.putfield 133, 3), (.aload_n 0, 1), (.iconst 0, 1), (.putfield 136, 3), (.aload_n 0, 1), (.iconst 0, 1), (.putfield 139, 3), (.aload_n 0, 1), (.iconst 0, 1), (.putfield 142, 3), (.aload_n 0, 1), (.iconst 0, 1), (.putfield 145, 3), (.aload_n 0, 1), (.iconst 0, 1), (.putfield 148, 3), (.aload_n 0, 1), (.iconst 0, 1), (.putfield 151, 3), (.aload_n 0, 1), (.iconst 0, 1), (.putfield 113, 3), (.aload_n 0, 1), (.iconst 0, 1), (.putfield 110, 3), (.iconst 0, 1), (.istore 5, 2), (.iload 5, 2), (.bipush 26, 2), (.if_icmp .ge 17, 3), (.aload_n 0, 1), (.getfield 19, 3), (.iload 5, 2), (.iconst 0, 1), (.iastore, 1), (.iinc 5 1, 3), (.goto (-18), 3), (.aload_n 0, 1), (.invokevirtual 154, 3), (.aload_n 0, 1), (.getfield 47, 3), (.iconst 0, 1), (.bipush 16, 2), (.iastore, 1), (.aload_n 0, 1), (.getfield 47, 3), (.iconst 1, 1), (.bipush 16, 2), (.iastore, 1), (.aload_n 0, 1), (.getfield 47, 3), (.iconst 2, 1), (.iconst 0, 1), (.iastore, 1), (.aload_n 0, 1), (.getfield 47, 3), (.iconst 3, 1), (.iconst 0, 1), (.iastore, 1), (.aload_n 0, 1), (.getfield 47, 3), (.iconst 4, 1), (.bipush 16, 2), (.iastore, 1), (.iconst 0, 1), (.istore 5, 2), (.iload 5, 2), (.sipush 3072, 3), (.if_icmp .ge 29, 3), (.aload_n 0, 1), (.getfield 50, 3), (.iload 5, 2), (.iconst 1, 1), (.bastore, 1), (.aload_n 0, 1), (.getfield 53, 3), (.sipush 24576, 3), (.iload 5, 2), (.iadd, 1), (.iconst 0, 1), (.bastore, 1), (.iinc 5 1, 3), (.goto (-31), 3), (.aload_n 0, 1), (.iconst 0, 1), (.putfield 157, 3), (.aload_n 0, 1), (.iconst 0, 1), (.aload_n 0, 1), (.getfield 120, 3), (.iconst (-1), 1), (.invokevirtual 160, 3), (.iconst 0, 1), (.ireturn, 1)]
set_option maxHeartbeats 4000000 in
set_option maxRecDepth 100000 in
theorem dt_M_start : g_dc (g_b M_M_start) 0 dl_M_start = true := by decide +kernel
def M_M_stick : gM := (⟨"BandPressModel", "stick", "(IZ)Z"⟩, prog_14_method_70_code, some .boolean, 3, { frames := 1, cells := 0, slots := 0, locals := 20 }, false, false, none)
def dl_M_stick : List (Instr × Nat) := [(.aload_n 0, 1), (.iconst 0, 1), (.putfield 83, 3), (.iload_n 1, 1), (.invokestatic 375, 3), (.ifCond .ne 5, 3), (.iconst 0, 1), (.ireturn, 1), (.aload_n 0, 1), (.getfield 74, 3), (.iload_n 1, 1), (.iload_n 2, 1), (.bastore, 1), (.iconst 1, 1), (.ireturn, 1)]
set_option maxHeartbeats 4000000 in
set_option maxRecDepth 100000 in
theorem dt_M_stick : g_dc (g_b M_M_stick) 0 dl_M_stick = true := by decide +kernel
def M_M_take : gM := (⟨"BandPressModel", "take", "(I)Z"⟩, prog_14_method_71_code, some .boolean, 2, { frames := 1, cells := 0, slots := 0, locals := 21 }, false, false, none)
def dl_M_take : List (Instr × Nat) := [(.aload_n 0, 1), (.iconst 0, 1), (.putfield 83, 3), (.iload_n 1, 1), (.invokestatic 375, 3), (.ifCond .eq 27, 3), (.aload_n 0, 1), (.getfield 62, 3), (.iload_n 1, 1), (.iaload, 1), (.iconst (-1), 1), (.if_icmp .eq 17, 3), (.aload_n 0, 1), (.getfield 354, 3), (.ifCond .ne 12, 3), (.aload_n 0, 1), (.getfield 357, 3), (.ifCond .ne 5, 3), (.iconst 0, 1), (.ireturn, 1), (.aload_n 0, 1), (.iload_n 1, 1), (.invokevirtual 333, 3), (.iconst 1, 1), (.ireturn, 1)]
set_option maxHeartbeats 4000000 in
set_option maxRecDepth 100000 in
theorem dt_M_take : g_dc (g_b M_M_take) 0 dl_M_take = true := by decide +kernel
def M_M_thrown : gM := (⟨"BandPressModel", "thrown", "()I"⟩, prog_14_method_2_code, some .int, 1, { frames := 0, cells := 0, slots := 0, locals := 0 }, false, false, none)
def dl_M_thrown : List (Instr × Nat) := [(.aload_n 0, 1), (.getfield 83, 3), (.ireturn, 1)]
set_option maxHeartbeats 4000000 in
set_option maxRecDepth 100000 in
theorem dt_M_thrown : g_dc (g_b M_M_thrown) 0 dl_M_thrown = true := by decide +kernel
def M_M_turn : gM := (⟨"BandPressModel", "turn", "(I)Z"⟩, prog_14_method_63_code, some .boolean, 2, { frames := 2, cells := 0, slots := 0, locals := 43 }, false, false, none)
def dl_M_turn : List (Instr × Nat) := [(.aload_n 0, 1), (.iload_n 1, 1), (.invokevirtual 336, 3), (.ifCond .ne 21, 3), (.aload_n 0, 1), (.getfield 77, 3), (.iload_n 1, 1), (.baload, 1), (.ifCond .ne 10, 3), (.aload_n 0, 1), (.getfield 68, 3), (.iload_n 1, 1), (.iconst 0, 1), (.iastore, 1), (.iconst 0, 1), (.ireturn, 1), (.aload_n 0, 1), (.getfield 74, 3), (.iload_n 1, 1), (.baload, 1), (.ifCond .eq 29, 3), (.aload_n 0, 1), (.getfield 68, 3), (.iload_n 1, 1), (.dup2, 1), (.iaload, 1), (.iconst 1, 1), (.iadd, 1), (.iastore, 1), (.aload_n 0, 1), (.getfield 68, 3), (.iload_n 1, 1), (.iaload, 1), (.iconst 4, 1), (.if_icmp .ne 7, 3), (.iconst 1, 1), (.goto 4, 3), (.iconst 0, 1), (.ireturn, 1), (.iload_n 1, 1), (.iconst 1, 1), (.if_icmp .ne 13, 3), (.aload_n 0, 1), (.getfield 65, 3), (.iconst 1, 1), (.dup2, 1), (.iaload, 1), (.iconst 1, 1), (.iadd, 1), (.iastore, 1), (.iload_n 1, 1), (.iconst 2, 1), (.if_icmp .ne 61, 3), (.aload_n 0, 1), (.getfield 65, 3), (.iconst 2, 1), (.iaload, 1), (.aload_n 0, 1), (.invokevirtual 330, 3), (.if_icmp .ne 48, 3), (.aload_n 0, 1), (.getfield 71, 3), (.aload_n 0, 1), (.getfield 110, 3), (.aload_n 0, 1), (.getfield 62, 3), (.iconst 2, 1), (.iaload, 1), (.iastore, 1), (.aload_n 0, 1), (.getfield 80, 3), (.aload_n 0, 1), (.getfield 62, 3), (.iconst 2, 1), (.iaload, 1), (.iconst 1, 1), (.bastore, 1), (.aload_n 0, 1), (.dup, 1), (.getfield 110, 3), (.iconst 1, 1), (.iadd, 1), (.putfield 110, 3), (.aload_n 0, 1), (.iconst 2, 1), (.invokevirtual 333, 3), (.goto 20, 3), (.aload_n 0, 1), (.iload_n 1, 1), (.iload_n 1, 1), (.iconst 3, 1), (.if_icmp .ne 7, 3), (.iconst 0, 1), (.goto 6, 3), (.iload_n 1, 1), (.iconst 1, 1), (.iadd, 1), (.invokevirtual 339, 3), (.iconst 0, 1), (.ireturn, 1)]
set_option maxHeartbeats 4000000 in
set_option maxRecDepth 100000 in
theorem dt_M_turn : g_dc (g_b M_M_turn) 0 dl_M_turn = true := by decide +kernel
def M_M_tickOnce : gM := (⟨"BandPressModel", "tickOnce", "()V"⟩, prog_14_method_66_code, none, 5, { frames := 3, cells := 0, slots := 0, locals := 64 }, false, false, none)
def dl_M_tickOnce : List (Instr × Nat) := [(.aload_n 0, 1), (.dup, 1), (.getfield 351, 3), (.iconst 1, 1), (.iadd, 1), (.putfield 351, 3), (.aload_n 0, 1), (.getfield 354, 3), (.istore_n 1, 1), (.aload_n 0, 1), (.getfield 110, 3), (.aload_n 0, 1), (.getfield 113, 3), (.if_icmp .ge 7, 3), (.iconst 1, 1), (.goto 4, 3), (.iconst 0, 1), (.istore_n 2, 1), (.aload_n 0, 1), (.aload_n 0, 1), (.getfield 354, 3), (.ifCond .ne 34, 3), (.iload_n 2, 1), (.ifCond .eq 30, 3), (.aload_n 0, 1), (.getfield 327, 3), (.bipush 10, 2), (.iadd, 1), (.bipush 100, 2), (.if_icmp .le 8, 3), (.bipush 100, 2), (.goto 31, 3), (.aload_n 0, 1), (.getfield 327, 3), (.bipush 10, 2), (.iadd, 1), (.goto 21, 3), (.aload_n 0, 1), (.getfield 327, 3), (.iconst 5, 1), (.if_icmp .ge 7, 3), (.iconst 0, 1), (.goto 9, 3), (.aload_n 0, 1), (.getfield 327, 3), (.iconst 5, 1), (.isub, 1), (.putfield 327, 3), (.aload_n 0, 1), (.getfield 354, 3), (.ifCond .ne 63, 3), (.aload_n 0, 1), (.getfield 357, 3), (.ifCond .eq 56, 3), (.aload_n 0, 1), (.invokevirtual 345, 3), (.ifCond .le 7, 3), (.iconst 1, 1), (.goto 4, 3), (.iconst 0, 1), (.istore_n 3, 1), (.iconst 0, 1), (.istore 4, 2), (.iload 4, 2), (.iconst 4, 1), (.if_icmp .ge 29, 3), (.iload_n 3, 1), (.ifCond .ne 13, 3), (.aload_n 0, 1), (.getfield 74, 3), (.iload 4, 2), (.baload, 1), (.ifCond .eq 7, 3), (.iconst 1, 1), (.goto 4, 3), (.iconst 0, 1), (.istore_n 3, 1), (.iinc 4 1, 3), (.goto (-29), 3), (.aload_n 0, 1), (.iload_n 3, 1), (.putfield 357, 3), (.iload_n 1, 1), (.ifCond .ne 10, 3), (.aload_n 0, 1), (.getfield 357, 3), (.ifCond .eq 7, 3), (.iconst 1, 1), (.goto 4, 3), (.iconst 0, 1), (.istore_n 1, 1), (.iconst 0, 1), (.istore_n 3, 1), (.iload_n 3, 1), (.iconst 4, 1), (.if_icmp .ge 36, 3), (.aload_n 0, 1), (.getfield 77, 3), (.iload_n 3, 1), (.iconst 0, 1), (.bastore, 1), (.aload_n 0, 1), (.getfield 68, 3), (.iload_n 3, 1), (.iload_n 1, 1), (.ifCond .eq 7, 3), (.iconst 0, 1), (.goto 9, 3), (.aload_n 0, 1), (.getfield 68, 3), (.iload_n 3, 1), (.iaload, 1), (.iastore, 1), (.iinc 3 1, 3), (.goto (-35), 3), (.iload_n 1, 1), (.ifCond .eq 4, 3), (.return_, 1), (.aload_n 0, 1), (.iconst 2, 1), (.invokevirtual 360, 3), (.istore_n 3, 1), (.aload_n 0, 1), (.iconst 3, 1), (.invokevirtual 360, 3), (.ifCond .ne 7, 3), (.iload_n 3, 1), (.ifCond .eq 7, 3), (.iconst 1, 1), (.goto 4, 3), (.iconst 0, 1), (.istore_n 3, 1), (.aload_n 0, 1), (.iconst 1, 1), (.invokevirtual 360, 3), (.ifCond .ne 7, 3), (.iload_n 3, 1), (.ifCond .eq 7, 3), (.iconst 1, 1), (.goto 4, 3), (.iconst 0, 1), (.istore_n 3, 1), (.aload_n 0, 1), (.iconst 0, 1), (.invokevirtual 360, 3), (.ifCond .ne 7, 3), (.iload_n 3, 1), (.ifCond .eq 7, 3), (.iconst 1, 1), (.goto 4, 3), (.iconst 0, 1), (.istore_n 3, 1), (.aload_n 0, 1), (.invokevirtual 363, 3), (.iload_n 3, 1), (.ifCond .ne 4, 3), (.return_, 1), (.aload_n 0, 1), (.iconst 1, 1), (.putfield 357, 3), (.aload_n 0, 1), (.dup, 1), (.getfield 366, 3), (.iconst 1, 1), (.iadd, 1), (.putfield 366, 3), (.iconst 0, 1), (.istore 4, 2), (.iload 4, 2), (.iconst 4, 1), (.if_icmp .ge 17, 3), (.aload_n 0, 1), (.getfield 68, 3), (.iload 4, 2), (.iconst 0, 1), (.iastore, 1), (.iinc 4 1, 3), (.goto (-17), 3), (.return_, 1)]
set_option maxHeartbeats 4000000 in
set_option maxRecDepth 100000 in
theorem dt_M_tickOnce : g_dc (g_b M_M_tickOnce) 0 dl_M_tickOnce = true := by decide +kernel
def M_M_tick : gM := (⟨"BandPressModel", "tick", "(I)I"⟩, prog_14_method_68_code, some .int, 3, { frames := 4, cells := 0, slots := 0, locals := 88 }, false, false, none)
def dl_M_tick : List (Instr × Nat) := [(.aload_n 0, 1), (.iload_n 1, 1), (.iconst 1, 1), (.if_icmp .lt 10, 3), (.iload_n 1, 1), (.sipush 1000, 3), (.if_icmp .le 7, 3), (.iconst 1, 1), (.goto 4, 3), (.iconst 0, 1), (.putfield 83, 3), (.aload_n 0, 1), (.getfield 83, 3), (.ifCond .eq 5, 3), (.iconst 0, 1), (.ireturn, 1), (.iconst 0, 1), (.istore_n 2, 1), (.iload_n 2, 1), (.iload_n 1, 1), (.if_icmp .ge 13, 3), (.aload_n 0, 1), (.invokevirtual 369, 3), (.iinc 2 1, 3), (.goto (-12), 3), (.aload_n 0, 1), (.invokevirtual 372, 3), (.ireturn, 1)]
set_option maxHeartbeats 4000000 in
set_option maxRecDepth 100000 in
theorem dt_M_tick : g_dc (g_b M_M_tick) 0 dl_M_tick = true := by decide +kernel
def M_M_type : gM := (⟨"BandPressModel", "type", "(JI)Z"⟩, prog_14_method_3_code, some .boolean, 7, { frames := 0, cells := 0, slots := 0, locals := 0 }, false, false, none)
def dl_M_type : List (Instr × Nat) := [(.aload_n 0, 1), (.iconst 0, 1), (.putfield 83, 3), (.iload_n 3, 1), (.iconst 1, 1), (.if_icmp .lt 21, 3), (.iload_n 3, 1), (.bipush 8, 2), (.if_icmp .gt 15, 3), (.aload_n 0, 1), (.getfield 87, 3), (.iload_n 3, 1), (.iadd, 1), (.sipush 300, 3), (.if_icmp .le 5, 3), (.iconst 0, 1), (.ireturn, 1), (.iconst 0, 1), (.istore 4, 2), (.iload 4, 2), (.iload_n 3, 1), (.if_icmp .ge 42, 3), (.lload_n 1, 1), (.bipush 8, 2), (.iload 4, 2), (.imul, 1), (.lshr, 1), (.ldc2_w 90, 3), (.land, 1), (.lstore 5, 2), (.lload 5, 2), (.ldc2_w 92, 3), (.lcmp, 1), (.ifCond .lt 12, 3), (.lload 5, 2), (.ldc2_w 94, 3), (.lcmp, 1), (.ifCond .le 5, 3), (.iconst 0, 1), (.ireturn, 1), (.iinc 4 1, 3), (.goto (-42), 3), (.iload_n 3, 1), (.iconst 1, 1), (.isub, 1), (.istore 4, 2), (.iload 4, 2), (.ifCond .lt 40, 3), (.aload_n 0, 1), (.getfield 7, 3), (.aload_n 0, 1), (.getfield 87, 3), (.lload_n 1, 1), (.bipush 8, 2), (.iload 4, 2), (.imul, 1), (.lshr, 1), (.ldc2_w 90, 3), (.land, 1), (.l2i, 1), (.iastore, 1), (.aload_n 0, 1), (.dup, 1), (.getfield 87, 3), (.iconst 1, 1), (.iadd, 1), (.putfield 87, 3), (.iinc 4 (-1), 3), (.goto (-39), 3), (.iconst 1, 1), (.ireturn, 1)]
set_option maxHeartbeats 4000000 in
set_option maxRecDepth 100000 in
theorem dt_M_type : g_dc (g_b M_M_type) 0 dl_M_type = true := by decide +kernel
def M_M_value : gM := (⟨"BandPressModel", "value", "(I)I"⟩, prog_14_method_46_code, some .int, 2, { frames := 0, cells := 0, slots := 0, locals := 0 }, false, false, none)
def dl_M_value : List (Instr × Nat) := [(.aload_n 0, 1), (.iload_n 1, 1), (.ifCond .lt 11, 3), (.iload_n 1, 1), (.aload_n 0, 1), (.getfield 145, 3), (.if_icmp .lt 7, 3), (.iconst 1, 1), (.goto 4, 3), (.iconst 0, 1), (.putfield 83, 3), (.aload_n 0, 1), (.getfield 83, 3), (.ifCond .eq 5, 3), (.iconst 0, 1), (.ireturn, 1), (.aload_n 0, 1), (.getfield 22, 3), (.aload_n 0, 1), (.getfield 145, 3), (.iconst 1, 1), (.isub, 1), (.iload_n 1, 1), (.isub, 1), (.baload, 1), (.ifCond .eq 9, 3), (.ldc_w 301, 3), (.goto 4, 3), (.iconst 0, 1), (.aload_n 0, 1), (.getfield 16, 3), (.aload_n 0, 1), (.getfield 145, 3), (.iconst 1, 1), (.isub, 1), (.iload_n 1, 1), (.isub, 1), (.iaload, 1), (.iadd, 1), (.ireturn, 1)]
set_option maxHeartbeats 4000000 in
set_option maxRecDepth 100000 in
theorem dt_M_value : g_dc (g_b M_M_value) 0 dl_M_value = true := by decide +kernel
def M_M_variable : gM := (⟨"BandPressModel", "variable", "(I)I"⟩, prog_14_method_47_code, some .int, 2, { frames := 0, cells := 0, slots := 0, locals := 0 }, false, false, none)
def dl_M_variable : List (Instr × Nat) := [(.aload_n 0, 1), (.iconst 0, 1), (.putfield 83, 3), (.iload_n 1, 1), (.ifCond .lt 9, 3), (.iload_n 1, 1), (.bipush 25, 2), (.if_icmp .le 7, 3), (.iconst 0, 1), (.goto 9, 3), (.aload_n 0, 1), (.getfield 19, 3), (.iload_n 1, 1), (.iaload, 1), (.ireturn, 1)]
set_option maxHeartbeats 4000000 in
set_option maxRecDepth 100000 in
theorem dt_M_variable : g_dc (g_b M_M_variable) 0 dl_M_variable = true := by decide +kernel
end
section
/-! links by program -/
theorem w_m1 : w32 (-1) = (-1) := by decide
theorem w_0 : w32 0 = 0 := by decide
theorem w_1 : w32 1 = 1 := by decide
theorem w_2 : w32 2 = 2 := by decide
theorem w_3 : w32 3 = 3 := by decide
theorem w_4 : w32 4 = 4 := by decide
theorem w_5 : w32 5 = 5 := by decide
theorem w_6 : w32 6 = 6 := by decide
theorem w_7 : w32 7 = 7 := by decide
theorem w_8 : w32 8 = 8 := by decide
theorem w_9 : w32 9 = 9 := by decide
theorem w_10 : w32 10 = 10 := by decide
theorem w_11 : w32 11 = 11 := by decide
theorem w_12 : w32 12 = 12 := by decide
theorem w_15 : w32 15 = 15 := by decide
theorem w_16 : w32 16 = 16 := by decide
theorem w_20 : w32 20 = 20 := by decide
theorem w_21 : w32 21 = 21 := by decide
theorem w_22 : w32 22 = 22 := by decide
theorem w_24 : w32 24 = 24 := by decide
theorem w_25 : w32 25 = 25 := by decide
theorem w_26 : w32 26 = 26 := by decide
theorem w_32 : w32 32 = 32 := by decide
theorem w_33 : w32 33 = 33 := by decide
theorem w_37 : w32 37 = 37 := by decide
theorem w_40 : w32 40 = 40 := by decide
theorem w_42 : w32 42 = 42 := by decide
theorem w_43 : w32 43 = 43 := by decide
theorem w_45 : w32 45 = 45 := by decide
theorem w_47 : w32 47 = 47 := by decide
theorem w_48 : w32 48 = 48 := by decide
theorem w_57 : w32 57 = 57 := by decide
theorem w_58 : w32 58 = 58 := by decide
theorem w_63 : w32 63 = 63 := by decide
theorem w_64 : w32 64 = 64 := by decide
theorem w_65 : w32 65 = 65 := by decide
theorem w_67 : w32 67 = 67 := by decide
theorem w_68 : w32 68 = 68 := by decide
theorem w_69 : w32 69 = 69 := by decide
theorem w_70 : w32 70 = 70 := by decide
theorem w_71 : w32 71 = 71 := by decide
theorem w_76 : w32 76 = 76 := by decide
theorem w_77 : w32 77 = 77 := by decide
theorem w_79 : w32 79 = 79 := by decide
theorem w_80 : w32 80 = 80 := by decide
theorem w_81 : w32 81 = 81 := by decide
theorem w_82 : w32 82 = 82 := by decide
theorem w_83 : w32 83 = 83 := by decide
theorem w_84 : w32 84 = 84 := by decide
theorem w_85 : w32 85 = 85 := by decide
theorem w_86 : w32 86 = 86 := by decide
theorem w_88 : w32 88 = 88 := by decide
theorem w_90 : w32 90 = 90 := by decide
theorem w_97 : w32 97 = 97 := by decide
theorem w_100 : w32 100 = 100 := by decide
theorem w_122 : w32 122 = 122 := by decide
theorem w_123 : w32 123 = 123 := by decide
theorem w_125 : w32 125 = 125 := by decide
theorem w_126 : w32 126 = 126 := by decide
theorem w_127 : w32 127 = 127 := by decide
theorem w_128 : w32 128 = 128 := by decide
theorem w_192 : w32 192 = 192 := by decide
theorem w_200 : w32 200 = 200 := by decide
theorem w_240 : w32 240 = 240 := by decide
theorem w_250 : w32 250 = 250 := by decide
theorem w_255 : w32 255 = 255 := by decide
theorem w_300 : w32 300 = 300 := by decide
theorem w_384 : w32 384 = 384 := by decide
theorem w_500 : w32 500 = 500 := by decide
theorem w_640 : w32 640 = 640 := by decide
theorem w_1000 : w32 1000 = 1000 := by decide
theorem w_3072 : w32 3072 = 3072 := by decide
theorem w_4096 : w32 4096 = 4096 := by decide
theorem w_5000 : w32 5000 = 5000 := by decide
theorem w_15360 : w32 15360 = 15360 := by decide
theorem w_20000 : w32 20000 = 20000 := by decide
theorem w_24576 : w32 24576 = 24576 := by decide
theorem w_27648 : w32 27648 = 27648 := by decide
theorem w_100000 : w32 100000 = 100000 := by decide
theorem w_1000000 : w32 1000000 = 1000000 := by decide
theorem w_2000000 : w32 2000000 = 2000000 := by decide
theorem b8w_6 : (Int8.ofInt 6).toInt32 = Int32.ofInt 6 := by decide
theorem b8w_7 : (Int8.ofInt 7).toInt32 = Int32.ofInt 7 := by decide
theorem b8w_8 : (Int8.ofInt 8).toInt32 = Int32.ofInt 8 := by decide
theorem b8w_9 : (Int8.ofInt 9).toInt32 = Int32.ofInt 9 := by decide
theorem b8w_10 : (Int8.ofInt 10).toInt32 = Int32.ofInt 10 := by decide
theorem b8w_11 : (Int8.ofInt 11).toInt32 = Int32.ofInt 11 := by decide
theorem b8w_12 : (Int8.ofInt 12).toInt32 = Int32.ofInt 12 := by decide
theorem b8w_16 : (Int8.ofInt 16).toInt32 = Int32.ofInt 16 := by decide
theorem b8w_20 : (Int8.ofInt 20).toInt32 = Int32.ofInt 20 := by decide
theorem b8w_21 : (Int8.ofInt 21).toInt32 = Int32.ofInt 21 := by decide
theorem b8w_22 : (Int8.ofInt 22).toInt32 = Int32.ofInt 22 := by decide
theorem b8w_24 : (Int8.ofInt 24).toInt32 = Int32.ofInt 24 := by decide
theorem b8w_25 : (Int8.ofInt 25).toInt32 = Int32.ofInt 25 := by decide
theorem b8w_26 : (Int8.ofInt 26).toInt32 = Int32.ofInt 26 := by decide
theorem b8w_32 : (Int8.ofInt 32).toInt32 = Int32.ofInt 32 := by decide
theorem b8w_33 : (Int8.ofInt 33).toInt32 = Int32.ofInt 33 := by decide
theorem b8w_37 : (Int8.ofInt 37).toInt32 = Int32.ofInt 37 := by decide
theorem b8w_40 : (Int8.ofInt 40).toInt32 = Int32.ofInt 40 := by decide
theorem b8w_42 : (Int8.ofInt 42).toInt32 = Int32.ofInt 42 := by decide
theorem b8w_43 : (Int8.ofInt 43).toInt32 = Int32.ofInt 43 := by decide
theorem b8w_45 : (Int8.ofInt 45).toInt32 = Int32.ofInt 45 := by decide
theorem b8w_47 : (Int8.ofInt 47).toInt32 = Int32.ofInt 47 := by decide
theorem b8w_48 : (Int8.ofInt 48).toInt32 = Int32.ofInt 48 := by decide
theorem b8w_57 : (Int8.ofInt 57).toInt32 = Int32.ofInt 57 := by decide
theorem b8w_58 : (Int8.ofInt 58).toInt32 = Int32.ofInt 58 := by decide
theorem b8w_63 : (Int8.ofInt 63).toInt32 = Int32.ofInt 63 := by decide
theorem b8w_64 : (Int8.ofInt 64).toInt32 = Int32.ofInt 64 := by decide
theorem b8w_65 : (Int8.ofInt 65).toInt32 = Int32.ofInt 65 := by decide
theorem b8w_67 : (Int8.ofInt 67).toInt32 = Int32.ofInt 67 := by decide
theorem b8w_68 : (Int8.ofInt 68).toInt32 = Int32.ofInt 68 := by decide
theorem b8w_69 : (Int8.ofInt 69).toInt32 = Int32.ofInt 69 := by decide
theorem b8w_70 : (Int8.ofInt 70).toInt32 = Int32.ofInt 70 := by decide
theorem b8w_71 : (Int8.ofInt 71).toInt32 = Int32.ofInt 71 := by decide
theorem b8w_76 : (Int8.ofInt 76).toInt32 = Int32.ofInt 76 := by decide
theorem b8w_77 : (Int8.ofInt 77).toInt32 = Int32.ofInt 77 := by decide
theorem b8w_79 : (Int8.ofInt 79).toInt32 = Int32.ofInt 79 := by decide
theorem b8w_80 : (Int8.ofInt 80).toInt32 = Int32.ofInt 80 := by decide
theorem b8w_81 : (Int8.ofInt 81).toInt32 = Int32.ofInt 81 := by decide
theorem b8w_82 : (Int8.ofInt 82).toInt32 = Int32.ofInt 82 := by decide
theorem b8w_83 : (Int8.ofInt 83).toInt32 = Int32.ofInt 83 := by decide
theorem b8w_84 : (Int8.ofInt 84).toInt32 = Int32.ofInt 84 := by decide
theorem b8w_85 : (Int8.ofInt 85).toInt32 = Int32.ofInt 85 := by decide
theorem b8w_86 : (Int8.ofInt 86).toInt32 = Int32.ofInt 86 := by decide
theorem b8w_88 : (Int8.ofInt 88).toInt32 = Int32.ofInt 88 := by decide
theorem b8w_90 : (Int8.ofInt 90).toInt32 = Int32.ofInt 90 := by decide
theorem b8w_97 : (Int8.ofInt 97).toInt32 = Int32.ofInt 97 := by decide
theorem b8w_100 : (Int8.ofInt 100).toInt32 = Int32.ofInt 100 := by decide
theorem b8w_122 : (Int8.ofInt 122).toInt32 = Int32.ofInt 122 := by decide
theorem b8w_123 : (Int8.ofInt 123).toInt32 = Int32.ofInt 123 := by decide
theorem b8w_125 : (Int8.ofInt 125).toInt32 = Int32.ofInt 125 := by decide
theorem b8w_126 : (Int8.ofInt 126).toInt32 = Int32.ofInt 126 := by decide
theorem b8w_127 : (Int8.ofInt 127).toInt32 = Int32.ofInt 127 := by decide
theorem s16w_128 : (Int16.ofInt 128).toInt32 = Int32.ofInt 128 := by decide
theorem s16w_192 : (Int16.ofInt 192).toInt32 = Int32.ofInt 192 := by decide
theorem s16w_200 : (Int16.ofInt 200).toInt32 = Int32.ofInt 200 := by decide
theorem s16w_240 : (Int16.ofInt 240).toInt32 = Int32.ofInt 240 := by decide
theorem s16w_250 : (Int16.ofInt 250).toInt32 = Int32.ofInt 250 := by decide
theorem s16w_255 : (Int16.ofInt 255).toInt32 = Int32.ofInt 255 := by decide
theorem s16w_300 : (Int16.ofInt 300).toInt32 = Int32.ofInt 300 := by decide
theorem s16w_384 : (Int16.ofInt 384).toInt32 = Int32.ofInt 384 := by decide
theorem s16w_500 : (Int16.ofInt 500).toInt32 = Int32.ofInt 500 := by decide
theorem s16w_640 : (Int16.ofInt 640).toInt32 = Int32.ofInt 640 := by decide
theorem s16w_1000 : (Int16.ofInt 1000).toInt32 = Int32.ofInt 1000 := by decide
theorem s16w_3072 : (Int16.ofInt 3072).toInt32 = Int32.ofInt 3072 := by decide
theorem s16w_4096 : (Int16.ofInt 4096).toInt32 = Int32.ofInt 4096 := by decide
theorem s16w_5000 : (Int16.ofInt 5000).toInt32 = Int32.ofInt 5000 := by decide
theorem s16w_15360 : (Int16.ofInt 15360).toInt32 = Int32.ofInt 15360 := by decide
theorem s16w_20000 : (Int16.ofInt 20000).toInt32 = Int32.ofInt 20000 := by decide
theorem s16w_24576 : (Int16.ofInt 24576).toInt32 = Int32.ofInt 24576 := by decide
theorem s16w_27648 : (Int16.ofInt 27648).toInt32 = Int32.ofInt 27648 := by decide
def g_S : List gH := [.inr (0, [some (some 1), some (some 5), some (some 37), some (some 40), some (some 46)]), .inr (1, [some (some 2), some (some 3), some (some 4), none]), .inl (0, 300), .inl (0, 300), .inl (0, 8), .inr (2, [some (some 6), some (some 10), some (some 15), some (some 18), some (some 20), some (some 21), some (some 28), some (some 34), none, none, none, none, none]), .inr (1, [some (some 7), some (some 8), some (some 9), none]), .inl (0, 300), .inl (0, 300), .inl (0, 8), .inr (3, [some (some 11), some (some 12), some (some 13), some (some 14), none]), .inl (0, 21), .inl (0, 21), .inl (0, 21), .inl (0, 21), .inr (4, [some (some 16), some (some 17)]), .inl (3, 48), .inl (0, 64), .inr (5, [some (some 19), none]), .inl (0, 32), .inl (0, 26), .inr (6, [some (some 22), some (some 23), some (some 24), some (some 25), some (some 26), some (some 27), none]), .inl (0, 5), .inl (0, 5), .inl (0, 5), .inl (0, 5), .inl (0, 5), .inl (3, 240), .inr (7, [some (some 29), some (some 30), some (some 31), some (some 32), some (some 33), none, none, none]), .inl (0, 200), .inl (0, 200), .inl (1, 200), .inl (0, 25), .inl (0, 25), .inr (8, [some (some 35), some (some 36), none, none]), .inl (3, 384), .inl (3, 48), .inr (9, [some (some 38), some (some 39), none, none, none, none, none, none]), .inl (0, 32), .inl (1, 32), .inr (10, [some (some 37), some (some 41), some (some 42), some (some 43), some (some 44), some (some 45), none, none, none, none, none, none]), .inl (0, 4), .inl (0, 4), .inl (1, 4), .inl (1, 4), .inl (0, 4), .inr (11, [some (some 47), none, some (some 48)]), .inl (0, 128), .inl (0, 8), .inr (12, [none, some (some 50), some (some 51), none, none, none, none, none, none, none, none, none, none, none, some (some 52), some (some 53), some (some 54), none, some (some 55), some (some 56), some (some 57), some (some 58), none, none, none, none, none, none, none, some (some 59), some (some 60), some (some 61), none, some (some 62), some (some 63), some (some 64), none, some (some 65), some (some 66), none, none, none, none, none, none, none, none, none, some (some 67), some (some 68), some (some 69), some (some 70), some (some 71), some (some 72), some (some 73)]), .inl (0, 300), .inl (0, 300), .inl (0, 33), .inl (0, 26), .inl (1, 33), .inl (0, 22), .inl (0, 22), .inl (0, 22), .inl (0, 22), .inl (0, 200), .inl (0, 200), .inl (1, 200), .inl (0, 25), .inl (1, 15360), .inl (1, 27648), .inl (1, 3072), .inl (0, 640), .inl (0, 4), .inl (0, 4), .inl (0, 4), .inl (0, 40), .inl (1, 4), .inl (1, 4), .inl (1, 40), .inl (3, 1)]
theorem g_S_ne : g_S ≠ [] := by intro h; cases h
theorem sh_0 : g_S[0]? = some (.inr (0, [some (some 1), some (some 5), some (some 37), some (some 40), some (some 46)])) := rfl
theorem sh_1 : g_S[1]? = some (.inr (1, [some (some 2), some (some 3), some (some 4), none])) := rfl
theorem sh_2 : g_S[2]? = some (.inl (0, 300)) := rfl
theorem sh_3 : g_S[3]? = some (.inl (0, 300)) := rfl
theorem sh_4 : g_S[4]? = some (.inl (0, 8)) := rfl
theorem sh_5 : g_S[5]? = some (.inr (2, [some (some 6), some (some 10), some (some 15), some (some 18), some (some 20), some (some 21), some (some 28), some (some 34), none, none, none, none, none])) := rfl
theorem sh_6 : g_S[6]? = some (.inr (1, [some (some 7), some (some 8), some (some 9), none])) := rfl
theorem sh_7 : g_S[7]? = some (.inl (0, 300)) := rfl
theorem sh_8 : g_S[8]? = some (.inl (0, 300)) := rfl
theorem sh_9 : g_S[9]? = some (.inl (0, 8)) := rfl
theorem sh_10 : g_S[10]? = some (.inr (3, [some (some 11), some (some 12), some (some 13), some (some 14), none])) := rfl
theorem sh_11 : g_S[11]? = some (.inl (0, 21)) := rfl
theorem sh_12 : g_S[12]? = some (.inl (0, 21)) := rfl
theorem sh_13 : g_S[13]? = some (.inl (0, 21)) := rfl
theorem sh_14 : g_S[14]? = some (.inl (0, 21)) := rfl
theorem sh_15 : g_S[15]? = some (.inr (4, [some (some 16), some (some 17)])) := rfl
theorem sh_16 : g_S[16]? = some (.inl (3, 48)) := rfl
theorem sh_17 : g_S[17]? = some (.inl (0, 64)) := rfl
theorem sh_18 : g_S[18]? = some (.inr (5, [some (some 19), none])) := rfl
theorem sh_19 : g_S[19]? = some (.inl (0, 32)) := rfl
theorem sh_20 : g_S[20]? = some (.inl (0, 26)) := rfl
theorem sh_21 : g_S[21]? = some (.inr (6, [some (some 22), some (some 23), some (some 24), some (some 25), some (some 26), some (some 27), none])) := rfl
theorem sh_22 : g_S[22]? = some (.inl (0, 5)) := rfl
theorem sh_23 : g_S[23]? = some (.inl (0, 5)) := rfl
theorem sh_24 : g_S[24]? = some (.inl (0, 5)) := rfl
theorem sh_25 : g_S[25]? = some (.inl (0, 5)) := rfl
theorem sh_26 : g_S[26]? = some (.inl (0, 5)) := rfl
theorem sh_27 : g_S[27]? = some (.inl (3, 240)) := rfl
theorem sh_28 : g_S[28]? = some (.inr (7, [some (some 29), some (some 30), some (some 31), some (some 32), some (some 33), none, none, none])) := rfl
theorem sh_29 : g_S[29]? = some (.inl (0, 200)) := rfl
theorem sh_30 : g_S[30]? = some (.inl (0, 200)) := rfl
theorem sh_31 : g_S[31]? = some (.inl (1, 200)) := rfl
theorem sh_32 : g_S[32]? = some (.inl (0, 25)) := rfl
theorem sh_33 : g_S[33]? = some (.inl (0, 25)) := rfl
theorem sh_34 : g_S[34]? = some (.inr (8, [some (some 35), some (some 36), none, none])) := rfl
theorem sh_35 : g_S[35]? = some (.inl (3, 384)) := rfl
theorem sh_36 : g_S[36]? = some (.inl (3, 48)) := rfl
theorem sh_37 : g_S[37]? = some (.inr (9, [some (some 38), some (some 39), none, none, none, none, none, none])) := rfl
theorem sh_38 : g_S[38]? = some (.inl (0, 32)) := rfl
theorem sh_39 : g_S[39]? = some (.inl (1, 32)) := rfl
theorem sh_40 : g_S[40]? = some (.inr (10, [some (some 37), some (some 41), some (some 42), some (some 43), some (some 44), some (some 45), none, none, none, none, none, none])) := rfl
theorem sh_41 : g_S[41]? = some (.inl (0, 4)) := rfl
theorem sh_42 : g_S[42]? = some (.inl (0, 4)) := rfl
theorem sh_43 : g_S[43]? = some (.inl (1, 4)) := rfl
theorem sh_44 : g_S[44]? = some (.inl (1, 4)) := rfl
theorem sh_45 : g_S[45]? = some (.inl (0, 4)) := rfl
theorem sh_46 : g_S[46]? = some (.inr (11, [some (some 47), none, some (some 48)])) := rfl
theorem sh_47 : g_S[47]? = some (.inl (0, 128)) := rfl
theorem sh_48 : g_S[48]? = some (.inl (0, 8)) := rfl
theorem sh_49 : g_S[49]? = some (.inr (12, [none, some (some 50), some (some 51), none, none, none, none, none, none, none, none, none, none, none, some (some 52), some (some 53), some (some 54), none, some (some 55), some (some 56), some (some 57), some (some 58), none, none, none, none, none, none, none, some (some 59), some (some 60), some (some 61), none, some (some 62), some (some 63), some (some 64), none, some (some 65), some (some 66), none, none, none, none, none, none, none, none, none, some (some 67), some (some 68), some (some 69), some (some 70), some (some 71), some (some 72), some (some 73)])) := rfl
theorem sh_50 : g_S[50]? = some (.inl (0, 300)) := rfl
theorem sh_51 : g_S[51]? = some (.inl (0, 300)) := rfl
theorem sh_52 : g_S[52]? = some (.inl (0, 33)) := rfl
theorem sh_53 : g_S[53]? = some (.inl (0, 26)) := rfl
theorem sh_54 : g_S[54]? = some (.inl (1, 33)) := rfl
theorem sh_55 : g_S[55]? = some (.inl (0, 22)) := rfl
theorem sh_56 : g_S[56]? = some (.inl (0, 22)) := rfl
theorem sh_57 : g_S[57]? = some (.inl (0, 22)) := rfl
theorem sh_58 : g_S[58]? = some (.inl (0, 22)) := rfl
theorem sh_59 : g_S[59]? = some (.inl (0, 200)) := rfl
theorem sh_60 : g_S[60]? = some (.inl (0, 200)) := rfl
theorem sh_61 : g_S[61]? = some (.inl (1, 200)) := rfl
theorem sh_62 : g_S[62]? = some (.inl (0, 25)) := rfl
theorem sh_63 : g_S[63]? = some (.inl (1, 15360)) := rfl
theorem sh_64 : g_S[64]? = some (.inl (1, 27648)) := rfl
theorem sh_65 : g_S[65]? = some (.inl (1, 3072)) := rfl
theorem sh_66 : g_S[66]? = some (.inl (0, 640)) := rfl
theorem sh_67 : g_S[67]? = some (.inl (0, 4)) := rfl
theorem sh_68 : g_S[68]? = some (.inl (0, 4)) := rfl
theorem sh_69 : g_S[69]? = some (.inl (0, 4)) := rfl
theorem sh_70 : g_S[70]? = some (.inl (0, 40)) := rfl
theorem sh_71 : g_S[71]? = some (.inl (1, 4)) := rfl
theorem sh_72 : g_S[72]? = some (.inl (1, 4)) := rfl
theorem sh_73 : g_S[73]? = some (.inl (1, 40)) := rfl
theorem sh_74 : g_S[74]? = some (.inl (3, 1)) := rfl
theorem fl_0_10 : g_fl "BandPress" 10 0 0 := ⟨R_0, F_0, 5, rfl, by decide, Or.inl (g_Tm 451 (by decide +kernel) rfl)⟩
theorem fl_0_19 : g_fl "BandPress" 19 0 1 := ⟨R_0, F_0, 5, rfl, by decide, Or.inl (g_Tm 452 (by decide +kernel) rfl)⟩
theorem fl_0_26 : g_fl "BandPress" 26 0 2 := ⟨R_0, F_0, 5, rfl, by decide, Or.inl (g_Tm 453 (by decide +kernel) rfl)⟩
theorem fl_0_35 : g_fl "BandPress" 35 0 3 := ⟨R_0, F_0, 5, rfl, by decide, Or.inl (g_Tm 454 (by decide +kernel) rfl)⟩
theorem fl_0_42 : g_fl "BandPress" 42 0 4 := ⟨R_0, F_0, 5, rfl, by decide, Or.inl (g_Tm 455 (by decide +kernel) rfl)⟩
theorem fl_0_83 : g_fl "BandPress" 83 2 7 := ⟨R_2, F_2, 13, rfl, by decide, Or.inl (g_Tm 310 (by decide +kernel) rfl)⟩
theorem fl_0_87 : g_fl "BandPress" 87 8 2 := ⟨R_8, F_8, 4, rfl, by decide, Or.inl (g_Tm 285 (by decide +kernel) rfl)⟩
theorem fl_0_97 : g_fl "BandPress" 97 2 9 := ⟨R_2, F_2, 13, rfl, by decide, Or.inl (g_Tm 314 (by decide +kernel) rfl)⟩
theorem fl_0_100 : g_fl "BandPress" 100 2 8 := ⟨R_2, F_2, 13, rfl, by decide, Or.inl (g_Tm 312 (by decide +kernel) rfl)⟩
theorem fl_0_103 : g_fl "BandPress" 103 2 10 := ⟨R_2, F_2, 13, rfl, by decide, Or.inl (g_Tm 316 (by decide +kernel) rfl)⟩
theorem fl_0_106 : g_fl "BandPress" 106 2 11 := ⟨R_2, F_2, 13, rfl, by decide, Or.inl (g_Tm 318 (by decide +kernel) rfl)⟩
theorem fl_0_109 : g_fl "BandPress" 109 8 3 := ⟨R_8, F_8, 4, rfl, by decide, Or.inl (g_Tm 286 (by decide +kernel) rfl)⟩
theorem fl_0_112 : g_fl "BandPress" 112 2 3 := ⟨R_2, F_2, 13, rfl, by decide, Or.inl (g_Tm 302 (by decide +kernel) rfl)⟩
theorem fl_0_116 : g_fl "BandPress" 116 5 1 := ⟨R_5, F_5, 2, rfl, by decide, Or.inl (g_Tm 199 (by decide +kernel) rfl)⟩
theorem fl_0_121 : g_fl "BandPress" 121 2 6 := ⟨R_2, F_2, 13, rfl, by decide, Or.inl (g_Tm 308 (by decide +kernel) rfl)⟩
theorem fl_0_125 : g_fl "BandPress" 125 7 5 := ⟨R_7, F_7, 8, rfl, by decide, Or.inl (g_Tm 254 (by decide +kernel) rfl)⟩
theorem fl_0_128 : g_fl "BandPress" 128 2 5 := ⟨R_2, F_2, 13, rfl, by decide, Or.inl (g_Tm 306 (by decide +kernel) rfl)⟩
theorem fl_0_144 : g_fl "BandPress" 144 2 4 := ⟨R_2, F_2, 13, rfl, by decide, Or.inl (g_Tm 304 (by decide +kernel) rfl)⟩
theorem fl_0_160 : g_fl "BandPress" 160 11 1 := ⟨R_11, F_11, 3, rfl, by decide, Or.inl (g_Tm 442 (by decide +kernel) rfl)⟩
theorem fl_0_161 : g_fl "BandPress" 161 11 0 := ⟨R_11, F_11, 3, rfl, by decide, Or.inl (g_Tm 440 (by decide +kernel) rfl)⟩
theorem fl_0_172 : g_fl "BandPress" 172 10 3 := ⟨R_10, F_10, 12, rfl, by decide, Or.inl (g_Tm 394 (by decide +kernel) rfl)⟩
theorem fl_0_179 : g_fl "BandPress" 179 10 7 := ⟨R_10, F_10, 12, rfl, by decide, Or.inl (g_Tm 400 (by decide +kernel) rfl)⟩
theorem fl_0_182 : g_fl "BandPress" 182 10 8 := ⟨R_10, F_10, 12, rfl, by decide, Or.inl (g_Tm 402 (by decide +kernel) rfl)⟩
theorem fl_0_186 : g_fl "BandPress" 186 10 1 := ⟨R_10, F_10, 12, rfl, by decide, Or.inl (g_Tm 390 (by decide +kernel) rfl)⟩
theorem fl_0_189 : g_fl "BandPress" 189 10 2 := ⟨R_10, F_10, 12, rfl, by decide, Or.inl (g_Tm 392 (by decide +kernel) rfl)⟩
theorem fl_0_192 : g_fl "BandPress" 192 9 2 := ⟨R_9, F_9, 8, rfl, by decide, Or.inl (g_Tm 357 (by decide +kernel) rfl)⟩
theorem fl_0_195 : g_fl "BandPress" 195 9 0 := ⟨R_9, F_9, 8, rfl, by decide, Or.inl (g_Tm 354 (by decide +kernel) rfl)⟩
theorem fl_0_207 : g_fl "BandPress" 207 10 6 := ⟨R_10, F_10, 12, rfl, by decide, Or.inl (g_Tm 398 (by decide +kernel) rfl)⟩
theorem fl_0_210 : g_fl "BandPress" 210 9 3 := ⟨R_9, F_9, 8, rfl, by decide, Or.inl (g_Tm 360 (by decide +kernel) rfl)⟩
theorem fl_0_213 : g_fl "BandPress" 213 10 9 := ⟨R_10, F_10, 12, rfl, by decide, Or.inl (g_Tm 404 (by decide +kernel) rfl)⟩
theorem fl_0_216 : g_fl "BandPress" 216 10 10 := ⟨R_10, F_10, 12, rfl, by decide, Or.inl (g_Tm 406 (by decide +kernel) rfl)⟩
theorem fl_7_9 : g_fl "BandPress$Calls" 9 3 0 := ⟨R_3, F_3, 5, rfl, by decide, Or.inl (g_Tm 160 (by decide +kernel) rfl)⟩
theorem fl_7_15 : g_fl "BandPress$Calls" 15 3 1 := ⟨R_3, F_3, 5, rfl, by decide, Or.inl (g_Tm 161 (by decide +kernel) rfl)⟩
theorem fl_7_18 : g_fl "BandPress$Calls" 18 3 2 := ⟨R_3, F_3, 5, rfl, by decide, Or.inl (g_Tm 162 (by decide +kernel) rfl)⟩
theorem fl_7_21 : g_fl "BandPress$Calls" 21 3 3 := ⟨R_3, F_3, 5, rfl, by decide, Or.inl (g_Tm 163 (by decide +kernel) rfl)⟩
theorem fl_7_24 : g_fl "BandPress$Calls" 24 3 4 := ⟨R_3, F_3, 5, rfl, by decide, Or.inl (g_Tm 164 (by decide +kernel) rfl)⟩
theorem fl_7_28 : g_fl "BandPress$Calls" 28 1 3 := ⟨R_1, F_1, 4, rfl, by decide, Or.inl (g_Tm 134 (by decide +kernel) rfl)⟩
theorem fl_11_9 : g_fl "BandPress$Filler" 9 4 0 := ⟨R_4, F_4, 2, rfl, by decide, Or.inl (g_Tm 182 (by decide +kernel) rfl)⟩
theorem fl_11_15 : g_fl "BandPress$Filler" 15 4 1 := ⟨R_4, F_4, 2, rfl, by decide, Or.inl (g_Tm 184 (by decide +kernel) rfl)⟩
theorem fl_11_27 : g_fl "BandPress$Filler" 27 7 5 := ⟨R_7, F_7, 8, rfl, by decide, Or.inl (g_Tm 253 (by decide +kernel) rfl)⟩
theorem fl_11_33 : g_fl "BandPress$Filler" 33 7 2 := ⟨R_7, F_7, 8, rfl, by decide, Or.inl (g_Tm 249 (by decide +kernel) rfl)⟩
theorem fl_11_37 : g_fl "BandPress$Filler" 37 7 1 := ⟨R_7, F_7, 8, rfl, by decide, Or.inl (g_Tm 247 (by decide +kernel) rfl)⟩
theorem fl_11_44 : g_fl "BandPress$Filler" 44 7 0 := ⟨R_7, F_7, 8, rfl, by decide, Or.inl (g_Tm 245 (by decide +kernel) rfl)⟩
theorem fl_6_12 : g_fl "BandPress$Job" 12 2 0 := ⟨R_2, F_2, 13, rfl, by decide, Or.inl (g_Tm 298 (by decide +kernel) rfl)⟩
theorem fl_6_21 : g_fl "BandPress$Job" 21 2 1 := ⟨R_2, F_2, 13, rfl, by decide, Or.inl (g_Tm 299 (by decide +kernel) rfl)⟩
theorem fl_6_28 : g_fl "BandPress$Job" 28 2 2 := ⟨R_2, F_2, 13, rfl, by decide, Or.inl (g_Tm 300 (by decide +kernel) rfl)⟩
theorem fl_6_35 : g_fl "BandPress$Job" 35 2 3 := ⟨R_2, F_2, 13, rfl, by decide, Or.inl (g_Tm 301 (by decide +kernel) rfl)⟩
theorem fl_6_39 : g_fl "BandPress$Job" 39 2 4 := ⟨R_2, F_2, 13, rfl, by decide, Or.inl (g_Tm 303 (by decide +kernel) rfl)⟩
theorem fl_6_46 : g_fl "BandPress$Job" 46 2 5 := ⟨R_2, F_2, 13, rfl, by decide, Or.inl (g_Tm 305 (by decide +kernel) rfl)⟩
theorem fl_6_53 : g_fl "BandPress$Job" 53 2 6 := ⟨R_2, F_2, 13, rfl, by decide, Or.inl (g_Tm 307 (by decide +kernel) rfl)⟩
theorem fl_6_60 : g_fl "BandPress$Job" 60 2 7 := ⟨R_2, F_2, 13, rfl, by decide, Or.inl (g_Tm 309 (by decide +kernel) rfl)⟩
theorem fl_6_64 : g_fl "BandPress$Job" 64 2 8 := ⟨R_2, F_2, 13, rfl, by decide, Or.inl (g_Tm 311 (by decide +kernel) rfl)⟩
theorem fl_6_92 : g_fl "BandPress$Job" 92 2 9 := ⟨R_2, F_2, 13, rfl, by decide, Or.inl (g_Tm 313 (by decide +kernel) rfl)⟩
theorem fl_6_98 : g_fl "BandPress$Job" 98 2 11 := ⟨R_2, F_2, 13, rfl, by decide, Or.inl (g_Tm 317 (by decide +kernel) rfl)⟩
theorem fl_6_101 : g_fl "BandPress$Job" 101 2 12 := ⟨R_2, F_2, 13, rfl, by decide, Or.inl (g_Tm 319 (by decide +kernel) rfl)⟩
theorem fl_6_138 : g_fl "BandPress$Job" 138 5 1 := ⟨R_5, F_5, 2, rfl, by decide, Or.inl (g_Tm 200 (by decide +kernel) rfl)⟩
theorem fl_6_155 : g_fl "BandPress$Job" 155 7 5 := ⟨R_7, F_7, 8, rfl, by decide, Or.inl (g_Tm 255 (by decide +kernel) rfl)⟩
theorem fl_6_218 : g_fl "BandPress$Job" 218 8 3 := ⟨R_8, F_8, 4, rfl, by decide, Or.inl (g_Tm 288 (by decide +kernel) rfl)⟩
theorem fl_6_221 : g_fl "BandPress$Job" 221 4 0 := ⟨R_4, F_4, 2, rfl, by decide, Or.inl (g_Tm 183 (by decide +kernel) rfl)⟩
theorem fl_5_9 : g_fl "BandPress$Machine" 9 10 1 := ⟨R_10, F_10, 12, rfl, by decide, Or.inl (g_Tm 389 (by decide +kernel) rfl)⟩
theorem fl_5_15 : g_fl "BandPress$Machine" 15 10 2 := ⟨R_10, F_10, 12, rfl, by decide, Or.inl (g_Tm 391 (by decide +kernel) rfl)⟩
theorem fl_5_18 : g_fl "BandPress$Machine" 18 10 3 := ⟨R_10, F_10, 12, rfl, by decide, Or.inl (g_Tm 393 (by decide +kernel) rfl)⟩
theorem fl_5_22 : g_fl "BandPress$Machine" 22 10 4 := ⟨R_10, F_10, 12, rfl, by decide, Or.inl (g_Tm 395 (by decide +kernel) rfl)⟩
theorem fl_5_25 : g_fl "BandPress$Machine" 25 10 5 := ⟨R_10, F_10, 12, rfl, by decide, Or.inl (g_Tm 396 (by decide +kernel) rfl)⟩
theorem fl_5_28 : g_fl "BandPress$Machine" 28 10 0 := ⟨R_10, F_10, 12, rfl, by decide, Or.inl (g_Tm 388 (by decide +kernel) rfl)⟩
theorem fl_5_32 : g_fl "BandPress$Machine" 32 10 8 := ⟨R_10, F_10, 12, rfl, by decide, Or.inl (g_Tm 401 (by decide +kernel) rfl)⟩
theorem fl_5_36 : g_fl "BandPress$Machine" 36 10 11 := ⟨R_10, F_10, 12, rfl, by decide, Or.inl (g_Tm 407 (by decide +kernel) rfl)⟩
theorem fl_5_48 : g_fl "BandPress$Machine" 48 10 7 := ⟨R_10, F_10, 12, rfl, by decide, Or.inl (g_Tm 399 (by decide +kernel) rfl)⟩
theorem fl_5_52 : g_fl "BandPress$Machine" 52 10 6 := ⟨R_10, F_10, 12, rfl, by decide, Or.inl (g_Tm 397 (by decide +kernel) rfl)⟩
theorem fl_5_59 : g_fl "BandPress$Machine" 59 10 9 := ⟨R_10, F_10, 12, rfl, by decide, Or.inl (g_Tm 403 (by decide +kernel) rfl)⟩
theorem fl_5_90 : g_fl "BandPress$Machine" 90 10 10 := ⟨R_10, F_10, 12, rfl, by decide, Or.inl (g_Tm 405 (by decide +kernel) rfl)⟩
theorem fl_5_117 : g_fl "BandPress$Machine" 117 9 3 := ⟨R_9, F_9, 8, rfl, by decide, Or.inl (g_Tm 359 (by decide +kernel) rfl)⟩
theorem fl_4_9 : g_fl "BandPress$Order" 9 9 0 := ⟨R_9, F_9, 8, rfl, by decide, Or.inl (g_Tm 353 (by decide +kernel) rfl)⟩
theorem fl_4_15 : g_fl "BandPress$Order" 15 9 1 := ⟨R_9, F_9, 8, rfl, by decide, Or.inl (g_Tm 355 (by decide +kernel) rfl)⟩
theorem fl_4_19 : g_fl "BandPress$Order" 19 9 4 := ⟨R_9, F_9, 8, rfl, by decide, Or.inl (g_Tm 361 (by decide +kernel) rfl)⟩
theorem fl_4_23 : g_fl "BandPress$Order" 23 9 5 := ⟨R_9, F_9, 8, rfl, by decide, Or.inl (g_Tm 362 (by decide +kernel) rfl)⟩
theorem fl_4_27 : g_fl "BandPress$Order" 27 9 6 := ⟨R_9, F_9, 8, rfl, by decide, Or.inl (g_Tm 363 (by decide +kernel) rfl)⟩
theorem fl_4_30 : g_fl "BandPress$Order" 30 9 7 := ⟨R_9, F_9, 8, rfl, by decide, Or.inl (g_Tm 364 (by decide +kernel) rfl)⟩
theorem fl_4_33 : g_fl "BandPress$Order" 33 9 3 := ⟨R_9, F_9, 8, rfl, by decide, Or.inl (g_Tm 358 (by decide +kernel) rfl)⟩
theorem fl_4_36 : g_fl "BandPress$Order" 36 9 2 := ⟨R_9, F_9, 8, rfl, by decide, Or.inl (g_Tm 356 (by decide +kernel) rfl)⟩
theorem fl_2_9 : g_fl "BandPress$Packer" 9 11 0 := ⟨R_11, F_11, 3, rfl, by decide, Or.inl (g_Tm 439 (by decide +kernel) rfl)⟩
theorem fl_2_15 : g_fl "BandPress$Packer" 15 11 2 := ⟨R_11, F_11, 3, rfl, by decide, Or.inl (g_Tm 443 (by decide +kernel) rfl)⟩
theorem fl_2_18 : g_fl "BandPress$Packer" 18 11 1 := ⟨R_11, F_11, 3, rfl, by decide, Or.inl (g_Tm 441 (by decide +kernel) rfl)⟩
theorem fl_1_9 : g_fl "BandPress$Pages" 9 8 0 := ⟨R_8, F_8, 4, rfl, by decide, Or.inl (g_Tm 282 (by decide +kernel) rfl)⟩
theorem fl_1_15 : g_fl "BandPress$Pages" 15 8 1 := ⟨R_8, F_8, 4, rfl, by decide, Or.inl (g_Tm 283 (by decide +kernel) rfl)⟩
theorem fl_1_18 : g_fl "BandPress$Pages" 18 8 2 := ⟨R_8, F_8, 4, rfl, by decide, Or.inl (g_Tm 284 (by decide +kernel) rfl)⟩
theorem fl_1_49 : g_fl "BandPress$Pages" 49 8 3 := ⟨R_8, F_8, 4, rfl, by decide, Or.inl (g_Tm 287 (by decide +kernel) rfl)⟩
theorem fl_10_9 : g_fl "BandPress$Path" 9 7 0 := ⟨R_7, F_7, 8, rfl, by decide, Or.inl (g_Tm 244 (by decide +kernel) rfl)⟩
theorem fl_10_15 : g_fl "BandPress$Path" 15 7 1 := ⟨R_7, F_7, 8, rfl, by decide, Or.inl (g_Tm 246 (by decide +kernel) rfl)⟩
theorem fl_10_18 : g_fl "BandPress$Path" 18 7 2 := ⟨R_7, F_7, 8, rfl, by decide, Or.inl (g_Tm 248 (by decide +kernel) rfl)⟩
theorem fl_10_22 : g_fl "BandPress$Path" 22 7 3 := ⟨R_7, F_7, 8, rfl, by decide, Or.inl (g_Tm 250 (by decide +kernel) rfl)⟩
theorem fl_10_25 : g_fl "BandPress$Path" 25 7 4 := ⟨R_7, F_7, 8, rfl, by decide, Or.inl (g_Tm 251 (by decide +kernel) rfl)⟩
theorem fl_10_28 : g_fl "BandPress$Path" 28 7 5 := ⟨R_7, F_7, 8, rfl, by decide, Or.inl (g_Tm 252 (by decide +kernel) rfl)⟩
theorem fl_10_32 : g_fl "BandPress$Path" 32 7 6 := ⟨R_7, F_7, 8, rfl, by decide, Or.inl (g_Tm 256 (by decide +kernel) rfl)⟩
theorem fl_10_35 : g_fl "BandPress$Path" 35 7 7 := ⟨R_7, F_7, 8, rfl, by decide, Or.inl (g_Tm 257 (by decide +kernel) rfl)⟩
theorem fl_3_9 : g_fl "BandPress$Settings" 9 6 0 := ⟨R_6, F_6, 7, rfl, by decide, Or.inl (g_Tm 216 (by decide +kernel) rfl)⟩
theorem fl_3_15 : g_fl "BandPress$Settings" 15 6 1 := ⟨R_6, F_6, 7, rfl, by decide, Or.inl (g_Tm 217 (by decide +kernel) rfl)⟩
theorem fl_3_18 : g_fl "BandPress$Settings" 18 6 2 := ⟨R_6, F_6, 7, rfl, by decide, Or.inl (g_Tm 218 (by decide +kernel) rfl)⟩
theorem fl_3_21 : g_fl "BandPress$Settings" 21 6 3 := ⟨R_6, F_6, 7, rfl, by decide, Or.inl (g_Tm 219 (by decide +kernel) rfl)⟩
theorem fl_3_24 : g_fl "BandPress$Settings" 24 6 4 := ⟨R_6, F_6, 7, rfl, by decide, Or.inl (g_Tm 220 (by decide +kernel) rfl)⟩
theorem fl_3_27 : g_fl "BandPress$Settings" 27 6 5 := ⟨R_6, F_6, 7, rfl, by decide, Or.inl (g_Tm 221 (by decide +kernel) rfl)⟩
theorem fl_3_39 : g_fl "BandPress$Settings" 39 6 6 := ⟨R_6, F_6, 7, rfl, by decide, Or.inl (g_Tm 222 (by decide +kernel) rfl)⟩
theorem fl_8_9 : g_fl "BandPress$Text" 9 1 0 := ⟨R_1, F_1, 4, rfl, by decide, Or.inl (g_Tm 131 (by decide +kernel) rfl)⟩
theorem fl_8_15 : g_fl "BandPress$Text" 15 1 1 := ⟨R_1, F_1, 4, rfl, by decide, Or.inl (g_Tm 132 (by decide +kernel) rfl)⟩
theorem fl_8_18 : g_fl "BandPress$Text" 18 1 2 := ⟨R_1, F_1, 4, rfl, by decide, Or.inl (g_Tm 133 (by decide +kernel) rfl)⟩
theorem fl_8_21 : g_fl "BandPress$Text" 21 1 3 := ⟨R_1, F_1, 4, rfl, by decide, Or.inl (g_Tm 135 (by decide +kernel) rfl)⟩
theorem fl_9_9 : g_fl "BandPress$Values" 9 5 0 := ⟨R_5, F_5, 2, rfl, by decide, Or.inl (g_Tm 197 (by decide +kernel) rfl)⟩
theorem fl_9_15 : g_fl "BandPress$Values" 15 5 1 := ⟨R_5, F_5, 2, rfl, by decide, Or.inl (g_Tm 198 (by decide +kernel) rfl)⟩
theorem fl_15_7 : g_fl "BandPressModel" 7 12 1 := ⟨R_12, F_12, 55, rfl, by decide, Or.inl (g_Tm 1284 (by decide +kernel) rfl)⟩
theorem fl_15_13 : g_fl "BandPressModel" 13 12 2 := ⟨R_12, F_12, 55, rfl, by decide, Or.inl (g_Tm 1285 (by decide +kernel) rfl)⟩
theorem fl_15_16 : g_fl "BandPressModel" 16 12 14 := ⟨R_12, F_12, 55, rfl, by decide, Or.inl (g_Tm 1297 (by decide +kernel) rfl)⟩
theorem fl_15_19 : g_fl "BandPressModel" 19 12 15 := ⟨R_12, F_12, 55, rfl, by decide, Or.inl (g_Tm 1298 (by decide +kernel) rfl)⟩
theorem fl_15_22 : g_fl "BandPressModel" 22 12 16 := ⟨R_12, F_12, 55, rfl, by decide, Or.inl (g_Tm 1299 (by decide +kernel) rfl)⟩
theorem fl_15_26 : g_fl "BandPressModel" 26 12 18 := ⟨R_12, F_12, 55, rfl, by decide, Or.inl (g_Tm 1301 (by decide +kernel) rfl)⟩
theorem fl_15_29 : g_fl "BandPressModel" 29 12 19 := ⟨R_12, F_12, 55, rfl, by decide, Or.inl (g_Tm 1302 (by decide +kernel) rfl)⟩
theorem fl_15_32 : g_fl "BandPressModel" 32 12 20 := ⟨R_12, F_12, 55, rfl, by decide, Or.inl (g_Tm 1303 (by decide +kernel) rfl)⟩
theorem fl_15_35 : g_fl "BandPressModel" 35 12 21 := ⟨R_12, F_12, 55, rfl, by decide, Or.inl (g_Tm 1304 (by decide +kernel) rfl)⟩
theorem fl_15_38 : g_fl "BandPressModel" 38 12 29 := ⟨R_12, F_12, 55, rfl, by decide, Or.inl (g_Tm 1312 (by decide +kernel) rfl)⟩
theorem fl_15_41 : g_fl "BandPressModel" 41 12 30 := ⟨R_12, F_12, 55, rfl, by decide, Or.inl (g_Tm 1313 (by decide +kernel) rfl)⟩
theorem fl_15_44 : g_fl "BandPressModel" 44 12 31 := ⟨R_12, F_12, 55, rfl, by decide, Or.inl (g_Tm 1314 (by decide +kernel) rfl)⟩
theorem fl_15_47 : g_fl "BandPressModel" 47 12 33 := ⟨R_12, F_12, 55, rfl, by decide, Or.inl (g_Tm 1316 (by decide +kernel) rfl)⟩
theorem fl_15_50 : g_fl "BandPressModel" 50 12 34 := ⟨R_12, F_12, 55, rfl, by decide, Or.inl (g_Tm 1317 (by decide +kernel) rfl)⟩
theorem fl_15_53 : g_fl "BandPressModel" 53 12 35 := ⟨R_12, F_12, 55, rfl, by decide, Or.inl (g_Tm 1318 (by decide +kernel) rfl)⟩
theorem fl_15_56 : g_fl "BandPressModel" 56 12 37 := ⟨R_12, F_12, 55, rfl, by decide, Or.inl (g_Tm 1320 (by decide +kernel) rfl)⟩
theorem fl_15_59 : g_fl "BandPressModel" 59 12 38 := ⟨R_12, F_12, 55, rfl, by decide, Or.inl (g_Tm 1321 (by decide +kernel) rfl)⟩
theorem fl_15_62 : g_fl "BandPressModel" 62 12 48 := ⟨R_12, F_12, 55, rfl, by decide, Or.inl (g_Tm 1331 (by decide +kernel) rfl)⟩
theorem fl_15_65 : g_fl "BandPressModel" 65 12 49 := ⟨R_12, F_12, 55, rfl, by decide, Or.inl (g_Tm 1332 (by decide +kernel) rfl)⟩
theorem fl_15_68 : g_fl "BandPressModel" 68 12 50 := ⟨R_12, F_12, 55, rfl, by decide, Or.inl (g_Tm 1333 (by decide +kernel) rfl)⟩
theorem fl_15_71 : g_fl "BandPressModel" 71 12 51 := ⟨R_12, F_12, 55, rfl, by decide, Or.inl (g_Tm 1334 (by decide +kernel) rfl)⟩
theorem fl_15_74 : g_fl "BandPressModel" 74 12 52 := ⟨R_12, F_12, 55, rfl, by decide, Or.inl (g_Tm 1335 (by decide +kernel) rfl)⟩
theorem fl_15_77 : g_fl "BandPressModel" 77 12 53 := ⟨R_12, F_12, 55, rfl, by decide, Or.inl (g_Tm 1336 (by decide +kernel) rfl)⟩
theorem fl_15_80 : g_fl "BandPressModel" 80 12 54 := ⟨R_12, F_12, 55, rfl, by decide, Or.inl (g_Tm 1337 (by decide +kernel) rfl)⟩
theorem fl_15_83 : g_fl "BandPressModel" 83 12 0 := ⟨R_12, F_12, 55, rfl, by decide, Or.inl (g_Tm 1283 (by decide +kernel) rfl)⟩
theorem fl_15_87 : g_fl "BandPressModel" 87 12 3 := ⟨R_12, F_12, 55, rfl, by decide, Or.inl (g_Tm 1286 (by decide +kernel) rfl)⟩
theorem fl_15_107 : g_fl "BandPressModel" 107 12 5 := ⟨R_12, F_12, 55, rfl, by decide, Or.inl (g_Tm 1288 (by decide +kernel) rfl)⟩
theorem fl_15_110 : g_fl "BandPressModel" 110 12 45 := ⟨R_12, F_12, 55, rfl, by decide, Or.inl (g_Tm 1328 (by decide +kernel) rfl)⟩
theorem fl_15_113 : g_fl "BandPressModel" 113 12 44 := ⟨R_12, F_12, 55, rfl, by decide, Or.inl (g_Tm 1327 (by decide +kernel) rfl)⟩
theorem fl_15_120 : g_fl "BandPressModel" 120 12 4 := ⟨R_12, F_12, 55, rfl, by decide, Or.inl (g_Tm 1287 (by decide +kernel) rfl)⟩
theorem fl_15_123 : g_fl "BandPressModel" 123 12 11 := ⟨R_12, F_12, 55, rfl, by decide, Or.inl (g_Tm 1294 (by decide +kernel) rfl)⟩
theorem fl_15_126 : g_fl "BandPressModel" 126 12 12 := ⟨R_12, F_12, 55, rfl, by decide, Or.inl (g_Tm 1295 (by decide +kernel) rfl)⟩
theorem fl_15_130 : g_fl "BandPressModel" 130 12 10 := ⟨R_12, F_12, 55, rfl, by decide, Or.inl (g_Tm 1293 (by decide +kernel) rfl)⟩
theorem fl_15_133 : g_fl "BandPressModel" 133 12 6 := ⟨R_12, F_12, 55, rfl, by decide, Or.inl (g_Tm 1289 (by decide +kernel) rfl)⟩
theorem fl_15_136 : g_fl "BandPressModel" 136 12 7 := ⟨R_12, F_12, 55, rfl, by decide, Or.inl (g_Tm 1290 (by decide +kernel) rfl)⟩
theorem fl_15_139 : g_fl "BandPressModel" 139 12 8 := ⟨R_12, F_12, 55, rfl, by decide, Or.inl (g_Tm 1291 (by decide +kernel) rfl)⟩
theorem fl_15_142 : g_fl "BandPressModel" 142 12 9 := ⟨R_12, F_12, 55, rfl, by decide, Or.inl (g_Tm 1292 (by decide +kernel) rfl)⟩
theorem fl_15_145 : g_fl "BandPressModel" 145 12 13 := ⟨R_12, F_12, 55, rfl, by decide, Or.inl (g_Tm 1296 (by decide +kernel) rfl)⟩
theorem fl_15_148 : g_fl "BandPressModel" 148 12 32 := ⟨R_12, F_12, 55, rfl, by decide, Or.inl (g_Tm 1315 (by decide +kernel) rfl)⟩
theorem fl_15_151 : g_fl "BandPressModel" 151 12 36 := ⟨R_12, F_12, 55, rfl, by decide, Or.inl (g_Tm 1319 (by decide +kernel) rfl)⟩
theorem fl_15_157 : g_fl "BandPressModel" 157 12 17 := ⟨R_12, F_12, 55, rfl, by decide, Or.inl (g_Tm 1300 (by decide +kernel) rfl)⟩
theorem fl_15_203 : g_fl "BandPressModel" 203 12 28 := ⟨R_12, F_12, 55, rfl, by decide, Or.inl (g_Tm 1311 (by decide +kernel) rfl)⟩
theorem fl_15_217 : g_fl "BandPressModel" 217 12 27 := ⟨R_12, F_12, 55, rfl, by decide, Or.inl (g_Tm 1310 (by decide +kernel) rfl)⟩
theorem fl_15_220 : g_fl "BandPressModel" 220 12 22 := ⟨R_12, F_12, 55, rfl, by decide, Or.inl (g_Tm 1305 (by decide +kernel) rfl)⟩
theorem fl_15_259 : g_fl "BandPressModel" 259 12 25 := ⟨R_12, F_12, 55, rfl, by decide, Or.inl (g_Tm 1308 (by decide +kernel) rfl)⟩
theorem fl_15_262 : g_fl "BandPressModel" 262 12 23 := ⟨R_12, F_12, 55, rfl, by decide, Or.inl (g_Tm 1306 (by decide +kernel) rfl)⟩
theorem fl_15_265 : g_fl "BandPressModel" 265 12 26 := ⟨R_12, F_12, 55, rfl, by decide, Or.inl (g_Tm 1309 (by decide +kernel) rfl)⟩
theorem fl_15_268 : g_fl "BandPressModel" 268 12 24 := ⟨R_12, F_12, 55, rfl, by decide, Or.inl (g_Tm 1307 (by decide +kernel) rfl)⟩
theorem fl_15_309 : g_fl "BandPressModel" 309 12 39 := ⟨R_12, F_12, 55, rfl, by decide, Or.inl (g_Tm 1322 (by decide +kernel) rfl)⟩
theorem fl_15_327 : g_fl "BandPressModel" 327 12 41 := ⟨R_12, F_12, 55, rfl, by decide, Or.inl (g_Tm 1324 (by decide +kernel) rfl)⟩
theorem fl_15_348 : g_fl "BandPressModel" 348 12 40 := ⟨R_12, F_12, 55, rfl, by decide, Or.inl (g_Tm 1323 (by decide +kernel) rfl)⟩
theorem fl_15_351 : g_fl "BandPressModel" 351 12 42 := ⟨R_12, F_12, 55, rfl, by decide, Or.inl (g_Tm 1325 (by decide +kernel) rfl)⟩
theorem fl_15_354 : g_fl "BandPressModel" 354 12 46 := ⟨R_12, F_12, 55, rfl, by decide, Or.inl (g_Tm 1329 (by decide +kernel) rfl)⟩
theorem fl_15_357 : g_fl "BandPressModel" 357 12 47 := ⟨R_12, F_12, 55, rfl, by decide, Or.inl (g_Tm 1330 (by decide +kernel) rfl)⟩
theorem fl_15_366 : g_fl "BandPressModel" 366 12 43 := ⟨R_12, F_12, 55, rfl, by decide, Or.inl (g_Tm 1326 (by decide +kernel) rfl)⟩
theorem fp_0_179 : g_fp "BandPress" 179 10 7 false .int := ⟨R_10, F_10, 12, rfl, by decide, rfl, by decide +kernel, Or.inl (g_Tm 400 (by decide +kernel) rfl)⟩
theorem fp_0_182 : g_fp "BandPress" 182 10 8 false .boolean := ⟨R_10, F_10, 12, rfl, by decide, rfl, by decide +kernel, Or.inl (g_Tm 402 (by decide +kernel) rfl)⟩
theorem fp_7_24 : g_fp "BandPress$Calls" 24 3 4 false .int := ⟨R_3, F_3, 5, rfl, by decide, rfl, by decide +kernel, Or.inl (g_Tm 164 (by decide +kernel) rfl)⟩
theorem fp_6_64 : g_fp "BandPress$Job" 64 2 8 false .int := ⟨R_2, F_2, 13, rfl, by decide, rfl, by decide +kernel, Or.inl (g_Tm 311 (by decide +kernel) rfl)⟩
theorem fp_6_92 : g_fp "BandPress$Job" 92 2 9 false .int := ⟨R_2, F_2, 13, rfl, by decide, rfl, by decide +kernel, Or.inl (g_Tm 313 (by decide +kernel) rfl)⟩
theorem fp_6_95 : g_fp "BandPress$Job" 95 2 10 false .int := ⟨R_2, F_2, 13, rfl, by decide, rfl, by decide +kernel, Or.inl (g_Tm 315 (by decide +kernel) rfl)⟩
theorem fp_6_98 : g_fp "BandPress$Job" 98 2 11 false .int := ⟨R_2, F_2, 13, rfl, by decide, rfl, by decide +kernel, Or.inl (g_Tm 317 (by decide +kernel) rfl)⟩
theorem fp_6_101 : g_fp "BandPress$Job" 101 2 12 false .int := ⟨R_2, F_2, 13, rfl, by decide, rfl, by decide +kernel, Or.inl (g_Tm 319 (by decide +kernel) rfl)⟩
theorem fp_5_36 : g_fp "BandPress$Machine" 36 10 11 false .boolean := ⟨R_10, F_10, 12, rfl, by decide, rfl, by decide +kernel, Or.inl (g_Tm 407 (by decide +kernel) rfl)⟩
theorem fp_5_48 : g_fp "BandPress$Machine" 48 10 7 false .int := ⟨R_10, F_10, 12, rfl, by decide, rfl, by decide +kernel, Or.inl (g_Tm 399 (by decide +kernel) rfl)⟩
theorem fp_5_52 : g_fp "BandPress$Machine" 52 10 6 false .int := ⟨R_10, F_10, 12, rfl, by decide, rfl, by decide +kernel, Or.inl (g_Tm 397 (by decide +kernel) rfl)⟩
theorem fp_5_59 : g_fp "BandPress$Machine" 59 10 9 false .int := ⟨R_10, F_10, 12, rfl, by decide, rfl, by decide +kernel, Or.inl (g_Tm 403 (by decide +kernel) rfl)⟩
theorem fp_5_90 : g_fp "BandPress$Machine" 90 10 10 false .int := ⟨R_10, F_10, 12, rfl, by decide, rfl, by decide +kernel, Or.inl (g_Tm 405 (by decide +kernel) rfl)⟩
theorem fp_4_19 : g_fp "BandPress$Order" 19 9 4 false .int := ⟨R_9, F_9, 8, rfl, by decide, rfl, by decide +kernel, Or.inl (g_Tm 361 (by decide +kernel) rfl)⟩
theorem fp_4_23 : g_fp "BandPress$Order" 23 9 5 false .boolean := ⟨R_9, F_9, 8, rfl, by decide, rfl, by decide +kernel, Or.inl (g_Tm 362 (by decide +kernel) rfl)⟩
theorem fp_4_27 : g_fp "BandPress$Order" 27 9 6 false .int := ⟨R_9, F_9, 8, rfl, by decide, rfl, by decide +kernel, Or.inl (g_Tm 363 (by decide +kernel) rfl)⟩
theorem fp_4_30 : g_fp "BandPress$Order" 30 9 7 false .int := ⟨R_9, F_9, 8, rfl, by decide, rfl, by decide +kernel, Or.inl (g_Tm 364 (by decide +kernel) rfl)⟩
theorem fp_4_33 : g_fp "BandPress$Order" 33 9 3 false .int := ⟨R_9, F_9, 8, rfl, by decide, rfl, by decide +kernel, Or.inl (g_Tm 358 (by decide +kernel) rfl)⟩
theorem fp_4_36 : g_fp "BandPress$Order" 36 9 2 false .int := ⟨R_9, F_9, 8, rfl, by decide, rfl, by decide +kernel, Or.inl (g_Tm 356 (by decide +kernel) rfl)⟩
theorem fp_2_18 : g_fp "BandPress$Packer" 18 11 1 false .int := ⟨R_11, F_11, 3, rfl, by decide, rfl, by decide +kernel, Or.inl (g_Tm 441 (by decide +kernel) rfl)⟩
theorem fp_1_18 : g_fp "BandPress$Pages" 18 8 2 false .int := ⟨R_8, F_8, 4, rfl, by decide, rfl, by decide +kernel, Or.inl (g_Tm 284 (by decide +kernel) rfl)⟩
theorem fp_1_49 : g_fp "BandPress$Pages" 49 8 3 false .int := ⟨R_8, F_8, 4, rfl, by decide, rfl, by decide +kernel, Or.inl (g_Tm 287 (by decide +kernel) rfl)⟩
theorem fp_10_28 : g_fp "BandPress$Path" 28 7 5 false .int := ⟨R_7, F_7, 8, rfl, by decide, rfl, by decide +kernel, Or.inl (g_Tm 252 (by decide +kernel) rfl)⟩
theorem fp_10_32 : g_fp "BandPress$Path" 32 7 6 false .int := ⟨R_7, F_7, 8, rfl, by decide, rfl, by decide +kernel, Or.inl (g_Tm 256 (by decide +kernel) rfl)⟩
theorem fp_10_35 : g_fp "BandPress$Path" 35 7 7 false .boolean := ⟨R_7, F_7, 8, rfl, by decide, rfl, by decide +kernel, Or.inl (g_Tm 257 (by decide +kernel) rfl)⟩
theorem fp_3_39 : g_fp "BandPress$Settings" 39 6 6 false .int := ⟨R_6, F_6, 7, rfl, by decide, rfl, by decide +kernel, Or.inl (g_Tm 222 (by decide +kernel) rfl)⟩
theorem fp_8_21 : g_fp "BandPress$Text" 21 1 3 false .int := ⟨R_1, F_1, 4, rfl, by decide, rfl, by decide +kernel, Or.inl (g_Tm 135 (by decide +kernel) rfl)⟩
theorem fp_9_15 : g_fp "BandPress$Values" 15 5 1 false .int := ⟨R_5, F_5, 2, rfl, by decide, rfl, by decide +kernel, Or.inl (g_Tm 198 (by decide +kernel) rfl)⟩
theorem fp_15_83 : g_fp "BandPressModel" 83 12 0 false .int := ⟨R_12, F_12, 55, rfl, by decide, rfl, by decide +kernel, Or.inl (g_Tm 1283 (by decide +kernel) rfl)⟩
theorem fp_15_87 : g_fp "BandPressModel" 87 12 3 false .int := ⟨R_12, F_12, 55, rfl, by decide, rfl, by decide +kernel, Or.inl (g_Tm 1286 (by decide +kernel) rfl)⟩
theorem fp_15_107 : g_fp "BandPressModel" 107 12 5 false .int := ⟨R_12, F_12, 55, rfl, by decide, rfl, by decide +kernel, Or.inl (g_Tm 1288 (by decide +kernel) rfl)⟩
theorem fp_15_110 : g_fp "BandPressModel" 110 12 45 false .int := ⟨R_12, F_12, 55, rfl, by decide, rfl, by decide +kernel, Or.inl (g_Tm 1328 (by decide +kernel) rfl)⟩
theorem fp_15_113 : g_fp "BandPressModel" 113 12 44 false .int := ⟨R_12, F_12, 55, rfl, by decide, rfl, by decide +kernel, Or.inl (g_Tm 1327 (by decide +kernel) rfl)⟩
theorem fp_15_120 : g_fp "BandPressModel" 120 12 4 false .int := ⟨R_12, F_12, 55, rfl, by decide, rfl, by decide +kernel, Or.inl (g_Tm 1287 (by decide +kernel) rfl)⟩
theorem fp_15_123 : g_fp "BandPressModel" 123 12 11 false .int := ⟨R_12, F_12, 55, rfl, by decide, rfl, by decide +kernel, Or.inl (g_Tm 1294 (by decide +kernel) rfl)⟩
theorem fp_15_126 : g_fp "BandPressModel" 126 12 12 false .boolean := ⟨R_12, F_12, 55, rfl, by decide, rfl, by decide +kernel, Or.inl (g_Tm 1295 (by decide +kernel) rfl)⟩
theorem fp_15_130 : g_fp "BandPressModel" 130 12 10 false .int := ⟨R_12, F_12, 55, rfl, by decide, rfl, by decide +kernel, Or.inl (g_Tm 1293 (by decide +kernel) rfl)⟩
theorem fp_15_133 : g_fp "BandPressModel" 133 12 6 false .int := ⟨R_12, F_12, 55, rfl, by decide, rfl, by decide +kernel, Or.inl (g_Tm 1289 (by decide +kernel) rfl)⟩
theorem fp_15_136 : g_fp "BandPressModel" 136 12 7 false .int := ⟨R_12, F_12, 55, rfl, by decide, rfl, by decide +kernel, Or.inl (g_Tm 1290 (by decide +kernel) rfl)⟩
theorem fp_15_139 : g_fp "BandPressModel" 139 12 8 false .int := ⟨R_12, F_12, 55, rfl, by decide, rfl, by decide +kernel, Or.inl (g_Tm 1291 (by decide +kernel) rfl)⟩
theorem fp_15_142 : g_fp "BandPressModel" 142 12 9 false .int := ⟨R_12, F_12, 55, rfl, by decide, rfl, by decide +kernel, Or.inl (g_Tm 1292 (by decide +kernel) rfl)⟩
theorem fp_15_145 : g_fp "BandPressModel" 145 12 13 false .int := ⟨R_12, F_12, 55, rfl, by decide, rfl, by decide +kernel, Or.inl (g_Tm 1296 (by decide +kernel) rfl)⟩
theorem fp_15_148 : g_fp "BandPressModel" 148 12 32 false .int := ⟨R_12, F_12, 55, rfl, by decide, rfl, by decide +kernel, Or.inl (g_Tm 1315 (by decide +kernel) rfl)⟩
theorem fp_15_151 : g_fp "BandPressModel" 151 12 36 false .int := ⟨R_12, F_12, 55, rfl, by decide, rfl, by decide +kernel, Or.inl (g_Tm 1319 (by decide +kernel) rfl)⟩
theorem fp_15_157 : g_fp "BandPressModel" 157 12 17 false .int := ⟨R_12, F_12, 55, rfl, by decide, rfl, by decide +kernel, Or.inl (g_Tm 1300 (by decide +kernel) rfl)⟩
theorem fp_15_203 : g_fp "BandPressModel" 203 12 28 false .boolean := ⟨R_12, F_12, 55, rfl, by decide, rfl, by decide +kernel, Or.inl (g_Tm 1311 (by decide +kernel) rfl)⟩
theorem fp_15_217 : g_fp "BandPressModel" 217 12 27 false .boolean := ⟨R_12, F_12, 55, rfl, by decide, rfl, by decide +kernel, Or.inl (g_Tm 1310 (by decide +kernel) rfl)⟩
theorem fp_15_220 : g_fp "BandPressModel" 220 12 22 false .int := ⟨R_12, F_12, 55, rfl, by decide, rfl, by decide +kernel, Or.inl (g_Tm 1305 (by decide +kernel) rfl)⟩
theorem fp_15_259 : g_fp "BandPressModel" 259 12 25 false .int := ⟨R_12, F_12, 55, rfl, by decide, rfl, by decide +kernel, Or.inl (g_Tm 1308 (by decide +kernel) rfl)⟩
theorem fp_15_262 : g_fp "BandPressModel" 262 12 23 false .int := ⟨R_12, F_12, 55, rfl, by decide, rfl, by decide +kernel, Or.inl (g_Tm 1306 (by decide +kernel) rfl)⟩
theorem fp_15_265 : g_fp "BandPressModel" 265 12 26 false .int := ⟨R_12, F_12, 55, rfl, by decide, rfl, by decide +kernel, Or.inl (g_Tm 1309 (by decide +kernel) rfl)⟩
theorem fp_15_268 : g_fp "BandPressModel" 268 12 24 false .int := ⟨R_12, F_12, 55, rfl, by decide, rfl, by decide +kernel, Or.inl (g_Tm 1307 (by decide +kernel) rfl)⟩
theorem fp_15_309 : g_fp "BandPressModel" 309 12 39 false .int := ⟨R_12, F_12, 55, rfl, by decide, rfl, by decide +kernel, Or.inl (g_Tm 1322 (by decide +kernel) rfl)⟩
theorem fp_15_327 : g_fp "BandPressModel" 327 12 41 false .int := ⟨R_12, F_12, 55, rfl, by decide, rfl, by decide +kernel, Or.inl (g_Tm 1324 (by decide +kernel) rfl)⟩
theorem fp_15_348 : g_fp "BandPressModel" 348 12 40 false .int := ⟨R_12, F_12, 55, rfl, by decide, rfl, by decide +kernel, Or.inl (g_Tm 1323 (by decide +kernel) rfl)⟩
theorem fp_15_351 : g_fp "BandPressModel" 351 12 42 false .int := ⟨R_12, F_12, 55, rfl, by decide, rfl, by decide +kernel, Or.inl (g_Tm 1325 (by decide +kernel) rfl)⟩
theorem fp_15_354 : g_fp "BandPressModel" 354 12 46 false .boolean := ⟨R_12, F_12, 55, rfl, by decide, rfl, by decide +kernel, Or.inl (g_Tm 1329 (by decide +kernel) rfl)⟩
theorem fp_15_357 : g_fp "BandPressModel" 357 12 47 false .boolean := ⟨R_12, F_12, 55, rfl, by decide, rfl, by decide +kernel, Or.inl (g_Tm 1330 (by decide +kernel) rfl)⟩
theorem fp_15_366 : g_fp "BandPressModel" 366 12 43 false .int := ⟨R_12, F_12, 55, rfl, by decide, rfl, by decide +kernel, Or.inl (g_Tm 1326 (by decide +kernel) rfl)⟩
theorem fw_1_70 : Cond.fieldLinkNest "BandPress$Pages" 70 "BandPress" "CELL" "[I" "BandPress" ∈ g_N := (g_Nm 1143 (by decide +kernel) rfl)
theorem fw_13_9 : Cond.fieldLink "java/lang/String" 9 "java/lang/String" "value" "[B" ∈ g_T := (g_Tm 1749 (by decide +kernel) rfl)
theorem fw_13_15 : Cond.fieldLink "java/lang/String" 15 "java/lang/String" "coder" "B" ∈ g_T := (g_Tm 1748 (by decide +kernel) rfl)
theorem fw_13_38 : Cond.fieldLink "java/lang/String" 38 "java/lang/String" "COMPACT_STRINGS" "Z" ∈ g_T := (g_Tm 522 (by decide +kernel) rfl)
theorem cn_7_41 : Cond.constant "BandPress$Calls" 41 2000000 ∈ g_T := (g_Tm 1077 (by decide +kernel) rfl)
theorem cn_11_47 : Cond.constantLong "BandPress$Filler" 47 2 ∈ g_T := (g_Tm 989 (by decide +kernel) rfl)
theorem cn_11_49 : Cond.constantLong "BandPress$Filler" 49 4 ∈ g_T := (g_Tm 990 (by decide +kernel) rfl)
theorem cn_11_57 : Cond.constantLong "BandPress$Filler" 57 64 ∈ g_T := (g_Tm 992 (by decide +kernel) rfl)
theorem cn_6_184 : Cond.constantLong "BandPress$Job" 184 1000000 ∈ g_T := (g_Tm 923 (by decide +kernel) rfl)
theorem cn_6_192 : Cond.constantLong "BandPress$Job" 192 4096 ∈ g_T := (g_Tm 950 (by decide +kernel) rfl)
theorem cn_6_200 : Cond.constantLong "BandPress$Job" 200 100000 ∈ g_T := (g_Tm 940 (by decide +kernel) rfl)
theorem cn_6_235 : Cond.constant "BandPress$Job" 235 2000000 ∈ g_T := (g_Tm 1057 (by decide +kernel) rfl)
theorem cn_1_41 : Cond.constantLong "BandPress$Pages" 41 (-1) ∈ g_T := (g_Tm 1010 (by decide +kernel) rfl)
theorem cn_1_74 : Cond.constantLong "BandPress$Pages" 74 1229782938247303441 ∈ g_T := (g_Tm 1145 (by decide +kernel) rfl)
theorem cn_3_31 : Cond.constantLong "BandPress$Settings" 31 (-1) ∈ g_T := (g_Tm 212 (by decide +kernel) rfl)
theorem cn_3_49 : Cond.constantLong "BandPress$Settings" 49 16 ∈ g_T := (g_Tm 936 (by decide +kernel) rfl)
theorem cn_9_23 : Cond.constant "BandPress$Values" 23 2000000 ∈ g_T := (g_Tm 910 (by decide +kernel) rfl)
theorem cn_15_90 : Cond.constantLong "BandPressModel" 90 255 ∈ g_T := (g_Tm 1457 (by decide +kernel) rfl)
theorem cn_15_92 : Cond.constantLong "BandPressModel" 92 32 ∈ g_T := (g_Tm 1458 (by decide +kernel) rfl)
theorem cn_15_94 : Cond.constantLong "BandPressModel" 94 126 ∈ g_T := (g_Tm 1459 (by decide +kernel) rfl)
theorem cn_15_192 : Cond.constant "BandPressModel" 192 100000 ∈ g_T := (g_Tm 1532 (by decide +kernel) rfl)
theorem cn_15_213 : Cond.constant "BandPressModel" 213 1000000 ∈ g_T := (g_Tm 1517 (by decide +kernel) rfl)
theorem cn_15_301 : Cond.constant "BandPressModel" 301 2000000 ∈ g_T := (g_Tm 1627 (by decide +kernel) rfl)
theorem cn_12_314 : Cond.constantLong "java/lang/Long" 314 6148914691236517205 ∈ g_T := (g_Tm 1014 (by decide +kernel) rfl)
theorem cn_12_316 : Cond.constantLong "java/lang/Long" 316 3689348814741910323 ∈ g_T := (g_Tm 1015 (by decide +kernel) rfl)
theorem cn_12_318 : Cond.constantLong "java/lang/Long" 318 1085102592571150095 ∈ g_T := (g_Tm 1016 (by decide +kernel) rfl)
theorem ld_6_239 : ("BandPress$Job", 239, "?RQ", 0) ∈ g_ldc := List.mem_of_getElem? (i := 0) rfl
theorem ld_6_248 : ("BandPress$Job", 248, "MLCZN", 1) ∈ g_ldc := List.mem_of_getElem? (i := 1) rfl
theorem ld_6_253 : ("BandPress$Job", 253, "FEWTSGUVP", 2) ∈ g_ldc := List.mem_of_getElem? (i := 2) rfl
theorem ld_8_59 : ("BandPress$Text", 59, " {}:+-*/%~<=DXO", 3) ∈ g_ldc := List.mem_of_getElem? (i := 3) rfl
theorem ld_8_65 : ("BandPress$Text", 65, "?RQ", 0) ∈ g_ldc := List.mem_of_getElem? (i := 4) rfl
theorem ld_8_67 : ("BandPress$Text", 67, "MLCZN", 1) ∈ g_ldc := List.mem_of_getElem? (i := 5) rfl
theorem ld_8_69 : ("BandPress$Text", 69, "FEWTSGUVP", 2) ∈ g_ldc := List.mem_of_getElem? (i := 6) rfl
theorem lk_0_9 : g_lk "BandPress" 9 ⟨"BandPress$Text", "<init>", "()V"⟩ := Or.inr ⟨"BandPress", (g_Nm 127 (by decide +kernel) rfl)⟩
theorem lk_0_18 : g_lk "BandPress" 18 ⟨"BandPress$Job", "<init>", "()V"⟩ := Or.inr ⟨"BandPress", (g_Nm 148 (by decide +kernel) rfl)⟩
theorem lk_0_25 : g_lk "BandPress" 25 ⟨"BandPress$Order", "<init>", "()V"⟩ := Or.inr ⟨"BandPress", (g_Nm 349 (by decide +kernel) rfl)⟩
theorem lk_0_32 : g_lk "BandPress" 32 ⟨"BandPress$Machine", "<init>", "(LBandPress$Order;)V"⟩ := Or.inl (g_Tm 384 (by decide +kernel) rfl)
theorem lk_0_41 : g_lk "BandPress" 41 ⟨"BandPress$Packer", "<init>", "()V"⟩ := Or.inr ⟨"BandPress", (g_Nm 435 (by decide +kernel) rfl)⟩
theorem lk_0_46 : g_lk "BandPress" 46 ⟨"BandPress$Text", "append", "(JI)Z"⟩ := Or.inl (g_Tm 471 (by decide +kernel) rfl)
theorem lk_0_50 : g_lk "BandPress" 50 ⟨"BandPress$Job", "isUnderWay", "()Z"⟩ := Or.inl (g_Tm 485 (by decide +kernel) rfl)
theorem lk_0_54 : g_lk "BandPress" 54 ⟨"BandPress$Order", "left", "()I"⟩ := Or.inl (g_Tm 489 (by decide +kernel) rfl)
theorem lk_0_58 : g_lk "BandPress" 58 ⟨"BandPress$Text", "fault", "()I"⟩ := Or.inl (g_Tm 493 (by decide +kernel) rfl)
theorem lk_0_61 : g_lk "BandPress" 61 ⟨"BandPress$Job", "begin", "(LBandPress$Text;I)V"⟩ := Or.inl (g_Tm 599 (by decide +kernel) rfl)
theorem lk_0_65 : g_lk "BandPress" 65 ⟨"BandPress$Order", "begin", "(IZ)V"⟩ := Or.inl (g_Tm 655 (by decide +kernel) rfl)
theorem lk_0_68 : g_lk "BandPress" 68 ⟨"BandPress$Text", "clear", "()V"⟩ := Or.inl (g_Tm 659 (by decide +kernel) rfl)
theorem lk_0_77 : g_lk "BandPress" 77 ⟨"BandPress$Job", "endIfOver", "()V"⟩ := Or.inl (g_Tm 874 (by decide +kernel) rfl)
theorem lk_0_80 : g_lk "BandPress" 80 ⟨"BandPress$Job", "step", "()V"⟩ := Or.inl (g_Tm 882 (by decide +kernel) rfl)
theorem lk_0_93 : g_lk "BandPress" 93 ⟨"BandPress$Order", "complete", "(I)V"⟩ := Or.inl (g_Tm 1184 (by decide +kernel) rfl)
theorem lk_0_132 : g_lk "BandPress" 132 ⟨"BandPress$Settings", "greyNow", "()I"⟩ := Or.inl (g_Tm 668 (by decide +kernel) rfl)
theorem lk_0_140 : g_lk "BandPress" 140 ⟨"BandPress$Values", "peek", "(I)I"⟩ := Or.inl (g_Tm 1212 (by decide +kernel) rfl)
theorem lk_0_148 : g_lk "BandPress" 148 ⟨"BandPress$Pages", "line", "(II)J"⟩ := Or.inl (g_Tm 680 (by decide +kernel) rfl)
theorem lk_0_152 : g_lk "BandPress" 152 ⟨"BandPress$Pages", "isKept", "(I)Z"⟩ := Or.inl (g_Tm 692 (by decide +kernel) rfl)
theorem lk_0_156 : g_lk "BandPress" 156 ⟨"BandPress$Packer", "pack", "(LBandPress$Pages;II)V"⟩ := Or.inl (g_Tm 693 (by decide +kernel) rfl)
theorem lk_0_164 : g_lk "BandPress" 164 ⟨"BandPress$Machine", "pass", "()V"⟩ := Or.inl (g_Tm 1220 (by decide +kernel) rfl)
theorem lk_0_167 : g_lk "BandPress" 167 ⟨"BandPress$Machine", "state", "()I"⟩ := Or.inl (g_Tm 778 (by decide +kernel) rfl)
theorem lk_0_169 : g_lk "BandPress" 169 ⟨"BandPress$Machine", "isSection", "(I)Z"⟩ := Or.inl (g_Tm 726 (by decide +kernel) rfl)
theorem lk_0_176 : g_lk "BandPress" 176 ⟨"BandPress$Machine", "remove", "(I)Z"⟩ := Or.inl (g_Tm 733 (by decide +kernel) rfl)
theorem lk_0_198 : g_lk "BandPress" 198 ⟨"BandPress$Order", "copyOf", "(I)I"⟩ := Or.inl (g_Tm 757 (by decide +kernel) rfl)
theorem lk_0_201 : g_lk "BandPress" 201 ⟨"BandPress$Order", "firstPage", "(I)I"⟩ := Or.inl (g_Tm 761 (by decide +kernel) rfl)
theorem lk_0_204 : g_lk "BandPress" 204 ⟨"BandPress$Order", "secondPage", "(I)I"⟩ := Or.inl (g_Tm 769 (by decide +kernel) rfl)
theorem lk_0_219 : Cond.methodLink "BandPress" 219 ⟨"java/lang/String", "indexOf", "(I)I"⟩ ∈ g_T := (g_Tm 510 (by decide +kernel) rfl)
theorem lk_7_33 : g_lk "BandPress$Calls" 33 ⟨"BandPress$Calls", "push", "(III)V"⟩ := Or.inl (g_Tm 614 (by decide +kernel) rfl)
theorem lk_7_37 : g_lk "BandPress$Calls" 37 ⟨"BandPress$Calls", "settle", "(LBandPress$Text;)V"⟩ := Or.inl (g_Tm 618 (by decide +kernel) rfl)
theorem lk_7_42 : g_lk "BandPress$Calls" 42 ⟨"BandPress$Text", "closing", "(I)I"⟩ := Or.inl (g_Tm 1078 (by decide +kernel) rfl)
theorem lk_7_46 : g_lk "BandPress$Calls" 46 ⟨"BandPress$Text", "skipBlanks", "(II)I"⟩ := Or.inl (g_Tm 622 (by decide +kernel) rfl)
theorem lk_7_50 : g_lk "BandPress$Calls" 50 ⟨"BandPress$Calls", "innermostLoop", "()I"⟩ := Or.inl (g_Tm 1072 (by decide +kernel) rfl)
theorem lk_11_19 : g_lk "BandPress$Filler" 19 ⟨"BandPress$Filler", "meetEdges", "(LBandPress$Path;I)Z"⟩ := Or.inl (g_Tm 982 (by decide +kernel) rfl)
theorem lk_11_23 : g_lk "BandPress$Filler" 23 ⟨"BandPress$Filler", "sweep", "(Z)J"⟩ := Or.inl (g_Tm 999 (by decide +kernel) rfl)
theorem lk_11_40 : g_lk "BandPress$Filler" 40 ⟨"BandPress$Filler", "firstPixel", "(LBandPress$Path;III)I"⟩ := Or.inl (g_Tm 986 (by decide +kernel) rfl)
theorem lk_11_51 : g_lk "BandPress$Filler" 51 ⟨"java/lang/Math", "floorDiv", "(JJ)J"⟩ := Or.inl (g_Tm 991 (by decide +kernel) rfl)
theorem lk_11_59 : g_lk "BandPress$Filler" 59 ⟨"java/lang/Math", "min", "(JJ)J"⟩ := Or.inl (g_Tm 993 (by decide +kernel) rfl)
theorem lk_11_62 : g_lk "BandPress$Filler" 62 ⟨"java/lang/Math", "max", "(JJ)J"⟩ := Or.inl (g_Tm 996 (by decide +kernel) rfl)
theorem lk_6_11 : g_lk "BandPress$Job" 11 ⟨"BandPress$Text", "<init>", "()V"⟩ := Or.inr ⟨"BandPress", (g_Nm 153 (by decide +kernel) rfl)⟩
theorem lk_6_20 : g_lk "BandPress$Job" 20 ⟨"BandPress$Calls", "<init>", "()V"⟩ := Or.inr ⟨"BandPress", (g_Nm 156 (by decide +kernel) rfl)⟩
theorem lk_6_27 : g_lk "BandPress$Job" 27 ⟨"BandPress$Filler", "<init>", "()V"⟩ := Or.inr ⟨"BandPress", (g_Nm 178 (by decide +kernel) rfl)⟩
theorem lk_6_34 : g_lk "BandPress$Job" 34 ⟨"BandPress$Values", "<init>", "()V"⟩ := Or.inr ⟨"BandPress", (g_Nm 193 (by decide +kernel) rfl)⟩
theorem lk_6_45 : g_lk "BandPress$Job" 45 ⟨"BandPress$Settings", "<init>", "()V"⟩ := Or.inl (g_Tm 208 (by decide +kernel) rfl)
theorem lk_6_52 : g_lk "BandPress$Job" 52 ⟨"BandPress$Path", "<init>", "()V"⟩ := Or.inr ⟨"BandPress", (g_Nm 240 (by decide +kernel) rfl)⟩
theorem lk_6_59 : g_lk "BandPress$Job" 59 ⟨"BandPress$Pages", "<init>", "()V"⟩ := Or.inr ⟨"BandPress", (g_Nm 278 (by decide +kernel) rfl)⟩
theorem lk_6_68 : g_lk "BandPress$Job" 68 ⟨"BandPress$Text", "copy", "(LBandPress$Text;)V"⟩ := Or.inl (g_Tm 603 (by decide +kernel) rfl)
theorem lk_6_72 : g_lk "BandPress$Job" 72 ⟨"BandPress$Calls", "begin", "(LBandPress$Text;)V"⟩ := Or.inl (g_Tm 610 (by decide +kernel) rfl)
theorem lk_6_75 : g_lk "BandPress$Job" 75 ⟨"BandPress$Values", "drop", "(I)V"⟩ := Or.inl (g_Tm 630 (by decide +kernel) rfl)
theorem lk_6_79 : g_lk "BandPress$Job" 79 ⟨"java/util/Arrays", "fill", "([II)V"⟩ := Or.inl (g_Tm 635 (by decide +kernel) rfl)
theorem lk_6_85 : g_lk "BandPress$Job" 85 ⟨"BandPress$Settings", "reset", "()V"⟩ := Or.inl (g_Tm 638 (by decide +kernel) rfl)
theorem lk_6_88 : g_lk "BandPress$Job" 88 ⟨"BandPress$Path", "clear", "()V"⟩ := Or.inl (g_Tm 642 (by decide +kernel) rfl)
theorem lk_6_91 : g_lk "BandPress$Job" 91 ⟨"BandPress$Pages", "clear", "()V"⟩ := Or.inl (g_Tm 646 (by decide +kernel) rfl)
theorem lk_6_104 : g_lk "BandPress$Job" 104 ⟨"BandPress$Calls", "isOver", "()Z"⟩ := Or.inl (g_Tm 878 (by decide +kernel) rfl)
theorem lk_6_108 : g_lk "BandPress$Job" 108 ⟨"BandPress$Calls", "place", "()I"⟩ := Or.inl (g_Tm 886 (by decide +kernel) rfl)
theorem lk_6_112 : g_lk "BandPress$Job" 112 ⟨"BandPress$Text", "sign", "(I)I"⟩ := Or.inl (g_Tm 890 (by decide +kernel) rfl)
theorem lk_6_116 : g_lk "BandPress$Job" 116 ⟨"BandPress$Job", "errorOf", "(I)I"⟩ := Or.inl (g_Tm 891 (by decide +kernel) rfl)
theorem lk_6_119 : g_lk "BandPress$Job" 119 ⟨"BandPress$Text", "behind", "(I)I"⟩ := Or.inl (g_Tm 1029 (by decide +kernel) rfl)
theorem lk_6_122 : g_lk "BandPress$Job" 122 ⟨"BandPress$Calls", "goTo", "(I)V"⟩ := Or.inl (g_Tm 1041 (by decide +kernel) rfl)
theorem lk_6_125 : g_lk "BandPress$Job" 125 ⟨"BandPress$Job", "perform", "(II)V"⟩ := Or.inl (g_Tm 1045 (by decide +kernel) rfl)
theorem lk_6_129 : g_lk "BandPress$Job" 129 ⟨"BandPress$Calls", "settle", "(LBandPress$Text;)V"⟩ := Or.inl (g_Tm 1182 (by decide +kernel) rfl)
theorem lk_6_132 : g_lk "BandPress$Job" 132 ⟨"BandPress$Job", "endIfOver", "()V"⟩ := Or.inl (g_Tm 1183 (by decide +kernel) rfl)
theorem lk_6_135 : g_lk "BandPress$Job" 135 ⟨"BandPress$Job", "needs", "(I)I"⟩ := Or.inl (g_Tm 895 (by decide +kernel) rfl)
theorem lk_6_141 : g_lk "BandPress$Job" 141 ⟨"BandPress$Job", "kindsFit", "(II)Z"⟩ := Or.inl (g_Tm 898 (by decide +kernel) rfl)
theorem lk_6_145 : g_lk "BandPress$Job" 145 ⟨"BandPress$Job", "goesBeyond", "(I)Z"⟩ := Or.inl (g_Tm 911 (by decide +kernel) rfl)
theorem lk_6_149 : g_lk "BandPress$Job" 149 ⟨"BandPress$Values", "peek", "(I)I"⟩ := Or.inl (g_Tm 919 (by decide +kernel) rfl)
theorem lk_6_152 : g_lk "BandPress$Job" 152 ⟨"BandPress$Job", "lacksRoom", "(I)Z"⟩ := Or.inl (g_Tm 952 (by decide +kernel) rfl)
theorem lk_6_156 : g_lk "BandPress$Job" 156 ⟨"BandPress$Job", "placesFor", "(I)I"⟩ := Or.inl (g_Tm 966 (by decide +kernel) rfl)
theorem lk_6_159 : g_lk "BandPress$Job" 159 ⟨"BandPress$Job", "marksTooMuch", "(I)Z"⟩ := Or.inl (g_Tm 974 (by decide +kernel) rfl)
theorem lk_6_162 : g_lk "BandPress$Job" 162 ⟨"BandPress$Pages", "isFull", "()Z"⟩ := Or.inl (g_Tm 1017 (by decide +kernel) rfl)
theorem lk_6_165 : g_lk "BandPress$Job" 165 ⟨"BandPress$Settings", "saved", "()I"⟩ := Or.inl (g_Tm 1021 (by decide +kernel) rfl)
theorem lk_6_168 : g_lk "BandPress$Job" 168 ⟨"BandPress$Calls", "innermostLoop", "()I"⟩ := Or.inl (g_Tm 1025 (by decide +kernel) rfl)
theorem lk_6_171 : g_lk "BandPress$Job" 171 ⟨"BandPress$Values", "isProcedure", "(I)Z"⟩ := Or.inl (g_Tm 902 (by decide +kernel) rfl)
theorem lk_6_174 : g_lk "BandPress$Job" 174 ⟨"BandPress$Job", "resultOf", "(I)J"⟩ := Or.inl (g_Tm 915 (by decide +kernel) rfl)
theorem lk_6_178 : g_lk "BandPress$Job" 178 ⟨"java/lang/Math", "abs", "(J)J"⟩ := Or.inl (g_Tm 920 (by decide +kernel) rfl)
theorem lk_6_186 : g_lk "BandPress$Job" 186 ⟨"BandPress$Job", "isFarOff", "(I)Z"⟩ := Or.inl (g_Tm 924 (by decide +kernel) rfl)
theorem lk_6_189 : g_lk "BandPress$Job" 189 ⟨"BandPress$Settings", "stretchedX", "(I)J"⟩ := Or.inl (g_Tm 949 (by decide +kernel) rfl)
theorem lk_6_194 : g_lk "BandPress$Job" 194 ⟨"BandPress$Settings", "stretchedY", "(I)J"⟩ := Or.inl (g_Tm 951 (by decide +kernel) rfl)
theorem lk_6_197 : g_lk "BandPress$Job" 197 ⟨"BandPress$Settings", "placedX", "(I)J"⟩ := Or.inl (g_Tm 928 (by decide +kernel) rfl)
theorem lk_6_202 : g_lk "BandPress$Job" 202 ⟨"BandPress$Settings", "placedY", "(I)J"⟩ := Or.inl (g_Tm 941 (by decide +kernel) rfl)
theorem lk_6_205 : g_lk "BandPress$Job" 205 ⟨"BandPress", "isDigit", "(I)Z"⟩ := Or.inr ⟨"BandPress", (g_Nm 956 (by decide +kernel) rfl)⟩
theorem lk_6_208 : g_lk "BandPress$Job" 208 ⟨"BandPress", "isLetter", "(I)Z"⟩ := Or.inr ⟨"BandPress", (g_Nm 957 (by decide +kernel) rfl)⟩
theorem lk_6_211 : g_lk "BandPress$Job" 211 ⟨"BandPress$Values", "isFull", "()Z"⟩ := Or.inl (g_Tm 958 (by decide +kernel) rfl)
theorem lk_6_212 : g_lk "BandPress$Job" 212 ⟨"BandPress$Calls", "isFull", "()Z"⟩ := Or.inl (g_Tm 962 (by decide +kernel) rfl)
theorem lk_6_213 : g_lk "BandPress$Job" 213 ⟨"BandPress$Path", "placesFor", "(I)I"⟩ := Or.inl (g_Tm 970 (by decide +kernel) rfl)
theorem lk_6_214 : g_lk "BandPress$Job" 214 ⟨"BandPress$Filler", "trace", "(LBandPress$Path;Z)V"⟩ := Or.inl (g_Tm 978 (by decide +kernel) rfl)
theorem lk_6_225 : g_lk "BandPress$Job" 225 ⟨"BandPress$Pages", "marksOf", "([JLBandPress$Settings;)I"⟩ := Or.inl (g_Tm 1003 (by decide +kernel) rfl)
theorem lk_6_229 : g_lk "BandPress$Job" 229 ⟨"BandPress$Text", "number", "(I)I"⟩ := Or.inl (g_Tm 1049 (by decide +kernel) rfl)
theorem lk_6_232 : g_lk "BandPress$Job" 232 ⟨"BandPress$Values", "push", "(I)V"⟩ := Or.inl (g_Tm 1053 (by decide +kernel) rfl)
theorem lk_6_236 : g_lk "BandPress$Job" 236 ⟨"BandPress$Job", "assign", "(I)V"⟩ := Or.inl (g_Tm 1058 (by decide +kernel) rfl)
theorem lk_6_241 : g_lk "BandPress$Job" 241 ⟨"BandPress", "isOneOf", "(Ljava/lang/String;I)Z"⟩ := Or.inr ⟨"BandPress", (g_Nm 1063 (by decide +kernel) rfl)⟩
theorem lk_6_245 : g_lk "BandPress$Job" 245 ⟨"BandPress$Job", "control", "(I)V"⟩ := Or.inl (g_Tm 1064 (by decide +kernel) rfl)
theorem lk_6_250 : g_lk "BandPress$Job" 250 ⟨"BandPress$Job", "draw", "(I)V"⟩ := Or.inl (g_Tm 1080 (by decide +kernel) rfl)
theorem lk_6_255 : g_lk "BandPress$Job" 255 ⟨"BandPress$Job", "use", "(I)V"⟩ := Or.inl (g_Tm 1130 (by decide +kernel) rfl)
theorem lk_6_258 : g_lk "BandPress$Job" 258 ⟨"BandPress$Job", "reckon", "(I)V"⟩ := Or.inl (g_Tm 1178 (by decide +kernel) rfl)
theorem lk_6_261 : g_lk "BandPress$Job" 261 ⟨"BandPress$Calls", "leaveLoop", "()V"⟩ := Or.inl (g_Tm 1068 (by decide +kernel) rfl)
theorem lk_6_264 : g_lk "BandPress$Job" 264 ⟨"BandPress$Calls", "enter", "(LBandPress$Text;II)V"⟩ := Or.inl (g_Tm 1073 (by decide +kernel) rfl)
theorem lk_6_268 : g_lk "BandPress$Job" 268 ⟨"BandPress$Job", "placedX", "(I)I"⟩ := Or.inl (g_Tm 1084 (by decide +kernel) rfl)
theorem lk_6_270 : g_lk "BandPress$Job" 270 ⟨"BandPress$Job", "placedY", "(I)I"⟩ := Or.inl (g_Tm 1088 (by decide +kernel) rfl)
theorem lk_6_272 : g_lk "BandPress$Job" 272 ⟨"BandPress$Path", "begin", "(II)V"⟩ := Or.inl (g_Tm 1092 (by decide +kernel) rfl)
theorem lk_6_274 : g_lk "BandPress$Job" 274 ⟨"BandPress$Path", "lineTo", "(II)V"⟩ := Or.inl (g_Tm 1100 (by decide +kernel) rfl)
theorem lk_6_277 : g_lk "BandPress$Job" 277 ⟨"BandPress$Path", "bend", "(III)V"⟩ := Or.inl (g_Tm 1109 (by decide +kernel) rfl)
theorem lk_6_281 : g_lk "BandPress$Job" 281 ⟨"BandPress$Path", "curve", "()V"⟩ := Or.inl (g_Tm 1113 (by decide +kernel) rfl)
theorem lk_6_284 : g_lk "BandPress$Job" 284 ⟨"BandPress$Path", "close", "()V"⟩ := Or.inl (g_Tm 1125 (by decide +kernel) rfl)
theorem lk_6_287 : g_lk "BandPress$Job" 287 ⟨"BandPress$Pages", "paint", "([JLBandPress$Settings;)V"⟩ := Or.inl (g_Tm 1134 (by decide +kernel) rfl)
theorem lk_6_291 : g_lk "BandPress$Job" 291 ⟨"BandPress$Settings", "cutClip", "([J)V"⟩ := Or.inl (g_Tm 1146 (by decide +kernel) rfl)
theorem lk_6_295 : g_lk "BandPress$Job" 295 ⟨"BandPress$Pages", "keep", "()V"⟩ := Or.inl (g_Tm 1150 (by decide +kernel) rfl)
theorem lk_6_298 : g_lk "BandPress$Job" 298 ⟨"BandPress$Settings", "move", "(II)V"⟩ := Or.inl (g_Tm 1155 (by decide +kernel) rfl)
theorem lk_6_301 : g_lk "BandPress$Job" 301 ⟨"BandPress$Settings", "stretch", "(II)V"⟩ := Or.inl (g_Tm 1161 (by decide +kernel) rfl)
theorem lk_6_304 : g_lk "BandPress$Job" 304 ⟨"BandPress$Settings", "setGrey", "(I)V"⟩ := Or.inl (g_Tm 1165 (by decide +kernel) rfl)
theorem lk_6_307 : g_lk "BandPress$Job" 307 ⟨"BandPress$Settings", "save", "()V"⟩ := Or.inl (g_Tm 1169 (by decide +kernel) rfl)
theorem lk_6_310 : g_lk "BandPress$Job" 310 ⟨"BandPress$Settings", "takeBack", "()V"⟩ := Or.inl (g_Tm 1174 (by decide +kernel) rfl)
theorem lk_5_39 : g_lk "BandPress$Machine" 39 ⟨"BandPress$Order", "left", "()I"⟩ := Or.inl (g_Tm 782 (by decide +kernel) rfl)
theorem lk_5_45 : g_lk "BandPress$Machine" 45 ⟨"BandPress$Machine", "inside", "()I"⟩ := Or.inl (g_Tm 783 (by decide +kernel) rfl)
theorem lk_5_55 : g_lk "BandPress$Machine" 55 ⟨"BandPress$Machine", "empty", "(I)V"⟩ := Or.inl (g_Tm 737 (by decide +kernel) rfl)
theorem lk_5_62 : g_lk "BandPress$Machine" 62 ⟨"java/lang/Math", "min", "(II)I"⟩ := Or.inl (g_Tm 1224 (by decide +kernel) rfl)
theorem lk_5_68 : g_lk "BandPress$Machine" 68 ⟨"java/lang/Math", "max", "(II)I"⟩ := Or.inl (g_Tm 1225 (by decide +kernel) rfl)
theorem lk_5_71 : g_lk "BandPress$Machine" 71 ⟨"BandPress$Machine", "anySticks", "()Z"⟩ := Or.inl (g_Tm 1226 (by decide +kernel) rfl)
theorem lk_5_75 : g_lk "BandPress$Machine" 75 ⟨"java/util/Arrays", "fill", "([II)V"⟩ := Or.inl (g_Tm 1230 (by decide +kernel) rfl)
theorem lk_5_81 : g_lk "BandPress$Machine" 81 ⟨"BandPress$Machine", "moveAll", "()V"⟩ := Or.inl (g_Tm 1231 (by decide +kernel) rfl)
theorem lk_5_84 : g_lk "BandPress$Machine" 84 ⟨"BandPress$Machine", "moveFrom", "(I)V"⟩ := Or.inl (g_Tm 1235 (by decide +kernel) rfl)
theorem lk_5_87 : g_lk "BandPress$Machine" 87 ⟨"BandPress$Machine", "feed", "()V"⟩ := Or.inl (g_Tm 1264 (by decide +kernel) rfl)
theorem lk_5_93 : g_lk "BandPress$Machine" 93 ⟨"BandPress$Machine", "wayFrom", "(I)I"⟩ := Or.inl (g_Tm 1239 (by decide +kernel) rfl)
theorem lk_5_97 : g_lk "BandPress$Machine" 97 ⟨"BandPress$Machine", "move", "(II)V"⟩ := Or.inl (g_Tm 1248 (by decide +kernel) rfl)
theorem lk_5_101 : g_lk "BandPress$Machine" 101 ⟨"BandPress$Order", "sides", "()I"⟩ := Or.inl (g_Tm 1243 (by decide +kernel) rfl)
theorem lk_5_104 : g_lk "BandPress$Machine" 104 ⟨"BandPress$Machine", "ifFree", "(I)I"⟩ := Or.inl (g_Tm 1244 (by decide +kernel) rfl)
theorem lk_5_107 : g_lk "BandPress$Machine" 107 ⟨"BandPress$Order", "putOut", "(I)V"⟩ := Or.inl (g_Tm 1252 (by decide +kernel) rfl)
theorem lk_5_110 : g_lk "BandPress$Machine" 110 ⟨"BandPress$Machine", "place", "(III)V"⟩ := Or.inl (g_Tm 1260 (by decide +kernel) rfl)
theorem lk_5_114 : g_lk "BandPress$Machine" 114 ⟨"BandPress$Machine", "nextToMake", "()I"⟩ := Or.inl (g_Tm 1268 (by decide +kernel) rfl)
theorem lk_5_120 : g_lk "BandPress$Machine" 120 ⟨"BandPress$Order", "isLeft", "(I)Z"⟩ := Or.inl (g_Tm 1272 (by decide +kernel) rfl)
theorem lk_5_124 : g_lk "BandPress$Machine" 124 ⟨"BandPress$Machine", "isInside", "(I)Z"⟩ := Or.inl (g_Tm 1273 (by decide +kernel) rfl)
theorem lk_4_39 : g_lk "BandPress$Order" 39 ⟨"java/lang/Math", "min", "(II)I"⟩ := Or.inl (g_Tm 1188 (by decide +kernel) rfl)
theorem lk_4_45 : g_lk "BandPress$Order" 45 ⟨"BandPress$Order", "isLeft", "(I)Z"⟩ := Or.inl (g_Tm 1256 (by decide +kernel) rfl)
theorem lk_4_49 : g_lk "BandPress$Order" 49 ⟨"BandPress$Order", "sides", "()I"⟩ := Or.inl (g_Tm 765 (by decide +kernel) rfl)
theorem lk_4_53 : g_lk "BandPress$Order" 53 ⟨"BandPress$Order", "firstPage", "(I)I"⟩ := Or.inl (g_Tm 773 (by decide +kernel) rfl)
theorem lk_2_22 : g_lk "BandPress$Packer" 22 ⟨"BandPress$Packer", "linesAlike", "(LBandPress$Pages;III)I"⟩ := Or.inl (g_Tm 697 (by decide +kernel) rfl)
theorem lk_2_26 : g_lk "BandPress$Packer" 26 ⟨"BandPress$Packer", "add", "(I)V"⟩ := Or.inl (g_Tm 701 (by decide +kernel) rfl)
theorem lk_2_30 : g_lk "BandPress$Packer" 30 ⟨"BandPress$Pages", "line", "(II)J"⟩ := Or.inl (g_Tm 700 (by decide +kernel) rfl)
theorem lk_2_36 : g_lk "BandPress$Packer" 36 ⟨"BandPress$Packer", "packLine", "(J)V"⟩ := Or.inl (g_Tm 705 (by decide +kernel) rfl)
theorem lk_2_40 : g_lk "BandPress$Packer" 40 ⟨"java/lang/Math", "max", "(II)I"⟩ := Or.inl (g_Tm 717 (by decide +kernel) rfl)
theorem lk_2_46 : g_lk "BandPress$Packer" 46 ⟨"BandPress$Packer", "octetsAlike", "(I)I"⟩ := Or.inl (g_Tm 709 (by decide +kernel) rfl)
theorem lk_2_50 : g_lk "BandPress$Packer" 50 ⟨"BandPress$Packer", "octetsApart", "(I)I"⟩ := Or.inl (g_Tm 713 (by decide +kernel) rfl)
theorem lk_1_22 : g_lk "BandPress$Pages" 22 ⟨"BandPress$Pages", "clean", "()V"⟩ := Or.inl (g_Tm 650 (by decide +kernel) rfl)
theorem lk_1_25 : g_lk "BandPress$Pages" 25 ⟨"BandPress$Pages", "isKept", "(I)Z"⟩ := Or.inl (g_Tm 684 (by decide +kernel) rfl)
theorem lk_1_35 : g_lk "BandPress$Pages" 35 ⟨"BandPress$Settings", "clipLine", "(I)J"⟩ := Or.inl (g_Tm 1006 (by decide +kernel) rfl)
theorem lk_1_43 : g_lk "BandPress$Pages" 43 ⟨"java/lang/Long", "bitCount", "(J)I"⟩ := Or.inl (g_Tm 1011 (by decide +kernel) rfl)
theorem lk_1_52 : g_lk "BandPress$Pages" 52 ⟨"BandPress$Pages", "marksOf", "([JLBandPress$Settings;)I"⟩ := Or.inl (g_Tm 1138 (by decide +kernel) rfl)
theorem lk_1_56 : g_lk "BandPress$Pages" 56 ⟨"BandPress$Settings", "greyNow", "()I"⟩ := Or.inl (g_Tm 1139 (by decide +kernel) rfl)
theorem lk_1_60 : g_lk "BandPress$Pages" 60 ⟨"BandPress$Pages", "dots", "(II)J"⟩ := Or.inl (g_Tm 1140 (by decide +kernel) rfl)
theorem lk_1_64 : g_lk "BandPress$Pages" 64 ⟨"java/util/Arrays", "fill", "([JJ)V"⟩ := Or.inl (g_Tm 654 (by decide +kernel) rfl)
theorem lk_10_39 : g_lk "BandPress$Path" 39 ⟨"BandPress$Path", "add", "(IIZ)V"⟩ := Or.inl (g_Tm 1096 (by decide +kernel) rfl)
theorem lk_10_43 : g_lk "BandPress$Path" 43 ⟨"BandPress$Path", "goOn", "()V"⟩ := Or.inl (g_Tm 1104 (by decide +kernel) rfl)
theorem lk_10_46 : g_lk "BandPress$Path" 46 ⟨"java/lang/Math", "max", "(II)I"⟩ := Or.inl (g_Tm 1117 (by decide +kernel) rfl)
theorem lk_10_52 : g_lk "BandPress$Path" 52 ⟨"BandPress$Path", "bend", "(III)V"⟩ := Or.inl (g_Tm 1118 (by decide +kernel) rfl)
theorem lk_10_56 : g_lk "BandPress$Path" 56 ⟨"BandPress$Path", "halve", "([III)V"⟩ := Or.inl (g_Tm 1119 (by decide +kernel) rfl)
theorem lk_10_60 : g_lk "BandPress$Path" 60 ⟨"BandPress$Path", "middle", "(II)I"⟩ := Or.inl (g_Tm 1122 (by decide +kernel) rfl)
theorem lk_10_63 : g_lk "BandPress$Path" 63 ⟨"BandPress$Path", "begin", "(II)V"⟩ := Or.inl (g_Tm 1108 (by decide +kernel) rfl)
theorem lk_3_33 : g_lk "BandPress$Settings" 33 ⟨"java/util/Arrays", "fill", "([JJ)V"⟩ := Or.inl (g_Tm 213 (by decide +kernel) rfl)
theorem lk_3_51 : g_lk "BandPress$Settings" 51 ⟨"java/lang/Math", "floorDiv", "(JJ)J"⟩ := Or.inl (g_Tm 937 (by decide +kernel) rfl)
theorem lk_3_57 : g_lk "BandPress$Settings" 57 ⟨"BandPress$Settings", "stretchedX", "(I)J"⟩ := Or.inl (g_Tm 932 (by decide +kernel) rfl)
theorem lk_3_61 : g_lk "BandPress$Settings" 61 ⟨"BandPress$Settings", "stretchedY", "(I)J"⟩ := Or.inl (g_Tm 945 (by decide +kernel) rfl)
theorem lk_3_64 : g_lk "BandPress$Settings" 64 ⟨"BandPress$Settings", "placedX", "(I)J"⟩ := Or.inl (g_Tm 1159 (by decide +kernel) rfl)
theorem lk_3_67 : g_lk "BandPress$Settings" 67 ⟨"BandPress$Settings", "placedY", "(I)J"⟩ := Or.inl (g_Tm 1160 (by decide +kernel) rfl)
theorem lk_8_25 : g_lk "BandPress$Text" 25 ⟨"BandPress$Text", "isPlain", "(JI)Z"⟩ := Or.inl (g_Tm 475 (by decide +kernel) rfl)
theorem lk_8_29 : g_lk "BandPress$Text" 29 ⟨"BandPress$Text", "byteOf", "(JI)I"⟩ := Or.inl (g_Tm 478 (by decide +kernel) rfl)
theorem lk_8_33 : g_lk "BandPress$Text" 33 ⟨"BandPress", "isDigit", "(I)Z"⟩ := Or.inr ⟨"BandPress", (g_Nm 497 (by decide +kernel) rfl)⟩
theorem lk_8_37 : g_lk "BandPress$Text" 37 ⟨"BandPress", "isLetter", "(I)Z"⟩ := Or.inr ⟨"BandPress", (g_Nm 500 (by decide +kernel) rfl)⟩
theorem lk_8_40 : g_lk "BandPress$Text" 40 ⟨"BandPress$Text", "isWord", "(I)Z"⟩ := Or.inl (g_Tm 503 (by decide +kernel) rfl)
theorem lk_8_49 : g_lk "BandPress$Text" 49 ⟨"BandPress$Text", "sign", "(I)I"⟩ := Or.inl (g_Tm 626 (by decide +kernel) rfl)
theorem lk_8_53 : g_lk "BandPress$Text" 53 ⟨"BandPress$Text", "closing", "(I)I"⟩ := Or.inl (g_Tm 1033 (by decide +kernel) rfl)
theorem lk_8_56 : g_lk "BandPress$Text" 56 ⟨"BandPress$Text", "behindDigits", "(I)I"⟩ := Or.inl (g_Tm 1037 (by decide +kernel) rfl)
theorem lk_8_61 : g_lk "BandPress$Text" 61 ⟨"BandPress", "isOneOf", "(Ljava/lang/String;I)Z"⟩ := Or.inr ⟨"BandPress", (g_Nm 507 (by decide +kernel) rfl)⟩
theorem lk_9_19 : g_lk "BandPress$Values" 19 ⟨"BandPress$Values", "peek", "(I)I"⟩ := Or.inl (g_Tm 906 (by decide +kernel) rfl)
theorem lk_9_24 : g_lk "BandPress$Values" 24 ⟨"java/lang/Math", "max", "(II)I"⟩ := Or.inl (g_Tm 634 (by decide +kernel) rfl)
theorem lk_15_96 : g_lk "BandPressModel" 96 ⟨"BandPressModel", "isDigit", "(I)Z"⟩ := Or.inl (g_Tm 1471 (by decide +kernel) rfl)
theorem lk_15_100 : g_lk "BandPressModel" 100 ⟨"BandPressModel", "isLetter", "(I)Z"⟩ := Or.inl (g_Tm 1474 (by decide +kernel) rfl)
theorem lk_15_103 : g_lk "BandPressModel" 103 ⟨"BandPressModel", "needs", "(I)I"⟩ := Or.inl (g_Tm 1468 (by decide +kernel) rfl)
theorem lk_15_116 : g_lk "BandPressModel" 116 ⟨"BandPressModel", "faultOf", "()I"⟩ := Or.inl (g_Tm 1464 (by decide +kernel) rfl)
theorem lk_15_154 : g_lk "BandPressModel" 154 ⟨"BandPressModel", "noPath", "()V"⟩ := Or.inl (g_Tm 1477 (by decide +kernel) rfl)
theorem lk_15_160 : g_lk "BandPressModel" 160 ⟨"BandPressModel", "enter", "(III)V"⟩ := Or.inl (g_Tm 1481 (by decide +kernel) rfl)
theorem lk_15_164 : g_lk "BandPressModel" 164 ⟨"BandPressModel", "closing", "(I)I"⟩ := Or.inl (g_Tm 1564 (by decide +kernel) rfl)
theorem lk_15_167 : g_lk "BandPressModel" 167 ⟨"BandPressModel", "next", "()I"⟩ := Or.inl (g_Tm 1489 (by decide +kernel) rfl)
theorem lk_15_170 : g_lk "BandPressModel" 170 ⟨"BandPressModel", "endJob", "(II)V"⟩ := Or.inl (g_Tm 1493 (by decide +kernel) rfl)
theorem lk_15_174 : g_lk "BandPressModel" 174 ⟨"BandPressModel", "errorOf", "(I)I"⟩ := Or.inl (g_Tm 1497 (by decide +kernel) rfl)
theorem lk_15_177 : g_lk "BandPressModel" 177 ⟨"BandPressModel", "step", "(I)V"⟩ := Or.inl (g_Tm 1556 (by decide +kernel) rfl)
theorem lk_15_181 : g_lk "BandPressModel" 181 ⟨"BandPressModel", "sixteenth", "(II)J"⟩ := Or.inl (g_Tm 1529 (by decide +kernel) rfl)
theorem lk_15_185 : g_lk "BandPressModel" 185 ⟨"BandPressModel", "number", "(I)I"⟩ := Or.inl (g_Tm 1509 (by decide +kernel) rfl)
theorem lk_15_188 : g_lk "BandPressModel" 188 ⟨"BandPressModel", "xOf", "(I)J"⟩ := Or.inl (g_Tm 1525 (by decide +kernel) rfl)
theorem lk_15_193 : g_lk "BandPressModel" 193 ⟨"BandPressModel", "isFar", "(JI)Z"⟩ := Or.inl (g_Tm 1518 (by decide +kernel) rfl)
theorem lk_15_197 : g_lk "BandPressModel" 197 ⟨"BandPressModel", "yOf", "(I)J"⟩ := Or.inl (g_Tm 1533 (by decide +kernel) rfl)
theorem lk_15_200 : g_lk "BandPressModel" 200 ⟨"BandPressModel", "quotient", "()I"⟩ := Or.inl (g_Tm 1513 (by decide +kernel) rfl)
theorem lk_15_206 : g_lk "BandPressModel" 206 ⟨"BandPressModel", "isKind", "(II)Z"⟩ := Or.inl (g_Tm 1501 (by decide +kernel) rfl)
theorem lk_15_210 : g_lk "BandPressModel" 210 ⟨"BandPressModel", "result", "(I)J"⟩ := Or.inl (g_Tm 1505 (by decide +kernel) rfl)
theorem lk_15_214 : g_lk "BandPressModel" 214 ⟨"BandPressModel", "isNear", "(I)Z"⟩ := Or.inl (g_Tm 1521 (by decide +kernel) rfl)
theorem lk_15_223 : g_lk "BandPressModel" 223 ⟨"BandPressModel", "placesFor", "(I)I"⟩ := Or.inl (g_Tm 1537 (by decide +kernel) rfl)
theorem lk_15_226 : g_lk "BandPressModel" 226 ⟨"BandPressModel", "look", "(Z)I"⟩ := Or.inl (g_Tm 1541 (by decide +kernel) rfl)
theorem lk_15_230 : g_lk "BandPressModel" 230 ⟨"BandPressModel", "isRepeated", "()Z"⟩ := Or.inl (g_Tm 1552 (by decide +kernel) rfl)
theorem lk_15_234 : g_lk "BandPressModel" 234 ⟨"BandPressModel", "wordLong", "(I)I"⟩ := Or.inl (g_Tm 1560 (by decide +kernel) rfl)
theorem lk_15_237 : g_lk "BandPressModel" 237 ⟨"BandPressModel", "push", "(IZ)V"⟩ := Or.inl (g_Tm 1568 (by decide +kernel) rfl)
theorem lk_15_241 : g_lk "BandPressModel" 241 ⟨"BandPressModel", "reckon", "(I)V"⟩ := Or.inl (g_Tm 1572 (by decide +kernel) rfl)
theorem lk_15_244 : g_lk "BandPressModel" 244 ⟨"BandPressModel", "order", "(I)V"⟩ := Or.inl (g_Tm 1576 (by decide +kernel) rfl)
theorem lk_15_247 : g_lk "BandPressModel" 247 ⟨"BandPressModel", "swap", "()V"⟩ := Or.inl (g_Tm 1580 (by decide +kernel) rfl)
theorem lk_15_250 : g_lk "BandPressModel" 250 ⟨"BandPressModel", "repeat", "()V"⟩ := Or.inl (g_Tm 1584 (by decide +kernel) rfl)
theorem lk_15_253 : g_lk "BandPressModel" 253 ⟨"BandPressModel", "quit", "()V"⟩ := Or.inl (g_Tm 1588 (by decide +kernel) rfl)
theorem lk_15_256 : g_lk "BandPressModel" 256 ⟨"BandPressModel", "draw", "(I)V"⟩ := Or.inl (g_Tm 1592 (by decide +kernel) rfl)
theorem lk_15_271 : g_lk "BandPressModel" 271 ⟨"BandPressModel", "fill", "(Z)V"⟩ := Or.inl (g_Tm 1604 (by decide +kernel) rfl)
theorem lk_15_275 : g_lk "BandPressModel" 275 ⟨"BandPressModel", "cut", "()V"⟩ := Or.inl (g_Tm 1611 (by decide +kernel) rfl)
theorem lk_15_278 : g_lk "BandPressModel" 278 ⟨"BandPressModel", "state", "(I)V"⟩ := Or.inl (g_Tm 1615 (by decide +kernel) rfl)
theorem lk_15_281 : g_lk "BandPressModel" 281 ⟨"BandPressModel", "place", "(IIZ)V"⟩ := Or.inl (g_Tm 1596 (by decide +kernel) rfl)
theorem lk_15_285 : g_lk "BandPressModel" 285 ⟨"BandPressModel", "along", "(IIIIIZ)I"⟩ := Or.inl (g_Tm 1600 (by decide +kernel) rfl)
theorem lk_15_289 : g_lk "BandPressModel" 289 ⟨"BandPressModel", "meets", "(IIIIII)I"⟩ := Or.inl (g_Tm 1549 (by decide +kernel) rfl)
theorem lk_15_293 : g_lk "BandPressModel" 293 ⟨"BandPressModel", "isIn", "(IIZ)Z"⟩ := Or.inl (g_Tm 1545 (by decide +kernel) rfl)
theorem lk_15_297 : g_lk "BandPressModel" 297 ⟨"BandPressModel", "cell", "(II)I"⟩ := Or.inl (g_Tm 1608 (by decide +kernel) rfl)
theorem lk_15_302 : g_lk "BandPressModel" 302 ⟨"BandPressModel", "isPixel", "(II)Z"⟩ := Or.inl (g_Tm 1636 (by decide +kernel) rfl)
theorem lk_15_305 : g_lk "BandPressModel" 305 ⟨"BandPressModel", "byteOf", "(III)I"⟩ := Or.inl (g_Tm 1651 (by decide +kernel) rfl)
theorem lk_15_312 : g_lk "BandPressModel" 312 ⟨"BandPressModel", "alike", "(III)I"⟩ := Or.inl (g_Tm 1663 (by decide +kernel) rfl)
theorem lk_15_315 : g_lk "BandPressModel" 315 ⟨"BandPressModel", "out", "(I)V"⟩ := Or.inl (g_Tm 1655 (by decide +kernel) rfl)
theorem lk_15_318 : g_lk "BandPressModel" 318 ⟨"BandPressModel", "isLikeAbove", "(II)Z"⟩ := Or.inl (g_Tm 1647 (by decide +kernel) rfl)
theorem lk_15_321 : g_lk "BandPressModel" 321 ⟨"BandPressModel", "line", "(II)V"⟩ := Or.inl (g_Tm 1659 (by decide +kernel) rfl)
theorem lk_15_324 : g_lk "BandPressModel" 324 ⟨"BandPressModel", "pack", "(II)Z"⟩ := Or.inl (g_Tm 1643 (by decide +kernel) rfl)
theorem lk_15_330 : g_lk "BandPressModel" 330 ⟨"BandPressModel", "sidesOf", "()I"⟩ := Or.inl (g_Tm 1691 (by decide +kernel) rfl)
theorem lk_15_333 : g_lk "BandPressModel" 333 ⟨"BandPressModel", "empty", "(I)V"⟩ := Or.inl (g_Tm 1695 (by decide +kernel) rfl)
theorem lk_15_336 : g_lk "BandPressModel" 336 ⟨"BandPressModel", "goes", "(I)Z"⟩ := Or.inl (g_Tm 1687 (by decide +kernel) rfl)
theorem lk_15_339 : g_lk "BandPressModel" 339 ⟨"BandPressModel", "shift", "(II)V"⟩ := Or.inl (g_Tm 1699 (by decide +kernel) rfl)
theorem lk_15_342 : g_lk "BandPressModel" 342 ⟨"BandPressModel", "toMake", "()I"⟩ := Or.inl (g_Tm 1707 (by decide +kernel) rfl)
theorem lk_15_345 : g_lk "BandPressModel" 345 ⟨"BandPressModel", "insideMany", "()I"⟩ := Or.inl (g_Tm 1679 (by decide +kernel) rfl)
theorem lk_15_360 : g_lk "BandPressModel" 360 ⟨"BandPressModel", "turn", "(I)Z"⟩ := Or.inl (g_Tm 1683 (by decide +kernel) rfl)
theorem lk_15_363 : g_lk "BandPressModel" 363 ⟨"BandPressModel", "feed", "()V"⟩ := Or.inl (g_Tm 1703 (by decide +kernel) rfl)
theorem lk_15_369 : g_lk "BandPressModel" 369 ⟨"BandPressModel", "tickOnce", "()V"⟩ := Or.inl (g_Tm 1675 (by decide +kernel) rfl)
theorem lk_15_372 : g_lk "BandPressModel" 372 ⟨"BandPressModel", "stateOf", "()I"⟩ := Or.inl (g_Tm 1711 (by decide +kernel) rfl)
theorem lk_15_375 : g_lk "BandPressModel" 375 ⟨"BandPressModel", "isSection", "(I)Z"⟩ := Or.inl (g_Tm 1719 (by decide +kernel) rfl)
theorem lk_13_335 : Cond.methodLink "java/lang/String" 335 ⟨"java/lang/String", "coder", "()B"⟩ ∈ g_T := (g_Tm 528 (by decide +kernel) rfl)
theorem lk_13_492 : Cond.methodLink "java/lang/String" 492 ⟨"java/lang/String", "isLatin1", "()Z"⟩ ∈ g_T := (g_Tm 518 (by decide +kernel) rfl)
theorem lk_13_505 : Cond.methodLink "java/lang/String" 505 ⟨"java/lang/String", "length", "()I"⟩ ∈ g_T := (g_Tm 524 (by decide +kernel) rfl)
theorem lk_13_633 : Cond.methodLink "java/lang/String" 633 ⟨"java/lang/String", "indexOf", "(II)I"⟩ ∈ g_T := (g_Tm 514 (by decide +kernel) rfl)
theorem lk_13_637 : g_lk "java/lang/String" 637 ⟨"java/lang/StringLatin1", "indexOf", "([BIII)I"⟩ := Or.inl (g_Tm 532 (by decide +kernel) rfl)
theorem lk_14_38 : g_lk "java/lang/StringLatin1" 38 ⟨"java/lang/Math", "min", "(II)I"⟩ := Or.inl (g_Tm 541 (by decide +kernel) rfl)
theorem lk_14_88 : g_lk "java/lang/StringLatin1" 88 ⟨"java/lang/StringLatin1", "canEncode", "(I)Z"⟩ := Or.inl (g_Tm 535 (by decide +kernel) rfl)
theorem lk_14_92 : g_lk "java/lang/StringLatin1" 92 ⟨"java/lang/Math", "max", "(II)I"⟩ := Or.inl (g_Tm 538 (by decide +kernel) rfl)
theorem lk_14_95 : g_lk "java/lang/StringLatin1" 95 ⟨"java/lang/StringLatin1", "indexOfChar", "([BIII)I"⟩ := Or.inl (g_Tm 544 (by decide +kernel) rfl)
set_option maxHeartbeats 4000000 in
set_option maxRecDepth 100000 in
theorem ms_B_isDigit : g_ms M_B_isDigit 1 := ⟨⟨g_Tm 89 (by decide +kernel) rfl, g_Tm 499 rfl rfl, by decide, by decide, by decide +kernel⟩, g_Tm 498 (by decide +kernel) rfl⟩
set_option maxHeartbeats 4000000 in
set_option maxRecDepth 100000 in
theorem ms_B_isLetter : g_ms M_B_isLetter 1 := ⟨⟨g_Tm 89 (by decide +kernel) rfl, g_Tm 502 rfl rfl, by decide, by decide, by decide +kernel⟩, g_Tm 501 (by decide +kernel) rfl⟩
set_option maxHeartbeats 4000000 in
set_option maxRecDepth 100000 in
theorem ms_B_isOneOf : g_ms M_B_isOneOf 2 := ⟨⟨g_Tm 89 (by decide +kernel) rfl, g_Tm 509 rfl rfl, by decide, by decide, by decide +kernel⟩, g_Tm 508 (by decide +kernel) rfl⟩
set_option maxHeartbeats 4000000 in
set_option maxRecDepth 100000 in
theorem mv_Calls_begin : g_mv M_Calls_begin 1 := ⟨⟨g_Tm 92 (by decide +kernel) rfl, g_Tm 613 rfl rfl, by decide, by decide, by decide +kernel⟩, g_Tm 611 (by decide +kernel) rfl, g_Tm 612 (by decide +kernel) rfl⟩
set_option maxHeartbeats 4000000 in
set_option maxRecDepth 100000 in
theorem mv_Calls_enter : g_mv M_Calls_enter 3 := ⟨⟨g_Tm 92 (by decide +kernel) rfl, g_Tm 1076 rfl rfl, by decide, by decide, by decide +kernel⟩, g_Tm 1074 (by decide +kernel) rfl, g_Tm 1075 (by decide +kernel) rfl⟩
set_option maxHeartbeats 4000000 in
set_option maxRecDepth 100000 in
theorem mv_Calls_goTo : g_mv M_Calls_goTo 1 := ⟨⟨g_Tm 92 (by decide +kernel) rfl, g_Tm 1044 rfl rfl, by decide, by decide, by decide +kernel⟩, g_Tm 1042 (by decide +kernel) rfl, g_Tm 1043 (by decide +kernel) rfl⟩
set_option maxHeartbeats 4000000 in
set_option maxRecDepth 100000 in
theorem mv_Calls_innermostLoop : g_mv M_Calls_innermostLoop 0 := ⟨⟨g_Tm 92 (by decide +kernel) rfl, g_Tm 1028 rfl rfl, by decide, by decide, by decide +kernel⟩, g_Tm 1026 (by decide +kernel) rfl, g_Tm 1027 (by decide +kernel) rfl⟩
set_option maxHeartbeats 4000000 in
set_option maxRecDepth 100000 in
theorem mv_Calls_isFull : g_mv M_Calls_isFull 0 := ⟨⟨g_Tm 92 (by decide +kernel) rfl, g_Tm 965 rfl rfl, by decide, by decide, by decide +kernel⟩, g_Tm 963 (by decide +kernel) rfl, g_Tm 964 (by decide +kernel) rfl⟩
set_option maxHeartbeats 4000000 in
set_option maxRecDepth 100000 in
theorem mv_Calls_isOver : g_mv M_Calls_isOver 0 := ⟨⟨g_Tm 92 (by decide +kernel) rfl, g_Tm 881 rfl rfl, by decide, by decide, by decide +kernel⟩, g_Tm 879 (by decide +kernel) rfl, g_Tm 880 (by decide +kernel) rfl⟩
set_option maxHeartbeats 4000000 in
set_option maxRecDepth 100000 in
theorem mv_Calls_leaveLoop : g_mv M_Calls_leaveLoop 0 := ⟨⟨g_Tm 92 (by decide +kernel) rfl, g_Tm 1071 rfl rfl, by decide, by decide, by decide +kernel⟩, g_Tm 1069 (by decide +kernel) rfl, g_Tm 1070 (by decide +kernel) rfl⟩
set_option maxHeartbeats 4000000 in
set_option maxRecDepth 100000 in
theorem mv_Calls_place : g_mv M_Calls_place 0 := ⟨⟨g_Tm 92 (by decide +kernel) rfl, g_Tm 889 rfl rfl, by decide, by decide, by decide +kernel⟩, g_Tm 887 (by decide +kernel) rfl, g_Tm 888 (by decide +kernel) rfl⟩
set_option maxHeartbeats 4000000 in
set_option maxRecDepth 100000 in
theorem mv_Calls_push : g_mv M_Calls_push 3 := ⟨⟨g_Tm 92 (by decide +kernel) rfl, g_Tm 617 rfl rfl, by decide, by decide, by decide +kernel⟩, g_Tm 616 (by decide +kernel) rfl, g_Tm 0 (by decide +kernel) rfl⟩
set_option maxHeartbeats 4000000 in
set_option maxRecDepth 100000 in
theorem mv_Calls_settle : g_mv M_Calls_settle 1 := ⟨⟨g_Tm 92 (by decide +kernel) rfl, g_Tm 621 rfl rfl, by decide, by decide, by decide +kernel⟩, g_Tm 619 (by decide +kernel) rfl, g_Tm 620 (by decide +kernel) rfl⟩
set_option maxHeartbeats 4000000 in
set_option maxRecDepth 100000 in
theorem ms_Filler_firstPixel : g_ms M_Filler_firstPixel 4 := ⟨⟨g_Tm 93 (by decide +kernel) rfl, g_Tm 988 rfl rfl, by decide, by decide, by decide +kernel⟩, g_Tm 987 (by decide +kernel) rfl⟩
set_option maxHeartbeats 4000000 in
set_option maxRecDepth 100000 in
theorem mv_Filler_meetEdges : g_mv M_Filler_meetEdges 2 := ⟨⟨g_Tm 93 (by decide +kernel) rfl, g_Tm 985 rfl rfl, by decide, by decide, by decide +kernel⟩, g_Tm 984 (by decide +kernel) rfl, g_Tm 17 (by decide +kernel) rfl⟩
set_option maxHeartbeats 4000000 in
set_option maxRecDepth 100000 in
theorem mv_Filler_sweep : g_mv M_Filler_sweep 1 := ⟨⟨g_Tm 93 (by decide +kernel) rfl, g_Tm 1002 rfl rfl, by decide, by decide, by decide +kernel⟩, g_Tm 1001 (by decide +kernel) rfl, g_Tm 18 (by decide +kernel) rfl⟩
set_option maxHeartbeats 4000000 in
set_option maxRecDepth 100000 in
theorem mv_Filler_trace : g_mv M_Filler_trace 2 := ⟨⟨g_Tm 93 (by decide +kernel) rfl, g_Tm 981 rfl rfl, by decide, by decide, by decide +kernel⟩, g_Tm 979 (by decide +kernel) rfl, g_Tm 980 (by decide +kernel) rfl⟩
set_option maxHeartbeats 4000000 in
set_option maxRecDepth 100000 in
theorem mv_Job_assign : g_mv M_Job_assign 1 := ⟨⟨g_Tm 91 (by decide +kernel) rfl, g_Tm 1061 rfl rfl, by decide, by decide, by decide +kernel⟩, g_Tm 1060 (by decide +kernel) rfl, g_Tm 21 (by decide +kernel) rfl⟩
set_option maxHeartbeats 4000000 in
set_option maxRecDepth 100000 in
theorem mv_Job_begin : g_mv M_Job_begin 2 := ⟨⟨g_Tm 91 (by decide +kernel) rfl, g_Tm 602 rfl rfl, by decide, by decide, by decide +kernel⟩, g_Tm 600 (by decide +kernel) rfl, g_Tm 601 (by decide +kernel) rfl⟩
set_option maxHeartbeats 4000000 in
set_option maxRecDepth 100000 in
theorem mv_Job_control : g_mv M_Job_control 1 := ⟨⟨g_Tm 91 (by decide +kernel) rfl, g_Tm 1067 rfl rfl, by decide, by decide, by decide +kernel⟩, g_Tm 1066 (by decide +kernel) rfl, g_Tm 22 (by decide +kernel) rfl⟩
set_option maxHeartbeats 4000000 in
set_option maxRecDepth 100000 in
theorem mv_Job_draw : g_mv M_Job_draw 1 := ⟨⟨g_Tm 91 (by decide +kernel) rfl, g_Tm 1083 rfl rfl, by decide, by decide, by decide +kernel⟩, g_Tm 1082 (by decide +kernel) rfl, g_Tm 23 (by decide +kernel) rfl⟩
set_option maxHeartbeats 4000000 in
set_option maxRecDepth 100000 in
theorem mv_Job_endIfOver : g_mv M_Job_endIfOver 0 := ⟨⟨g_Tm 91 (by decide +kernel) rfl, g_Tm 877 rfl rfl, by decide, by decide, by decide +kernel⟩, g_Tm 875 (by decide +kernel) rfl, g_Tm 876 (by decide +kernel) rfl⟩
set_option maxHeartbeats 4000000 in
set_option maxRecDepth 100000 in
theorem mv_Job_errorOf : g_mv M_Job_errorOf 1 := ⟨⟨g_Tm 91 (by decide +kernel) rfl, g_Tm 894 rfl rfl, by decide, by decide, by decide +kernel⟩, g_Tm 893 (by decide +kernel) rfl, g_Tm 9 (by decide +kernel) rfl⟩
set_option maxHeartbeats 4000000 in
set_option maxRecDepth 100000 in
theorem mv_Job_goesBeyond : g_mv M_Job_goesBeyond 1 := ⟨⟨g_Tm 91 (by decide +kernel) rfl, g_Tm 914 rfl rfl, by decide, by decide, by decide +kernel⟩, g_Tm 913 (by decide +kernel) rfl, g_Tm 11 (by decide +kernel) rfl⟩
set_option maxHeartbeats 4000000 in
set_option maxRecDepth 100000 in
theorem mv_Job_isFarOff : g_mv M_Job_isFarOff 1 := ⟨⟨g_Tm 91 (by decide +kernel) rfl, g_Tm 927 rfl rfl, by decide, by decide, by decide +kernel⟩, g_Tm 926 (by decide +kernel) rfl, g_Tm 13 (by decide +kernel) rfl⟩
set_option maxHeartbeats 4000000 in
set_option maxRecDepth 100000 in
theorem mv_Job_isUnderWay : g_mv M_Job_isUnderWay 0 := ⟨⟨g_Tm 91 (by decide +kernel) rfl, g_Tm 488 rfl rfl, by decide, by decide, by decide +kernel⟩, g_Tm 486 (by decide +kernel) rfl, g_Tm 487 (by decide +kernel) rfl⟩
set_option maxHeartbeats 4000000 in
set_option maxRecDepth 100000 in
theorem mv_Job_kindsFit : g_mv M_Job_kindsFit 2 := ⟨⟨g_Tm 91 (by decide +kernel) rfl, g_Tm 901 rfl rfl, by decide, by decide, by decide +kernel⟩, g_Tm 900 (by decide +kernel) rfl, g_Tm 10 (by decide +kernel) rfl⟩
set_option maxHeartbeats 4000000 in
set_option maxRecDepth 100000 in
theorem mv_Job_lacksRoom : g_mv M_Job_lacksRoom 1 := ⟨⟨g_Tm 91 (by decide +kernel) rfl, g_Tm 955 rfl rfl, by decide, by decide, by decide +kernel⟩, g_Tm 954 (by decide +kernel) rfl, g_Tm 14 (by decide +kernel) rfl⟩
set_option maxHeartbeats 4000000 in
set_option maxRecDepth 100000 in
theorem mv_Job_marksTooMuch : g_mv M_Job_marksTooMuch 1 := ⟨⟨g_Tm 91 (by decide +kernel) rfl, g_Tm 977 rfl rfl, by decide, by decide, by decide +kernel⟩, g_Tm 976 (by decide +kernel) rfl, g_Tm 16 (by decide +kernel) rfl⟩
set_option maxHeartbeats 4000000 in
set_option maxRecDepth 100000 in
theorem ms_Job_needs : g_ms M_Job_needs 1 := ⟨⟨g_Tm 91 (by decide +kernel) rfl, g_Tm 897 rfl rfl, by decide, by decide, by decide +kernel⟩, g_Tm 896 (by decide +kernel) rfl⟩
set_option maxHeartbeats 4000000 in
set_option maxRecDepth 100000 in
theorem mv_Job_perform : g_mv M_Job_perform 2 := ⟨⟨g_Tm 91 (by decide +kernel) rfl, g_Tm 1048 rfl rfl, by decide, by decide, by decide +kernel⟩, g_Tm 1047 (by decide +kernel) rfl, g_Tm 20 (by decide +kernel) rfl⟩
set_option maxHeartbeats 4000000 in
set_option maxRecDepth 100000 in
theorem mv_Job_placedX : g_mv M_Job_placedX 1 := ⟨⟨g_Tm 91 (by decide +kernel) rfl, g_Tm 1087 rfl rfl, by decide, by decide, by decide +kernel⟩, g_Tm 1086 (by decide +kernel) rfl, g_Tm 24 (by decide +kernel) rfl⟩
set_option maxHeartbeats 4000000 in
set_option maxRecDepth 100000 in
theorem mv_Job_placedY : g_mv M_Job_placedY 1 := ⟨⟨g_Tm 91 (by decide +kernel) rfl, g_Tm 1091 rfl rfl, by decide, by decide, by decide +kernel⟩, g_Tm 1090 (by decide +kernel) rfl, g_Tm 25 (by decide +kernel) rfl⟩
set_option maxHeartbeats 4000000 in
set_option maxRecDepth 100000 in
theorem mv_Job_placesFor : g_mv M_Job_placesFor 1 := ⟨⟨g_Tm 91 (by decide +kernel) rfl, g_Tm 969 rfl rfl, by decide, by decide, by decide +kernel⟩, g_Tm 968 (by decide +kernel) rfl, g_Tm 15 (by decide +kernel) rfl⟩
set_option maxHeartbeats 4000000 in
set_option maxRecDepth 100000 in
theorem mv_Job_reckon : g_mv M_Job_reckon 1 := ⟨⟨g_Tm 91 (by decide +kernel) rfl, g_Tm 1181 rfl rfl, by decide, by decide, by decide +kernel⟩, g_Tm 1180 (by decide +kernel) rfl, g_Tm 29 (by decide +kernel) rfl⟩
set_option maxHeartbeats 4000000 in
set_option maxRecDepth 100000 in
theorem mv_Job_resultOf : g_mv M_Job_resultOf 1 := ⟨⟨g_Tm 91 (by decide +kernel) rfl, g_Tm 918 rfl rfl, by decide, by decide, by decide +kernel⟩, g_Tm 917 (by decide +kernel) rfl, g_Tm 12 (by decide +kernel) rfl⟩
set_option maxHeartbeats 4000000 in
set_option maxRecDepth 100000 in
theorem mv_Job_step : g_mv M_Job_step 0 := ⟨⟨g_Tm 91 (by decide +kernel) rfl, g_Tm 885 rfl rfl, by decide, by decide, by decide +kernel⟩, g_Tm 883 (by decide +kernel) rfl, g_Tm 884 (by decide +kernel) rfl⟩
set_option maxHeartbeats 4000000 in
set_option maxRecDepth 100000 in
theorem mv_Job_use : g_mv M_Job_use 1 := ⟨⟨g_Tm 91 (by decide +kernel) rfl, g_Tm 1133 rfl rfl, by decide, by decide, by decide +kernel⟩, g_Tm 1132 (by decide +kernel) rfl, g_Tm 28 (by decide +kernel) rfl⟩
set_option maxHeartbeats 4000000 in
set_option maxRecDepth 100000 in
theorem mv_Machine_anySticks : g_mv M_Machine_anySticks 0 := ⟨⟨g_Tm 100 (by decide +kernel) rfl, g_Tm 1229 rfl rfl, by decide, by decide, by decide +kernel⟩, g_Tm 1228 (by decide +kernel) rfl, g_Tm 30 (by decide +kernel) rfl⟩
set_option maxHeartbeats 4000000 in
set_option maxRecDepth 100000 in
theorem mv_Machine_empty : g_mv M_Machine_empty 1 := ⟨⟨g_Tm 100 (by decide +kernel) rfl, g_Tm 740 rfl rfl, by decide, by decide, by decide +kernel⟩, g_Tm 739 (by decide +kernel) rfl, g_Tm 6 (by decide +kernel) rfl⟩
set_option maxHeartbeats 4000000 in
set_option maxRecDepth 100000 in
theorem mv_Machine_feed : g_mv M_Machine_feed 0 := ⟨⟨g_Tm 100 (by decide +kernel) rfl, g_Tm 1267 rfl rfl, by decide, by decide, by decide +kernel⟩, g_Tm 1266 (by decide +kernel) rfl, g_Tm 37 (by decide +kernel) rfl⟩
set_option maxHeartbeats 4000000 in
set_option maxRecDepth 100000 in
theorem mv_Machine_ifFree : g_mv M_Machine_ifFree 1 := ⟨⟨g_Tm 100 (by decide +kernel) rfl, g_Tm 1247 rfl rfl, by decide, by decide, by decide +kernel⟩, g_Tm 1246 (by decide +kernel) rfl, g_Tm 34 (by decide +kernel) rfl⟩
set_option maxHeartbeats 4000000 in
set_option maxRecDepth 100000 in
theorem mv_Machine_inside : g_mv M_Machine_inside 0 := ⟨⟨g_Tm 100 (by decide +kernel) rfl, g_Tm 786 rfl rfl, by decide, by decide, by decide +kernel⟩, g_Tm 785 (by decide +kernel) rfl, g_Tm 7 (by decide +kernel) rfl⟩
set_option maxHeartbeats 4000000 in
set_option maxRecDepth 100000 in
theorem mv_Machine_isInside : g_mv M_Machine_isInside 1 := ⟨⟨g_Tm 100 (by decide +kernel) rfl, g_Tm 1276 rfl rfl, by decide, by decide, by decide +kernel⟩, g_Tm 1275 (by decide +kernel) rfl, g_Tm 39 (by decide +kernel) rfl⟩
set_option maxHeartbeats 4000000 in
set_option maxRecDepth 100000 in
theorem ms_Machine_isSection : g_ms M_Machine_isSection 1 := ⟨⟨g_Tm 100 (by decide +kernel) rfl, g_Tm 728 rfl rfl, by decide, by decide, by decide +kernel⟩, g_Tm 727 (by decide +kernel) rfl⟩
set_option maxHeartbeats 4000000 in
set_option maxRecDepth 100000 in
theorem mv_Machine_move : g_mv M_Machine_move 2 := ⟨⟨g_Tm 100 (by decide +kernel) rfl, g_Tm 1251 rfl rfl, by decide, by decide, by decide +kernel⟩, g_Tm 1250 (by decide +kernel) rfl, g_Tm 35 (by decide +kernel) rfl⟩
set_option maxHeartbeats 4000000 in
set_option maxRecDepth 100000 in
theorem mv_Machine_moveAll : g_mv M_Machine_moveAll 0 := ⟨⟨g_Tm 100 (by decide +kernel) rfl, g_Tm 1234 rfl rfl, by decide, by decide, by decide +kernel⟩, g_Tm 1233 (by decide +kernel) rfl, g_Tm 31 (by decide +kernel) rfl⟩
set_option maxHeartbeats 4000000 in
set_option maxRecDepth 100000 in
theorem mv_Machine_moveFrom : g_mv M_Machine_moveFrom 1 := ⟨⟨g_Tm 100 (by decide +kernel) rfl, g_Tm 1238 rfl rfl, by decide, by decide, by decide +kernel⟩, g_Tm 1237 (by decide +kernel) rfl, g_Tm 32 (by decide +kernel) rfl⟩
set_option maxHeartbeats 4000000 in
set_option maxRecDepth 100000 in
theorem mv_Machine_nextToMake : g_mv M_Machine_nextToMake 0 := ⟨⟨g_Tm 100 (by decide +kernel) rfl, g_Tm 1271 rfl rfl, by decide, by decide, by decide +kernel⟩, g_Tm 1270 (by decide +kernel) rfl, g_Tm 38 (by decide +kernel) rfl⟩
set_option maxHeartbeats 4000000 in
set_option maxRecDepth 100000 in
theorem mv_Machine_pass : g_mv M_Machine_pass 0 := ⟨⟨g_Tm 100 (by decide +kernel) rfl, g_Tm 1223 rfl rfl, by decide, by decide, by decide +kernel⟩, g_Tm 1221 (by decide +kernel) rfl, g_Tm 1222 (by decide +kernel) rfl⟩
set_option maxHeartbeats 4000000 in
set_option maxRecDepth 100000 in
theorem mv_Machine_place : g_mv M_Machine_place 3 := ⟨⟨g_Tm 100 (by decide +kernel) rfl, g_Tm 1263 rfl rfl, by decide, by decide, by decide +kernel⟩, g_Tm 1262 (by decide +kernel) rfl, g_Tm 36 (by decide +kernel) rfl⟩
set_option maxHeartbeats 4000000 in
set_option maxRecDepth 100000 in
theorem mv_Machine_remove : g_mv M_Machine_remove 1 := ⟨⟨g_Tm 100 (by decide +kernel) rfl, g_Tm 736 rfl rfl, by decide, by decide, by decide +kernel⟩, g_Tm 734 (by decide +kernel) rfl, g_Tm 735 (by decide +kernel) rfl⟩
set_option maxHeartbeats 4000000 in
set_option maxRecDepth 100000 in
theorem mv_Machine_state : g_mv M_Machine_state 0 := ⟨⟨g_Tm 100 (by decide +kernel) rfl, g_Tm 781 rfl rfl, by decide, by decide, by decide +kernel⟩, g_Tm 779 (by decide +kernel) rfl, g_Tm 780 (by decide +kernel) rfl⟩
set_option maxHeartbeats 4000000 in
set_option maxRecDepth 100000 in
theorem mv_Machine_wayFrom : g_mv M_Machine_wayFrom 1 := ⟨⟨g_Tm 100 (by decide +kernel) rfl, g_Tm 1242 rfl rfl, by decide, by decide, by decide +kernel⟩, g_Tm 1241 (by decide +kernel) rfl, g_Tm 33 (by decide +kernel) rfl⟩
set_option maxHeartbeats 4000000 in
set_option maxRecDepth 100000 in
theorem mv_Order_begin : g_mv M_Order_begin 2 := ⟨⟨g_Tm 99 (by decide +kernel) rfl, g_Tm 658 rfl rfl, by decide, by decide, by decide +kernel⟩, g_Tm 656 (by decide +kernel) rfl, g_Tm 657 (by decide +kernel) rfl⟩
set_option maxHeartbeats 4000000 in
set_option maxRecDepth 100000 in
theorem mv_Order_complete : g_mv M_Order_complete 1 := ⟨⟨g_Tm 99 (by decide +kernel) rfl, g_Tm 1187 rfl rfl, by decide, by decide, by decide +kernel⟩, g_Tm 1185 (by decide +kernel) rfl, g_Tm 1186 (by decide +kernel) rfl⟩
set_option maxHeartbeats 4000000 in
set_option maxRecDepth 100000 in
theorem mv_Order_copyOf : g_mv M_Order_copyOf 1 := ⟨⟨g_Tm 99 (by decide +kernel) rfl, g_Tm 760 rfl rfl, by decide, by decide, by decide +kernel⟩, g_Tm 758 (by decide +kernel) rfl, g_Tm 759 (by decide +kernel) rfl⟩
set_option maxHeartbeats 4000000 in
set_option maxRecDepth 100000 in
theorem mv_Order_firstPage : g_mv M_Order_firstPage 1 := ⟨⟨g_Tm 99 (by decide +kernel) rfl, g_Tm 764 rfl rfl, by decide, by decide, by decide +kernel⟩, g_Tm 762 (by decide +kernel) rfl, g_Tm 763 (by decide +kernel) rfl⟩
set_option maxHeartbeats 4000000 in
set_option maxRecDepth 100000 in
theorem mv_Order_isLeft : g_mv M_Order_isLeft 1 := ⟨⟨g_Tm 99 (by decide +kernel) rfl, g_Tm 1259 rfl rfl, by decide, by decide, by decide +kernel⟩, g_Tm 1257 (by decide +kernel) rfl, g_Tm 1258 (by decide +kernel) rfl⟩
set_option maxHeartbeats 4000000 in
set_option maxRecDepth 100000 in
theorem mv_Order_left : g_mv M_Order_left 0 := ⟨⟨g_Tm 99 (by decide +kernel) rfl, g_Tm 492 rfl rfl, by decide, by decide, by decide +kernel⟩, g_Tm 490 (by decide +kernel) rfl, g_Tm 491 (by decide +kernel) rfl⟩
set_option maxHeartbeats 4000000 in
set_option maxRecDepth 100000 in
theorem mv_Order_putOut : g_mv M_Order_putOut 1 := ⟨⟨g_Tm 99 (by decide +kernel) rfl, g_Tm 1255 rfl rfl, by decide, by decide, by decide +kernel⟩, g_Tm 1253 (by decide +kernel) rfl, g_Tm 1254 (by decide +kernel) rfl⟩
set_option maxHeartbeats 4000000 in
set_option maxRecDepth 100000 in
theorem mv_Order_secondPage : g_mv M_Order_secondPage 1 := ⟨⟨g_Tm 99 (by decide +kernel) rfl, g_Tm 772 rfl rfl, by decide, by decide, by decide +kernel⟩, g_Tm 770 (by decide +kernel) rfl, g_Tm 771 (by decide +kernel) rfl⟩
set_option maxHeartbeats 4000000 in
set_option maxRecDepth 100000 in
theorem mv_Order_sides : g_mv M_Order_sides 0 := ⟨⟨g_Tm 99 (by decide +kernel) rfl, g_Tm 768 rfl rfl, by decide, by decide, by decide +kernel⟩, g_Tm 766 (by decide +kernel) rfl, g_Tm 767 (by decide +kernel) rfl⟩
set_option maxHeartbeats 4000000 in
set_option maxRecDepth 100000 in
theorem mv_Packer_add : g_mv M_Packer_add 1 := ⟨⟨g_Tm 101 (by decide +kernel) rfl, g_Tm 704 rfl rfl, by decide, by decide, by decide +kernel⟩, g_Tm 703 (by decide +kernel) rfl, g_Tm 2 (by decide +kernel) rfl⟩
set_option maxHeartbeats 4000000 in
set_option maxRecDepth 100000 in
theorem ms_Packer_linesAlike : g_ms M_Packer_linesAlike 4 := ⟨⟨g_Tm 101 (by decide +kernel) rfl, g_Tm 699 rfl rfl, by decide, by decide, by decide +kernel⟩, g_Tm 698 (by decide +kernel) rfl⟩
set_option maxHeartbeats 4000000 in
set_option maxRecDepth 100000 in
theorem mv_Packer_octetsAlike : g_mv M_Packer_octetsAlike 1 := ⟨⟨g_Tm 101 (by decide +kernel) rfl, g_Tm 712 rfl rfl, by decide, by decide, by decide +kernel⟩, g_Tm 711 (by decide +kernel) rfl, g_Tm 4 (by decide +kernel) rfl⟩
set_option maxHeartbeats 4000000 in
set_option maxRecDepth 100000 in
theorem mv_Packer_octetsApart : g_mv M_Packer_octetsApart 1 := ⟨⟨g_Tm 101 (by decide +kernel) rfl, g_Tm 716 rfl rfl, by decide, by decide, by decide +kernel⟩, g_Tm 715 (by decide +kernel) rfl, g_Tm 5 (by decide +kernel) rfl⟩
set_option maxHeartbeats 4000000 in
set_option maxRecDepth 100000 in
theorem mv_Packer_pack : g_mv M_Packer_pack 3 := ⟨⟨g_Tm 101 (by decide +kernel) rfl, g_Tm 696 rfl rfl, by decide, by decide, by decide +kernel⟩, g_Tm 694 (by decide +kernel) rfl, g_Tm 695 (by decide +kernel) rfl⟩
set_option maxHeartbeats 4000000 in
set_option maxRecDepth 100000 in
theorem mv_Packer_packLine : g_mv M_Packer_packLine 1 := ⟨⟨g_Tm 101 (by decide +kernel) rfl, g_Tm 708 rfl rfl, by decide, by decide, by decide +kernel⟩, g_Tm 707 (by decide +kernel) rfl, g_Tm 3 (by decide +kernel) rfl⟩
set_option maxHeartbeats 4000000 in
set_option maxRecDepth 100000 in
theorem mv_Pages_clean : g_mv M_Pages_clean 0 := ⟨⟨g_Tm 98 (by decide +kernel) rfl, g_Tm 653 rfl rfl, by decide, by decide, by decide +kernel⟩, g_Tm 652 (by decide +kernel) rfl, g_Tm 1 (by decide +kernel) rfl⟩
set_option maxHeartbeats 4000000 in
set_option maxRecDepth 100000 in
theorem mv_Pages_clear : g_mv M_Pages_clear 0 := ⟨⟨g_Tm 98 (by decide +kernel) rfl, g_Tm 649 rfl rfl, by decide, by decide, by decide +kernel⟩, g_Tm 647 (by decide +kernel) rfl, g_Tm 648 (by decide +kernel) rfl⟩
set_option maxHeartbeats 4000000 in
set_option maxRecDepth 100000 in
theorem ms_Pages_dots : g_ms M_Pages_dots 2 := ⟨⟨g_Tm 98 (by decide +kernel) rfl, g_Tm 1142 rfl rfl, by decide, by decide, by decide +kernel⟩, g_Tm 1141 (by decide +kernel) rfl⟩
set_option maxHeartbeats 4000000 in
set_option maxRecDepth 100000 in
theorem mv_Pages_isFull : g_mv M_Pages_isFull 0 := ⟨⟨g_Tm 98 (by decide +kernel) rfl, g_Tm 1020 rfl rfl, by decide, by decide, by decide +kernel⟩, g_Tm 1018 (by decide +kernel) rfl, g_Tm 1019 (by decide +kernel) rfl⟩
set_option maxHeartbeats 4000000 in
set_option maxRecDepth 100000 in
theorem mv_Pages_isKept : g_mv M_Pages_isKept 1 := ⟨⟨g_Tm 98 (by decide +kernel) rfl, g_Tm 687 rfl rfl, by decide, by decide, by decide +kernel⟩, g_Tm 685 (by decide +kernel) rfl, g_Tm 686 (by decide +kernel) rfl⟩
set_option maxHeartbeats 4000000 in
set_option maxRecDepth 100000 in
theorem mv_Pages_keep : g_mv M_Pages_keep 0 := ⟨⟨g_Tm 98 (by decide +kernel) rfl, g_Tm 1153 rfl rfl, by decide, by decide, by decide +kernel⟩, g_Tm 1151 (by decide +kernel) rfl, g_Tm 1152 (by decide +kernel) rfl⟩
set_option maxHeartbeats 4000000 in
set_option maxRecDepth 100000 in
theorem mv_Pages_line : g_mv M_Pages_line 2 := ⟨⟨g_Tm 98 (by decide +kernel) rfl, g_Tm 683 rfl rfl, by decide, by decide, by decide +kernel⟩, g_Tm 681 (by decide +kernel) rfl, g_Tm 682 (by decide +kernel) rfl⟩
set_option maxHeartbeats 4000000 in
set_option maxRecDepth 100000 in
theorem ms_Pages_marksOf : g_ms M_Pages_marksOf 2 := ⟨⟨g_Tm 98 (by decide +kernel) rfl, g_Tm 1005 rfl rfl, by decide, by decide, by decide +kernel⟩, g_Tm 1004 (by decide +kernel) rfl⟩
set_option maxHeartbeats 4000000 in
set_option maxRecDepth 100000 in
theorem mv_Pages_paint : g_mv M_Pages_paint 2 := ⟨⟨g_Tm 98 (by decide +kernel) rfl, g_Tm 1137 rfl rfl, by decide, by decide, by decide +kernel⟩, g_Tm 1135 (by decide +kernel) rfl, g_Tm 1136 (by decide +kernel) rfl⟩
set_option maxHeartbeats 4000000 in
set_option maxRecDepth 100000 in
theorem mv_Path_add : g_mv M_Path_add 3 := ⟨⟨g_Tm 97 (by decide +kernel) rfl, g_Tm 1099 rfl rfl, by decide, by decide, by decide +kernel⟩, g_Tm 1098 (by decide +kernel) rfl, g_Tm 26 (by decide +kernel) rfl⟩
set_option maxHeartbeats 4000000 in
set_option maxRecDepth 100000 in
theorem mv_Path_begin : g_mv M_Path_begin 2 := ⟨⟨g_Tm 97 (by decide +kernel) rfl, g_Tm 1095 rfl rfl, by decide, by decide, by decide +kernel⟩, g_Tm 1093 (by decide +kernel) rfl, g_Tm 1094 (by decide +kernel) rfl⟩
set_option maxHeartbeats 4000000 in
set_option maxRecDepth 100000 in
theorem mv_Path_bend : g_mv M_Path_bend 3 := ⟨⟨g_Tm 97 (by decide +kernel) rfl, g_Tm 1112 rfl rfl, by decide, by decide, by decide +kernel⟩, g_Tm 1110 (by decide +kernel) rfl, g_Tm 1111 (by decide +kernel) rfl⟩
set_option maxHeartbeats 4000000 in
set_option maxRecDepth 100000 in
theorem mv_Path_clear : g_mv M_Path_clear 0 := ⟨⟨g_Tm 97 (by decide +kernel) rfl, g_Tm 645 rfl rfl, by decide, by decide, by decide +kernel⟩, g_Tm 643 (by decide +kernel) rfl, g_Tm 644 (by decide +kernel) rfl⟩
set_option maxHeartbeats 4000000 in
set_option maxRecDepth 100000 in
theorem mv_Path_close : g_mv M_Path_close 0 := ⟨⟨g_Tm 97 (by decide +kernel) rfl, g_Tm 1128 rfl rfl, by decide, by decide, by decide +kernel⟩, g_Tm 1126 (by decide +kernel) rfl, g_Tm 1127 (by decide +kernel) rfl⟩
set_option maxHeartbeats 4000000 in
set_option maxRecDepth 100000 in
theorem mv_Path_curve : g_mv M_Path_curve 0 := ⟨⟨g_Tm 97 (by decide +kernel) rfl, g_Tm 1116 rfl rfl, by decide, by decide, by decide +kernel⟩, g_Tm 1114 (by decide +kernel) rfl, g_Tm 1115 (by decide +kernel) rfl⟩
set_option maxHeartbeats 4000000 in
set_option maxRecDepth 100000 in
theorem mv_Path_goOn : g_mv M_Path_goOn 0 := ⟨⟨g_Tm 97 (by decide +kernel) rfl, g_Tm 1107 rfl rfl, by decide, by decide, by decide +kernel⟩, g_Tm 1106 (by decide +kernel) rfl, g_Tm 27 (by decide +kernel) rfl⟩
set_option maxHeartbeats 4000000 in
set_option maxRecDepth 100000 in
theorem ms_Path_halve : g_ms M_Path_halve 3 := ⟨⟨g_Tm 97 (by decide +kernel) rfl, g_Tm 1121 rfl rfl, by decide, by decide, by decide +kernel⟩, g_Tm 1120 (by decide +kernel) rfl⟩
set_option maxHeartbeats 4000000 in
set_option maxRecDepth 100000 in
theorem mv_Path_lineTo : g_mv M_Path_lineTo 2 := ⟨⟨g_Tm 97 (by decide +kernel) rfl, g_Tm 1103 rfl rfl, by decide, by decide, by decide +kernel⟩, g_Tm 1101 (by decide +kernel) rfl, g_Tm 1102 (by decide +kernel) rfl⟩
set_option maxHeartbeats 4000000 in
set_option maxRecDepth 100000 in
theorem ms_Path_middle : g_ms M_Path_middle 2 := ⟨⟨g_Tm 97 (by decide +kernel) rfl, g_Tm 1124 rfl rfl, by decide, by decide, by decide +kernel⟩, g_Tm 1123 (by decide +kernel) rfl⟩
set_option maxHeartbeats 4000000 in
set_option maxRecDepth 100000 in
theorem mv_Path_placesFor : g_mv M_Path_placesFor 1 := ⟨⟨g_Tm 97 (by decide +kernel) rfl, g_Tm 973 rfl rfl, by decide, by decide, by decide +kernel⟩, g_Tm 971 (by decide +kernel) rfl, g_Tm 972 (by decide +kernel) rfl⟩
set_option maxHeartbeats 4000000 in
set_option maxRecDepth 100000 in
theorem mv_Settings_clipLine : g_mv M_Settings_clipLine 1 := ⟨⟨g_Tm 95 (by decide +kernel) rfl, g_Tm 1009 rfl rfl, by decide, by decide, by decide +kernel⟩, g_Tm 1007 (by decide +kernel) rfl, g_Tm 1008 (by decide +kernel) rfl⟩
set_option maxHeartbeats 4000000 in
set_option maxRecDepth 100000 in
theorem mv_Settings_cutClip : g_mv M_Settings_cutClip 1 := ⟨⟨g_Tm 95 (by decide +kernel) rfl, g_Tm 1149 rfl rfl, by decide, by decide, by decide +kernel⟩, g_Tm 1147 (by decide +kernel) rfl, g_Tm 1148 (by decide +kernel) rfl⟩
set_option maxHeartbeats 4000000 in
set_option maxRecDepth 100000 in
theorem mv_Settings_greyNow : g_mv M_Settings_greyNow 0 := ⟨⟨g_Tm 95 (by decide +kernel) rfl, g_Tm 671 rfl rfl, by decide, by decide, by decide +kernel⟩, g_Tm 669 (by decide +kernel) rfl, g_Tm 670 (by decide +kernel) rfl⟩
set_option maxHeartbeats 4000000 in
set_option maxRecDepth 100000 in
theorem mv_Settings_move : g_mv M_Settings_move 2 := ⟨⟨g_Tm 95 (by decide +kernel) rfl, g_Tm 1158 rfl rfl, by decide, by decide, by decide +kernel⟩, g_Tm 1156 (by decide +kernel) rfl, g_Tm 1157 (by decide +kernel) rfl⟩
set_option maxHeartbeats 4000000 in
set_option maxRecDepth 100000 in
theorem mv_Settings_placedX : g_mv M_Settings_placedX 1 := ⟨⟨g_Tm 95 (by decide +kernel) rfl, g_Tm 931 rfl rfl, by decide, by decide, by decide +kernel⟩, g_Tm 929 (by decide +kernel) rfl, g_Tm 930 (by decide +kernel) rfl⟩
set_option maxHeartbeats 4000000 in
set_option maxRecDepth 100000 in
theorem mv_Settings_placedY : g_mv M_Settings_placedY 1 := ⟨⟨g_Tm 95 (by decide +kernel) rfl, g_Tm 944 rfl rfl, by decide, by decide, by decide +kernel⟩, g_Tm 942 (by decide +kernel) rfl, g_Tm 943 (by decide +kernel) rfl⟩
set_option maxHeartbeats 4000000 in
set_option maxRecDepth 100000 in
theorem mv_Settings_reset : g_mv M_Settings_reset 0 := ⟨⟨g_Tm 95 (by decide +kernel) rfl, g_Tm 641 rfl rfl, by decide, by decide, by decide +kernel⟩, g_Tm 639 (by decide +kernel) rfl, g_Tm 640 (by decide +kernel) rfl⟩
set_option maxHeartbeats 4000000 in
set_option maxRecDepth 100000 in
theorem mv_Settings_save : g_mv M_Settings_save 0 := ⟨⟨g_Tm 95 (by decide +kernel) rfl, g_Tm 1172 rfl rfl, by decide, by decide, by decide +kernel⟩, g_Tm 1170 (by decide +kernel) rfl, g_Tm 1171 (by decide +kernel) rfl⟩
set_option maxHeartbeats 4000000 in
set_option maxRecDepth 100000 in
theorem mv_Settings_saved : g_mv M_Settings_saved 0 := ⟨⟨g_Tm 95 (by decide +kernel) rfl, g_Tm 1024 rfl rfl, by decide, by decide, by decide +kernel⟩, g_Tm 1022 (by decide +kernel) rfl, g_Tm 1023 (by decide +kernel) rfl⟩
set_option maxHeartbeats 4000000 in
set_option maxRecDepth 100000 in
theorem mv_Settings_setGrey : g_mv M_Settings_setGrey 1 := ⟨⟨g_Tm 95 (by decide +kernel) rfl, g_Tm 1168 rfl rfl, by decide, by decide, by decide +kernel⟩, g_Tm 1166 (by decide +kernel) rfl, g_Tm 1167 (by decide +kernel) rfl⟩
set_option maxHeartbeats 4000000 in
set_option maxRecDepth 100000 in
theorem mv_Settings_stretch : g_mv M_Settings_stretch 2 := ⟨⟨g_Tm 95 (by decide +kernel) rfl, g_Tm 1164 rfl rfl, by decide, by decide, by decide +kernel⟩, g_Tm 1162 (by decide +kernel) rfl, g_Tm 1163 (by decide +kernel) rfl⟩
set_option maxHeartbeats 4000000 in
set_option maxRecDepth 100000 in
theorem mv_Settings_stretchedX : g_mv M_Settings_stretchedX 1 := ⟨⟨g_Tm 95 (by decide +kernel) rfl, g_Tm 935 rfl rfl, by decide, by decide, by decide +kernel⟩, g_Tm 933 (by decide +kernel) rfl, g_Tm 934 (by decide +kernel) rfl⟩
set_option maxHeartbeats 4000000 in
set_option maxRecDepth 100000 in
theorem mv_Settings_stretchedY : g_mv M_Settings_stretchedY 1 := ⟨⟨g_Tm 95 (by decide +kernel) rfl, g_Tm 948 rfl rfl, by decide, by decide, by decide +kernel⟩, g_Tm 946 (by decide +kernel) rfl, g_Tm 947 (by decide +kernel) rfl⟩
set_option maxHeartbeats 4000000 in
set_option maxRecDepth 100000 in
theorem mv_Settings_takeBack : g_mv M_Settings_takeBack 0 := ⟨⟨g_Tm 95 (by decide +kernel) rfl, g_Tm 1177 rfl rfl, by decide, by decide, by decide +kernel⟩, g_Tm 1175 (by decide +kernel) rfl, g_Tm 1176 (by decide +kernel) rfl⟩
set_option maxHeartbeats 4000000 in
set_option maxRecDepth 100000 in
theorem mv_Text_append : g_mv M_Text_append 2 := ⟨⟨g_Tm 90 (by decide +kernel) rfl, g_Tm 474 rfl rfl, by decide, by decide, by decide +kernel⟩, g_Tm 472 (by decide +kernel) rfl, g_Tm 473 (by decide +kernel) rfl⟩
set_option maxHeartbeats 4000000 in
set_option maxRecDepth 100000 in
theorem mv_Text_behind : g_mv M_Text_behind 1 := ⟨⟨g_Tm 90 (by decide +kernel) rfl, g_Tm 1032 rfl rfl, by decide, by decide, by decide +kernel⟩, g_Tm 1030 (by decide +kernel) rfl, g_Tm 1031 (by decide +kernel) rfl⟩
set_option maxHeartbeats 4000000 in
set_option maxRecDepth 100000 in
theorem mv_Text_behindDigits : g_mv M_Text_behindDigits 1 := ⟨⟨g_Tm 90 (by decide +kernel) rfl, g_Tm 1040 rfl rfl, by decide, by decide, by decide +kernel⟩, g_Tm 1039 (by decide +kernel) rfl, g_Tm 19 (by decide +kernel) rfl⟩
set_option maxHeartbeats 4000000 in
set_option maxRecDepth 100000 in
theorem ms_Text_byteOf : g_ms M_Text_byteOf 2 := ⟨⟨g_Tm 90 (by decide +kernel) rfl, g_Tm 480 rfl rfl, by decide, by decide, by decide +kernel⟩, g_Tm 479 (by decide +kernel) rfl⟩
set_option maxHeartbeats 4000000 in
set_option maxRecDepth 100000 in
theorem mv_Text_clear : g_mv M_Text_clear 0 := ⟨⟨g_Tm 90 (by decide +kernel) rfl, g_Tm 662 rfl rfl, by decide, by decide, by decide +kernel⟩, g_Tm 660 (by decide +kernel) rfl, g_Tm 661 (by decide +kernel) rfl⟩
set_option maxHeartbeats 4000000 in
set_option maxRecDepth 100000 in
theorem mv_Text_closing : g_mv M_Text_closing 1 := ⟨⟨g_Tm 90 (by decide +kernel) rfl, g_Tm 1036 rfl rfl, by decide, by decide, by decide +kernel⟩, g_Tm 1034 (by decide +kernel) rfl, g_Tm 1035 (by decide +kernel) rfl⟩
set_option maxHeartbeats 4000000 in
set_option maxRecDepth 100000 in
theorem mv_Text_copy : g_mv M_Text_copy 1 := ⟨⟨g_Tm 90 (by decide +kernel) rfl, g_Tm 606 rfl rfl, by decide, by decide, by decide +kernel⟩, g_Tm 604 (by decide +kernel) rfl, g_Tm 605 (by decide +kernel) rfl⟩
set_option maxHeartbeats 4000000 in
set_option maxRecDepth 100000 in
theorem mv_Text_fault : g_mv M_Text_fault 0 := ⟨⟨g_Tm 90 (by decide +kernel) rfl, g_Tm 496 rfl rfl, by decide, by decide, by decide +kernel⟩, g_Tm 494 (by decide +kernel) rfl, g_Tm 495 (by decide +kernel) rfl⟩
set_option maxHeartbeats 4000000 in
set_option maxRecDepth 100000 in
theorem ms_Text_isPlain : g_ms M_Text_isPlain 2 := ⟨⟨g_Tm 90 (by decide +kernel) rfl, g_Tm 477 rfl rfl, by decide, by decide, by decide +kernel⟩, g_Tm 476 (by decide +kernel) rfl⟩
set_option maxHeartbeats 4000000 in
set_option maxRecDepth 100000 in
theorem ms_Text_isWord : g_ms M_Text_isWord 1 := ⟨⟨g_Tm 90 (by decide +kernel) rfl, g_Tm 505 rfl rfl, by decide, by decide, by decide +kernel⟩, g_Tm 504 (by decide +kernel) rfl⟩
set_option maxHeartbeats 4000000 in
set_option maxRecDepth 100000 in
theorem mv_Text_number : g_mv M_Text_number 1 := ⟨⟨g_Tm 90 (by decide +kernel) rfl, g_Tm 1052 rfl rfl, by decide, by decide, by decide +kernel⟩, g_Tm 1050 (by decide +kernel) rfl, g_Tm 1051 (by decide +kernel) rfl⟩
set_option maxHeartbeats 4000000 in
set_option maxRecDepth 100000 in
theorem mv_Text_sign : g_mv M_Text_sign 1 := ⟨⟨g_Tm 90 (by decide +kernel) rfl, g_Tm 629 rfl rfl, by decide, by decide, by decide +kernel⟩, g_Tm 627 (by decide +kernel) rfl, g_Tm 628 (by decide +kernel) rfl⟩
set_option maxHeartbeats 4000000 in
set_option maxRecDepth 100000 in
theorem mv_Text_skipBlanks : g_mv M_Text_skipBlanks 2 := ⟨⟨g_Tm 90 (by decide +kernel) rfl, g_Tm 625 rfl rfl, by decide, by decide, by decide +kernel⟩, g_Tm 623 (by decide +kernel) rfl, g_Tm 624 (by decide +kernel) rfl⟩
set_option maxHeartbeats 4000000 in
set_option maxRecDepth 100000 in
theorem mv_Values_drop : g_mv M_Values_drop 1 := ⟨⟨g_Tm 94 (by decide +kernel) rfl, g_Tm 633 rfl rfl, by decide, by decide, by decide +kernel⟩, g_Tm 631 (by decide +kernel) rfl, g_Tm 632 (by decide +kernel) rfl⟩
set_option maxHeartbeats 4000000 in
set_option maxRecDepth 100000 in
theorem mv_Values_isFull : g_mv M_Values_isFull 0 := ⟨⟨g_Tm 94 (by decide +kernel) rfl, g_Tm 961 rfl rfl, by decide, by decide, by decide +kernel⟩, g_Tm 959 (by decide +kernel) rfl, g_Tm 960 (by decide +kernel) rfl⟩
set_option maxHeartbeats 4000000 in
set_option maxRecDepth 100000 in
theorem mv_Values_isProcedure : g_mv M_Values_isProcedure 1 := ⟨⟨g_Tm 94 (by decide +kernel) rfl, g_Tm 905 rfl rfl, by decide, by decide, by decide +kernel⟩, g_Tm 903 (by decide +kernel) rfl, g_Tm 904 (by decide +kernel) rfl⟩
set_option maxHeartbeats 4000000 in
set_option maxRecDepth 100000 in
theorem mv_Values_peek : g_mv M_Values_peek 1 := ⟨⟨g_Tm 94 (by decide +kernel) rfl, g_Tm 909 rfl rfl, by decide, by decide, by decide +kernel⟩, g_Tm 907 (by decide +kernel) rfl, g_Tm 908 (by decide +kernel) rfl⟩
set_option maxHeartbeats 4000000 in
set_option maxRecDepth 100000 in
theorem mv_Values_push : g_mv M_Values_push 1 := ⟨⟨g_Tm 94 (by decide +kernel) rfl, g_Tm 1056 rfl rfl, by decide, by decide, by decide +kernel⟩, g_Tm 1054 (by decide +kernel) rfl, g_Tm 1055 (by decide +kernel) rfl⟩
set_option maxHeartbeats 4000000 in
set_option maxRecDepth 100000 in
theorem mv_M_alike : g_mv M_M_alike 3 := ⟨⟨g_Tm 102 (by decide +kernel) rfl, g_Tm 1666 rfl rfl, by decide, by decide, by decide +kernel⟩, g_Tm 1665 (by decide +kernel) rfl, g_Tm 77 (by decide +kernel) rfl⟩
set_option maxHeartbeats 4000000 in
set_option maxRecDepth 100000 in
theorem mv_M_along : g_mv M_M_along 6 := ⟨⟨g_Tm 102 (by decide +kernel) rfl, g_Tm 1603 rfl rfl, by decide, by decide, by decide +kernel⟩, g_Tm 1602 (by decide +kernel) rfl, g_Tm 68 (by decide +kernel) rfl⟩
set_option maxHeartbeats 4000000 in
set_option maxRecDepth 100000 in
theorem mv_M_byteOf : g_mv M_M_byteOf 3 := ⟨⟨g_Tm 102 (by decide +kernel) rfl, g_Tm 1654 rfl rfl, by decide, by decide, by decide +kernel⟩, g_Tm 1653 (by decide +kernel) rfl, g_Tm 74 (by decide +kernel) rfl⟩
set_option maxHeartbeats 4000000 in
set_option maxRecDepth 100000 in
theorem ms_M_cell : g_ms M_M_cell 2 := ⟨⟨g_Tm 102 (by decide +kernel) rfl, g_Tm 1610 rfl rfl, by decide, by decide, by decide +kernel⟩, g_Tm 1609 (by decide +kernel) rfl⟩
set_option maxHeartbeats 4000000 in
set_option maxRecDepth 100000 in
theorem mv_M_closing : g_mv M_M_closing 1 := ⟨⟨g_Tm 102 (by decide +kernel) rfl, g_Tm 1567 rfl rfl, by decide, by decide, by decide +kernel⟩, g_Tm 1566 (by decide +kernel) rfl, g_Tm 59 (by decide +kernel) rfl⟩
set_option maxHeartbeats 4000000 in
set_option maxRecDepth 100000 in
theorem mv_M_cut : g_mv M_M_cut 0 := ⟨⟨g_Tm 102 (by decide +kernel) rfl, g_Tm 1614 rfl rfl, by decide, by decide, by decide +kernel⟩, g_Tm 1613 (by decide +kernel) rfl, g_Tm 70 (by decide +kernel) rfl⟩
set_option maxHeartbeats 4000000 in
set_option maxRecDepth 100000 in
theorem mv_M_draw : g_mv M_M_draw 1 := ⟨⟨g_Tm 102 (by decide +kernel) rfl, g_Tm 1595 rfl rfl, by decide, by decide, by decide +kernel⟩, g_Tm 1594 (by decide +kernel) rfl, g_Tm 66 (by decide +kernel) rfl⟩
set_option maxHeartbeats 4000000 in
set_option maxRecDepth 100000 in
theorem mv_M_empty : g_mv M_M_empty 1 := ⟨⟨g_Tm 102 (by decide +kernel) rfl, g_Tm 1698 rfl rfl, by decide, by decide, by decide +kernel⟩, g_Tm 1697 (by decide +kernel) rfl, g_Tm 83 (by decide +kernel) rfl⟩
set_option maxHeartbeats 4000000 in
set_option maxRecDepth 100000 in
theorem mv_M_endJob : g_mv M_M_endJob 2 := ⟨⟨g_Tm 102 (by decide +kernel) rfl, g_Tm 1496 rfl rfl, by decide, by decide, by decide +kernel⟩, g_Tm 1495 (by decide +kernel) rfl, g_Tm 44 (by decide +kernel) rfl⟩
set_option maxHeartbeats 4000000 in
set_option maxRecDepth 100000 in
theorem mv_M_enter : g_mv M_M_enter 3 := ⟨⟨g_Tm 102 (by decide +kernel) rfl, g_Tm 1484 rfl rfl, by decide, by decide, by decide +kernel⟩, g_Tm 1483 (by decide +kernel) rfl, g_Tm 42 (by decide +kernel) rfl⟩
set_option maxHeartbeats 4000000 in
set_option maxRecDepth 100000 in
theorem mv_M_errorOf : g_mv M_M_errorOf 1 := ⟨⟨g_Tm 102 (by decide +kernel) rfl, g_Tm 1500 rfl rfl, by decide, by decide, by decide +kernel⟩, g_Tm 1499 (by decide +kernel) rfl, g_Tm 45 (by decide +kernel) rfl⟩
set_option maxHeartbeats 4000000 in
set_option maxRecDepth 100000 in
theorem mv_M_faultOf : g_mv M_M_faultOf 0 := ⟨⟨g_Tm 102 (by decide +kernel) rfl, g_Tm 1467 rfl rfl, by decide, by decide, by decide +kernel⟩, g_Tm 1466 (by decide +kernel) rfl, g_Tm 40 (by decide +kernel) rfl⟩
set_option maxHeartbeats 4000000 in
set_option maxRecDepth 100000 in
theorem mv_M_feed : g_mv M_M_feed 0 := ⟨⟨g_Tm 102 (by decide +kernel) rfl, g_Tm 1706 rfl rfl, by decide, by decide, by decide +kernel⟩, g_Tm 1705 (by decide +kernel) rfl, g_Tm 85 (by decide +kernel) rfl⟩
set_option maxHeartbeats 4000000 in
set_option maxRecDepth 100000 in
theorem mv_M_fill : g_mv M_M_fill 1 := ⟨⟨g_Tm 102 (by decide +kernel) rfl, g_Tm 1607 rfl rfl, by decide, by decide, by decide +kernel⟩, g_Tm 1606 (by decide +kernel) rfl, g_Tm 69 (by decide +kernel) rfl⟩
set_option maxHeartbeats 4000000 in
set_option maxRecDepth 100000 in
theorem mv_M_goes : g_mv M_M_goes 1 := ⟨⟨g_Tm 102 (by decide +kernel) rfl, g_Tm 1690 rfl rfl, by decide, by decide, by decide +kernel⟩, g_Tm 1689 (by decide +kernel) rfl, g_Tm 81 (by decide +kernel) rfl⟩
set_option maxHeartbeats 4000000 in
set_option maxRecDepth 100000 in
theorem mv_M_insideMany : g_mv M_M_insideMany 0 := ⟨⟨g_Tm 102 (by decide +kernel) rfl, g_Tm 1682 rfl rfl, by decide, by decide, by decide +kernel⟩, g_Tm 1681 (by decide +kernel) rfl, g_Tm 79 (by decide +kernel) rfl⟩
set_option maxHeartbeats 4000000 in
set_option maxRecDepth 100000 in
theorem ms_M_isDigit : g_ms M_M_isDigit 1 := ⟨⟨g_Tm 102 (by decide +kernel) rfl, g_Tm 1473 rfl rfl, by decide, by decide, by decide +kernel⟩, g_Tm 1472 (by decide +kernel) rfl⟩
set_option maxHeartbeats 4000000 in
set_option maxRecDepth 100000 in
theorem ms_M_isFar : g_ms M_M_isFar 2 := ⟨⟨g_Tm 102 (by decide +kernel) rfl, g_Tm 1520 rfl rfl, by decide, by decide, by decide +kernel⟩, g_Tm 1519 (by decide +kernel) rfl⟩
set_option maxHeartbeats 4000000 in
set_option maxRecDepth 100000 in
theorem mv_M_isIn : g_mv M_M_isIn 3 := ⟨⟨g_Tm 102 (by decide +kernel) rfl, g_Tm 1548 rfl rfl, by decide, by decide, by decide +kernel⟩, g_Tm 1547 (by decide +kernel) rfl, g_Tm 55 (by decide +kernel) rfl⟩
set_option maxHeartbeats 4000000 in
set_option maxRecDepth 100000 in
theorem mv_M_isKind : g_mv M_M_isKind 2 := ⟨⟨g_Tm 102 (by decide +kernel) rfl, g_Tm 1504 rfl rfl, by decide, by decide, by decide +kernel⟩, g_Tm 1503 (by decide +kernel) rfl, g_Tm 46 (by decide +kernel) rfl⟩
set_option maxHeartbeats 4000000 in
set_option maxRecDepth 100000 in
theorem ms_M_isLetter : g_ms M_M_isLetter 1 := ⟨⟨g_Tm 102 (by decide +kernel) rfl, g_Tm 1476 rfl rfl, by decide, by decide, by decide +kernel⟩, g_Tm 1475 (by decide +kernel) rfl⟩
set_option maxHeartbeats 4000000 in
set_option maxRecDepth 100000 in
theorem mv_M_isLikeAbove : g_mv M_M_isLikeAbove 2 := ⟨⟨g_Tm 102 (by decide +kernel) rfl, g_Tm 1650 rfl rfl, by decide, by decide, by decide +kernel⟩, g_Tm 1649 (by decide +kernel) rfl, g_Tm 73 (by decide +kernel) rfl⟩
set_option maxHeartbeats 4000000 in
set_option maxRecDepth 100000 in
theorem mv_M_isNear : g_mv M_M_isNear 1 := ⟨⟨g_Tm 102 (by decide +kernel) rfl, g_Tm 1524 rfl rfl, by decide, by decide, by decide +kernel⟩, g_Tm 1523 (by decide +kernel) rfl, g_Tm 50 (by decide +kernel) rfl⟩
set_option maxHeartbeats 4000000 in
set_option maxRecDepth 100000 in
theorem ms_M_isPixel : g_ms M_M_isPixel 2 := ⟨⟨g_Tm 102 (by decide +kernel) rfl, g_Tm 1638 rfl rfl, by decide, by decide, by decide +kernel⟩, g_Tm 1637 (by decide +kernel) rfl⟩
set_option maxHeartbeats 4000000 in
set_option maxRecDepth 100000 in
theorem mv_M_isRepeated : g_mv M_M_isRepeated 0 := ⟨⟨g_Tm 102 (by decide +kernel) rfl, g_Tm 1555 rfl rfl, by decide, by decide, by decide +kernel⟩, g_Tm 1554 (by decide +kernel) rfl, g_Tm 56 (by decide +kernel) rfl⟩
set_option maxHeartbeats 4000000 in
set_option maxRecDepth 100000 in
theorem ms_M_isSection : g_ms M_M_isSection 1 := ⟨⟨g_Tm 102 (by decide +kernel) rfl, g_Tm 1721 rfl rfl, by decide, by decide, by decide +kernel⟩, g_Tm 1720 (by decide +kernel) rfl⟩
set_option maxHeartbeats 4000000 in
set_option maxRecDepth 100000 in
theorem mv_M_line : g_mv M_M_line 2 := ⟨⟨g_Tm 102 (by decide +kernel) rfl, g_Tm 1662 rfl rfl, by decide, by decide, by decide +kernel⟩, g_Tm 1661 (by decide +kernel) rfl, g_Tm 76 (by decide +kernel) rfl⟩
set_option maxHeartbeats 4000000 in
set_option maxRecDepth 100000 in
theorem mv_M_look : g_mv M_M_look 1 := ⟨⟨g_Tm 102 (by decide +kernel) rfl, g_Tm 1544 rfl rfl, by decide, by decide, by decide +kernel⟩, g_Tm 1543 (by decide +kernel) rfl, g_Tm 54 (by decide +kernel) rfl⟩
set_option maxHeartbeats 4000000 in
set_option maxRecDepth 100000 in
theorem ms_M_meets : g_ms M_M_meets 6 := ⟨⟨g_Tm 102 (by decide +kernel) rfl, g_Tm 1551 rfl rfl, by decide, by decide, by decide +kernel⟩, g_Tm 1550 (by decide +kernel) rfl⟩
set_option maxHeartbeats 4000000 in
set_option maxRecDepth 100000 in
theorem ms_M_needs : g_ms M_M_needs 1 := ⟨⟨g_Tm 102 (by decide +kernel) rfl, g_Tm 1470 rfl rfl, by decide, by decide, by decide +kernel⟩, g_Tm 1469 (by decide +kernel) rfl⟩
set_option maxHeartbeats 4000000 in
set_option maxRecDepth 100000 in
theorem mv_M_next : g_mv M_M_next 0 := ⟨⟨g_Tm 102 (by decide +kernel) rfl, g_Tm 1492 rfl rfl, by decide, by decide, by decide +kernel⟩, g_Tm 1491 (by decide +kernel) rfl, g_Tm 43 (by decide +kernel) rfl⟩
set_option maxHeartbeats 4000000 in
set_option maxRecDepth 100000 in
theorem mv_M_noPath : g_mv M_M_noPath 0 := ⟨⟨g_Tm 102 (by decide +kernel) rfl, g_Tm 1480 rfl rfl, by decide, by decide, by decide +kernel⟩, g_Tm 1479 (by decide +kernel) rfl, g_Tm 41 (by decide +kernel) rfl⟩
set_option maxHeartbeats 4000000 in
set_option maxRecDepth 100000 in
theorem mv_M_number : g_mv M_M_number 1 := ⟨⟨g_Tm 102 (by decide +kernel) rfl, g_Tm 1512 rfl rfl, by decide, by decide, by decide +kernel⟩, g_Tm 1511 (by decide +kernel) rfl, g_Tm 48 (by decide +kernel) rfl⟩
set_option maxHeartbeats 4000000 in
set_option maxRecDepth 100000 in
theorem mv_M_order : g_mv M_M_order 1 := ⟨⟨g_Tm 102 (by decide +kernel) rfl, g_Tm 1579 rfl rfl, by decide, by decide, by decide +kernel⟩, g_Tm 1578 (by decide +kernel) rfl, g_Tm 62 (by decide +kernel) rfl⟩
set_option maxHeartbeats 4000000 in
set_option maxRecDepth 100000 in
theorem mv_M_out : g_mv M_M_out 1 := ⟨⟨g_Tm 102 (by decide +kernel) rfl, g_Tm 1658 rfl rfl, by decide, by decide, by decide +kernel⟩, g_Tm 1657 (by decide +kernel) rfl, g_Tm 75 (by decide +kernel) rfl⟩
set_option maxHeartbeats 4000000 in
set_option maxRecDepth 100000 in
theorem mv_M_pack : g_mv M_M_pack 2 := ⟨⟨g_Tm 102 (by decide +kernel) rfl, g_Tm 1646 rfl rfl, by decide, by decide, by decide +kernel⟩, g_Tm 1645 (by decide +kernel) rfl, g_Tm 72 (by decide +kernel) rfl⟩
set_option maxHeartbeats 4000000 in
set_option maxRecDepth 100000 in
theorem mv_M_place : g_mv M_M_place 3 := ⟨⟨g_Tm 102 (by decide +kernel) rfl, g_Tm 1599 rfl rfl, by decide, by decide, by decide +kernel⟩, g_Tm 1598 (by decide +kernel) rfl, g_Tm 67 (by decide +kernel) rfl⟩
set_option maxHeartbeats 4000000 in
set_option maxRecDepth 100000 in
theorem mv_M_placesFor : g_mv M_M_placesFor 1 := ⟨⟨g_Tm 102 (by decide +kernel) rfl, g_Tm 1540 rfl rfl, by decide, by decide, by decide +kernel⟩, g_Tm 1539 (by decide +kernel) rfl, g_Tm 53 (by decide +kernel) rfl⟩
set_option maxHeartbeats 4000000 in
set_option maxRecDepth 100000 in
theorem mv_M_push : g_mv M_M_push 2 := ⟨⟨g_Tm 102 (by decide +kernel) rfl, g_Tm 1571 rfl rfl, by decide, by decide, by decide +kernel⟩, g_Tm 1570 (by decide +kernel) rfl, g_Tm 60 (by decide +kernel) rfl⟩
set_option maxHeartbeats 4000000 in
set_option maxRecDepth 100000 in
theorem mv_M_quit : g_mv M_M_quit 0 := ⟨⟨g_Tm 102 (by decide +kernel) rfl, g_Tm 1591 rfl rfl, by decide, by decide, by decide +kernel⟩, g_Tm 1590 (by decide +kernel) rfl, g_Tm 65 (by decide +kernel) rfl⟩
set_option maxHeartbeats 4000000 in
set_option maxRecDepth 100000 in
theorem mv_M_quotient : g_mv M_M_quotient 0 := ⟨⟨g_Tm 102 (by decide +kernel) rfl, g_Tm 1516 rfl rfl, by decide, by decide, by decide +kernel⟩, g_Tm 1515 (by decide +kernel) rfl, g_Tm 49 (by decide +kernel) rfl⟩
set_option maxHeartbeats 4000000 in
set_option maxRecDepth 100000 in
theorem mv_M_reckon : g_mv M_M_reckon 1 := ⟨⟨g_Tm 102 (by decide +kernel) rfl, g_Tm 1575 rfl rfl, by decide, by decide, by decide +kernel⟩, g_Tm 1574 (by decide +kernel) rfl, g_Tm 61 (by decide +kernel) rfl⟩
set_option maxHeartbeats 4000000 in
set_option maxRecDepth 100000 in
theorem mv_M_repeat : g_mv M_M_repeat 0 := ⟨⟨g_Tm 102 (by decide +kernel) rfl, g_Tm 1587 rfl rfl, by decide, by decide, by decide +kernel⟩, g_Tm 1586 (by decide +kernel) rfl, g_Tm 64 (by decide +kernel) rfl⟩
set_option maxHeartbeats 4000000 in
set_option maxRecDepth 100000 in
theorem mv_M_result : g_mv M_M_result 1 := ⟨⟨g_Tm 102 (by decide +kernel) rfl, g_Tm 1508 rfl rfl, by decide, by decide, by decide +kernel⟩, g_Tm 1507 (by decide +kernel) rfl, g_Tm 47 (by decide +kernel) rfl⟩
set_option maxHeartbeats 4000000 in
set_option maxRecDepth 100000 in
theorem mv_M_shift : g_mv M_M_shift 2 := ⟨⟨g_Tm 102 (by decide +kernel) rfl, g_Tm 1702 rfl rfl, by decide, by decide, by decide +kernel⟩, g_Tm 1701 (by decide +kernel) rfl, g_Tm 84 (by decide +kernel) rfl⟩
set_option maxHeartbeats 4000000 in
set_option maxRecDepth 100000 in
theorem mv_M_sidesOf : g_mv M_M_sidesOf 0 := ⟨⟨g_Tm 102 (by decide +kernel) rfl, g_Tm 1694 rfl rfl, by decide, by decide, by decide +kernel⟩, g_Tm 1693 (by decide +kernel) rfl, g_Tm 82 (by decide +kernel) rfl⟩
set_option maxHeartbeats 4000000 in
set_option maxRecDepth 100000 in
theorem ms_M_sixteenth : g_ms M_M_sixteenth 2 := ⟨⟨g_Tm 102 (by decide +kernel) rfl, g_Tm 1531 rfl rfl, by decide, by decide, by decide +kernel⟩, g_Tm 1530 (by decide +kernel) rfl⟩
set_option maxHeartbeats 4000000 in
set_option maxRecDepth 100000 in
theorem mv_M_state : g_mv M_M_state 1 := ⟨⟨g_Tm 102 (by decide +kernel) rfl, g_Tm 1618 rfl rfl, by decide, by decide, by decide +kernel⟩, g_Tm 1617 (by decide +kernel) rfl, g_Tm 71 (by decide +kernel) rfl⟩
set_option maxHeartbeats 4000000 in
set_option maxRecDepth 100000 in
theorem mv_M_stateOf : g_mv M_M_stateOf 0 := ⟨⟨g_Tm 102 (by decide +kernel) rfl, g_Tm 1714 rfl rfl, by decide, by decide, by decide +kernel⟩, g_Tm 1713 (by decide +kernel) rfl, g_Tm 87 (by decide +kernel) rfl⟩
set_option maxHeartbeats 4000000 in
set_option maxRecDepth 100000 in
theorem mv_M_step : g_mv M_M_step 1 := ⟨⟨g_Tm 102 (by decide +kernel) rfl, g_Tm 1559 rfl rfl, by decide, by decide, by decide +kernel⟩, g_Tm 1558 (by decide +kernel) rfl, g_Tm 57 (by decide +kernel) rfl⟩
set_option maxHeartbeats 4000000 in
set_option maxRecDepth 100000 in
theorem mv_M_swap : g_mv M_M_swap 0 := ⟨⟨g_Tm 102 (by decide +kernel) rfl, g_Tm 1583 rfl rfl, by decide, by decide, by decide +kernel⟩, g_Tm 1582 (by decide +kernel) rfl, g_Tm 63 (by decide +kernel) rfl⟩
set_option maxHeartbeats 4000000 in
set_option maxRecDepth 100000 in
theorem mv_M_tickOnce : g_mv M_M_tickOnce 0 := ⟨⟨g_Tm 102 (by decide +kernel) rfl, g_Tm 1678 rfl rfl, by decide, by decide, by decide +kernel⟩, g_Tm 1677 (by decide +kernel) rfl, g_Tm 78 (by decide +kernel) rfl⟩
set_option maxHeartbeats 4000000 in
set_option maxRecDepth 100000 in
theorem mv_M_toMake : g_mv M_M_toMake 0 := ⟨⟨g_Tm 102 (by decide +kernel) rfl, g_Tm 1710 rfl rfl, by decide, by decide, by decide +kernel⟩, g_Tm 1709 (by decide +kernel) rfl, g_Tm 86 (by decide +kernel) rfl⟩
set_option maxHeartbeats 4000000 in
set_option maxRecDepth 100000 in
theorem mv_M_turn : g_mv M_M_turn 1 := ⟨⟨g_Tm 102 (by decide +kernel) rfl, g_Tm 1686 rfl rfl, by decide, by decide, by decide +kernel⟩, g_Tm 1685 (by decide +kernel) rfl, g_Tm 80 (by decide +kernel) rfl⟩
set_option maxHeartbeats 4000000 in
set_option maxRecDepth 100000 in
theorem mv_M_wordLong : g_mv M_M_wordLong 1 := ⟨⟨g_Tm 102 (by decide +kernel) rfl, g_Tm 1563 rfl rfl, by decide, by decide, by decide +kernel⟩, g_Tm 1562 (by decide +kernel) rfl, g_Tm 58 (by decide +kernel) rfl⟩
set_option maxHeartbeats 4000000 in
set_option maxRecDepth 100000 in
theorem mv_M_xOf : g_mv M_M_xOf 1 := ⟨⟨g_Tm 102 (by decide +kernel) rfl, g_Tm 1528 rfl rfl, by decide, by decide, by decide +kernel⟩, g_Tm 1527 (by decide +kernel) rfl, g_Tm 51 (by decide +kernel) rfl⟩
set_option maxHeartbeats 4000000 in
set_option maxRecDepth 100000 in
theorem mv_M_yOf : g_mv M_M_yOf 1 := ⟨⟨g_Tm 102 (by decide +kernel) rfl, g_Tm 1536 rfl rfl, by decide, by decide, by decide +kernel⟩, g_Tm 1535 (by decide +kernel) rfl, g_Tm 52 (by decide +kernel) rfl⟩
set_option maxHeartbeats 4000000 in
set_option maxRecDepth 100000 in
theorem ms_Long_bitCount : g_ms M_Long_bitCount 1 := ⟨⟨g_Tm 115 (by decide +kernel) rfl, g_Tm 1013 rfl rfl, by decide, by decide, by decide +kernel⟩, g_Tm 1012 (by decide +kernel) rfl⟩
set_option maxHeartbeats 4000000 in
set_option maxRecDepth 100000 in
theorem ms_Math_abs : g_ms M_Math_abs 1 := ⟨⟨g_Tm 105 (by decide +kernel) rfl, g_Tm 922 rfl rfl, by decide, by decide, by decide +kernel⟩, g_Tm 921 (by decide +kernel) rfl⟩
set_option maxHeartbeats 4000000 in
set_option maxRecDepth 100000 in
theorem ms_Math_floorDiv : g_ms M_Math_floorDiv 2 := ⟨⟨g_Tm 105 (by decide +kernel) rfl, g_Tm 939 rfl rfl, by decide, by decide, by decide +kernel⟩, g_Tm 938 (by decide +kernel) rfl⟩
set_option maxHeartbeats 4000000 in
set_option maxRecDepth 100000 in
theorem ms_Math_max : g_ms M_Math_max 2 := ⟨⟨g_Tm 105 (by decide +kernel) rfl, g_Tm 540 rfl rfl, by decide, by decide, by decide +kernel⟩, g_Tm 539 (by decide +kernel) rfl⟩
set_option maxHeartbeats 4000000 in
set_option maxRecDepth 100000 in
theorem ms_Math_max1 : g_ms M_Math_max1 2 := ⟨⟨g_Tm 105 (by decide +kernel) rfl, g_Tm 998 rfl rfl, by decide, by decide, by decide +kernel⟩, g_Tm 997 (by decide +kernel) rfl⟩
set_option maxHeartbeats 4000000 in
set_option maxRecDepth 100000 in
theorem ms_Math_min1 : g_ms M_Math_min1 2 := ⟨⟨g_Tm 105 (by decide +kernel) rfl, g_Tm 543 rfl rfl, by decide, by decide, by decide +kernel⟩, g_Tm 542 (by decide +kernel) rfl⟩
set_option maxHeartbeats 4000000 in
set_option maxRecDepth 100000 in
theorem ms_Math_min : g_ms M_Math_min 2 := ⟨⟨g_Tm 105 (by decide +kernel) rfl, g_Tm 995 rfl rfl, by decide, by decide, by decide +kernel⟩, g_Tm 994 (by decide +kernel) rfl⟩
set_option maxHeartbeats 4000000 in
set_option maxRecDepth 100000 in
theorem mv_String_coder : g_mv M_String_coder 0 := ⟨⟨g_Tm 103 (by decide +kernel) rfl, g_Tm 531 rfl rfl, by decide, by decide, by decide +kernel⟩, g_Tm 529 (by decide +kernel) rfl, g_Tm 530 (by decide +kernel) rfl⟩
set_option maxHeartbeats 4000000 in
set_option maxRecDepth 100000 in
theorem mv_String_indexOf : g_mv M_String_indexOf 1 := ⟨⟨g_Tm 103 (by decide +kernel) rfl, g_Tm 513 rfl rfl, by decide, by decide, by decide +kernel⟩, g_Tm 511 (by decide +kernel) rfl, g_Tm 512 (by decide +kernel) rfl⟩
set_option maxHeartbeats 4000000 in
set_option maxRecDepth 100000 in
theorem mv_String_indexOf1 : g_mv M_String_indexOf1 2 := ⟨⟨g_Tm 103 (by decide +kernel) rfl, g_Tm 517 rfl rfl, by decide, by decide, by decide +kernel⟩, g_Tm 515 (by decide +kernel) rfl, g_Tm 516 (by decide +kernel) rfl⟩
set_option maxHeartbeats 4000000 in
set_option maxRecDepth 100000 in
theorem mv_String_isLatin1 : g_mv M_String_isLatin1 0 := ⟨⟨g_Tm 103 (by decide +kernel) rfl, g_Tm 521 rfl rfl, by decide, by decide, by decide +kernel⟩, g_Tm 519 (by decide +kernel) rfl, g_Tm 520 (by decide +kernel) rfl⟩
set_option maxHeartbeats 4000000 in
set_option maxRecDepth 100000 in
theorem mv_String_length : g_mv M_String_length 0 := ⟨⟨g_Tm 103 (by decide +kernel) rfl, g_Tm 527 rfl rfl, by decide, by decide, by decide +kernel⟩, g_Tm 525 (by decide +kernel) rfl, g_Tm 526 (by decide +kernel) rfl⟩
set_option maxHeartbeats 4000000 in
set_option maxRecDepth 100000 in
theorem ms_StringLatin1_canEncode : g_ms M_StringLatin1_canEncode 1 := ⟨⟨g_Tm 104 (by decide +kernel) rfl, g_Tm 537 rfl rfl, by decide, by decide, by decide +kernel⟩, g_Tm 536 (by decide +kernel) rfl⟩
set_option maxHeartbeats 4000000 in
set_option maxRecDepth 100000 in
theorem ms_StringLatin1_indexOf : g_ms M_StringLatin1_indexOf 4 := ⟨⟨g_Tm 104 (by decide +kernel) rfl, g_Tm 534 rfl rfl, by decide, by decide, by decide +kernel⟩, g_Tm 533 (by decide +kernel) rfl⟩
set_option maxHeartbeats 4000000 in
set_option maxRecDepth 100000 in
theorem ms_StringLatin1_indexOfChar : g_ms M_StringLatin1_indexOfChar 4 := ⟨⟨g_Tm 104 (by decide +kernel) rfl, g_Tm 546 rfl rfl, by decide, by decide, by decide +kernel⟩, g_Tm 545 (by decide +kernel) rfl⟩
set_option maxHeartbeats 4000000 in
set_option maxRecDepth 100000 in
theorem ms_Arrays_fill1 : g_ms M_Arrays_fill1 2 := ⟨⟨g_Tm 96 (by decide +kernel) rfl, g_Tm 637 rfl rfl, by decide, by decide, by decide +kernel⟩, g_Tm 636 (by decide +kernel) rfl⟩
set_option maxHeartbeats 4000000 in
set_option maxRecDepth 100000 in
theorem ms_Arrays_fill : g_ms M_Arrays_fill 2 := ⟨⟨g_Tm 96 (by decide +kernel) rfl, g_Tm 215 rfl rfl, by decide, by decide, by decide +kernel⟩, g_Tm 214 (by decide +kernel) rfl⟩
theorem ac_1_29 : g_cw "BandPress$Pages" 29 := ⟨g_Tm 1154 (by decide +kernel) rfl, g_Tm 609 (by decide +kernel) rfl, g_Tm 608 (by decide +kernel) rfl, g_Tm 109 (by decide +kernel) rfl⟩
theorem ac_3_43 : g_cw "BandPress$Settings" 43 := ⟨g_Tm 1173 (by decide +kernel) rfl, g_Tm 609 (by decide +kernel) rfl, g_Tm 608 (by decide +kernel) rfl, g_Tm 109 (by decide +kernel) rfl⟩
theorem ac_8_43 : g_cw "BandPress$Text" 43 := ⟨g_Tm 607 (by decide +kernel) rfl, g_Tm 609 (by decide +kernel) rfl, g_Tm 608 (by decide +kernel) rfl, g_Tm 109 (by decide +kernel) rfl⟩
end
