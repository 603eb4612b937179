section
-- ===== PART A: goes FIRST, ahead of the names: the tables' words, and 'selects' of the private methods out of them =====
/-- a private method of a class that the tables say can be made, by its rows of tables_1 -/
def lw_okq (q : MethodName × Nat) : Prop := (q.1.cls ≠ "java/lang/invoke/MethodHandle" ∧ q.1.cls ≠ "java/lang/invoke/VarHandle") ∧ Cond.instantiable q.1.cls q.2 ∈ tables_1 ∧ Cond.privateMethod q.1 ∈ tables_1 ∧ Cond.instanceMethod q.1 ∈ tables_1
theorem lw_p0 : lw_okq (⟨"BandPress$Calls", "push", "(III)V"⟩, 5) := ⟨⟨by decide +kernel, by decide +kernel⟩, List.mem_of_getElem? (i := 67) (by decide +kernel), List.mem_of_getElem? (i := 527) (by decide +kernel), List.mem_of_getElem? (i := 528) (by decide +kernel)⟩
theorem lw_p1 : lw_okq (⟨"BandPress$Pages", "clean", "()V"⟩, 4) := ⟨⟨by decide +kernel, by decide +kernel⟩, List.mem_of_getElem? (i := 189) (by decide +kernel), List.mem_of_getElem? (i := 563) (by decide +kernel), List.mem_of_getElem? (i := 564) (by decide +kernel)⟩
theorem lw_p2 : lw_okq (⟨"BandPress$Packer", "add", "(I)V"⟩, 3) := ⟨⟨by decide +kernel, by decide +kernel⟩, List.mem_of_getElem? (i := 346) (by decide +kernel), List.mem_of_getElem? (i := 614) (by decide +kernel), List.mem_of_getElem? (i := 615) (by decide +kernel)⟩
theorem lw_p3 : lw_okq (⟨"BandPress$Packer", "packLine", "(J)V"⟩, 3) := ⟨⟨by decide +kernel, by decide +kernel⟩, List.mem_of_getElem? (i := 346) (by decide +kernel), List.mem_of_getElem? (i := 618) (by decide +kernel), List.mem_of_getElem? (i := 619) (by decide +kernel)⟩
theorem lw_p4 : lw_okq (⟨"BandPress$Packer", "octetsAlike", "(I)I"⟩, 3) := ⟨⟨by decide +kernel, by decide +kernel⟩, List.mem_of_getElem? (i := 346) (by decide +kernel), List.mem_of_getElem? (i := 622) (by decide +kernel), List.mem_of_getElem? (i := 623) (by decide +kernel)⟩
theorem lw_p5 : lw_okq (⟨"BandPress$Packer", "octetsApart", "(I)I"⟩, 3) := ⟨⟨by decide +kernel, by decide +kernel⟩, List.mem_of_getElem? (i := 346) (by decide +kernel), List.mem_of_getElem? (i := 626) (by decide +kernel), List.mem_of_getElem? (i := 627) (by decide +kernel)⟩
theorem lw_p6 : lw_okq (⟨"BandPress$Machine", "empty", "(I)V"⟩, 12) := ⟨⟨by decide +kernel, by decide +kernel⟩, List.mem_of_getElem? (i := 295) (by decide +kernel), List.mem_of_getElem? (i := 650) (by decide +kernel), List.mem_of_getElem? (i := 651) (by decide +kernel)⟩
theorem lw_p7 : lw_okq (⟨"BandPress$Machine", "inside", "()I"⟩, 12) := ⟨⟨by decide +kernel, by decide +kernel⟩, List.mem_of_getElem? (i := 295) (by decide +kernel), List.mem_of_getElem? (i := 696) (by decide +kernel), List.mem_of_getElem? (i := 697) (by decide +kernel)⟩
theorem lw_p8 : lw_okq (⟨"java/lang/Throwable", "fillInStackTrace", "(I)Ljava/lang/Throwable;"⟩, 6) := ⟨⟨by decide +kernel, by decide +kernel⟩, List.mem_of_getElem? (i := 747) (by decide +kernel), List.mem_of_getElem? (i := 745) (by decide +kernel), List.mem_of_getElem? (i := 746) (by decide +kernel)⟩
theorem lw_p9 : lw_okq (⟨"BandPress$Job", "errorOf", "(I)I"⟩, 13) := ⟨⟨by decide +kernel, by decide +kernel⟩, List.mem_of_getElem? (i := 59) (by decide +kernel), List.mem_of_getElem? (i := 804) (by decide +kernel), List.mem_of_getElem? (i := 805) (by decide +kernel)⟩
theorem lw_p10 : lw_okq (⟨"BandPress$Job", "kindsFit", "(II)Z"⟩, 13) := ⟨⟨by decide +kernel, by decide +kernel⟩, List.mem_of_getElem? (i := 59) (by decide +kernel), List.mem_of_getElem? (i := 811) (by decide +kernel), List.mem_of_getElem? (i := 812) (by decide +kernel)⟩
theorem lw_p11 : lw_okq (⟨"BandPress$Job", "goesBeyond", "(I)Z"⟩, 13) := ⟨⟨by decide +kernel, by decide +kernel⟩, List.mem_of_getElem? (i := 59) (by decide +kernel), List.mem_of_getElem? (i := 824) (by decide +kernel), List.mem_of_getElem? (i := 825) (by decide +kernel)⟩
theorem lw_p12 : lw_okq (⟨"BandPress$Job", "resultOf", "(I)J"⟩, 13) := ⟨⟨by decide +kernel, by decide +kernel⟩, List.mem_of_getElem? (i := 59) (by decide +kernel), List.mem_of_getElem? (i := 828) (by decide +kernel), List.mem_of_getElem? (i := 829) (by decide +kernel)⟩
theorem lw_p13 : lw_okq (⟨"BandPress$Job", "isFarOff", "(I)Z"⟩, 13) := ⟨⟨by decide +kernel, by decide +kernel⟩, List.mem_of_getElem? (i := 59) (by decide +kernel), List.mem_of_getElem? (i := 837) (by decide +kernel), List.mem_of_getElem? (i := 838) (by decide +kernel)⟩
theorem lw_p14 : lw_okq (⟨"BandPress$Job", "lacksRoom", "(I)Z"⟩, 13) := ⟨⟨by decide +kernel, by decide +kernel⟩, List.mem_of_getElem? (i := 59) (by decide +kernel), List.mem_of_getElem? (i := 865) (by decide +kernel), List.mem_of_getElem? (i := 866) (by decide +kernel)⟩
theorem lw_p15 : lw_okq (⟨"BandPress$Job", "placesFor", "(I)I"⟩, 13) := ⟨⟨by decide +kernel, by decide +kernel⟩, List.mem_of_getElem? (i := 59) (by decide +kernel), List.mem_of_getElem? (i := 879) (by decide +kernel), List.mem_of_getElem? (i := 880) (by decide +kernel)⟩
def lw_privs_1 : List (MethodName × Nat) := [(⟨"BandPress$Calls", "push", "(III)V"⟩, 5), (⟨"BandPress$Pages", "clean", "()V"⟩, 4), (⟨"BandPress$Packer", "add", "(I)V"⟩, 3), (⟨"BandPress$Packer", "packLine", "(J)V"⟩, 3), (⟨"BandPress$Packer", "octetsAlike", "(I)I"⟩, 3), (⟨"BandPress$Packer", "octetsApart", "(I)I"⟩, 3), (⟨"BandPress$Machine", "empty", "(I)V"⟩, 12), (⟨"BandPress$Machine", "inside", "()I"⟩, 12), (⟨"java/lang/Throwable", "fillInStackTrace", "(I)Ljava/lang/Throwable;"⟩, 6), (⟨"BandPress$Job", "errorOf", "(I)I"⟩, 13), (⟨"BandPress$Job", "kindsFit", "(II)Z"⟩, 13), (⟨"BandPress$Job", "goesBeyond", "(I)Z"⟩, 13), (⟨"BandPress$Job", "resultOf", "(I)J"⟩, 13), (⟨"BandPress$Job", "isFarOff", "(I)Z"⟩, 13), (⟨"BandPress$Job", "lacksRoom", "(I)Z"⟩, 13), (⟨"BandPress$Job", "placesFor", "(I)I"⟩, 13)]
theorem lw_r1 : ∀ q ∈ lw_privs_1, lw_okq q := List.forall_mem_cons.mpr ⟨lw_p0, List.forall_mem_cons.mpr ⟨lw_p1, List.forall_mem_cons.mpr ⟨lw_p2, List.forall_mem_cons.mpr ⟨lw_p3, List.forall_mem_cons.mpr ⟨lw_p4, List.forall_mem_cons.mpr ⟨lw_p5, List.forall_mem_cons.mpr ⟨lw_p6, List.forall_mem_cons.mpr ⟨lw_p7, List.forall_mem_cons.mpr ⟨lw_p8, List.forall_mem_cons.mpr ⟨lw_p9, List.forall_mem_cons.mpr ⟨lw_p10, List.forall_mem_cons.mpr ⟨lw_p11, List.forall_mem_cons.mpr ⟨lw_p12, List.forall_mem_cons.mpr ⟨lw_p13, List.forall_mem_cons.mpr ⟨lw_p14, List.forall_mem_cons.mpr ⟨lw_p15, fun _ h => absurd h List.not_mem_nil⟩⟩⟩⟩⟩⟩⟩⟩⟩⟩⟩⟩⟩⟩⟩⟩
theorem lw_p16 : lw_okq (⟨"BandPress$Job", "marksTooMuch", "(I)Z"⟩, 13) := ⟨⟨by decide +kernel, by decide +kernel⟩, List.mem_of_getElem? (i := 59) (by decide +kernel), List.mem_of_getElem? (i := 887) (by decide +kernel), List.mem_of_getElem? (i := 888) (by decide +kernel)⟩
theorem lw_p17 : lw_okq (⟨"BandPress$Filler", "meetEdges", "(LBandPress$Path;I)Z"⟩, 2) := ⟨⟨by decide +kernel, by decide +kernel⟩, List.mem_of_getElem? (i := 89) (by decide +kernel), List.mem_of_getElem? (i := 895) (by decide +kernel), List.mem_of_getElem? (i := 896) (by decide +kernel)⟩
theorem lw_p18 : lw_okq (⟨"BandPress$Filler", "sweep", "(Z)J"⟩, 2) := ⟨⟨by decide +kernel, by decide +kernel⟩, List.mem_of_getElem? (i := 89) (by decide +kernel), List.mem_of_getElem? (i := 912) (by decide +kernel), List.mem_of_getElem? (i := 913) (by decide +kernel)⟩
theorem lw_p19 : lw_okq (⟨"BandPress$Text", "behindDigits", "(I)I"⟩, 4) := ⟨⟨by decide +kernel, by decide +kernel⟩, List.mem_of_getElem? (i := 38) (by decide +kernel), List.mem_of_getElem? (i := 950) (by decide +kernel), List.mem_of_getElem? (i := 951) (by decide +kernel)⟩
theorem lw_p20 : lw_okq (⟨"BandPress$Job", "perform", "(II)V"⟩, 13) := ⟨⟨by decide +kernel, by decide +kernel⟩, List.mem_of_getElem? (i := 59) (by decide +kernel), List.mem_of_getElem? (i := 958) (by decide +kernel), List.mem_of_getElem? (i := 959) (by decide +kernel)⟩
theorem lw_p21 : lw_okq (⟨"BandPress$Job", "assign", "(I)V"⟩, 13) := ⟨⟨by decide +kernel, by decide +kernel⟩, List.mem_of_getElem? (i := 59) (by decide +kernel), List.mem_of_getElem? (i := 971) (by decide +kernel), List.mem_of_getElem? (i := 972) (by decide +kernel)⟩
theorem lw_p22 : lw_okq (⟨"BandPress$Job", "control", "(I)V"⟩, 13) := ⟨⟨by decide +kernel, by decide +kernel⟩, List.mem_of_getElem? (i := 59) (by decide +kernel), List.mem_of_getElem? (i := 977) (by decide +kernel), List.mem_of_getElem? (i := 978) (by decide +kernel)⟩
theorem lw_p23 : lw_okq (⟨"BandPress$Job", "draw", "(I)V"⟩, 13) := ⟨⟨by decide +kernel, by decide +kernel⟩, List.mem_of_getElem? (i := 59) (by decide +kernel), List.mem_of_getElem? (i := 993) (by decide +kernel), List.mem_of_getElem? (i := 994) (by decide +kernel)⟩
theorem lw_p24 : lw_okq (⟨"BandPress$Job", "placedX", "(I)I"⟩, 13) := ⟨⟨by decide +kernel, by decide +kernel⟩, List.mem_of_getElem? (i := 59) (by decide +kernel), List.mem_of_getElem? (i := 997) (by decide +kernel), List.mem_of_getElem? (i := 998) (by decide +kernel)⟩
theorem lw_p25 : lw_okq (⟨"BandPress$Job", "placedY", "(I)I"⟩, 13) := ⟨⟨by decide +kernel, by decide +kernel⟩, List.mem_of_getElem? (i := 59) (by decide +kernel), List.mem_of_getElem? (i := 1001) (by decide +kernel), List.mem_of_getElem? (i := 1002) (by decide +kernel)⟩
theorem lw_p26 : lw_okq (⟨"BandPress$Path", "add", "(IIZ)V"⟩, 8) := ⟨⟨by decide +kernel, by decide +kernel⟩, List.mem_of_getElem? (i := 151) (by decide +kernel), List.mem_of_getElem? (i := 1009) (by decide +kernel), List.mem_of_getElem? (i := 1010) (by decide +kernel)⟩
theorem lw_p27 : lw_okq (⟨"BandPress$Path", "goOn", "()V"⟩, 8) := ⟨⟨by decide +kernel, by decide +kernel⟩, List.mem_of_getElem? (i := 151) (by decide +kernel), List.mem_of_getElem? (i := 1017) (by decide +kernel), List.mem_of_getElem? (i := 1018) (by decide +kernel)⟩
theorem lw_p28 : lw_okq (⟨"BandPress$Job", "use", "(I)V"⟩, 13) := ⟨⟨by decide +kernel, by decide +kernel⟩, List.mem_of_getElem? (i := 59) (by decide +kernel), List.mem_of_getElem? (i := 1043) (by decide +kernel), List.mem_of_getElem? (i := 1044) (by decide +kernel)⟩
theorem lw_p29 : lw_okq (⟨"BandPress$Job", "reckon", "(I)V"⟩, 13) := ⟨⟨by decide +kernel, by decide +kernel⟩, List.mem_of_getElem? (i := 59) (by decide +kernel), List.mem_of_getElem? (i := 1091) (by decide +kernel), List.mem_of_getElem? (i := 1092) (by decide +kernel)⟩
theorem lw_p30 : lw_okq (⟨"BandPress$Machine", "anySticks", "()Z"⟩, 12) := ⟨⟨by decide +kernel, by decide +kernel⟩, List.mem_of_getElem? (i := 295) (by decide +kernel), List.mem_of_getElem? (i := 1139) (by decide +kernel), List.mem_of_getElem? (i := 1140) (by decide +kernel)⟩
theorem lw_p31 : lw_okq (⟨"BandPress$Machine", "moveAll", "()V"⟩, 12) := ⟨⟨by decide +kernel, by decide +kernel⟩, List.mem_of_getElem? (i := 295) (by decide +kernel), List.mem_of_getElem? (i := 1144) (by decide +kernel), List.mem_of_getElem? (i := 1145) (by decide +kernel)⟩
def lw_privs_2 : List (MethodName × Nat) := [(⟨"BandPress$Job", "marksTooMuch", "(I)Z"⟩, 13), (⟨"BandPress$Filler", "meetEdges", "(LBandPress$Path;I)Z"⟩, 2), (⟨"BandPress$Filler", "sweep", "(Z)J"⟩, 2), (⟨"BandPress$Text", "behindDigits", "(I)I"⟩, 4), (⟨"BandPress$Job", "perform", "(II)V"⟩, 13), (⟨"BandPress$Job", "assign", "(I)V"⟩, 13), (⟨"BandPress$Job", "control", "(I)V"⟩, 13), (⟨"BandPress$Job", "draw", "(I)V"⟩, 13), (⟨"BandPress$Job", "placedX", "(I)I"⟩, 13), (⟨"BandPress$Job", "placedY", "(I)I"⟩, 13), (⟨"BandPress$Path", "add", "(IIZ)V"⟩, 8), (⟨"BandPress$Path", "goOn", "()V"⟩, 8), (⟨"BandPress$Job", "use", "(I)V"⟩, 13), (⟨"BandPress$Job", "reckon", "(I)V"⟩, 13), (⟨"BandPress$Machine", "anySticks", "()Z"⟩, 12), (⟨"BandPress$Machine", "moveAll", "()V"⟩, 12)]
theorem lw_r2 : ∀ q ∈ lw_privs_2, lw_okq q := List.forall_mem_cons.mpr ⟨lw_p16, List.forall_mem_cons.mpr ⟨lw_p17, List.forall_mem_cons.mpr ⟨lw_p18, List.forall_mem_cons.mpr ⟨lw_p19, List.forall_mem_cons.mpr ⟨lw_p20, List.forall_mem_cons.mpr ⟨lw_p21, List.forall_mem_cons.mpr ⟨lw_p22, List.forall_mem_cons.mpr ⟨lw_p23, List.forall_mem_cons.mpr ⟨lw_p24, List.forall_mem_cons.mpr ⟨lw_p25, List.forall_mem_cons.mpr ⟨lw_p26, List.forall_mem_cons.mpr ⟨lw_p27, List.forall_mem_cons.mpr ⟨lw_p28, List.forall_mem_cons.mpr ⟨lw_p29, List.forall_mem_cons.mpr ⟨lw_p30, List.forall_mem_cons.mpr ⟨lw_p31, fun _ h => absurd h List.not_mem_nil⟩⟩⟩⟩⟩⟩⟩⟩⟩⟩⟩⟩⟩⟩⟩⟩
theorem lw_p32 : lw_okq (⟨"BandPress$Machine", "moveFrom", "(I)V"⟩, 12) := ⟨⟨by decide +kernel, by decide +kernel⟩, List.mem_of_getElem? (i := 295) (by decide +kernel), List.mem_of_getElem? (i := 1148) (by decide +kernel), List.mem_of_getElem? (i := 1149) (by decide +kernel)⟩
theorem lw_p33 : lw_okq (⟨"BandPress$Machine", "wayFrom", "(I)I"⟩, 12) := ⟨⟨by decide +kernel, by decide +kernel⟩, List.mem_of_getElem? (i := 295) (by decide +kernel), List.mem_of_getElem? (i := 1152) (by decide +kernel), List.mem_of_getElem? (i := 1153) (by decide +kernel)⟩
theorem lw_p34 : lw_okq (⟨"BandPress$Machine", "ifFree", "(I)I"⟩, 12) := ⟨⟨by decide +kernel, by decide +kernel⟩, List.mem_of_getElem? (i := 295) (by decide +kernel), List.mem_of_getElem? (i := 1157) (by decide +kernel), List.mem_of_getElem? (i := 1158) (by decide +kernel)⟩
theorem lw_p35 : lw_okq (⟨"BandPress$Machine", "move", "(II)V"⟩, 12) := ⟨⟨by decide +kernel, by decide +kernel⟩, List.mem_of_getElem? (i := 295) (by decide +kernel), List.mem_of_getElem? (i := 1161) (by decide +kernel), List.mem_of_getElem? (i := 1162) (by decide +kernel)⟩
theorem lw_p36 : lw_okq (⟨"BandPress$Machine", "place", "(III)V"⟩, 12) := ⟨⟨by decide +kernel, by decide +kernel⟩, List.mem_of_getElem? (i := 295) (by decide +kernel), List.mem_of_getElem? (i := 1173) (by decide +kernel), List.mem_of_getElem? (i := 1174) (by decide +kernel)⟩
theorem lw_p37 : lw_okq (⟨"BandPress$Machine", "feed", "()V"⟩, 12) := ⟨⟨by decide +kernel, by decide +kernel⟩, List.mem_of_getElem? (i := 295) (by decide +kernel), List.mem_of_getElem? (i := 1177) (by decide +kernel), List.mem_of_getElem? (i := 1178) (by decide +kernel)⟩
theorem lw_p38 : lw_okq (⟨"BandPress$Machine", "nextToMake", "()I"⟩, 12) := ⟨⟨by decide +kernel, by decide +kernel⟩, List.mem_of_getElem? (i := 295) (by decide +kernel), List.mem_of_getElem? (i := 1181) (by decide +kernel), List.mem_of_getElem? (i := 1182) (by decide +kernel)⟩
theorem lw_p39 : lw_okq (⟨"BandPress$Machine", "isInside", "(I)Z"⟩, 12) := ⟨⟨by decide +kernel, by decide +kernel⟩, List.mem_of_getElem? (i := 295) (by decide +kernel), List.mem_of_getElem? (i := 1186) (by decide +kernel), List.mem_of_getElem? (i := 1187) (by decide +kernel)⟩
theorem lw_p40 : lw_okq (⟨"BandPressModel", "faultOf", "()I"⟩, 55) := ⟨⟨by decide +kernel, by decide +kernel⟩, List.mem_of_getElem? (i := 1190) (by decide +kernel), List.mem_of_getElem? (i := 1377) (by decide +kernel), List.mem_of_getElem? (i := 1378) (by decide +kernel)⟩
theorem lw_p41 : lw_okq (⟨"BandPressModel", "noPath", "()V"⟩, 55) := ⟨⟨by decide +kernel, by decide +kernel⟩, List.mem_of_getElem? (i := 1190) (by decide +kernel), List.mem_of_getElem? (i := 1390) (by decide +kernel), List.mem_of_getElem? (i := 1391) (by decide +kernel)⟩
theorem lw_p42 : lw_okq (⟨"BandPressModel", "enter", "(III)V"⟩, 55) := ⟨⟨by decide +kernel, by decide +kernel⟩, List.mem_of_getElem? (i := 1190) (by decide +kernel), List.mem_of_getElem? (i := 1394) (by decide +kernel), List.mem_of_getElem? (i := 1395) (by decide +kernel)⟩
theorem lw_p43 : lw_okq (⟨"BandPressModel", "next", "()I"⟩, 55) := ⟨⟨by decide +kernel, by decide +kernel⟩, List.mem_of_getElem? (i := 1190) (by decide +kernel), List.mem_of_getElem? (i := 1402) (by decide +kernel), List.mem_of_getElem? (i := 1403) (by decide +kernel)⟩
theorem lw_p44 : lw_okq (⟨"BandPressModel", "endJob", "(II)V"⟩, 55) := ⟨⟨by decide +kernel, by decide +kernel⟩, List.mem_of_getElem? (i := 1190) (by decide +kernel), List.mem_of_getElem? (i := 1406) (by decide +kernel), List.mem_of_getElem? (i := 1407) (by decide +kernel)⟩
theorem lw_p45 : lw_okq (⟨"BandPressModel", "errorOf", "(I)I"⟩, 55) := ⟨⟨by decide +kernel, by decide +kernel⟩, List.mem_of_getElem? (i := 1190) (by decide +kernel), List.mem_of_getElem? (i := 1410) (by decide +kernel), List.mem_of_getElem? (i := 1411) (by decide +kernel)⟩
theorem lw_p46 : lw_okq (⟨"BandPressModel", "isKind", "(II)Z"⟩, 55) := ⟨⟨by decide +kernel, by decide +kernel⟩, List.mem_of_getElem? (i := 1190) (by decide +kernel), List.mem_of_getElem? (i := 1414) (by decide +kernel), List.mem_of_getElem? (i := 1415) (by decide +kernel)⟩
theorem lw_p47 : lw_okq (⟨"BandPressModel", "result", "(I)J"⟩, 55) := ⟨⟨by decide +kernel, by decide +kernel⟩, List.mem_of_getElem? (i := 1190) (by decide +kernel), List.mem_of_getElem? (i := 1418) (by decide +kernel), List.mem_of_getElem? (i := 1419) (by decide +kernel)⟩
def lw_privs_3 : List (MethodName × Nat) := [(⟨"BandPress$Machine", "moveFrom", "(I)V"⟩, 12), (⟨"BandPress$Machine", "wayFrom", "(I)I"⟩, 12), (⟨"BandPress$Machine", "ifFree", "(I)I"⟩, 12), (⟨"BandPress$Machine", "move", "(II)V"⟩, 12), (⟨"BandPress$Machine", "place", "(III)V"⟩, 12), (⟨"BandPress$Machine", "feed", "()V"⟩, 12), (⟨"BandPress$Machine", "nextToMake", "()I"⟩, 12), (⟨"BandPress$Machine", "isInside", "(I)Z"⟩, 12), (⟨"BandPressModel", "faultOf", "()I"⟩, 55), (⟨"BandPressModel", "noPath", "()V"⟩, 55), (⟨"BandPressModel", "enter", "(III)V"⟩, 55), (⟨"BandPressModel", "next", "()I"⟩, 55), (⟨"BandPressModel", "endJob", "(II)V"⟩, 55), (⟨"BandPressModel", "errorOf", "(I)I"⟩, 55), (⟨"BandPressModel", "isKind", "(II)Z"⟩, 55), (⟨"BandPressModel", "result", "(I)J"⟩, 55)]
theorem lw_r3 : ∀ q ∈ lw_privs_3, lw_okq q := List.forall_mem_cons.mpr ⟨lw_p32, List.forall_mem_cons.mpr ⟨lw_p33, List.forall_mem_cons.mpr ⟨lw_p34, List.forall_mem_cons.mpr ⟨lw_p35, List.forall_mem_cons.mpr ⟨lw_p36, List.forall_mem_cons.mpr ⟨lw_p37, List.forall_mem_cons.mpr ⟨lw_p38, List.forall_mem_cons.mpr ⟨lw_p39, List.forall_mem_cons.mpr ⟨lw_p40, List.forall_mem_cons.mpr ⟨lw_p41, List.forall_mem_cons.mpr ⟨lw_p42, List.forall_mem_cons.mpr ⟨lw_p43, List.forall_mem_cons.mpr ⟨lw_p44, List.forall_mem_cons.mpr ⟨lw_p45, List.forall_mem_cons.mpr ⟨lw_p46, List.forall_mem_cons.mpr ⟨lw_p47, fun _ h => absurd h List.not_mem_nil⟩⟩⟩⟩⟩⟩⟩⟩⟩⟩⟩⟩⟩⟩⟩⟩
theorem lw_p48 : lw_okq (⟨"BandPressModel", "number", "(I)I"⟩, 55) := ⟨⟨by decide +kernel, by decide +kernel⟩, List.mem_of_getElem? (i := 1190) (by decide +kernel), List.mem_of_getElem? (i := 1422) (by decide +kernel), List.mem_of_getElem? (i := 1423) (by decide +kernel)⟩
theorem lw_p49 : lw_okq (⟨"BandPressModel", "quotient", "()I"⟩, 55) := ⟨⟨by decide +kernel, by decide +kernel⟩, List.mem_of_getElem? (i := 1190) (by decide +kernel), List.mem_of_getElem? (i := 1426) (by decide +kernel), List.mem_of_getElem? (i := 1427) (by decide +kernel)⟩
theorem lw_p50 : lw_okq (⟨"BandPressModel", "isNear", "(I)Z"⟩, 55) := ⟨⟨by decide +kernel, by decide +kernel⟩, List.mem_of_getElem? (i := 1190) (by decide +kernel), List.mem_of_getElem? (i := 1434) (by decide +kernel), List.mem_of_getElem? (i := 1435) (by decide +kernel)⟩
theorem lw_p51 : lw_okq (⟨"BandPressModel", "xOf", "(I)J"⟩, 55) := ⟨⟨by decide +kernel, by decide +kernel⟩, List.mem_of_getElem? (i := 1190) (by decide +kernel), List.mem_of_getElem? (i := 1438) (by decide +kernel), List.mem_of_getElem? (i := 1439) (by decide +kernel)⟩
theorem lw_p52 : lw_okq (⟨"BandPressModel", "yOf", "(I)J"⟩, 55) := ⟨⟨by decide +kernel, by decide +kernel⟩, List.mem_of_getElem? (i := 1190) (by decide +kernel), List.mem_of_getElem? (i := 1446) (by decide +kernel), List.mem_of_getElem? (i := 1447) (by decide +kernel)⟩
theorem lw_p53 : lw_okq (⟨"BandPressModel", "placesFor", "(I)I"⟩, 55) := ⟨⟨by decide +kernel, by decide +kernel⟩, List.mem_of_getElem? (i := 1190) (by decide +kernel), List.mem_of_getElem? (i := 1450) (by decide +kernel), List.mem_of_getElem? (i := 1451) (by decide +kernel)⟩
theorem lw_p54 : lw_okq (⟨"BandPressModel", "look", "(Z)I"⟩, 55) := ⟨⟨by decide +kernel, by decide +kernel⟩, List.mem_of_getElem? (i := 1190) (by decide +kernel), List.mem_of_getElem? (i := 1454) (by decide +kernel), List.mem_of_getElem? (i := 1455) (by decide +kernel)⟩
theorem lw_p55 : lw_okq (⟨"BandPressModel", "isIn", "(IIZ)Z"⟩, 55) := ⟨⟨by decide +kernel, by decide +kernel⟩, List.mem_of_getElem? (i := 1190) (by decide +kernel), List.mem_of_getElem? (i := 1458) (by decide +kernel), List.mem_of_getElem? (i := 1459) (by decide +kernel)⟩
theorem lw_p56 : lw_okq (⟨"BandPressModel", "isRepeated", "()Z"⟩, 55) := ⟨⟨by decide +kernel, by decide +kernel⟩, List.mem_of_getElem? (i := 1190) (by decide +kernel), List.mem_of_getElem? (i := 1465) (by decide +kernel), List.mem_of_getElem? (i := 1466) (by decide +kernel)⟩
theorem lw_p57 : lw_okq (⟨"BandPressModel", "step", "(I)V"⟩, 55) := ⟨⟨by decide +kernel, by decide +kernel⟩, List.mem_of_getElem? (i := 1190) (by decide +kernel), List.mem_of_getElem? (i := 1469) (by decide +kernel), List.mem_of_getElem? (i := 1470) (by decide +kernel)⟩
theorem lw_p58 : lw_okq (⟨"BandPressModel", "wordLong", "(I)I"⟩, 55) := ⟨⟨by decide +kernel, by decide +kernel⟩, List.mem_of_getElem? (i := 1190) (by decide +kernel), List.mem_of_getElem? (i := 1473) (by decide +kernel), List.mem_of_getElem? (i := 1474) (by decide +kernel)⟩
theorem lw_p59 : lw_okq (⟨"BandPressModel", "closing", "(I)I"⟩, 55) := ⟨⟨by decide +kernel, by decide +kernel⟩, List.mem_of_getElem? (i := 1190) (by decide +kernel), List.mem_of_getElem? (i := 1477) (by decide +kernel), List.mem_of_getElem? (i := 1478) (by decide +kernel)⟩
theorem lw_p60 : lw_okq (⟨"BandPressModel", "push", "(IZ)V"⟩, 55) := ⟨⟨by decide +kernel, by decide +kernel⟩, List.mem_of_getElem? (i := 1190) (by decide +kernel), List.mem_of_getElem? (i := 1481) (by decide +kernel), List.mem_of_getElem? (i := 1482) (by decide +kernel)⟩
theorem lw_p61 : lw_okq (⟨"BandPressModel", "reckon", "(I)V"⟩, 55) := ⟨⟨by decide +kernel, by decide +kernel⟩, List.mem_of_getElem? (i := 1190) (by decide +kernel), List.mem_of_getElem? (i := 1485) (by decide +kernel), List.mem_of_getElem? (i := 1486) (by decide +kernel)⟩
theorem lw_p62 : lw_okq (⟨"BandPressModel", "order", "(I)V"⟩, 55) := ⟨⟨by decide +kernel, by decide +kernel⟩, List.mem_of_getElem? (i := 1190) (by decide +kernel), List.mem_of_getElem? (i := 1489) (by decide +kernel), List.mem_of_getElem? (i := 1490) (by decide +kernel)⟩
theorem lw_p63 : lw_okq (⟨"BandPressModel", "swap", "()V"⟩, 55) := ⟨⟨by decide +kernel, by decide +kernel⟩, List.mem_of_getElem? (i := 1190) (by decide +kernel), List.mem_of_getElem? (i := 1493) (by decide +kernel), List.mem_of_getElem? (i := 1494) (by decide +kernel)⟩
def lw_privs_4 : List (MethodName × Nat) := [(⟨"BandPressModel", "number", "(I)I"⟩, 55), (⟨"BandPressModel", "quotient", "()I"⟩, 55), (⟨"BandPressModel", "isNear", "(I)Z"⟩, 55), (⟨"BandPressModel", "xOf", "(I)J"⟩, 55), (⟨"BandPressModel", "yOf", "(I)J"⟩, 55), (⟨"BandPressModel", "placesFor", "(I)I"⟩, 55), (⟨"BandPressModel", "look", "(Z)I"⟩, 55), (⟨"BandPressModel", "isIn", "(IIZ)Z"⟩, 55), (⟨"BandPressModel", "isRepeated", "()Z"⟩, 55), (⟨"BandPressModel", "step", "(I)V"⟩, 55), (⟨"BandPressModel", "wordLong", "(I)I"⟩, 55), (⟨"BandPressModel", "closing", "(I)I"⟩, 55), (⟨"BandPressModel", "push", "(IZ)V"⟩, 55), (⟨"BandPressModel", "reckon", "(I)V"⟩, 55), (⟨"BandPressModel", "order", "(I)V"⟩, 55), (⟨"BandPressModel", "swap", "()V"⟩, 55)]
theorem lw_r4 : ∀ q ∈ lw_privs_4, lw_okq q := List.forall_mem_cons.mpr ⟨lw_p48, List.forall_mem_cons.mpr ⟨lw_p49, List.forall_mem_cons.mpr ⟨lw_p50, List.forall_mem_cons.mpr ⟨lw_p51, List.forall_mem_cons.mpr ⟨lw_p52, List.forall_mem_cons.mpr ⟨lw_p53, List.forall_mem_cons.mpr ⟨lw_p54, List.forall_mem_cons.mpr ⟨lw_p55, List.forall_mem_cons.mpr ⟨lw_p56, List.forall_mem_cons.mpr ⟨lw_p57, List.forall_mem_cons.mpr ⟨lw_p58, List.forall_mem_cons.mpr ⟨lw_p59, List.forall_mem_cons.mpr ⟨lw_p60, List.forall_mem_cons.mpr ⟨lw_p61, List.forall_mem_cons.mpr ⟨lw_p62, List.forall_mem_cons.mpr ⟨lw_p63, fun _ h => absurd h List.not_mem_nil⟩⟩⟩⟩⟩⟩⟩⟩⟩⟩⟩⟩⟩⟩⟩⟩
theorem lw_p64 : lw_okq (⟨"BandPressModel", "repeat", "()V"⟩, 55) := ⟨⟨by decide +kernel, by decide +kernel⟩, List.mem_of_getElem? (i := 1190) (by decide +kernel), List.mem_of_getElem? (i := 1497) (by decide +kernel), List.mem_of_getElem? (i := 1498) (by decide +kernel)⟩
theorem lw_p65 : lw_okq (⟨"BandPressModel", "quit", "()V"⟩, 55) := ⟨⟨by decide +kernel, by decide +kernel⟩, List.mem_of_getElem? (i := 1190) (by decide +kernel), List.mem_of_getElem? (i := 1501) (by decide +kernel), List.mem_of_getElem? (i := 1502) (by decide +kernel)⟩
theorem lw_p66 : lw_okq (⟨"BandPressModel", "draw", "(I)V"⟩, 55) := ⟨⟨by decide +kernel, by decide +kernel⟩, List.mem_of_getElem? (i := 1190) (by decide +kernel), List.mem_of_getElem? (i := 1505) (by decide +kernel), List.mem_of_getElem? (i := 1506) (by decide +kernel)⟩
theorem lw_p67 : lw_okq (⟨"BandPressModel", "place", "(IIZ)V"⟩, 55) := ⟨⟨by decide +kernel, by decide +kernel⟩, List.mem_of_getElem? (i := 1190) (by decide +kernel), List.mem_of_getElem? (i := 1509) (by decide +kernel), List.mem_of_getElem? (i := 1510) (by decide +kernel)⟩
theorem lw_p68 : lw_okq (⟨"BandPressModel", "along", "(IIIIIZ)I"⟩, 55) := ⟨⟨by decide +kernel, by decide +kernel⟩, List.mem_of_getElem? (i := 1190) (by decide +kernel), List.mem_of_getElem? (i := 1513) (by decide +kernel), List.mem_of_getElem? (i := 1514) (by decide +kernel)⟩
theorem lw_p69 : lw_okq (⟨"BandPressModel", "fill", "(Z)V"⟩, 55) := ⟨⟨by decide +kernel, by decide +kernel⟩, List.mem_of_getElem? (i := 1190) (by decide +kernel), List.mem_of_getElem? (i := 1517) (by decide +kernel), List.mem_of_getElem? (i := 1518) (by decide +kernel)⟩
theorem lw_p70 : lw_okq (⟨"BandPressModel", "cut", "()V"⟩, 55) := ⟨⟨by decide +kernel, by decide +kernel⟩, List.mem_of_getElem? (i := 1190) (by decide +kernel), List.mem_of_getElem? (i := 1524) (by decide +kernel), List.mem_of_getElem? (i := 1525) (by decide +kernel)⟩
theorem lw_p71 : lw_okq (⟨"BandPressModel", "state", "(I)V"⟩, 55) := ⟨⟨by decide +kernel, by decide +kernel⟩, List.mem_of_getElem? (i := 1190) (by decide +kernel), List.mem_of_getElem? (i := 1528) (by decide +kernel), List.mem_of_getElem? (i := 1529) (by decide +kernel)⟩
theorem lw_p72 : lw_okq (⟨"BandPressModel", "pack", "(II)Z"⟩, 55) := ⟨⟨by decide +kernel, by decide +kernel⟩, List.mem_of_getElem? (i := 1190) (by decide +kernel), List.mem_of_getElem? (i := 1556) (by decide +kernel), List.mem_of_getElem? (i := 1557) (by decide +kernel)⟩
theorem lw_p73 : lw_okq (⟨"BandPressModel", "isLikeAbove", "(II)Z"⟩, 55) := ⟨⟨by decide +kernel, by decide +kernel⟩, List.mem_of_getElem? (i := 1190) (by decide +kernel), List.mem_of_getElem? (i := 1560) (by decide +kernel), List.mem_of_getElem? (i := 1561) (by decide +kernel)⟩
theorem lw_p74 : lw_okq (⟨"BandPressModel", "byteOf", "(III)I"⟩, 55) := ⟨⟨by decide +kernel, by decide +kernel⟩, List.mem_of_getElem? (i := 1190) (by decide +kernel), List.mem_of_getElem? (i := 1564) (by decide +kernel), List.mem_of_getElem? (i := 1565) (by decide +kernel)⟩
theorem lw_p75 : lw_okq (⟨"BandPressModel", "out", "(I)V"⟩, 55) := ⟨⟨by decide +kernel, by decide +kernel⟩, List.mem_of_getElem? (i := 1190) (by decide +kernel), List.mem_of_getElem? (i := 1568) (by decide +kernel), List.mem_of_getElem? (i := 1569) (by decide +kernel)⟩
theorem lw_p76 : lw_okq (⟨"BandPressModel", "line", "(II)V"⟩, 55) := ⟨⟨by decide +kernel, by decide +kernel⟩, List.mem_of_getElem? (i := 1190) (by decide +kernel), List.mem_of_getElem? (i := 1572) (by decide +kernel), List.mem_of_getElem? (i := 1573) (by decide +kernel)⟩
theorem lw_p77 : lw_okq (⟨"BandPressModel", "alike", "(III)I"⟩, 55) := ⟨⟨by decide +kernel, by decide +kernel⟩, List.mem_of_getElem? (i := 1190) (by decide +kernel), List.mem_of_getElem? (i := 1576) (by decide +kernel), List.mem_of_getElem? (i := 1577) (by decide +kernel)⟩
theorem lw_p78 : lw_okq (⟨"BandPressModel", "tickOnce", "()V"⟩, 55) := ⟨⟨by decide +kernel, by decide +kernel⟩, List.mem_of_getElem? (i := 1190) (by decide +kernel), List.mem_of_getElem? (i := 1588) (by decide +kernel), List.mem_of_getElem? (i := 1589) (by decide +kernel)⟩
theorem lw_p79 : lw_okq (⟨"BandPressModel", "insideMany", "()I"⟩, 55) := ⟨⟨by decide +kernel, by decide +kernel⟩, List.mem_of_getElem? (i := 1190) (by decide +kernel), List.mem_of_getElem? (i := 1592) (by decide +kernel), List.mem_of_getElem? (i := 1593) (by decide +kernel)⟩
def lw_privs_5 : List (MethodName × Nat) := [(⟨"BandPressModel", "repeat", "()V"⟩, 55), (⟨"BandPressModel", "quit", "()V"⟩, 55), (⟨"BandPressModel", "draw", "(I)V"⟩, 55), (⟨"BandPressModel", "place", "(IIZ)V"⟩, 55), (⟨"BandPressModel", "along", "(IIIIIZ)I"⟩, 55), (⟨"BandPressModel", "fill", "(Z)V"⟩, 55), (⟨"BandPressModel", "cut", "()V"⟩, 55), (⟨"BandPressModel", "state", "(I)V"⟩, 55), (⟨"BandPressModel", "pack", "(II)Z"⟩, 55), (⟨"BandPressModel", "isLikeAbove", "(II)Z"⟩, 55), (⟨"BandPressModel", "byteOf", "(III)I"⟩, 55), (⟨"BandPressModel", "out", "(I)V"⟩, 55), (⟨"BandPressModel", "line", "(II)V"⟩, 55), (⟨"BandPressModel", "alike", "(III)I"⟩, 55), (⟨"BandPressModel", "tickOnce", "()V"⟩, 55), (⟨"BandPressModel", "insideMany", "()I"⟩, 55)]
theorem lw_r5 : ∀ q ∈ lw_privs_5, lw_okq q := List.forall_mem_cons.mpr ⟨lw_p64, List.forall_mem_cons.mpr ⟨lw_p65, List.forall_mem_cons.mpr ⟨lw_p66, List.forall_mem_cons.mpr ⟨lw_p67, List.forall_mem_cons.mpr ⟨lw_p68, List.forall_mem_cons.mpr ⟨lw_p69, List.forall_mem_cons.mpr ⟨lw_p70, List.forall_mem_cons.mpr ⟨lw_p71, List.forall_mem_cons.mpr ⟨lw_p72, List.forall_mem_cons.mpr ⟨lw_p73, List.forall_mem_cons.mpr ⟨lw_p74, List.forall_mem_cons.mpr ⟨lw_p75, List.forall_mem_cons.mpr ⟨lw_p76, List.forall_mem_cons.mpr ⟨lw_p77, List.forall_mem_cons.mpr ⟨lw_p78, List.forall_mem_cons.mpr ⟨lw_p79, fun _ h => absurd h List.not_mem_nil⟩⟩⟩⟩⟩⟩⟩⟩⟩⟩⟩⟩⟩⟩⟩⟩
theorem lw_p80 : lw_okq (⟨"BandPressModel", "turn", "(I)Z"⟩, 55) := ⟨⟨by decide +kernel, by decide +kernel⟩, List.mem_of_getElem? (i := 1190) (by decide +kernel), List.mem_of_getElem? (i := 1596) (by decide +kernel), List.mem_of_getElem? (i := 1597) (by decide +kernel)⟩
theorem lw_p81 : lw_okq (⟨"BandPressModel", "goes", "(I)Z"⟩, 55) := ⟨⟨by decide +kernel, by decide +kernel⟩, List.mem_of_getElem? (i := 1190) (by decide +kernel), List.mem_of_getElem? (i := 1600) (by decide +kernel), List.mem_of_getElem? (i := 1601) (by decide +kernel)⟩
theorem lw_p82 : lw_okq (⟨"BandPressModel", "sidesOf", "()I"⟩, 55) := ⟨⟨by decide +kernel, by decide +kernel⟩, List.mem_of_getElem? (i := 1190) (by decide +kernel), List.mem_of_getElem? (i := 1604) (by decide +kernel), List.mem_of_getElem? (i := 1605) (by decide +kernel)⟩
theorem lw_p83 : lw_okq (⟨"BandPressModel", "empty", "(I)V"⟩, 55) := ⟨⟨by decide +kernel, by decide +kernel⟩, List.mem_of_getElem? (i := 1190) (by decide +kernel), List.mem_of_getElem? (i := 1608) (by decide +kernel), List.mem_of_getElem? (i := 1609) (by decide +kernel)⟩
theorem lw_p84 : lw_okq (⟨"BandPressModel", "shift", "(II)V"⟩, 55) := ⟨⟨by decide +kernel, by decide +kernel⟩, List.mem_of_getElem? (i := 1190) (by decide +kernel), List.mem_of_getElem? (i := 1612) (by decide +kernel), List.mem_of_getElem? (i := 1613) (by decide +kernel)⟩
theorem lw_p85 : lw_okq (⟨"BandPressModel", "feed", "()V"⟩, 55) := ⟨⟨by decide +kernel, by decide +kernel⟩, List.mem_of_getElem? (i := 1190) (by decide +kernel), List.mem_of_getElem? (i := 1616) (by decide +kernel), List.mem_of_getElem? (i := 1617) (by decide +kernel)⟩
theorem lw_p86 : lw_okq (⟨"BandPressModel", "toMake", "()I"⟩, 55) := ⟨⟨by decide +kernel, by decide +kernel⟩, List.mem_of_getElem? (i := 1190) (by decide +kernel), List.mem_of_getElem? (i := 1620) (by decide +kernel), List.mem_of_getElem? (i := 1621) (by decide +kernel)⟩
theorem lw_p87 : lw_okq (⟨"BandPressModel", "stateOf", "()I"⟩, 55) := ⟨⟨by decide +kernel, by decide +kernel⟩, List.mem_of_getElem? (i := 1190) (by decide +kernel), List.mem_of_getElem? (i := 1624) (by decide +kernel), List.mem_of_getElem? (i := 1625) (by decide +kernel)⟩
def lw_privs_6 : List (MethodName × Nat) := [(⟨"BandPressModel", "turn", "(I)Z"⟩, 55), (⟨"BandPressModel", "goes", "(I)Z"⟩, 55), (⟨"BandPressModel", "sidesOf", "()I"⟩, 55), (⟨"BandPressModel", "empty", "(I)V"⟩, 55), (⟨"BandPressModel", "shift", "(II)V"⟩, 55), (⟨"BandPressModel", "feed", "()V"⟩, 55), (⟨"BandPressModel", "toMake", "()I"⟩, 55), (⟨"BandPressModel", "stateOf", "()I"⟩, 55)]
theorem lw_r6 : ∀ q ∈ lw_privs_6, lw_okq q := List.forall_mem_cons.mpr ⟨lw_p80, List.forall_mem_cons.mpr ⟨lw_p81, List.forall_mem_cons.mpr ⟨lw_p82, List.forall_mem_cons.mpr ⟨lw_p83, List.forall_mem_cons.mpr ⟨lw_p84, List.forall_mem_cons.mpr ⟨lw_p85, List.forall_mem_cons.mpr ⟨lw_p86, List.forall_mem_cons.mpr ⟨lw_p87, fun _ h => absurd h List.not_mem_nil⟩⟩⟩⟩⟩⟩⟩⟩
def lw_privs : List (MethodName × Nat) := lw_privs_1 ++ (lw_privs_2 ++ (lw_privs_3 ++ (lw_privs_4 ++ (lw_privs_5 ++ (lw_privs_6)))))
def lw_tbl : List Cond := k2_sels lw_privs ++ tables_1
theorem lw_privs_ok : ∀ q ∈ lw_privs, lw_okq q := by
  show ∀ q ∈ lw_privs_1 ++ (lw_privs_2 ++ (lw_privs_3 ++ (lw_privs_4 ++ (lw_privs_5 ++ (lw_privs_6))))), lw_okq q
  exact List.forall_mem_append.mpr ⟨lw_r1, List.forall_mem_append.mpr ⟨lw_r2, List.forall_mem_append.mpr ⟨lw_r3, List.forall_mem_append.mpr ⟨lw_r4, List.forall_mem_append.mpr ⟨lw_r5, lw_r6⟩⟩⟩⟩⟩
end
section
/-! names by program (gen/lay.py) -/
def R_0 : String := "BandPress"
def F_0 : u_T := fun k => match k with
  | 0 => ("BandPress", "tape", "LBandPress$Text;", true)
  | 1 => ("BandPress", "work", "LBandPress$Job;", true)
  | 2 => ("BandPress", "order", "LBandPress$Order;", true)
  | 3 => ("BandPress", "machine", "LBandPress$Machine;", true)
  | _ => ("BandPress", "packer", "LBandPress$Packer;", true)
def t_0 : Nat → FieldType := fun k => match k with
  | 0 => (.object "BandPress$Text")
  | 1 => (.object "BandPress$Job")
  | 2 => (.object "BandPress$Order")
  | 3 => (.object "BandPress$Machine")
  | _ => (.object "BandPress$Packer")
def R_1 : String := "BandPress$Text"
def F_1 : u_T := fun k => match k with
  | 0 => ("BandPress$Text", "signs", "[I", true)
  | 1 => ("BandPress$Text", "closings", "[I", true)
  | 2 => ("BandPress$Text", "open", "[I", true)
  | _ => ("BandPress$Text", "length", "I", false)
def t_1 : Nat → FieldType := fun k => match k with
  | 0 => (.array .int)
  | 1 => (.array .int)
  | 2 => (.array .int)
  | _ => .int
def R_2 : String := "BandPress$Job"
def F_2 : u_T := fun k => match k with
  | 0 => ("BandPress$Job", "script", "LBandPress$Text;", true)
  | 1 => ("BandPress$Job", "calls", "LBandPress$Calls;", true)
  | 2 => ("BandPress$Job", "filler", "LBandPress$Filler;", true)
  | 3 => ("BandPress$Job", "stack", "LBandPress$Values;", true)
  | 4 => ("BandPress$Job", "variables", "[I", true)
  | 5 => ("BandPress$Job", "settings", "LBandPress$Settings;", true)
  | 6 => ("BandPress$Job", "path", "LBandPress$Path;", true)
  | 7 => ("BandPress$Job", "pages", "LBandPress$Pages;", true)
  | 8 => ("BandPress$Job", "state", "I", false)
  | 9 => ("BandPress$Job", "error", "I", false)
  | 10 => ("BandPress$Job", "errorPlace", "I", false)
  | 11 => ("BandPress$Job", "steps", "I", false)
  | _ => ("BandPress$Job", "limit", "I", false)
def t_2 : Nat → FieldType := fun k => match k with
  | 0 => (.object "BandPress$Text")
  | 1 => (.object "BandPress$Calls")
  | 2 => (.object "BandPress$Filler")
  | 3 => (.object "BandPress$Values")
  | 4 => (.array .int)
  | 5 => (.object "BandPress$Settings")
  | 6 => (.object "BandPress$Path")
  | 7 => (.object "BandPress$Pages")
  | 8 => .int
  | 9 => .int
  | 10 => .int
  | 11 => .int
  | _ => .int
def R_3 : String := "BandPress$Calls"
def F_3 : u_T := fun k => match k with
  | 0 => ("BandPress$Calls", "next", "[I", true)
  | 1 => ("BandPress$Calls", "first", "[I", true)
  | 2 => ("BandPress$Calls", "end", "[I", true)
  | 3 => ("BandPress$Calls", "times", "[I", true)
  | _ => ("BandPress$Calls", "depth", "I", false)
def t_3 : Nat → FieldType := fun k => match k with
  | 0 => (.array .int)
  | 1 => (.array .int)
  | 2 => (.array .int)
  | 3 => (.array .int)
  | _ => .int
def R_4 : String := "BandPress$Filler"
def F_4 : u_T := fun k => match k with
  | 0 => ("BandPress$Filler", "rows", "[J", true)
  | _ => ("BandPress$Filler", "turns", "[I", true)
def t_4 : Nat → FieldType := fun k => match k with
  | 0 => (.array .long)
  | _ => (.array .int)
def R_5 : String := "BandPress$Values"
def F_5 : u_T := fun k => match k with
  | 0 => ("BandPress$Values", "held", "[I", true)
  | _ => ("BandPress$Values", "size", "I", false)
def t_5 : Nat → FieldType := fun k => match k with
  | 0 => (.array .int)
  | _ => .int
def R_6 : String := "BandPress$Settings"
def F_6 : u_T := fun k => match k with
  | 0 => ("BandPress$Settings", "sx", "[I", true)
  | 1 => ("BandPress$Settings", "sy", "[I", true)
  | 2 => ("BandPress$Settings", "tx", "[I", true)
  | 3 => ("BandPress$Settings", "ty", "[I", true)
  | 4 => ("BandPress$Settings", "grey", "[I", true)
  | 5 => ("BandPress$Settings", "clip", "[J", true)
  | _ => ("BandPress$Settings", "level", "I", false)
def t_6 : Nat → FieldType := fun k => match k with
  | 0 => (.array .int)
  | 1 => (.array .int)
  | 2 => (.array .int)
  | 3 => (.array .int)
  | 4 => (.array .int)
  | 5 => (.array .long)
  | _ => .int
def R_7 : String := "BandPress$Path"
def F_7 : u_T := fun k => match k with
  | 0 => ("BandPress$Path", "xs", "[I", true)
  | 1 => ("BandPress$Path", "ys", "[I", true)
  | 2 => ("BandPress$Path", "begins", "[Z", true)
  | 3 => ("BandPress$Path", "curveX", "[I", true)
  | 4 => ("BandPress$Path", "curveY", "[I", true)
  | 5 => ("BandPress$Path", "size", "I", false)
  | 6 => ("BandPress$Path", "subpath", "I", false)
  | _ => ("BandPress$Path", "closed", "Z", false)
def t_7 : Nat → FieldType := fun k => match k with
  | 0 => (.array .int)
  | 1 => (.array .int)
  | 2 => (.array .boolean)
  | 3 => (.array .int)
  | 4 => (.array .int)
  | 5 => .int
  | 6 => .int
  | _ => .boolean
def R_8 : String := "BandPress$Pages"
def F_8 : u_T := fun k => match k with
  | 0 => ("BandPress$Pages", "lines", "[J", true)
  | 1 => ("BandPress$Pages", "drawn", "[J", true)
  | 2 => ("BandPress$Pages", "kept", "I", false)
  | _ => ("BandPress$Pages", "marks", "I", false)
def t_8 : Nat → FieldType := fun k => match k with
  | 0 => (.array .long)
  | 1 => (.array .long)
  | 2 => .int
  | _ => .int
def R_9 : String := "BandPress$Order"
def F_9 : u_T := fun k => match k with
  | 0 => ("BandPress$Order", "outSheets", "[I", true)
  | 1 => ("BandPress$Order", "isOut", "[Z", true)
  | 2 => ("BandPress$Order", "outCount", "I", false)
  | 3 => ("BandPress$Order", "count", "I", false)
  | 4 => ("BandPress$Order", "copies", "I", false)
  | 5 => ("BandPress$Order", "twoSided", "Z", false)
  | 6 => ("BandPress$Order", "pages", "I", false)
  | _ => ("BandPress$Order", "perCopy", "I", false)
def t_9 : Nat → FieldType := fun k => match k with
  | 0 => (.array .int)
  | 1 => (.array .boolean)
  | 2 => .int
  | 3 => .int
  | 4 => .int
  | 5 => .boolean
  | 6 => .int
  | _ => .int
def R_10 : String := "BandPress$Machine"
def F_10 : u_T := fun k => match k with
  | 0 => ("BandPress$Machine", "order", "LBandPress$Order;", true)
  | 1 => ("BandPress$Machine", "sheets", "[I", true)
  | 2 => ("BandPress$Machine", "printed", "[I", true)
  | 3 => ("BandPress$Machine", "sticks", "[Z", true)
  | 4 => ("BandPress$Machine", "came", "[Z", true)
  | 5 => ("BandPress$Machine", "stuck", "[I", true)
  | 6 => ("BandPress$Machine", "heat", "I", false)
  | 7 => ("BandPress$Machine", "tray", "I", false)
  | 8 => ("BandPress$Machine", "open", "Z", false)
  | 9 => ("BandPress$Machine", "ticks", "I", false)
  | 10 => ("BandPress$Machine", "jams", "I", false)
  | _ => ("BandPress$Machine", "jammed", "Z", false)
def t_10 : Nat → FieldType := fun k => match k with
  | 0 => (.object "BandPress$Order")
  | 1 => (.array .int)
  | 2 => (.array .int)
  | 3 => (.array .boolean)
  | 4 => (.array .boolean)
  | 5 => (.array .int)
  | 6 => .int
  | 7 => .int
  | 8 => .boolean
  | 9 => .int
  | 10 => .int
  | _ => .boolean
def R_11 : String := "BandPress$Packer"
def F_11 : u_T := fun k => match k with
  | 0 => ("BandPress$Packer", "packed", "[I", true)
  | 1 => ("BandPress$Packer", "size", "I", false)
  | _ => ("BandPress$Packer", "octets", "[I", true)
def t_11 : Nat → FieldType := fun k => match k with
  | 0 => (.array .int)
  | 1 => .int
  | _ => (.array .int)
def R_12 : String := "BandPressModel"
def F_12 : u_T := fun k => match k with
  | 0 => ("BandPressModel", "code", "I", false)
  | 1 => ("BandPressModel", "tape", "[I", true)
  | 2 => ("BandPressModel", "text", "[I", true)
  | 3 => ("BandPressModel", "typed", "I", false)
  | 4 => ("BandPressModel", "size", "I", false)
  | 5 => ("BandPressModel", "phase", "I", false)
  | 6 => ("BandPressModel", "error", "I", false)
  | 7 => ("BandPressModel", "errorPlace", "I", false)
  | 8 => ("BandPressModel", "pages", "I", false)
  | 9 => ("BandPressModel", "steps", "I", false)
  | 10 => ("BandPressModel", "limit", "I", false)
  | 11 => ("BandPressModel", "copies", "I", false)
  | 12 => ("BandPressModel", "sides", "Z", false)
  | 13 => ("BandPressModel", "high", "I", false)
  | 14 => ("BandPressModel", "value", "[I", true)
  | 15 => ("BandPressModel", "variable", "[I", true)
  | 16 => ("BandPressModel", "isProcedure", "[Z", true)
  | 17 => ("BandPressModel", "depth", "I", false)
  | 18 => ("BandPressModel", "at", "[I", true)
  | 19 => ("BandPressModel", "end", "[I", true)
  | 20 => ("BandPressModel", "begin", "[I", true)
  | 21 => ("BandPressModel", "more", "[I", true)
  | 22 => ("BandPressModel", "places", "I", false)
  | 23 => ("BandPressModel", "lastX", "I", false)
  | 24 => ("BandPressModel", "lastY", "I", false)
  | 25 => ("BandPressModel", "firstX", "I", false)
  | 26 => ("BandPressModel", "firstY", "I", false)
  | 27 => ("BandPressModel", "hasPlace", "Z", false)
  | 28 => ("BandPressModel", "isClosed", "Z", false)
  | 29 => ("BandPressModel", "placeX", "[I", true)
  | 30 => ("BandPressModel", "placeY", "[I", true)
  | 31 => ("BandPressModel", "begins", "[Z", true)
  | 32 => ("BandPressModel", "saved", "I", false)
  | 33 => ("BandPressModel", "matrix", "[I", true)
  | 34 => ("BandPressModel", "clip", "[Z", true)
  | 35 => ("BandPressModel", "black", "[Z", true)
  | 36 => ("BandPressModel", "marks", "I", false)
  | 37 => ("BandPressModel", "inside", "[Z", true)
  | 38 => ("BandPressModel", "row", "[I", true)
  | 39 => ("BandPressModel", "rowLong", "I", false)
  | 40 => ("BandPressModel", "tray", "I", false)
  | 41 => ("BandPressModel", "heat", "I", false)
  | 42 => ("BandPressModel", "ticks", "I", false)
  | 43 => ("BandPressModel", "jams", "I", false)
  | 44 => ("BandPressModel", "sheets", "I", false)
  | 45 => ("BandPressModel", "outs", "I", false)
  | 46 => ("BandPressModel", "open", "Z", false)
  | 47 => ("BandPressModel", "jammed", "Z", false)
  | 48 => ("BandPressModel", "in", "[I", true)
  | 49 => ("BandPressModel", "printed", "[I", true)
  | 50 => ("BandPressModel", "stuck", "[I", true)
  | 51 => ("BandPressModel", "outSheet", "[I", true)
  | 52 => ("BandPressModel", "sticks", "[Z", true)
  | 53 => ("BandPressModel", "moved", "[Z", true)
  | _ => ("BandPressModel", "isOut", "[Z", true)
def t_12 : Nat → FieldType := fun k => match k with
  | 0 => .int
  | 1 => (.array .int)
  | 2 => (.array .int)
  | 3 => .int
  | 4 => .int
  | 5 => .int
  | 6 => .int
  | 7 => .int
  | 8 => .int
  | 9 => .int
  | 10 => .int
  | 11 => .int
  | 12 => .boolean
  | 13 => .int
  | 14 => (.array .int)
  | 15 => (.array .int)
  | 16 => (.array .boolean)
  | 17 => .int
  | 18 => (.array .int)
  | 19 => (.array .int)
  | 20 => (.array .int)
  | 21 => (.array .int)
  | 22 => .int
  | 23 => .int
  | 24 => .int
  | 25 => .int
  | 26 => .int
  | 27 => .boolean
  | 28 => .boolean
  | 29 => (.array .int)
  | 30 => (.array .int)
  | 31 => (.array .boolean)
  | 32 => .int
  | 33 => (.array .int)
  | 34 => (.array .boolean)
  | 35 => (.array .boolean)
  | 36 => .int
  | 37 => (.array .boolean)
  | 38 => (.array .int)
  | 39 => .int
  | 40 => .int
  | 41 => .int
  | 42 => .int
  | 43 => .int
  | 44 => .int
  | 45 => .int
  | 46 => .boolean
  | 47 => .boolean
  | 48 => (.array .int)
  | 49 => (.array .int)
  | 50 => (.array .int)
  | 51 => (.array .int)
  | 52 => (.array .boolean)
  | 53 => (.array .boolean)
  | _ => (.array .boolean)
def g_cl : List vw_C := [(R_0, F_0, 5), (R_1, F_1, 4), (R_2, F_2, 13), (R_3, F_3, 5), (R_4, F_4, 2), (R_5, F_5, 2), (R_6, F_6, 7), (R_7, F_7, 8), (R_8, F_8, 4), (R_9, F_9, 8), (R_10, F_10, 12), (R_11, F_11, 3), (R_12, F_12, 55)]
def g_isN : Cond → Bool
  | .fieldLinkNest .. => true
  | .methodLinkNest .. => true
  | .declares _ => true
  | .castable .. => true
  | _ => false
def g_T : List Cond := lw_tbl.filter goodWord
def g_N : List Cond := lw_tbl.filter g_isN
theorem g_Tm {w : Cond} (i : Nat) (h : lw_tbl[i]? = some w) (hg : goodWord w = true) : w ∈ g_T := List.mem_filter.mpr ⟨List.mem_of_getElem? h, hg⟩
theorem g_Nm {w : Cond} (i : Nat) (h : lw_tbl[i]? = some w) (hg : g_isN w = true) : w ∈ g_N := List.mem_filter.mpr ⟨List.mem_of_getElem? h, hg⟩
set_option maxHeartbeats 4000000 in
set_option maxRecDepth 100000 in
theorem g_clw0 : (g_cl.all fun q => (u_ws q.1 q.2.1 q.2.2).all fun w => decide (w ∈ lw_tbl) && goodWord w) = true := by decide +kernel
theorem g_clw {ci : Nat} {C : String} {T : u_T} {N : Nat} (h : g_cl[ci]? = some (C, T, N)) : ∀ w ∈ u_ws C T N, w ∈ g_T := by
  intro w hw
  have h1 := List.all_eq_true.mp (List.all_eq_true.mp g_clw0 (C, T, N) (List.mem_of_getElem? h)) w hw
  simp only [Bool.and_eq_true, decide_eq_true_eq] at h1
  exact List.mem_filter.mpr h1
theorem g_clt {ci : Nat} {C : String} {T : u_T} {N : Nat} (h : g_cl[ci]? = some (C, T, N)) : ∃ ty : Nat → FieldType, ∀ k, k < N → parseFieldDescriptor (T k).2.2.1 = some (ty k) := by
  have hl : ci < 13 := by
    have := (List.getElem?_eq_some_iff.mp h).1
    exact this
  rcases (show ci = 0 ∨ ci = 1 ∨ ci = 2 ∨ ci = 3 ∨ ci = 4 ∨ ci = 5 ∨ ci = 6 ∨ ci = 7 ∨ ci = 8 ∨ ci = 9 ∨ ci = 10 ∨ ci = 11 ∨ ci = 12 by omega) with rfl | rfl | rfl | rfl | rfl | rfl | rfl | rfl | rfl | rfl | rfl | rfl | rfl
  · cases h; exact ⟨t_0, by decide +kernel⟩
  · cases h; exact ⟨t_1, by decide +kernel⟩
  · cases h; exact ⟨t_2, by decide +kernel⟩
  · cases h; exact ⟨t_3, by decide +kernel⟩
  · cases h; exact ⟨t_4, by decide +kernel⟩
  · cases h; exact ⟨t_5, by decide +kernel⟩
  · cases h; exact ⟨t_6, by decide +kernel⟩
  · cases h; exact ⟨t_7, by decide +kernel⟩
  · cases h; exact ⟨t_8, by decide +kernel⟩
  · cases h; exact ⟨t_9, by decide +kernel⟩
  · cases h; exact ⟨t_10, by decide +kernel⟩
  · cases h; exact ⟨t_11, by decide +kernel⟩
  · cases h; exact ⟨t_12, by decide +kernel⟩
theorem g_cln {ci : Nat} {C : String} {T : u_T} {N : Nat} (h : g_cl[ci]? = some (C, T, N)) : ∀ a, a < N → ∀ b, b < N → a ≠ b → (T a).2.1 ≠ (T b).2.1 := by
  have hl : ci < 13 := by
    have := (List.getElem?_eq_some_iff.mp h).1
    exact this
  rcases (show ci = 0 ∨ ci = 1 ∨ ci = 2 ∨ ci = 3 ∨ ci = 4 ∨ ci = 5 ∨ ci = 6 ∨ ci = 7 ∨ ci = 8 ∨ ci = 9 ∨ ci = 10 ∨ ci = 11 ∨ ci = 12 by omega) with rfl | rfl | rfl | rfl | rfl | rfl | rfl | rfl | rfl | rfl | rfl | rfl | rfl
  · cases h; decide +kernel
  · cases h; decide +kernel
  · cases h; decide +kernel
  · cases h; decide +kernel
  · cases h; decide +kernel
  · cases h; decide +kernel
  · cases h; decide +kernel
  · cases h; decide +kernel
  · cases h; decide +kernel
  · cases h; decide +kernel
  · cases h; decide +kernel
  · cases h; decide +kernel
  · cases h; decide +kernel
def g_nS : Nat := 4
def g_len : List Nat := [3, 5, 9, 15]
def g_byt : List (List Int32) := [[63, 82, 81], [77, 76, 67, 90, 78], [70, 69, 87, 84, 83, 71, 85, 86, 80], [32, 123, 125, 58, 43, 45, 42, 47, 37, 126, 60, 61, 68, 88, 79]]
def g_ldc : List (String × Nat × String × Nat) := [("BandPress$Job", 239, "?RQ", 0), ("BandPress$Job", 248, "MLCZN", 1), ("BandPress$Job", 253, "FEWTSGUVP", 2), ("BandPress$Text", 59, " {}:+-*/%~<=DXO", 3), ("BandPress$Text", 65, "?RQ", 0), ("BandPress$Text", 67, "MLCZN", 1), ("BandPress$Text", 69, "FEWTSGUVP", 2)]
def g_cellN : Nat := 16
def g_cell : List Int32 := [0, 8, 2, 10, 12, 4, 14, 6, 3, 11, 1, 9, 15, 7, 13, 5]
def g_side (q : Nat) : Bool := decide (49 ≤ q) && decide (q < 74)
def gFu : Nat := 1000000000000
def g_ex (k : Nat) : String := match k with
  | 0 => "java/lang/IllegalStateException"
  | 1 => "java/lang/IllegalArgumentException"
  | _ => "java/util/NoSuchElementException"
/-- an exception of kind k has been thrown: its object is of that class -/
def g_Ex (k : Nat) (oc : Outcome) (t : State) : Prop := ∃ (a : Addr) (cell : Cell), oc = .threw a ∧ t.heap[a]? = some cell ∧ (∀ z, cell.vm ≠ .statics z) ∧ t.vm.findClass (g_ex k) = some cell.cls
end
section
/-! ints and longs as integers: a number stands for its class modulo 2^32, 2^64; w32, w64 give the number in the range -/
def w32 (z : Int) : Int := (z + 2147483648) % 4294967296 - 2147483648
def w64 (z : Int) : Int := (z + 9223372036854775808) % 18446744073709551616 - 9223372036854775808
theorem w32_id {z : Int} (h : -2147483648 ≤ z) (h' : z < 2147483648) : w32 z = z := by
  simp only [w32]; omega
theorem w64_id {z : Int} (h : -9223372036854775808 ≤ z) (h' : z < 9223372036854775808) : w64 z = z := by
  simp only [w64]; omega
theorem w32_lo (z : Int) : -2147483648 ≤ w32 z := by simp only [w32]; omega
theorem w32_hi (z : Int) : w32 z < 2147483648 := by simp only [w32]; omega
theorem w64_lo (z : Int) : -9223372036854775808 ≤ w64 z := by simp only [w64]; omega
theorem w64_hi (z : Int) : w64 z < 9223372036854775808 := by simp only [w64]; omega
theorem w32_w32 (z : Int) : w32 (w32 z) = w32 z := w32_id (w32_lo z) (w32_hi z)
theorem w64_w64 (z : Int) : w64 (w64 z) = w64 z := w64_id (w64_lo z) (w64_hi z)
theorem w64_w32 (z : Int) : w64 (w32 z) = w32 z := w64_id (by have := w32_lo z; omega) (by have := w32_hi z; omega)
theorem w32_w64 (z : Int) : w32 (w64 z) = w32 z := by simp only [w32, w64]; omega
theorem w32_toInt (z : Int) : (Int32.ofInt z).toInt = w32 z := by
  rw [Int32.toInt_ofInt]
  simp only [Int.bmod, w32, Int32.size]
  split <;> omega
theorem w64_toInt (z : Int) : (Int64.ofInt z).toInt = w64 z := by
  rw [Int64.toInt_ofInt]
  simp only [Int.bmod, w64, Int64.size]
  split <;> omega
theorem w32_ofInt (z : Int) : Int32.ofInt (w32 z) = Int32.ofInt z := Int32.toInt_inj.mp (by rw [w32_toInt, w32_toInt, w32_w32])
theorem w64_ofInt (z : Int) : Int64.ofInt (w64 z) = Int64.ofInt z := Int64.toInt_inj.mp (by rw [w64_toInt, w64_toInt, w64_w64])
theorem w32_eq {x y : Int} : Int32.ofInt x = Int32.ofInt y ↔ w32 x = w32 y := by
  rw [← Int32.toInt_inj, w32_toInt, w32_toInt]
theorem w64_eq {x y : Int} : Int64.ofInt x = Int64.ofInt y ↔ w64 x = w64 y := by
  rw [← Int64.toInt_inj, w64_toInt, w64_toInt]
theorem w32_lt {x y : Int} : Int32.ofInt x < Int32.ofInt y ↔ w32 x < w32 y := by
  rw [Int32.lt_iff_toInt_lt, w32_toInt, w32_toInt]
theorem w32_le {x y : Int} : Int32.ofInt x ≤ Int32.ofInt y ↔ w32 x ≤ w32 y := by
  rw [Int32.le_iff_toInt_le, w32_toInt, w32_toInt]
theorem w64_lt {x y : Int} : Int64.ofInt x < Int64.ofInt y ↔ w64 x < w64 y := by
  rw [Int64.lt_iff_toInt_lt, w64_toInt, w64_toInt]
theorem w32_0 {x : Int} : Int32.ofInt x = 0 ↔ w32 x = 0 := by
  rw [show (0 : Int32) = Int32.ofInt 0 from rfl, w32_eq, show w32 0 = 0 from rfl]
theorem w64_0 {x : Int} : Int64.ofInt x = 0 ↔ w64 x = 0 := by
  rw [show (0 : Int64) = Int64.ofInt 0 from rfl, w64_eq, show w64 0 = 0 from rfl]
theorem w32_l0 {x : Int} : Int32.ofInt x < 0 ↔ w32 x < 0 := by
  rw [show (0 : Int32) = Int32.ofInt 0 from rfl, w32_lt, show w32 0 = 0 from rfl]
theorem w32_0l {x : Int} : 0 < Int32.ofInt x ↔ 0 < w32 x := by
  rw [show (0 : Int32) = Int32.ofInt 0 from rfl, w32_lt, show w32 0 = 0 from rfl]
theorem w32_le0 {x : Int} : Int32.ofInt x ≤ 0 ↔ w32 x ≤ 0 := by
  rw [show (0 : Int32) = Int32.ofInt 0 from rfl, w32_le, show w32 0 = 0 from rfl]
theorem w32_0le {x : Int} : 0 ≤ Int32.ofInt x ↔ 0 ≤ w32 x := by
  rw [show (0 : Int32) = Int32.ofInt 0 from rfl, w32_le, show w32 0 = 0 from rfl]
theorem w32_in {i : Int} {n : Nat} : vp_in (Int32.ofInt i) n ↔ 0 ≤ w32 i ∧ w32 i < n := by
  rw [vp_in_iff, w32_toInt]
theorem w32_cl (i : Int) : (Int32.ofInt i).toNatClampNeg = (w32 i).toNat := by
  show (Int32.ofInt i).toInt.toNat = _
  rw [w32_toInt]
/-! what the instructions reckon -/
def i_div (x y : Int) : Int := (Int32.ofInt x / Int32.ofInt y).toInt
def i_rem (x y : Int) : Int := (Int32.ofInt x - Int32.ofInt x / Int32.ofInt y * Int32.ofInt y).toInt
def i_and (x y : Int) : Int := (Int32.ofInt x &&& Int32.ofInt y).toInt
def i_or (x y : Int) : Int := (Int32.ofInt x ||| Int32.ofInt y).toInt
def i_xor (x y : Int) : Int := (Int32.ofInt x ^^^ Int32.ofInt y).toInt
def i_shl (x y : Int) : Int := (Int32.ofInt x <<< (Int32.ofInt y &&& 31)).toInt
def i_shr (x y : Int) : Int := (Int32.ofInt x >>> (Int32.ofInt y &&& 31)).toInt
def i_ushr (x y : Int) : Int := ((Int32.ofInt x).toUInt32 >>> ((Int32.ofInt y).toUInt32 &&& Int32.toUInt32 31)).toInt32.toInt
def i_2c (x : Int) : Int := ((Int32.ofInt x).toUInt32 % 65536).toInt32.toInt
def i_2b (x : Int) : Int := (Int32.ofInt x).toInt8.toInt32.toInt
def i_nar (ty : FieldType) (x : Int) : Int := (vp_nar ty (Int32.ofInt x)).toInt
def l_div (x y : Int) : Int := (Int64.ofInt x / Int64.ofInt y).toInt
def l_rem (x y : Int) : Int := (Int64.ofInt x - Int64.ofInt x / Int64.ofInt y * Int64.ofInt y).toInt
def l_and (x y : Int) : Int := (Int64.ofInt x &&& Int64.ofInt y).toInt
def l_or (x y : Int) : Int := (Int64.ofInt x ||| Int64.ofInt y).toInt
def l_xor (x y : Int) : Int := (Int64.ofInt x ^^^ Int64.ofInt y).toInt
def l_shl (x y : Int) : Int := (Int64.ofInt x <<< ((Int32.ofInt y).toInt64 &&& 63)).toInt
def l_shr (x y : Int) : Int := (Int64.ofInt x >>> ((Int32.ofInt y).toInt64 &&& 63)).toInt
def l_ushr (x y : Int) : Int := ((Int64.ofInt x).toUInt64 >>> ((Int32.ofInt y).toInt64.toUInt64 &&& Int64.toUInt64 63)).toInt64.toInt
def l_cmp (x y : Int) : Int := if w64 y < w64 x then 1 else if w64 x = w64 y then 0 else -1
theorem l_cmp_eq (x y : Int) : lg_cmp (Int64.ofInt x) (Int64.ofInt y) = Int32.ofInt (l_cmp x y) := by
  simp only [lg_cmp, l_cmp, gt_iff_lt, w64_lt, w64_eq]
  split
  · rfl
  · split <;> rfl
theorem i_2l_eq (x : Int) : (Int32.ofInt x).toInt64 = Int64.ofInt (w32 x) := Int64.toInt_inj.mp (by rw [Int32.toInt_toInt64, w32_toInt, w64_toInt, w64_w32])
end
section
/-! THE JUDGEMENT G: a method's walk over a STORE instead of a heap (never compiled before round 3's proving).
    A store sg gives each cell's numbers by the cell's number and the place, as integers (they stand for ints or longs, modulo
    2^32 or 2^64); the SHAPE (a list) says what each cell is; references are numbers of cells. -/
abbrev gS : Type := Nat → Nat → Int
abbrev gF : Type := Option (Option Nat)
abbrev gH : Type := (Nat × Nat) ⊕ (Nat × List gF)
abbrev gZ : Type := List gH × Nat × Nat
abbrev gO : Type := Option Value ⊕ Nat
/-- name, code, returned type, locals, room, whether it makes cells, whether it says so at its end, the script that it reads -/
abbrev gM : Type := MethodName × ByteArray × Option FieldType × Nat × Room × Bool × Bool × Option (Nat × (Nat → Int32))
abbrev g_y (M : gM) : MethodName := M.1
abbrev g_b (M : gM) : ByteArray := M.2.1
abbrev g_r (M : gM) : Option FieldType := M.2.2.1
abbrev g_n (M : gM) : Nat := M.2.2.2.1
abbrev g_m (M : gM) : Room := M.2.2.2.2.1
abbrev g_a (M : gM) : Bool := M.2.2.2.2.2.1
abbrev g_z (M : gM) : Bool := M.2.2.2.2.2.2.1
abbrev g_x (M : gM) : Option (Nat × (Nat → Int32)) := M.2.2.2.2.2.2.2
theorem g_nz {M : gM} {P : Prop} (h : g_z M = false) (h2 : g_z M = true) : P := by rw [h] at h2; cases h2
def gi (z : Int) : Value := .int (Int32.ofInt z)
def gl (z : Int) : Value := .long (Int64.ofInt z)
def g_v (ad : Nat → Nat) (v : Value) : Value := match v with
  | .ref q => .ref (ad q)
  | w => w
theorem g_v_cat (ad : Nat → Nat) (v : Value) : (g_v ad v).category = v.category := by cases v <;> rfl
def g_fv (ad : Nat → Nat) (r : Nat → Int) (k : Nat) (f : gF) : Value := match f with
  | none => gi (r k)
  | some none => .null
  | some (some q) => .ref (ad q)
/-- a cell: array types 0 int, 1 boolean, 2 byte, 3 long -/
def g_c (ad ca : Nat → Nat) (r : Nat → Int) (sh : gH) : va_E := match sh with
  | .inl (3, n) => .inl (ca 3, n, .inr (.inl fun j => Int64.ofInt (r j)))
  | .inl (t, n) => .inl (ca t, n, .inl fun j => Int32.ofInt (r j))
  | .inr (ci, fl) => .inr (ci, fl.mapIdx (g_fv ad r))
def g_w (ad ca : Nat → Nat) (S : List gH) (sg : gS) : va_W := S.mapIdx (fun q sh => (ad q, g_c ad ca (sg q) sh))
def g_ty (ca : Nat → Nat) : List (ClassId × FieldType) := [(ca 0, .int), (ca 1, .boolean), (ca 2, .byte), (ca 3, .long)]
/-- a number is put at a place of a cell -/
def g_up (sg : gS) (q k : Nat) (z : Int) : gS := fun i j => if i = q ∧ j = k then z else sg i j
/-- a new cell's numbers are 0 -/
def g_nw (sg : gS) (q : Nat) : gS := fun i j => if i = q then 0 else sg i j
theorem g_up_ne {sg : gS} {q k : Nat} {z : Int} {i : Nat} (h : i ≠ q) : g_up sg q k z i = sg i := by
  funext j
  simp [g_up, h]
theorem g_w_get {ad ca : Nat → Nat} {S : List gH} {sg : gS} {q : Nat} {sh : gH} (h : S[q]? = some sh) : (g_w ad ca S sg)[q]? = some (ad q, g_c ad ca (sg q) sh) := by
  simp [g_w, List.getElem?_mapIdx, h]
theorem g_w_up {ad ca : Nat → Nat} {S : List gH} {sg sg' : gS} {q : Nat} {sh : gH} (hS : S[q]? = some sh) (h : ∀ j, j ≠ q → sg' j = sg j) :
    (g_w ad ca S sg).set q (ad q, g_c ad ca (sg' q) sh) = g_w ad ca S sg' := by
  apply List.ext_getElem?
  intro i
  by_cases hi : i = q
  · subst hi
    have hlt : i < (g_w ad ca S sg).length := by
      simpa [g_w] using (List.getElem?_eq_some_iff.mp hS).1
    rw [List.getElem?_set_self hlt, g_w_get hS]
  · rw [List.getElem?_set_ne (fun e => hi e.symm)]
    simp only [g_w, List.getElem?_mapIdx, h i hi]
theorem g_fs_set {ad : Nat → Nat} {sg : gS} {q : Nat} {fl : List gF} {k : Nat} {z : Int} (hk : fl[k]? = some none) : (fl.mapIdx (g_fv ad (sg q))).set k (gi z) = fl.mapIdx (g_fv ad (g_up sg q k z q)) := by
  apply List.ext_getElem?
  intro i
  by_cases hi : i = k
  · subst hi
    have hlt : i < (fl.mapIdx (g_fv ad (sg q))).length := by simpa using (List.getElem?_eq_some_iff.mp hk).1
    rw [List.getElem?_set_self hlt, List.getElem?_mapIdx, hk]
    simp [g_fv, g_up]
  · rw [List.getElem?_set_ne (fun e => hi e.symm)]
    simp only [List.getElem?_mapIdx]
    cases fl[i]? with
    | none => rfl
    | some f => cases f with
      | none => simp [g_fv, g_up, hi]
      | some o => cases o <;> rfl
theorem g_up_i (sg : gS) (q k : Nat) (z : Int) : upd (fun j => Int32.ofInt (sg q j)) k (Int32.ofInt z) = fun j => Int32.ofInt (g_up sg q k z q j) := by
  funext j
  by_cases h : j = k <;> simp [upd, g_up, h]
theorem g_up_l (sg : gS) (q k : Nat) (z : Int) : vp_updL (fun j => Int64.ofInt (sg q j)) k (Int64.ofInt z) = fun j => Int64.ofInt (g_up sg q k z q j) := by
  funext j
  by_cases h : j = k <;> simp [vp_updL, g_up, h]
/-- the addresses are the shape's, whatever the numbers are -/
theorem g_D {ad ca : Nat → Nat} {S : List gH} {sg sg' : gS} {A : Nat → Prop} (h : va_D A (g_w ad ca S sg)) : va_D A (g_w ad ca S sg') := by
  have key : ∀ (k : Nat) (q : Nat × va_E), (g_w ad ca S sg')[k]? = some q → ∃ q0, (g_w ad ca S sg)[k]? = some q0 ∧ q0.1 = q.1 := by
    intro k q hq
    simp only [g_w, List.getElem?_mapIdx, Option.map_eq_some_iff] at hq ⊢
    obtain ⟨sh, h1, h2⟩ := hq
    exact ⟨_, ⟨sh, h1, rfl⟩, by rw [← h2]⟩
  refine ⟨fun i j x y hx hy e => ?_, fun k q hq => ?_⟩
  · obtain ⟨x0, a1, a2⟩ := key i x hx
    obtain ⟨y0, b1, b2⟩ := key j y hy
    exact h.1 i j x0 y0 a1 b1 (by rw [a2, b2]; exact e)
  · obtain ⟨q0, a1, a2⟩ := key k q hq
    rw [← a2]
    exact h.2 k q0 a1
/-- the locals: a place that holds nothing known, or a value -/
def g_lp : Nat → List (Option Value) → List (Nat × Value)
  | _, [] => []
  | i, none :: l => g_lp (i + 1) l
  | i, some v :: l => (i, v) :: g_lp (i + 1) l
abbrev g_lq (ad : Nat → Nat) (lv : List (Option Value)) : List (Nat × Value) := (g_lp 0 lv).map (fun q => (q.1, g_v ad q.2))
theorem g_lp_mem {lv : List (Option Value)} : ∀ {i j : Nat} {v : Value}, (j, v) ∈ g_lp i lv ↔ ∃ k, j = i + k ∧ lv[k]? = some (some v) := by
  induction lv with
  | nil => intro i j v; simp [g_lp]
  | cons o l ih =>
    intro i j v
    cases o with
    | none =>
      rw [show g_lp i (none :: l) = g_lp (i + 1) l from rfl, ih]
      constructor
      · rintro ⟨k, h1, h2⟩
        exact ⟨k + 1, by omega, by simpa using h2⟩
      · rintro ⟨k, h1, h2⟩
        cases k with
        | zero => simp at h2
        | succ k => exact ⟨k, by omega, by simpa using h2⟩
    | some w =>
      rw [show g_lp i (some w :: l) = (i, w) :: g_lp (i + 1) l from rfl, List.mem_cons, ih]
      constructor
      · rintro (h | ⟨k, h1, h2⟩)
        · cases h
          exact ⟨0, by omega, by simp⟩
        · exact ⟨k + 1, by omega, by simpa using h2⟩
      · rintro ⟨k, h1, h2⟩
        cases k with
        | zero =>
          simp at h2
          subst h2
          exact Or.inl (by rw [h1]; rfl)
        | succ k => exact Or.inr ⟨k, by omega, by simpa using h2⟩
theorem g_lq_mem {ad : Nat → Nat} {lv : List (Option Value)} {q : Nat × Value} : q ∈ g_lq ad lv ↔ ∃ v, lv[q.1]? = some (some v) ∧ q.2 = g_v ad v := by
  constructor
  · intro h
    obtain ⟨⟨j, v⟩, h1, h2⟩ := List.mem_map.mp h
    obtain ⟨k, h3, h4⟩ := g_lp_mem.mp h1
    subst h2
    exact ⟨v, by rw [show j = k by omega]; exact h4, rfl⟩
  · rintro ⟨v, h1, h2⟩
    exact List.mem_map.mpr ⟨(q.1, v), g_lp_mem.mpr ⟨q.1, by omega, h1⟩, by rw [← h2]⟩
theorem g_rd {ls : Array Slot} {n i : Nat} {ad : Nat → Nat} {lv : List (Option Value)} {v : Value} (h : lv_has ls n (g_lq ad lv)) (hi : lv[i]? = some (some v)) : ls[i]? = some (.val (g_v ad v)) :=
  h.2.2 (i, g_v ad v) (g_lq_mem.mpr ⟨v, hi, rfl⟩)
theorem g_lw {ls : Array Slot} {n : Nat} {l l' : List (Nat × Value)} (h : lv_has ls n l) (hs : ∀ q ∈ l', q ∈ l) : lv_has ls n l' := ⟨h.1, h.2.1, fun q hq => h.2.2 q (hs q hq)⟩
/-- the place ahead holds no long -/
def g_nl (lv : List (Option Value)) (i : Nat) : Bool := match i with
  | 0 => true
  | j + 1 => match lv[j]? with
    | some (some (.long _)) => false
    | some (some (.double _)) => false
    | _ => true
theorem g_nl_cat {lv : List (Option Value)} {j : Nat} {v : Value} (h : g_nl lv (j + 1) = true) (hv : lv[j]? = some (some v)) : v.category = 1 := by
  simp only [g_nl, hv] at h
  cases v <;> first | rfl | simp at h
theorem g_set1 {ls : Array Slot} {n i : Nat} {ad : Nat → Nat} {lv : List (Option Value)} {v w : Value} (hw : w = g_v ad v) (hn : g_nl lv i = true)
    (h : lv_has ls n ((i, w) :: (g_lq ad lv).filter (fun q => !(q.1 == i) && !(q.1 + 1 == i && q.2.category == 2)))) : lv_has ls n (g_lq ad (lv.set i (some v))) := by
  refine g_lw h fun q hq => ?_
  obtain ⟨u, h1, h2⟩ := g_lq_mem.mp hq
  by_cases hi : q.1 = i
  · have hlt : i < lv.length := by
      have h3 := (List.getElem?_eq_some_iff.mp h1).1
      rw [hi] at h3
      simpa using h3
    rw [hi, List.getElem?_set_self hlt] at h1
    have e : u = v := by simpa using h1.symm
    subst e
    exact List.mem_cons.mpr (Or.inl (by rw [hw, ← h2, ← hi]))
  · rw [List.getElem?_set_ne (fun e => hi e.symm)] at h1
    refine List.mem_cons.mpr (Or.inr (List.mem_filter.mpr ⟨g_lq_mem.mpr ⟨u, h1, h2⟩, ?_⟩))
    have hc : ¬ (q.1 + 1 = i ∧ q.2.category = 2) := by
      rintro ⟨e, hc⟩
      subst e
      have := g_nl_cat hn h1
      rw [h2, g_v_cat, this] at hc
      omega
    simp only [Bool.and_eq_true, Bool.not_eq_true', beq_eq_false_iff_ne, ne_eq, Bool.and_eq_false_iff]
    refine ⟨hi, ?_⟩
    by_cases e : q.1 + 1 = i
    · exact Or.inr fun z => hc ⟨e, z⟩
    · exact Or.inl e
theorem g_set2 {ls : Array Slot} {n i : Nat} {ad : Nat → Nat} {lv : List (Option Value)} {v w : Value} (hw : w = g_v ad v) (hn : g_nl lv i = true)
    (h : lv_has ls n ((i, w) :: (g_lq ad lv).filter (fun q => !(q.1 == i) && (!(q.1 == i + 1) && !(q.1 + 1 == i && q.2.category == 2))))) : lv_has ls n (g_lq ad ((lv.set i (some v)).set (i + 1) none)) := by
  refine g_lw h fun q hq => ?_
  obtain ⟨u, h1, h2⟩ := g_lq_mem.mp hq
  have hj : q.1 ≠ i + 1 := by
    intro e
    rw [e] at h1
    have hlt : i + 1 < ((lv.set i (some v)).set (i + 1) none).length := (List.getElem?_eq_some_iff.mp h1).1
    rw [List.getElem?_set_self (by simpa using hlt)] at h1
    simp at h1
  rw [List.getElem?_set_ne (fun e => hj e.symm)] at h1
  by_cases hi : q.1 = i
  · have hlt : i < lv.length := by
      have h3 := (List.getElem?_eq_some_iff.mp h1).1
      rw [hi] at h3
      simpa using h3
    rw [hi, List.getElem?_set_self hlt] at h1
    have e : u = v := by simpa using h1.symm
    subst e
    exact List.mem_cons.mpr (Or.inl (by rw [hw, ← h2, ← hi]))
  · rw [List.getElem?_set_ne (fun e => hi e.symm)] at h1
    refine List.mem_cons.mpr (Or.inr (List.mem_filter.mpr ⟨g_lq_mem.mpr ⟨u, h1, h2⟩, ?_⟩))
    have hc : ¬ (q.1 + 1 = i ∧ q.2.category = 2) := by
      rintro ⟨e, hc⟩
      subst e
      have := g_nl_cat hn h1
      rw [h2, g_v_cat, this] at hc
      omega
    simp only [Bool.and_eq_true, Bool.not_eq_true', beq_eq_false_iff_ne, ne_eq, Bool.and_eq_false_iff]
    refine ⟨hi, hj, ?_⟩
    by_cases e : q.1 + 1 = i
    · exact Or.inr fun z => hc ⟨e, z⟩
    · exact Or.inl e
/-- fewer locals known -/
def g_sub : List (Option Value) → List (Option Value) → Prop
  | [], _ => True
  | none :: l, [] => g_sub l []
  | none :: l, _ :: t => g_sub l t
  | some _ :: _, [] => False
  | some v :: l, o :: t => o = some v ∧ g_sub l t
theorem g_sub_get : ∀ {l t : List (Option Value)}, g_sub l t → ∀ {i : Nat} {v : Value}, l[i]? = some (some v) → t[i]? = some (some v) := by
  intro l
  induction l with
  | nil => intro t _ i v h; simp at h
  | cons o l ih =>
    intro t hs i v h
    cases t with
    | nil =>
      cases o with
      | none =>
        cases i with
        | zero => simp at h
        | succ i =>
          have := ih (t := []) hs (i := i) (v := v) (by simpa using h)
          simp at this
      | some w => exact hs.elim
    | cons u t =>
      cases o with
      | none =>
        cases i with
        | zero => simp at h
        | succ i => simpa using ih (t := t) hs (i := i) (v := v) (by simpa using h)
      | some w =>
        cases i with
        | zero =>
          have e : w = v := by simpa using h
          rw [hs.1, e]
          rfl
        | succ i => simpa using ih (t := t) hs.2 (i := i) (v := v) (by simpa using h)
end
section
/-- a static of Throwable's: it holds a reference or null -/
def g_Zs (C n d : String) (A : Nat → Prop) (U : State) (H : Heap) : Prop := ∃ (cf : ClassId) (kf : Class) (fi : Nat) (f : Field) (a : Nat) (cell : Cell) (v : Value), U.vm.findClass C = some cf ∧ U.fieldFound? C n d = some (cf, kf, fi, f) ∧ f.isStatic = true ∧ kf.statics = some a ∧ H[a]? = some cell ∧ cell.vm.isStatics = true ∧ cell.cls = cf ∧ f.slot < cell.slots.size ∧ kf.staticTypes[f.slot]? = some f.type ∧ cell.slots[f.slot]? = some v ∧ (v = .null ∨ ∃ t, v = .ref t) ∧ ¬ A a
theorem g_Zs.moved {C n d : String} {A : Nat → Prop} {u U : State} {H : Heap} (hvm : u.vm.Alike U.vm) (h : g_Zs C n d A u H) : g_Zs C n d A U H := by
  obtain ⟨cf, kf, fi, f, a, cell, v, h0, h1, h2, h3, h4, h5, h6, h7, h8, h9⟩ := h
  obtain ⟨k', hi', he⟩ := State.fieldFound?_setVm hvm h1
  exact ⟨cf, k', fi, f, a, cell, v, by rw [hvm.findClass]; exact h0, hi', h2, by rw [he]; exact h3, h4, h5, h6, h7, by rw [he]; exact h8, h9⟩
theorem g_Zs.kept {C n d : String} {A : Nat → Prop} {U : State} {H H1 : Heap} (h : g_Zs C n d A U H) (hq : ∀ a : Nat, a < H.size → ¬ A a → H1[a]? = H[a]?) : g_Zs C n d A U H1 := by
  obtain ⟨cf, kf, fi, f, a, cell, v, h0, h1, h2, h3, h4, h5, h6, h7, h8, h9, h10, h11⟩ := h
  exact ⟨cf, kf, fi, f, a, cell, v, h0, h1, h2, h3, by rw [hq a (Array.getElem?_eq_some_iff.mp h4).1 h11]; exact h4, h5, h6, h7, h8, h9, h10, h11⟩
theorem g_Zs.narrow {C n d : String} {A B : Nat → Prop} {U : State} {H : Heap} (h : g_Zs C n d A U H) (hAB : ∀ q, B q → A q) : g_Zs C n d B U H := by
  obtain ⟨cf, kf, fi, f, a, cell, v, h0, h1, h2, h3, h4, h5, h6, h7, h8, h9, h10, h11⟩ := h
  exact ⟨cf, kf, fi, f, a, cell, v, h0, h1, h2, h3, h4, h5, h6, h7, h8, h9, h10, fun z => h11 (hAB a z)⟩
theorem g_Zs.of {args : Array Value} {s : State} {C n d : String} {A : Nat → Prop} (hl : (Cond.laysStatic C n d).before args s = true) (h : (Cond.isRef (.static C n d)).before args s = true) (hA : ∀ a : Nat, a < s.heap.size → ¬ A a) : g_Zs C n d A s s.heap := by
  obtain ⟨c, k, i, f, a, cell, hc, hi, hst, ha, hcell, hs, hcls, hlt, hty⟩ := Cond.laysStatic_spec hl
  cases hv : (Term.static C n d).eval args s none [] s with
  | none => simp [Cond.before, Cond.holds, Cond.value, hv] at h
  | some w =>
    obtain ⟨hst', a', cell', ha', hcell', -, hslot⟩ := Term.static_spec hi hv
    cases ha.symm.trans ha'
    cases hcell.symm.trans hcell'
    simp only [Cond.before, Cond.holds, Cond.value, hv] at h
    refine ⟨c, k, i, f, a, cell, w, hc, hi, hst, ha, hcell, hs, hcls, hlt, hty, hslot, ?_, hA a (Array.getElem?_eq_some_iff.mp hcell).1⟩
    cases w with
    | null => exact Or.inl rfl
    | ref t => exact Or.inr ⟨t, rfl⟩
    | _ => simp at h
/-- no IllegalArgumentException is an IllegalStateException -/
def g_na (U : State) : Prop := ∀ c1 c2 : ClassId, U.vm.findClass "java/lang/IllegalArgumentException" = some c1 → U.vm.findClass "java/lang/IllegalStateException" = some c2 → U.vm.assignable c1 c2 = false
theorem g_na.moved {u U : State} (hvm : u.vm.Alike U.vm) (h : g_na u) : g_na U := by
  intro c1 c2 h1 h2
  rw [hvm.findClass] at h1 h2
  rw [hvm.assignable]
  exact h c1 c2 h1 h2
/-- the handlers of the law's helpers -/
def g_hh (n : String) : List (Nat × Nat × Nat × Nat) := if n = "run" then [(0, 9, 12, 13), (0, 9, 15, 15)] else if n = "value" then [(0, 9, 12, 20)] else if n = "tick" then [(0, 9, 12, 15)] else []
def g_hm (y : MethodName) : List (Nat × Nat × Nat × Nat) := if y.cls = "BandPressLaw" then g_hh y.name else []
/-- the constants outside of the world: texts (1000 + i, their bytes 2000 + i), CELL (3000) -/
def g_K (s : State) (A : Nat → Prop) (ad : Nat → Nat) : Prop :=
  vk_S g_nS g_len g_byt (fun i => ad (1000 + i)) (fun i => ad (2000 + i)) A s s.heap ∧ (∀ r ∈ g_ldc, vk_R r.1 r.2.1 r.2.2.1 (ad (1000 + r.2.2.2)) s) ∧
  va_Z "BandPress" "CELL" "[I" (.ref (ad 3000)) A s s.heap ∧ va_T .int (ad 3000) g_cellN (fun j => .int (g_cell.getD j 0)) A s s.heap ∧ va_Z "java/lang/String" "COMPACT_STRINGS" "Z" (.int 1) A s s.heap ∧ (∀ w ∈ g_N, va_Nw w s) ∧ g_Zs "java/lang/Throwable" "UNASSIGNED_STACK" "[Ljava/lang/StackTraceElement;" A s s.heap ∧ g_Zs "java/lang/Throwable" "SUPPRESSED_SENTINEL" "Ljava/util/List;" A s s.heap ∧ g_na s
theorem g_Nw_warm {s U : State} (hW : s.WarmedH U.vm) {w : Cond} (hw : w ∈ g_N) (h : va_Nw w s) : va_Nw w U := by
  have hk := (List.mem_filter.mp hw).2
  cases w <;> first | exact va_Nw.warmF hW h | exact va_Nw.warmM hW h | exact va_Nw.warmD hW h | exact va_Nw.warmC hW h | simp [g_isN] at hk
theorem g_K_call {s U : State} {A B : Nat → Prop} {ad : Nat → Nat} {H : Heap} {locs : List Loc} (h : g_K s A ad) (hS : va_S A s.heap H locs) (hU : U.heap = H) (hW : s.WarmedH U.vm) (hB : ∀ q, B q → A q) : g_K U B ad := by
  obtain ⟨h1, h2, h3, h4, h5, h6, h7, h8, h9⟩ := h
  subst hU
  exact ⟨((h1.kept hS.2.1).moved hW.alike).narrow hB, fun r hr => (h2 r hr).warm hW, ((h3.kept hS.2.1).moved hW.alike).narrow hB, ((h4.kept hS.2.1).moved hW.alike).narrow hB, ((h5.kept hS.2.1).moved hW.alike).narrow hB, fun w hw => g_Nw_warm hW hw (h6 w hw), ((h7.kept hS.2.1).moved hW.alike).narrow hB, ((h8.kept hS.2.1).moved hW.alike).narrow hB, h9.moved hW.alike⟩
theorem g_K_blind {U : State} {A : Nat → Prop} {ad : Nat → Nat} {g : JFrame} {mk : MethodId} {a : Array Value} (h : g_K U A ad) : g_K (U.calling g mk a) A ad := by
  obtain ⟨h1, h2, h3, h4, h5, h6, h7, h8, h9⟩ := h
  exact ⟨vk_S.moved (u := U) (U := U.calling g mk a) (Vm.Alike.refl U.vm) h1, fun r hr => (h2 r hr).same (u := U) rfl, va_Z.moved (u := U) (U := U.calling g mk a) (Vm.Alike.refl U.vm) h3, va_T.moved (u := U) (U := U.calling g mk a) (Vm.Alike.refl U.vm) h4, va_Z.moved (u := U) (U := U.calling g mk a) (Vm.Alike.refl U.vm) h5,
    fun w hw => by
      have hk := (List.mem_filter.mp hw).2
      cases w <;> first | exact va_Nw.same (u := U) rfl rfl (h6 _ hw) | simp [g_isN] at hk, g_Zs.moved (u := U) (U := U.calling g mk a) (Vm.Alike.refl U.vm) h7, g_Zs.moved (u := U) (U := U.calling g mk a) (Vm.Alike.refl U.vm) h8, h9⟩
/-- the tables' words that last -/
theorem g_T_good {w : Cond} (h : w ∈ g_T) : goodWord w = true := (List.mem_filter.mp h).2
def g_ws (M : gM) : List Cond := .code (g_y M) (g_b M) (g_n M) (g_r M) :: g_T
theorem g_goodIn {M : gM} (h : Cond.code (g_y M) (g_b M) (g_n M) (g_r M) ∈ g_T) : GoodIn g_T (g_ws M) := by
  intro w hw
  have hm : w ∈ g_T := by
    rcases List.mem_cons.mp hw with e | e
    · rw [e]; exact h
    · exact e
  exact ⟨hm, good_of_word (g_T_good hm)⟩
def g_sc (M : gM) (s : State) (A : Nat → Prop) (ad : Nat → Nat) : Prop := ∀ r, g_x M = some r → va_X (ad 4000) r.1 r.2 s s.heap ∧ ad 4000 < s.heap.size ∧ ¬ A (ad 4000)
def g_X (p : Program) (l : Launch) (s : State) (m : MethodId) (args : Array Value) (meth : Method) (c : Code) (R : Room) (D : va_G) (A : Nat → Prop) (ad ca : Nat → Nat) (M : gM) : Prop :=
  p.tables.exec = Jvm.exec ∧ c.code = g_b M ∧ meth.sig.returnType = g_r M ∧ c.maxLocals = g_n M ∧ s.vm.findClass (g_y M).cls = some m.cls ∧ meth.locks = false ∧ (∀ w ∈ g_T, w.before args s = true) ∧ R = g_m M ∧
  va_K D g_cl (g_ty ca) s ∧ (∀ q : Nat, s.heap.size ≤ q → A q) ∧ g_K s A ad ∧ meth.name = (g_y M).name ∧ (∀ q : Nat, q < 900 → ad (q + 1) = ad q + 1) ∧ g_sc M s A ad ∧ (∀ (q : Nat) (cell : Cell), A q → s.heap[q]? = some cell → cell.vm.isStatics = false) ∧ l.stackTraces = false ∧ c.exceptionTable.toList.map (fun h => (h.startPc, h.endPc, h.handlerPc, h.catchType)) = g_hm (g_y M)
def g_Y (s : State) (D : va_G) (A : Nat → Prop) (ad ca : Nat → Nat) (M : gM) (Z : gZ) (sg : gS) (lv : List (Option Value)) (H : Heap) (locs : List Loc) (ls : Array Slot) : Prop :=
  va_P D g_cl (g_w ad ca Z.1 sg) H ∧ va_D A (g_w ad ca Z.1 sg) ∧ va_S A s.heap H locs ∧ lv_has ls (g_n M) (g_lq ad lv) ∧ (g_a M = true → s.heap.size + Z.2.1 = ad Z.1.length ∧ Z.1.length ≤ 900 ∧ (Z.1 = [] → Z.2.1 = 0))
/-- how a method ends: it returns, or (later rows) throws the exception of a kind -/
def g_E (ad : Nat → Nat) (o : gO) (oc : Outcome) (t : State) : Prop := match o with
  | .inl r => oc = .returned (r.map (g_v ad))
  | .inr k => g_Ex k oc t
def g_Q (D : va_G) (A : Nat → Prop) (ad ca : Nat → Nat) (al : Bool) (mc : Nat) (Q : gO → List gH → gS → Prop) : Array Value → State → Outcome → State → Prop := fun _ st oc t =>
  (∃ (o : gO) (S : List gH) (sg : gS), g_E ad o oc t ∧ Q o S sg ∧ va_P D g_cl (g_w ad ca S sg) t.heap ∧ va_D A (g_w ad ca S sg) ∧ (al = true → st.heap.size + mc = ad S.length ∧ S.length ≤ 900 ∧ S ≠ [])) ∧ va_F A st t
def gMQ (below : List Frame) (Qc : Array Value → State → Outcome → State → Prop) (a : Array Value) (s : State) (mc ms : Nat) (free : Addr → Prop) : State → Prop := fun t =>
  ∃ o, t.status = .running ∧ Ended t below o ∧ Qc a s o t ∧ ∃ L : List Loc, s.WarmedH t.vm ∧ s.sameButNew ({ t with vm := s.vm } : State) L mc ms ∧ ∀ q ∈ L, free q.base
theorem gMQ_of {below : List Frame} {Qc : Array Value → State → Outcome → State → Prop} {a : Array Value} {s : State} {mc ms : Nat} {free : Addr → Prop} {t : State} (h : MQ below Qc a s mc ms free t) : gMQ below Qc a s mc ms free t := by
  obtain ⟨o, h1, h2, h3, L, ⟨-, hW, hs⟩, hf⟩ := h
  exact ⟨o, h1, h2, h3, L, hW, hs, hf⟩
theorem g_post {p : Program} {l : Launch} {e : Env} {R : Room} {s : State} {m : MethodId} {args : Array Value} {below : List Frame} {meth : Method} {c : Code} {H : Heap} {locs : List Loc} {cells slots : Nat} {Q Q' : State → Prop} {g : JFrame} (h : ∀ t, Q t → Q' t) (k : W p l e R s m args below meth c H locs cells slots Q g) : W p l e R s m args below meth c H locs cells slots Q' g := by
  intro T hT X
  obtain ⟨t, a, b⟩ := k T hT X
  exact ⟨t, a, h t b⟩
/-- THE JUDGEMENT: from pc, with these locals and this stack, the method ends with Q -/
def G (M : gM) (Q : gO → List gH → gS → Prop) (Z : gZ) (sg : gS) (pc : Nat) (lv : List (Option Value)) (st : List Value) : Prop :=
  ∀ (p : Program) (l : Launch) (e : Env) (R : Room) (s : State) (m : MethodId) (args : Array Value) (below : List Frame) (meth : Method) (c : Code) (D : va_G) (A : Nat → Prop) (ad ca : Nat → Nat),
    g_X p l s m args meth c R D A ad ca M → ∀ (H : Heap) (locs : List Loc) (ls : Array Slot), g_Y s D A ad ca M Z sg lv H locs ls →
    W p l e R s m args below meth c H locs Z.2.1 Z.2.2 (gMQ below (g_Q D A ad ca (g_z M) (g_m M).cells Q) args s (g_m M).cells (g_m M).slots A) (F0 m pc ls (st.map (g_v ad)))
/-- THE CONTRACT: called with these arguments on this store -/
def g_P (D : va_G) (ad ca : Nat → Nat) (al : Bool) (S : List gH) (sg : gS) (sz : Nat) (U : State) : Prop :=
  U.heap.size = sz ∧ va_P D g_cl (g_w ad ca S sg) U.heap ∧ va_K D g_cl (g_ty ca) U ∧ va_D (fun _ => True) (g_w ad ca S sg) ∧ g_K U (va_A (g_w ad ca S sg) sz) ad ∧ (∀ q : Nat, q < 900 → ad (q + 1) = ad q + 1) ∧ (al = true → U.heap.size = ad S.length ∧ S.length ≤ 900)
def Ct (M : gM) (S : List gH) (as : List Value) (sg : gS) (Q : gO → List gH → gS → Prop) : Prop :=
  ∀ (l : Launch) (D : va_G) (ad ca : Nat → Nat) (sz : Nat), l.stackTraces = false → Met l (g_y M) (g_ws M) (g_m M) (va_Pc (as.map (g_v ad)) (g_P D ad ca (g_a M) S sg sz)) (g_Q D (va_A (g_w ad ca S sg) sz) ad ca (g_z M) (g_m M).cells Q) (g_m M).cells (g_m M).slots (va_A (g_w ad ca S sg) sz)
theorem g_args (ad : Nat → Nat) : ∀ (as : List Value) (i : Nat), lv_args i (as.map (g_v ad)) = (lv_args i as).map (fun q => (q.1, g_v ad q.2)) := by
  intro as
  induction as with
  | nil => intro i; rfl
  | cons v vs ih =>
    intro i
    simp only [List.map_cons, lv_args, g_v_cat, ih]
theorem g_slen (ad : Nat → Nat) (as : List Value) : (lg_sl (as.map (g_v ad))).length = (lg_sl as).length := by
  induction as with
  | nil => rfl
  | cons v vs ih =>
    simp only [lg_sl, List.map_cons, List.flatMap_cons, List.length_append, g_v_cat] at ih ⊢
    rw [ih]
    split <;> rfl
theorem g_ns {D : va_G} {ws : va_W} {H : Heap} (h : va_P D g_cl ws H) (q : Nat) (hq : va_A ws H.size q) {cell : Cell} (hc : H[q]? = some cell) : cell.vm.isStatics = false := by
  rcases hq with ⟨k, e, hk⟩ | hq
  · have h1 := h k _ hk
    cases e with
    | inl a =>
      have h2 : H[q]? = some (vp_cell a.1 a.2) := h1
      rw [h2] at hc
      cases hc
      obtain ⟨c0, n, f⟩ := a
      rcases f with f | f | f | f | f <;> rfl
    | inr o =>
      obtain ⟨r, -, cell', q1, q2, q3, q4⟩ := h1
      rw [show H[q]? = some cell' from q1] at hc
      cases hc
      rw [q3]
      rfl
  · have := (Array.getElem?_eq_some_iff.mp hc).1
    omega
theorem g_MetF {l : Launch} {y : MethodName} {ws ws' : List Cond} {rm : Room} {Pc : Array Value → State → Prop} {Qc : Array Value → State → Outcome → State → Prop} {mc ms : Nat} {free : Addr → Prop} {cc : ByteArray} {maxL : Nat} {ret : Option FieldType} (hy : plainFor y = true) (hw : ws = Cond.code y cc maxL ret :: ws')
    (body : ∀ p e s m args below meth c s₁, BodyLoose p l y (headSpec ws rm) cc maxL ret e s m args below meth c s₁ → c.maxLocals = maxL → Pc args s → W p l e (headSpec ws rm).room s m args below meth c s.heap [] 0 0 (MQ below Qc args s mc ms free) (entryFrame m args maxL)) : Met l y ws rm Pc Qc mc ms free := by
  refine MetFree.of_bodySF (code := cc) (maxLocals := maxL) (ret := ret) hy (fun args s m h hn => ?_) (fun p e s m args below meth c s₁ B hml hP _ => ?_)
  · have hc := atoms_spec (ws := ws) h (.code y cc maxL ret) (by rw [hw]; exact List.mem_cons_self)
    obtain ⟨meth, c, h1, h2, h3, h4, h5, h6, -⟩ := Cond.code_spec hn hc
    exact ⟨meth, c, h1, h2, h3, h4, h5, h6⟩
  · obtain ⟨t, a1, o, b1, b2, b3⟩ := body p e s m args below meth c s₁ B hml hP s₁ (by rw [B.state]; rfl) (Stand.of_body B)
    exact ⟨t, o, a1, b1, b2, b3⟩
/-- a contract out of the walk of the body -/
theorem Ct_of {M : gM} {S : List gH} {as : List Value} {sg : gS} {Q : gO → List gH → gS → Prop} (lv : List (Option Value)) (hc : plainFor (g_y M) = true) (hl : g_lp 0 lv = lv_args 0 as) (hn : (lg_sl as).length ≤ g_n M) (hx : g_x M = none) (hH : g_hm (g_y M) = []) (hQ : ∀ o S' sg', Q o S' sg' → ∃ r : Option Value, o = .inl r)
    (h : G M Q (S, 0, 0) sg 0 lv []) : Ct M S as sg Q := by
  intro l D ad ca sz hst
  refine g_MetF (cc := g_b M) (maxL := g_n M) (ret := g_r M) hc rfl ?_
  intro p e s m args below meth c s₁ B hml hv
  obtain ⟨rfl, hsz, hP, hK, hD0, hKK, had, hal⟩ := hv
  subst hsz
  have hts := atoms_spec (ws := g_ws M) B.pre
  have hD := hD0.self (sz := s.heap.size)
  have hen := lv_entry (as.map (g_v ad)) (n := g_n M) (by rw [g_slen]; exact hn)
  rw [lg_entry_eq]
  generalize (lg_sl (as.map (g_v ad)) ++ List.replicate (g_n M - (lg_sl (as.map (g_v ad))).length) Slot.unset).toArray = ls at hen ⊢
  rw [g_args, ← hl] at hen
  refine g_post (fun t ht => ?_) (h p l e _ s m _ below meth c D _ ad ca
    ⟨B.exec, B.bytes, B.returns, hml, findClass_of_methodNamed B.named, B.notSynchronized, fun w hw => hts w (List.mem_cons_of_mem _ hw), rfl, hK, fun q hq => Or.inr hq, hKK, (name_of_methodNamed B.named B.method).1, had, fun r hr => (by rw [hx] at hr; cases hr), fun q cell hq hc => g_ns hP q hq hc, hst, by rw [hH, Array.isEmpty_iff.mp (B.noHandlers (hts _ List.mem_cons_self))]; rfl⟩
    s.heap [] ls ⟨hP, hD, va_S.rf, hen, fun ha => ⟨(hal ha).1, (hal ha).2, fun _ => rfl⟩⟩)
  obtain ⟨o, h1, h2, h3, L, hW, hs, hf⟩ := ht
  obtain ⟨⟨o', S', sg', hE, hq, -⟩, -⟩ := id h3
  obtain ⟨r, rfl⟩ := hQ o' S' sg' hq
  exact ⟨o, h1, h2, h3, L, ⟨⟨_, hE⟩, hW, hs⟩, hf⟩
/-- what is known of a call's link -/
def g_lk (own : String) (idx : Nat) (y : MethodName) : Prop := Cond.methodLink own idx y ∈ g_T ∨ ∃ h : String, Cond.methodLinkNest own idx y h ∈ g_N
def g_mb (M : gM) (n : Nat) : Prop := Cond.initialized (g_y M).cls ∈ g_T ∧ Cond.code (g_y M) (g_b M) (g_n M) (g_r M) ∈ g_T ∧ ((g_y M).cls ≠ "java/lang/invoke/MethodHandle" ∧ (g_y M).cls ≠ "java/lang/invoke/VarHandle" ∧ (parseMethodDescriptor (g_y M).desc).map (fun d => d.parameters.length) = some n)
def g_mv (M : gM) (n : Nat) : Prop := g_mb M n ∧ Cond.instanceMethod (g_y M) ∈ g_T ∧ Cond.selects (g_y M).cls (g_y M) (g_y M) ∈ g_T
def g_ms (M : gM) (n : Nat) : Prop := g_mb M n ∧ Cond.static (g_y M) ∈ g_T
def g_mi (M : gM) (n : Nat) : Prop := g_mb M n ∧ Cond.instanceMethod (g_y M) ∈ g_T ∧ (g_y M).name = "<init>" ∧ g_r M = none
/-- the callee fits in the caller's room -/
def g_ft (M N : gM) (Z : gZ) : Bool := decide ((g_m N).frames + 1 ≤ (g_m M).frames) && decide (8 + (g_n N + 11) + (g_m N).locals ≤ (g_m M).locals) && decide (Z.2.1 + (g_m N).cells ≤ (g_m M).cells) && decide (Z.2.2 + (g_m N).slots ≤ (g_m M).slots)
def g_cr (st : List Value) : Bool := decide ((st.map fun v => v.category).sum ≤ 8)
theorem g_cr_ok {st : List Value} (ad : Nat → Nat) {m : MethodId} {pc : Nat} {ls : Array Slot} {rest : List Value} (h : g_cr st = true) : 2 * (F0 m pc ls rest).monitorRoom + ((st.map (g_v ad)).map fun v => v.category).sum ≤ 8 := by
  refine lv_room ?_
  have e : ((st.map (g_v ad)).map fun v => v.category) = st.map fun v => v.category := by
    rw [List.map_map]
    exact List.map_congr_left fun v _ => g_v_cat ad v
  rw [e]
  exact of_decide_eq_true h
section GC
variable {p : Program} {l : Launch} {e : Env} {R : Room} {s : State} {m : MethodId} {args : Array Value} {below : List Frame} {meth : Method} {c : Code} {D : va_G} {A : Nat → Prop} {ad ca : Nat → Nat} {M N : gM} {Z : gZ} {sg : gS} {pc : Nat} {lv : List (Option Value)} {st : List Value} {Q Q' : gO → List gH → gS → Prop} {as : List Value} {H : Heap} {locs : List Loc} {ls : Array Slot}
theorem g_blind {B : List Value} {S : List gH} {al : Bool} {sz : Nat} : FrameBlind (va_Pc B (g_P D ad ca al S sg sz)) := by
  intro a U g mk q
  obtain ⟨q0, q1, qP, qK, qD, qC, qa, ql⟩ := q
  exact ⟨q0, q1, qP, va_K.moved (u := U) (U := U.calling g mk a) (Vm.Alike.refl U.vm) qK, qD, g_K_blind qC, qa, ql⟩
theorem g_Asub (X : g_X p l s m args meth c R D A ad ca M) (Y : g_Y s D A ad ca M Z sg lv H locs ls) : ∀ q, va_A (g_w ad ca Z.1 sg) H.size q → A q := by
  intro q h
  rcases h with ⟨k, e, h⟩ | h
  · exact Y.2.1.2 k (q, e) h
  · exact X.2.2.2.2.2.2.2.2.2.1 q (Nat.le_trans Y.2.2.1.1 h)
theorem g_sz (X : g_X p l s m args meth c R D A ad ca M) (Y : g_Y s D A ad ca M Z sg lv H locs ls) {T : State} (hT : T.heap = H) (X1 : Stand p l e R s m args below meth c T locs Z.2.1 Z.2.2) (ha : g_a M = true) : H.size = ad Z.1.length := by
  obtain ⟨h1, h2, h3⟩ := Y.2.2.2.2 ha
  have hu := X1.heapSize
  rw [hT, h1] at hu
  by_cases h0 : Z.1 = []
  · have h4 := h3 h0
    have h5 := Y.2.2.1.1
    omega
  · have hlen : 0 < Z.1.length := List.length_pos_iff.mpr h0
    have hlt : Z.1.length - 1 < Z.1.length := by omega
    have hg : Z.1[Z.1.length - 1]? = some (Z.1[Z.1.length - 1]) := List.getElem?_eq_getElem hlt
    have h6 := (Y.1 _ _ (g_w_get hg)).lt
    have h7 := X.2.2.2.2.2.2.2.2.2.2.2.2.1 (Z.1.length - 1) (by omega)
    rw [show Z.1.length - 1 + 1 = Z.1.length by omega] at h7
    have h8 : ad (Z.1.length - 1) < H.size := h6
    omega
theorem g_pre (X : g_X p l s m args meth c R D A ad ca M) (Y : g_Y s D A ad ca M Z sg lv H locs ls) {al : Bool} (hsz : al = true → H.size = ad Z.1.length ∧ Z.1.length ≤ 900) : ∀ U : State, U.heap = H → s.WarmedH U.vm → va_Pc (as.map (g_v ad)) (g_P D ad ca al Z.1 sg H.size) (as.map (g_v ad)).toArray U := by
  intro U hU hW
  refine ⟨rfl, by rw [hU], by rw [hU]; exact Y.1, va_K.moved hW.alike X.2.2.2.2.2.2.2.2.1, Y.2.1.weaken (fun _ _ _ _ => trivial), g_K_call X.2.2.2.2.2.2.2.2.2.2.1 Y.2.2.1 hU hW (g_Asub X Y), X.2.2.2.2.2.2.2.2.2.2.2.2.1, fun h => ?_⟩
  rw [hU]
  exact hsz h
/-- behind a call -/
theorem g_back (X : g_X p l s m args meth c R D A ad ca M) (Y : g_Y s D A ad ca M Z sg lv H locs ls) {a : Array Value} {st0 : List Value} {al : Bool} {mc ms : Nat} (hal : g_a M = true → (al = true ∧ H.size = ad Z.1.length) ∨ (mc = 0 ∧ ∀ (o : gO) (S : List gH) (sg' : gS), Q' o S sg' → S = Z.1))
    (hr : va_Run p l e R s m args below meth c H locs Z.2.1 Z.2.2 mc ms (F0 m pc ls st0) (st.map (g_v ad)) (g_Q D (va_A (g_w ad ca Z.1 sg) H.size) ad ca al mc Q' a) (va_A (g_w ad ca Z.1 sg) H.size))
    (k : ∀ (o : gO) (S : List gH) (sg' : gS), Q' o S sg' → ∃ r : Option Value, o = .inl r ∧ G M Q (S, Z.2.1 + mc, Z.2.2 + ms) sg' (pc + 3) lv (r.toList ++ st)) :
    W p l e R s m args below meth c H locs Z.2.1 Z.2.2 (gMQ below (g_Q D A ad ca (g_z M) (g_m M).cells Q) args s (g_m M).cells (g_m M).slots A) (F0 m pc ls st0) := by
  intro T hT X1
  obtain ⟨v, st₀, t, T', L, h0, X', hL, e1, e2, ⟨⟨o, S, sg', hE, hq, hP, hD, hz⟩, hF⟩, go⟩ := hr T hT X1
  obtain ⟨r, rfl, kG⟩ := k o S sg' hq
  have hv : v = r.map (g_v ad) := by
    have h : Outcome.returned v = .returned (r.map (g_v ad)) := hE
    exact Outcome.returned.inj h
  subst hv
  have hsub := g_Asub X Y
  obtain ⟨hz1, hk1⟩ := hF
  rw [h0] at hz1 hk1
  have hS1 : va_S A s.heap T'.heap (locs ++ L) := ⟨Nat.le_trans Y.2.2.1.1 (by rw [e1]; exact hz1), fun q h1 h2 => by
      rw [e1, hk1 q (Nat.lt_of_lt_of_le h1 Y.2.2.1.1) (fun z => h2 (hsub q z))]
      exact Y.2.2.1.2.1 q h1 h2, fun q hq => by
      rcases List.mem_append.mp hq with h | h
      · exact Y.2.2.1.2.2 q h
      · exact hsub _ (hL q h)⟩
  have hst : (r.map (g_v ad)).toList ++ st.map (g_v ad) = (r.toList ++ st).map (g_v ad) := by cases r <;> simp
  obtain ⟨t2, a1, b1⟩ := kG p l e R s m args below meth c D A ad ca X T'.heap (locs ++ L) ls ⟨by rw [e1]; exact hP, hD.weaken (fun _ _ _ h => hsub _ h), hS1, Y.2.2.2.1, fun ha => by
      obtain ⟨h6, h7, h8⟩ := Y.2.2.2.2 ha
      rcases hal ha with ⟨h1, h2⟩ | ⟨h1, h2⟩
      · obtain ⟨h3, h4, h5⟩ := hz h1
        rw [h0] at h3
        exact ⟨by show s.heap.size + (Z.2.1 + mc) = ad S.length; omega, h4, fun h => absurd h h5⟩
      · have hS := h2 _ _ _ hq
        refine ⟨?_, by show S.length ≤ 900; rw [hS]; exact h7, fun h => ?_⟩
        · show s.heap.size + (Z.2.1 + mc) = ad S.length
          rw [hS, h1]
          exact h6
        · show Z.2.1 + mc = 0
          have := h8 (hS ▸ h)
          omega⟩ T' rfl X'
  refine ⟨t2, go t2 ?_, b1⟩
  rw [← hst] at a1
  exact a1
theorem g_bit (h : g_ft M N Z = true) (hR : R = g_m M) : ((g_m N).frames + 1 ≤ R.frames ∧ 8 + (g_n N + 11) + (g_m N).locals ≤ R.locals) ∧ Z.2.1 + (g_m N).cells ≤ R.cells ∧ Z.2.2 + (g_m N).slots ≤ R.slots := by
  subst hR
  simp only [g_ft, Bool.and_eq_true, decide_eq_true_eq] at h
  exact ⟨⟨h.1.1.1, h.1.1.2⟩, h.1.2, h.2⟩
end GC
section GCALL
variable {M N : gM} {Z : gZ} {sg : gS} {pc : Nat} {lv : List (Option Value)} {st : List Value} {Q Q' : gO → List gH → gS → Prop} {as stk : List Value} {idx n : Nat}
theorem G_cV {b ci : Nat} {fl : List gF} (hc : Ct N Z.1 (.ref b :: as) sg Q') (hd : decode (g_b M) pc = .ok (.invokevirtual idx, 3)) (hlk : g_lk (g_y M).cls idx (g_y N)) (hm : g_mv N n) (hn : as.length = n) (hS : Z.1[b]? = some (.inr (ci, fl))) (hci : (g_cl[ci]?).map (fun q => q.1) = some (g_y N).cls)
    (hft : g_ft M N Z = true) (hcr : g_cr st = true) (hal : (g_a N = true → g_a M = true) ∧ (g_a M = true → g_z N = true ∨ ((g_m N).cells = 0 ∧ ∀ (o : gO) (S : List gH) (sg' : gS), Q' o S sg' → S = Z.1))) (hs : stk = as.reverse ++ .ref b :: st)
    (k : ∀ (o : gO) (S : List gH) (sg' : gS), Q' o S sg' → ∃ r : Option Value, o = .inl r ∧ G M Q (S, Z.2.1 + (g_m N).cells, Z.2.2 + (g_m N).slots) sg' (pc + 3) lv (r.toList ++ st)) : G M Q Z sg pc lv stk := by
  intro p l e R s m args below meth c D A ad ca X H locs ls Y
  subst hs
  have hst : (as.reverse ++ .ref b :: st).map (g_v ad) = (as.map (g_v ad)).reverse ++ .ref (ad b) :: st.map (g_v ad) := by simp [g_v]
  obtain ⟨hR1, hR2⟩ := g_bit (N := N) hft X.2.2.2.2.2.2.2.1
  have hts := X.2.2.2.2.2.2.1
  have hal2 : g_a N = true → g_a M = true := hal.1
  have hcell : ∃ cellB : Cell, H[ad b]? = some cellB ∧ cellB.vm.isStatics = false ∧ s.vm.findClass (g_y N).cls = some cellB.cls := by
    obtain ⟨r, h1, cell, q1, q2, q3, q4⟩ := Y.1 b _ (g_w_get hS)
    obtain ⟨hSl, hfc, kC, hkC, hkind⟩ := X.2.2.2.2.2.2.2.2.1.1 ci _ h1
    rw [h1] at hci
    have e : r.1 = (g_y N).cls := by simpa using hci
    exact ⟨cell, q1, by rw [q3]; rfl, by rw [← e, q2]; exact hfc⟩
  obtain ⟨⟨hini, hcode, hd2⟩, hinst, hsel⟩ := hm
  intro T hT X1
  have hpre : PreV s H (g_y N).cls (ad b) (va_Pc ((.ref b :: as).map (g_v ad)) (g_P D ad ca (g_a N) Z.1 sg H.size)) (as.map (g_v ad)) := ⟨g_blind, hcell, g_pre (as := .ref b :: as) X Y (fun ha => ⟨g_sz X Y hT X1 (hal2 ha), (Y.2.2.2.2 (hal2 ha)).2.1⟩)⟩
  rw [hst]
  rcases hlk with hl | ⟨h, hl⟩
  · refine g_back (al := g_z N) X Y (fun ha => (hal.2 ha).imp (fun h => ⟨h, g_sz X Y hT X1 ha⟩) id) (va_runV (As := as.map (g_v ad)) (rest := st.map (g_v ad)) (C := (g_y N).cls) ⟨X.1, X.2.1, X.2.2.2.1, X.2.2.2.2.1, hts⟩ (hc l D ad ca H.size X.2.2.2.2.2.2.2.2.2.2.2.2.2.2.2.1) ⟨callB_of n hts (g_goodIn hcode) rfl rfl rfl (hts _ hini) (hts _ hl) hd2 hR1, hts _ hinst, hts _ hsel⟩ hpre rfl (by simpa using hn) Y.2.2.2.1.1 rfl (g_cr_ok ad hcr) hd hR2) k T hT X1
  · refine g_back (al := g_z N) X Y (fun ha => (hal.2 ha).imp (fun h => ⟨h, g_sz X Y hT X1 ha⟩) id) (va_runVN (As := as.map (g_v ad)) (rest := st.map (g_v ad)) (C := (g_y N).cls) ⟨X.1, X.2.1, X.2.2.2.1, X.2.2.2.2.1, hts⟩ (hc l D ad ca H.size X.2.2.2.2.2.2.2.2.2.2.2.2.2.2.2.1) ⟨va_cnB n hts (g_goodIn hcode) rfl rfl rfl (X.2.2.2.2.2.2.2.2.2.2.1.2.2.2.2.2.1 _ hl) (hts _ hini) hd2 hR1, hts _ hinst, hts _ hsel⟩ hpre rfl (by simpa using hn) Y.2.2.2.1.1 rfl (g_cr_ok ad hcr) hd hR2) k T hT X1
theorem G_cS (hc : Ct N Z.1 as sg Q') (hd : decode (g_b M) pc = .ok (.invokestatic idx, 3)) (hlk : g_lk (g_y M).cls idx (g_y N)) (hm : g_ms N n) (hn : as.length = n)
    (hft : g_ft M N Z = true) (hcr : g_cr st = true) (hal : (g_a N = true → g_a M = true) ∧ (g_a M = true → g_z N = true ∨ ((g_m N).cells = 0 ∧ ∀ (o : gO) (S : List gH) (sg' : gS), Q' o S sg' → S = Z.1))) (hs : stk = as.reverse ++ st)
    (k : ∀ (o : gO) (S : List gH) (sg' : gS), Q' o S sg' → ∃ r : Option Value, o = .inl r ∧ G M Q (S, Z.2.1 + (g_m N).cells, Z.2.2 + (g_m N).slots) sg' (pc + 3) lv (r.toList ++ st)) : G M Q Z sg pc lv stk := by
  intro p l e R s m args below meth c D A ad ca X H locs ls Y
  subst hs
  have hst : (as.reverse ++ st).map (g_v ad) = (as.map (g_v ad)).reverse ++ st.map (g_v ad) := by simp
  obtain ⟨hR1, hR2⟩ := g_bit (N := N) hft X.2.2.2.2.2.2.2.1
  have hts := X.2.2.2.2.2.2.1
  have hal2 : g_a N = true → g_a M = true := hal.1
  obtain ⟨⟨hini, hcode, hd2⟩, hstat⟩ := hm
  intro T hT X1
  have hpre : PreS s H (va_Pc (as.map (g_v ad)) (g_P D ad ca (g_a N) Z.1 sg H.size)) (as.map (g_v ad)) := ⟨g_blind, g_pre X Y (fun ha => ⟨g_sz X Y hT X1 (hal2 ha), (Y.2.2.2.2 (hal2 ha)).2.1⟩)⟩
  rw [hst]
  rcases hlk with hl | ⟨h, hl⟩
  · refine g_back (al := g_z N) X Y (fun ha => (hal.2 ha).imp (fun h => ⟨h, g_sz X Y hT X1 ha⟩) id) (va_runS (As := as.map (g_v ad)) (rest := st.map (g_v ad)) ⟨X.1, X.2.1, X.2.2.2.1, X.2.2.2.2.1, hts⟩ (hc l D ad ca H.size X.2.2.2.2.2.2.2.2.2.2.2.2.2.2.2.1) ⟨callB_of n hts (g_goodIn hcode) rfl rfl rfl (hts _ hini) (hts _ hl) hd2 hR1, hts _ hstat⟩ hpre rfl (by simpa using hn) Y.2.2.2.1.1 rfl (g_cr_ok ad hcr) hd hR2) k T hT X1
  · refine g_back (al := g_z N) X Y (fun ha => (hal.2 ha).imp (fun h => ⟨h, g_sz X Y hT X1 ha⟩) id) (va_runSN (As := as.map (g_v ad)) (rest := st.map (g_v ad)) ⟨X.1, X.2.1, X.2.2.2.1, X.2.2.2.2.1, hts⟩ (hc l D ad ca H.size X.2.2.2.2.2.2.2.2.2.2.2.2.2.2.2.1) ⟨va_cnB n hts (g_goodIn hcode) rfl rfl rfl (X.2.2.2.2.2.2.2.2.2.2.1.2.2.2.2.2.1 _ hl) (hts _ hini) hd2 hR1, hts _ hstat, trivial⟩ hpre rfl (by simpa using hn) Y.2.2.2.1.1 rfl (g_cr_ok ad hcr) hd hR2) k T hT X1
theorem G_cI {b : Nat} (hc : Ct N Z.1 (.ref b :: as) sg Q') (hd : decode (g_b M) pc = .ok (.invokespecial idx, 3)) (hlk : g_lk (g_y M).cls idx (g_y N)) (hm : g_mi N n) (hn : as.length = n)
    (hft : g_ft M N Z = true) (hcr : g_cr st = true) (hal : (g_a N = true → g_a M = true) ∧ (g_a M = true → g_z N = true ∨ ((g_m N).cells = 0 ∧ ∀ (o : gO) (S : List gH) (sg' : gS), Q' o S sg' → S = Z.1))) (hs : stk = as.reverse ++ .ref b :: st)
    (k : ∀ (o : gO) (S : List gH) (sg' : gS), Q' o S sg' → ∃ r : Option Value, o = .inl r ∧ G M Q (S, Z.2.1 + (g_m N).cells, Z.2.2 + (g_m N).slots) sg' (pc + 3) lv (r.toList ++ st)) : G M Q Z sg pc lv stk := by
  intro p l e R s m args below meth c D A ad ca X H locs ls Y
  subst hs
  have hst : (as.reverse ++ .ref b :: st).map (g_v ad) = (as.map (g_v ad)).reverse ++ .ref (ad b) :: st.map (g_v ad) := by simp [g_v]
  obtain ⟨hR1, hR2⟩ := g_bit (N := N) hft X.2.2.2.2.2.2.2.1
  have hts := X.2.2.2.2.2.2.1
  have hal2 : g_a N = true → g_a M = true := hal.1
  obtain ⟨⟨hini, hcode, hd2⟩, hinst, hnm, hret⟩ := hm
  intro T hT X1
  have hpre : PreS s H (va_Pc ((.ref b :: as).map (g_v ad)) (g_P D ad ca (g_a N) Z.1 sg H.size)) (.ref (ad b) :: as.map (g_v ad)) := ⟨g_blind, g_pre (as := .ref b :: as) X Y (fun ha => ⟨g_sz X Y hT X1 (hal2 ha), (Y.2.2.2.2 (hal2 ha)).2.1⟩)⟩
  rw [hst]
  have hgi := g_goodIn hcode
  rcases hlk with hl | ⟨h, hl⟩
  · refine g_back (al := g_z N) X Y (fun ha => (hal.2 ha).imp (fun h => ⟨h, g_sz X Y hT X1 ha⟩) id) (va_runI (As := as.map (g_v ad)) (rest := st.map (g_v ad)) (bytes := g_b N) (maxL := g_n N) ⟨X.1, X.2.1, X.2.2.2.1, X.2.2.2.2.1, hts⟩ (hc l D ad ca H.size X.2.2.2.2.2.2.2.2.2.2.2.2.2.2.2.1) ⟨by rw [← hret]; exact callB_of n hts hgi rfl rfl rfl (hts _ hini) (hts _ hl) hd2 hR1, hnm, hts _ hinst⟩ hpre rfl (by simpa using hn) Y.2.2.2.1.1 rfl (g_cr_ok ad hcr) hd hR2) k T hT X1
  · refine g_back (al := g_z N) X Y (fun ha => (hal.2 ha).imp (fun h => ⟨h, g_sz X Y hT X1 ha⟩) id) (va_runIN (As := as.map (g_v ad)) (rest := st.map (g_v ad)) (bytes := g_b N) (maxL := g_n N) ⟨X.1, X.2.1, X.2.2.2.1, X.2.2.2.2.1, hts⟩ (hc l D ad ca H.size X.2.2.2.2.2.2.2.2.2.2.2.2.2.2.2.1) ⟨by rw [← hret]; exact va_cnB n hts hgi rfl rfl rfl (X.2.2.2.2.2.2.2.2.2.2.1.2.2.2.2.2.1 _ hl) (hts _ hini) hd2 hR1, hnm, hts _ hinst⟩ hpre rfl (by simpa using hn) Y.2.2.2.1.1 rfl (g_cr_ok ad hcr) hd hR2) k T hT X1
end GCALL
def g_c0 (N : gM) : Bool := decide ((g_m N).cells = 0) && decide ((g_m N).slots = 0)
theorem g_c0_eq {N : gM} (h : g_c0 N = true) : (g_m N).cells = 0 ∧ (g_m N).slots = 0 := by
  simpa [g_c0] using h
end
section
section GR
variable {M : gM} {Q : gO → List gH → gS → Prop} {Z : gZ} {sg : gS} {pc : Nat} {lv : List (Option Value)} {st : List Value}
theorem gi_eq {a : Int32} {z : Int} (h : a = Int32.ofInt z) : Value.int a = gi z := by rw [h]; rfl
theorem gl_eq {a : Int64} {z : Int} (h : a = Int64.ofInt z) : Value.long a = gl z := by rw [h]; rfl
theorem G_iconst {n : Int} (hd : decode (g_b M) pc = .ok (.iconst n, 1)) (k : G M Q Z sg (pc + 1) lv (gi n :: st)) : G M Q Z sg pc lv st :=
  fun p l e R s m args below meth c D A ad ca X H locs ls Y => lv_iconst X.1 X.2.1 hd rfl (k p l e R s m args below meth c D A ad ca X H locs ls Y)
theorem G_bipush {n : Int} (hd : decode (g_b M) pc = .ok (.bipush n, 2)) (hv : (Int8.ofInt n).toInt32 = Int32.ofInt n) (k : G M Q Z sg (pc + 2) lv (gi n :: st)) : G M Q Z sg pc lv st :=
  fun p l e R s m args below meth c D A ad ca X H locs ls Y => lv_bipush X.1 X.2.1 hd hv (k p l e R s m args below meth c D A ad ca X H locs ls Y)
theorem G_sipush {n : Int} (hd : decode (g_b M) pc = .ok (.sipush n, 3)) (hv : (Int16.ofInt n).toInt32 = Int32.ofInt n) (k : G M Q Z sg (pc + 3) lv (gi n :: st)) : G M Q Z sg pc lv st :=
  fun p l e R s m args below meth c D A ad ca X H locs ls Y => lv_sipush X.1 X.2.1 hd hv (k p l e R s m args below meth c D A ad ca X H locs ls Y)
theorem G_lconst {n : Fin 2} {z : Int} (hd : decode (g_b M) pc = .ok (.lconst n, 1)) (hv : Int64.ofNat (n : Nat) = Int64.ofInt z) (k : G M Q Z sg (pc + 1) lv (gl z :: st)) : G M Q Z sg pc lv st :=
  fun p l e R s m args below meth c D A ad ca X H locs ls Y => lv_lconst X.1 X.2.1 hd hv (k p l e R s m args below meth c D A ad ca X H locs ls Y)
theorem G_ldc {idx : Nat} {v : Int32} {z : Int} (hd : decode (g_b M) pc = .ok (.ldc idx, 2)) (hw : Cond.constant (g_y M).cls idx v ∈ g_T) (hv : v = Int32.ofInt z) (k : G M Q Z sg (pc + 2) lv (gi z :: st)) : G M Q Z sg pc lv st :=
  fun p l e R s m args below meth c D A ad ca X H locs ls Y => lv_ldc X.1 X.2.1 X.2.2.2.2.1 (X.2.2.2.2.2.2.1 _ hw) hd (by rw [gi_eq hv]; exact k p l e R s m args below meth c D A ad ca X H locs ls Y)
theorem G_ldc_w {idx : Nat} {v : Int32} {z : Int} (hd : decode (g_b M) pc = .ok (.ldc_w idx, 3)) (hw : Cond.constant (g_y M).cls idx v ∈ g_T) (hv : v = Int32.ofInt z) (k : G M Q Z sg (pc + 3) lv (gi z :: st)) : G M Q Z sg pc lv st :=
  fun p l e R s m args below meth c D A ad ca X H locs ls Y => lv_ldcw X.1 X.2.1 X.2.2.2.2.1 (X.2.2.2.2.2.2.1 _ hw) hd (by rw [gi_eq hv]; exact k p l e R s m args below meth c D A ad ca X H locs ls Y)
theorem G_ldc2 {idx : Nat} {v : Int64} {z : Int} (hd : decode (g_b M) pc = .ok (.ldc2_w idx, 3)) (hw : Cond.constantLong (g_y M).cls idx v ∈ g_T) (hv : v = Int64.ofInt z) (k : G M Q Z sg (pc + 3) lv (gl z :: st)) : G M Q Z sg pc lv st :=
  fun p l e R s m args below meth c D A ad ca X H locs ls Y => lv_ldc2 X.1 X.2.1 X.2.2.2.2.1 (X.2.2.2.2.2.2.1 _ hw) hd (by rw [gl_eq hv]; exact k p l e R s m args below meth c D A ad ca X H locs ls Y)
theorem G_iload_n {j : Fin 4} {i : Nat} {x : Int} (hd : decode (g_b M) pc = .ok (.iload_n j, 1)) (hj : (j : Nat) = i) (hi : lv[i]? = some (some (gi x))) (k : G M Q Z sg (pc + 1) lv (gi x :: st)) : G M Q Z sg pc lv st :=
  fun p l e R s m args below meth c D A ad ca X H locs ls Y => lv_iload_n X.1 X.2.1 hd hj (g_rd Y.2.2.2.1 hi) (k p l e R s m args below meth c D A ad ca X H locs ls Y)
theorem G_iload {i : Nat} {x : Int} (hd : decode (g_b M) pc = .ok (.iload i, 2)) (hi : lv[i]? = some (some (gi x))) (k : G M Q Z sg (pc + 2) lv (gi x :: st)) : G M Q Z sg pc lv st :=
  fun p l e R s m args below meth c D A ad ca X H locs ls Y => lv_iload X.1 X.2.1 hd (g_rd Y.2.2.2.1 hi) (k p l e R s m args below meth c D A ad ca X H locs ls Y)
theorem G_lload_n {j : Fin 4} {i : Nat} {x : Int} (hd : decode (g_b M) pc = .ok (.lload_n j, 1)) (hj : (j : Nat) = i) (hi : lv[i]? = some (some (gl x))) (k : G M Q Z sg (pc + 1) lv (gl x :: st)) : G M Q Z sg pc lv st :=
  fun p l e R s m args below meth c D A ad ca X H locs ls Y => lv_lload_n X.1 X.2.1 hd hj (g_rd Y.2.2.2.1 hi) (k p l e R s m args below meth c D A ad ca X H locs ls Y)
theorem G_lload {i : Nat} {x : Int} (hd : decode (g_b M) pc = .ok (.lload i, 2)) (hi : lv[i]? = some (some (gl x))) (k : G M Q Z sg (pc + 2) lv (gl x :: st)) : G M Q Z sg pc lv st :=
  fun p l e R s m args below meth c D A ad ca X H locs ls Y => lv_lload X.1 X.2.1 hd (g_rd Y.2.2.2.1 hi) (k p l e R s m args below meth c D A ad ca X H locs ls Y)
theorem G_aload_n {j : Fin 4} {i : Nat} {x : Nat} (hd : decode (g_b M) pc = .ok (.aload_n j, 1)) (hj : (j : Nat) = i) (hi : lv[i]? = some (some (Value.ref x))) (k : G M Q Z sg (pc + 1) lv (Value.ref x :: st)) : G M Q Z sg pc lv st :=
  fun p l e R s m args below meth c D A ad ca X H locs ls Y => lv_aload_n X.1 X.2.1 hd hj (g_rd Y.2.2.2.1 hi) (k p l e R s m args below meth c D A ad ca X H locs ls Y)
theorem G_aload {i : Nat} {x : Nat} (hd : decode (g_b M) pc = .ok (.aload i, 2)) (hi : lv[i]? = some (some (Value.ref x))) (k : G M Q Z sg (pc + 2) lv (Value.ref x :: st)) : G M Q Z sg pc lv st :=
  fun p l e R s m args below meth c D A ad ca X H locs ls Y => lv_aload X.1 X.2.1 hd (g_rd Y.2.2.2.1 hi) (k p l e R s m args below meth c D A ad ca X H locs ls Y)
theorem G_istore_n {j : Fin 4} {i : Nat} {x : Int} {lv' : List (Option Value)} (hd : decode (g_b M) pc = .ok (.istore_n j, 1)) (hj : (j : Nat) = i) (hn : i < g_n M) (ho : g_nl lv i = true) (hl : lv.set i (some (gi x)) = lv') (k : G M Q Z sg (pc + 1) lv' st) : G M Q Z sg pc lv (gi x :: st) := by
  subst hl
  exact fun p l e R s m args below meth c D A ad ca X H locs ls Y => lv_istore_n X.1 X.2.1 hd hj Y.2.2.2.1 hn rfl fun ls' h => k p l e R s m args below meth c D A ad ca X H locs ls' ⟨Y.1, Y.2.1, Y.2.2.1, g_set1 rfl ho h, Y.2.2.2.2⟩
theorem G_istore {i : Nat} {x : Int} {lv' : List (Option Value)} (hd : decode (g_b M) pc = .ok (.istore i, 2)) (hn : i < g_n M) (ho : g_nl lv i = true) (hl : lv.set i (some (gi x)) = lv') (k : G M Q Z sg (pc + 2) lv' st) : G M Q Z sg pc lv (gi x :: st) := by
  subst hl
  exact fun p l e R s m args below meth c D A ad ca X H locs ls Y => lv_istore X.1 X.2.1 hd Y.2.2.2.1 hn rfl fun ls' h => k p l e R s m args below meth c D A ad ca X H locs ls' ⟨Y.1, Y.2.1, Y.2.2.1, g_set1 rfl ho h, Y.2.2.2.2⟩
theorem G_astore_n {j : Fin 4} {i : Nat} {x : Nat} {lv' : List (Option Value)} (hd : decode (g_b M) pc = .ok (.astore_n j, 1)) (hj : (j : Nat) = i) (hn : i < g_n M) (ho : g_nl lv i = true) (hl : lv.set i (some (Value.ref x)) = lv') (k : G M Q Z sg (pc + 1) lv' st) : G M Q Z sg pc lv (Value.ref x :: st) := by
  subst hl
  exact fun p l e R s m args below meth c D A ad ca X H locs ls Y => lv_astore_n X.1 X.2.1 hd hj Y.2.2.2.1 hn rfl fun ls' h => k p l e R s m args below meth c D A ad ca X H locs ls' ⟨Y.1, Y.2.1, Y.2.2.1, g_set1 rfl ho h, Y.2.2.2.2⟩
theorem G_astore {i : Nat} {x : Nat} {lv' : List (Option Value)} (hd : decode (g_b M) pc = .ok (.astore i, 2)) (hn : i < g_n M) (ho : g_nl lv i = true) (hl : lv.set i (some (Value.ref x)) = lv') (k : G M Q Z sg (pc + 2) lv' st) : G M Q Z sg pc lv (Value.ref x :: st) := by
  subst hl
  exact fun p l e R s m args below meth c D A ad ca X H locs ls Y => lv_astore X.1 X.2.1 hd Y.2.2.2.1 hn rfl fun ls' h => k p l e R s m args below meth c D A ad ca X H locs ls' ⟨Y.1, Y.2.1, Y.2.2.1, g_set1 rfl ho h, Y.2.2.2.2⟩
theorem G_lstore_n {j : Fin 4} {i : Nat} {x : Int} {lv' : List (Option Value)} (hd : decode (g_b M) pc = .ok (.lstore_n j, 1)) (hj : (j : Nat) = i) (hn : i + 1 < g_n M) (ho : g_nl lv i = true) (hl : (lv.set i (some (gl x))).set (i + 1) none = lv') (k : G M Q Z sg (pc + 1) lv' st) : G M Q Z sg pc lv (gl x :: st) := by
  subst hl
  exact fun p l e R s m args below meth c D A ad ca X H locs ls Y => lv_lstore_n X.1 X.2.1 hd hj Y.2.2.2.1 hn rfl fun ls' h => k p l e R s m args below meth c D A ad ca X H locs ls' ⟨Y.1, Y.2.1, Y.2.2.1, g_set2 rfl ho h, Y.2.2.2.2⟩
theorem G_lstore {i : Nat} {x : Int} {lv' : List (Option Value)} (hd : decode (g_b M) pc = .ok (.lstore i, 2)) (hn : i + 1 < g_n M) (ho : g_nl lv i = true) (hl : (lv.set i (some (gl x))).set (i + 1) none = lv') (k : G M Q Z sg (pc + 2) lv' st) : G M Q Z sg pc lv (gl x :: st) := by
  subst hl
  exact fun p l e R s m args below meth c D A ad ca X H locs ls Y => lv_lstore X.1 X.2.1 hd Y.2.2.2.1 hn rfl fun ls' h => k p l e R s m args below meth c D A ad ca X H locs ls' ⟨Y.1, Y.2.1, Y.2.2.1, g_set2 rfl ho h, Y.2.2.2.2⟩
theorem G_iinc {i : Nat} {n x : Int} {lv' : List (Option Value)} (hd : decode (g_b M) pc = .ok (.iinc i n, 3)) (hi : lv[i]? = some (some (gi x))) (hn : i < g_n M) (ho : g_nl lv i = true) (hl : lv.set i (some (gi (x + n))) = lv') (k : G M Q Z sg (pc + 3) lv' st) : G M Q Z sg pc lv st := by
  subst hl
  intro p l e R s m args below meth c D A ad ca X H locs ls Y
  obtain ⟨j, hj⟩ := List.getElem?_of_mem (g_lq_mem (ad := ad) (q := (i, gi x)) |>.mpr ⟨gi x, hi, rfl⟩)
  exact lv_iinc X.1 X.2.1 hd Y.2.2.2.1 hj rfl hn rfl fun ls' h => k p l e R s m args below meth c D A ad ca X H locs ls' ⟨Y.1, Y.2.1, Y.2.2.1, g_set1 (v := gi (x + n)) (by rw [← Int32.ofInt_add]; rfl) ho h, Y.2.2.2.2⟩
theorem G_sub {lv' : List (Option Value)} (hs : g_sub lv' lv) (k : G M Q Z sg pc lv' st) : G M Q Z sg pc lv st :=
  fun p l e R s m args below meth c D A ad ca X H locs ls Y => k p l e R s m args below meth c D A ad ca X H locs ls ⟨Y.1, Y.2.1, Y.2.2.1, g_lw Y.2.2.2.1 (fun q hq => by
    obtain ⟨v, h1, h2⟩ := g_lq_mem.mp hq
    exact g_lq_mem.mpr ⟨v, g_sub_get hs h1, h2⟩), Y.2.2.2.2⟩
theorem G_iadd {x y : Int} (hd : decode (g_b M) pc = .ok (.iadd, 1)) (k : G M Q Z sg (pc + 1) lv (gi (x + y) :: st)) : G M Q Z sg pc lv (gi y :: gi x :: st) :=
  fun p l e R s m args below meth c D A ad ca X H locs ls Y => lv_iadd (x := Int32.ofInt x) (y := Int32.ofInt y) X.1 X.2.1 hd (by rw [gi_eq (z := x + y) ((Int32.ofInt_add x y).symm)]; exact k p l e R s m args below meth c D A ad ca X H locs ls Y)
theorem G_isub {x y : Int} (hd : decode (g_b M) pc = .ok (.isub, 1)) (k : G M Q Z sg (pc + 1) lv (gi (x - y) :: st)) : G M Q Z sg pc lv (gi y :: gi x :: st) :=
  fun p l e R s m args below meth c D A ad ca X H locs ls Y => lv_isub (x := Int32.ofInt x) (y := Int32.ofInt y) X.1 X.2.1 hd (by rw [gi_eq (z := x - y) ((Int32.ofInt_sub x y).symm)]; exact k p l e R s m args below meth c D A ad ca X H locs ls Y)
theorem G_imul {x y : Int} (hd : decode (g_b M) pc = .ok (.imul, 1)) (k : G M Q Z sg (pc + 1) lv (gi (x * y) :: st)) : G M Q Z sg pc lv (gi y :: gi x :: st) :=
  fun p l e R s m args below meth c D A ad ca X H locs ls Y => lv_imul (x := Int32.ofInt x) (y := Int32.ofInt y) X.1 X.2.1 hd (by rw [gi_eq (z := x * y) ((Int32.ofInt_mul x y).symm)]; exact k p l e R s m args below meth c D A ad ca X H locs ls Y)
theorem G_ladd {x y : Int} (hd : decode (g_b M) pc = .ok (.ladd, 1)) (k : G M Q Z sg (pc + 1) lv (gl (x + y) :: st)) : G M Q Z sg pc lv (gl y :: gl x :: st) :=
  fun p l e R s m args below meth c D A ad ca X H locs ls Y => lv_ladd (x := Int64.ofInt x) (y := Int64.ofInt y) X.1 X.2.1 hd (by rw [gl_eq (z := x + y) ((Int64.ofInt_add x y).symm)]; exact k p l e R s m args below meth c D A ad ca X H locs ls Y)
theorem G_lsub {x y : Int} (hd : decode (g_b M) pc = .ok (.lsub, 1)) (k : G M Q Z sg (pc + 1) lv (gl (x - y) :: st)) : G M Q Z sg pc lv (gl y :: gl x :: st) :=
  fun p l e R s m args below meth c D A ad ca X H locs ls Y => lv_lsub (x := Int64.ofInt x) (y := Int64.ofInt y) X.1 X.2.1 hd (by rw [gl_eq (z := x - y) ((Int64.ofInt_sub x y).symm)]; exact k p l e R s m args below meth c D A ad ca X H locs ls Y)
theorem G_lmul {x y : Int} (hd : decode (g_b M) pc = .ok (.lmul, 1)) (k : G M Q Z sg (pc + 1) lv (gl (x * y) :: st)) : G M Q Z sg pc lv (gl y :: gl x :: st) :=
  fun p l e R s m args below meth c D A ad ca X H locs ls Y => lv_lmul (x := Int64.ofInt x) (y := Int64.ofInt y) X.1 X.2.1 hd (by rw [gl_eq (z := x * y) ((Int64.ofInt_mul x y).symm)]; exact k p l e R s m args below meth c D A ad ca X H locs ls Y)
theorem G_iand {x y : Int} (hd : decode (g_b M) pc = .ok (.iand, 1)) (k : G M Q Z sg (pc + 1) lv (gi (i_and x y) :: st)) : G M Q Z sg pc lv (gi y :: gi x :: st) :=
  fun p l e R s m args below meth c D A ad ca X H locs ls Y => lv_iand (x := Int32.ofInt x) (y := Int32.ofInt y) X.1 X.2.1 hd (by rw [gi_eq (z := i_and x y) ((Int32.ofInt_toInt _).symm)]; exact k p l e R s m args below meth c D A ad ca X H locs ls Y)
theorem G_land {x y : Int} (hd : decode (g_b M) pc = .ok (.land, 1)) (k : G M Q Z sg (pc + 1) lv (gl (l_and x y) :: st)) : G M Q Z sg pc lv (gl y :: gl x :: st) :=
  fun p l e R s m args below meth c D A ad ca X H locs ls Y => lv_land (x := Int64.ofInt x) (y := Int64.ofInt y) X.1 X.2.1 hd (by rw [gl_eq (z := l_and x y) ((Int64.ofInt_toInt _).symm)]; exact k p l e R s m args below meth c D A ad ca X H locs ls Y)
theorem G_ior {x y : Int} (hd : decode (g_b M) pc = .ok (.ior, 1)) (k : G M Q Z sg (pc + 1) lv (gi (i_or x y) :: st)) : G M Q Z sg pc lv (gi y :: gi x :: st) :=
  fun p l e R s m args below meth c D A ad ca X H locs ls Y => lv_ior (x := Int32.ofInt x) (y := Int32.ofInt y) X.1 X.2.1 hd (by rw [gi_eq (z := i_or x y) ((Int32.ofInt_toInt _).symm)]; exact k p l e R s m args below meth c D A ad ca X H locs ls Y)
theorem G_lor {x y : Int} (hd : decode (g_b M) pc = .ok (.lor, 1)) (k : G M Q Z sg (pc + 1) lv (gl (l_or x y) :: st)) : G M Q Z sg pc lv (gl y :: gl x :: st) :=
  fun p l e R s m args below meth c D A ad ca X H locs ls Y => lv_lor (x := Int64.ofInt x) (y := Int64.ofInt y) X.1 X.2.1 hd (by rw [gl_eq (z := l_or x y) ((Int64.ofInt_toInt _).symm)]; exact k p l e R s m args below meth c D A ad ca X H locs ls Y)
theorem G_ixor {x y : Int} (hd : decode (g_b M) pc = .ok (.ixor, 1)) (k : G M Q Z sg (pc + 1) lv (gi (i_xor x y) :: st)) : G M Q Z sg pc lv (gi y :: gi x :: st) :=
  fun p l e R s m args below meth c D A ad ca X H locs ls Y => lv_ixor (x := Int32.ofInt x) (y := Int32.ofInt y) X.1 X.2.1 hd (by rw [gi_eq (z := i_xor x y) ((Int32.ofInt_toInt _).symm)]; exact k p l e R s m args below meth c D A ad ca X H locs ls Y)
theorem G_lxor {x y : Int} (hd : decode (g_b M) pc = .ok (.lxor, 1)) (k : G M Q Z sg (pc + 1) lv (gl (l_xor x y) :: st)) : G M Q Z sg pc lv (gl y :: gl x :: st) :=
  fun p l e R s m args below meth c D A ad ca X H locs ls Y => lv_lxor (x := Int64.ofInt x) (y := Int64.ofInt y) X.1 X.2.1 hd (by rw [gl_eq (z := l_xor x y) ((Int64.ofInt_toInt _).symm)]; exact k p l e R s m args below meth c D A ad ca X H locs ls Y)
theorem G_ishl {x y : Int} (hd : decode (g_b M) pc = .ok (.ishl, 1)) (k : G M Q Z sg (pc + 1) lv (gi (i_shl x y) :: st)) : G M Q Z sg pc lv (gi y :: gi x :: st) :=
  fun p l e R s m args below meth c D A ad ca X H locs ls Y => lv_ishl (x := Int32.ofInt x) (y := Int32.ofInt y) X.1 X.2.1 hd (by rw [gi_eq (z := i_shl x y) ((Int32.ofInt_toInt _).symm)]; exact k p l e R s m args below meth c D A ad ca X H locs ls Y)
theorem G_ishr {x y : Int} (hd : decode (g_b M) pc = .ok (.ishr, 1)) (k : G M Q Z sg (pc + 1) lv (gi (i_shr x y) :: st)) : G M Q Z sg pc lv (gi y :: gi x :: st) :=
  fun p l e R s m args below meth c D A ad ca X H locs ls Y => lv_ishr (x := Int32.ofInt x) (y := Int32.ofInt y) X.1 X.2.1 hd (by rw [gi_eq (z := i_shr x y) ((Int32.ofInt_toInt _).symm)]; exact k p l e R s m args below meth c D A ad ca X H locs ls Y)
theorem G_idiv {x y : Int} (hd : decode (g_b M) pc = .ok (.idiv, 1)) (hz : ¬ w32 y = 0) (k : G M Q Z sg (pc + 1) lv (gi (i_div x y) :: st)) : G M Q Z sg pc lv (gi y :: gi x :: st) :=
  fun p l e R s m args below meth c D A ad ca X H locs ls Y => lv_idiv (x := Int32.ofInt x) (y := Int32.ofInt y) X.1 X.2.1 hd (fun q => hz (w32_0.mp q)) (by rw [gi_eq (z := i_div x y) ((Int32.ofInt_toInt _).symm)]; exact k p l e R s m args below meth c D A ad ca X H locs ls Y)
theorem G_ldiv {x y : Int} (hd : decode (g_b M) pc = .ok (.ldiv, 1)) (hz : ¬ w64 y = 0) (k : G M Q Z sg (pc + 1) lv (gl (l_div x y) :: st)) : G M Q Z sg pc lv (gl y :: gl x :: st) :=
  fun p l e R s m args below meth c D A ad ca X H locs ls Y => lv_ldiv (x := Int64.ofInt x) (y := Int64.ofInt y) X.1 X.2.1 hd (fun q => hz (w64_0.mp q)) (by rw [gl_eq (z := l_div x y) ((Int64.ofInt_toInt _).symm)]; exact k p l e R s m args below meth c D A ad ca X H locs ls Y)
theorem G_irem {x y : Int} (hd : decode (g_b M) pc = .ok (.irem, 1)) (hz : ¬ w32 y = 0) (k : G M Q Z sg (pc + 1) lv (gi (i_rem x y) :: st)) : G M Q Z sg pc lv (gi y :: gi x :: st) :=
  fun p l e R s m args below meth c D A ad ca X H locs ls Y => lv_irem (x := Int32.ofInt x) (y := Int32.ofInt y) X.1 X.2.1 hd (fun q => hz (w32_0.mp q)) (by rw [gi_eq (z := i_rem x y) ((Int32.ofInt_toInt _).symm)]; exact k p l e R s m args below meth c D A ad ca X H locs ls Y)
theorem G_lrem {x y : Int} (hd : decode (g_b M) pc = .ok (.lrem, 1)) (hz : ¬ w64 y = 0) (k : G M Q Z sg (pc + 1) lv (gl (l_rem x y) :: st)) : G M Q Z sg pc lv (gl y :: gl x :: st) :=
  fun p l e R s m args below meth c D A ad ca X H locs ls Y => lv_lrem (x := Int64.ofInt x) (y := Int64.ofInt y) X.1 X.2.1 hd (fun q => hz (w64_0.mp q)) (by rw [gl_eq (z := l_rem x y) ((Int64.ofInt_toInt _).symm)]; exact k p l e R s m args below meth c D A ad ca X H locs ls Y)
theorem G_iushr {x y : Int} (hd : decode (g_b M) pc = .ok (.iushr, 1)) (k : G M Q Z sg (pc + 1) lv (gi (i_ushr x y) :: st)) : G M Q Z sg pc lv (gi y :: gi x :: st) :=
  fun p l e R s m args below meth c D A ad ca X H locs ls Y => lv_iushr X.1 X.2.1 hd (Int32.ofInt_toInt _).symm (k p l e R s m args below meth c D A ad ca X H locs ls Y)
theorem G_lushr {x y : Int} (hd : decode (g_b M) pc = .ok (.lushr, 1)) (k : G M Q Z sg (pc + 1) lv (gl (l_ushr x y) :: st)) : G M Q Z sg pc lv (gi y :: gl x :: st) :=
  fun p l e R s m args below meth c D A ad ca X H locs ls Y => lv_lushr X.1 X.2.1 hd (Int64.ofInt_toInt _).symm (k p l e R s m args below meth c D A ad ca X H locs ls Y)
theorem G_lshl {x y : Int} (hd : decode (g_b M) pc = .ok (.lshl, 1)) (k : G M Q Z sg (pc + 1) lv (gl (l_shl x y) :: st)) : G M Q Z sg pc lv (gi y :: gl x :: st) :=
  fun p l e R s m args below meth c D A ad ca X H locs ls Y => lv_lshl X.1 X.2.1 hd (Int64.ofInt_toInt _).symm (k p l e R s m args below meth c D A ad ca X H locs ls Y)
theorem G_lshr {x y : Int} (hd : decode (g_b M) pc = .ok (.lshr, 1)) (k : G M Q Z sg (pc + 1) lv (gl (l_shr x y) :: st)) : G M Q Z sg pc lv (gi y :: gl x :: st) :=
  fun p l e R s m args below meth c D A ad ca X H locs ls Y => lv_lshr X.1 X.2.1 hd (Int64.ofInt_toInt _).symm (k p l e R s m args below meth c D A ad ca X H locs ls Y)
theorem G_ineg {x : Int} (hd : decode (g_b M) pc = .ok (.ineg, 1)) (k : G M Q Z sg (pc + 1) lv (gi (-x) :: st)) : G M Q Z sg pc lv (gi x :: st) :=
  fun p l e R s m args below meth c D A ad ca X H locs ls Y => lv_ineg (x := Int32.ofInt x) X.1 X.2.1 hd (by rw [gi_eq (Int32.ofInt_neg x).symm]; exact k p l e R s m args below meth c D A ad ca X H locs ls Y)
theorem G_lneg {x : Int} (hd : decode (g_b M) pc = .ok (.lneg, 1)) (k : G M Q Z sg (pc + 1) lv (gl (-x) :: st)) : G M Q Z sg pc lv (gl x :: st) :=
  fun p l e R s m args below meth c D A ad ca X H locs ls Y => lv_lneg (x := Int64.ofInt x) X.1 X.2.1 hd (by rw [gl_eq (Int64.ofInt_neg x).symm]; exact k p l e R s m args below meth c D A ad ca X H locs ls Y)
theorem G_i2l {x : Int} (hd : decode (g_b M) pc = .ok (.i2l, 1)) (k : G M Q Z sg (pc + 1) lv (gl (w32 x) :: st)) : G M Q Z sg pc lv (gi x :: st) :=
  fun p l e R s m args below meth c D A ad ca X H locs ls Y => lv_i2l X.1 X.2.1 hd (i_2l_eq x) (k p l e R s m args below meth c D A ad ca X H locs ls Y)
theorem G_l2i {x : Int} (hd : decode (g_b M) pc = .ok (.l2i, 1)) (k : G M Q Z sg (pc + 1) lv (gi x :: st)) : G M Q Z sg pc lv (gl x :: st) :=
  fun p l e R s m args below meth c D A ad ca X H locs ls Y => lv_l2i X.1 X.2.1 hd Int64.toInt32_ofInt (k p l e R s m args below meth c D A ad ca X H locs ls Y)
theorem G_i2c {x : Int} (hd : decode (g_b M) pc = .ok (.i2c, 1)) (k : G M Q Z sg (pc + 1) lv (gi (i_2c x) :: st)) : G M Q Z sg pc lv (gi x :: st) :=
  fun p l e R s m args below meth c D A ad ca X H locs ls Y => lv_i2c X.1 X.2.1 hd (Int32.ofInt_toInt _).symm (k p l e R s m args below meth c D A ad ca X H locs ls Y)
theorem G_i2b {x : Int} (hd : decode (g_b M) pc = .ok (.i2b, 1)) (k : G M Q Z sg (pc + 1) lv (gi (i_2b x) :: st)) : G M Q Z sg pc lv (gi x :: st) :=
  fun p l e R s m args below meth c D A ad ca X H locs ls Y => lv_i2b X.1 X.2.1 hd (Int32.ofInt_toInt _).symm (k p l e R s m args below meth c D A ad ca X H locs ls Y)
theorem G_lcmp {x y : Int} (hd : decode (g_b M) pc = .ok (.lcmp, 1)) (k : G M Q Z sg (pc + 1) lv (gi (l_cmp x y) :: st)) : G M Q Z sg pc lv (gl y :: gl x :: st) :=
  fun p l e R s m args below meth c D A ad ca X H locs ls Y => W.lcmp (x := Int64.ofInt x) (y := Int64.ofInt y) X.1 X.2.1 hd (by rw [gi_eq (l_cmp_eq x y)]; exact k p l e R s m args below meth c D A ad ca X H locs ls Y)
theorem G_dup {a : Value} (hd : decode (g_b M) pc = .ok (.dup, 1)) (ha : a.category = 1) (k : G M Q Z sg (pc + 1) lv (a :: a :: st)) : G M Q Z sg pc lv (a :: st) :=
  fun p l e R s m args below meth c D A ad ca X H locs ls Y => lv_dup X.1 X.2.1 hd (by rw [g_v_cat]; exact ha) (k p l e R s m args below meth c D A ad ca X H locs ls Y)
theorem G_pop {a : Value} (hd : decode (g_b M) pc = .ok (.pop, 1)) (ha : a.category = 1) (k : G M Q Z sg (pc + 1) lv st) : G M Q Z sg pc lv (a :: st) :=
  fun p l e R s m args below meth c D A ad ca X H locs ls Y => lv_pop X.1 X.2.1 hd (by rw [g_v_cat]; exact ha) (k p l e R s m args below meth c D A ad ca X H locs ls Y)
theorem G_dup_x1 {a b : Value} (hd : decode (g_b M) pc = .ok (.dup_x1, 1)) (ha : a.category = 1) (hb : b.category = 1) (k : G M Q Z sg (pc + 1) lv (a :: b :: a :: st)) : G M Q Z sg pc lv (a :: b :: st) :=
  fun p l e R s m args below meth c D A ad ca X H locs ls Y => lv_dup_x1 X.1 X.2.1 hd (by rw [g_v_cat]; exact ha) (by rw [g_v_cat]; exact hb) (k p l e R s m args below meth c D A ad ca X H locs ls Y)
theorem G_dup_x2 {a b w : Value} (hd : decode (g_b M) pc = .ok (.dup_x2, 1)) (ha : a.category = 1) (hb : b.category = 1) (hw : w.category = 1) (k : G M Q Z sg (pc + 1) lv (a :: b :: w :: a :: st)) : G M Q Z sg pc lv (a :: b :: w :: st) :=
  fun p l e R s m args below meth c D A ad ca X H locs ls Y => lv_dup_x2 X.1 X.2.1 hd (by rw [g_v_cat]; exact ha) (by rw [g_v_cat]; exact hb) (by rw [g_v_cat]; exact hw) (k p l e R s m args below meth c D A ad ca X H locs ls Y)
theorem G_dup2_11 {a b : Value} (hd : decode (g_b M) pc = .ok (.dup2, 1)) (ha : a.category = 1) (hb : b.category = 1) (k : G M Q Z sg (pc + 1) lv (a :: b :: a :: b :: st)) : G M Q Z sg pc lv (a :: b :: st) :=
  fun p l e R s m args below meth c D A ad ca X H locs ls Y => lv_dup2_11 X.1 X.2.1 hd (by rw [g_v_cat]; exact ha) (by rw [g_v_cat]; exact hb) (k p l e R s m args below meth c D A ad ca X H locs ls Y)
theorem G_dup2_2 {a : Value} (hd : decode (g_b M) pc = .ok (.dup2, 1)) (ha : a.category = 2) (k : G M Q Z sg (pc + 1) lv (a :: a :: st)) : G M Q Z sg pc lv (a :: st) :=
  fun p l e R s m args below meth c D A ad ca X H locs ls Y => lv_dup2_2 X.1 X.2.1 hd (by rw [g_v_cat]; exact ha) (k p l e R s m args below meth c D A ad ca X H locs ls Y)
theorem G_pop2_2 {a : Value} (hd : decode (g_b M) pc = .ok (.pop2, 1)) (ha : a.category = 2) (k : G M Q Z sg (pc + 1) lv st) : G M Q Z sg pc lv (a :: st) :=
  fun p l e R s m args below meth c D A ad ca X H locs ls Y => lv_pop2_2 X.1 X.2.1 hd (by rw [g_v_cat]; exact ha) (k p l e R s m args below meth c D A ad ca X H locs ls Y)
theorem G_pop2_11 {a b : Value} (hd : decode (g_b M) pc = .ok (.pop2, 1)) (ha : a.category = 1) (hb : b.category = 1) (k : G M Q Z sg (pc + 1) lv st) : G M Q Z sg pc lv (a :: b :: st) :=
  fun p l e R s m args below meth c D A ad ca X H locs ls Y => lv_pop2_11 X.1 X.2.1 hd (by rw [g_v_cat]; exact ha) (by rw [g_v_cat]; exact hb) (k p l e R s m args below meth c D A ad ca X H locs ls Y)
theorem G_dup2_x1_2 {a b : Value} (hd : decode (g_b M) pc = .ok (.dup2_x1, 1)) (ha : a.category = 2) (hb : b.category = 1) (k : G M Q Z sg (pc + 1) lv (a :: b :: a :: st)) : G M Q Z sg pc lv (a :: b :: st) :=
  fun p l e R s m args below meth c D A ad ca X H locs ls Y => lv_dup2_x1_2 X.1 X.2.1 hd (by rw [g_v_cat]; exact ha) (by rw [g_v_cat]; exact hb) (k p l e R s m args below meth c D A ad ca X H locs ls Y)
theorem G_dup2_x2_2 {a b w : Value} (hd : decode (g_b M) pc = .ok (.dup2_x2, 1)) (ha : a.category = 2) (hb : b.category = 1) (hw : w.category = 1) (k : G M Q Z sg (pc + 1) lv (a :: b :: w :: a :: st)) : G M Q Z sg pc lv (a :: b :: w :: st) :=
  fun p l e R s m args below meth c D A ad ca X H locs ls Y => lv_dup2_x2_2 X.1 X.2.1 hd (by rw [g_v_cat]; exact ha) (by rw [g_v_cat]; exact hb) (by rw [g_v_cat]; exact hw) (k p l e R s m args below meth c D A ad ca X H locs ls Y)
theorem G_icmp_eq {x y a b : Int} {off : Int} {tgt : Nat} (hd : decode (g_b M) pc = .ok (.if_icmp .eq off, 3)) (ht : (pc : Int) + off = (tgt : Int)) (ha : w32 x = a) (hb : w32 y = b) (kt : a = b → G M Q Z sg tgt lv st) (kf : ¬ a = b → G M Q Z sg (pc + 3) lv st) : G M Q Z sg pc lv (gi y :: gi x :: st) := by
  subst ha hb
  exact fun p l e R s m args below meth c D A ad ca X H locs ls Y => lv_icmp_eq (x := Int32.ofInt x) (y := Int32.ofInt y) X.1 X.2.1 hd ht (fun h => kt (w32_eq.mp h) p l e R s m args below meth c D A ad ca X H locs ls Y) (fun h => kf (fun q => h (w32_eq.mpr q)) p l e R s m args below meth c D A ad ca X H locs ls Y)
theorem G_icmp_lt {x y a b : Int} {off : Int} {tgt : Nat} (hd : decode (g_b M) pc = .ok (.if_icmp .lt off, 3)) (ht : (pc : Int) + off = (tgt : Int)) (ha : w32 x = a) (hb : w32 y = b) (kt : a < b → G M Q Z sg tgt lv st) (kf : ¬ a < b → G M Q Z sg (pc + 3) lv st) : G M Q Z sg pc lv (gi y :: gi x :: st) := by
  subst ha hb
  exact fun p l e R s m args below meth c D A ad ca X H locs ls Y => lv_icmp_lt (x := Int32.ofInt x) (y := Int32.ofInt y) X.1 X.2.1 hd ht (fun h => kt (w32_lt.mp h) p l e R s m args below meth c D A ad ca X H locs ls Y) (fun h => kf (fun q => h (w32_lt.mpr q)) p l e R s m args below meth c D A ad ca X H locs ls Y)
theorem G_icmp_ge {x y a b : Int} {off : Int} {tgt : Nat} (hd : decode (g_b M) pc = .ok (.if_icmp .ge off, 3)) (ht : (pc : Int) + off = (tgt : Int)) (ha : w32 x = a) (hb : w32 y = b) (kt : b ≤ a → G M Q Z sg tgt lv st) (kf : ¬ b ≤ a → G M Q Z sg (pc + 3) lv st) : G M Q Z sg pc lv (gi y :: gi x :: st) := by
  subst ha hb
  exact fun p l e R s m args below meth c D A ad ca X H locs ls Y => lv_icmp_ge (x := Int32.ofInt x) (y := Int32.ofInt y) X.1 X.2.1 hd ht (fun h => kt (w32_le.mp h) p l e R s m args below meth c D A ad ca X H locs ls Y) (fun h => kf (fun q => h (w32_le.mpr q)) p l e R s m args below meth c D A ad ca X H locs ls Y)
theorem G_icmp_gt {x y a b : Int} {off : Int} {tgt : Nat} (hd : decode (g_b M) pc = .ok (.if_icmp .gt off, 3)) (ht : (pc : Int) + off = (tgt : Int)) (ha : w32 x = a) (hb : w32 y = b) (kt : b < a → G M Q Z sg tgt lv st) (kf : ¬ b < a → G M Q Z sg (pc + 3) lv st) : G M Q Z sg pc lv (gi y :: gi x :: st) := by
  subst ha hb
  exact fun p l e R s m args below meth c D A ad ca X H locs ls Y => lv_icmp_gt (x := Int32.ofInt x) (y := Int32.ofInt y) X.1 X.2.1 hd ht (fun h => kt (w32_lt.mp h) p l e R s m args below meth c D A ad ca X H locs ls Y) (fun h => kf (fun q => h (w32_lt.mpr q)) p l e R s m args below meth c D A ad ca X H locs ls Y)
theorem G_icmp_le {x y a b : Int} {off : Int} {tgt : Nat} (hd : decode (g_b M) pc = .ok (.if_icmp .le off, 3)) (ht : (pc : Int) + off = (tgt : Int)) (ha : w32 x = a) (hb : w32 y = b) (kt : a ≤ b → G M Q Z sg tgt lv st) (kf : ¬ a ≤ b → G M Q Z sg (pc + 3) lv st) : G M Q Z sg pc lv (gi y :: gi x :: st) := by
  subst ha hb
  exact fun p l e R s m args below meth c D A ad ca X H locs ls Y => lv_icmp_le (x := Int32.ofInt x) (y := Int32.ofInt y) X.1 X.2.1 hd ht (fun h => kt (w32_le.mp h) p l e R s m args below meth c D A ad ca X H locs ls Y) (fun h => kf (fun q => h (w32_le.mpr q)) p l e R s m args below meth c D A ad ca X H locs ls Y)
theorem G_icmp_ne {x y a b : Int} {off : Int} {tgt : Nat} (hd : decode (g_b M) pc = .ok (.if_icmp .ne off, 3)) (ht : (pc : Int) + off = (tgt : Int)) (ha : w32 x = a) (hb : w32 y = b) (kt : ¬ a = b → G M Q Z sg tgt lv st) (kf : a = b → G M Q Z sg (pc + 3) lv st) : G M Q Z sg pc lv (gi y :: gi x :: st) := by
  subst ha hb
  exact fun p l e R s m args below meth c D A ad ca X H locs ls Y => lv_icmp_ne (x := Int32.ofInt x) (y := Int32.ofInt y) X.1 X.2.1 hd ht (fun h => kt (fun q => h (w32_eq.mpr q)) p l e R s m args below meth c D A ad ca X H locs ls Y) (fun h => kf (w32_eq.mp h) p l e R s m args below meth c D A ad ca X H locs ls Y)
theorem G_if_eq {x a : Int} {off : Int} {tgt : Nat} (hd : decode (g_b M) pc = .ok (.ifCond .eq off, 3)) (ht : (pc : Int) + off = (tgt : Int)) (ha : w32 x = a) (kt : a = 0 → G M Q Z sg tgt lv st) (kf : ¬ a = 0 → G M Q Z sg (pc + 3) lv st) : G M Q Z sg pc lv (gi x :: st) := by
  subst ha
  exact fun p l e R s m args below meth c D A ad ca X H locs ls Y => lv_if_eq (x := Int32.ofInt x) X.1 X.2.1 hd ht (fun h => kt (w32_0.mp h) p l e R s m args below meth c D A ad ca X H locs ls Y) (fun h => kf (fun q => h (w32_0.mpr q)) p l e R s m args below meth c D A ad ca X H locs ls Y)
theorem G_if_lt {x a : Int} {off : Int} {tgt : Nat} (hd : decode (g_b M) pc = .ok (.ifCond .lt off, 3)) (ht : (pc : Int) + off = (tgt : Int)) (ha : w32 x = a) (kt : a < 0 → G M Q Z sg tgt lv st) (kf : ¬ a < 0 → G M Q Z sg (pc + 3) lv st) : G M Q Z sg pc lv (gi x :: st) := by
  subst ha
  exact fun p l e R s m args below meth c D A ad ca X H locs ls Y => lv_if_lt (x := Int32.ofInt x) X.1 X.2.1 hd ht (fun h => kt (w32_l0.mp h) p l e R s m args below meth c D A ad ca X H locs ls Y) (fun h => kf (fun q => h (w32_l0.mpr q)) p l e R s m args below meth c D A ad ca X H locs ls Y)
theorem G_if_ge {x a : Int} {off : Int} {tgt : Nat} (hd : decode (g_b M) pc = .ok (.ifCond .ge off, 3)) (ht : (pc : Int) + off = (tgt : Int)) (ha : w32 x = a) (kt : 0 ≤ a → G M Q Z sg tgt lv st) (kf : ¬ 0 ≤ a → G M Q Z sg (pc + 3) lv st) : G M Q Z sg pc lv (gi x :: st) := by
  subst ha
  exact fun p l e R s m args below meth c D A ad ca X H locs ls Y => lv_if_ge (x := Int32.ofInt x) X.1 X.2.1 hd ht (fun h => kt (w32_0le.mp h) p l e R s m args below meth c D A ad ca X H locs ls Y) (fun h => kf (fun q => h (w32_0le.mpr q)) p l e R s m args below meth c D A ad ca X H locs ls Y)
theorem G_if_gt {x a : Int} {off : Int} {tgt : Nat} (hd : decode (g_b M) pc = .ok (.ifCond .gt off, 3)) (ht : (pc : Int) + off = (tgt : Int)) (ha : w32 x = a) (kt : 0 < a → G M Q Z sg tgt lv st) (kf : ¬ 0 < a → G M Q Z sg (pc + 3) lv st) : G M Q Z sg pc lv (gi x :: st) := by
  subst ha
  exact fun p l e R s m args below meth c D A ad ca X H locs ls Y => lv_if_gt (x := Int32.ofInt x) X.1 X.2.1 hd ht (fun h => kt (w32_0l.mp h) p l e R s m args below meth c D A ad ca X H locs ls Y) (fun h => kf (fun q => h (w32_0l.mpr q)) p l e R s m args below meth c D A ad ca X H locs ls Y)
theorem G_if_le {x a : Int} {off : Int} {tgt : Nat} (hd : decode (g_b M) pc = .ok (.ifCond .le off, 3)) (ht : (pc : Int) + off = (tgt : Int)) (ha : w32 x = a) (kt : a ≤ 0 → G M Q Z sg tgt lv st) (kf : ¬ a ≤ 0 → G M Q Z sg (pc + 3) lv st) : G M Q Z sg pc lv (gi x :: st) := by
  subst ha
  exact fun p l e R s m args below meth c D A ad ca X H locs ls Y => lv_if_le (x := Int32.ofInt x) X.1 X.2.1 hd ht (fun h => kt (w32_le0.mp h) p l e R s m args below meth c D A ad ca X H locs ls Y) (fun h => kf (fun q => h (w32_le0.mpr q)) p l e R s m args below meth c D A ad ca X H locs ls Y)
theorem G_if_ne {x a : Int} {off : Int} {tgt : Nat} (hd : decode (g_b M) pc = .ok (.ifCond .ne off, 3)) (ht : (pc : Int) + off = (tgt : Int)) (ha : w32 x = a) (kt : ¬ a = 0 → G M Q Z sg tgt lv st) (kf : a = 0 → G M Q Z sg (pc + 3) lv st) : G M Q Z sg pc lv (gi x :: st) := by
  subst ha
  exact fun p l e R s m args below meth c D A ad ca X H locs ls Y => lv_if_ne (x := Int32.ofInt x) X.1 X.2.1 hd ht (fun h => kt (fun q => h (w32_0.mpr q)) p l e R s m args below meth c D A ad ca X H locs ls Y) (fun h => kf (w32_0.mp h) p l e R s m args below meth c D A ad ca X H locs ls Y)
theorem G_goto {off : Int} {tgt : Nat} (hd : decode (g_b M) pc = .ok (.goto off, 3)) (ht : (pc : Int) + off = (tgt : Int)) (k : G M Q Z sg tgt lv st) : G M Q Z sg pc lv st :=
  fun p l e R s m args below meth c D A ad ca X H locs ls Y => lv_goto X.1 X.2.1 hd ht (k p l e R s m args below meth c D A ad ca X H locs ls Y)
def g_sw (P : Nat → Prop) (z : Int) (d : Nat) : List (Int × Nat) → Prop
  | [] => P d
  | (a, t) :: r => (z = a → P t) ∧ (¬ z = a → g_sw P z d r)
def g_so (pc : Nat) (ks : List (Int × Nat)) : List (Int × Int) := ks.map fun q => (q.1, (q.2 : Int) - (pc : Int))
theorem g_sw_off {P : Nat → Prop} {pc d : Nat} {z : Int} : ∀ {ks : List (Int × Nat)}, g_sw P z d ks → ∃ t : Nat, (pc : Int) + Op.lookupswitch.offset (g_so pc ks) ((d : Int) - (pc : Int)) z = (t : Int) ∧ P t := by
  intro ks
  induction ks with
  | nil =>
    intro h
    refine ⟨d, ?_, h⟩
    show (pc : Int) + ((d : Int) - (pc : Int)) = (d : Int)
    omega
  | cons q r ih =>
    intro h
    obtain ⟨a, t⟩ := q
    rw [show g_so pc ((a, t) :: r) = (a, (t : Int) - (pc : Int)) :: g_so pc r from rfl, Op.lookupswitch.offset_cons]
    by_cases e : a = z
    · rw [if_pos e]
      exact ⟨t, by omega, h.1 e.symm⟩
    · rw [if_neg e]
      exact ih (h.2 fun q => e q.symm)
theorem G_lookup {d : Int} {ps : Array (Int × Int)} {len : Nat} {x a : Int} (ks : List (Int × Nat)) (dt : Nat) (hd : decode (g_b M) pc = .ok (.lookupswitch d ps, len)) (hk : (decide (d = (dt : Int) - (pc : Int)) && decide (ps.toList = g_so pc ks)) = true) (hp : (ps.toList.zip (ps.toList.drop 1)).all (fun (a, next) => a.1 < next.1) = true) (ha : w32 x = a) (k : g_sw (fun t => G M Q Z sg t lv st) a dt ks) : G M Q Z sg pc lv (gi x :: st) := by
  subst ha
  simp only [Bool.and_eq_true, decide_eq_true_eq] at hk
  obtain ⟨e1, e2⟩ := hk
  obtain ⟨t, h1, h2⟩ := g_sw_off (pc := pc) k
  exact fun p l e R s m args below meth c D A ad ca X H locs ls Y => lv_lookup (x := Int32.ofInt x) (tgt := t) X.1 X.2.1 hd hp (by rw [w32_toInt, e1, e2]) h1 (h2 p l e R s m args below meth c D A ad ca X H locs ls Y)
def g_tk : Int → List Int → List (Int × Int)
  | _, [] => []
  | a, o :: r => (a, o) :: g_tk (a + 1) r
theorem g_tk_in {d z : Int} : ∀ {os : List Int} {lo : Int} {o : Int}, lo ≤ z → os[(z - lo).toNat]? = some o → Op.lookupswitch.offset (g_tk lo os) d z = o := by
  intro os
  induction os with
  | nil => intro lo o _ h; simp at h
  | cons y r ih =>
    intro lo o hl h
    rw [show g_tk lo (y :: r) = (lo, y) :: g_tk (lo + 1) r from rfl, Op.lookupswitch.offset_cons]
    by_cases e : lo = z
    · rw [if_pos e]
      rw [show (z - lo).toNat = 0 by omega] at h
      simpa using h
    · rw [if_neg e]
      refine ih (by omega) ?_
      rw [show (z - lo).toNat = (z - (lo + 1)).toNat + 1 by omega] at h
      simpa using h
theorem g_tk_out {d z : Int} : ∀ {os : List Int} {lo : Int}, z < lo ∨ lo + os.length ≤ z → Op.lookupswitch.offset (g_tk lo os) d z = d := by
  intro os
  induction os with
  | nil => intro lo _; rfl
  | cons y r ih =>
    intro lo h
    rw [show g_tk lo (y :: r) = (lo, y) :: g_tk (lo + 1) r from rfl, Op.lookupswitch.offset_cons]
    have h2 : z < lo ∨ lo + ((r.length : Int) + 1) ≤ z := by simpa using h
    rw [if_neg (by omega)]
    exact ih (by omega)
theorem G_table {d lo hi : Int} {os : Array Int} {len : Nat} {x a : Int} (ks : List (Int × Nat)) (dt : Nat) (hd : decode (g_b M) pc = .ok (.tableswitch d lo hi os, len)) (hk : (decide (d = (dt : Int) - (pc : Int)) && decide (g_tk lo os.toList = g_so pc ks)) = true) (hp : decide (lo + os.toList.length = hi + 1) = true) (ha : w32 x = a) (k : g_sw (fun t => G M Q Z sg t lv st) a dt ks) : G M Q Z sg pc lv (gi x :: st) := by
  subst ha
  simp only [Bool.and_eq_true, decide_eq_true_eq] at hk hp
  obtain ⟨e1, e2⟩ := hk
  obtain ⟨t, h1, h2⟩ := g_sw_off (pc := pc) k
  rw [← e1, ← e2] at h1
  intro p l e R s m args below meth c D A ad ca X H locs ls Y
  have hw := h2 p l e R s m args below meth c D A ad ca X H locs ls Y
  by_cases c1 : w32 x < lo ∨ hi < w32 x
  · rw [g_tk_out (by omega)] at h1
    exact lv_tableOut (x := Int32.ofInt x) (tgt := t) X.1 X.2.1 hd (by rw [w32_toInt]; exact c1) h1 hw
  · have hlt : (w32 x - lo).toNat < os.toList.length := by omega
    have ho : os.toList[(w32 x - lo).toNat]? = some (os.toList[(w32 x - lo).toNat]) := List.getElem?_eq_getElem hlt
    rw [g_tk_in (by omega) ho] at h1
    exact lv_tableIn (x := Int32.ofInt x) (tgt := t) X.1 X.2.1 hd (by rw [w32_toInt]; omega) (by rw [w32_toInt]; omega) (by rw [w32_toInt, ← Array.getElem?_toList]; exact ho) h1 hw
end GR
end
section
/-! fields, arrays, new cells, constants, returns -/
def g_fl (own : String) (idx ci k : Nat) : Prop := ∃ (C : String) (T : u_T) (N : Nat), g_cl[ci]? = some (C, T, N) ∧ k < N ∧ (Cond.fieldLink own idx (T k).1 (T k).2.1 (T k).2.2.1 ∈ g_T ∨ ∃ h : String, Cond.fieldLinkNest own idx (T k).1 (T k).2.1 (T k).2.2.1 h ∈ g_N)
def g_fp (own : String) (idx ci k : Nat) (fin : Bool) (ty : FieldType) : Prop := ∃ (C : String) (T : u_T) (N : Nat), g_cl[ci]? = some (C, T, N) ∧ k < N ∧ (T k).2.2.2 = fin ∧ parseFieldDescriptor (T k).2.2.1 = some ty ∧ (Cond.fieldLink own idx (T k).1 (T k).2.1 (T k).2.2.1 ∈ g_T ∨ ∃ h : String, Cond.fieldLinkNest own idx (T k).1 (T k).2.1 (T k).2.2.1 h ∈ g_N)
theorem g_len_w (ad ca : Nat → Nat) (S : List gH) (sg : gS) : (g_w ad ca S sg).length = S.length := by simp [g_w]
theorem g_w_push (ad ca : Nat → Nat) (S : List gH) (sg : gS) (sh : gH) : g_w ad ca (S ++ [sh]) (g_nw sg S.length) = g_w ad ca S sg ++ [(ad S.length, g_c ad ca (fun _ => 0) sh)] := by
  apply List.ext_getElem?
  intro i
  by_cases h : i < S.length
  · rw [List.getElem?_append_left (by rw [g_len_w]; exact h)]
    simp only [g_w, List.getElem?_mapIdx, List.getElem?_append_left h]
    have e : g_nw sg S.length i = sg i := by
      funext j
      simp [g_nw, Nat.ne_of_lt h]
    rw [e]
  · by_cases h2 : i = S.length
    · subst h2
      rw [List.getElem?_append_right (by rw [g_len_w]; exact Nat.le_refl _), g_len_w]
      have e : g_nw sg S.length S.length = fun _ => 0 := by
        funext j
        simp [g_nw]
      simp [g_w, List.getElem?_mapIdx, e]
    · rw [List.getElem?_eq_none (by simp [g_len_w]; omega), List.getElem?_eq_none (by simp [g_len_w]; omega)]
theorem g_w_ref {ad ca : Nat → Nat} {S : List gH} {sg : gS} {q k ci r : Nat} {fl : List gF} (hS : S[q]? = some (.inr (ci, fl))) (hk : k < fl.length) :
    (g_w ad ca S sg).set q (ad q, .inr (ci, (fl.mapIdx (g_fv ad (sg q))).set k (.ref (ad r)))) = g_w ad ca (S.set q (.inr (ci, fl.set k (some (some r))))) sg := by
  have hq := (List.getElem?_eq_some_iff.mp hS).1
  apply List.ext_getElem?
  intro i
  by_cases hi : i = q
  · subst hi
    rw [List.getElem?_set_self (by rw [g_len_w]; exact hq), g_w_get (List.getElem?_set_self hq)]
    show _ = some (ad i, Sum.inr (ci, (fl.set k (some (some r))).mapIdx (g_fv ad (sg i))))
    congr 4
    apply List.ext_getElem?
    intro j
    by_cases hj : j = k
    · subst hj
      rw [List.getElem?_set_self (by simpa using hk), List.getElem?_mapIdx, List.getElem?_set_self hk]
      rfl
    · rw [List.getElem?_set_ne (fun e => hj e.symm), List.getElem?_mapIdx, List.getElem?_mapIdx, List.getElem?_set_ne (fun e => hj e.symm)]
  · rw [List.getElem?_set_ne (fun e => hi e.symm)]
    simp only [g_w, List.getElem?_mapIdx, List.getElem?_set_ne (fun e => hi e.symm)]
section GHP
variable {M : gM} {Q : gO → List gH → gS → Prop} {Z : gZ} {sg : gS} {pc : Nat} {lv : List (Option Value)} {st : List Value} {q ci k idx n : Nat} {fl : List gF}
theorem G_get {v : Value} (hd : decode (g_b M) pc = .ok (.getfield idx, 3)) (hS : Z.1[q]? = some (.inr (ci, fl))) (hl : g_fl (g_y M).cls idx ci k) {f : gF} (hf : fl[k]? = some f) (hv : ∀ ad : Nat → Nat, g_fv ad (sg q) k f = g_v ad v) (kk : G M Q Z sg (pc + 3) lv (v :: st)) : G M Q Z sg pc lv (.ref q :: st) := by
  intro p l e R s m args below meth c D A ad ca X H locs ls Y
  obtain ⟨C, T, N, hc, hk, hl⟩ := hl
  have hv2 : (fl.mapIdx (g_fv ad (sg q)))[k]? = some (g_v ad v) := by
    rw [List.getElem?_mapIdx, hf, Option.map_some, hv ad]
  have kw := kk p l e R s m args below meth c D A ad ca X H locs ls Y
  rcases hl with hl | ⟨h, hl⟩
  · exact va_get X.1 X.2.1 X.2.2.2.2.2.2.1 (g_clw hc) X.2.2.2.2.1 X.2.2.2.2.2.2.2.2.1 Y.1 q (g_w_get hS) hc k hk (X.2.2.2.2.2.2.1 _ hl) (fun _ h => h) hv2 hd kw
  · exact va_getN X.1 X.2.1 X.2.2.2.2.2.2.1 (g_clw hc) X.2.2.2.2.1 X.2.2.2.2.2.2.2.2.1 Y.1 q (g_w_get hS) hc k hk (va_Nw.use rfl (X.2.2.2.2.2.2.2.2.2.2.1.2.2.2.2.2.1 _ hl)) (fun _ h => h) hv2 hd kw
theorem G_getI (hd : decode (g_b M) pc = .ok (.getfield idx, 3)) (hS : Z.1[q]? = some (.inr (ci, fl))) (hl : g_fl (g_y M).cls idx ci k) (hf : fl[k]? = some none) (kk : G M Q Z sg (pc + 3) lv (gi (sg q k) :: st)) : G M Q Z sg pc lv (.ref q :: st) :=
  G_get hd hS hl hf (fun _ => rfl) kk
theorem G_getR {r : Nat} (hd : decode (g_b M) pc = .ok (.getfield idx, 3)) (hS : Z.1[q]? = some (.inr (ci, fl))) (hl : g_fl (g_y M).cls idx ci k) (hf : fl[k]? = some (some (some r))) (kk : G M Q Z sg (pc + 3) lv (.ref r :: st)) : G M Q Z sg pc lv (.ref q :: st) :=
  G_get hd hS hl hf (fun _ => rfl) kk
theorem G_put {z : Int} {ty : FieldType} (hd : decode (g_b M) pc = .ok (.putfield idx, 3)) (hS : Z.1[q]? = some (.inr (ci, fl))) (hl : g_fp (g_y M).cls idx ci k false ty) (hf : fl[k]? = some none) (hn : narrow ty (gi z) = gi z) (hfit : fits ty (gi z) = true) (kk : G M Q Z (g_up sg q k z) (pc + 3) lv st) : G M Q Z sg pc lv (gi z :: .ref q :: st) := by
  intro p l e R s m args below meth c D A ad ca X H locs ls Y
  obtain ⟨C, T, N, hc, hk, hfin, hty, hl⟩ := hl
  obtain ⟨ty0, hty0⟩ := g_clt hc
  have hlen : k < (fl.mapIdx (g_fv ad (sg q))).length := by simpa using (List.getElem?_eq_some_iff.mp hf).1
  have ew : (g_w ad ca Z.1 sg).set q (ad q, .inr (ci, (fl.mapIdx (g_fv ad (sg q))).set k (gi z))) = g_w ad ca Z.1 (g_up sg q k z) := by
    rw [g_fs_set hf]
    exact g_w_up (sh := .inr (ci, fl)) hS (fun j hj => g_up_ne hj)
  have kw : ∀ (H1 : Heap) (locs1 : List Loc), va_P D g_cl ((g_w ad ca Z.1 sg).set q (ad q, .inr (ci, (fl.mapIdx (g_fv ad (sg q))).set k (gi z)))) H1 → va_D A ((g_w ad ca Z.1 sg).set q (ad q, .inr (ci, (fl.mapIdx (g_fv ad (sg q))).set k (gi z)))) → va_S A s.heap H1 locs1 → W p l e R s m args below meth c H1 locs1 Z.2.1 Z.2.2 (gMQ below (g_Q D A ad ca (g_z M) (g_m M).cells Q) args s (g_m M).cells (g_m M).slots A) (F0 m (pc + 3) ls (st.map (g_v ad))) := by
    intro H1 locs1 h1 h2 h3
    rw [ew] at h1 h2
    exact kk p l e R s m args below meth c D A ad ca X H1 locs1 ls ⟨h1, h2, h3, Y.2.2.2.1, Y.2.2.2.2⟩
  rcases hl with hl | ⟨h, hl⟩
  · exact va_put X.1 X.2.1 X.2.2.2.2.2.2.1 (g_clw hc) ty0 hty0 (g_cln hc) X.2.2.2.2.1 X.2.2.2.2.2.2.2.2.1 Y.1 Y.2.1 Y.2.2.1 q (g_w_get hS) hc k hk (X.2.2.2.2.2.2.1 _ hl) (fun _ h => h) hfin hty hn hfit hlen hd kw
  · exact va_putN X.1 X.2.1 X.2.2.2.2.2.2.1 (g_clw hc) ty0 hty0 (g_cln hc) X.2.2.2.2.1 X.2.2.2.2.2.2.2.2.1 Y.1 Y.2.1 Y.2.2.1 q (g_w_get hS) hc k hk (va_Nw.use rfl (X.2.2.2.2.2.2.2.2.2.2.1.2.2.2.2.2.1 _ hl)) (fun _ h => h) hfin hty hn hfit hlen hd kw
theorem G_putI {z : Int} (hd : decode (g_b M) pc = .ok (.putfield idx, 3)) (hS : Z.1[q]? = some (.inr (ci, fl))) (hl : g_fp (g_y M).cls idx ci k false .int) (hf : fl[k]? = some none) (kk : G M Q Z (g_up sg q k z) (pc + 3) lv st) : G M Q Z sg pc lv (gi z :: .ref q :: st) :=
  G_put hd hS hl hf rfl rfl kk
theorem g_bool {z : Int} (hz : w32 z = 0 ∨ w32 z = 1) : narrow .boolean (gi z) = gi z ∧ fits .boolean (gi z) = true := by
  rcases hz with h | h
  · rw [show gi z = gi 0 by rw [gi, gi, w32_eq.mpr (h.trans (show (0 : Int) = w32 0 by decide))]]
    exact ⟨by decide, by decide⟩
  · rw [show gi z = gi 1 by rw [gi, gi, w32_eq.mpr (h.trans (show (1 : Int) = w32 1 by decide))]]
    exact ⟨by decide, by decide⟩
theorem G_putZ {z : Int} (hd : decode (g_b M) pc = .ok (.putfield idx, 3)) (hS : Z.1[q]? = some (.inr (ci, fl))) (hl : g_fp (g_y M).cls idx ci k false .boolean) (hf : fl[k]? = some none) (hz : w32 z = 0 ∨ w32 z = 1) (kk : G M Q Z (g_up sg q k z) (pc + 3) lv st) : G M Q Z sg pc lv (gi z :: .ref q :: st) :=
  G_put hd hS hl hf (g_bool hz).1 (g_bool hz).2 kk
/-- a constructor sets a final reference -/
theorem G_putR {r : Nat} {ty : FieldType} (hd : decode (g_b M) pc = .ok (.putfield idx, 3)) (hS : Z.1[q]? = some (.inr (ci, fl))) (hl : g_fp (g_y M).cls idx ci k true ty) (hi : (g_y M).name = "<init>") (hc : (g_cl[ci]?).map (fun x => (x.2.1 k).1) = some (g_y M).cls) (hn : ∀ a : Nat, narrow ty (.ref a) = .ref a) (hfit : ∀ a : Nat, fits ty (.ref a) = true) (hk : k < fl.length) (hlk : ∀ C T N, g_cl[ci]? = some (C, T, N) → Cond.fieldLink (g_y M).cls idx (T k).1 (T k).2.1 (T k).2.2.1 ∈ g_T)
    (kk : G M Q (Z.1.set q (.inr (ci, fl.set k (some (some r)))), Z.2.1, Z.2.2) sg (pc + 3) lv st) : G M Q Z sg pc lv (.ref r :: .ref q :: st) := by
  intro p l e R s m args below meth c D A ad ca X H locs ls Y
  obtain ⟨C, T, N, hc2, hk2, hfin, hty, -⟩ := hl
  obtain ⟨ty0, hty0⟩ := g_clt hc2
  have hown : (T k).1 = (g_y M).cls := by
    rw [hc2] at hc
    simpa using hc
  have hlen : k < (fl.mapIdx (g_fv ad (sg q))).length := by simpa using hk
  refine va_putF X.1 X.2.1 X.2.2.2.2.2.2.1 (g_clw hc2) ty0 hty0 (g_cln hc2) X.2.2.2.2.1 X.2.2.2.2.2.2.2.2.1 Y.1 Y.2.1 Y.2.2.1 q (g_w_get hS) hc2 k hk2 (X.2.2.2.2.2.2.1 _ (hlk C T N hc2)) (fun _ h => h) hfin (X.2.2.2.2.2.2.2.2.2.2.2.1.trans hi) hown hty (hn (ad r)) (hfit (ad r)) hlen hd fun H1 locs1 h1 h2 h3 => ?_
  rw [show g_v ad (.ref r) = .ref (ad r) from rfl, g_w_ref hS hk] at h1 h2
  refine kk p l e R s m args below meth c D A ad ca X H1 locs1 ls ⟨h1, h2, h3, Y.2.2.2.1, fun ha => ?_⟩
  obtain ⟨a1, a2, a3⟩ := Y.2.2.2.2 ha
  refine ⟨by simpa using a1, by simpa using a2, fun h => a3 ?_⟩
  have : (Z.1.set q (.inr (ci, fl.set k (some (some r))))).length = 0 := by
    have h2 : Z.1.set q (.inr (ci, fl.set k (some (some r)))) = [] := h
    rw [h2]
    rfl
  exact List.length_eq_zero_iff.mp (by simpa using this)
theorem G_iaload {i a : Int} (hd : decode (g_b M) pc = .ok (.iaload, 1)) (hS : Z.1[q]? = some (.inl (0, n))) (ha : w32 i = a) (hi : 0 ≤ a ∧ a < (n : Int)) (kk : G M Q Z sg (pc + 1) lv (gi (sg q a.toNat) :: st)) : G M Q Z sg pc lv (gi i :: .ref q :: st) := by
  subst ha
  intro p l e R s m args below meth c D A ad ca X H locs ls Y
  refine va_iald (i := Int32.ofInt i) X.1 X.2.1 X.2.2.2.2.2.2.2.2.1 Y.1 q 0 (g_w_get hS) rfl (w32_in.mpr hi) hd ?_
  rw [w32_cl]
  exact kk p l e R s m args below meth c D A ad ca X H locs ls Y
theorem G_zaload {i a : Int} (hd : decode (g_b M) pc = .ok (.baload, 1)) (hS : Z.1[q]? = some (.inl (1, n))) (ha : w32 i = a) (hi : 0 ≤ a ∧ a < (n : Int)) (kk : G M Q Z sg (pc + 1) lv (gi (sg q a.toNat) :: st)) : G M Q Z sg pc lv (gi i :: .ref q :: st) := by
  subst ha
  intro p l e R s m args below meth c D A ad ca X H locs ls Y
  refine va_zald (i := Int32.ofInt i) X.1 X.2.1 X.2.2.2.2.2.2.2.2.1 Y.1 q 1 (g_w_get hS) rfl (w32_in.mpr hi) hd ?_
  rw [w32_cl]
  exact kk p l e R s m args below meth c D A ad ca X H locs ls Y
theorem G_laload {i a : Int} (hd : decode (g_b M) pc = .ok (.laload, 1)) (hS : Z.1[q]? = some (.inl (3, n))) (ha : w32 i = a) (hi : 0 ≤ a ∧ a < (n : Int)) (kk : G M Q Z sg (pc + 1) lv (gl (sg q a.toNat) :: st)) : G M Q Z sg pc lv (gi i :: .ref q :: st) := by
  subst ha
  intro p l e R s m args below meth c D A ad ca X H locs ls Y
  refine va_lald (i := Int32.ofInt i) X.1 X.2.1 X.2.2.2.2.2.2.2.2.1 Y.1 q 3 (g_w_get hS) rfl (w32_in.mpr hi) hd ?_
  rw [w32_cl]
  exact kk p l e R s m args below meth c D A ad ca X H locs ls Y
theorem G_iastore {i a z : Int} (hd : decode (g_b M) pc = .ok (.iastore, 1)) (hS : Z.1[q]? = some (.inl (0, n))) (ha : w32 i = a) (hi : 0 ≤ a ∧ a < (n : Int)) (kk : G M Q Z (g_up sg q a.toNat (z)) (pc + 1) lv st) : G M Q Z sg pc lv (gi z :: gi i :: .ref q :: st) := by
  subst ha
  intro p l e R s m args below meth c D A ad ca X H locs ls Y
  refine va_iast (i := Int32.ofInt i) (x := Int32.ofInt z) X.1 X.2.1 X.2.2.2.2.2.2.2.2.1 Y.1 Y.2.1 Y.2.2.1 q 0 (g_w_get hS) rfl (w32_in.mpr hi) hd fun H1 locs1 h1 h2 h3 => ?_
  rw [w32_cl, g_up_i] at h1 h2
  have ew := g_w_up (ad := ad) (ca := ca) (sg' := g_up sg q (w32 i).toNat (z)) hS (fun j hj => g_up_ne hj)
  exact kk p l e R s m args below meth c D A ad ca X H1 locs1 ls ⟨ew ▸ h1, ew ▸ h2, h3, Y.2.2.2.1, Y.2.2.2.2⟩
theorem G_zastore {i a z : Int} (hd : decode (g_b M) pc = .ok (.bastore, 1)) (hS : Z.1[q]? = some (.inl (1, n))) (ha : w32 i = a) (hi : 0 ≤ a ∧ a < (n : Int)) (kk : G M Q Z (g_up sg q a.toNat (i_nar .boolean z)) (pc + 1) lv st) : G M Q Z sg pc lv (gi z :: gi i :: .ref q :: st) := by
  subst ha
  intro p l e R s m args below meth c D A ad ca X H locs ls Y
  have ez : vp_nar .boolean (Int32.ofInt z) = Int32.ofInt (i_nar .boolean z) := (Int32.ofInt_toInt _).symm
  refine va_zast (i := Int32.ofInt i) (x := Int32.ofInt z) X.1 X.2.1 X.2.2.2.2.2.2.2.2.1 Y.1 Y.2.1 Y.2.2.1 q 1 (g_w_get hS) rfl (w32_in.mpr hi) hd fun H1 locs1 h1 h2 h3 => ?_
  rw [w32_cl, ez, g_up_i] at h1 h2
  have ew := g_w_up (ad := ad) (ca := ca) (sg' := g_up sg q (w32 i).toNat (i_nar .boolean z)) hS (fun j hj => g_up_ne hj)
  exact kk p l e R s m args below meth c D A ad ca X H1 locs1 ls ⟨ew ▸ h1, ew ▸ h2, h3, Y.2.2.2.1, Y.2.2.2.2⟩
theorem G_lastore {i a z : Int} (hd : decode (g_b M) pc = .ok (.lastore, 1)) (hS : Z.1[q]? = some (.inl (3, n))) (ha : w32 i = a) (hi : 0 ≤ a ∧ a < (n : Int)) (kk : G M Q Z (g_up sg q a.toNat z) (pc + 1) lv st) : G M Q Z sg pc lv (gl z :: gi i :: .ref q :: st) := by
  subst ha
  intro p l e R s m args below meth c D A ad ca X H locs ls Y
  refine va_last (i := Int32.ofInt i) (x := Int64.ofInt z) X.1 X.2.1 X.2.2.2.2.2.2.2.2.1 Y.1 Y.2.1 Y.2.2.1 q 3 (g_w_get hS) rfl (w32_in.mpr hi) hd fun H1 locs1 h1 h2 h3 => ?_
  rw [w32_cl, g_up_l] at h1 h2
  have ew := g_w_up (ad := ad) (ca := ca) (sg' := g_up sg q (w32 i).toNat z) hS (fun j hj => g_up_ne hj)
  exact kk p l e R s m args below meth c D A ad ca X H1 locs1 ls ⟨ew ▸ h1, ew ▸ h2, h3, Y.2.2.2.1, Y.2.2.2.2⟩
theorem G_alen {t : Nat} {z : Int} (hd : decode (g_b M) pc = .ok (.arraylength, 1)) (hS : Z.1[q]? = some (.inl (t, n))) (ht : t < 4) (hz : Int32.ofNat n = Int32.ofInt z) (kk : G M Q Z sg (pc + 1) lv (gi z :: st)) : G M Q Z sg pc lv (.ref q :: st) := by
  intro p l e R s m args below meth c D A ad ca X H locs ls Y
  have kw := kk p l e R s m args below meth c D A ad ca X H locs ls Y
  rcases (show t = 0 ∨ t = 1 ∨ t = 2 ∨ t = 3 by omega) with rfl | rfl | rfl | rfl
  · exact va_alen X.1 X.2.1 X.2.2.2.2.2.2.2.2.1 Y.1 q 0 (g_w_get hS) (ty := .int) rfl hz hd kw
  · exact va_alen X.1 X.2.1 X.2.2.2.2.2.2.2.2.1 Y.1 q 1 (g_w_get hS) (ty := .boolean) rfl hz hd kw
  · exact va_alen X.1 X.2.1 X.2.2.2.2.2.2.2.2.1 Y.1 q 2 (g_w_get hS) (ty := .byte) rfl hz hd kw
  · exact va_alen X.1 X.2.1 X.2.2.2.2.2.2.2.2.1 Y.1 q 3 (g_w_get hS) (ty := .long) rfl hz hd kw
/-- the end -/
theorem g_end {p : Program} {s : State} {m : MethodId} {args : Array Value} {meth : Method} {c : Code} {R : Room} {D : va_G} {A : Nat → Prop} {ad ca : Nat → Nat} {H : Heap} {locs : List Loc} {ls : Array Slot} {o : gO} {oc : Outcome} {t : State} (Y : g_Y s D A ad ca M Z sg lv H locs ls) (hc : Z.2.1 = (g_m M).cells) (h0 : g_z M = true → g_a M = true ∧ Z.1 ≠ []) (hE : g_E ad o oc t) (hq : Q o Z.1 sg) (ht : t.heap = H) : g_Q D A ad ca (g_z M) (g_m M).cells Q args s oc t :=
  ⟨⟨o, Z.1, sg, hE, hq, by rw [ht]; exact Y.1, Y.2.1, fun ha => by rw [← hc]; exact ⟨(Y.2.2.2.2 (h0 ha).1).1, (Y.2.2.2.2 (h0 ha).1).2.1, (h0 ha).2⟩⟩, Y.2.2.1.F ht⟩
theorem G_ireturn {z : Int} {ty : FieldType} (hd : decode (g_b M) pc = .ok (.ireturn, 1)) (hr : g_r M = some ty) (hn : narrow ty (gi z) = gi z) (hc : Z.2 = ((g_m M).cells, (g_m M).slots)) (h0 : g_z M = true → g_a M = true ∧ Z.1 ≠ []) (hq : Q (.inl (some (gi z))) Z.1 sg) : G M Q Z sg pc lv [gi z] := by
  intro p l e R s m args below meth c D A ad ca X H locs ls Y
  have e1 : Z.2.1 = (g_m M).cells := by rw [hc]
  have e2 : Z.2.2 = (g_m M).slots := by rw [hc]
  rw [e1, e2]
  exact g_post (fun t ht => gMQ_of ht) (W.zret (v := Int32.ofInt z) X.1 X.2.1 (X.2.2.1.trans hr) hn (fun t ht hW => g_end (o := .inl (some (gi z))) (p := p) (m := m) (meth := meth) (c := c) (R := R) Y e1 h0 rfl hq ht) Y.2.2.1.2.2 hd X.2.2.2.2.2.1)
theorem G_lreturn {z : Int} (hd : decode (g_b M) pc = .ok (.lreturn, 1)) (hr : g_r M = some .long) (hc : Z.2 = ((g_m M).cells, (g_m M).slots)) (h0 : g_z M = true → g_a M = true ∧ Z.1 ≠ []) (hq : Q (.inl (some (gl z))) Z.1 sg) : G M Q Z sg pc lv [gl z] := by
  intro p l e R s m args below meth c D A ad ca X H locs ls Y
  have e1 : Z.2.1 = (g_m M).cells := by rw [hc]
  have e2 : Z.2.2 = (g_m M).slots := by rw [hc]
  rw [e1, e2]
  exact g_post (fun t ht => gMQ_of ht) (W.lret (v := Int64.ofInt z) X.1 X.2.1 (X.2.2.1.trans hr) (fun t ht hW => g_end (o := .inl (some (gl z))) (p := p) (m := m) (meth := meth) (c := c) (R := R) Y e1 h0 rfl hq ht) Y.2.2.1.2.2 hd X.2.2.2.2.2.1)
theorem G_return (hd : decode (g_b M) pc = .ok (.return_, 1)) (hr : g_r M = none) (hc : Z.2 = ((g_m M).cells, (g_m M).slots)) (h0 : g_z M = true → g_a M = true ∧ Z.1 ≠ []) (hq : Q (.inl none) Z.1 sg) : G M Q Z sg pc lv [] := by
  intro p l e R s m args below meth c D A ad ca X H locs ls Y
  have e1 : Z.2.1 = (g_m M).cells := by rw [hc]
  have e2 : Z.2.2 = (g_m M).slots := by rw [hc]
  rw [e1, e2]
  exact g_post (fun t ht => gMQ_of ht) (W.vret X.1 X.2.1 (X.2.2.1.trans hr) (fun t ht hW => g_end (o := .inl none) (p := p) (m := m) (meth := meth) (c := c) (R := R) Y e1 h0 rfl hq ht) Y.2.2.1.2.2 hd X.2.2.2.2.2.1)
/-- a reference that is a constant or the world's goes back -/
theorem G_areturn {r : Nat} {rt : FieldType} (hd : decode (g_b M) pc = .ok (.areturn, 1)) (hr : g_r M = some rt) (hrt : (∃ n, rt = .object n) ∨ ∃ t, rt = .array t) (hc : Z.2 = ((g_m M).cells, (g_m M).slots)) (h0 : g_z M = true → g_a M = true ∧ Z.1 ≠ []) (hq : Q (.inl (some (.ref r))) Z.1 sg) : G M Q Z sg pc lv [.ref r] := by
  intro p l e R s m args below meth c D A ad ca X H locs ls Y
  have e1 : Z.2.1 = (g_m M).cells := by rw [hc]
  have e2 : Z.2.2 = (g_m M).slots := by rw [hc]
  rw [e1, e2]
  exact g_post (fun t ht => gMQ_of ht) (W.aret (v := .ref (ad r)) X.1 X.2.1 (X.2.2.1.trans hr) hrt (Or.inr ⟨_, rfl⟩) (fun t ht hW => g_end (o := .inl (some (.ref r))) (p := p) (m := m) (meth := meth) (c := c) (R := R) Y e1 h0 rfl hq ht) Y.2.2.1.2.2 hd X.2.2.2.2.2.1)
end GHP
end
section
/-! constants: texts and their bytes, CELL, COMPACT_STRINGS; copies of arrays; new cells -/
section GCN
variable {M N : gM} {Q : gO → List gH → gS → Prop} {Z : gZ} {sg : gS} {pc : Nat} {lv : List (Option Value)} {st : List Value} {q ci k idx n i : Nat} {fl : List gF}
theorem G_ldcS {tx : String} (hd : decode (g_b M) pc = .ok (.ldc idx, 2)) (hr : ((g_y M).cls, idx, tx, i) ∈ g_ldc) (kk : G M Q Z sg (pc + 2) lv (.ref (1000 + i) :: st)) : G M Q Z sg pc lv st :=
  fun p l e R s m args below meth c D A ad ca X H locs ls Y => va_ldcS X.1 X.2.1 X.2.2.2.2.1 (X.2.2.2.2.2.2.2.2.2.2.1.2.1 _ hr) hd (kk p l e R s m args below meth c D A ad ca X H locs ls Y)
theorem G_getSV (hd : decode (g_b M) pc = .ok (.getfield idx, 3)) (hi : i < g_nS) (hl : Cond.fieldLink (g_y M).cls idx "java/lang/String" "value" "[B" ∈ g_T) (kk : G M Q Z sg (pc + 3) lv (.ref (2000 + i) :: st)) : G M Q Z sg pc lv (.ref (1000 + i) :: st) :=
  fun p l e R s m args below meth c D A ad ca X H locs ls Y => vk_getf X.1 X.2.1 (X.2.2.2.2.2.2.2.2.2.2.1.1.1 i hi).2.2.1 Y.2.2.1 X.2.2.2.2.1 (X.2.2.2.2.2.2.1 _ hl) (fun _ h => h) hd (kk p l e R s m args below meth c D A ad ca X H locs ls Y)
theorem G_getSC (hd : decode (g_b M) pc = .ok (.getfield idx, 3)) (hi : i < g_nS) (hl : Cond.fieldLink (g_y M).cls idx "java/lang/String" "coder" "B" ∈ g_T) (kk : G M Q Z sg (pc + 3) lv (gi 0 :: st)) : G M Q Z sg pc lv (.ref (1000 + i) :: st) :=
  fun p l e R s m args below meth c D A ad ca X H locs ls Y => vk_getf X.1 X.2.1 (X.2.2.2.2.2.2.2.2.2.2.1.1.1 i hi).2.1 Y.2.2.1 X.2.2.2.2.1 (X.2.2.2.2.2.2.1 _ hl) (fun _ h => h) hd (kk p l e R s m args below meth c D A ad ca X H locs ls Y)
/-- a byte of a text -/
def g_by (i j : Nat) : Int := ((g_byt.getD i []).getD j 0).toInt
theorem G_bald {x a : Int} (hd : decode (g_b M) pc = .ok (.baload, 1)) (hi : i < g_nS) (ha : w32 x = a) (hx : 0 ≤ a ∧ a < ((g_len.getD i 0 : Nat) : Int)) (kk : G M Q Z sg (pc + 1) lv (gi (g_by i a.toNat) :: st)) : G M Q Z sg pc lv (gi x :: .ref (2000 + i) :: st) := by
  subst ha
  intro p l e R s m args below meth c D A ad ca X H locs ls Y
  refine va_tb (i := Int32.ofInt x) X.1 X.2.1 (X.2.2.2.2.2.2.2.2.2.2.1.1.1 i hi).2.2.2 Y.2.2.1 (w32_in.mpr hx) (v := gi (g_by i (w32 x).toNat)) ?_ hd (kk p l e R s m args below meth c D A ad ca X H locs ls Y)
  rw [w32_cl]
  exact gi_eq (Int32.ofInt_toInt _).symm
theorem G_blen {z : Int} (hd : decode (g_b M) pc = .ok (.arraylength, 1)) (hi : i < g_nS) (hz : Int32.ofNat (g_len.getD i 0) = Int32.ofInt z) (kk : G M Q Z sg (pc + 1) lv (gi z :: st)) : G M Q Z sg pc lv (.ref (2000 + i) :: st) :=
  fun p l e R s m args below meth c D A ad ca X H locs ls Y => va_tlen X.1 X.2.1 (X.2.2.2.2.2.2.2.2.2.2.1.1.1 i hi).2.2.2 Y.2.2.1 hz hd (kk p l e R s m args below meth c D A ad ca X H locs ls Y)
theorem G_compact (hd : decode (g_b M) pc = .ok (.getstatic idx, 3)) (hl : Cond.fieldLink (g_y M).cls idx "java/lang/String" "COMPACT_STRINGS" "Z" ∈ g_T) (kk : G M Q Z sg (pc + 3) lv (gi 1 :: st)) : G M Q Z sg pc lv st :=
  fun p l e R s m args below meth c D A ad ca X H locs ls Y => va_gets X.1 X.2.1 X.2.2.2.2.2.2.2.2.2.2.1.2.2.2.2.1 Y.2.2.1 X.2.2.2.2.1 (X.2.2.2.2.2.2.1 _ hl) (fun _ h => h) hd (kk p l e R s m args below meth c D A ad ca X H locs ls Y)
theorem G_cellS {host : String} (hd : decode (g_b M) pc = .ok (.getstatic idx, 3)) (hl : Cond.fieldLinkNest (g_y M).cls idx "BandPress" "CELL" "[I" host ∈ g_N) (kk : G M Q Z sg (pc + 3) lv (.ref 3000 :: st)) : G M Q Z sg pc lv st :=
  fun p l e R s m args below meth c D A ad ca X H locs ls Y => va_getsN X.1 X.2.1 X.2.2.2.2.2.2.2.2.2.2.1.2.2.1 Y.2.2.1 X.2.2.2.2.1 (va_Nw.use rfl (X.2.2.2.2.2.2.2.2.2.2.1.2.2.2.2.2.1 _ hl)) (fun _ h => h) hd (kk p l e R s m args below meth c D A ad ca X H locs ls Y)
def g_ce (j : Nat) : Int := (g_cell.getD j 0).toInt
theorem G_cald {x a : Int} (hd : decode (g_b M) pc = .ok (.iaload, 1)) (ha : w32 x = a) (hx : 0 ≤ a ∧ a < ((g_cellN : Nat) : Int)) (kk : G M Q Z sg (pc + 1) lv (gi (g_ce a.toNat) :: st)) : G M Q Z sg pc lv (gi x :: .ref 3000 :: st) := by
  subst ha
  intro p l e R s m args below meth c D A ad ca X H locs ls Y
  refine va_ti (i := Int32.ofInt x) X.1 X.2.1 X.2.2.2.2.2.2.2.2.2.2.1.2.2.2.1 Y.2.2.1 (w32_in.mpr hx) (v := gi (g_ce (w32 x).toNat)) ?_ hd (kk p l e R s m args below meth c D A ad ca X H locs ls Y)
  rw [w32_cl]
  exact gi_eq (Int32.ofInt_toInt _).symm
end GCN
section GCK
variable {M N : gM} {S : List gH} {sg : gS} {pc : Nat} {lv : List (Option Value)} {st : List Value} {Q Q' : gO → List gH → gS → Prop} {Qi : Int → gS → Prop} {as stk : List Value} {idx n c1 c2 i : Nat} {Z : gZ}
/-- a call on a text -/
theorem G_cK (hc : Ct N Z.1 (.ref (1000 + i) :: as) sg Q') (hd : decode (g_b M) pc = .ok (.invokevirtual idx, 3)) (hlk : Cond.methodLink (g_y M).cls idx (g_y N) ∈ g_T) (hm : g_mv N n) (hn : as.length = n) (hi : i < g_nS) (hci : (g_y N).cls = "java/lang/String")
    (hft : g_ft M N Z = true) (hcr : g_cr st = true) (hal : (g_a N = true → g_a M = true) ∧ (g_a M = true → g_z N = true ∨ ((g_m N).cells = 0 ∧ ∀ (o : gO) (S : List gH) (sg' : gS), Q' o S sg' → S = Z.1))) (hs : stk = as.reverse ++ .ref (1000 + i) :: st)
    (k : ∀ (o : gO) (S : List gH) (sg' : gS), Q' o S sg' → ∃ r : Option Value, o = .inl r ∧ G M Q (S, Z.2.1 + (g_m N).cells, Z.2.2 + (g_m N).slots) sg' (pc + 3) lv (r.toList ++ st)) : G M Q Z sg pc lv stk := by
  intro p l e R s m args below meth c D A ad ca X H locs ls Y
  subst hs
  have hst : (as.reverse ++ .ref (1000 + i) :: st).map (g_v ad) = (as.map (g_v ad)).reverse ++ .ref (ad (1000 + i)) :: st.map (g_v ad) := by simp [g_v]
  obtain ⟨hR1, hR2⟩ := g_bit (N := N) hft X.2.2.2.2.2.2.2.1
  have hts := X.2.2.2.2.2.2.1
  have hal2 : g_a N = true → g_a M = true := hal.1
  have hcell : ∃ cellB : Cell, H[ad (1000 + i)]? = some cellB ∧ cellB.vm.isStatics = false ∧ s.vm.findClass (g_y N).cls = some cellB.cls := by
    obtain ⟨cell, h1, h2, h3, h4⟩ := ((X.2.2.2.2.2.2.2.2.2.2.1.1.1 i hi).1).kept Y.2.2.1.2.1
    exact ⟨cell, h1, h2, by rw [hci]; exact h3⟩
  obtain ⟨⟨hini, hcode, hd2⟩, hinst, hsel⟩ := hm
  intro T hT X1
  have hpre : PreV s H (g_y N).cls (ad (1000 + i)) (va_Pc ((.ref (1000 + i) :: as).map (g_v ad)) (g_P D ad ca (g_a N) Z.1 sg H.size)) (as.map (g_v ad)) := ⟨g_blind, hcell, g_pre (as := .ref (1000 + i) :: as) X Y (fun ha => ⟨g_sz X Y hT X1 (hal2 ha), (Y.2.2.2.2 (hal2 ha)).2.1⟩)⟩
  rw [hst]
  exact g_back (al := g_z N) X Y (fun ha => (hal.2 ha).imp (fun h => ⟨h, g_sz X Y hT X1 ha⟩) id) (va_runV (As := as.map (g_v ad)) (rest := st.map (g_v ad)) (C := (g_y N).cls) ⟨X.1, X.2.1, X.2.2.2.1, X.2.2.2.2.1, hts⟩ (hc l D ad ca H.size X.2.2.2.2.2.2.2.2.2.2.2.2.2.2.2.1) ⟨callB_of n hts (g_goodIn hcode) rfl rfl rfl (hts _ hini) (hts _ hlk) hd2 hR1, hts _ hinst, hts _ hsel⟩ hpre rfl (by simpa using hn) Y.2.2.2.1.1 rfl (g_cr_ok ad hcr) hd hR2) k T hT X1
end GCK
/-- a part of an array is copied into an array -/
def g_cp (sg : gS) (a b sp dp n : Nat) : gS := fun i j => if i = b ∧ dp ≤ j ∧ j < dp + n then sg a (sp + (j - dp)) else sg i j
theorem g_cp_ne {sg : gS} {a b sp dp n i : Nat} (h : i ≠ b) : g_cp sg a b sp dp n i = sg i := by
  funext j
  simp [g_cp, h]
section GAC
variable {M N : gM} {Q : gO → List gH → gS → Prop} {Z : gZ} {sg : gS} {pc : Nat} {lv : List (Option Value)} {st : List Value} {a b idx n0 n1 : Nat} {x y n sp dp nn : Int}
def g_cw (own : String) (idx : Nat) : Prop := Cond.methodLink own idx arraycopyName ∈ g_T ∧ Cond.native arraycopyName ∈ g_T ∧ Cond.static arraycopyName ∈ g_T ∧ Cond.initialized "java/lang/System" ∈ g_T
def g_acr (M : gM) (st : List Value) : Bool := decide (1 ≤ (g_m M).frames) && decide ((st.map fun v => v.category).sum + (nativeFrameWords "java/lang/System" "arraycopy" 5 + 11) ≤ (g_m M).locals)
theorem g_acr_ok {R : Room} (ad : Nat → Nat) (h : g_acr M st = true) (hR : R = g_m M) : 1 ≤ R.frames ∧ ((st.map (g_v ad)).map fun v => v.category).sum + (nativeFrameWords "java/lang/System" "arraycopy" 5 + 11) ≤ R.locals := by
  subst hR
  have e : ((st.map (g_v ad)).map fun v => v.category) = st.map fun v => v.category := by
    rw [List.map_map]
    exact List.map_congr_left fun v _ => g_v_cat ad v
  rw [e]
  simpa [g_acr] using h
theorem g_cp_i (sg : gS) (a b sp dp n : Nat) : va_cpy (fun j => Int32.ofInt (sg a j)) (fun j => Int32.ofInt (sg b j)) sp dp n = fun j => Int32.ofInt (g_cp sg a b sp dp n b j) := by
  funext j
  simp only [va_cpy, g_cp, true_and]
  split <;> rfl
theorem g_cp_l (sg : gS) (a b sp dp n : Nat) : va_cpy (fun j => Int64.ofInt (sg a j)) (fun j => Int64.ofInt (sg b j)) sp dp n = fun j => Int64.ofInt (g_cp sg a b sp dp n b j) := by
  funext j
  simp only [va_cpy, g_cp, true_and]
  split <;> rfl
theorem w32_nn {z : Int} (h : 0 ≤ w32 z) : ¬ Int32.ofInt z < 0 := fun q => by have := w32_l0.mp q; omega
theorem G_copyI (hd : decode (g_b M) pc = .ok (.invokestatic idx, 3)) (hw : g_cw (g_y M).cls idx) (hS0 : Z.1[a]? = some (.inl (0, n0))) (hS1 : Z.1[b]? = some (.inl (0, n1))) (hr : g_acr M st = true) (hsp : w32 x = sp) (hdp : w32 y = dp) (hnn : w32 n = nn) (h1 : 0 ≤ sp ∧ 0 ≤ dp ∧ 0 ≤ nn ∧ sp + nn ≤ n0 ∧ dp + nn ≤ n1)
    (kk : G M Q Z (g_cp sg a b sp.toNat dp.toNat nn.toNat) (pc + 3) lv st) : G M Q Z sg pc lv (gi n :: gi y :: .ref b :: gi x :: .ref a :: st) := by
  subst hsp hdp hnn
  intro p l e R s m args below meth c D A ad ca X H locs ls Y
  have hts := X.2.2.2.2.2.2.1
  obtain ⟨r1, r2⟩ := g_acr_ok ad hr X.2.2.2.2.2.2.2.1
  obtain ⟨g1, g2, g3, g4, g5⟩ := h1
  refine va_copyi (sp := Int32.ofInt x) (dp := Int32.ofInt y) (n := Int32.ofInt n) (ty := .int) (rest := st.map (g_v ad)) X.1 X.2.1 (X.2.2.2.1.trans Y.2.2.2.1.1.symm) X.2.2.2.2.1 (hts _ hw.1) (hts _ hw.2.1) (hts _ hw.2.2.1) (hts _ hw.2.2.2) X.2.2.2.2.2.2.2.2.1 Y.1 Y.2.1 Y.2.2.1 a b 0 0 (g_w_get hS0) (g_w_get hS1) rfl rfl rfl (w32_nn g1) (w32_nn g2) (w32_nn g3) (by rw [w32_cl, w32_cl]; omega) (by rw [w32_cl, w32_cl]; omega) (fun j hj => rfl) r1 r2 hd fun H1 locs1 k1 k2 k3 => ?_
  rw [w32_cl, w32_cl, w32_cl, g_cp_i] at k1 k2
  have ew := g_w_up (ad := ad) (ca := ca) (sg' := g_cp sg a b (w32 x).toNat (w32 y).toNat (w32 n).toNat) hS1 (fun j hj => g_cp_ne hj)
  exact kk p l e R s m args below meth c D A ad ca X H1 locs1 ls ⟨ew ▸ k1, ew ▸ k2, k3, Y.2.2.2.1, Y.2.2.2.2⟩
theorem G_copyL (hd : decode (g_b M) pc = .ok (.invokestatic idx, 3)) (hw : g_cw (g_y M).cls idx) (hS0 : Z.1[a]? = some (.inl (3, n0))) (hS1 : Z.1[b]? = some (.inl (3, n1))) (hr : g_acr M st = true) (hsp : w32 x = sp) (hdp : w32 y = dp) (hnn : w32 n = nn) (h1 : 0 ≤ sp ∧ 0 ≤ dp ∧ 0 ≤ nn ∧ sp + nn ≤ n0 ∧ dp + nn ≤ n1)
    (kk : G M Q Z (g_cp sg a b sp.toNat dp.toNat nn.toNat) (pc + 3) lv st) : G M Q Z sg pc lv (gi n :: gi y :: .ref b :: gi x :: .ref a :: st) := by
  subst hsp hdp hnn
  intro p l e R s m args below meth c D A ad ca X H locs ls Y
  have hts := X.2.2.2.2.2.2.1
  obtain ⟨r1, r2⟩ := g_acr_ok ad hr X.2.2.2.2.2.2.2.1
  obtain ⟨g1, g2, g3, g4, g5⟩ := h1
  refine va_copyl (sp := Int32.ofInt x) (dp := Int32.ofInt y) (n := Int32.ofInt n) (ty := .long) (rest := st.map (g_v ad)) X.1 X.2.1 (X.2.2.2.1.trans Y.2.2.2.1.1.symm) X.2.2.2.2.1 (hts _ hw.1) (hts _ hw.2.1) (hts _ hw.2.2.1) (hts _ hw.2.2.2) X.2.2.2.2.2.2.2.2.1 Y.1 Y.2.1 Y.2.2.1 a b 3 3 (g_w_get hS0) (g_w_get hS1) rfl rfl rfl (w32_nn g1) (w32_nn g2) (w32_nn g3) (by rw [w32_cl, w32_cl]; omega) (by rw [w32_cl, w32_cl]; omega) (fun j hj => rfl) r1 r2 hd fun H1 locs1 k1 k2 k3 => ?_
  rw [w32_cl, w32_cl, w32_cl, g_cp_l] at k1 k2
  have ew := g_w_up (ad := ad) (ca := ca) (sg' := g_cp sg a b (w32 x).toNat (w32 y).toNat (w32 n).toNat) hS1 (fun j hj => g_cp_ne hj)
  exact kk p l e R s m args below meth c D A ad ca X H1 locs1 ls ⟨ew ▸ k1, ew ▸ k2, k3, Y.2.2.2.1, Y.2.2.2.2⟩
end GAC
end
section
/-! a side of the store: the class's cells, or the model's; J puts it into the whole -/
def g_set (s : gS) (q : Nat) (r : Nat → Int) : gS := fun i => if i = q then r else s i
theorem g_up_set (s : gS) (q k : Nat) (z : Int) : g_up s q k z = g_set s q (fun j => if j = k then z else s q j) := by
  funext i j
  by_cases h : i = q <;> simp [g_up, g_set, h]
theorem g_cp_set (s : gS) (a b sp dp n : Nat) : g_cp s a b sp dp n = g_set s b (fun j => if dp ≤ j ∧ j < dp + n then s a (sp + (j - dp)) else s b j) := by
  funext i j
  by_cases h : i = b <;> simp [g_cp, g_set, h]
def g_in (J : gS → gS) (q : Nat) : Prop := ∀ s : gS, J s q = s q ∧ ∀ r : Nat → Int, g_set (J s) q r = J (g_set s q r)
def g_jc (J : gS → gS) : Prop := ∀ q : Nat, g_side q = false → g_in J q
def g_jm (J : gS → gS) : Prop := ∀ q : Nat, g_side q = true → g_in J q
def g_j (s t : gS) : gS := fun q => if g_side q then t q else s q
theorem g_j_c (t : gS) : g_jc (fun s => g_j s t) := by
  intro q hq s
  refine ⟨by simp [g_j, hq], fun r => ?_⟩
  funext i
  by_cases h : i = q
  · subst h; simp [g_set, g_j, hq]
  · by_cases h2 : g_side i = true <;> simp [g_set, g_j, h, h2]
theorem g_j_m (t : gS) : g_jm (fun s => g_j t s) := by
  intro q hq s
  refine ⟨by simp [g_j, hq], fun r => ?_⟩
  funext i
  by_cases h : i = q
  · subst h; simp [g_set, g_j, hq]
  · by_cases h2 : g_side i = true <;> simp [g_set, g_j, h, h2]
theorem g_j_id : g_jc (fun s => s) ∧ g_jm (fun s => s) := ⟨fun _ _ _ => ⟨rfl, fun _ => rfl⟩, fun _ _ _ => ⟨rfl, fun _ => rfl⟩⟩
theorem g_in_up {J : gS → gS} {q : Nat} (h : g_in J q) (s : gS) (k : Nat) (z : Int) : g_up (J s) q k z = J (g_up s q k z) := by
  rw [g_up_set, g_up_set, (h s).1, (h s).2]
theorem g_in_cp {J : gS → gS} {a b : Nat} (ha : g_in J a) (hb : g_in J b) (s : gS) (sp dp n : Nat) : g_cp (J s) a b sp dp n = J (g_cp s a b sp dp n) := by
  rw [g_cp_set, g_cp_set, (ha s).1, (hb s).1, (hb s).2]
/-! answers: an int, a long, nothing, a known reference -/
def QE (S : List gH) (J : gS → gS) (z : Int) (s : gS) : gO → List gH → gS → Prop := fun o S' sg => S' = S ∧ o = .inl (some (gi z)) ∧ sg = J s
def QF (S : List gH) (J : gS → gS) (z : Int) (s : gS) : gO → List gH → gS → Prop := fun o S' sg => S' = S ∧ o = .inl (some (gl z)) ∧ sg = J s
def QG (S : List gH) (J : gS → gS) (_ : Int) (s : gS) : gO → List gH → gS → Prop := fun o S' sg => S' = S ∧ o = .inl none ∧ sg = J s
def QX (S : List gH) (J : gS → gS) (t z : Int) (s : gS) : gO → List gH → gS → Prop := fun o S' sg => S' = S ∧ (o = if t = 0 then .inl (some (gi z)) else .inr (t - 1).toNat) ∧ sg = J s
def QH (r : Nat) (S : List gH) (J : gS → gS) (_ : Int) (s : gS) : gO → List gH → gS → Prop := fun o S' sg => S' = S ∧ o = .inl (some (.ref r)) ∧ sg = J s
/-! the methods as functions: what h says at each step -/
abbrev gA : Type := Option (Int × gS)
/-- of a method that may throw: 0, or 1 and the exception's number -/
abbrev gT : Type := Option (Int × Int × gS)
def g_bi {β : Type} (m : gA) (f : Int → gS → Option β) : Option β := match m with
  | none => none
  | some (z, s) => f z s
def g_le {α β : Type} (x : α) (f : α → Option β) : Option β := f x
section GOB
variable {β : Type} {o : β} {a b : Option β} {c : Prop}
theorem o_b {m : gA} {f : Int → gS → Option β} (h : g_bi m f = some o) : ∃ z s, m = some (z, s) ∧ f z s = some o := by
  cases hm : m with
  | none => rw [hm] at h; cases h
  | some q => obtain ⟨z, s⟩ := q; rw [hm] at h; exact ⟨z, s, rfl, h⟩
theorem o_l {α : Type} {x : α} {f : α → Option β} (h : g_le x f = some o) (y : α) (e : y = x) : f y = some o := by subst e; exact h
theorem o_t [Decidable c] (hc : c) (h : (if c then a else b) = some o) : a = some o := by rwa [if_pos hc] at h
theorem o_f [Decidable c] (hc : ¬ c) (h : (if c then a else b) = some o) : b = some o := by rwa [if_neg hc] at h
theorem o_g [Decidable c] (h : (if c then a else none) = some o) : c ∧ a = some o := by
  by_cases hc : c
  · exact ⟨hc, o_t hc h⟩
  · rw [if_neg hc] at h; cases h
end GOB
theorem q_e {S : List gH} {J : gS → gS} {z z0 : Int} {s s0 : gS} (h : (some (z, s) : gA) = some (z0, s0)) : QE S J z0 s0 (.inl (some (gi z))) S (J s) := by cases h; exact ⟨rfl, rfl, rfl⟩
theorem q_f {S : List gH} {J : gS → gS} {z z0 : Int} {s s0 : gS} (h : (some (z, s) : gA) = some (z0, s0)) : QF S J z0 s0 (.inl (some (gl z))) S (J s) := by cases h; exact ⟨rfl, rfl, rfl⟩
theorem q_g {S : List gH} {J : gS → gS} {z z0 : Int} {s s0 : gS} (h : (some (z, s) : gA) = some (z0, s0)) : QG S J z0 s0 (.inl none) S (J s) := by cases h; exact ⟨rfl, rfl, rfl⟩
theorem q_h {S : List gH} {J : gS → gS} {r : Nat} {z z0 : Int} {s s0 : gS} (h : (some (z, s) : gA) = some (z0, s0)) : QH r S J z0 s0 (.inl (some (.ref r))) S (J s) := by cases h; exact ⟨rfl, rfl, rfl⟩
section GSD
variable {M N : gM} {Q : gO → List gH → gS → Prop} {Z : gZ} {J : gS → gS} {s s1 : gS} {pc : Nat} {lv : List (Option Value)} {st : List Value} {q ci k idx n a b n0 n1 c1 c2 : Nat} {fl : List gF} {S : List gH} {as stk : List Value} {z z1 : Int} {x y nn sp dp m : Int}
theorem H_topi (k : ∀ v : Int, v = z → G M Q Z (J s) pc lv (gi v :: st)) : G M Q Z (J s) pc lv (gi z :: st) := k z rfl
theorem H_topl (k : ∀ v : Int, v = z → G M Q Z (J s) pc lv (gl v :: st)) : G M Q Z (J s) pc lv (gl z :: st) := k z rfl
theorem H_getI (hd : decode (g_b M) pc = .ok (.getfield idx, 3)) (hS : Z.1[q]? = some (.inr (ci, fl))) (hl : g_fl (g_y M).cls idx ci k) (hf : fl[k]? = some none) (hJ : g_in J q) (kk : G M Q Z (J s) (pc + 3) lv (gi (s q k) :: st)) : G M Q Z (J s) pc lv (.ref q :: st) :=
  G_getI hd hS hl hf (by rw [(hJ s).1]; exact kk)
theorem H_putI (hd : decode (g_b M) pc = .ok (.putfield idx, 3)) (hS : Z.1[q]? = some (.inr (ci, fl))) (hl : g_fp (g_y M).cls idx ci k false .int) (hf : fl[k]? = some none) (hJ : g_in J q) (kk : ∀ s1 : gS, s1 = g_up s q k z → G M Q Z (J s1) (pc + 3) lv st) : G M Q Z (J s) pc lv (gi z :: .ref q :: st) :=
  G_putI hd hS hl hf (by rw [g_in_up hJ]; exact kk _ rfl)
theorem H_putZ (hd : decode (g_b M) pc = .ok (.putfield idx, 3)) (hS : Z.1[q]? = some (.inr (ci, fl))) (hl : g_fp (g_y M).cls idx ci k false .boolean) (hf : fl[k]? = some none) (hJ : g_in J q) (hz : w32 z = 0 ∨ w32 z = 1) (kk : ∀ s1 : gS, s1 = g_up s q k z → G M Q Z (J s1) (pc + 3) lv st) : G M Q Z (J s) pc lv (gi z :: .ref q :: st) :=
  G_putZ hd hS hl hf hz (by rw [g_in_up hJ]; exact kk _ rfl)
theorem H_iaload {j : Nat} (hd : decode (g_b M) pc = .ok (.iaload, 1)) (hS : Z.1[q]? = some (.inl (0, n))) (hJ : g_in J q) (ha : w32 x = y) (hi : 0 ≤ y ∧ y < (n : Int)) (hj : y.toNat = j) (kk : G M Q Z (J s) (pc + 1) lv (gi (s q j) :: st)) : G M Q Z (J s) pc lv (gi x :: .ref q :: st) := by
  subst hj
  exact G_iaload hd hS ha hi (by rw [(hJ s).1]; exact kk)
theorem H_zaload {j : Nat} (hd : decode (g_b M) pc = .ok (.baload, 1)) (hS : Z.1[q]? = some (.inl (1, n))) (hJ : g_in J q) (ha : w32 x = y) (hi : 0 ≤ y ∧ y < (n : Int)) (hj : y.toNat = j) (kk : G M Q Z (J s) (pc + 1) lv (gi (s q j) :: st)) : G M Q Z (J s) pc lv (gi x :: .ref q :: st) := by
  subst hj
  exact G_zaload hd hS ha hi (by rw [(hJ s).1]; exact kk)
theorem H_laload {j : Nat} (hd : decode (g_b M) pc = .ok (.laload, 1)) (hS : Z.1[q]? = some (.inl (3, n))) (hJ : g_in J q) (ha : w32 x = y) (hi : 0 ≤ y ∧ y < (n : Int)) (hj : y.toNat = j) (kk : G M Q Z (J s) (pc + 1) lv (gl (s q j) :: st)) : G M Q Z (J s) pc lv (gi x :: .ref q :: st) := by
  subst hj
  exact G_laload hd hS ha hi (by rw [(hJ s).1]; exact kk)
theorem H_iastore {j : Nat} (hd : decode (g_b M) pc = .ok (.iastore, 1)) (hS : Z.1[q]? = some (.inl (0, n))) (hJ : g_in J q) (ha : w32 x = y) (hi : 0 ≤ y ∧ y < (n : Int)) (hj : y.toNat = j) (kk : ∀ s1 : gS, s1 = g_up s q j (z) → G M Q Z (J s1) (pc + 1) lv st) : G M Q Z (J s) pc lv (gi z :: gi x :: .ref q :: st) := by
  subst hj
  exact G_iastore hd hS ha hi (by rw [g_in_up hJ]; exact kk _ rfl)
theorem H_zastore {j : Nat} (hd : decode (g_b M) pc = .ok (.bastore, 1)) (hS : Z.1[q]? = some (.inl (1, n))) (hJ : g_in J q) (ha : w32 x = y) (hi : 0 ≤ y ∧ y < (n : Int)) (hj : y.toNat = j) (kk : ∀ s1 : gS, s1 = g_up s q j (i_nar .boolean z) → G M Q Z (J s1) (pc + 1) lv st) : G M Q Z (J s) pc lv (gi z :: gi x :: .ref q :: st) := by
  subst hj
  exact G_zastore hd hS ha hi (by rw [g_in_up hJ]; exact kk _ rfl)
theorem H_lastore {j : Nat} (hd : decode (g_b M) pc = .ok (.lastore, 1)) (hS : Z.1[q]? = some (.inl (3, n))) (hJ : g_in J q) (ha : w32 x = y) (hi : 0 ≤ y ∧ y < (n : Int)) (hj : y.toNat = j) (kk : ∀ s1 : gS, s1 = g_up s q j (z) → G M Q Z (J s1) (pc + 1) lv st) : G M Q Z (J s) pc lv (gl z :: gi x :: .ref q :: st) := by
  subst hj
  exact G_lastore hd hS ha hi (by rw [g_in_up hJ]; exact kk _ rfl)
theorem H_copyI (hd : decode (g_b M) pc = .ok (.invokestatic idx, 3)) (hw : g_cw (g_y M).cls idx) (hS0 : Z.1[a]? = some (.inl (0, n0))) (hS1 : Z.1[b]? = some (.inl (0, n1))) (hr : g_acr M st = true) (hJa : g_in J a) (hJb : g_in J b) {js jd jn : Nat} (hsp : w32 x = sp) (hdp : w32 y = dp) (hnn : w32 m = nn) (ejs : sp.toNat = js) (ejd : dp.toNat = jd) (ejn : nn.toNat = jn) (h1 : 0 ≤ sp ∧ 0 ≤ dp ∧ 0 ≤ nn ∧ sp + nn ≤ n0 ∧ dp + nn ≤ n1)
    (kk : ∀ s1 : gS, s1 = g_cp s a b js jd jn → G M Q Z (J s1) (pc + 3) lv st) : G M Q Z (J s) pc lv (gi m :: gi y :: .ref b :: gi x :: .ref a :: st) := by
  subst ejs ejd ejn
  exact G_copyI hd hw hS0 hS1 hr hsp hdp hnn h1 (by rw [g_in_cp hJa hJb]; exact kk _ rfl)
theorem H_copyL (hd : decode (g_b M) pc = .ok (.invokestatic idx, 3)) (hw : g_cw (g_y M).cls idx) (hS0 : Z.1[a]? = some (.inl (3, n0))) (hS1 : Z.1[b]? = some (.inl (3, n1))) (hr : g_acr M st = true) (hJa : g_in J a) (hJb : g_in J b) {js jd jn : Nat} (hsp : w32 x = sp) (hdp : w32 y = dp) (hnn : w32 m = nn) (ejs : sp.toNat = js) (ejd : dp.toNat = jd) (ejn : nn.toNat = jn) (h1 : 0 ≤ sp ∧ 0 ≤ dp ∧ 0 ≤ nn ∧ sp + nn ≤ n0 ∧ dp + nn ≤ n1)
    (kk : ∀ s1 : gS, s1 = g_cp s a b js jd jn → G M Q Z (J s1) (pc + 3) lv st) : G M Q Z (J s) pc lv (gi m :: gi y :: .ref b :: gi x :: .ref a :: st) := by
  subst ejs ejd ejn
  exact G_copyL hd hw hS0 hS1 hr hsp hdp hnn h1 (by rw [g_in_cp hJa hJb]; exact kk _ rfl)
theorem H_cVE (hc : Ct N S (.ref b :: as) (J s) (QE S J z1 s1)) (hd : decode (g_b M) pc = .ok (.invokevirtual idx, 3)) (hlk : g_lk (g_y M).cls idx (g_y N)) (hm : g_mv N n) (hn : as.length = n) (hS : S[b]? = some (.inr (ci, fl))) (hci : (g_cl[ci]?).map (fun q => q.1) = some (g_y N).cls) (hft : g_ft M N (S, c1, c2) = true) (hcr : g_cr st = true) (h0 : g_c0 N = true) (hal : g_a N = false) (hs : stk = as.reverse ++ .ref b :: st)
    (kk : G M Q (S, c1, c2) (J s1) (pc + 3) lv (gi z1 :: st)) : G M Q (S, c1, c2) (J s) pc lv stk := by
  refine G_cV (Z := (S, c1, c2)) hc hd hlk hm hn hS hci hft hcr ⟨fun h => (by rw [hal] at h; cases h), fun _ => Or.inr ⟨(g_c0_eq h0).1, fun o S' sg' hq => hq.1⟩⟩ hs fun o S' sg' hq => ?_
  obtain ⟨rfl, rfl, rfl⟩ := hq
  refine ⟨_, rfl, ?_⟩
  rw [(g_c0_eq h0).1, (g_c0_eq h0).2]
  exact kk
theorem H_cVF (hc : Ct N S (.ref b :: as) (J s) (QF S J z1 s1)) (hd : decode (g_b M) pc = .ok (.invokevirtual idx, 3)) (hlk : g_lk (g_y M).cls idx (g_y N)) (hm : g_mv N n) (hn : as.length = n) (hS : S[b]? = some (.inr (ci, fl))) (hci : (g_cl[ci]?).map (fun q => q.1) = some (g_y N).cls) (hft : g_ft M N (S, c1, c2) = true) (hcr : g_cr st = true) (h0 : g_c0 N = true) (hal : g_a N = false) (hs : stk = as.reverse ++ .ref b :: st)
    (kk : G M Q (S, c1, c2) (J s1) (pc + 3) lv (gl z1 :: st)) : G M Q (S, c1, c2) (J s) pc lv stk := by
  refine G_cV (Z := (S, c1, c2)) hc hd hlk hm hn hS hci hft hcr ⟨fun h => (by rw [hal] at h; cases h), fun _ => Or.inr ⟨(g_c0_eq h0).1, fun o S' sg' hq => hq.1⟩⟩ hs fun o S' sg' hq => ?_
  obtain ⟨rfl, rfl, rfl⟩ := hq
  refine ⟨_, rfl, ?_⟩
  rw [(g_c0_eq h0).1, (g_c0_eq h0).2]
  exact kk
theorem H_cVG (hc : Ct N S (.ref b :: as) (J s) (QG S J z1 s1)) (hd : decode (g_b M) pc = .ok (.invokevirtual idx, 3)) (hlk : g_lk (g_y M).cls idx (g_y N)) (hm : g_mv N n) (hn : as.length = n) (hS : S[b]? = some (.inr (ci, fl))) (hci : (g_cl[ci]?).map (fun q => q.1) = some (g_y N).cls) (hft : g_ft M N (S, c1, c2) = true) (hcr : g_cr st = true) (h0 : g_c0 N = true) (hal : g_a N = false) (hs : stk = as.reverse ++ .ref b :: st)
    (kk : G M Q (S, c1, c2) (J s1) (pc + 3) lv (st)) : G M Q (S, c1, c2) (J s) pc lv stk := by
  refine G_cV (Z := (S, c1, c2)) hc hd hlk hm hn hS hci hft hcr ⟨fun h => (by rw [hal] at h; cases h), fun _ => Or.inr ⟨(g_c0_eq h0).1, fun o S' sg' hq => hq.1⟩⟩ hs fun o S' sg' hq => ?_
  obtain ⟨rfl, rfl, rfl⟩ := hq
  refine ⟨_, rfl, ?_⟩
  rw [(g_c0_eq h0).1, (g_c0_eq h0).2]
  exact kk
theorem H_cVH (hc : Ct N S (.ref b :: as) (J s) (QH a S J z1 s1)) (hd : decode (g_b M) pc = .ok (.invokevirtual idx, 3)) (hlk : g_lk (g_y M).cls idx (g_y N)) (hm : g_mv N n) (hn : as.length = n) (hS : S[b]? = some (.inr (ci, fl))) (hci : (g_cl[ci]?).map (fun q => q.1) = some (g_y N).cls) (hft : g_ft M N (S, c1, c2) = true) (hcr : g_cr st = true) (h0 : g_c0 N = true) (hal : g_a N = false) (hs : stk = as.reverse ++ .ref b :: st)
    (kk : G M Q (S, c1, c2) (J s1) (pc + 3) lv (.ref a :: st)) : G M Q (S, c1, c2) (J s) pc lv stk := by
  refine G_cV (Z := (S, c1, c2)) hc hd hlk hm hn hS hci hft hcr ⟨fun h => (by rw [hal] at h; cases h), fun _ => Or.inr ⟨(g_c0_eq h0).1, fun o S' sg' hq => hq.1⟩⟩ hs fun o S' sg' hq => ?_
  obtain ⟨rfl, rfl, rfl⟩ := hq
  refine ⟨_, rfl, ?_⟩
  rw [(g_c0_eq h0).1, (g_c0_eq h0).2]
  exact kk
theorem H_cSE (hc : Ct N S as (J s) (QE S J z1 s1)) (hd : decode (g_b M) pc = .ok (.invokestatic idx, 3)) (hlk : g_lk (g_y M).cls idx (g_y N)) (hm : g_ms N n) (hn : as.length = n) (hft : g_ft M N (S, c1, c2) = true) (hcr : g_cr st = true) (h0 : g_c0 N = true) (hal : g_a N = false) (hs : stk = as.reverse ++ st)
    (kk : G M Q (S, c1, c2) (J s1) (pc + 3) lv (gi z1 :: st)) : G M Q (S, c1, c2) (J s) pc lv stk := by
  refine G_cS (Z := (S, c1, c2)) hc hd hlk hm hn hft hcr ⟨fun h => (by rw [hal] at h; cases h), fun _ => Or.inr ⟨(g_c0_eq h0).1, fun o S' sg' hq => hq.1⟩⟩ hs fun o S' sg' hq => ?_
  obtain ⟨rfl, rfl, rfl⟩ := hq
  refine ⟨_, rfl, ?_⟩
  rw [(g_c0_eq h0).1, (g_c0_eq h0).2]
  exact kk
theorem H_cSF (hc : Ct N S as (J s) (QF S J z1 s1)) (hd : decode (g_b M) pc = .ok (.invokestatic idx, 3)) (hlk : g_lk (g_y M).cls idx (g_y N)) (hm : g_ms N n) (hn : as.length = n) (hft : g_ft M N (S, c1, c2) = true) (hcr : g_cr st = true) (h0 : g_c0 N = true) (hal : g_a N = false) (hs : stk = as.reverse ++ st)
    (kk : G M Q (S, c1, c2) (J s1) (pc + 3) lv (gl z1 :: st)) : G M Q (S, c1, c2) (J s) pc lv stk := by
  refine G_cS (Z := (S, c1, c2)) hc hd hlk hm hn hft hcr ⟨fun h => (by rw [hal] at h; cases h), fun _ => Or.inr ⟨(g_c0_eq h0).1, fun o S' sg' hq => hq.1⟩⟩ hs fun o S' sg' hq => ?_
  obtain ⟨rfl, rfl, rfl⟩ := hq
  refine ⟨_, rfl, ?_⟩
  rw [(g_c0_eq h0).1, (g_c0_eq h0).2]
  exact kk
theorem H_cSG (hc : Ct N S as (J s) (QG S J z1 s1)) (hd : decode (g_b M) pc = .ok (.invokestatic idx, 3)) (hlk : g_lk (g_y M).cls idx (g_y N)) (hm : g_ms N n) (hn : as.length = n) (hft : g_ft M N (S, c1, c2) = true) (hcr : g_cr st = true) (h0 : g_c0 N = true) (hal : g_a N = false) (hs : stk = as.reverse ++ st)
    (kk : G M Q (S, c1, c2) (J s1) (pc + 3) lv (st)) : G M Q (S, c1, c2) (J s) pc lv stk := by
  refine G_cS (Z := (S, c1, c2)) hc hd hlk hm hn hft hcr ⟨fun h => (by rw [hal] at h; cases h), fun _ => Or.inr ⟨(g_c0_eq h0).1, fun o S' sg' hq => hq.1⟩⟩ hs fun o S' sg' hq => ?_
  obtain ⟨rfl, rfl, rfl⟩ := hq
  refine ⟨_, rfl, ?_⟩
  rw [(g_c0_eq h0).1, (g_c0_eq h0).2]
  exact kk
theorem H_cSH (hc : Ct N S as (J s) (QH a S J z1 s1)) (hd : decode (g_b M) pc = .ok (.invokestatic idx, 3)) (hlk : g_lk (g_y M).cls idx (g_y N)) (hm : g_ms N n) (hn : as.length = n) (hft : g_ft M N (S, c1, c2) = true) (hcr : g_cr st = true) (h0 : g_c0 N = true) (hal : g_a N = false) (hs : stk = as.reverse ++ st)
    (kk : G M Q (S, c1, c2) (J s1) (pc + 3) lv (.ref a :: st)) : G M Q (S, c1, c2) (J s) pc lv stk := by
  refine G_cS (Z := (S, c1, c2)) hc hd hlk hm hn hft hcr ⟨fun h => (by rw [hal] at h; cases h), fun _ => Or.inr ⟨(g_c0_eq h0).1, fun o S' sg' hq => hq.1⟩⟩ hs fun o S' sg' hq => ?_
  obtain ⟨rfl, rfl, rfl⟩ := hq
  refine ⟨_, rfl, ?_⟩
  rw [(g_c0_eq h0).1, (g_c0_eq h0).2]
  exact kk
theorem H_cKE (hc : Ct N S (.ref (1000 + b) :: as) (J s) (QE S J z1 s1)) (hd : decode (g_b M) pc = .ok (.invokevirtual idx, 3)) (hlk : Cond.methodLink (g_y M).cls idx (g_y N) ∈ g_T) (hm : g_mv N n) (hn : as.length = n) (hi : b < g_nS) (hci : (g_y N).cls = "java/lang/String") (hft : g_ft M N (S, c1, c2) = true) (hcr : g_cr st = true) (h0 : g_c0 N = true) (hal : g_a N = false) (hs : stk = as.reverse ++ .ref (1000 + b) :: st)
    (kk : G M Q (S, c1, c2) (J s1) (pc + 3) lv (gi z1 :: st)) : G M Q (S, c1, c2) (J s) pc lv stk := by
  refine G_cK (Z := (S, c1, c2)) hc hd hlk hm hn hi hci hft hcr ⟨fun h => (by rw [hal] at h; cases h), fun _ => Or.inr ⟨(g_c0_eq h0).1, fun o S' sg' hq => hq.1⟩⟩ hs fun o S' sg' hq => ?_
  obtain ⟨rfl, rfl, rfl⟩ := hq
  refine ⟨_, rfl, ?_⟩
  rw [(g_c0_eq h0).1, (g_c0_eq h0).2]
  exact kk
theorem H_cKF (hc : Ct N S (.ref (1000 + b) :: as) (J s) (QF S J z1 s1)) (hd : decode (g_b M) pc = .ok (.invokevirtual idx, 3)) (hlk : Cond.methodLink (g_y M).cls idx (g_y N) ∈ g_T) (hm : g_mv N n) (hn : as.length = n) (hi : b < g_nS) (hci : (g_y N).cls = "java/lang/String") (hft : g_ft M N (S, c1, c2) = true) (hcr : g_cr st = true) (h0 : g_c0 N = true) (hal : g_a N = false) (hs : stk = as.reverse ++ .ref (1000 + b) :: st)
    (kk : G M Q (S, c1, c2) (J s1) (pc + 3) lv (gl z1 :: st)) : G M Q (S, c1, c2) (J s) pc lv stk := by
  refine G_cK (Z := (S, c1, c2)) hc hd hlk hm hn hi hci hft hcr ⟨fun h => (by rw [hal] at h; cases h), fun _ => Or.inr ⟨(g_c0_eq h0).1, fun o S' sg' hq => hq.1⟩⟩ hs fun o S' sg' hq => ?_
  obtain ⟨rfl, rfl, rfl⟩ := hq
  refine ⟨_, rfl, ?_⟩
  rw [(g_c0_eq h0).1, (g_c0_eq h0).2]
  exact kk
theorem H_cKG (hc : Ct N S (.ref (1000 + b) :: as) (J s) (QG S J z1 s1)) (hd : decode (g_b M) pc = .ok (.invokevirtual idx, 3)) (hlk : Cond.methodLink (g_y M).cls idx (g_y N) ∈ g_T) (hm : g_mv N n) (hn : as.length = n) (hi : b < g_nS) (hci : (g_y N).cls = "java/lang/String") (hft : g_ft M N (S, c1, c2) = true) (hcr : g_cr st = true) (h0 : g_c0 N = true) (hal : g_a N = false) (hs : stk = as.reverse ++ .ref (1000 + b) :: st)
    (kk : G M Q (S, c1, c2) (J s1) (pc + 3) lv (st)) : G M Q (S, c1, c2) (J s) pc lv stk := by
  refine G_cK (Z := (S, c1, c2)) hc hd hlk hm hn hi hci hft hcr ⟨fun h => (by rw [hal] at h; cases h), fun _ => Or.inr ⟨(g_c0_eq h0).1, fun o S' sg' hq => hq.1⟩⟩ hs fun o S' sg' hq => ?_
  obtain ⟨rfl, rfl, rfl⟩ := hq
  refine ⟨_, rfl, ?_⟩
  rw [(g_c0_eq h0).1, (g_c0_eq h0).2]
  exact kk
theorem H_cKH (hc : Ct N S (.ref (1000 + b) :: as) (J s) (QH a S J z1 s1)) (hd : decode (g_b M) pc = .ok (.invokevirtual idx, 3)) (hlk : Cond.methodLink (g_y M).cls idx (g_y N) ∈ g_T) (hm : g_mv N n) (hn : as.length = n) (hi : b < g_nS) (hci : (g_y N).cls = "java/lang/String") (hft : g_ft M N (S, c1, c2) = true) (hcr : g_cr st = true) (h0 : g_c0 N = true) (hal : g_a N = false) (hs : stk = as.reverse ++ .ref (1000 + b) :: st)
    (kk : G M Q (S, c1, c2) (J s1) (pc + 3) lv (.ref a :: st)) : G M Q (S, c1, c2) (J s) pc lv stk := by
  refine G_cK (Z := (S, c1, c2)) hc hd hlk hm hn hi hci hft hcr ⟨fun h => (by rw [hal] at h; cases h), fun _ => Or.inr ⟨(g_c0_eq h0).1, fun o S' sg' hq => hq.1⟩⟩ hs fun o S' sg' hq => ?_
  obtain ⟨rfl, rfl, rfl⟩ := hq
  refine ⟨_, rfl, ?_⟩
  rw [(g_c0_eq h0).1, (g_c0_eq h0).2]
  exact kk
end GSD
/-! decode tables -/
def g_dc (b : ByteArray) : Nat → List (Instr × Nat) → Bool
  | _, [] => true
  | pc, x :: r => decide (decode b pc = .ok x) && g_dc b (pc + x.2) r
def g_pk : Nat → List (Instr × Nat) → Nat → Option (Nat × Instr × Nat)
  | _, [], _ => none
  | pc, x :: _, 0 => some (pc, x)
  | pc, x :: r, j + 1 => g_pk (pc + x.2) r j
theorem g_da {b : ByteArray} : ∀ {L : List (Instr × Nat)} {pc0 : Nat}, g_dc b pc0 L = true → ∀ (j : Nat) {pc : Nat} {x : Instr × Nat}, g_pk pc0 L j = some (pc, x) → decode b pc = .ok x := by
  intro L
  induction L with
  | nil => intro pc0 _ j pc x h; simp [g_pk] at h
  | cons y r ih =>
    intro pc0 h j pc x hp
    simp only [g_dc, Bool.and_eq_true, decide_eq_true_eq] at h
    cases j with
    | zero =>
      have e : some (pc0, y) = some (pc, x) := hp
      cases e
      exact h.1
    | succ j => exact ih h.2 j hp
end
section
/-! new cells: what the constructors do; the returns of methods that may throw; the script -/
def g_dk (ty : FieldType) (f : Option gF) : Bool := match f with
  | some none => decide (defaultValue ty = .int 0)
  | some (some none) => decide (defaultValue ty = .null)
  | _ => false
theorem g_dk_ok {N : Nat} {ty : Nat → FieldType} {fl : List gF} (ad : Nat → Nat) (h : ((List.range N).all fun j => g_dk (ty j) fl[j]?) = true) : ∀ j, j < N → defaultValue (ty j) = vp_V (fl.mapIdx (g_fv ad (fun _ => 0))) j := by
  intro j hj
  have h1 := List.all_eq_true.mp h j (List.mem_range.mpr hj)
  rw [vp_V, List.getD_eq_getElem?_getD, List.getElem?_mapIdx]
  cases hf : fl[j]? with
  | none => rw [hf] at h1; cases h1
  | some f =>
    rw [hf] at h1
    cases f with
    | none => exact of_decide_eq_true h1
    | some o => cases o with
      | none => exact of_decide_eq_true h1
      | some q => cases h1
/-- an array's kind: its place among the types, its class's name, its first contents -/
def g_ark (t n : Nat) (ty : FieldType) : Prop := (∀ ca : Nat → Nat, (g_ty ca)[t]? = some (ca t, ty)) ∧ (∀ (U : State) (cA : ClassId), va_RA U cA ty → U.vm.findClass ("[" ++ ty.toString) = some cA) ∧ ∀ ad ca : Nat → Nat, ∃ e : ClassId × vp_A, g_c ad ca (fun _ => 0) (.inl (t, n)) = .inl e ∧ vp_cell e.1 e.2 = arrV (ca t) n (fun _ => defaultValue ty)
theorem g_ark0 (n : Nat) : g_ark 0 n .int := ⟨fun _ => rfl, fun _ _ h => h, fun _ _ => ⟨_, rfl, rfl⟩⟩
theorem g_ark1 (n : Nat) : g_ark 1 n .boolean := ⟨fun _ => rfl, fun _ _ h => h, fun _ _ => ⟨_, rfl, rfl⟩⟩
theorem g_ark3 (n : Nat) : g_ark 3 n .long := ⟨fun _ => rfl, fun _ _ h => h, fun _ _ => ⟨_, rfl, rfl⟩⟩
/-- the answer of a constructor -/
def QC (S : List gH) (s : gS) : gO → List gH → gS → Prop := fun o S' sg => S' = S ∧ o = .inl none ∧ sg = s
theorem q_rC {S : List gH} {s : gS} : ∀ o S' sg', QC S s o S' sg' → ∃ r : Option Value, o = .inl r := fun _ _ _ h => ⟨_, h.2.1⟩
theorem q_rE {S : List gH} {J : gS → gS} {z : Int} {s : gS} : ∀ o S' sg', QE S J z s o S' sg' → ∃ r : Option Value, o = .inl r := fun _ _ _ h => ⟨_, h.2.1⟩
theorem q_rF {S : List gH} {J : gS → gS} {z : Int} {s : gS} : ∀ o S' sg', QF S J z s o S' sg' → ∃ r : Option Value, o = .inl r := fun _ _ _ h => ⟨_, h.2.1⟩
theorem q_rG {S : List gH} {J : gS → gS} {z : Int} {s : gS} : ∀ o S' sg', QG S J z s o S' sg' → ∃ r : Option Value, o = .inl r := fun _ _ _ h => ⟨_, h.2.1⟩
theorem q_rH {S : List gH} {J : gS → gS} {q : Nat} {z : Int} {s : gS} : ∀ o S' sg', QH q S J z s o S' sg' → ∃ r : Option Value, o = .inl r := fun _ _ _ h => ⟨_, h.2.1⟩
theorem q_x {S : List gH} {J : gS → gS} {z t0 z0 : Int} {s s0 : gS} (h : (some (0, z, s) : gT) = some (t0, z0, s0)) : QX S J t0 z0 s0 (.inl (some (gi z))) S (J s) := by cases h; exact ⟨rfl, rfl, rfl⟩
theorem q_t {S : List gH} {J : gS → gS} {k : Nat} {t0 z0 : Int} {s s0 : gS} (h : (some ((k : Int) + 1, 0, s) : gT) = some (t0, z0, s0)) : QX S J t0 z0 s0 (.inr k) S (J s) := by
  cases h
  refine ⟨rfl, ?_, rfl⟩
  rw [if_neg (by omega), show ((k : Int) + 1 - 1).toNat = k by omega]
section GMK
variable {M N : gM} {Q : gO → List gH → gS → Prop} {Z : gZ} {sg : gS} {pc : Nat} {lv : List (Option Value)} {st : List Value} {q ci k idx n t b : Nat} {fl : List gF} {S S' : List gH} {as stk : List Value}
theorem G_new {C : String} {T : u_T} {N : Nat} (ty : Nat → FieldType) (hd : decode (g_b M) pc = .ok (.new idx, 3)) (hc : g_cl[ci]? = some (C, T, N)) (hty : ∀ k, k < N → parseFieldDescriptor (T k).2.2.1 = some (ty k)) (hl : Cond.classLink (g_y M).cls idx C ∈ g_T) (hi : Cond.instantiable C N ∈ g_T) (hini : Cond.initialized C ∈ g_T) (ha : g_a M = true) (hlen : Z.1.length < 900) (hcells : Z.2.1 + 1 ≤ (g_m M).cells) (hslots : Z.2.2 + N ≤ (g_m M).slots) (hfl : ((List.range N).all fun j => g_dk (ty j) fl[j]?) = true) (hS : S' = Z.1 ++ [.inr (ci, fl)]) (hn : n = Z.1.length)
    (kk : G M Q (S', Z.2.1 + 1, Z.2.2 + N) (g_nw sg n) (pc + 3) lv (.ref n :: st)) : G M Q Z sg pc lv st := by
  subst hS hn
  intro p l e R s m args below meth c D A ad ca X H locs ls Y T0 hT X1
  have hsz := g_sz X Y hT X1 ha
  have hR := X.2.2.2.2.2.2.2.1
  have hts := X.2.2.2.2.2.2.1
  have hKn := X.2.2.2.2.2.2.2.2.1.1 ci _ hc
  have hA : A (ad Z.1.length) := X.2.2.2.2.2.2.2.2.2.1 _ (by rw [← hsz]; exact Y.2.2.1.1)
  suffices hw : W p l e R s m args below meth c H locs Z.2.1 Z.2.2 (gMQ below (g_Q D A ad ca (g_z M) (g_m M).cells Q) args s (g_m M).cells (g_m M).slots A) (F0 m pc ls (st.map (g_v ad))) from hw T0 hT X1
  refine W.newcK (h := ad Z.1.length) X.1 X.2.1 X.2.2.2.2.1 (hts _ hl) (hts _ hi) (hts _ hini) rfl hd (by rw [hR]; exact hcells) (by rw [hR]; exact hslots) hKn.2.1 hsz (fun H1 kC hkC e1 z1 o1 => ?_)
  have hk : ∀ (k : Nat) (x : Nat × va_E), (g_w ad ca Z.1 sg)[k]? = some x → H1[x.1]? = H[x.1]? := fun k x hx => o1 x.1 (by rw [← hsz]; exact (Y.1 k x hx).lt)
  obtain ⟨y1, y2, y3⟩ := Y.2.2.2.2 ha
  have had := X.2.2.2.2.2.2.2.2.2.2.2.2.1 Z.1.length hlen
  refine kk p l e R s m args below meth c D A ad ca X H1 locs ls ⟨?_, ?_, ⟨Nat.le_trans Y.2.2.1.1 (by omega), fun x h1 h2 => (o1 x (by have := Y.2.2.1.1; omega)).trans (Y.2.2.1.2.1 x h1 h2), Y.2.2.1.2.2⟩, Y.2.2.2.1, fun _ => ⟨?_, ?_, ?_⟩⟩
  · show va_P D g_cl (g_w ad ca (Z.1 ++ [.inr (ci, fl)]) (g_nw sg Z.1.length)) H1
    rw [g_w_push]
    refine (Y.1.kept hk).app (fun k x hx => ?_)
    have hz : k < 1 := (List.getElem?_eq_some_iff.mp hx).1
    rw [show k = 0 by omega] at hx
    cases hx
    exact ⟨_, hc, (u_born ty hts (g_clw hc) hKn hkC e1 hty).to (g_dk_ok ad hfl)⟩
  · show va_D A (g_w ad ca (Z.1 ++ [.inr (ci, fl)]) (g_nw sg Z.1.length))
    rw [g_w_push]
    exact Y.2.1.push Y.1 hsz.symm hA
  · show s.heap.size + (Z.2.1 + 1) = ad (Z.1 ++ [(.inr (ci, fl) : gH)]).length
    rw [List.length_append, List.length_singleton, had]
    omega
  · show (Z.1 ++ [(.inr (ci, fl) : gH)]).length ≤ 900
    rw [List.length_append, List.length_singleton]
    omega
  · intro h
    cases (List.append_eq_nil_iff.mp h).2
theorem G_newarray {atype : ArrayType} {ty : FieldType} {i : Int} (hd : decode (g_b M) pc = .ok (.newarray atype, 2)) (hty : newarray.typeOf atype = ty) (hk : g_ark t n ty) (hw : Cond.arrayClass ty ∈ g_T) (hi : w32 i = (n : Int)) (hb : n * componentBytes ty ≤ 536870912) (ha : g_a M = true) (hlen : Z.1.length < 900) (hcells : Z.2.1 + 1 ≤ (g_m M).cells) (hslots : Z.2.2 + n ≤ (g_m M).slots) (hS : S' = Z.1 ++ [.inl (t, n)]) (hq : q = Z.1.length)
    (kk : G M Q (S', Z.2.1 + 1, Z.2.2 + n) (g_nw sg q) (pc + 2) lv (.ref q :: st)) : G M Q Z sg pc lv (gi i :: st) := by
  subst hS hq hty
  intro p l e R s m args below meth c D A ad ca X H locs ls Y T0 hT X1
  have hsz := g_sz X Y hT X1 ha
  have hR := X.2.2.2.2.2.2.2.1
  have hts := X.2.2.2.2.2.2.1
  obtain ⟨k1, k2, k3⟩ := hk
  have hA : A (ad Z.1.length) := X.2.2.2.2.2.2.2.2.2.1 _ (by rw [← hsz]; exact Y.2.2.1.1)
  obtain ⟨-, hra⟩ := X.2.2.2.2.2.2.2.2.1.2 t _ (k1 ca)
  suffices hw : W p l e R s m args below meth c H locs Z.2.1 Z.2.2 (gMQ below (g_Q D A ad ca (g_z M) (g_m M).cells Q) args s (g_m M).cells (g_m M).slots A) (F0 m pc ls ((gi i :: st).map (g_v ad))) from hw T0 hT X1
  refine va_newaK (h := ad Z.1.length) (N := n) (n := Int32.ofInt i) X.1 X.2.1 (hts _ hw) rfl hd rfl (w32_nn (by omega)) (by rw [w32_cl]; omega) hb (by rw [hR]; exact hcells) (by rw [hR]; exact hslots) hsz (fun H1 cA e1 z1 o1 hAr hNm => ?_)
  have hcA : cA = ca t := Option.some.inj (hNm.symm.trans (k2 s _ hra))
  subst hcA
  have hk : ∀ (k : Nat) (x : Nat × va_E), (g_w ad ca Z.1 sg)[k]? = some x → H1[x.1]? = H[x.1]? := fun k x hx => o1 x.1 (by rw [← hsz]; exact (Y.1 k x hx).lt)
  obtain ⟨y1, y2, y3⟩ := Y.2.2.2.2 ha
  have had := X.2.2.2.2.2.2.2.2.2.2.2.2.1 Z.1.length hlen
  refine kk p l e R s m args below meth c D A ad ca X H1 locs ls ⟨?_, ?_, ⟨Nat.le_trans Y.2.2.1.1 (by omega), fun x h1 h2 => (o1 x (by have := Y.2.2.1.1; omega)).trans (Y.2.2.1.2.1 x h1 h2), Y.2.2.1.2.2⟩, Y.2.2.2.1, fun _ => ⟨?_, ?_, ?_⟩⟩
  · show va_P D g_cl (g_w ad ca (Z.1 ++ [.inl (t, n)]) (g_nw sg Z.1.length)) H1
    rw [g_w_push]
    refine (Y.1.kept hk).app (fun k x hx => ?_)
    have hz : k < 1 := (List.getElem?_eq_some_iff.mp hx).1
    rw [show k = 0 by omega] at hx
    cases hx
    obtain ⟨ee, q1, q2⟩ := k3 ad ca
    show va_at D g_cl (ad Z.1.length, g_c ad ca (fun _ => 0) (.inl (t, n))) H1
    rw [q1]
    show H1[ad Z.1.length]? = some (vp_cell ee.1 ee.2)
    rw [q2]
    exact e1
  · show va_D A (g_w ad ca (Z.1 ++ [.inl (t, n)]) (g_nw sg Z.1.length))
    rw [g_w_push]
    exact Y.2.1.push Y.1 hsz.symm hA
  · show s.heap.size + (Z.2.1 + 1) = ad (Z.1 ++ [(.inl (t, n) : gH)]).length
    rw [List.length_append, List.length_singleton, had]
    omega
  · show (Z.1 ++ [(.inl (t, n) : gH)]).length ≤ 900
    rw [List.length_append, List.length_singleton]
    omega
  · intro h
    cases (List.append_eq_nil_iff.mp h).2
def g_oir (M : gM) (st : List Value) : Bool := decide (1 ≤ (g_m M).frames) && decide ((st.map fun v => v.category).sum + 12 ≤ (g_m M).locals)
theorem G_objInit (hd : decode (g_b M) pc = .ok (.invokespecial idx, 3)) (hl : Cond.methodLink (g_y M).cls idx Lib.objectInit ∈ g_T) (hi : Cond.instanceMethod Lib.objectInit ∈ g_T) (hc : Cond.code Lib.objectInit ⟨#[0xb1]⟩ 1 none ∈ g_T) (hr : g_oir M st = true) (kk : G M Q Z sg (pc + 3) lv st) : G M Q Z sg pc lv (.ref b :: st) := by
  intro p l e R s m args below meth c D A ad ca X H locs ls Y
  have hts := X.2.2.2.2.2.2.1
  simp only [g_oir, Bool.and_eq_true, decide_eq_true_eq] at hr
  have ee : ((st.map (g_v ad)).map fun v => v.category) = st.map fun v => v.category := by
    rw [List.map_map]
    exact List.map_congr_left fun v _ => g_v_cat ad v
  refine W.objInit (a := ad b) (rest := st.map (g_v ad)) X.1 X.2.1 X.2.2.2.2.1 (hts _ hl) (hts _ hi) (hts _ hc) rfl (Y.2.2.2.1.1.trans X.2.2.2.1.symm) rfl hd (by rw [X.2.2.2.2.2.2.2.1]; exact hr.1) ?_ (kk p l e R s m args below meth c D A ad ca X H locs ls Y)
  rw [X.2.2.2.2.2.2.2.1, ee]
  show 2 * 0 + _ + 12 ≤ _
  omega
/-- a constructor sets a final reference -/
theorem G_putF {r : Nat} {ty : FieldType} (hd : decode (g_b M) pc = .ok (.putfield idx, 3)) (hS : Z.1[q]? = some (.inr (ci, fl))) (hl : g_fp (g_y M).cls idx ci k true ty) (hi : (g_y M).name = "<init>") (hc : (g_cl[ci]?).map (fun x => (x.2.1 k).1) = some (g_y M).cls) (hn : ∀ a : Nat, narrow ty (.ref a) = .ref a) (hfit : ∀ a : Nat, fits ty (.ref a) = true) (hk : k < fl.length) (hlk : ∀ C T N, g_cl[ci]? = some (C, T, N) → Cond.fieldLink (g_y M).cls idx (T k).1 (T k).2.1 (T k).2.2.1 ∈ g_T) (hS' : S' = Z.1.set q (.inr (ci, fl.set k (some (some r)))))
    (kk : G M Q (S', Z.2.1, Z.2.2) sg (pc + 3) lv st) : G M Q Z sg pc lv (.ref r :: .ref q :: st) := by
  subst hS'
  exact G_putR hd hS hl hi hc hn hfit hk hlk kk
theorem H_cI {c1 c2 : Nat} {f : gS} (hc : Ct N S (.ref b :: as) sg (QC S' f)) (hd : decode (g_b M) pc = .ok (.invokespecial idx, 3)) (hlk : g_lk (g_y M).cls idx (g_y N)) (hm : g_mi N n) (hn : as.length = n) (hft : g_ft M N (S, c1, c2) = true) (hcr : g_cr st = true) (hal : g_a M = true ∧ g_z N = true) (hs : stk = as.reverse ++ .ref b :: st)
    (kk : G M Q (S', c1 + (g_m N).cells, c2 + (g_m N).slots) f (pc + 3) lv st) : G M Q (S, c1, c2) sg pc lv stk := by
  refine G_cI (Z := (S, c1, c2)) hc hd hlk hm hn hft hcr ⟨fun _ => hal.1, fun _ => Or.inl hal.2⟩ hs fun o S1 sg' hq => ?_
  obtain ⟨rfl, rfl, rfl⟩ := hq
  exact ⟨none, rfl, kk⟩
theorem G_ireturnX {z : Int} {ty : FieldType} (hd : decode (g_b M) pc = .ok (.ireturn, 1)) (hr : g_r M = some ty) (hn : narrow ty (gi z) = gi z) (h1 : Z.2.1 ≤ (g_m M).cells) (h2 : Z.2.2 ≤ (g_m M).slots) (hz : g_z M = false) (hq : Q (.inl (some (gi z))) Z.1 sg) : G M Q Z sg pc lv [gi z] := by
  intro p l e R s m args below meth c D A ad ca X H locs ls Y T hT X1
  refine g_post (fun t ht => gMQ_of ht) (W.zret (v := Int32.ofInt z) X.1 X.2.1 (X.2.2.1.trans hr) hn (fun t ht hW => ?_) Y.2.2.1.2.2 hd X.2.2.2.2.2.1) T hT (stand_widen X1 h1 h2)
  exact ⟨⟨.inl (some (gi z)), Z.1, sg, rfl, hq, by rw [ht]; exact Y.1, Y.2.1, fun ha => g_nz hz ha⟩, Y.2.2.1.F ht⟩
/-- a number of the script -/
def g_sx (r : Nat × (Nat → Int32)) (j : Nat) : Int := (r.2 j).toInt
theorem G_sld {r : Nat × (Nat → Int32)} {x a : Int} (hd : decode (g_b M) pc = .ok (.iaload, 1)) (hr : g_x M = some r) (ha : w32 x = a) (hx : 0 ≤ a ∧ a < ((r.1 : Nat) : Int)) (kk : G M Q Z sg (pc + 1) lv (gi (g_sx r a.toNat) :: st)) : G M Q Z sg pc lv (gi x :: .ref 4000 :: st) := by
  subst ha
  intro p l e R s m args below meth c D A ad ca X H locs ls Y
  obtain ⟨h1, h2, h3⟩ := X.2.2.2.2.2.2.2.2.2.2.2.2.2.1 r hr
  have hv : Value.int (r.2 (Int32.ofInt x).toNatClampNeg) = gi (g_sx r (w32 x).toNat) := by rw [w32_cl]; exact gi_eq (Int32.ofInt_toInt _).symm
  refine va_sld (i := Int32.ofInt x) X.1 X.2.1 h1 h2 h3 Y.2.2.1 (w32_in.mpr hx) hd ?_
  rw [hv]
  exact kk p l e R s m args below meth c D A ad ca X H locs ls Y
theorem G_slen {r : Nat × (Nat → Int32)} {z : Int} (hd : decode (g_b M) pc = .ok (.arraylength, 1)) (hr : g_x M = some r) (hz : Int32.ofNat r.1 = Int32.ofInt z) (kk : G M Q Z sg (pc + 1) lv (gi z :: st)) : G M Q Z sg pc lv (.ref 4000 :: st) := by
  intro p l e R s m args below meth c D A ad ca X H locs ls Y
  obtain ⟨h1, h2, h3⟩ := X.2.2.2.2.2.2.2.2.2.2.2.2.2.1 r hr
  refine va_slen X.1 X.2.1 h1 h2 h3 Y.2.2.1 hd ?_
  rw [gi_eq hz]
  exact kk p l e R s m args below meth c D A ad ca X H locs ls Y
end GMK
theorem q_c {S : List gH} {z z0 : Int} {s s0 : gS} (h : (some (z, s) : gA) = some (z0, s0)) : QC S s0 (.inl none) S s := by cases h; exact ⟨rfl, rfl, rfl⟩
end
section
/-! a method throws an exception of its own making -/
section GTH
variable {p : Program} {l : Launch} {e : Env} {R : Room} {s : State} {m : MethodId} {args : Array Value} {below : List Frame} {meth : Method} {c : Code} {T : State} {locs : List Loc} {cells slots : Nat}
/-- the walk seen from where it is now -/
theorem g_reroot (X : Stand p l e R s m args below meth c T locs cells slots) (h1 : cells ≤ R.cells) (h2 : slots ≤ R.slots) : Stand p l e { R with cells := R.cells - cells, slots := R.slots - slots } (T.setFrames s.frames) m args below meth c T [] 0 0 := by
  obtain ⟨g₀, hfr⟩ := X.frames_eq
  have hcur : T.cur < T.threads.size := State.cur_lt_of_frames hfr
  have hf : (T.setFrames s.frames).frames = s.frames := State.frames_setFrames _ hcur
  have hm : ∀ mm, (T.setFrames s.frames).vm.method? mm = s.vm.method? mm := fun mm => X.warmed.alike.method? mm
  have hmT : ∀ mm, T.vm.method? mm = s.vm.method? mm := X.warmed.alike.method?
  have hl : (T.setFrames s.frames).localsInUse = s.localsInUse := by
    rw [State.localsInUse_invoking (hf.trans X.frames) X.method' X.code, State.localsInUse_invoking X.frames X.method X.code]
  obtain ⟨t, ht, -⟩ := State.frames_cons (hf.trans X.frames)
  obtain ⟨t0, ht0, -⟩ := State.frames_cons hfr
  have hcur' : (T.setFrames s.frames).cur < (T.setFrames s.frames).threads.size := State.cur_lt_of_frames (hf.trans X.frames)
  refine ⟨X.admits, X.cas, X.clock, hf.trans X.frames, ?_, ?_, X.method', X.code, X.here, X.tail, State.WarmedH.refl _, ?_, ?_, ?_⟩
  · have hr := X.room
    have ha := X.heapSize
    have hb := X.used
    have hk : (T.setFrames s.frames).slotsTrue = true := X.book
    have hlim : e.platform.stackLimits (T.setFrames s.frames).me = e.platform.stackLimits s.me := by rw [State.stackLimits_setFrames]; exact X.limits
    have hby : (T.setFrames s.frames).me.stackBytes = s.me.stackBytes := by rw [State.stackBytes_setFrames]; exact X.bytes
    simp only [State.hasRoom, Bool.and_eq_true, decide_eq_true_eq] at hr ⊢
    rw [hl, hf, hlim, hby]
    refine ⟨⟨⟨⟨hr.1.1.1.1, hr.1.1.1.2⟩, ?_⟩, ?_⟩, hk⟩
    · show T.heap.size + (R.cells - cells) ≤ _
      have := hr.1.1.2
      omega
    · show T.slotsUsed + (R.slots - slots) ≤ _
      have := hr.1.2
      omega
  · have h := X.hears
    cases below with
    | nil => simpa [State.hears, hmT] using h
    | cons f r => cases f <;> first | exact h | simpa [State.hears, State.code?_eq, hmT] using h
  · rw [State.stackLimits_setFrames]
  · rw [State.stackBytes_setFrames]
  · have h := (State.sameButNew.refl (T.setFrames s.frames) ht).setFrames T.frames hcur'
    rw [State.setFrames_setFrames, State.setFrames_self ht0] at h
    exact h
end GTH
def g_exn (_ : Nat) : List String := ["java/lang/RuntimeException", "java/lang/Exception"]
def g_sr (w : Cond) : Bool := decide (w = .isRef (.static "java/lang/Throwable" "UNASSIGNED_STACK" "[Ljava/lang/StackTraceElement;")) || decide (w = .isRef (.static "java/lang/Throwable" "SUPPRESSED_SENTINEL" "Ljava/util/List;")) || decide (w = .laysStatic "java/lang/Throwable" "UNASSIGNED_STACK" "[Ljava/lang/StackTraceElement;") || decide (w = .laysStatic "java/lang/Throwable" "SUPPRESSED_SENTINEL" "Ljava/util/List;")
def g_exw (own : String) (idx ic k : Nat) : Prop := Cond.classLink own idx (g_ex k) ∈ g_T ∧ Cond.initialized (g_ex k) ∈ g_T ∧ Bundle.fit (g_ex k) = true ∧ (∀ n ∈ g_exn k, Bundle.fit n = true) ∧ ∀ w ∈ Bundle.ownAtoms0 own ic (g_ex k) (g_exn k), w ∈ g_T ∨ w ∈ g_N ∨ g_sr w = true
def g_exr (M : gM) (Z : gZ) (st : List Value) : Bool := decide (5 < (g_m M).frames) && decide ((st.map fun v => v.category).sum + 81 ≤ (g_m M).locals) && decide (Z.2.1 + 1 = (g_m M).cells) && decide (Z.2.2 + 6 = (g_m M).slots)
theorem g_isRef {C n d : String} {A : Nat → Prop} {s : State} {args : Array Value} (h : g_Zs C n d A s s.heap) : (Cond.isRef (.static C n d)).before args s = true := by
  obtain ⟨cf, kf, fi, f, a, cell, v, h0, h1, h2, h3, h4, h5, h6, h7, h8, h9, h10, -⟩ := h
  rcases h10 with rfl | ⟨t, rfl⟩ <;> simp [Cond.before, Cond.holds, Cond.value, Term.eval, State.fieldNamed?, h1, h2, h3, h4, h5, h9]
theorem g_laysS {C n d : String} {A : Nat → Prop} {s : State} {args : Array Value} (h : g_Zs C n d A s s.heap) : (Cond.laysStatic C n d).before args s = true := by
  obtain ⟨cf, kf, fi, f, a, cell, v, h0, h1, h2, h3, h4, h5, h6, h7, h8, h9, h10, -⟩ := h
  simp [Cond.before, Cond.holds, Cond.value, h0, h1, h2, h3, h4, h5, h6, h7, h8]
theorem g_N_tab {w : Cond} (h : w ∈ g_N) : w.onTables = true := by
  have hk := (List.mem_filter.mp h).2
  cases w <;> first | rfl | simp [g_isN] at hk
theorem g_cellEq {a b : Cell} (h : b = { a with slots := b.slots }) (hs : ∀ i : Nat, b.slots[i]? = a.slots[i]?) : b = a := by
  have e : b.slots = a.slots := Array.ext_getElem? hs
  rw [h, e]
section GTX
variable {M : gM} {Q : gO → List gH → gS → Prop} {Z : gZ} {sg : gS} {pc : Nat} {lv : List (Option Value)} {st : List Value} {idx ic : Nat}
theorem G_throw (k : Nat) (hd0 : decode (g_b M) pc = .ok (.new idx, 3)) (hd1 : decode (g_b M) (pc + 3) = .ok (.dup, 1)) (hd2 : decode (g_b M) (pc + 3 + 1) = .ok (.invokespecial ic, 3)) (hd3 : decode (g_b M) (pc + 3 + 1 + 3) = .ok (.athrow, 1)) (hx : g_exw (g_y M).cls idx ic k) (hn : (g_y M).cls ≠ "BandPressLaw") (hr : g_exr M Z st = true) (hz : g_z M = false) (hq : Q (.inr k) Z.1 sg) : G M Q Z sg pc lv st := by
  intro p l e R s m args below meth c D A ad ca X H locs ls Y T hT X1
  obtain ⟨hcl, hini, hfit, hfitn, hat⟩ := hx
  simp only [g_exr, Bool.and_eq_true, decide_eq_true_eq] at hr
  obtain ⟨⟨⟨hr1, hr2⟩, hr3⟩, hr4⟩ := hr
  have hR := X.2.2.2.2.2.2.2.1
  have hts := X.2.2.2.2.2.2.1
  have hexT : c.exceptionTable.toList = [] := by
    have h := X.2.2.2.2.2.2.2.2.2.2.2.2.2.2.2.2
    rw [g_hm, if_neg hn] at h
    exact List.map_eq_nil_iff.mp h
  have htr : e.platform.stackTraces = false := by
    have := X1.admits.platform
    rw [this]
    exact X.2.2.2.2.2.2.2.2.2.2.2.2.2.2.2.1
  have X2 := g_reroot X1 (by rw [hR]; omega) (by rw [hR]; omega)
  have hW0 : s.WarmedH (T.setFrames s.frames).vm := X1.warmed
  have hts' : ∀ w ∈ g_T, w.before args (T.setFrames s.frames) = true := fun w hw => word_at hW0 (good_of_word (g_T_good hw)) (hts w hw)
  have hown' : (T.setFrames s.frames).vm.findClass (g_y M).cls = some m.cls := by
    rw [hW0.alike.findClass]
    exact X.2.2.2.2.1
  have hK := g_K_call (U := T.setFrames s.frames) (B := fun q => A q) X.2.2.2.2.2.2.2.2.2.2.1 Y.2.2.1 hT hW0 (fun _ h => h)
  have hat' : ∀ w ∈ Bundle.ownAtoms0 (g_y M).cls ic (g_ex k) (g_exn k), w.before args (T.setFrames s.frames) = true := by
    intro w hw
    rcases hat w hw with h | h | h
    · exact hts' w h
    · exact va_Nw.use (g_N_tab h) (hK.2.2.2.2.2.1 w h)
    · simp only [g_sr, Bool.or_eq_true, decide_eq_true_eq] at h
      rcases h with ((rfl | rfl) | rfl) | rfl
      · exact g_isRef hK.2.2.2.2.2.2.1
      · exact g_isRef hK.2.2.2.2.2.2.2.1
      · exact g_laysS hK.2.2.2.2.2.2.1
      · exact g_laysS hK.2.2.2.2.2.2.2.1
  have inner : W p l e { R with cells := R.cells - Z.2.1, slots := R.slots - Z.2.2 } (T.setFrames s.frames) m args below meth c T.heap [] 0 0 (fun U => U.status = .running ∧ Ended U below (.threw T.heap.size) ∧ (T.setFrames s.frames).WarmedH U.vm ∧ (T.setFrames s.frames).sameButNew ({ U with vm := (T.setFrames s.frames).vm } : State) [] (0 + 1) (0 + 6) ∧ ∃ ce : Cell, U.heap[T.heap.size]? = some ce ∧ Bundle.OwnCell args (T.setFrames s.frames) (g_ex k) T.heap.size .null ce) (F0 m pc ls (st.map (g_v ad))) := by
    refine W.newc (C := g_ex k) (n := 6) X.1 X.2.1 hown' (hts' _ hcl) (hat' _ (by simp [Bundle.ownAtoms0])) (hts' _ hini) rfl hd0 (by show 0 + 1 ≤ R.cells - Z.2.1; rw [hR]; omega) (by show 0 + 6 ≤ R.slots - Z.2.2; rw [hR]; omega) (fun cC kC h1 h2 h3 h4 => ?_)
    refine lv_dup X.1 X.2.1 hd1 rfl ?_
    intro T2 hT2 X3
    have e2 : ((st.map (g_v ad)).map fun v => v.category) = st.map fun v => v.category := by
      rw [List.map_map]
      exact List.map_congr_left fun v _ => g_v_cat ad v
    obtain ⟨U, a1, a2, a3, a4, a5, ce, a6, a7⟩ := X3.ctorThrow0 (own := (g_y M).cls) (cls := g_ex k) (names := g_exn k) (ic := ic) (a := T.heap.size) (cX := cC) (kX := kC) (rest := st.map (g_v ad)) (g := F0 m (pc + 3 + 1) ls (.ref T.heap.size :: .ref T.heap.size :: st.map (g_v ad))) X.1 htr hown' hfit hfitn hat' (fun x hx => by cases hx) h1 h2
      (by rw [hT2, Array.getElem?_push_size]) (Nat.le_refl _) rfl (Y.2.2.2.1.1.trans X.2.2.2.1.symm) rfl rfl rfl (by rw [X.2.1]; exact hd2) (by rw [X.2.1]; exact hd3)
      (fun x hx => by rw [hexT] at hx; cases hx) (by show 2 + 3 < R.frames; rw [hR]; omega) (by
        show 2 * 0 + (1 + ((st.map (g_v ad)).map fun v => v.category).sum) + (13 * (2 + 1) + 41) ≤ R.locals
        rw [e2, hR]
        omega) X.2.2.2.2.2.1
    exact ⟨U, a1, a2, a3, a4, a5, ce, a6, a7⟩
  obtain ⟨U, b1, b2, b3, b4, b5, ce, b6, b7⟩ := inner T rfl X2
  have hsT : T.sameButNew ({ U with vm := T.vm } : State) [] 1 6 := by
    obtain ⟨e1, r⟩ := b5
    rw [State.setFrames_setFrames] at e1
    exact ⟨e1, r⟩
  have hheap : ∀ q : Nat, q < H.size → U.heap[q]? = H[q]? := by
    intro q hq2
    have hlt : q < T.heap.size := by rw [hT]; exact hq2
    obtain ⟨c', q1, q2, q3, q4⟩ := hsT.2.2.2.2.2 q _ (Array.getElem?_eq_getElem hlt)
    have e1 := g_cellEq q2 (fun i => q4 i (by simp))
    rw [← hT, Array.getElem?_eq_getElem hlt, ← e1]
    exact q1
  have hsz : H.size ≤ U.heap.size := by
    have := hsT.2.1
    rw [hT] at this
    exact this
  refine ⟨U, b1, .threw T.heap.size, b2, b3, ⟨⟨.inr k, Z.1, sg, ⟨T.heap.size, ce, rfl, b6, fun z hz2 => ?_, ?_⟩, hq, ?_, Y.2.1, fun ha => g_nz hz ha⟩, ?_, ?_⟩, locs, ?_, ?_, Y.2.2.1.2.2⟩
  · rw [b7.vm] at hz2
    cases hz2
  · rw [b4.alike.findClass]
    exact b7.cls
  · exact Y.1.kept fun k2 q hk2 => hheap q.1 (Y.1 k2 q hk2).lt
  · exact Nat.le_trans Y.2.2.1.1 hsz
  · intro q h1 h2
    rw [hheap q (Nat.lt_of_lt_of_le h1 Y.2.2.1.1)]
    exact Y.2.2.1.2.1 q h1 h2
  · exact State.WarmedH.trans X1.warmed b4
  · have h := X1.same.trans (hsT.setVm s.vm)
    rw [List.append_nil, hr3, hr4] at h
    exact h
end GTX
theorem g_exa {ws : List Cond} (h : (ws.all fun w => (decide (w ∈ lw_tbl) && (goodWord w || g_isN w)) || g_sr w) = true) : ∀ w ∈ ws, w ∈ g_T ∨ w ∈ g_N ∨ g_sr w = true := by
  intro w hw
  have h1 := List.all_eq_true.mp h w hw
  simp only [Bool.or_eq_true, Bool.and_eq_true, decide_eq_true_eq] at h1
  rcases h1 with ⟨h2, h3 | h3⟩ | h2
  · exact Or.inl (List.mem_filter.mpr ⟨h2, h3⟩)
  · exact Or.inr (Or.inl (List.mem_filter.mpr ⟨h2, h3⟩))
  · exact Or.inr (Or.inr h2)
end
section
/-! calls that are walked through, without a contract: the called method may throw -/
section GIN
variable {p : Program} {l : Launch} {e : Env} {R : Room} {s : State} {m : MethodId} {args : Array Value} {below : List Frame} {meth : Method} {c : Code} {D : va_G} {A : Nat → Prop} {ad ca : Nat → Nat} {M N : gM} {Z : gZ} {sg : gS} {pc : Nat} {lv lvN : List (Option Value)} {st as : List Value} {Q Q' : gO → List gH → gS → Prop} {H : Heap} {locs : List Loc} {ls : Array Slot} {T : State} {mk : MethodId} {methk : Method} {ck : Code} {ig : Instr}
theorem g_inl (X : g_X p l s m args meth c R D A ad ca M) (Y : g_Y s D A ad ca M Z sg lv H locs ls) (hT : T.heap = H) (X1 : Stand p l e R s m args below meth c T locs Z.2.1 Z.2.2)
    (hnm : T.methodNamed? (g_y N) = some mk) (hmk : T.vm.method? mk = some methk) (hck : methk.code = some ck) (hcb : ck.code = g_b N) (hcn : ck.maxLocals = g_n N) (hcr : methk.sig.returnType = g_r N) (hlk : methk.locks = false) (hex : ck.exceptionTable.toList.map (fun h => (h.startPc, h.endPc, h.handlerPc, h.catchType)) = g_hm (g_y N)) (hpl : plainFor (g_y N) = true)
    (hl : g_lp 0 lvN = lv_args 0 as) (hn : (lg_sl as).length ≤ g_n N) (hNa : g_a N = false) (hNx : g_x N = none) (hG : G N Q' (Z.1, 0, 0) sg 0 lvN []) (hft : g_ft M N Z = true) (hc8 : g_cr st = true) (hdg : decode (g_b M) pc = .ok (ig, 3)) :
    ∃ t : State, (∀ acts, Steps p.tables e below (doInvoke e (T.setTop (F0 m pc ls (st.map (g_v ad)))) acts mk (as.map (g_v ad)).toArray).1 t) ∧ gMQ (.java (F0 m pc ls (st.map (g_v ad))) :: below) (g_Q D (va_A (g_w ad ca Z.1 sg) H.size) ad ca (g_z N) (g_m N).cells Q') (as.map (g_v ad)).toArray (T.calling (F0 m pc ls (st.map (g_v ad))) mk (as.map (g_v ad)).toArray) (g_m N).cells (g_m N).slots (va_A (g_w ad ca Z.1 sg) H.size) t := by
  subst hT
  obtain ⟨hR1, hR2⟩ := g_bit (N := N) hft X.2.2.2.2.2.2.2.1
  have hts := X.2.2.2.2.2.2.1
  have h8 : 2 * (F0 m pc ls (st.map (g_v ad))).monitorRoom + ((F0 m pc ls (st.map (g_v ad))).stack.map fun v => v.category).sum ≤ 8 := g_cr_ok (m := m) (pc := pc) (ls := ls) (rest := st.map (g_v ad)) ad hc8
  obtain ⟨Y0, hin⟩ := X1.into (g := F0 m pc ls (st.map (g_v ad))) rfl (Y.2.2.2.1.1.trans X.2.2.2.1.symm) (by rw [X.2.1]; exact hdg) (as.map (g_v ad)).toArray (R' := g_m N) hmk hck hlk (State.plainMethod.of_named hpl hnm hmk) hR1.1 (by rw [hcn]; have := hR1.2; omega) hR2.1 hR2.2
  have hW0 : s.WarmedH (T.calling (F0 m pc ls (st.map (g_v ad))) mk (as.map (g_v ad)).toArray).vm := X1.warmed
  have X' : g_X p l (T.calling (F0 m pc ls (st.map (g_v ad))) mk (as.map (g_v ad)).toArray) mk (as.map (g_v ad)).toArray methk ck (g_m N) D (va_A (g_w ad ca Z.1 sg) T.heap.size) ad ca N :=
    ⟨X.1, hcb, hcr, hcn, findClass_of_methodNamed hnm, hlk, fun w hw => word_at hW0 (good_of_word (g_T_good hw)) (hts w hw), rfl, va_K.moved hW0.alike X.2.2.2.2.2.2.2.2.1, fun q hq => Or.inr hq, g_K_call X.2.2.2.2.2.2.2.2.2.2.1 Y.2.2.1 rfl hW0 (g_Asub X Y), (name_of_methodNamed hnm hmk).1, X.2.2.2.2.2.2.2.2.2.2.2.2.1, fun r hr => (by rw [hNx] at hr; cases hr), fun q cell hq hc => g_ns Y.1 q hq hc, X.2.2.2.2.2.2.2.2.2.2.2.2.2.2.2.1, hex⟩
  have hen := lv_entry (as.map (g_v ad)) (n := g_n N) (by rw [g_slen]; exact hn)
  have hent : entryFrame mk (as.map (g_v ad)).toArray ck.maxLocals = F0 mk 0 ((lg_sl (as.map (g_v ad)) ++ List.replicate (g_n N - (lg_sl (as.map (g_v ad))).length) Slot.unset).toArray) [] := by rw [hcn, lg_entry_eq]
  generalize (lg_sl (as.map (g_v ad)) ++ List.replicate (g_n N - (lg_sl (as.map (g_v ad))).length) Slot.unset).toArray = lsN at hen hent
  rw [g_args, ← hl] at hen
  obtain ⟨t, a1, a2⟩ := hG p l e (g_m N) _ mk _ (.java (F0 m pc ls (st.map (g_v ad))) :: below) methk ck D _ ad ca X' T.heap [] lsN ⟨Y.1, (show va_D (fun _ => True) (g_w ad ca Z.1 sg) from Y.2.1.weaken (fun _ _ _ _ => trivial)).self, va_S.rf, hen, fun ha => (by rw [hNa] at ha; cases ha)⟩ ((T.setTop (F0 m pc ls (st.map (g_v ad)))).pushFrame (.java (entryFrame mk (as.map (g_v ad)).toArray ck.maxLocals))) rfl Y0
  refine ⟨t, fun acts => ?_, a2⟩
  rw [hin acts]
  rw [hent] at a1 ⊢
  exact Steps.weaken (mid := [.java (F0 m pc ls (st.map (g_v ad)))]) a1
theorem G_iS {stk : List Value} {idx : Nat} {hh : List (Nat × Nat × Nat × Nat)} (hG : G N Q' (Z.1, 0, 0) sg 0 lvN []) (hl : g_lp 0 lvN = lv_args 0 as) (hn : (lg_sl as).length ≤ g_n N) (hNa : g_a N = false) (hNx : g_x N = none) (hhh : hh = g_hm (g_y N)) (hpl : plainFor (g_y N) = true) (hd : decode (g_b M) pc = .ok (.invokestatic idx, 3)) (hlk : Cond.methodLink (g_y M).cls idx (g_y N) ∈ g_T) (hst : Cond.static (g_y N) ∈ g_T) (hini : Cond.initialized (g_y N).cls ∈ g_T) (hcode : Cond.codeWith (g_y N) (g_b N) (g_n N) (g_r N) hh ∈ g_T) (hy : (g_y N).cls ≠ "java/lang/invoke/MethodHandle" ∧ (g_y N).cls ≠ "java/lang/invoke/VarHandle") (hln : (parseMethodDescriptor (g_y N).desc).map (fun d => d.parameters.length) = some as.length) (hft : g_ft M N Z = true) (hc8 : g_cr st = true) (hMa : g_a M = false) (hs : stk = as.reverse ++ st)
    (k : ∀ (o : gO) (S : List gH) (sg' : gS), Q' o S sg' → ∃ r : Option Value, o = .inl r ∧ G M Q (S, Z.2.1 + (g_m N).cells, Z.2.2 + (g_m N).slots) sg' (pc + 3) lv (r.toList ++ st)) : G M Q Z sg pc lv stk := by
  intro p l e R s m args below meth c D A ad ca X H locs ls Y
  subst hs
  have hst2 : (as.reverse ++ st).map (g_v ad) = (as.map (g_v ad)).reverse ++ st.map (g_v ad) := by simp
  have hts := X.2.2.2.2.2.2.1
  rw [hst2]
  refine g_back (Q' := Q') (al := g_z N) (mc := (g_m N).cells) (ms := (g_m N).slots) (a := (as.map (g_v ad)).toArray) X Y (fun ha => by rw [hMa] at ha; cases ha) ?_ k
  intro T hT X1
  obtain ⟨mk, methk, ck, hnm, hmk, hck, hcb, hcn, htab, hcr, hlk2, hsig⟩ := Cond.codeWith_spec (hts _ hcode)
  have hstatic : methk.isStatic = true := Cond.static_spec hnm hmk (hts _ hst)
  obtain ⟨kP, hkP, -⟩ := className_of_methodNamed hnm
  have hinitP := Cond.initialized_spec (findClass_of_methodNamed hnm) hkP (hts _ hini)
  have hlen : (as.map (g_v ad)).length = methk.sig.parameters.length := by
    rw [hsig] at hln
    rw [List.length_map]
    exact (Option.some.inj hln).symm
  obtain ⟨vm₁, X₁, hstep⟩ := X1.invokestatic X.1 X.2.2.2.2.1 (hts _ hlk) hnm hmk hstatic hkP hinitP hy (g := F0 m pc ls ((as.map (g_v ad)).reverse ++ st.map (g_v ad))) rfl (argsL := as.map (g_v ad)) (rest := st.map (g_v ad)) hlen rfl (by rw [X.2.1]; exact hd)
  have hmk' : (T.setVm vm₁).vm.method? mk = some methk := by
    rw [X₁.warmed.alike.method?]
    exact hmk
  obtain ⟨t, a1, a2⟩ := g_inl (T := T.setVm vm₁) (mk := mk) (methk := methk) (ck := ck) X Y hT X₁ (X₁.named hnm) hmk' hck hcb hcn hcr hlk2 (htab.trans hhh) hpl hl hn hNa hNx hG hft hc8 hd
  obtain ⟨o, b1, b2, b3, L, b4, b5, b6⟩ := a2
  obtain ⟨⟨o', S', sg', hE, hq, c1, c2, c3⟩, hF⟩ := id b3
  obtain ⟨r, rfl, -⟩ := k o' S' sg' hq
  have ho : o = .returned (r.map (g_v ad)) := hE
  subst ho
  obtain ⟨T', X', hW', hB', ht⟩ := X₁.outOf (g := F0 m pc ls (st.map (g_v ad))) rfl (by rw [X.2.1]; exact hd) b2 b4 b5
  refine ⟨r.map (g_v ad), _, t, T', L, hT, X', b6, by rw [ht]; rfl, by rw [ht]; rfl, b3, fun target h => ?_⟩
  refine hstep _ fun acts => (a1 acts).trans ?_
  rw [ht]
  exact h
end GIN
/-! the search for a handler, the catch type's place in the pool cold or warm (own rows: what the search gives, and the tables that it leaves) -/
def gFT (e : Env) (s : State) (f : JFrame) (a : Addr) (es : List ExceptionTableEntry) (h : Handler) (vm' : Vm) : Prop :=
  ∀ (q : Handler → Pre) (E : CtlPost) (d : Bool) (acts : List Action), wp (findHandler.go f a es) q E e d acts s ↔ q h d acts (s.setVm vm')
theorem gFT_yes {e : Env} {s : State} {f : JFrame} {a : Addr} {x : ExceptionTableEntry} {t : List ExceptionTableEntry} {c : ClassId} {cell : Cell} (hx : covers x f.pc = true) (h0 : x.catchType ≠ 0)
    (hl : s.vm.ClassLinks e.platform f.method.cls x.catchType c) (hcell : s.heap[a]? = some cell) (hobj : ∀ k, cell.vm ≠ .statics k)
    (hk : ∃ k, s.vm.classes[cell.cls]? = some k) (hc : ∃ k, s.vm.classes[c]? = some k) (hfit : s.vm.assignable cell.cls c = true) :
    gFT e s f a (x :: t) (.found x.handlerPc) (s.vm.noted f.method.cls x.catchType (.cls c)) := by
  intro q E d acts
  simp only [covers] at hx
  obtain ⟨ha, ht⟩ := (resolveClass_links e.toSetting hl).op (op := VmOp.resolveClass f.method.cls x.catchType) rfl
  have hal : s.vm.Alike (s.vm.noted f.method.cls x.catchType (.cls c)) := (Vm.Alike.refl s.vm).noted _ _ _
  obtain ⟨k1, hk1⟩ := hk
  obtain ⟨k2, hk2⟩ := hc
  obtain ⟨k1', hk1', -⟩ := hal.2.2 _ _ hk1
  obtain ⟨k2', hk2', -⟩ := hal.2.2 _ _ hk2
  have hf2 : (s.vm.noted f.method.cls x.catchType (.cls c)).assignable cell.cls c = true := by rw [hal.assignable]; exact hfit
  simp [findHandler.go, hx, h0, ha, ht, hcell, hobj, hk1', hk2', hf2, VmOp.dirties, VmOp.acts]
theorem gFT_no {e : Env} {s : State} {f : JFrame} {a : Addr} {x : ExceptionTableEntry} {t : List ExceptionTableEntry} {c : ClassId} {cell : Cell} {h : Handler} {vm' : Vm} (hx : covers x f.pc = true) (h0 : x.catchType ≠ 0)
    (hl : s.vm.ClassLinks e.platform f.method.cls x.catchType c) (hcell : s.heap[a]? = some cell) (hobj : ∀ k, cell.vm ≠ .statics k)
    (hk : ∃ k, s.vm.classes[cell.cls]? = some k) (hc : ∃ k, s.vm.classes[c]? = some k) (hfit : s.vm.assignable cell.cls c = false)
    (ht2 : gFT e (s.setVm (s.vm.noted f.method.cls x.catchType (.cls c))) f a t h vm') : gFT e s f a (x :: t) h vm' := by
  intro q E d acts
  simp only [covers] at hx
  obtain ⟨ha, ht⟩ := (resolveClass_links e.toSetting hl).op (op := VmOp.resolveClass f.method.cls x.catchType) rfl
  have hal : s.vm.Alike (s.vm.noted f.method.cls x.catchType (.cls c)) := (Vm.Alike.refl s.vm).noted _ _ _
  obtain ⟨k1, hk1⟩ := hk
  obtain ⟨k2, hk2⟩ := hc
  obtain ⟨k1', hk1', -⟩ := hal.2.2 _ _ hk1
  obtain ⟨k2', hk2', -⟩ := hal.2.2 _ _ hk2
  have hf2 : (s.vm.noted f.method.cls x.catchType (.cls c)).assignable cell.cls c = false := by rw [hal.assignable]; exact hfit
  have h3 := ht2 q E d acts
  rw [State.setVm_twice] at h3
  rw [← h3]
  simp [findHandler.go, hx, h0, ha, ht, hcell, hobj, hk1', hk2', hf2, VmOp.dirties, VmOp.acts]
theorem g_stepCatch {e : Env} {s : State} {a : Addr} {f : JFrame} {r : List Frame} {pc : Nat} {vm' : Vm} {meth : Method} {code : Code} (hm : s.vm.method? f.method = some meth) (hc : meth.code = some code) (hfind : gFT e s f a code.exceptionTable.toList (.found pc) vm') :
    (stepThrowing e s a (.java f :: r)).Is ((s.setVm vm').setFrames (.java { f with pc := pc, stack := [.ref a] } :: r)) [] := by
  have hf : ∀ (q : Handler → Pre) (E : CtlPost) (d : Bool) (acts : List Action), wp (findHandler f a) q E e d acts s ↔ q (.found pc) d acts (s.setVm vm') := fun q E d acts => (W.findHandler_eq hm hc).trans (hfind q E d acts)
  simp only [stepThrowing, searchFrame, vmDo]
  generalize hr : Sem.go _ e false [] s = res
  obtain ⟨as, rfl, ha⟩ := Sem.eq_ok_of hr (a := Handler.found pc) (s' := s.setVm vm') (acts' := []) (by simp [hf _ _ _ _])
  exact ⟨rfl, ha⟩
theorem g_caught {tb : Tables} {e : Env} {s target : State} {g : JFrame} {c : Code} {below : List Frame} {a : Addr} (h : At s g.method c below) {meth : Method} {code : Code} (hm : s.vm.method? g.method = some meth) (hc : meth.code = some code) {pc : Nat} {vm' : Vm}
    (hfind : gFT e ((s.setTop g).pushFrame (.throwing a)) g a code.exceptionTable.toList (.found pc) vm') (hrest : Steps tb e below ((s.setVm vm').setTop { g with pc := pc, stack := [.ref a] }) target) :
    Steps tb e below ((s.setTop g).pushFrame (.throwing a)) target := by
  obtain ⟨hgo, hw⟩ := h.throwing a
  refine Steps.head hgo hw ?_
  rw [stepThread_throwing (frames_entered h.top _), (g_stepCatch (s := (s.setTop g).pushFrame (.throwing a)) hm hc hfind).1]
  obtain ⟨g₀, hg⟩ := Option.isSome_iff_exists.mp h.top
  obtain ⟨r, hr⟩ := State.topJava?_eq_some.mp hg
  have hr' : (s.setVm vm').frames = .java g₀ :: r := hr
  have e1 : ∀ (u : State) (F K : List Frame), ((u.setFrames F).setVm vm').setFrames K = (u.setVm vm').setFrames K := by
    intro u F K
    rw [show (u.setFrames F).setVm vm' = (u.setVm vm').setFrames F from rfl, State.setFrames_setFrames]
  rw [State.setTop_of_frames _ hr'] at hrest
  rw [hr, List.tail_cons, State.pushFrame, e1, State.setTop_of_frames _ hr, e1]
  exact hrest
end
section
/-! a call whose exception the method itself catches -/
theorem g_setU {ls : Array Slot} {n i : Nat} {ad : Nat → Nat} {lv : List (Option Value)} {w : Value} (hn : g_nl lv i = true)
    (h : lv_has ls n ((i, w) :: (g_lq ad lv).filter (fun q => !(q.1 == i) && !(q.1 + 1 == i && q.2.category == 2)))) : lv_has ls n (g_lq ad (lv.set i none)) := by
  refine g_lw h fun q hq => ?_
  obtain ⟨u, h1, h2⟩ := g_lq_mem.mp hq
  have hi : q.1 ≠ i := by
    intro e
    rw [e] at h1
    have hlt : i < (lv.set i none).length := (List.getElem?_eq_some_iff.mp h1).1
    rw [List.getElem?_set_self (by simpa using hlt)] at h1
    simp at h1
  rw [List.getElem?_set_ne (fun e => hi e.symm)] at h1
  refine List.mem_cons.mpr (Or.inr (List.mem_filter.mpr ⟨g_lq_mem.mpr ⟨u, h1, h2⟩, ?_⟩))
  have hc : ¬ (q.1 + 1 = i ∧ q.2.category = 2) := by
    rintro ⟨e, hc⟩
    subst e
    have := g_nl_cat hn h1
    rw [h2, g_v_cat, this] at hc
    omega
  simp only [Bool.and_eq_true, Bool.not_eq_true', beq_eq_false_iff_ne, ne_eq, Bool.and_eq_false_iff]
  refine ⟨hi, ?_⟩
  by_cases e : q.1 + 1 = i
  · exact Or.inr fun z => hc ⟨e, z⟩
  · exact Or.inl e
/-- the search through the handlers hh, from pc, ends at h for an exception of kind k -/
def g_ct (own : String) (pc k h : Nat) : List (Nat × Nat × Nat × Nat) → Prop
  | [] => False
  | x :: r => (x.1 ≤ pc ∧ pc < x.2.1 ∧ x.2.2.2 ≠ 0) ∧ ((h = x.2.2.1 ∧ Cond.classLink own x.2.2.2 (g_ex k) ∈ g_T ∧ Cond.castable (g_ex k) (g_ex k) ∈ g_N) ∨ (Cond.classLink own x.2.2.2 "java/lang/IllegalStateException" ∈ g_T ∧ g_ex k = "java/lang/IllegalArgumentException" ∧ g_ct own pc k h r))
theorem g_search {e : Env} {s : State} {f : JFrame} {a : Addr} {args : Array Value} {own : String} {cell : Cell} {k h : Nat} (hown : s.vm.findClass own = some f.method.cls) (hts : ∀ w ∈ g_T, w.before args s = true) (hN : ∀ w ∈ g_N, va_Nw w s) (hna : g_na s) (hpl : e.platform.magicAccessors = ({} : Platform).magicAccessors)
    (hcls : s.vm.findClass (g_ex k) = some cell.cls) (hobj : ∀ z, cell.vm ≠ .statics z) : ∀ (es : List ExceptionTableEntry) (S : State), s.WarmedH S.vm → S.heap[a]? = some cell → g_ct own f.pc k h (es.map fun h => (h.startPc, h.endPc, h.handlerPc, h.catchType)) → ∃ vm' : Vm, s.WarmedH vm' ∧ gFT e S f a es (.found h) vm' := by
  intro es
  induction es with
  | nil => intro S _ _ hc; exact hc.elim
  | cons x r ih =>
    intro S hW hcell hc
    obtain ⟨⟨c1, c2, c3⟩, hc⟩ := hc
    have hx : covers x f.pc = true := by
      simp only [covers, Bool.and_eq_true, decide_eq_true_eq]
      exact ⟨c1, c2⟩
    have hal := hW.alike
    rcases hc with ⟨e1, e2, e3⟩ | ⟨e1, e2, e3⟩
    · obtain ⟨c', hc', hcl⟩ := Cond.classLink_spec hown (hts _ e2) e.platform hpl
      cases hcls.symm.trans hc'
      obtain ⟨dk, _, _, kt, hd, _, _, _, _, hkt, _, hopen⟩ := hcl.here
      obtain ⟨kt', hkt', -⟩ := hal.2.2 _ _ hkt
      obtain ⟨t1, t2, q1, q2, q3⟩ := Cond.castable_spec (args := #[]) (first := s) (o := none) (idx := []) (hN _ e3)
      cases hcls.symm.trans q1
      cases hcls.symm.trans q2
      subst e1
      exact ⟨_, hW.noted hd hopen (State.rightAt_cls hcl), gFT_yes hx c3 (hW.classLinks hcl) hcell hobj ⟨kt', hkt'⟩ ⟨kt', hkt'⟩ (by rw [hal.assignable]; exact q3)⟩
    · obtain ⟨c', hc', hcl⟩ := Cond.classLink_spec hown (hts _ e1) e.platform hpl
      obtain ⟨dk, _, _, kt, hd, _, _, _, _, hkt, _, hopen⟩ := hcl.here
      obtain ⟨kt', hkt', -⟩ := hal.2.2 _ _ hkt
      have hW2 : s.WarmedH (S.vm.noted f.method.cls x.catchType (.cls c')) := hW.noted hd hopen (State.rightAt_cls hcl)
      obtain ⟨vm', g1, g2⟩ := ih (S.setVm (S.vm.noted f.method.cls x.catchType (.cls c'))) hW2 hcell e3
      rw [e2] at hcls
      have hk1 : ∃ k1, S.vm.classes[cell.cls]? = some k1 := by
        obtain ⟨k1, hk1, -⟩ := Vm.findClass_spec hcls
        obtain ⟨k1', hk1', -⟩ := hal.2.2 _ _ hk1
        exact ⟨k1', hk1'⟩
      exact ⟨vm', g1, gFT_no hx c3 (hW.classLinks hcl) hcell hobj hk1 ⟨kt', hkt'⟩ (by rw [hal.assignable]; exact hna _ _ hcls hc') g2⟩
section GCX
variable {M N : gM} {Z : gZ} {sg : gS} {pc : Nat} {lv lvN : List (Option Value)} {st as stk : List Value} {Q Q' : gO → List gH → gS → Prop} {idx b ci n : Nat} {fl : List gF}
theorem G_iVX (hG : G N Q' (Z.1, 0, 0) sg 0 lvN []) (hl : g_lp 0 lvN = lv_args 0 (.ref b :: as)) (hn : (lg_sl (.ref b :: as)).length ≤ g_n N) (hNa : g_a N = false) (hNx : g_x N = none) (hNh : g_hm (g_y N) = []) (hpl : plainFor (g_y N) = true) (hd : decode (g_b M) pc = .ok (.invokevirtual idx, 3)) (hlk : Cond.methodLink (g_y M).cls idx (g_y N) ∈ g_T) (hm : g_mv N n) (hln : as.length = n) (hS : Z.1[b]? = some (.inr (ci, fl))) (hci : (g_cl[ci]?).map (fun q => q.1) = some (g_y N).cls) (hft : g_ft M N Z = true) (hc8 : g_cr st = true) (hMa : g_a M = false) (hs : stk = as.reverse ++ .ref b :: st)
    (kR : ∀ (r : Option Value) (S : List gH) (sg' : gS), Q' (.inl r) S sg' → G M Q (S, Z.2.1 + (g_m N).cells, Z.2.2 + (g_m N).slots) sg' (pc + 3) lv (r.toList ++ st))
    (kT : ∀ (k : Nat) (S : List gH) (sg' : gS), Q' (.inr k) S sg' → ∃ h : Nat, g_ct (g_y M).cls pc k h (g_hm (g_y M)) ∧ decode (g_b M) h = .ok (.astore_n 3, 1) ∧ 3 < g_n M ∧ g_nl lv 3 = true ∧ G M Q (S, Z.2.1 + (g_m N).cells, Z.2.2 + (g_m N).slots) sg' (h + 1) (lv.set 3 none) []) : G M Q Z sg pc lv stk := by
  intro p l e R s m args below meth c D A ad ca X H locs ls Y T hT X1
  subst hs
  have hst : (as.reverse ++ .ref b :: st).map (g_v ad) = (as.map (g_v ad)).reverse ++ .ref (ad b) :: st.map (g_v ad) := by simp [g_v]
  have hts := X.2.2.2.2.2.2.1
  have hKK := X.2.2.2.2.2.2.2.2.2.2.1
  obtain ⟨⟨hini, hcode, hd2⟩, hinst, hsel⟩ := hm
  have hcell : ∃ cellB : Cell, H[ad b]? = some cellB ∧ cellB.vm.isStatics = false ∧ s.vm.findClass (g_y N).cls = some cellB.cls := by
    obtain ⟨r, h1, cell, q1, q2, q3, q4⟩ := Y.1 b _ (g_w_get hS)
    obtain ⟨hSl, hfc, kC, hkC, hkind⟩ := X.2.2.2.2.2.2.2.2.1.1 ci _ h1
    rw [h1] at hci
    have e : r.1 = (g_y N).cls := by simpa using hci
    exact ⟨cell, q1, by rw [q3]; rfl, by rw [← e, q2]; exact hfc⟩
  obtain ⟨cellB, hcB, hoB, hclB⟩ := hcell
  obtain ⟨mk, methM, hnamed, hmethM, hstM, habM⟩ := Cond.instanceMethod_spec (hts _ hinst)
  obtain ⟨methM', ck, hmethM', hck, hcb, hcn, hcr, hlk2, hempty, hsigM⟩ := Cond.code_spec hnamed (hts _ hcode)
  cases hmethM.symm.trans hmethM'
  obtain ⟨c2, r2, m2, q1, q2, q3, q4, kP, hkP, hkPi⟩ := Cond.selects_spec (hts _ hsel)
  cases hclB.symm.trans q1
  cases (State.methodFound?_of_named hnamed ⟨hd2.1, hd2.2.1⟩).symm.trans q2
  cases hnamed.symm.trans q3
  have hselP : selectMethod e.platform s.vm cellB.cls mk = .method mk := by rw [Launch.admits_selectMethod X1.admits]; exact q4
  have hlen : (as.map (g_v ad)).length = methM.sig.parameters.length := by
    have h := hd2.2.2
    rw [hsigM] at h
    rw [List.length_map, hln]
    exact (Option.some.inj h).symm
  obtain ⟨vm₁, X₁, hstep⟩ := X1.invokevirtual X.1 X.2.2.2.2.1 (hts _ hlk) hnamed hmethM hstM hkP hkPi ⟨hd2.1, hd2.2.1⟩ (a := ad b) (cell := cellB) (by rw [hT]; exact hcB) (fun z h => by rw [h] at hoB; cases hoB) hselP hmethM habM hkP hkPi (g := F0 m pc ls ((as.map (g_v ad)).reverse ++ .ref (ad b) :: st.map (g_v ad))) rfl (argsL := as.map (g_v ad)) (rest := st.map (g_v ad)) hlen rfl (by rw [X.2.1]; exact hd)
  have hmk' : (T.setVm vm₁).vm.method? mk = some methM := by
    rw [X₁.warmed.alike.method?]
    exact hmethM
  obtain ⟨t, a1, a2⟩ := g_inl (as := .ref b :: as) (T := T.setVm vm₁) (mk := mk) (methk := methM) (ck := ck) X Y hT X₁ (X₁.named hnamed) hmk' hck hcb hcn hcr hlk2 (by rw [hNh, Array.isEmpty_iff.mp hempty]; rfl) hpl hl hn hNa hNx hG hft hc8 hd
  obtain ⟨o, b1, b2, ⟨⟨o', S', sg', hE, hq, w1, w2, w3⟩, hz1, hk1⟩, L, b4, b5, b6⟩ := a2
  have hsub := g_Asub X Y
  have hz1' : H.size ≤ t.heap.size := by rw [← hT]; exact hz1
  have hk1' : ∀ q : Nat, q < H.size → ¬ va_A (g_w ad ca Z.1 sg) H.size q → t.heap[q]? = H[q]? := by
    intro q h1 h2
    have := hk1 q (show q < T.heap.size by rw [hT]; exact h1) h2
    rw [this, ← hT]
    rfl
  have hS1 : va_S A s.heap t.heap (locs ++ L) := ⟨Nat.le_trans Y.2.2.1.1 hz1', fun q h1 h2 => by
      rw [hk1' q (Nat.lt_of_lt_of_le h1 Y.2.2.1.1) (fun z => h2 (hsub q z))]
      exact Y.2.2.1.2.1 q h1 h2, fun q hq => by
      rcases List.mem_append.mp hq with h | h
      · exact Y.2.2.1.2.2 q h
      · exact hsub _ (b6 q h)⟩
  rw [hst]
  cases o' with
  | inl r =>
    have ho : o = .returned (r.map (g_v ad)) := hE
    subst ho
    obtain ⟨T', X', hW', hB', ht⟩ := X₁.outOf (g := F0 m pc ls (st.map (g_v ad))) rfl (by rw [X.2.1]; exact hd) b2 b4 b5
    have e1 : T'.heap = t.heap := by rw [ht]; rfl
    have hst3 : (r.map (g_v ad)).toList ++ st.map (g_v ad) = (r.toList ++ st).map (g_v ad) := by cases r <;> simp
    obtain ⟨t2, d1, d2⟩ := kR r S' sg' hq p l e R s m args below meth c D A ad ca X T'.heap (locs ++ L) ls ⟨by rw [e1]; exact w1, w2.weaken (fun _ _ _ h => hsub _ h), by rw [e1]; exact hS1, Y.2.2.2.1, fun ha => (by rw [hMa] at ha; cases ha)⟩ T' rfl X'
    refine ⟨t2, hstep _ fun acts => (a1 acts).trans ?_, d2⟩
    rw [ht]
    rw [← hst3] at d1
    exact d1
  | inr k =>
    obtain ⟨x, ce, rfl, f1, f2, f3⟩ := hE
    obtain ⟨T', X', hW', hB', ht⟩ := X₁.outOfThrown (g := F0 m pc ls (st.map (g_v ad))) rfl b2 b4 b5
    have e1 : T'.heap = t.heap := by rw [ht]; exact (Stand.throwing_heap T' _ x).symm
    have e2 : T'.vm = t.vm := by rw [ht]; exact (Stand.throwing_vm T' _ x).symm
    obtain ⟨h, hct, hdec, h3, hnl, kG⟩ := kT k S' sg' hq
    have hplat : e.platform.magicAccessors = ({} : Platform).magicAccessors := by rw [X1.admits.platform]
    have hcls : s.vm.findClass (g_ex k) = some ce.cls := by
      rw [← f3, ← e2, X'.warmed.alike.findClass]
    have htab := X.2.2.2.2.2.2.2.2.2.2.2.2.2.2.2.2
    obtain ⟨vm', hWv, hfind⟩ := g_search (e := e) (f := F0 m pc ls (st.map (g_v ad))) (a := x) (cell := ce) (own := (g_y M).cls) (k := k) (h := h) X.2.2.2.2.1 hts hKK.2.2.2.2.2.1 hKK.2.2.2.2.2.2.2.2 hplat hcls f2 c.exceptionTable.toList ((T'.setTop (F0 m pc ls (st.map (g_v ad)))).pushFrame (.throwing x)) (by rw [Stand.throwing_vm]; exact X'.warmed) (by rw [Stand.throwing_heap, e1]; exact f1) (by rw [htab]; exact hct)
    have X'' := X'.noted hWv
    have hw : W p l e R s m args below meth c t.heap (locs ++ L) (Z.2.1 + (g_m N).cells) (Z.2.2 + (g_m N).slots) (gMQ below (g_Q D A ad ca (g_z M) (g_m M).cells Q) args s (g_m M).cells (g_m M).slots A) (F0 m h ls [.ref x]) := by
      refine lv_astore_n (k := 3) (i := 3) (x := x) X.1 X.2.1 hdec rfl Y.2.2.2.1 h3 rfl fun ls' hls => ?_
      exact kG p l e R s m args below meth c D A ad ca X t.heap (locs ++ L) ls' ⟨w1, w2.weaken (fun _ _ _ h => hsub _ h), hS1, g_setU hnl hls, fun ha => (by rw [hMa] at ha; cases ha)⟩
    obtain ⟨t2, d1, d2⟩ := hw (T'.setVm vm') e1 X''
    refine ⟨t2, hstep _ fun acts => (a1 acts).trans ?_, d2⟩
    rw [ht]
    exact g_caught (g := F0 m pc ls (st.map (g_v ad))) X'.here X'.method' X'.code hfind d1
end GCX
end
section
/-! what the Statement gives at the law's entry -/
def g_tm (i : Nat) : Term := match i with
  | 0 => .string "BandPress$Text" 65
  | 1 => .string "BandPress$Text" 67
  | 2 => .string "BandPress$Text" 69
  | _ => .string "BandPress$Text" 59
abbrev g_fl0 : List Cond := flatC (Jvm.Cond.and given_1 narrow_1)
set_option maxHeartbeats 4000000 in
set_option maxRecDepth 100000 in
theorem g_f1 : ∀ i, i < 4 → Cond.exactly (g_tm i) "java/lang/String" ∈ g_fl0 ∧ Cond.eq (.field (g_tm i) "java/lang/String" "coder" "B") (.int 0) ∈ g_fl0 ∧ Cond.arrayOf (.field (g_tm i) "java/lang/String" "value" "[B") .byte ∈ g_fl0 ∧ Cond.eq (.length (.field (g_tm i) "java/lang/String" "value" "[B")) (.int (Int32.ofNat (g_len.getD i 0))) ∈ g_fl0 := by decide +kernel
set_option maxHeartbeats 4000000 in
set_option maxRecDepth 100000 in
theorem g_f2 : ∀ i, i < 4 → ∀ j, j < g_len.getD i 0 → Cond.eq (.elem (.field (g_tm i) "java/lang/String" "value" "[B") (.int (Int32.ofNat j))) (.int ((g_byt.getD i []).getD j 0)) ∈ g_fl0 := by decide +kernel
set_option maxHeartbeats 4000000 in
set_option maxRecDepth 100000 in
theorem g_f3 : ∀ i, i < 4 → ∀ j, j < 4 → i ≠ j → Cond.not (Cond.eq (g_tm i) (g_tm j)) ∈ g_fl0 ∨ Cond.not (Cond.eq (g_tm j) (g_tm i)) ∈ g_fl0 := by decide +kernel
set_option maxHeartbeats 4000000 in
set_option maxRecDepth 100000 in
theorem g_f4 : ∀ r ∈ g_ldc, r.2.2.2 < 4 ∧ (Term.string r.1 r.2.1 = g_tm r.2.2.2 ∨ Cond.eq (g_tm r.2.2.2) (.string r.1 r.2.1) ∈ g_fl0) ∧ Cond.stringRef r.1 r.2.1 r.2.2.1 ∈ lw_tbl := by decide +kernel
set_option maxHeartbeats 4000000 in
set_option maxRecDepth 100000 in
theorem g_f5 : Cond.arrayOf (.static "BandPress" "CELL" "[I") .int ∈ g_fl0 ∧ Cond.eq (.length (.static "BandPress" "CELL" "[I")) (.int (Int32.ofNat 16)) ∈ g_fl0 ∧ (∀ j, j < 16 → Cond.eq (.elem (.static "BandPress" "CELL" "[I") (.int (Int32.ofNat j))) (.int (g_cell.getD j 0)) ∈ g_fl0) ∧ Cond.eq (.static "java/lang/String" "COMPACT_STRINGS" "Z") (.int 1) ∈ g_fl0 ∧ Cond.isRef (.static "java/lang/Throwable" "UNASSIGNED_STACK" "[Ljava/lang/StackTraceElement;") ∈ g_fl0 ∧ Cond.isRef (.static "java/lang/Throwable" "SUPPRESSED_SENTINEL" "Ljava/util/List;") ∈ g_fl0 ∧ Cond.not (Cond.castable "java/lang/IllegalArgumentException" "java/lang/IllegalStateException") ∈ g_fl0 := by decide +kernel
set_option maxHeartbeats 4000000 in
set_option maxRecDepth 100000 in
theorem g_f6 : Cond.laysStatic "BandPress" "CELL" "[I" ∈ lw_tbl ∧ Cond.initialized "BandPress" ∈ lw_tbl ∧ Cond.laysStatic "java/lang/String" "COMPACT_STRINGS" "Z" ∈ lw_tbl ∧ Cond.initialized "java/lang/String" ∈ lw_tbl ∧ Cond.laysStatic "java/lang/Throwable" "UNASSIGNED_STACK" "[Ljava/lang/StackTraceElement;" ∈ lw_tbl ∧ Cond.laysStatic "java/lang/Throwable" "SUPPRESSED_SENTINEL" "Ljava/util/List;" ∈ lw_tbl ∧ Cond.arrayClass .int ∈ lw_tbl ∧ Cond.arrayClass .boolean ∈ lw_tbl ∧ Cond.arrayClass .byte ∈ lw_tbl ∧ Cond.arrayClass .long ∈ lw_tbl := by decide +kernel
set_option maxHeartbeats 4000000 in
set_option maxRecDepth 100000 in
theorem g_f7 : ∀ q ∈ g_cl, Cond.instantiable q.1 q.2.2 ∈ lw_tbl := by decide +kernel
theorem g_arrAt {args : Array Value} {s : State} {ty : FieldType} (h : (Cond.arrayClass ty).before args s = true) : ∃ cA : ClassId, ArrOfT s cA ty ∧ s.vm.findClass ("[" ++ ty.toString) = some cA := by
  obtain ⟨cA, k, comp, h1, h2, h3⟩ := Cond.arrayClass_spec h
  exact ⟨cA, fun n z => ⟨fun k h => (by cases h), k, h2, comp, h3⟩, h1⟩
theorem g_stEq {args : Array Value} {s : State} {t u : Term} {a : Addr} (h : (Cond.eq t u).before args s = true) (ht : t.eval args s none [] s = some (.ref a)) : u.eval args s none [] s = some (.ref a) := by
  cases hu : u.eval args s none [] s with
  | none => simp [Cond.before, Cond.holds, Cond.value, ht, hu] at h
  | some w =>
    simp only [Cond.before, Cond.holds, Cond.value, ht, hu] at h
    cases w <;> simp_all
theorem g_entry {s : State} {b : Nat} (hts : ∀ w ∈ lw_tbl, w.before #[Value.ref b] s = true) (hgv : (Jvm.Cond.and given_1 narrow_1).before #[Value.ref b] s = true) {A : Nat → Prop} (hA : ∀ a : Nat, a < s.heap.size → ¬ A a) :
    ∃ (D : va_G) (ad ca : Nat → Nat), va_K D g_cl (g_ty ca) s ∧ g_K s A ad ∧ (∀ q : Nat, q < 900 → ad (q + 1) = ad q + 1) ∧ ad 0 = s.heap.size ∧ ad 4000 = b := by
  have hs := flat_of_before _ hgv
  have hT : ∀ w ∈ g_T, w.before #[Value.ref b] s = true := fun w hw => hts w (List.mem_filter.mp hw).1
  obtain ⟨adK, adV, hS, hev⟩ := vk_Sof (args := #[Value.ref b]) (s := s) (N := g_nS) (tm := g_tm) (len := g_len) (byt := g_byt) (A := A) (by decide) (fun i hi => hs _ (g_f1 i hi).1) (fun i hi => hs _ (g_f1 i hi).2.1) (fun i hi => hs _ (g_f1 i hi).2.2.1) (fun i hi => hs _ (g_f1 i hi).2.2.2) (fun i hi j hj => hs _ (g_f2 i hi j hj)) (fun i j hi hj hne => (g_f3 i hi j hj hne).imp (fun h => hs _ h) (fun h => hs _ h)) hA
  obtain ⟨tC, htC, hTC⟩ := va_Tof (args := #[Value.ref b]) (s := s) (tm := .static "BandPress" "CELL" "[I") (ty := .int) (N := 16) (f := fun j => .int (g_cell.getD j 0)) (A := A) (by decide) (hs _ g_f5.1) (va_eqt (hs _ g_f5.2.1)) (fun j hj => va_eqt (hs _ (g_f5.2.2.1 j hj))) hA
  have hD : ∀ c : Nat, ∃ x : ClassId × (Nat → Nat), ∀ q : vw_C, g_cl[c]? = some q → u_Kn s q.1 q.2.1 q.2.2 x.1 x.2 := by
    intro c
    cases hc : g_cl[c]? with
    | none => exact ⟨(0, fun _ => 0), fun q h => by cases h⟩
    | some q =>
      obtain ⟨C, T, N⟩ := q
      obtain ⟨cC, iS, h⟩ := u_known (T := T) (N := N) hT (g_clw hc) (hts _ (g_f7 _ (List.mem_of_getElem? hc)))
      exact ⟨(cC, iS), fun q h2 => by cases h2; exact h⟩
  obtain ⟨DD, hDD⟩ := Classical.axiomOfChoice hD
  obtain ⟨c0, k0, n0⟩ := g_arrAt (hts _ g_f6.2.2.2.2.2.2.1)
  obtain ⟨c1, k1, n1⟩ := g_arrAt (hts _ g_f6.2.2.2.2.2.2.2.1)
  obtain ⟨c2, k2, n2⟩ := g_arrAt (hts _ g_f6.2.2.2.2.2.2.2.2.1)
  obtain ⟨c3, k3, n3⟩ := g_arrAt (hts _ g_f6.2.2.2.2.2.2.2.2.2)
  refine ⟨(fun c => (DD c).1, fun c => (DD c).2), fun q => if q < 1000 then s.heap.size + q else if q < 2000 then adK (q - 1000) else if q < 3000 then adV (q - 2000) else if q = 3000 then tC else b, fun t => if t = 0 then c0 else if t = 1 then c1 else if t = 2 then c2 else c3, ⟨fun c q hq => hDD c q hq, ?_⟩, ⟨?_, ?_, ?_, ?_, ?_, ?_, ?_, ?_, ?_⟩, ?_, ?_, ?_⟩
  · intro k q hk
    have hk4 : k < 4 := (List.getElem?_eq_some_iff.mp hk).1
    rcases (show k = 0 ∨ k = 1 ∨ k = 2 ∨ k = 3 by omega) with rfl | rfl | rfl | rfl
    · cases hk; exact ⟨k0, n0⟩
    · cases hk; exact ⟨k1, n1⟩
    · cases hk; exact ⟨k2, n2⟩
    · cases hk; exact ⟨k3, n3⟩
  · refine ⟨fun i hi => ?_, fun i j hi hj e => ?_⟩
    · have hi4 : i < 4 := hi
      have h := hS.1 i hi
      simp only [show ¬ (1000 + i < 1000) by omega, show 1000 + i < 2000 by omega, show ¬ (2000 + i < 1000) by omega, show ¬ (2000 + i < 2000) by omega, show 2000 + i < 3000 by omega, if_true, if_false, show 1000 + i - 1000 = i by omega, show 2000 + i - 2000 = i by omega]
      exact h
    · have hi4 : i < 4 := hi
      have hj4 : j < 4 := hj
      simp only [show ¬ (1000 + i < 1000) by omega, show 1000 + i < 2000 by omega, show ¬ (1000 + j < 1000) by omega, show 1000 + j < 2000 by omega, if_true, if_false, show 1000 + i - 1000 = i by omega, show 1000 + j - 1000 = j by omega] at e
      exact hS.2 i j hi hj e
  · intro r hr
    obtain ⟨h1, h2, h3⟩ := g_f4 r hr
    simp only [show ¬ (1000 + r.2.2.2 < 1000) by omega, show 1000 + r.2.2.2 < 2000 by omega, if_true, if_false, show 1000 + r.2.2.2 - 1000 = r.2.2.2 by omega]
    refine vk_R.of (A := #[Value.ref b]) (hts _ h3) ?_
    rcases h2 with h2 | h2
    · rw [h2]; exact hev _ h1
    · exact g_stEq (hs _ h2) (hev _ h1)
  · exact va_Zof (hts _ g_f6.1) (hts _ g_f6.2.1) htC hA
  · exact hTC
  · exact va_Zof (hts _ g_f6.2.2.1) (hts _ g_f6.2.2.2.1) (va_eqt (hs _ g_f5.2.2.2.1)) hA
  · intro w hw
    exact va_Nw.of (g_N_tab hw) (hts w (List.mem_filter.mp hw).1)
  · exact g_Zs.of (hts _ g_f6.2.2.2.2.1) (hs _ g_f5.2.2.2.2.1) hA
  · exact g_Zs.of (hts _ g_f6.2.2.2.2.2.1) (hs _ g_f5.2.2.2.2.2.1) hA
  · intro c1 c2 h1 h2
    have h := hs _ g_f5.2.2.2.2.2.2
    cases hq : s.vm.assignable c1 c2 with
    | false => rfl
    | true => simp [Cond.before, Cond.holds, Cond.value, h1, h2, hq] at h
  · intro q hq
    simp only [show q + 1 < 1000 by omega, show q < 1000 by omega, if_true]
    omega
  · simp
  · simp
end
