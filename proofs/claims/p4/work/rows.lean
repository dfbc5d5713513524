section
-- ===== PART A: goes FIRST, ahead of the names: the tables' words, and 'selects' of the private methods out of them =====
/-- a private method of a class that the tables say can be made, by its rows of tables_1 -/
def lw_okq (q : MethodName × Nat) : Prop := (q.1.cls ≠ "java/lang/invoke/MethodHandle" ∧ q.1.cls ≠ "java/lang/invoke/VarHandle") ∧ Cond.instantiable q.1.cls q.2 ∈ tables_1 ∧ Cond.privateMethod q.1 ∈ tables_1 ∧ Cond.instanceMethod q.1 ∈ tables_1
theorem lw_p0 : lw_okq (⟨"PressSheets$State", "pagesMove", "()V"⟩, 7) := ⟨⟨by decide +kernel, by decide +kernel⟩, List.mem_of_getElem? (i := 23) (by decide +kernel), List.mem_of_getElem? (i := 341) (by decide +kernel), List.mem_of_getElem? (i := 342) (by decide +kernel)⟩
theorem lw_p1 : lw_okq (⟨"PressSheets$Leaf", "turnOver", "(ZZ)V"⟩, 5) := ⟨⟨by decide +kernel, by decide +kernel⟩, List.mem_of_getElem? (i := 35) (by decide +kernel), List.mem_of_getElem? (i := 417) (by decide +kernel), List.mem_of_getElem? (i := 418) (by decide +kernel)⟩
theorem lw_p2 : lw_okq (⟨"PressSheets$Plan", "tellForme", "(LPressSheets$Job;II)V"⟩, 4) := ⟨⟨by decide +kernel, by decide +kernel⟩, List.mem_of_getElem? (i := 196) (by decide +kernel), List.mem_of_getElem? (i := 641) (by decide +kernel), List.mem_of_getElem? (i := 642) (by decide +kernel)⟩
theorem lw_p3 : lw_okq (⟨"PressSheets$Plan", "isFaulty", "(LPressSheets$Job;I)Z"⟩, 4) := ⟨⟨by decide +kernel, by decide +kernel⟩, List.mem_of_getElem? (i := 196) (by decide +kernel), List.mem_of_getElem? (i := 657) (by decide +kernel), List.mem_of_getElem? (i := 658) (by decide +kernel)⟩
theorem lw_p4 : lw_okq (⟨"PressSheets$Plan", "faulty", "(IIII)Z"⟩, 4) := ⟨⟨by decide +kernel, by decide +kernel⟩, List.mem_of_getElem? (i := 196) (by decide +kernel), List.mem_of_getElem? (i := 661) (by decide +kernel), List.mem_of_getElem? (i := 662) (by decide +kernel)⟩
theorem lw_p5 : lw_okq (⟨"PressSheets$Text", "isClause", "()Z"⟩, 5) := ⟨⟨by decide +kernel, by decide +kernel⟩, List.mem_of_getElem? (i := 254) (by decide +kernel), List.mem_of_getElem? (i := 714) (by decide +kernel), List.mem_of_getElem? (i := 715) (by decide +kernel)⟩
theorem lw_p6 : lw_okq (⟨"PressSheets$Text", "isNext", "(I)Z"⟩, 5) := ⟨⟨by decide +kernel, by decide +kernel⟩, List.mem_of_getElem? (i := 254) (by decide +kernel), List.mem_of_getElem? (i := 719) (by decide +kernel), List.mem_of_getElem? (i := 720) (by decide +kernel)⟩
theorem lw_p7 : lw_okq (⟨"PressSheets$Text", "number", "(III)I"⟩, 5) := ⟨⟨by decide +kernel, by decide +kernel⟩, List.mem_of_getElem? (i := 254) (by decide +kernel), List.mem_of_getElem? (i := 723) (by decide +kernel), List.mem_of_getElem? (i := 724) (by decide +kernel)⟩
theorem lw_p8 : lw_okq (⟨"PressSheets", "tapeAt", "(I)LPressSheets$Tape;"⟩, 6) := ⟨⟨by decide +kernel, by decide +kernel⟩, List.mem_of_getElem? (i := 15) (by decide +kernel), List.mem_of_getElem? (i := 739) (by decide +kernel), List.mem_of_getElem? (i := 740) (by decide +kernel)⟩
theorem lw_p9 : lw_okq (⟨"PressSheets$Tape", "cut", "(J)J"⟩, 3) := ⟨⟨by decide +kernel, by decide +kernel⟩, List.mem_of_getElem? (i := 283) (by decide +kernel), List.mem_of_getElem? (i := 803) (by decide +kernel), List.mem_of_getElem? (i := 804) (by decide +kernel)⟩
theorem lw_p10 : lw_okq (⟨"PressSheetsModel", "empties", "()V"⟩, 42) := ⟨⟨by decide +kernel, by decide +kernel⟩, List.mem_of_getElem? (i := 822) (by decide +kernel), List.mem_of_getElem? (i := 964) (by decide +kernel), List.mem_of_getElem? (i := 965) (by decide +kernel)⟩
theorem lw_p11 : lw_okq (⟨"PressSheetsModel", "held", "(I)I"⟩, 42) := ⟨⟨by decide +kernel, by decide +kernel⟩, List.mem_of_getElem? (i := 822) (by decide +kernel), List.mem_of_getElem? (i := 977) (by decide +kernel), List.mem_of_getElem? (i := 978) (by decide +kernel)⟩
theorem lw_p12 : lw_okq (⟨"PressSheetsModel", "lays", "(II)V"⟩, 42) := ⟨⟨by decide +kernel, by decide +kernel⟩, List.mem_of_getElem? (i := 822) (by decide +kernel), List.mem_of_getElem? (i := 981) (by decide +kernel), List.mem_of_getElem? (i := 982) (by decide +kernel)⟩
theorem lw_p13 : lw_okq (⟨"PressSheetsModel", "w", "()I"⟩, 42) := ⟨⟨by decide +kernel, by decide +kernel⟩, List.mem_of_getElem? (i := 822) (by decide +kernel), List.mem_of_getElem? (i := 989) (by decide +kernel), List.mem_of_getElem? (i := 990) (by decide +kernel)⟩
theorem lw_p14 : lw_okq (⟨"PressSheetsModel", "h", "()I"⟩, 42) := ⟨⟨by decide +kernel, by decide +kernel⟩, List.mem_of_getElem? (i := 822) (by decide +kernel), List.mem_of_getElem? (i := 993) (by decide +kernel), List.mem_of_getElem? (i := 994) (by decide +kernel)⟩
theorem lw_p15 : lw_okq (⟨"PressSheetsModel", "leaves", "()I"⟩, 42) := ⟨⟨by decide +kernel, by decide +kernel⟩, List.mem_of_getElem? (i := 822) (by decide +kernel), List.mem_of_getElem? (i := 997) (by decide +kernel), List.mem_of_getElem? (i := 998) (by decide +kernel)⟩
def lw_privs_1 : List (MethodName × Nat) := [(⟨"PressSheets$State", "pagesMove", "()V"⟩, 7), (⟨"PressSheets$Leaf", "turnOver", "(ZZ)V"⟩, 5), (⟨"PressSheets$Plan", "tellForme", "(LPressSheets$Job;II)V"⟩, 4), (⟨"PressSheets$Plan", "isFaulty", "(LPressSheets$Job;I)Z"⟩, 4), (⟨"PressSheets$Plan", "faulty", "(IIII)Z"⟩, 4), (⟨"PressSheets$Text", "isClause", "()Z"⟩, 5), (⟨"PressSheets$Text", "isNext", "(I)Z"⟩, 5), (⟨"PressSheets$Text", "number", "(III)I"⟩, 5), (⟨"PressSheets", "tapeAt", "(I)LPressSheets$Tape;"⟩, 6), (⟨"PressSheets$Tape", "cut", "(J)J"⟩, 3), (⟨"PressSheetsModel", "empties", "()V"⟩, 42), (⟨"PressSheetsModel", "held", "(I)I"⟩, 42), (⟨"PressSheetsModel", "lays", "(II)V"⟩, 42), (⟨"PressSheetsModel", "w", "()I"⟩, 42), (⟨"PressSheetsModel", "h", "()I"⟩, 42), (⟨"PressSheetsModel", "leaves", "()I"⟩, 42)]
theorem lw_r1 : ∀ q ∈ lw_privs_1, lw_okq q := List.forall_mem_cons.mpr ⟨lw_p0, List.forall_mem_cons.mpr ⟨lw_p1, List.forall_mem_cons.mpr ⟨lw_p2, List.forall_mem_cons.mpr ⟨lw_p3, List.forall_mem_cons.mpr ⟨lw_p4, List.forall_mem_cons.mpr ⟨lw_p5, List.forall_mem_cons.mpr ⟨lw_p6, List.forall_mem_cons.mpr ⟨lw_p7, List.forall_mem_cons.mpr ⟨lw_p8, List.forall_mem_cons.mpr ⟨lw_p9, List.forall_mem_cons.mpr ⟨lw_p10, List.forall_mem_cons.mpr ⟨lw_p11, List.forall_mem_cons.mpr ⟨lw_p12, List.forall_mem_cons.mpr ⟨lw_p13, List.forall_mem_cons.mpr ⟨lw_p14, List.forall_mem_cons.mpr ⟨lw_p15, fun _ h => absurd h List.not_mem_nil⟩⟩⟩⟩⟩⟩⟩⟩⟩⟩⟩⟩⟩⟩⟩⟩
theorem lw_p16 : lw_okq (⟨"PressSheetsModel", "sheets", "()I"⟩, 42) := ⟨⟨by decide +kernel, by decide +kernel⟩, List.mem_of_getElem? (i := 822) (by decide +kernel), List.mem_of_getElem? (i := 1004) (by decide +kernel), List.mem_of_getElem? (i := 1005) (by decide +kernel)⟩
theorem lw_p17 : lw_okq (⟨"PressSheetsModel", "perSheet", "()I"⟩, 42) := ⟨⟨by decide +kernel, by decide +kernel⟩, List.mem_of_getElem? (i := 822) (by decide +kernel), List.mem_of_getElem? (i := 1008) (by decide +kernel), List.mem_of_getElem? (i := 1009) (by decide +kernel)⟩
theorem lw_p18 : lw_okq (⟨"PressSheetsModel", "allPages", "()I"⟩, 42) := ⟨⟨by decide +kernel, by decide +kernel⟩, List.mem_of_getElem? (i := 822) (by decide +kernel), List.mem_of_getElem? (i := 1012) (by decide +kernel), List.mem_of_getElem? (i := 1013) (by decide +kernel)⟩
theorem lw_p19 : lw_okq (⟨"PressSheetsModel", "folds", "()V"⟩, 42) := ⟨⟨by decide +kernel, by decide +kernel⟩, List.mem_of_getElem? (i := 822) (by decide +kernel), List.mem_of_getElem? (i := 1020) (by decide +kernel), List.mem_of_getElem? (i := 1021) (by decide +kernel)⟩
theorem lw_p20 : lw_okq (⟨"PressSheetsModel", "moves", "(IIII)Z"⟩, 42) := ⟨⟨by decide +kernel, by decide +kernel⟩, List.mem_of_getElem? (i := 822) (by decide +kernel), List.mem_of_getElem? (i := 1027) (by decide +kernel), List.mem_of_getElem? (i := 1028) (by decide +kernel)⟩
theorem lw_p21 : lw_okq (⟨"PressSheetsModel", "sideOf", "(I)I"⟩, 42) := ⟨⟨by decide +kernel, by decide +kernel⟩, List.mem_of_getElem? (i := 822) (by decide +kernel), List.mem_of_getElem? (i := 1031) (by decide +kernel), List.mem_of_getElem? (i := 1032) (by decide +kernel)⟩
theorem lw_p22 : lw_okq (⟨"PressSheetsModel", "isPage", "(I)Z"⟩, 42) := ⟨⟨by decide +kernel, by decide +kernel⟩, List.mem_of_getElem? (i := 822) (by decide +kernel), List.mem_of_getElem? (i := 1039) (by decide +kernel), List.mem_of_getElem? (i := 1040) (by decide +kernel)⟩
theorem lw_p23 : lw_okq (⟨"PressSheetsModel", "standsAt", "(II)I"⟩, 42) := ⟨⟨by decide +kernel, by decide +kernel⟩, List.mem_of_getElem? (i := 822) (by decide +kernel), List.mem_of_getElem? (i := 1043) (by decide +kernel), List.mem_of_getElem? (i := 1044) (by decide +kernel)⟩
theorem lw_p24 : lw_okq (⟨"PressSheetsModel", "finds", "(I)V"⟩, 42) := ⟨⟨by decide +kernel, by decide +kernel⟩, List.mem_of_getElem? (i := 822) (by decide +kernel), List.mem_of_getElem? (i := 1047) (by decide +kernel), List.mem_of_getElem? (i := 1048) (by decide +kernel)⟩
theorem lw_p25 : lw_okq (⟨"PressSheetsModel", "pageAt", "(II)I"⟩, 42) := ⟨⟨by decide +kernel, by decide +kernel⟩, List.mem_of_getElem? (i := 822) (by decide +kernel), List.mem_of_getElem? (i := 1051) (by decide +kernel), List.mem_of_getElem? (i := 1052) (by decide +kernel)⟩
theorem lw_p26 : lw_okq (⟨"PressSheetsModel", "seenRow", "(II)I"⟩, 42) := ⟨⟨by decide +kernel, by decide +kernel⟩, List.mem_of_getElem? (i := 822) (by decide +kernel), List.mem_of_getElem? (i := 1055) (by decide +kernel), List.mem_of_getElem? (i := 1056) (by decide +kernel)⟩
theorem lw_p27 : lw_okq (⟨"PressSheetsModel", "seenColumn", "(II)I"⟩, 42) := ⟨⟨by decide +kernel, by decide +kernel⟩, List.mem_of_getElem? (i := 822) (by decide +kernel), List.mem_of_getElem? (i := 1059) (by decide +kernel), List.mem_of_getElem? (i := 1060) (by decide +kernel)⟩
theorem lw_p28 : lw_okq (⟨"PressSheetsModel", "isForme", "(I)Z"⟩, 42) := ⟨⟨by decide +kernel, by decide +kernel⟩, List.mem_of_getElem? (i := 822) (by decide +kernel), List.mem_of_getElem? (i := 1067) (by decide +kernel), List.mem_of_getElem? (i := 1068) (by decide +kernel)⟩
theorem lw_p29 : lw_okq (⟨"PressSheetsModel", "isCell", "(II)Z"⟩, 42) := ⟨⟨by decide +kernel, by decide +kernel⟩, List.mem_of_getElem? (i := 822) (by decide +kernel), List.mem_of_getElem? (i := 1071) (by decide +kernel), List.mem_of_getElem? (i := 1072) (by decide +kernel)⟩
theorem lw_p30 : lw_okq (⟨"PressSheetsModel", "pageOf", "(III)I"⟩, 42) := ⟨⟨by decide +kernel, by decide +kernel⟩, List.mem_of_getElem? (i := 822) (by decide +kernel), List.mem_of_getElem? (i := 1075) (by decide +kernel), List.mem_of_getElem? (i := 1076) (by decide +kernel)⟩
theorem lw_p31 : lw_okq (⟨"PressSheetsModel", "outside", "(I)I"⟩, 42) := ⟨⟨by decide +kernel, by decide +kernel⟩, List.mem_of_getElem? (i := 822) (by decide +kernel), List.mem_of_getElem? (i := 1087) (by decide +kernel), List.mem_of_getElem? (i := 1088) (by decide +kernel)⟩
def lw_privs_2 : List (MethodName × Nat) := [(⟨"PressSheetsModel", "sheets", "()I"⟩, 42), (⟨"PressSheetsModel", "perSheet", "()I"⟩, 42), (⟨"PressSheetsModel", "allPages", "()I"⟩, 42), (⟨"PressSheetsModel", "folds", "()V"⟩, 42), (⟨"PressSheetsModel", "moves", "(IIII)Z"⟩, 42), (⟨"PressSheetsModel", "sideOf", "(I)I"⟩, 42), (⟨"PressSheetsModel", "isPage", "(I)Z"⟩, 42), (⟨"PressSheetsModel", "standsAt", "(II)I"⟩, 42), (⟨"PressSheetsModel", "finds", "(I)V"⟩, 42), (⟨"PressSheetsModel", "pageAt", "(II)I"⟩, 42), (⟨"PressSheetsModel", "seenRow", "(II)I"⟩, 42), (⟨"PressSheetsModel", "seenColumn", "(II)I"⟩, 42), (⟨"PressSheetsModel", "isForme", "(I)Z"⟩, 42), (⟨"PressSheetsModel", "isCell", "(II)Z"⟩, 42), (⟨"PressSheetsModel", "pageOf", "(III)I"⟩, 42), (⟨"PressSheetsModel", "outside", "(I)I"⟩, 42)]
theorem lw_r2 : ∀ q ∈ lw_privs_2, lw_okq q := List.forall_mem_cons.mpr ⟨lw_p16, List.forall_mem_cons.mpr ⟨lw_p17, List.forall_mem_cons.mpr ⟨lw_p18, List.forall_mem_cons.mpr ⟨lw_p19, List.forall_mem_cons.mpr ⟨lw_p20, List.forall_mem_cons.mpr ⟨lw_p21, List.forall_mem_cons.mpr ⟨lw_p22, List.forall_mem_cons.mpr ⟨lw_p23, List.forall_mem_cons.mpr ⟨lw_p24, List.forall_mem_cons.mpr ⟨lw_p25, List.forall_mem_cons.mpr ⟨lw_p26, List.forall_mem_cons.mpr ⟨lw_p27, List.forall_mem_cons.mpr ⟨lw_p28, List.forall_mem_cons.mpr ⟨lw_p29, List.forall_mem_cons.mpr ⟨lw_p30, List.forall_mem_cons.mpr ⟨lw_p31, fun _ h => absurd h List.not_mem_nil⟩⟩⟩⟩⟩⟩⟩⟩⟩⟩⟩⟩⟩⟩⟩⟩
theorem lw_p32 : lw_okq (⟨"PressSheetsModel", "isPrinted", "(I)Z"⟩, 42) := ⟨⟨by decide +kernel, by decide +kernel⟩, List.mem_of_getElem? (i := 822) (by decide +kernel), List.mem_of_getElem? (i := 1107) (by decide +kernel), List.mem_of_getElem? (i := 1108) (by decide +kernel)⟩
theorem lw_p33 : lw_okq (⟨"PressSheetsModel", "strokes", "()Z"⟩, 42) := ⟨⟨by decide +kernel, by decide +kernel⟩, List.mem_of_getElem? (i := 822) (by decide +kernel), List.mem_of_getElem? (i := 1115) (by decide +kernel), List.mem_of_getElem? (i := 1116) (by decide +kernel)⟩
theorem lw_p34 : lw_okq (⟨"PressSheetsModel", "leaves", "(I)V"⟩, 42) := ⟨⟨by decide +kernel, by decide +kernel⟩, List.mem_of_getElem? (i := 822) (by decide +kernel), List.mem_of_getElem? (i := 1119) (by decide +kernel), List.mem_of_getElem? (i := 1120) (by decide +kernel)⟩
theorem lw_p35 : lw_okq (⟨"PressSheetsModel", "tells", "(III)Z"⟩, 42) := ⟨⟨by decide +kernel, by decide +kernel⟩, List.mem_of_getElem? (i := 822) (by decide +kernel), List.mem_of_getElem? (i := 1146) (by decide +kernel), List.mem_of_getElem? (i := 1147) (by decide +kernel)⟩
theorem lw_p36 : lw_okq (⟨"PressSheetsModel", "proves", "(I)V"⟩, 42) := ⟨⟨by decide +kernel, by decide +kernel⟩, List.mem_of_getElem? (i := 822) (by decide +kernel), List.mem_of_getElem? (i := 1166) (by decide +kernel), List.mem_of_getElem? (i := 1167) (by decide +kernel)⟩
theorem lw_p37 : lw_okq (⟨"PressSheetsModel", "areSo", "()Z"⟩, 42) := ⟨⟨by decide +kernel, by decide +kernel⟩, List.mem_of_getElem? (i := 822) (by decide +kernel), List.mem_of_getElem? (i := 1178) (by decide +kernel), List.mem_of_getElem? (i := 1179) (by decide +kernel)⟩
theorem lw_p38 : lw_okq (⟨"PressSheetsModel", "clause", "(II)Z"⟩, 42) := ⟨⟨by decide +kernel, by decide +kernel⟩, List.mem_of_getElem? (i := 822) (by decide +kernel), List.mem_of_getElem? (i := 1198) (by decide +kernel), List.mem_of_getElem? (i := 1199) (by decide +kernel)⟩
theorem lw_p39 : lw_okq (⟨"PressSheetsModel", "here", "(I)I"⟩, 42) := ⟨⟨by decide +kernel, by decide +kernel⟩, List.mem_of_getElem? (i := 822) (by decide +kernel), List.mem_of_getElem? (i := 1202) (by decide +kernel), List.mem_of_getElem? (i := 1203) (by decide +kernel)⟩
theorem lw_p40 : lw_okq (⟨"PressSheetsModel", "number", "(IIIIII)Z"⟩, 42) := ⟨⟨by decide +kernel, by decide +kernel⟩, List.mem_of_getElem? (i := 822) (by decide +kernel), List.mem_of_getElem? (i := 1206) (by decide +kernel), List.mem_of_getElem? (i := 1207) (by decide +kernel)⟩
theorem lw_p41 : lw_okq (⟨"PressSheetsModel", "does", "(I)I"⟩, 42) := ⟨⟨by decide +kernel, by decide +kernel⟩, List.mem_of_getElem? (i := 822) (by decide +kernel), List.mem_of_getElem? (i := 1210) (by decide +kernel), List.mem_of_getElem? (i := 1211) (by decide +kernel)⟩
theorem lw_p42 : lw_okq (⟨"PressSheetsModel", "carriesAll", "(Z)V"⟩, 42) := ⟨⟨by decide +kernel, by decide +kernel⟩, List.mem_of_getElem? (i := 822) (by decide +kernel), List.mem_of_getElem? (i := 1228) (by decide +kernel), List.mem_of_getElem? (i := 1229) (by decide +kernel)⟩
theorem lw_p43 : lw_okq (⟨"PressSheetsModel", "carries", "([IIIZ)I"⟩, 42) := ⟨⟨by decide +kernel, by decide +kernel⟩, List.mem_of_getElem? (i := 822) (by decide +kernel), List.mem_of_getElem? (i := 1232) (by decide +kernel), List.mem_of_getElem? (i := 1233) (by decide +kernel)⟩
def lw_privs_3 : List (MethodName × Nat) := [(⟨"PressSheetsModel", "isPrinted", "(I)Z"⟩, 42), (⟨"PressSheetsModel", "strokes", "()Z"⟩, 42), (⟨"PressSheetsModel", "leaves", "(I)V"⟩, 42), (⟨"PressSheetsModel", "tells", "(III)Z"⟩, 42), (⟨"PressSheetsModel", "proves", "(I)V"⟩, 42), (⟨"PressSheetsModel", "areSo", "()Z"⟩, 42), (⟨"PressSheetsModel", "clause", "(II)Z"⟩, 42), (⟨"PressSheetsModel", "here", "(I)I"⟩, 42), (⟨"PressSheetsModel", "number", "(IIIIII)Z"⟩, 42), (⟨"PressSheetsModel", "does", "(I)I"⟩, 42), (⟨"PressSheetsModel", "carriesAll", "(Z)V"⟩, 42), (⟨"PressSheetsModel", "carries", "([IIIZ)I"⟩, 42)]
theorem lw_r3 : ∀ q ∈ lw_privs_3, lw_okq q := List.forall_mem_cons.mpr ⟨lw_p32, List.forall_mem_cons.mpr ⟨lw_p33, List.forall_mem_cons.mpr ⟨lw_p34, List.forall_mem_cons.mpr ⟨lw_p35, List.forall_mem_cons.mpr ⟨lw_p36, List.forall_mem_cons.mpr ⟨lw_p37, List.forall_mem_cons.mpr ⟨lw_p38, List.forall_mem_cons.mpr ⟨lw_p39, List.forall_mem_cons.mpr ⟨lw_p40, List.forall_mem_cons.mpr ⟨lw_p41, List.forall_mem_cons.mpr ⟨lw_p42, List.forall_mem_cons.mpr ⟨lw_p43, fun _ h => absurd h List.not_mem_nil⟩⟩⟩⟩⟩⟩⟩⟩⟩⟩⟩⟩
def lw_privs : List (MethodName × Nat) := lw_privs_1 ++ (lw_privs_2 ++ (lw_privs_3))
def lw_tbl : List Cond := k2_sels lw_privs ++ tables_1
theorem lw_privs_ok : ∀ q ∈ lw_privs, lw_okq q := by
  show ∀ q ∈ lw_privs_1 ++ (lw_privs_2 ++ (lw_privs_3)), lw_okq q
  exact List.forall_mem_append.mpr ⟨lw_r1, List.forall_mem_append.mpr ⟨lw_r2, lw_r3⟩⟩
end
section
/-! memory: what the ints and longs of the cells hold, by cell and place; the cells' kinds and fields are laid out once for all -/
abbrev Mm : Type := (Nat → Nat → Int32) × (Nat → Nat → Int64)
def updL (f : Nat → Int64) (k : Nat) (x : Int64) : Nat → Int64 := fun j => if j = k then x else f j
def wI (M : Mm) (k j : Nat) (v : Int32) : Mm := (fun q => if q = k then upd (M.1 k) j v else M.1 q, M.2)
def wJ (M : Mm) (k j : Nat) (v : Int64) : Mm := (M.1, fun q => if q = k then updL (M.2 k) j v else M.2 q)
def kdl : List Nat := [9, 6, 0, 1, 5, 3, 4, 140, 4, 164, 2, 4, 160, 4, 160, 4, 160, 4, 104, 4, 105, 4, 105, 4, 108, 4, 108, 6, 0, 1, 5, 3, 4, 140, 4, 164, 2, 4, 160, 4, 160, 4, 160, 4, 104, 4, 105, 4, 105, 4, 108, 4, 108, 0, 1, 5, 8, 4, 200, 4, 110, 4, 110, 4, 110, 50, 7, 1060, 7, 1060, 7, 1060, 7, 1060, 7, 1060, 7, 1060, 10, 116, 116, 116, 116, 116, 116, 140, 164, 160, 160, 160, 120, 116, 200, 130, 500, 111, 106, 106, 1360, 1060]
def kD (k : Nat) : Nat := kdl.getD k 99
def fldl : List (List (Option Nat)) := [[none, none, none, none, none, none, none, none, none, some 1, some 2], [none, none, none, none, none], [some 1, some 3, some 5, some 7], [some 1, some 3], [some 1, none], [none, none, none, none, none, none], [some 1, some 4, some 9, some 18, some 20, some 22, some 24], [none, none, some 1], [some 1, some 3, some 5, some 7, none], [some 1, some 27, none, some 53, some 56, some 65], [none, none, none, none, none, none, none, some 1, some 2, some 3, some 4, some 5, some 6, none, none, some 7, none, some 8, none, some 9, some 10, some 11, none, none, none, none, none, some 12, none, some 13, none, some 14, none, none, some 15, some 16, none, some 17, some 18, some 19, some 20, some 21]]
def fD (c : Nat) : List (Option Nat) := fldl.getD c []

def tC0 : u_T := fun k => match k with
  | 0 => ("PressSheets$Job", "figures", "I", false)
  | 1 => ("PressSheets$Job", "code", "I", false)
  | 2 => ("PressSheets$Job", "wide", "I", false)
  | 3 => ("PressSheets$Job", "high", "I", false)
  | 4 => ("PressSheets$Job", "pages", "I", false)
  | 5 => ("PressSheets$Job", "gather", "I", false)
  | 6 => ("PressSheets$Job", "turn", "I", false)
  | 7 => ("PressSheets$Job", "thick", "I", false)
  | 8 => ("PressSheets$Job", "copies", "I", false)
  | 9 => ("PressSheets$Job", "leaf", "LPressSheets$Leaf;", true)
  | _ => ("PressSheets$Job", "spot", "LPressSheets$Spot;", true)
def yC0 : Nat → FieldType := fun k => match k with
  | 0 => .int
  | 1 => .int
  | 2 => .int
  | 3 => .int
  | 4 => .int
  | 5 => .int
  | 6 => .int
  | 7 => .int
  | 8 => .int
  | 9 => .object "PressSheets$Leaf"
  | _ => .object "PressSheets$Spot"
def tC1 : u_T := fun k => match k with
  | 0 => ("PressSheets$Leaf", "row", "I", false)
  | 1 => ("PressSheets$Leaf", "column", "I", false)
  | 2 => ("PressSheets$Leaf", "depth", "I", false)
  | 3 => ("PressSheets$Leaf", "above", "I", false)
  | _ => ("PressSheets$Leaf", "head", "I", false)
def yC1 : Nat → FieldType := fun k => match k with
  | 0 => .int
  | 1 => .int
  | 2 => .int
  | 3 => .int
  | _ => .int
def tC2 : u_T := fun k => match k with
  | 0 => ("PressSheets$Plan", "cells", "LPressSheets$Row;", true)
  | 1 => ("PressSheets$Plan", "pages", "LPressSheets$Row;", true)
  | 2 => ("PressSheets$Plan", "heads", "LPressSheets$Row;", true)
  | _ => ("PressSheets$Plan", "proven", "LPressSheets$Row;", true)
def yC2 : Nat → FieldType := fun k => match k with
  | 0 => .object "PressSheets$Row"
  | 1 => .object "PressSheets$Row"
  | 2 => .object "PressSheets$Row"
  | _ => .object "PressSheets$Row"
def tC3 : u_T := fun k => match k with
  | 0 => ("PressSheets$Press", "waiting", "LPressSheets$Row;", true)
  | _ => ("PressSheets$Press", "done", "LPressSheets$Row;", true)
def yC3 : Nat → FieldType := fun k => match k with
  | 0 => .object "PressSheets$Row"
  | _ => .object "PressSheets$Row"
def tC4 : u_T := fun k => match k with
  | 0 => ("PressSheets$Row", "items", "[I", true)
  | _ => ("PressSheets$Row", "size", "I", false)
def yC4 : Nat → FieldType := fun k => match k with
  | 0 => .array .int
  | _ => .int
def tC5 : u_T := fun k => match k with
  | 0 => ("PressSheets$Spot", "sheet", "I", false)
  | 1 => ("PressSheets$Spot", "number", "I", false)
  | 2 => ("PressSheets$Spot", "side", "I", false)
  | 3 => ("PressSheets$Spot", "row", "I", false)
  | 4 => ("PressSheets$Spot", "column", "I", false)
  | _ => ("PressSheets$Spot", "head", "I", false)
def yC5 : Nat → FieldType := fun k => match k with
  | 0 => .int
  | 1 => .int
  | 2 => .int
  | 3 => .int
  | 4 => .int
  | _ => .int
def tC6 : u_T := fun k => match k with
  | 0 => ("PressSheets$State", "job", "LPressSheets$Job;", true)
  | 1 => ("PressSheets$State", "press", "LPressSheets$Press;", true)
  | 2 => ("PressSheets$State", "plan", "LPressSheets$Plan;", true)
  | 3 => ("PressSheets$State", "seenCells", "LPressSheets$Row;", true)
  | 4 => ("PressSheets$State", "seenPages", "LPressSheets$Row;", true)
  | 5 => ("PressSheets$State", "eventKinds", "LPressSheets$Row;", true)
  | _ => ("PressSheets$State", "eventNumbers", "LPressSheets$Row;", true)
def yC6 : Nat → FieldType := fun k => match k with
  | 0 => .object "PressSheets$Job"
  | 1 => .object "PressSheets$Press"
  | 2 => .object "PressSheets$Plan"
  | 3 => .object "PressSheets$Row"
  | 4 => .object "PressSheets$Row"
  | 5 => .object "PressSheets$Row"
  | _ => .object "PressSheets$Row"
def tC7 : u_T := fun k => match k with
  | 0 => ("PressSheets$Tape", "sort", "I", false)
  | 1 => ("PressSheets$Tape", "size", "I", false)
  | _ => ("PressSheets$Tape", "items", "[J", true)
def yC7 : Nat → FieldType := fun k => match k with
  | 0 => .int
  | 1 => .int
  | _ => .array .long
def tC8 : u_T := fun k => match k with
  | 0 => ("PressSheets$Text", "signs", "LPressSheets$Row;", true)
  | 1 => ("PressSheets$Text", "kinds", "LPressSheets$Row;", true)
  | 2 => ("PressSheets$Text", "firsts", "LPressSheets$Row;", true)
  | 3 => ("PressSheets$Text", "seconds", "LPressSheets$Row;", true)
  | _ => ("PressSheets$Text", "at", "I", false)
def yC8 : Nat → FieldType := fun k => match k with
  | 0 => .object "PressSheets$Row"
  | 1 => .object "PressSheets$Row"
  | 2 => .object "PressSheets$Row"
  | 3 => .object "PressSheets$Row"
  | _ => .int
def tC9 : u_T := fun k => match k with
  | 0 => ("PressSheets", "now", "LPressSheets$State;", true)
  | 1 => ("PressSheets", "kept", "LPressSheets$State;", true)
  | 2 => ("PressSheets", "imageTaken", "Z", false)
  | 3 => ("PressSheets", "trial", "LPressSheets$Job;", true)
  | 4 => ("PressSheets", "text", "LPressSheets$Text;", true)
  | _ => ("PressSheets", "tapes", "[LPressSheets$Tape;", true)
def yC9 : Nat → FieldType := fun k => match k with
  | 0 => .object "PressSheets$State"
  | 1 => .object "PressSheets$State"
  | 2 => .boolean
  | 3 => .object "PressSheets$Job"
  | 4 => .object "PressSheets$Text"
  | _ => .array (.object "PressSheets$Tape")
def tC10 : u_T := fun k => match k with
  | 0 => ("PressSheetsModel", "thrown", "I", false)
  | 1 => ("PressSheetsModel", "fold", "I", false)
  | 2 => ("PressSheetsModel", "pages", "I", false)
  | 3 => ("PressSheetsModel", "gather", "I", false)
  | 4 => ("PressSheetsModel", "turn", "I", false)
  | 5 => ("PressSheetsModel", "thick", "I", false)
  | 6 => ("PressSheetsModel", "copies", "I", false)
  | 7 => ("PressSheetsModel", "rowAt", "[I", true)
  | 8 => ("PressSheetsModel", "columnAt", "[I", true)
  | 9 => ("PressSheetsModel", "depth", "[I", true)
  | 10 => ("PressSheetsModel", "above", "[I", true)
  | 11 => ("PressSheetsModel", "heads", "[I", true)
  | 12 => ("PressSheetsModel", "leafAt", "[I", true)
  | 13 => ("PressSheetsModel", "sheetWith", "I", false)
  | 14 => ("PressSheetsModel", "numberWith", "I", false)
  | 15 => ("PressSheetsModel", "line", "[I", true)
  | 16 => ("PressSheetsModel", "waiting", "I", false)
  | 17 => ("PressSheetsModel", "printedAt", "[I", true)
  | 18 => ("PressSheetsModel", "done", "I", false)
  | 19 => ("PressSheetsModel", "planCell", "[I", true)
  | 20 => ("PressSheetsModel", "planPage", "[I", true)
  | 21 => ("PressSheetsModel", "planHead", "[I", true)
  | 22 => ("PressSheetsModel", "planned", "I", false)
  | 23 => ("PressSheetsModel", "faultPage", "I", false)
  | 24 => ("PressSheetsModel", "faultCode", "I", false)
  | 25 => ("PressSheetsModel", "faultCell", "I", false)
  | 26 => ("PressSheetsModel", "faultLast", "I", false)
  | 27 => ("PressSheetsModel", "seen", "[I", true)
  | 28 => ("PressSheetsModel", "seenMany", "I", false)
  | 29 => ("PressSheetsModel", "events", "[I", true)
  | 30 => ("PressSheetsModel", "eventMany", "I", false)
  | 31 => ("PressSheetsModel", "text", "[I", true)
  | 32 => ("PressSheetsModel", "texted", "I", false)
  | 33 => ("PressSheetsModel", "at", "I", false)
  | 34 => ("PressSheetsModel", "clauses", "[I", true)
  | 35 => ("PressSheetsModel", "kept", "[I", true)
  | 36 => ("PressSheetsModel", "hasImage", "Z", false)
  | 37 => ("PressSheetsModel", "numbers", "[I", true)
  | 38 => ("PressSheetsModel", "sorts", "[I", true)
  | 39 => ("PressSheetsModel", "sizes", "[I", true)
  | 40 => ("PressSheetsModel", "cells", "[J", true)
  | _ => ("PressSheetsModel", "carried", "[J", true)
def yC10 : Nat → FieldType := fun k => match k with
  | 0 => .int
  | 1 => .int
  | 2 => .int
  | 3 => .int
  | 4 => .int
  | 5 => .int
  | 6 => .int
  | 7 => .array .int
  | 8 => .array .int
  | 9 => .array .int
  | 10 => .array .int
  | 11 => .array .int
  | 12 => .array .int
  | 13 => .int
  | 14 => .int
  | 15 => .array .int
  | 16 => .int
  | 17 => .array .int
  | 18 => .int
  | 19 => .array .int
  | 20 => .array .int
  | 21 => .array .int
  | 22 => .int
  | 23 => .int
  | 24 => .int
  | 25 => .int
  | 26 => .int
  | 27 => .array .int
  | 28 => .int
  | 29 => .array .int
  | 30 => .int
  | 31 => .array .int
  | 32 => .int
  | 33 => .int
  | 34 => .array .int
  | 35 => .array .int
  | 36 => .boolean
  | 37 => .array .int
  | 38 => .array .int
  | 39 => .array .int
  | 40 => .array .long
  | _ => .array .long
def cls : List vw_C := [("PressSheets$Job", tC0, 11), ("PressSheets$Leaf", tC1, 5), ("PressSheets$Plan", tC2, 4), ("PressSheets$Press", tC3, 2), ("PressSheets$Row", tC4, 2), ("PressSheets$Spot", tC5, 6), ("PressSheets$State", tC6, 7), ("PressSheets$Tape", tC7, 3), ("PressSheets$Text", tC8, 5), ("PressSheets", tC9, 6), ("PressSheetsModel", tC10, 42)]
/-- the tables' words that any method may take with it -/
def gtb : List Cond := lw_tbl.filter goodWord
theorem gtb_in {w : Cond} (h : w ∈ gtb) : w ∈ lw_tbl := (List.mem_filter.mp h).1
theorem gtb_of {w : Cond} (h : w ∈ lw_tbl) (hg : goodWord w = true) : w ∈ gtb := List.mem_filter.mpr ⟨h, hg⟩
theorem gtb_good : ∀ w ∈ gtb, goodWord w = true := fun _ h => (List.mem_filter.mp h).2
/-- what the tables say of a class of ours -/
def CK (C : String) (T : u_T) (N : Nat) : Prop := (∀ w ∈ u_ws C T N, w ∈ gtb) ∧ (∀ a, a < N → ∀ b, b < N → a ≠ b → (T a).2.1 ≠ (T b).2.1) ∧ ∃ ty : Nat → FieldType, ∀ k, k < N → parseFieldDescriptor (T k).2.2.1 = some (ty k)
theorem cKa {C : String} {T : u_T} {N : Nat} (h : ∀ w ∈ u_ws C T N, w ∈ lw_tbl) (h2 : ∀ w ∈ u_ws C T N, goodWord w = true) : ∀ w ∈ u_ws C T N, w ∈ gtb := fun w hw => gtb_of (h w hw) (h2 w hw)
theorem lw_r {w : Cond} (i : Nat) (h : tables_1[i]? = some w) (hg : goodWord w = true := by decide) : w ∈ gtb := gtb_of (List.mem_append_right _ (List.mem_of_getElem? h)) hg
theorem lw_l {w : Cond} (i : Nat) (h : (k2_sels lw_privs)[i]? = some w) (hg : goodWord w = true := by decide) : w ∈ gtb := gtb_of (List.mem_append_left _ (List.mem_of_getElem? h)) hg
set_option maxRecDepth 20000 in
theorem cK0 : CK "PressSheets$Job" tC0 11 := ⟨cKa (by decide +kernel) (by decide +kernel), by decide +kernel, yC0, by decide +kernel⟩
set_option maxRecDepth 20000 in
theorem cK1 : CK "PressSheets$Leaf" tC1 5 := ⟨cKa (by decide +kernel) (by decide +kernel), by decide +kernel, yC1, by decide +kernel⟩
set_option maxRecDepth 20000 in
theorem cK2 : CK "PressSheets$Plan" tC2 4 := ⟨cKa (by decide +kernel) (by decide +kernel), by decide +kernel, yC2, by decide +kernel⟩
set_option maxRecDepth 20000 in
theorem cK3 : CK "PressSheets$Press" tC3 2 := ⟨cKa (by decide +kernel) (by decide +kernel), by decide +kernel, yC3, by decide +kernel⟩
set_option maxRecDepth 20000 in
theorem cK4 : CK "PressSheets$Row" tC4 2 := ⟨cKa (by decide +kernel) (by decide +kernel), by decide +kernel, yC4, by decide +kernel⟩
set_option maxRecDepth 20000 in
theorem cK5 : CK "PressSheets$Spot" tC5 6 := ⟨cKa (by decide +kernel) (by decide +kernel), by decide +kernel, yC5, by decide +kernel⟩
set_option maxRecDepth 20000 in
theorem cK6 : CK "PressSheets$State" tC6 7 := ⟨cKa (by decide +kernel) (by decide +kernel), by decide +kernel, yC6, by decide +kernel⟩
set_option maxRecDepth 20000 in
theorem cK7 : CK "PressSheets$Tape" tC7 3 := ⟨cKa (by decide +kernel) (by decide +kernel), by decide +kernel, yC7, by decide +kernel⟩
set_option maxRecDepth 20000 in
theorem cK8 : CK "PressSheets$Text" tC8 5 := ⟨cKa (by decide +kernel) (by decide +kernel), by decide +kernel, yC8, by decide +kernel⟩
set_option maxRecDepth 20000 in
theorem cK9 : CK "PressSheets" tC9 6 := ⟨cKa (by decide +kernel) (by decide +kernel), by decide +kernel, yC9, by decide +kernel⟩
set_option maxRecDepth 20000 in
theorem cK10 : CK "PressSheetsModel" tC10 42 := ⟨cKa (by decide +kernel) (by decide +kernel), by decide +kernel, yC10, by decide +kernel⟩
theorem cK : ∀ (ci : Nat) (C : String) (T : u_T) (N : Nat), cls[ci]? = some (C, T, N) → CK C T N := by
  intro ci C T N h
  match ci, h with
  | 0, h => cases h; exact cK0
  | 1, h => cases h; exact cK1
  | 2, h => cases h; exact cK2
  | 3, h => cases h; exact cK3
  | 4, h => cases h; exact cK4
  | 5, h => cases h; exact cK5
  | 6, h => cases h; exact cK6
  | 7, h => cases h; exact cK7
  | 8, h => cases h; exact cK8
  | 9, h => cases h; exact cK9
  | 10, h => cases h; exact cK10
  | _ + 11, h => cases h
end
section
/-! the judgement GO: from this place of the method the machine comes to the method's end with what the term o says; a rule an instruction -/
abbrev KG : Type := va_G × ClassId × ClassId × ClassId × Nat
abbrev KX : Type := (Program × Launch × Env × Room × State × MethodId) × (Array Value × List Frame × Method × Code) × KG
abbrev kp (X : KX) : Program := X.1.1
abbrev kl (X : KX) : Launch := X.1.2.1
abbrev ke (X : KX) : Env := X.1.2.2.1
abbrev kr (X : KX) : Room := X.1.2.2.2.1
abbrev ks (X : KX) : State := X.1.2.2.2.2.1
abbrev km (X : KX) : MethodId := X.1.2.2.2.2.2
abbrev ka (X : KX) : Array Value := X.2.1.1
abbrev kb (X : KX) : List Frame := X.2.1.2.1
abbrev kt (X : KX) : Method := X.2.1.2.2.1
abbrev kc (X : KX) : Code := X.2.1.2.2.2
abbrev kG (X : KX) : KG := X.2.2
abbrev k0 (G : KG) : Nat := G.2.2.2.2
abbrev rf (G : KG) (k : Nat) : Value := .ref (G.2.2.2.2 + k)
def rfo (G : KG) (k : Option Nat) : Value := match k with
  | none => .null
  | some k => rf G k
def fval (b : Nat) (ini : Nat → Bool) (row : Nat → Int32) (k : Nat) (o : Option Nat) (j : Nat) : Value := match o with
  | none => .int (row j)
  | some d => if ini j = true then .ref (b + (k + d)) else .null
def fvs (b : Nat) (ini : Nat → Bool) (row : Nat → Int32) (k : Nat) (fl : List (Option Nat)) : List Value := (List.range fl.length).map (fun j => fval b ini row k (fl.getD j none) j)
def ce (G : KG) (ini : Nat → Nat → Bool) (M : Mm) (k : Nat) : va_E :=
  if kD k < 50 then .inr (kD k, fvs (k0 G) (ini k) (M.1 k) k (fD (kD k)))
  else if kD k = 50 then .inl (G.2.2.2.1, 6, .inr (.inr (.inr (.inr (fun j => if ini k j = true then some (k0 G + (k + 1 + 2 * j)) else none)))))
  else if kD k < 1000 then .inl (G.2.1, kD k - 100, .inl (M.1 k))
  else .inl (G.2.2.1, kD k - 1000, .inr (.inl (M.2 k)))
def WD (G : KG) (n : Nat) (ini : Nat → Nat → Bool) (M : Mm) (H : Heap) : Prop := H.size = k0 G + n ∧ ∀ k, k < n → va_at G.1 cls (k0 G + k, ce G ini M k) H
abbrev tyl (G : KG) : List (ClassId × FieldType) := [(G.2.1, .int), (G.2.2.1, .long), (G.2.2.2.1, .object "PressSheets$Tape")]
/-- the calls of private members of a nest mate -/
def ntb : List (String × Nat × MethodName × String) := [("PressSheets", 11, ⟨"PressSheets$State", "<init>", "()V"⟩, "PressSheets"), ("PressSheets$Job", 23, ⟨"PressSheets$Leaf", "<init>", "()V"⟩, "PressSheets"), ("PressSheets$Job", 30, ⟨"PressSheets$Spot", "<init>", "()V"⟩, "PressSheets"), ("PressSheets$State", 20, ⟨"PressSheets$Press", "<init>", "()V"⟩, "PressSheets"), ("PressSheets$State", 27, ⟨"PressSheets$Plan", "<init>", "()V"⟩, "PressSheets"), ("PressSheets", 30, ⟨"PressSheets$Text", "<init>", "()V"⟩, "PressSheets"), ("PressSheets", 37, ⟨"PressSheets$Tape", "<init>", "()V"⟩, "PressSheets"), ("PressSheets$Spot", 65, ⟨"PressSheets", "cellOf", "(IIII)I"⟩, "PressSheets")]
def VK (G : KG) (U : State) : Prop := va_K G.1 cls (tyl G) U ∧ (∀ q ∈ ntb, va_Nw (.methodLinkNest q.1 q.2.1 q.2.2.1 q.2.2.2) U) ∧ va_AO "PressSheets$Tape" U
/-- a method: its class, bytes, locals, type; the frames and the locals' room that it wants -/
abbrev MD : Type := String × ByteArray × Nat × Option FieldType × Nat × Nat
def KOK (X : KX) (d : MD) : Prop := (kp X).tables.exec = Jvm.exec ∧ (kc X).code = d.2.1 ∧ (kt X).sig.returnType = d.2.2.2.1 ∧ (kc X).maxLocals = d.2.2.1 ∧ (ks X).vm.findClass d.1 = some (km X).cls ∧ (∀ w ∈ gtb, w.before (ka X) (ks X) = true) ∧ (kt X).locks = false ∧ VK (kG X) (ks X) ∧ d.2.2.2.2.1 ≤ (kr X).frames ∧ d.2.2.2.2.2 ≤ (kr X).locals
abbrev ZZ : Type := Nat × Nat × Nat × (Nat → Nat → Bool)
abbrev KA (G : KG) : Nat → Prop := fun q => k0 G ≤ q
def LV (lsA : Array Slot) (nL : Nat) (ls : List (Option Value)) : Prop := ∃ l, lv_has lsA nL l ∧ ∀ (k : Nat) (v : Value), ls[k]? = some (some v) → (k, v) ∈ l
def GO {α : Type} (X : KX) (d : MD) (Q : α → Mm → State → Prop) (pc : Nat) (ls : List (Option Value)) (st : List Value) (Z : ZZ) (M : Mm) (o : Option (α × Mm)) : Prop :=
  KOK X d → ∀ (r : α) (M' : Mm), o = some (r, M') → ∀ (H : Heap) (locs : List Loc) (lsA : Array Slot), WD (kG X) Z.2.2.1 Z.2.2.2 M H → va_S (KA (kG X)) (ks X).heap H locs → LV lsA d.2.2.1 ls → Z.1 ≤ (kr X).cells → Z.2.1 ≤ (kr X).slots →
    W (kp X) (kl X) (ke X) (kr X) (ks X) (km X) (ka X) (kb X) (kt X) (kc X) H locs Z.1 Z.2.1 (Q r M') (F0 (km X) pc lsA st)
/-- a decoded instruction, and where the next one is; a jump's target -/
def dc (cc : ByteArray) (pc pc' : Nat) (i : Instr) (len : Nat) : Prop := decode cc pc = .ok (i, len) ∧ pc + len = pc'
def dj (cc : ByteArray) (pc pc' tgt : Nat) (off : Int) (i : Instr) (len : Nat) : Prop := decode cc pc = .ok (i, len) ∧ pc + len = pc' ∧ (pc : Int) + off = (tgt : Int)
def lT {α β : Type} (a : α) (f : α → β) : β := f a
def bD {α β : Type} (x : Option (β × Mm)) (f : β → Mm → Option (α × Mm)) : Option (α × Mm) := match x with
  | none => none
  | some q => f q.1 q.2
theorem bD_some {α β : Type} {x : Option (β × Mm)} {f : β → Mm → Option (α × Mm)} {r : α × Mm} (h : bD x f = some r) : ∃ (a : β) (M : Mm), x = some (a, M) ∧ f a M = some r := by
  cases x with
  | none => cases h
  | some q => exact ⟨q.1, q.2, rfl, h⟩
theorem irem_eq (x y : Int32) : x - x / y * y = x % y := by
  apply Int32.toInt_inj.mp
  have h0 : ∀ z : Int32, z.toInt = z.toInt.bmod (2 ^ 32) := fun z => by simp
  have h := h0 (x % y)
  rw [h, Int32.toInt_mod, Int32.toInt_sub, Int32.toInt_mul, Int32.toInt_div, Int.tmod_def]
  simp [Int.mul_comm]
theorem lrem_eq (x y : Int64) : x - x / y * y = x % y := by
  apply Int64.toInt_inj.mp
  have h0 : ∀ z : Int64, z.toInt = z.toInt.bmod (2 ^ 64) := fun z => by simp
  have h := h0 (x % y)
  rw [h, Int64.toInt_mod, Int64.toInt_sub, Int64.toInt_mul, Int64.toInt_div, Int.tmod_def]
  simp [Int.mul_comm]
section RULES
variable {α β : Type} {X : KX} {d : MD} {Q : α → Mm → State → Prop} {pc pc' tgt idx : Nat} {off : Int} {ls : List (Option Value)} {st : List Value} {Z : ZZ} {M : Mm} {o o1 o2 : Option (α × Mm)} {x y : Int32} {u v : Int64} {i j k ci : Nat}
theorem g_weak {ls' : List (Option Value)} (h : ∀ (k : Nat) (v : Value), ls'[k]? = some (some v) → ls[k]? = some (some v)) (kk : GO X d Q pc ls' st Z M o) : GO X d Q pc ls st Z M o := by
  intro K r M' ho H locs lsA hW hS hL hc hs
  obtain ⟨l, h1, h2⟩ := hL
  exact kk K r M' ho H locs lsA hW hS ⟨l, h1, fun k v hk => h2 k v (h k v hk)⟩ hc hs
theorem g_none : GO X d Q pc ls st Z M none := fun _ _ _ h => by cases h
theorem g_ite {P : Prop} [Decidable P] (k1 : P → GO X d Q pc ls st Z M o1) (k2 : ¬ P → GO X d Q pc ls st Z M o2) : GO X d Q pc ls st Z M (if P then o1 else o2) := by
  by_cases h : P
  · rw [if_pos h]; exact k1 h
  · rw [if_neg h]; exact k2 h
theorem g_grd {P : Prop} [Decidable P] (k1 : P → GO X d Q pc ls st Z M o1) : GO X d Q pc ls st Z M (if P then o1 else none) := g_ite k1 (fun _ => g_none)
theorem g_lt {γ : Type} {a : γ} {f : γ → Option (α × Mm)} (kk : GO X d Q pc ls st Z M (f a)) : GO X d Q pc ls st Z M (lT a f) := kk
theorem g_pt {γ : Type} {P : Prop} [Decidable P] {a b : γ} {f : γ → Option (α × Mm)} (h : P) (kk : GO X d Q pc ls st Z M (lT a f)) : GO X d Q pc ls st Z M (lT (if P then a else b) f) := by rw [if_pos h]; exact kk
theorem g_pf {γ : Type} {P : Prop} [Decidable P] {a b : γ} {f : γ → Option (α × Mm)} (h : ¬ P) (kk : GO X d Q pc ls st Z M (lT b f)) : GO X d Q pc ls st Z M (lT (if P then a else b) f) := by rw [if_neg h]; exact kk
theorem LV.at {lsA : Array Slot} {nL : Nat} {ls : List (Option Value)} (h : LV lsA nL ls) {k : Nat} {v : Value} (hk : ls[k]? = some (some v)) : lsA[k]? = some (.val v) := by
  obtain ⟨l, h1, h2⟩ := h
  exact h1.2.2 _ (h2 k v hk)
def nlo (ls : List (Option Value)) (i : Nat) : Bool := match i with
  | 0 => true
  | j + 1 => match ls[j]? with
    | some (some v) => v.category == 1
    | _ => true
theorem LV.set1 {ls : List (Option Value)} {l : List (Nat × Value)} (hl : ∀ (k : Nat) (v : Value), ls[k]? = some (some v) → (k, v) ∈ l) {i : Nat} {v : Value} (hn : nlo ls i = true) :
    ∀ (k : Nat) (v' : Value), (ls.set i (some v))[k]? = some (some v') → (k, v') ∈ (i, v) :: l.filter (fun q => !(q.1 == i) && !(q.1 + 1 == i && q.2.category == 2)) := by
  intro k v' hk
  by_cases he : k = i
  · subst he
    have hlt : k < ls.length := by
      have := (List.getElem?_eq_some_iff.mp hk).1
      simpa using this
    rw [List.getElem?_set_self hlt] at hk
    cases hk
    exact List.mem_cons_self
  · rw [List.getElem?_set_ne (Ne.symm he)] at hk
    refine List.mem_cons_of_mem _ (List.mem_filter.mpr ⟨hl k v' hk, ?_⟩)
    have h1 : ¬ (k + 1 = i ∧ v'.category = 2) := by
      rintro ⟨rfl, h2⟩
      simp only [nlo, hk] at hn
      rw [h2] at hn
      cases hn
    simp only [Bool.and_eq_true, Bool.not_eq_true', beq_eq_false_iff_ne, ne_eq, Bool.and_eq_false_iff]
    refine ⟨he, ?_⟩
    by_cases h2 : k + 1 = i
    · exact Or.inr (fun h3 => h1 ⟨h2, h3⟩)
    · exact Or.inl h2
theorem LV.set2 {ls : List (Option Value)} {l : List (Nat × Value)} (hl : ∀ (k : Nat) (v : Value), ls[k]? = some (some v) → (k, v) ∈ l) {i : Nat} {v : Value} (hn : nlo ls i = true) :
    ∀ (k : Nat) (v' : Value), ((ls.set i (some v)).set (i + 1) none)[k]? = some (some v') → (k, v') ∈ (i, v) :: l.filter (fun q => !(q.1 == i) && (!(q.1 == i + 1) && !(q.1 + 1 == i && q.2.category == 2))) := by
  intro k v' hk
  by_cases hi : k = i + 1
  · subst hi
    by_cases hlt : i + 1 < ls.length
    · rw [List.getElem?_set_self (by simpa using hlt)] at hk
      cases hk
    · have := (List.getElem?_eq_some_iff.mp hk).1
      simp at this
      omega
  · rw [List.getElem?_set_ne (Ne.symm hi)] at hk
    have h0 := LV.set1 hl hn k v' hk
    rcases List.mem_cons.mp h0 with h0 | h0
    · rw [h0]; exact List.mem_cons_self
    · obtain ⟨h1, h2⟩ := List.mem_filter.mp h0
      refine List.mem_cons_of_mem _ (List.mem_filter.mpr ⟨h1, ?_⟩)
      simp only [Bool.and_eq_true] at h2 ⊢
      exact ⟨h2.1, by simpa using hi, h2.2⟩
/-! a local's load and store -/
theorem g_iload_n {n : Fin 4} (hd : dc d.2.1 pc pc' (.iload_n n) 1) (hv : ls[(n : Nat)]? = some (some (.int x))) (kk : GO X d Q pc' ls (.int x :: st) Z M o) : GO X d Q pc ls st Z M o := by
  obtain ⟨hd, rfl⟩ := hd
  intro K r M' ho H locs lsA hW hS hL hc hs
  exact lv_iload_n K.1 K.2.1 hd rfl (hL.at hv) (kk K r M' ho H locs lsA hW hS hL hc hs)
theorem g_iload (hd : dc d.2.1 pc pc' (.iload i) 2) (hv : ls[i]? = some (some (.int x))) (kk : GO X d Q pc' ls (.int x :: st) Z M o) : GO X d Q pc ls st Z M o := by
  obtain ⟨hd, rfl⟩ := hd
  intro K r M' ho H locs lsA hW hS hL hc hs
  exact lv_iload K.1 K.2.1 hd (hL.at hv) (kk K r M' ho H locs lsA hW hS hL hc hs)
theorem g_lload_n {n : Fin 4} (hd : dc d.2.1 pc pc' (.lload_n n) 1) (hv : ls[(n : Nat)]? = some (some (.long u))) (kk : GO X d Q pc' ls (.long u :: st) Z M o) : GO X d Q pc ls st Z M o := by
  obtain ⟨hd, rfl⟩ := hd
  intro K r M' ho H locs lsA hW hS hL hc hs
  exact lv_lload_n K.1 K.2.1 hd rfl (hL.at hv) (kk K r M' ho H locs lsA hW hS hL hc hs)
theorem g_lload (hd : dc d.2.1 pc pc' (.lload i) 2) (hv : ls[i]? = some (some (.long u))) (kk : GO X d Q pc' ls (.long u :: st) Z M o) : GO X d Q pc ls st Z M o := by
  obtain ⟨hd, rfl⟩ := hd
  intro K r M' ho H locs lsA hW hS hL hc hs
  exact lv_lload K.1 K.2.1 hd (hL.at hv) (kk K r M' ho H locs lsA hW hS hL hc hs)
theorem g_aload_n {n : Fin 4} (hd : dc d.2.1 pc pc' (.aload_n n) 1) (hv : ls[(n : Nat)]? = some (some (rf (kG X) k))) (kk : GO X d Q pc' ls (rf (kG X) k :: st) Z M o) : GO X d Q pc ls st Z M o := by
  obtain ⟨hd, rfl⟩ := hd
  intro K r M' ho H locs lsA hW hS hL hc hs
  exact lv_aload_n K.1 K.2.1 hd rfl (hL.at hv) (kk K r M' ho H locs lsA hW hS hL hc hs)
theorem g_aload (hd : dc d.2.1 pc pc' (.aload i) 2) (hv : ls[i]? = some (some (rf (kG X) k))) (kk : GO X d Q pc' ls (rf (kG X) k :: st) Z M o) : GO X d Q pc ls st Z M o := by
  obtain ⟨hd, rfl⟩ := hd
  intro K r M' ho H locs lsA hW hS hL hc hs
  exact lv_aload K.1 K.2.1 hd (hL.at hv) (kk K r M' ho H locs lsA hW hS hL hc hs)
theorem g_istore_n {n : Fin 4} (hd : dc d.2.1 pc pc' (.istore_n n) 1) (hn : (n : Nat) < d.2.2.1) (hg : nlo ls n = true) (kk : GO X d Q pc' (ls.set n (some (.int x))) st Z M o) : GO X d Q pc ls (.int x :: st) Z M o := by
  obtain ⟨hd, rfl⟩ := hd
  intro K r M' ho H locs lsA hW hS ⟨l, h1, h2⟩ hc hs
  exact lv_istore_n K.1 K.2.1 hd rfl h1 hn rfl (fun ls' h' => kk K r M' ho H locs ls' hW hS ⟨_, h', LV.set1 h2 hg⟩ hc hs)
theorem g_istore (hd : dc d.2.1 pc pc' (.istore i) 2) (hn : i < d.2.2.1) (hg : nlo ls i = true) (kk : GO X d Q pc' (ls.set i (some (.int x))) st Z M o) : GO X d Q pc ls (.int x :: st) Z M o := by
  obtain ⟨hd, rfl⟩ := hd
  intro K r M' ho H locs lsA hW hS ⟨l, h1, h2⟩ hc hs
  exact lv_istore K.1 K.2.1 hd h1 hn rfl (fun ls' h' => kk K r M' ho H locs ls' hW hS ⟨_, h', LV.set1 h2 hg⟩ hc hs)
theorem g_astore_n {n : Fin 4} (hd : dc d.2.1 pc pc' (.astore_n n) 1) (hn : (n : Nat) < d.2.2.1) (hg : nlo ls n = true) (kk : GO X d Q pc' (ls.set n (some (rf (kG X) k))) st Z M o) : GO X d Q pc ls (rf (kG X) k :: st) Z M o := by
  obtain ⟨hd, rfl⟩ := hd
  intro K r M' ho H locs lsA hW hS ⟨l, h1, h2⟩ hc hs
  exact lv_astore_n K.1 K.2.1 hd rfl h1 hn rfl (fun ls' h' => kk K r M' ho H locs ls' hW hS ⟨_, h', LV.set1 h2 hg⟩ hc hs)
theorem g_astore (hd : dc d.2.1 pc pc' (.astore i) 2) (hn : i < d.2.2.1) (hg : nlo ls i = true) (kk : GO X d Q pc' (ls.set i (some (rf (kG X) k))) st Z M o) : GO X d Q pc ls (rf (kG X) k :: st) Z M o := by
  obtain ⟨hd, rfl⟩ := hd
  intro K r M' ho H locs lsA hW hS ⟨l, h1, h2⟩ hc hs
  exact lv_astore K.1 K.2.1 hd h1 hn rfl (fun ls' h' => kk K r M' ho H locs ls' hW hS ⟨_, h', LV.set1 h2 hg⟩ hc hs)
theorem g_lstore_n {n : Fin 4} (hd : dc d.2.1 pc pc' (.lstore_n n) 1) (hn : (n : Nat) + 1 < d.2.2.1) (hg : nlo ls n = true) (kk : GO X d Q pc' ((ls.set n (some (.long u))).set (n + 1) none) st Z M o) : GO X d Q pc ls (.long u :: st) Z M o := by
  obtain ⟨hd, rfl⟩ := hd
  intro K r M' ho H locs lsA hW hS ⟨l, h1, h2⟩ hc hs
  exact lv_lstore_n K.1 K.2.1 hd rfl h1 hn rfl (fun ls' h' => kk K r M' ho H locs ls' hW hS ⟨_, h', LV.set2 h2 hg⟩ hc hs)
theorem g_lstore (hd : dc d.2.1 pc pc' (.lstore i) 2) (hn : i + 1 < d.2.2.1) (hg : nlo ls i = true) (kk : GO X d Q pc' ((ls.set i (some (.long u))).set (i + 1) none) st Z M o) : GO X d Q pc ls (.long u :: st) Z M o := by
  obtain ⟨hd, rfl⟩ := hd
  intro K r M' ho H locs lsA hW hS ⟨l, h1, h2⟩ hc hs
  exact lv_lstore K.1 K.2.1 hd h1 hn rfl (fun ls' h' => kk K r M' ho H locs ls' hW hS ⟨_, h', LV.set2 h2 hg⟩ hc hs)
theorem g_iinc {n : Int} (hd : dc d.2.1 pc pc' (.iinc i n) 3) (hv : ls[i]? = some (some (.int x))) (hy : x + Int32.ofInt n = y) (hn : i < d.2.2.1) (hg : nlo ls i = true) (kk : GO X d Q pc' (ls.set i (some (.int y))) st Z M o) : GO X d Q pc ls st Z M o := by
  obtain ⟨hd, rfl⟩ := hd
  intro K r M' ho H locs lsA hW hS ⟨l, h1, h2⟩ hc hs
  obtain ⟨q, hq⟩ := List.getElem?_of_mem (h2 _ _ hv)
  exact lv_iinc K.1 K.2.1 hd h1 hq hy hn rfl (fun ls' h' => kk K r M' ho H locs ls' hW hS ⟨_, h', LV.set1 h2 hg⟩ hc hs)
theorem g_iconst {n : Int} (hd : dc d.2.1 pc pc' (.iconst n) 1) (hx : Int32.ofInt n = x) (kk : GO X d Q pc' ls (.int x :: st) Z M o) : GO X d Q pc ls (st) Z M o := by
  obtain ⟨hd, rfl⟩ := hd
  intro K r M' ho H locs lsA hW hS hL hc hs
  exact lv_iconst K.1 K.2.1 hd hx (kk K r M' ho H locs lsA hW hS hL hc hs)
theorem g_bipush {n : Int} (hd : dc d.2.1 pc pc' (.bipush n) 2) (hx : (Int8.ofInt n).toInt32 = x) (kk : GO X d Q pc' ls (.int x :: st) Z M o) : GO X d Q pc ls (st) Z M o := by
  obtain ⟨hd, rfl⟩ := hd
  intro K r M' ho H locs lsA hW hS hL hc hs
  exact lv_bipush K.1 K.2.1 hd hx (kk K r M' ho H locs lsA hW hS hL hc hs)
theorem g_sipush {n : Int} (hd : dc d.2.1 pc pc' (.sipush n) 3) (hx : (Int16.ofInt n).toInt32 = x) (kk : GO X d Q pc' ls (.int x :: st) Z M o) : GO X d Q pc ls (st) Z M o := by
  obtain ⟨hd, rfl⟩ := hd
  intro K r M' ho H locs lsA hW hS hL hc hs
  exact lv_sipush K.1 K.2.1 hd hx (kk K r M' ho H locs lsA hW hS hL hc hs)
theorem g_lconst {n : Fin 2} (hd : dc d.2.1 pc pc' (.lconst n) 1) (hx : Int64.ofNat n.val = u) (kk : GO X d Q pc' ls (.long u :: st) Z M o) : GO X d Q pc ls (st) Z M o := by
  obtain ⟨hd, rfl⟩ := hd
  intro K r M' ho H locs lsA hW hS hL hc hs
  exact lv_lconst K.1 K.2.1 hd hx (kk K r M' ho H locs lsA hW hS hL hc hs)
theorem g_iadd (hd : dc d.2.1 pc pc' .iadd 1) (kk : GO X d Q pc' ls (.int (x + y) :: st) Z M o) : GO X d Q pc ls (.int y :: .int x :: st) Z M o := by
  obtain ⟨hd, rfl⟩ := hd
  intro K r M' ho H locs lsA hW hS hL hc hs
  exact lv_iadd K.1 K.2.1 hd (kk K r M' ho H locs lsA hW hS hL hc hs)
theorem g_isub (hd : dc d.2.1 pc pc' .isub 1) (kk : GO X d Q pc' ls (.int (x - y) :: st) Z M o) : GO X d Q pc ls (.int y :: .int x :: st) Z M o := by
  obtain ⟨hd, rfl⟩ := hd
  intro K r M' ho H locs lsA hW hS hL hc hs
  exact lv_isub K.1 K.2.1 hd (kk K r M' ho H locs lsA hW hS hL hc hs)
theorem g_imul (hd : dc d.2.1 pc pc' .imul 1) (kk : GO X d Q pc' ls (.int (x * y) :: st) Z M o) : GO X d Q pc ls (.int y :: .int x :: st) Z M o := by
  obtain ⟨hd, rfl⟩ := hd
  intro K r M' ho H locs lsA hW hS hL hc hs
  exact lv_imul K.1 K.2.1 hd (kk K r M' ho H locs lsA hW hS hL hc hs)
theorem g_iand (hd : dc d.2.1 pc pc' .iand 1) (kk : GO X d Q pc' ls (.int (x &&& y) :: st) Z M o) : GO X d Q pc ls (.int y :: .int x :: st) Z M o := by
  obtain ⟨hd, rfl⟩ := hd
  intro K r M' ho H locs lsA hW hS hL hc hs
  exact lv_iand K.1 K.2.1 hd (kk K r M' ho H locs lsA hW hS hL hc hs)
theorem g_ixor (hd : dc d.2.1 pc pc' .ixor 1) (kk : GO X d Q pc' ls (.int (x ^^^ y) :: st) Z M o) : GO X d Q pc ls (.int y :: .int x :: st) Z M o := by
  obtain ⟨hd, rfl⟩ := hd
  intro K r M' ho H locs lsA hW hS hL hc hs
  exact lv_ixor K.1 K.2.1 hd (kk K r M' ho H locs lsA hW hS hL hc hs)
theorem g_ishl (hd : dc d.2.1 pc pc' .ishl 1) (kk : GO X d Q pc' ls (.int (x <<< (y &&& 31)) :: st) Z M o) : GO X d Q pc ls (.int y :: .int x :: st) Z M o := by
  obtain ⟨hd, rfl⟩ := hd
  intro K r M' ho H locs lsA hW hS hL hc hs
  exact lv_ishl K.1 K.2.1 hd (kk K r M' ho H locs lsA hW hS hL hc hs)
theorem g_ishr (hd : dc d.2.1 pc pc' .ishr 1) (kk : GO X d Q pc' ls (.int (x >>> (y &&& 31)) :: st) Z M o) : GO X d Q pc ls (.int y :: .int x :: st) Z M o := by
  obtain ⟨hd, rfl⟩ := hd
  intro K r M' ho H locs lsA hW hS hL hc hs
  exact lv_ishr K.1 K.2.1 hd (kk K r M' ho H locs lsA hW hS hL hc hs)
theorem g_idiv (hd : dc d.2.1 pc pc' .idiv 1) (hne : ¬ y = 0) (kk : GO X d Q pc' ls (.int (x / y) :: st) Z M o) : GO X d Q pc ls (.int y :: .int x :: st) Z M o := by
  obtain ⟨hd, rfl⟩ := hd
  intro K r M' ho H locs lsA hW hS hL hc hs
  exact lv_idiv K.1 K.2.1 hd hne (kk K r M' ho H locs lsA hW hS hL hc hs)
theorem g_irem (hd : dc d.2.1 pc pc' .irem 1) (hne : ¬ y = 0) (kk : GO X d Q pc' ls (.int (x % y) :: st) Z M o) : GO X d Q pc ls (.int y :: .int x :: st) Z M o := by
  obtain ⟨hd, rfl⟩ := hd
  intro K r M' ho H locs lsA hW hS hL hc hs
  exact lv_irem K.1 K.2.1 hd hne (irem_eq x y ▸ kk K r M' ho H locs lsA hW hS hL hc hs)
theorem g_lmul (hd : dc d.2.1 pc pc' .lmul 1) (kk : GO X d Q pc' ls (.long (u * v) :: st) Z M o) : GO X d Q pc ls (.long v :: .long u :: st) Z M o := by
  obtain ⟨hd, rfl⟩ := hd
  intro K r M' ho H locs lsA hW hS hL hc hs
  exact lv_lmul K.1 K.2.1 hd (kk K r M' ho H locs lsA hW hS hL hc hs)
theorem g_land (hd : dc d.2.1 pc pc' .land 1) (kk : GO X d Q pc' ls (.long (u &&& v) :: st) Z M o) : GO X d Q pc ls (.long v :: .long u :: st) Z M o := by
  obtain ⟨hd, rfl⟩ := hd
  intro K r M' ho H locs lsA hW hS hL hc hs
  exact lv_land K.1 K.2.1 hd (kk K r M' ho H locs lsA hW hS hL hc hs)
theorem g_lor (hd : dc d.2.1 pc pc' .lor 1) (kk : GO X d Q pc' ls (.long (u ||| v) :: st) Z M o) : GO X d Q pc ls (.long v :: .long u :: st) Z M o := by
  obtain ⟨hd, rfl⟩ := hd
  intro K r M' ho H locs lsA hW hS hL hc hs
  exact lv_lor K.1 K.2.1 hd (kk K r M' ho H locs lsA hW hS hL hc hs)
theorem g_ldiv (hd : dc d.2.1 pc pc' .ldiv 1) (hne : ¬ v = 0) (kk : GO X d Q pc' ls (.long (u / v) :: st) Z M o) : GO X d Q pc ls (.long v :: .long u :: st) Z M o := by
  obtain ⟨hd, rfl⟩ := hd
  intro K r M' ho H locs lsA hW hS hL hc hs
  exact lv_ldiv K.1 K.2.1 hd hne (kk K r M' ho H locs lsA hW hS hL hc hs)
theorem g_lrem (hd : dc d.2.1 pc pc' .lrem 1) (hne : ¬ v = 0) (kk : GO X d Q pc' ls (.long (u % v) :: st) Z M o) : GO X d Q pc ls (.long v :: .long u :: st) Z M o := by
  obtain ⟨hd, rfl⟩ := hd
  intro K r M' ho H locs lsA hW hS hL hc hs
  exact lv_lrem K.1 K.2.1 hd hne (lrem_eq u v ▸ kk K r M' ho H locs lsA hW hS hL hc hs)
theorem g_lshl (hd : dc d.2.1 pc pc' .lshl 1) (kk : GO X d Q pc' ls (.long (u <<< (y.toInt64 &&& 63)) :: st) Z M o) : GO X d Q pc ls (.int y :: .long u :: st) Z M o := by
  obtain ⟨hd, rfl⟩ := hd
  intro K r M' ho H locs lsA hW hS hL hc hs
  exact lv_lshl K.1 K.2.1 hd rfl (kk K r M' ho H locs lsA hW hS hL hc hs)
theorem g_i2l (hd : dc d.2.1 pc pc' .i2l 1) (kk : GO X d Q pc' ls (.long x.toInt64 :: st) Z M o) : GO X d Q pc ls (.int x :: st) Z M o := by
  obtain ⟨hd, rfl⟩ := hd
  intro K r M' ho H locs lsA hW hS hL hc hs
  exact lv_i2l K.1 K.2.1 hd rfl (kk K r M' ho H locs lsA hW hS hL hc hs)
theorem g_l2i (hd : dc d.2.1 pc pc' .l2i 1) (kk : GO X d Q pc' ls (.int u.toInt32 :: st) Z M o) : GO X d Q pc ls (.long u :: st) Z M o := by
  obtain ⟨hd, rfl⟩ := hd
  intro K r M' ho H locs lsA hW hS hL hc hs
  exact lv_l2i K.1 K.2.1 hd rfl (kk K r M' ho H locs lsA hW hS hL hc hs)
theorem g_i2b (hd : dc d.2.1 pc pc' .i2b 1) (kk : GO X d Q pc' ls (.int x.toInt8.toInt32 :: st) Z M o) : GO X d Q pc ls (.int x :: st) Z M o := by
  obtain ⟨hd, rfl⟩ := hd
  intro K r M' ho H locs lsA hW hS hL hc hs
  exact lv_i2b K.1 K.2.1 hd rfl (kk K r M' ho H locs lsA hW hS hL hc hs)
theorem g_i2s (hd : dc d.2.1 pc pc' .i2s 1) (kk : GO X d Q pc' ls (.int x.toInt16.toInt32 :: st) Z M o) : GO X d Q pc ls (.int x :: st) Z M o := by
  obtain ⟨hd, rfl⟩ := hd
  intro K r M' ho H locs lsA hW hS hL hc hs
  exact lv_i2s K.1 K.2.1 hd rfl (kk K r M' ho H locs lsA hW hS hL hc hs)
theorem g_lcmp (hd : dc d.2.1 pc pc' .lcmp 1) (kk : GO X d Q pc' ls (.int (lg_cmp u v) :: st) Z M o) : GO X d Q pc ls (.long v :: .long u :: st) Z M o := by
  obtain ⟨hd, rfl⟩ := hd
  intro K r M' ho H locs lsA hW hS hL hc hs
  exact W.lcmp K.1 K.2.1 hd (kk K r M' ho H locs lsA hW hS hL hc hs)
theorem g_dup {w : Value} (hd : dc d.2.1 pc pc' .dup 1) (hw : w.category = 1) (kk : GO X d Q pc' ls (w :: w :: st) Z M o) : GO X d Q pc ls (w :: st) Z M o := by
  obtain ⟨hd, rfl⟩ := hd
  intro K r M' ho H locs lsA hW hS hL hc hs
  exact lv_dup K.1 K.2.1 hd hw (kk K r M' ho H locs lsA hW hS hL hc hs)
theorem g_pop {w : Value} (hd : dc d.2.1 pc pc' .pop 1) (hw : w.category = 1) (kk : GO X d Q pc' ls (st) Z M o) : GO X d Q pc ls (w :: st) Z M o := by
  obtain ⟨hd, rfl⟩ := hd
  intro K r M' ho H locs lsA hW hS hL hc hs
  exact lv_pop K.1 K.2.1 hd hw (kk K r M' ho H locs lsA hW hS hL hc hs)
theorem g_dup2 {w z : Value} (hd : dc d.2.1 pc pc' .dup2 1) (hw : w.category = 1) (hz : z.category = 1) (kk : GO X d Q pc' ls (w :: z :: w :: z :: st) Z M o) : GO X d Q pc ls (w :: z :: st) Z M o := by
  obtain ⟨hd, rfl⟩ := hd
  intro K r M' ho H locs lsA hW hS hL hc hs
  exact lv_dup2_11 K.1 K.2.1 hd hw hz (kk K r M' ho H locs lsA hW hS hL hc hs)
theorem g_null (hd : dc d.2.1 pc pc' .aconst_null 1) (kk : GO X d Q pc' ls (.null :: st) Z M o) : GO X d Q pc ls (st) Z M o := by
  obtain ⟨hd, rfl⟩ := hd
  intro K r M' ho H locs lsA hW hS hL hc hs
  exact lv_null K.1 K.2.1 hd (kk K r M' ho H locs lsA hW hS hL hc hs)
theorem g_ldc (hd : dc d.2.1 pc pc' (.ldc idx) 2) (hw : Cond.constant d.1 idx x ∈ gtb) (kk : GO X d Q pc' ls (.int x :: st) Z M o) : GO X d Q pc ls (st) Z M o := by
  obtain ⟨hd, rfl⟩ := hd
  intro K r M' ho H locs lsA hW hS hL hc hs
  exact lv_ldc K.1 K.2.1 K.2.2.2.2.1 (K.2.2.2.2.2.1 _ hw) hd (kk K r M' ho H locs lsA hW hS hL hc hs)
theorem g_ldc2 (hd : dc d.2.1 pc pc' (.ldc2_w idx) 3) (hw : Cond.constantLong d.1 idx u ∈ gtb) (kk : GO X d Q pc' ls (.long u :: st) Z M o) : GO X d Q pc ls (st) Z M o := by
  obtain ⟨hd, rfl⟩ := hd
  intro K r M' ho H locs lsA hW hS hL hc hs
  exact lv_ldc2 K.1 K.2.1 K.2.2.2.2.1 (K.2.2.2.2.2.1 _ hw) hd (kk K r M' ho H locs lsA hW hS hL hc hs)
theorem g_icmp_eq (hd : dj d.2.1 pc pc' tgt off (.if_icmp .eq off) 3) (kt : x = y → GO X d Q tgt ls st Z M o1) (kf : ¬ x = y → GO X d Q pc' ls st Z M o2) : GO X d Q pc ls (.int y :: .int x :: st) Z M (if x = y then o1 else o2) := by
  obtain ⟨hd, rfl, ht⟩ := hd
  intro K r M' ho H locs lsA hW hS hL hc hs
  exact lv_icmp_eq K.1 K.2.1 hd ht (fun h => kt h K r M' (by rw [if_pos h] at ho; exact ho) H locs lsA hW hS hL hc hs) (fun h => kf h K r M' (by rw [if_neg h] at ho; exact ho) H locs lsA hW hS hL hc hs)
theorem g_icmp_ne (hd : dj d.2.1 pc pc' tgt off (.if_icmp .ne off) 3) (kt : ¬ x = y → GO X d Q tgt ls st Z M o2) (kf : x = y → GO X d Q pc' ls st Z M o1) : GO X d Q pc ls (.int y :: .int x :: st) Z M (if x = y then o1 else o2) := by
  obtain ⟨hd, rfl, ht⟩ := hd
  intro K r M' ho H locs lsA hW hS hL hc hs
  exact lv_icmp_ne K.1 K.2.1 hd ht (fun h => kt h K r M' (by rw [if_neg h] at ho; exact ho) H locs lsA hW hS hL hc hs) (fun h => kf h K r M' (by rw [if_pos h] at ho; exact ho) H locs lsA hW hS hL hc hs)
theorem g_icmp_lt (hd : dj d.2.1 pc pc' tgt off (.if_icmp .lt off) 3) (kt : x < y → GO X d Q tgt ls st Z M o1) (kf : ¬ x < y → GO X d Q pc' ls st Z M o2) : GO X d Q pc ls (.int y :: .int x :: st) Z M (if x < y then o1 else o2) := by
  obtain ⟨hd, rfl, ht⟩ := hd
  intro K r M' ho H locs lsA hW hS hL hc hs
  exact lv_icmp_lt K.1 K.2.1 hd ht (fun h => kt h K r M' (by rw [if_pos h] at ho; exact ho) H locs lsA hW hS hL hc hs) (fun h => kf h K r M' (by rw [if_neg h] at ho; exact ho) H locs lsA hW hS hL hc hs)
theorem g_icmp_ge (hd : dj d.2.1 pc pc' tgt off (.if_icmp .ge off) 3) (kt : y ≤ x → GO X d Q tgt ls st Z M o1) (kf : ¬ y ≤ x → GO X d Q pc' ls st Z M o2) : GO X d Q pc ls (.int y :: .int x :: st) Z M (if y ≤ x then o1 else o2) := by
  obtain ⟨hd, rfl, ht⟩ := hd
  intro K r M' ho H locs lsA hW hS hL hc hs
  exact lv_icmp_ge K.1 K.2.1 hd ht (fun h => kt h K r M' (by rw [if_pos h] at ho; exact ho) H locs lsA hW hS hL hc hs) (fun h => kf h K r M' (by rw [if_neg h] at ho; exact ho) H locs lsA hW hS hL hc hs)
theorem g_icmp_gt (hd : dj d.2.1 pc pc' tgt off (.if_icmp .gt off) 3) (kt : y < x → GO X d Q tgt ls st Z M o1) (kf : ¬ y < x → GO X d Q pc' ls st Z M o2) : GO X d Q pc ls (.int y :: .int x :: st) Z M (if y < x then o1 else o2) := by
  obtain ⟨hd, rfl, ht⟩ := hd
  intro K r M' ho H locs lsA hW hS hL hc hs
  exact lv_icmp_gt K.1 K.2.1 hd ht (fun h => kt h K r M' (by rw [if_pos h] at ho; exact ho) H locs lsA hW hS hL hc hs) (fun h => kf h K r M' (by rw [if_neg h] at ho; exact ho) H locs lsA hW hS hL hc hs)
theorem g_icmp_le (hd : dj d.2.1 pc pc' tgt off (.if_icmp .le off) 3) (kt : x ≤ y → GO X d Q tgt ls st Z M o1) (kf : ¬ x ≤ y → GO X d Q pc' ls st Z M o2) : GO X d Q pc ls (.int y :: .int x :: st) Z M (if x ≤ y then o1 else o2) := by
  obtain ⟨hd, rfl, ht⟩ := hd
  intro K r M' ho H locs lsA hW hS hL hc hs
  exact lv_icmp_le K.1 K.2.1 hd ht (fun h => kt h K r M' (by rw [if_pos h] at ho; exact ho) H locs lsA hW hS hL hc hs) (fun h => kf h K r M' (by rw [if_neg h] at ho; exact ho) H locs lsA hW hS hL hc hs)
theorem g_if_eq (hd : dj d.2.1 pc pc' tgt off (.ifCond .eq off) 3) (kt : x = 0 → GO X d Q tgt ls st Z M o1) (kf : ¬ x = 0 → GO X d Q pc' ls st Z M o2) : GO X d Q pc ls (.int x :: st) Z M (if x = 0 then o1 else o2) := by
  obtain ⟨hd, rfl, ht⟩ := hd
  intro K r M' ho H locs lsA hW hS hL hc hs
  exact lv_if_eq K.1 K.2.1 hd ht (fun h => kt h K r M' (by rw [if_pos h] at ho; exact ho) H locs lsA hW hS hL hc hs) (fun h => kf h K r M' (by rw [if_neg h] at ho; exact ho) H locs lsA hW hS hL hc hs)
theorem g_if_ne (hd : dj d.2.1 pc pc' tgt off (.ifCond .ne off) 3) (kt : ¬ x = 0 → GO X d Q tgt ls st Z M o2) (kf : x = 0 → GO X d Q pc' ls st Z M o1) : GO X d Q pc ls (.int x :: st) Z M (if x = 0 then o1 else o2) := by
  obtain ⟨hd, rfl, ht⟩ := hd
  intro K r M' ho H locs lsA hW hS hL hc hs
  exact lv_if_ne K.1 K.2.1 hd ht (fun h => kt h K r M' (by rw [if_neg h] at ho; exact ho) H locs lsA hW hS hL hc hs) (fun h => kf h K r M' (by rw [if_pos h] at ho; exact ho) H locs lsA hW hS hL hc hs)
theorem g_if_lt (hd : dj d.2.1 pc pc' tgt off (.ifCond .lt off) 3) (kt : x < 0 → GO X d Q tgt ls st Z M o1) (kf : ¬ x < 0 → GO X d Q pc' ls st Z M o2) : GO X d Q pc ls (.int x :: st) Z M (if x < 0 then o1 else o2) := by
  obtain ⟨hd, rfl, ht⟩ := hd
  intro K r M' ho H locs lsA hW hS hL hc hs
  exact lv_if_lt K.1 K.2.1 hd ht (fun h => kt h K r M' (by rw [if_pos h] at ho; exact ho) H locs lsA hW hS hL hc hs) (fun h => kf h K r M' (by rw [if_neg h] at ho; exact ho) H locs lsA hW hS hL hc hs)
theorem g_if_ge (hd : dj d.2.1 pc pc' tgt off (.ifCond .ge off) 3) (kt : 0 ≤ x → GO X d Q tgt ls st Z M o1) (kf : ¬ 0 ≤ x → GO X d Q pc' ls st Z M o2) : GO X d Q pc ls (.int x :: st) Z M (if 0 ≤ x then o1 else o2) := by
  obtain ⟨hd, rfl, ht⟩ := hd
  intro K r M' ho H locs lsA hW hS hL hc hs
  exact lv_if_ge K.1 K.2.1 hd ht (fun h => kt h K r M' (by rw [if_pos h] at ho; exact ho) H locs lsA hW hS hL hc hs) (fun h => kf h K r M' (by rw [if_neg h] at ho; exact ho) H locs lsA hW hS hL hc hs)
theorem g_if_gt (hd : dj d.2.1 pc pc' tgt off (.ifCond .gt off) 3) (kt : 0 < x → GO X d Q tgt ls st Z M o1) (kf : ¬ 0 < x → GO X d Q pc' ls st Z M o2) : GO X d Q pc ls (.int x :: st) Z M (if 0 < x then o1 else o2) := by
  obtain ⟨hd, rfl, ht⟩ := hd
  intro K r M' ho H locs lsA hW hS hL hc hs
  exact lv_if_gt K.1 K.2.1 hd ht (fun h => kt h K r M' (by rw [if_pos h] at ho; exact ho) H locs lsA hW hS hL hc hs) (fun h => kf h K r M' (by rw [if_neg h] at ho; exact ho) H locs lsA hW hS hL hc hs)
theorem g_if_le (hd : dj d.2.1 pc pc' tgt off (.ifCond .le off) 3) (kt : x ≤ 0 → GO X d Q tgt ls st Z M o1) (kf : ¬ x ≤ 0 → GO X d Q pc' ls st Z M o2) : GO X d Q pc ls (.int x :: st) Z M (if x ≤ 0 then o1 else o2) := by
  obtain ⟨hd, rfl, ht⟩ := hd
  intro K r M' ho H locs lsA hW hS hL hc hs
  exact lv_if_le K.1 K.2.1 hd ht (fun h => kt h K r M' (by rw [if_pos h] at ho; exact ho) H locs lsA hW hS hL hc hs) (fun h => kf h K r M' (by rw [if_neg h] at ho; exact ho) H locs lsA hW hS hL hc hs)
theorem g_goto (hd : dj d.2.1 pc pc' tgt off (.goto off) 3) (kk : GO X d Q tgt ls st Z M o) : GO X d Q pc ls st Z M o := by
  obtain ⟨hd, rfl, ht⟩ := hd
  intro K r M' ho H locs lsA hW hS hL hc hs
  exact lv_goto K.1 K.2.1 hd ht (kk K r M' ho H locs lsA hW hS hL hc hs)
theorem g_ifnull (hd : dj d.2.1 pc pc' tgt off (.ifnull off) 3) (kk : GO X d Q pc' ls st Z M o) : GO X d Q pc ls (rf (kG X) k :: st) Z M o := by
  obtain ⟨hd, rfl, ht⟩ := hd
  intro K r M' ho H locs lsA hW hS hL hc hs
  exact lv_ifnull K.1 K.2.1 hd (kk K r M' ho H locs lsA hW hS hL hc hs)
theorem g_ifnullN (hd : dj d.2.1 pc pc' tgt off (.ifnull off) 3) (kk : GO X d Q tgt ls st Z M o) : GO X d Q pc ls (.null :: st) Z M o := by
  obtain ⟨hd, rfl, ht⟩ := hd
  intro K r M' ho H locs lsA hW hS hL hc hs
  exact lv_ifnullN K.1 K.2.1 hd ht (kk K r M' ho H locs lsA hW hS hL hc hs)
theorem g_ifnonnull (hd : dj d.2.1 pc pc' tgt off (.ifnonnull off) 3) (kk : GO X d Q tgt ls st Z M o) : GO X d Q pc ls (rf (kG X) k :: st) Z M o := by
  obtain ⟨hd, rfl, ht⟩ := hd
  intro K r M' ho H locs lsA hW hS hL hc hs
  exact lv_ifnonnull K.1 K.2.1 hd ht (kk K r M' ho H locs lsA hW hS hL hc hs)
theorem g_ifnonnullN (hd : dj d.2.1 pc pc' tgt off (.ifnonnull off) 3) (kk : GO X d Q pc' ls st Z M o) : GO X d Q pc ls (.null :: st) Z M o := by
  obtain ⟨hd, rfl, ht⟩ := hd
  intro K r M' ho H locs lsA hW hS hL hc hs
  exact lv_ifnonnullN K.1 K.2.1 hd (kk K r M' ho H locs lsA hW hS hL hc hs)
theorem g_tswI {dflt lo hi : Int} {offs : Array Int} {len : Nat} (hd : decode d.2.1 pc = .ok (.tableswitch dflt lo hi offs, len)) (c : Int32) (hx : x = c) (h : ¬ c.toInt < lo ∧ ¬ hi < c.toInt ∧ offs[(c.toInt - lo).toNat]? = some off ∧ (pc : Int) + off = (tgt : Int)) (kk : GO X d Q tgt ls st Z M o) : GO X d Q pc ls (.int x :: st) Z M o := by
  subst hx
  intro K r M' ho H locs lsA hW hS hL hc hs
  exact lv_tableIn K.1 K.2.1 hd h.1 h.2.1 h.2.2.1 h.2.2.2 (kk K r M' ho H locs lsA hW hS hL hc hs)
theorem g_tswO {dflt lo hi : Int} {offs : Array Int} {len : Nat} (hd : decode d.2.1 pc = .ok (.tableswitch dflt lo hi offs, len)) (ht : (pc : Int) + dflt = (tgt : Int)) (h : x.toInt < lo ∨ hi < x.toInt) (kk : GO X d Q tgt ls st Z M o) : GO X d Q pc ls (.int x :: st) Z M o := by
  intro K r M' ho H locs lsA hW hS hL hc hs
  exact lv_tableOut K.1 K.2.1 hd h ht (kk K r M' ho H locs lsA hW hS hL hc hs)
theorem g_lsw {dflt : Int} {ps : Array (Int × Int)} {len : Nat} (hd : decode d.2.1 pc = .ok (.lookupswitch dflt ps, len)) (hp : (ps.toList.zip (ps.toList.drop 1)).all (fun (a, next) => a.1 < next.1) = true) (ho' : Op.lookupswitch.offset ps.toList dflt x.toInt = off) (ht : (pc : Int) + off = (tgt : Int)) (kk : GO X d Q tgt ls st Z M o) : GO X d Q pc ls (.int x :: st) Z M o := by
  intro K r M' ho H locs lsA hW hS hL hc hs
  exact lv_lookup K.1 K.2.1 hd hp ho' ht (kk K r M' ho H locs lsA hW hS hL hc hs)
theorem sw_out {lo hi : Int} {x : Int32} (h : ∀ c : Int, lo ≤ c → c ≤ hi → ¬ x = Int32.ofInt c) : x.toInt < lo ∨ hi < x.toInt := by
  by_cases h1 : x.toInt < lo
  · exact Or.inl h1
  · by_cases h2 : hi < x.toInt
    · exact Or.inr h2
    · exact absurd (by simp) (h x.toInt (by omega) (by omega))
end RULES
end
section
/-! the rules of fields, arrays, calls and ends -/
theorem ce_obj {G : KG} {ini : Nat → Nat → Bool} {M : Mm} {k : Nat} (h : kD k < 50) : ce G ini M k = .inr (kD k, fvs (k0 G) (ini k) (M.1 k) k (fD (kD k))) := if_pos h
theorem ce_T {G : KG} {ini : Nat → Nat → Bool} {M : Mm} {k : Nat} (h : kD k = 50) : ce G ini M k = .inl (G.2.2.2.1, 6, .inr (.inr (.inr (.inr (fun j => if ini k j = true then some (k0 G + (k + 1 + 2 * j)) else none))))) := by
  unfold ce
  rw [if_neg (by omega), if_pos h]
theorem ce_I {G : KG} {ini : Nat → Nat → Bool} {M : Mm} {k n : Nat} (h : kD k = 100 + n) (h2 : n < 900) : ce G ini M k = .inl (G.2.1, n, .inl (M.1 k)) := by
  unfold ce
  rw [if_neg (by omega), if_neg (by omega), if_pos (by omega), show kD k - 100 = n by omega]
theorem ce_J {G : KG} {ini : Nat → Nat → Bool} {M : Mm} {k n : Nat} (h : kD k = 1000 + n) : ce G ini M k = .inl (G.2.2.1, n, .inr (.inl (M.2 k))) := by
  unfold ce
  rw [if_neg (by omega), if_neg (by omega), if_neg (by omega), show kD k - 1000 = n by omega]
theorem ce_cg {G : KG} {ini ini' : Nat → Nat → Bool} {M M' : Mm} {k : Nat} (h1 : M'.1 k = M.1 k) (h2 : M'.2 k = M.2 k) (h3 : ini' k = ini k) : ce G ini' M' k = ce G ini M k := by
  unfold ce
  rw [h1, h2, h3]
theorem wI_self (M : Mm) (k j : Nat) (v : Int32) : (wI M k j v).1 k = upd (M.1 k) j v := if_pos rfl
theorem wI_ne (M : Mm) {k q : Nat} (j : Nat) (v : Int32) (h : q ≠ k) : (wI M k j v).1 q = M.1 q := if_neg h
theorem wJ_self (M : Mm) (k j : Nat) (v : Int64) : (wJ M k j v).2 k = updL (M.2 k) j v := if_pos rfl
theorem wJ_ne (M : Mm) {k q : Nat} (j : Nat) (v : Int64) (h : q ≠ k) : (wJ M k j v).2 q = M.2 q := if_neg h
theorem fvs_len (b : Nat) (ini : Nat → Bool) (row : Nat → Int32) (k : Nat) (fl : List (Option Nat)) : (fvs b ini row k fl).length = fl.length := by simp [fvs]
theorem fvs_get {b : Nat} {ini : Nat → Bool} {row : Nat → Int32} {k : Nat} {fl : List (Option Nat)} {j : Nat} {x : Option Nat} (h : fl[j]? = some x) : (fvs b ini row k fl)[j]? = some (fval b ini row k x j) := by
  have hj : j < fl.length := (List.getElem?_eq_some_iff.mp h).1
  unfold fvs
  rw [List.getElem?_map, List.getElem?_range hj]
  show some (fval b ini row k (fl.getD j none) j) = _
  rw [List.getD_eq_getElem?_getD, h]
  rfl
theorem fvs_V {b : Nat} {ini : Nat → Bool} {row : Nat → Int32} {k : Nat} {fl : List (Option Nat)} {j : Nat} (hj : j < fl.length) : vp_V (fvs b ini row k fl) j = fval b ini row k (fl.getD j none) j := by
  have h : fl[j]? = some (fl.getD j none) := by
    rw [List.getD_eq_getElem?_getD, List.getElem?_eq_getElem hj]
    rfl
  unfold vp_V
  rw [List.getD_eq_getElem?_getD, fvs_get h]
  rfl
theorem fvs_set {b : Nat} {ini : Nat → Bool} {row : Nat → Int32} {k : Nat} {fl : List (Option Nat)} {j : Nat} (h : fl[j]? = some none) (x : Int32) : ∀ q, q < fl.length → updV (vp_V (fvs b ini row k fl)) j (.int x) q = vp_V (fvs b ini (upd row j x) k fl) q := by
  intro q hq
  rw [fvs_V hq]
  have hg : fl.getD j none = none := by rw [List.getD_eq_getElem?_getD, h]; rfl
  by_cases he : q = j
  · subst he
    rw [hg]; simp [updV, fval, upd]
  · simp only [updV, if_neg he, fvs_V hq]
    cases fl.getD q none with
    | none => simp [fval, upd, he]
    | some y => simp [fval]
theorem fvs_setR {b : Nat} {ini : Nat → Bool} {row : Nat → Int32} {k : Nat} {fl : List (Option Nat)} {j x : Nat} (h : fl[j]? = some (some x)) : ∀ q, q < fl.length → updV (vp_V (fvs b ini row k fl)) j (.ref (b + (k + x))) q = vp_V (fvs b (fun z => if z = j then true else ini z) row k fl) q := by
  intro q hq
  rw [fvs_V hq]
  have hg : fl.getD j none = some x := by rw [List.getD_eq_getElem?_getD, h]; rfl
  by_cases he : q = j
  · subst he
    rw [hg]; simp [updV, fval]
  · simp only [updV, if_neg he, fvs_V hq]
    cases fl.getD q none with
    | none => simp [fval]
    | some y => simp [fval, he]
theorem fD_len : ∀ (ci : Nat) (C : String) (T : u_T) (N : Nat), cls[ci]? = some (C, T, N) → (fD ci).length = N ∧ ci < 11 := by
  intro ci C T N h
  match ci, h with
  | 0, h => cases h; exact ⟨by decide, by decide⟩
  | 1, h => cases h; exact ⟨by decide, by decide⟩
  | 2, h => cases h; exact ⟨by decide, by decide⟩
  | 3, h => cases h; exact ⟨by decide, by decide⟩
  | 4, h => cases h; exact ⟨by decide, by decide⟩
  | 5, h => cases h; exact ⟨by decide, by decide⟩
  | 6, h => cases h; exact ⟨by decide, by decide⟩
  | 7, h => cases h; exact ⟨by decide, by decide⟩
  | 8, h => cases h; exact ⟨by decide, by decide⟩
  | 9, h => cases h; exact ⟨by decide, by decide⟩
  | 10, h => cases h; exact ⟨by decide, by decide⟩
  | _ + 11, h => cases h
theorem WD.one {G : KG} {n : Nat} {ini : Nat → Nat → Bool} {M : Mm} {H : Heap} (h : WD G n ini M H) {k : Nat} (hk : k < n) : va_P G.1 cls [(k0 G + k, ce G ini M k)] H := by
  intro i q hi
  match i, hi with
  | 0, hi => cases hi; exact h.2 k hk
  | _ + 1, hi => cases hi
theorem WD.put {G : KG} {n : Nat} {ini ini' : Nat → Nat → Bool} {M M' : Mm} {H H' : Heap} (h : WD G n ini M H) {k : Nat} (hz : H'.size = H.size) (ho : ∀ q, q ≠ k0 G + k → H'[q]? = H[q]?) (he : va_at G.1 cls (k0 G + k, ce G ini' M' k) H') (hc : ∀ q, q ≠ k → ce G ini' M' q = ce G ini M q) : WD G n ini' M' H' := by
  refine ⟨hz.trans h.1, fun q hq => ?_⟩
  by_cases hk : q = k
  · subst hk; exact he
  · rw [hc q hk]
    exact (h.2 q hq).kept (ho _ (by show k0 G + q ≠ k0 G + k; omega))
/-- the row of the tables that links a field -/
def FL (own : String) (idx ci j : Nat) : Prop := ∃ (C : String) (T : u_T) (N : Nat), cls[ci]? = some (C, T, N) ∧ j < N ∧ Cond.fieldLink own idx (T j).1 (T j).2.1 (T j).2.2.1 ∈ gtb
def FP (own : String) (idx ci j : Nat) (ty : FieldType) : Prop := ∃ (C : String) (T : u_T) (N : Nat), cls[ci]? = some (C, T, N) ∧ j < N ∧ Cond.fieldLink own idx (T j).1 (T j).2.1 (T j).2.2.1 ∈ gtb ∧ (T j).2.2.2 = false ∧ parseFieldDescriptor (T j).2.2.1 = some ty
def FU (Z : ZZ) : Prop := Z.2.2.1 = 100 ∧ ∀ k j, Z.2.2.2 k j = true
theorem kD_lt {k c : Nat} (h : kD k = c) (hc : c ≠ 99) : k < 100 := by
  rcases Nat.lt_or_ge k 100 with h1 | h1
  · exact h1
  · have : kD k = 99 := by
      unfold kD
      rw [List.getD_eq_getElem?_getD, List.getElem?_eq_none (by show kdl.length ≤ k; exact h1)]
      rfl
    omega
theorem FU.lt {Z : ZZ} (h : FU Z) {k c : Nat} (hk : kD k = c) (hc : c ≠ 99 := by decide) : k < Z.2.2.1 := by
  rw [h.1]; exact kD_lt hk hc
section HEAPR
variable {α β : Type} {X : KX} {d : MD} {Q : α → Mm → State → Prop} {pc pc' tgt idx : Nat} {off : Int} {ls : List (Option Value)} {st : List Value} {Z : ZZ} {M : Mm} {o o1 o2 : Option (α × Mm)} {x y : Int32} {u v : Int64} {i j k ci n : Nat}
theorem g_getI (hd : dc d.2.1 pc pc' (.getfield idx) 3) (hf : FL d.1 idx ci j) (hk : kD k = ci) (hn : k < Z.2.2.1) (hj : (fD ci)[j]? = some none) (kk : GO X d Q pc' ls (.int (M.1 k j) :: st) Z M o) : GO X d Q pc ls (rf (kG X) k :: st) Z M o := by
  obtain ⟨hd, rfl⟩ := hd
  obtain ⟨C, T, N, hcl, hN, hw⟩ := hf
  subst hk
  intro K r M' ho H locs lsA hW hS hL hc hs
  refine va_get (D := (kG X).1) (ws := [(k0 (kG X) + k, ce (kG X) Z.2.2.2 M k)]) (v := .int (M.1 k j)) K.1 K.2.1 K.2.2.2.2.2.1 (cK _ _ _ _ hcl).1 K.2.2.2.2.1 K.2.2.2.2.2.2.2.1.1 (hW.one hn) 0 (by show some _ = some _; rw [ce_obj (by have := (fD_len _ _ _ _ hcl).2; omega)]) hcl j hN (K.2.2.2.2.2.1 _ hw) (fun _ h => h) (fvs_get hj) hd (kk K r M' ho H locs lsA hW hS hL hc hs)
theorem g_getR {z : Nat} (hd : dc d.2.1 pc pc' (.getfield idx) 3) (hf : FL d.1 idx ci j) (hk : kD k = ci) (hn : k < Z.2.2.1) (hi : Z.2.2.2 k j = true) (hj : (fD ci)[j]? = some (some z)) (kk : GO X d Q pc' ls (rf (kG X) (k + z) :: st) Z M o) : GO X d Q pc ls (rf (kG X) k :: st) Z M o := by
  obtain ⟨hd, rfl⟩ := hd
  obtain ⟨C, T, N, hcl, hN, hw⟩ := hf
  subst hk
  intro K r M' ho H locs lsA hW hS hL hc hs
  refine va_get (D := (kG X).1) (ws := [(k0 (kG X) + k, ce (kG X) Z.2.2.2 M k)]) (v := rf (kG X) (k + z)) K.1 K.2.1 K.2.2.2.2.2.1 (cK _ _ _ _ hcl).1 K.2.2.2.2.1 K.2.2.2.2.2.2.2.1.1 (hW.one hn) 0 (by show some _ = some _; rw [ce_obj (by have := (fD_len _ _ _ _ hcl).2; omega)]) hcl j hN (K.2.2.2.2.2.1 _ hw) (fun _ h => h) ?_ hd (kk K r M' ho H locs lsA hW hS hL hc hs)
  rw [fvs_get hj]
  simp [fval, hi]
theorem g_putI {ty : FieldType} (hd : dc d.2.1 pc pc' (.putfield idx) 3) (hf : FP d.1 idx ci j ty) (hk : kD k = ci) (hn : k < Z.2.2.1) (hj : (fD ci)[j]? = some none) (hna : narrow ty (.int x) = .int x) (hfi : fits ty (.int x) = true) (kk : GO X d Q pc' ls st Z (wI M k j x) o) : GO X d Q pc ls (.int x :: rf (kG X) k :: st) Z M o := by
  obtain ⟨hd, rfl⟩ := hd
  obtain ⟨C, T, N, hcl, hN, hw, hfin, hpd⟩ := hf
  subst hk
  intro K r M' ho H locs lsA hW hS hL hc hs
  have hts := K.2.2.2.2.2.1
  obtain ⟨hin, hnm, ty0, hty⟩ := cK _ _ _ _ hcl
  have hKv := K.2.2.2.2.2.2.2.1.1
  obtain ⟨hlen, h11⟩ := fD_len _ _ _ _ hcl
  have hap := va_apart (own := d.1) hts hin ty0 hty hnm hKv hcl
  have hat := hW.2 k hn
  rw [ce_obj (by omega)] at hat
  obtain ⟨r0, h1, cell, q1, q2, q3, q4⟩ := hat
  have hr : r0 = (C, T, N) := Option.some.inj (h1.symm.trans hcl)
  subst hr
  obtain ⟨hSl, hfc, kC, hkC, hkind⟩ := hKv.1 _ _ hcl
  obtain ⟨cf, kf, fi, f, hi, hsl⟩ := hSl j hN
  have hlay := hts _ (hin _ (u_in_lay hN))
  unfold u_lay at hlay
  rw [if_neg (by rw [hfin]; decide)] at hlay
  have hst := (u_facts hfc hkC (u_lays hts hin hN) hi).1
  have h6 := u_store hfc hkC hkind hlay hi hpd hna hfi
  refine W.putK K.1 K.2.1 (f := f) ⟨K.2.2.2.2.1, hts _ hw, ⟨_, _, _, hi⟩, hst⟩ (by rw [q2]; exact h6) q1 q3 (by rw [hsl]; exact k2_hasslot (q4 j hN)) rfl rfl hd fun H' e1 e2 e3 => ?_
  rw [hsl] at e1 ⊢
  refine kk K r M' ho H' _ lsA (hW.put e2 e3 ?_ ?_) (hS.put e2 e3 (Nat.le_add_right _ _)) hL hc hs
  · rw [ce_obj (by omega), wI_self]
    exact ⟨_, hcl, t_OB.to (V := updV (vp_V (fvs (k0 (kG X)) (Z.2.2.2 k) (M.1 k) k (fD (kD k)))) j (.int x)) ⟨_, e1, q2, q3, t_set q4 hap hN (.int x)⟩ (fun q hq => fvs_set hj x q (by rw [hlen]; exact hq))⟩
  · intro q hq
    exact ce_cg (wI_ne M j x hq) rfl rfl
theorem g_iald (hd : dc d.2.1 pc pc' .iaload 1) (hk : kD k = 100 + n) (hr : n < 900) (hn : k < Z.2.2.1) (kk : GO X d Q pc' ls (.int (M.1 k x.toNatClampNeg) :: st) Z M o) (hin : vp_in x n) : GO X d Q pc ls (.int x :: rf (kG X) k :: st) Z M o := by
  obtain ⟨hd, rfl⟩ := hd
  intro K r M' ho H locs lsA hW hS hL hc hs
  exact va_iald (D := (kG X).1) (ws := [(k0 (kG X) + k, ce (kG X) Z.2.2.2 M k)]) (f := M.1 k) K.1 K.2.1 K.2.2.2.2.2.2.2.1.1 (hW.one hn) 0 0 (by show some _ = some _; rw [ce_I hk hr]) rfl hin hd (kk K r M' ho H locs lsA hW hS hL hc hs)
theorem g_lald (hd : dc d.2.1 pc pc' .laload 1) (hk : kD k = 1000 + n) (hn : k < Z.2.2.1) (kk : GO X d Q pc' ls (.long (M.2 k x.toNatClampNeg) :: st) Z M o) (hin : vp_in x n) : GO X d Q pc ls (.int x :: rf (kG X) k :: st) Z M o := by
  obtain ⟨hd, rfl⟩ := hd
  intro K r M' ho H locs lsA hW hS hL hc hs
  exact va_lald (D := (kG X).1) (ws := [(k0 (kG X) + k, ce (kG X) Z.2.2.2 M k)]) (f := M.2 k) K.1 K.2.1 K.2.2.2.2.2.2.2.1.1 (hW.one hn) 0 1 (by show some _ = some _; rw [ce_J hk]) rfl hin hd (kk K r M' ho H locs lsA hW hS hL hc hs)
theorem g_aald (hd : dc d.2.1 pc pc' .aaload 1) (hk : kD k = 50) (hn : k < Z.2.2.1) (hi : ∀ j, Z.2.2.2 k j = true) (kk : GO X d Q pc' ls (rf (kG X) (k + 1 + 2 * x.toNatClampNeg) :: st) Z M o) (hin : vp_in x 6) : GO X d Q pc ls (.int x :: rf (kG X) k :: st) Z M o := by
  obtain ⟨hd, rfl⟩ := hd
  intro K r M' ho H locs lsA hW hS hL hc hs
  refine va_aldq (D := (kG X).1) (ws := [(k0 (kG X) + k, ce (kG X) Z.2.2.2 M k)]) (f := fun j => if Z.2.2.2 k j = true then some (k0 (kG X) + (k + 1 + 2 * j)) else none) K.1 K.2.1 K.2.2.2.2.2.2.2.1.1 (hW.one hn) 0 2 (by show some _ = some _; rw [ce_T hk]) rfl hin hd ?_
  simp only [hi, if_true]
  exact kk K r M' ho H locs lsA hW hS hL hc hs
theorem g_alenI (hd : dc d.2.1 pc pc' .arraylength 1) (hk : kD k = 100 + n) (hr : n < 900) (hn : k < Z.2.2.1) (kk : GO X d Q pc' ls (.int (Int32.ofNat n) :: st) Z M o) : GO X d Q pc ls (rf (kG X) k :: st) Z M o := by
  obtain ⟨hd, rfl⟩ := hd
  intro K r M' ho H locs lsA hW hS hL hc hs
  exact va_alen (D := (kG X).1) (ws := [(k0 (kG X) + k, ce (kG X) Z.2.2.2 M k)]) K.1 K.2.1 K.2.2.2.2.2.2.2.1.1 (hW.one hn) 0 0 (by show some _ = some _; rw [ce_I hk hr]) rfl rfl hd (kk K r M' ho H locs lsA hW hS hL hc hs)
theorem g_alenJ (hd : dc d.2.1 pc pc' .arraylength 1) (hk : kD k = 1000 + n) (hn : k < Z.2.2.1) (kk : GO X d Q pc' ls (.int (Int32.ofNat n) :: st) Z M o) : GO X d Q pc ls (rf (kG X) k :: st) Z M o := by
  obtain ⟨hd, rfl⟩ := hd
  intro K r M' ho H locs lsA hW hS hL hc hs
  exact va_alen (D := (kG X).1) (ws := [(k0 (kG X) + k, ce (kG X) Z.2.2.2 M k)]) K.1 K.2.1 K.2.2.2.2.2.2.2.1.1 (hW.one hn) 0 1 (by show some _ = some _; rw [ce_J hk]) rfl rfl hd (kk K r M' ho H locs lsA hW hS hL hc hs)
theorem g_alenT (hd : dc d.2.1 pc pc' .arraylength 1) (hk : kD k = 50) (hn : k < Z.2.2.1) (kk : GO X d Q pc' ls (.int 6 :: st) Z M o) : GO X d Q pc ls (rf (kG X) k :: st) Z M o := by
  obtain ⟨hd, rfl⟩ := hd
  intro K r M' ho H locs lsA hW hS hL hc hs
  exact va_alen (D := (kG X).1) (ws := [(k0 (kG X) + k, ce (kG X) Z.2.2.2 M k)]) K.1 K.2.1 K.2.2.2.2.2.2.2.1.1 (hW.one hn) 0 2 (by show some _ = some _; rw [ce_T hk]) rfl rfl hd (kk K r M' ho H locs lsA hW hS hL hc hs)
theorem g_iast (hd : dc d.2.1 pc pc' .iastore 1) (hk : kD k = 100 + n) (hr : n < 900) (hn : k < Z.2.2.1) (kk : GO X d Q pc' ls st Z (wI M k x.toNatClampNeg y) o) (hin : vp_in x n) : GO X d Q pc ls (.int y :: .int x :: rf (kG X) k :: st) Z M o := by
  obtain ⟨hd, rfl⟩ := hd
  intro K r M' ho H locs lsA hW hS hL hc hs
  have hat := hW.2 k hn
  rw [ce_I hk hr] at hat
  refine W.iast K.1 K.2.1 hat ((K.2.2.2.2.2.2.2.1.1.2 0 _ rfl).1 n (fun j => .int (M.1 k j))) (fun q => by cases q) (by show ¬ (x < 0 ∨ (arrV _ _ _).slots.size ≤ _); rw [arrV_size]; exact hin) rfl rfl hd fun H1 e z oq => ?_
  refine kk K r M' ho H1 _ lsA (hW.put z oq ?_ (fun q hq => ce_cg (wI_ne M _ y hq) rfl rfl)) (hS.put z oq (Nat.le_add_right _ _)) hL hc hs
  rw [ce_I hk hr, wI_self]
  show H1[_]? = some (vp_cell _ _)
  rw [e, vp_cell_i, vp_cell_i, arrV_store]
  congr 2
  funext q
  by_cases hq : q = x.toNatClampNeg
  · subst hq
    simp [updV, upd]
  · simp [updV, upd, hq]
theorem g_last (hd : dc d.2.1 pc pc' .lastore 1) (hk : kD k = 1000 + n) (hn : k < Z.2.2.1) (kk : GO X d Q pc' ls st Z (wJ M k x.toNatClampNeg u) o) (hin : vp_in x n) : GO X d Q pc ls (.long u :: .int x :: rf (kG X) k :: st) Z M o := by
  obtain ⟨hd, rfl⟩ := hd
  intro K r M' ho H locs lsA hW hS hL hc hs
  have hat := hW.2 k hn
  rw [ce_J hk] at hat
  refine W.last K.1 K.2.1 hat ((K.2.2.2.2.2.2.2.1.1.2 1 _ rfl).1 n (fun j => .long (M.2 k j))) (fun q => by cases q) (by show ¬ (x < 0 ∨ (arrV _ _ _).slots.size ≤ _); rw [arrV_size]; exact hin) rfl rfl hd fun H1 e z oq => ?_
  refine kk K r M' ho H1 _ lsA (hW.put z oq ?_ (fun q hq => ce_cg rfl (wJ_ne M _ u hq) rfl)) (hS.put z oq (Nat.le_add_right _ _)) hL hc hs
  rw [ce_J hk, wJ_self]
  show H1[_]? = some (vp_cell _ _)
  rw [e, vp_cell_l, vp_cell_l, arrV_store]
  congr 2
  funext q
  by_cases hq : q = x.toNatClampNeg
  · subst hq
    simp [updV, updL]
  · simp [updV, updL, hq]
end HEAPR
end
section
/-! a method's end, its contract, its beginning, calls -/
def QC (G : KG) (n : Nat) (ini : Nat → Nat → Bool) (v : Option Value) (M : Mm) : Array Value → State → Outcome → State → Prop := fun _ st oc t => oc = .returned v ∧ WD G n ini M t.heap ∧ va_F (KA G) st t
def QE {α : Type} (X : KX) (rv : α → Option Value) (Z : ZZ) : α → Mm → State → Prop := fun r M' => MQ (kb X) (QC (kG X) Z.2.2.1 Z.2.2.2 (rv r) M') (ka X) (ks X) Z.1 Z.2.1 (KA (kG X))
abbrev rvI (r : Int32) : Option Value := some (.int r)
abbrev rvJ (r : Int64) : Option Value := some (.long r)
abbrev rvU (_ : Unit) : Option Value := none
def rvO (G : KG) (r : Option Nat) : Option Value := some (rfo G r)
section ENDS
variable {α β : Type} {X : KX} {d : MD} {pc pc' : Nat} {ls : List (Option Value)} {Z : ZZ} {M : Mm} {x : Int32} {u : Int64}
theorem g_iret (hd : dc d.2.1 pc pc' .ireturn 1) (hr : d.2.2.2.1 = some .int) : GO X d (QE X rvI Z) pc ls [.int x] Z M (some (x, M)) := by
  obtain ⟨hd, rfl⟩ := hd
  intro K r M' ho H locs lsA hW hS hL hc hs
  cases ho
  exact W.iret K.1 K.2.1 (K.2.2.1.trans hr) (fun t ht hV => ⟨rfl, by rw [ht]; exact hW, hS.F ht⟩) hS.2.2 hd K.2.2.2.2.2.2.1
theorem g_zret (hd : dc d.2.1 pc pc' .ireturn 1) (hr : d.2.2.2.1 = some .boolean) (hx : x = 0 ∨ x = 1) : GO X d (QE X rvI Z) pc ls [.int x] Z M (some (x, M)) := by
  obtain ⟨hd, rfl⟩ := hd
  intro K r M' ho H locs lsA hW hS hL hc hs
  cases ho
  exact W.zret K.1 K.2.1 (K.2.2.1.trans hr) (by rcases hx with rfl | rfl <;> rfl) (fun t ht hV => ⟨rfl, by rw [ht]; exact hW, hS.F ht⟩) hS.2.2 hd K.2.2.2.2.2.2.1
theorem g_lret (hd : dc d.2.1 pc pc' .lreturn 1) (hr : d.2.2.2.1 = some .long) : GO X d (QE X rvJ Z) pc ls [.long u] Z M (some (u, M)) := by
  obtain ⟨hd, rfl⟩ := hd
  intro K r M' ho H locs lsA hW hS hL hc hs
  cases ho
  exact W.lret K.1 K.2.1 (K.2.2.1.trans hr) (fun t ht hV => ⟨rfl, by rw [ht]; exact hW, hS.F ht⟩) hS.2.2 hd K.2.2.2.2.2.2.1
theorem g_vret (hd : dc d.2.1 pc pc' .return_ 1) (hr : d.2.2.2.1 = none) : GO X d (QE X rvU Z) pc ls [] Z M (some ((), M)) := by
  obtain ⟨hd, rfl⟩ := hd
  intro K r M' ho H locs lsA hW hS hL hc hs
  cases ho
  exact W.vret K.1 K.2.1 (K.2.2.1.trans hr) (fun t ht hV => ⟨rfl, by rw [ht]; exact hW, hS.F ht⟩) hS.2.2 hd K.2.2.2.2.2.2.1
theorem g_aret {C : String} {k : Option Nat} {w : Value} (hd : dc d.2.1 pc pc' .areturn 1) (hr : d.2.2.2.1 = some (.object C)) (hw : w = rfo (kG X) k) : GO X d (QE X (rvO (kG X)) Z) pc ls [w] Z M (some (k, M)) := by
  obtain ⟨hd, rfl⟩ := hd
  intro K r M' ho H locs lsA hW hS hL hc hs
  cases ho
  subst hw
  exact W.aret K.1 K.2.1 (K.2.2.1.trans hr) (Or.inl ⟨C, rfl⟩) (by cases k with
    | none => exact Or.inl rfl
    | some k => exact Or.inr ⟨_, rfl⟩) (fun t ht hV => ⟨rfl, by rw [ht]; exact hW, hS.F ht⟩) hS.2.2 hd K.2.2.2.2.2.2.1
end ENDS
def WS (y : MethodName) (d : MD) : List Cond := Cond.code y d.2.1 d.2.2.1 d.2.2.2.1 :: gtb
def RM (d : MD) (mc ms : Nat) : Room := { frames := d.2.2.2.2.1, cells := mc, slots := ms, locals := d.2.2.2.2.2 }
/-- the contract: from these arguments and this memory the method answers v and leaves that memory -/
def CT (l : Launch) (G : KG) (y : MethodName) (d : MD) (mc ms : Nat) (av : List Value) (n : Nat) (ini : Nat → Nat → Bool) (M : Mm) (v : Option Value) (n' : Nat) (ini' : Nat → Nat → Bool) (M' : Mm) : Prop :=
  Met l y (WS y d) (RM d mc ms) (va_Pc av (fun U => WD G n ini M U.heap ∧ VK G U)) (QC G n' ini' v M') mc ms (KA G)
def ent (av : List Value) : List (Option Value) := av.flatMap (fun v => if v.category = 2 then [some v, none] else [some v])
theorem ent_ok : ∀ (av : List Value) (m i : Nat) (k : Nat) (v : Value), (ent av ++ List.replicate m none)[k]? = some (some v) → (i + k, v) ∈ lv_args i av
  | [], m, i, k, v, h => by
    simp [ent, List.getElem?_replicate] at h
  | a :: av, m, i, k, v, h => by
    have e : ent (a :: av) = (if a.category = 2 then [some a, none] else [some a]) ++ ent av := by simp [ent]
    rw [e] at h
    show (i + k, v) ∈ (i, a) :: lv_args (if a.category = 2 then i + 2 else i + 1) av
    by_cases hc : a.category = 2
    · rw [if_pos hc] at h ⊢
      match k, h with
      | 0, h => simp at h; subst h; exact List.mem_cons_self
      | 1, h => simp at h
      | k + 2, h =>
        have h2 : (ent av ++ List.replicate m none)[k]? = some (some v) := by simpa using h
        have := ent_ok av m (i + 2) k v h2
        rw [show i + (k + 2) = i + 2 + k by omega]
        exact List.mem_cons_of_mem _ this
    · rw [if_neg hc] at h ⊢
      match k, h with
      | 0, h => simp at h; subst h; exact List.mem_cons_self
      | k + 1, h =>
        have h2 : (ent av ++ List.replicate m none)[k]? = some (some v) := by simpa using h
        have := ent_ok av m (i + 1) k v h2
        rw [show i + (k + 1) = i + 1 + k by omega]
        exact List.mem_cons_of_mem _ this
theorem CT.of {α : Type} {l : Launch} {G : KG} {y : MethodName} {d : MD} {av : List Value} {Z Z' : ZZ} {M M' : Mm} {rv : α → Option Value} {r : α} {o : Option (α × Mm)} {ls : List (Option Value)} (m : Nat)
    (hy : plainName y.cls = true) (hown : d.1 = y.cls) (hz : Z.1 = 0 ∧ Z.2.1 = 0) (hargs : (lg_sl av).length ≤ d.2.2.1) (hls : ls = ent av ++ List.replicate m none) (ho : o = some (r, M'))
    (body : ∀ X : KX, kl X = l → kG X = G → GO X d (QE X rv Z') 0 ls [] Z M o) : CT l G y d Z'.1 Z'.2.1 av Z.2.2.1 Z.2.2.2 M (rv r) Z'.2.2.1 Z'.2.2.2 M' := by
  refine Met.ofW (cc := d.2.1) (maxL := d.2.2.1) (ret := d.2.2.2.1) hy rfl ?_
  intro p e s m0 args below meth c s₁ B hml hv
  obtain ⟨rfl, hW, hK⟩ := hv
  have hts := atoms_spec (ws := WS y d) B.pre
  have hl := lv_entry av hargs
  have he : entryFrame m0 av.toArray d.2.2.1 = F0 m0 0 ((lg_sl av ++ List.replicate (d.2.2.1 - (lg_sl av).length) Slot.unset).toArray) [] := by rw [lg_entry_eq]
  rw [he]
  have hb := body ((p, l, e, (headSpec (WS y d) (RM d Z'.1 Z'.2.1)).room, s, m0), (av.toArray, below, meth, c), G) rfl rfl
  have h0 := hb ⟨B.exec, B.bytes, B.returns, hml, by rw [hown]; exact findClass_of_methodNamed B.named, fun w hw => hts w (List.mem_cons_of_mem _ hw), B.notSynchronized, hK, Nat.le_refl _, Nat.le_refl _⟩ r M' ho s.heap [] _ hW va_S.rf ⟨_, hl, fun k v hk => by rw [hls] at hk; have := ent_ok av m 0 k v hk; rwa [Nat.zero_add] at this⟩ (by rw [hz.1]; exact Nat.zero_le _) (by rw [hz.2]; exact Nat.zero_le _)
  rw [hz.1, hz.2] at h0
  exact h0
/-- what the tables say of a method: its code, its class; how many arguments -/
def MY (y : MethodName) (d : MD) (na : Nat) : Prop := Cond.code y d.2.1 d.2.2.1 d.2.2.2.1 ∈ gtb ∧ Cond.initialized y.cls ∈ gtb ∧ (y.cls ≠ "java/lang/invoke/MethodHandle" ∧ y.cls ≠ "java/lang/invoke/VarHandle" ∧ (parseMethodDescriptor y.desc).map (fun d => d.parameters.length) = some na)
def MV (own : String) (idx : Nat) (y : MethodName) : Prop := Cond.methodLink own idx y ∈ gtb ∧ Cond.instanceMethod y ∈ gtb ∧ Cond.selects y.cls y y ∈ gtb
def MS (own : String) (idx : Nat) (y : MethodName) : Prop := Cond.methodLink own idx y ∈ gtb ∧ Cond.static y ∈ gtb
theorem VK.moved {G : KG} {s U : State} (h : VK G s) (hW : s.WarmedH U.vm) : VK G U := ⟨va_K.moved hW.alike h.1, fun q hq => va_Nw.warmM hW (h.2.1 q hq), va_AO.moved hW.alike h.2.2⟩
/-- a static method of a nest mate -/
def MN (own : String) (idx : Nat) (y : MethodName) (host : String) : Prop := (own, idx, y, host) ∈ ntb ∧ Cond.static y ∈ gtb
section CALLS
variable {α β : Type} {X : KX} {d dy : MD} {Q : α → Mm → State → Prop} {pc pc' idx na : Nat} {ls : List (Option Value)} {st st0 : List Value} {Z : ZZ} {M : Mm} {y : MethodName} {As : List Value} {rv : β → Option Value} {oc : Option (β × Mm)} {f : β → Mm → Option (α × Mm)} {k ci : Nat} {C : String} {T : u_T} {N : Nat}
theorem blind_WD {G : KG} {n : Nat} {ini : Nat → Nat → Bool} {M : Mm} {av : List Value} : FrameBlind (va_Pc av (fun U => WD G n ini M U.heap ∧ VK G U)) := by
  intro a U g mk ⟨h1, h2, h3⟩
  exact ⟨h1, h2, va_K.moved (u := U) (U := U.calling g mk a) (Vm.Alike.refl U.vm) h3.1, fun q hq => va_Nw.same rfl rfl (h3.2.1 q hq), va_AO.moved (u := U) (U := U.calling g mk a) (Vm.Alike.refl U.vm) h3.2.2⟩
theorem callB_ok (K : KOK X d) (hy : MY y dy na) (hl : Cond.methodLink d.1 idx y ∈ gtb) (hR : dy.2.2.2.2.1 + 1 ≤ d.2.2.2.2.1 ∧ 8 + (dy.2.2.1 + 11) + dy.2.2.2.2.2 ≤ d.2.2.2.2.2) (mc ms : Nat) : CallB (kr X) (ks X) (ka X) d.1 idx y dy.2.1 dy.2.2.1 dy.2.2.2.1 (WS y dy) (RM dy mc ms) mc ms na := by
  have hts := K.2.2.2.2.2.1
  refine callB_of na hts ?_ rfl rfl rfl (hts _ hy.2.1) (hts _ hl) hy.2.2 ⟨Nat.le_trans hR.1 K.2.2.2.2.2.2.2.2.1, Nat.le_trans hR.2 K.2.2.2.2.2.2.2.2.2⟩
  intro w hw
  rcases List.mem_cons.mp hw with rfl | hw
  · exact ⟨hy.1, good_of_word (gtb_good _ hy.1)⟩
  · exact ⟨hw, good_of_word (gtb_good _ hw)⟩
theorem g_callK {Z' : ZZ} {H : Heap} {locs : List Loc} {lsA : Array Slot} {r : α} {M' : Mm} {mc ms : Nat} {a : Array Value} {rc : β} {Mc : Mm}
    (run : va_Run (kp X) (kl X) (ke X) (kr X) (ks X) (km X) (ka X) (kb X) (kt X) (kc X) H locs Z.1 Z.2.1 mc ms (F0 (km X) pc lsA st0) st (QC (kG X) Z'.2.2.1 Z'.2.2.2 (rv rc) Mc a) (KA (kG X)))
    (hS : va_S (KA (kG X)) (ks X).heap H locs) (hZ : Z'.1 = Z.1 + mc ∧ Z'.2.1 = Z.2.1 + ms)
    (kk : ∀ (H1 : Heap) (locs1 : List Loc), WD (kG X) Z'.2.2.1 Z'.2.2.2 Mc H1 → va_S (KA (kG X)) (ks X).heap H1 locs1 → W (kp X) (kl X) (ke X) (kr X) (ks X) (km X) (ka X) (kb X) (kt X) (kc X) H1 locs1 Z'.1 Z'.2.1 (Q r M') (F0 (km X) (pc + 3) lsA ((rv rc).toList ++ st))) :
    W (kp X) (kl X) (ke X) (kr X) (ks X) (km X) (ka X) (kb X) (kt X) (kc X) H locs Z.1 Z.2.1 (Q r M') (F0 (km X) pc lsA st0) := by
  intro T0 hT XX
  obtain ⟨v, st₀, t, T', L, h0, X', hL, e1, e2, ⟨hv, hWt, hz, hk⟩, stp⟩ := run T0 hT XX
  cases hv
  rw [h0] at hz hk
  have hW' : WD (kG X) Z'.2.2.1 Z'.2.2.2 Mc T'.heap := by rw [e1]; exact hWt
  rw [← hZ.1, ← hZ.2] at X'
  obtain ⟨t2, a1, b1⟩ := kk T'.heap (locs ++ L) hW' ⟨Nat.le_trans hS.1 (by rw [e1]; exact hz), fun q h1 h2 => by rw [e1, hk q (Nat.lt_of_lt_of_le h1 hS.1) h2]; exact hS.2.1 q h1 h2, fun q hq => by
    rcases List.mem_append.mp hq with h | h
    · exact hS.2.2 q h
    · exact hL q h⟩ T' rfl X'
  exact ⟨t2, stp t2 a1, b1⟩
theorem g_callV (hd : dc d.2.1 pc pc' (.invokevirtual idx) 3) (hm : MV d.1 idx y) (hy : MY y dy na) (hR : dy.2.2.2.2.1 + 1 ≤ d.2.2.2.2.1 ∧ 8 + (dy.2.2.1 + 11) + dy.2.2.2.2.2 ≤ d.2.2.2.2.2)
    (hst : st0 = As.reverse ++ rf (kG X) k :: st) (hna : As.length = na) (hk : kD k = ci) (hn : k < Z.2.2.1) (hcl : cls[ci]? = some (y.cls, T, N)) (hcat : (st.map fun v => v.category).sum ≤ 8) (hlen : ls.length = d.2.2.1)
    (hct : ∀ r M', oc = some (r, M') → CT (kl X) (kG X) y dy 0 0 (rf (kG X) k :: As) Z.2.2.1 Z.2.2.2 M (rv r) Z.2.2.1 Z.2.2.2 M')
    (kk : ∀ r M', oc = some (r, M') → GO X d Q pc' ls ((rv r).toList ++ st) Z M' (f r M')) : GO X d Q pc ls st0 Z M (bD oc f) := by
  obtain ⟨hd, rfl⟩ := hd
  subst hst
  intro K r M' ho H locs lsA hW hS hL hc hs
  obtain ⟨rc, Mc, h1, h2⟩ := bD_some ho
  have hts := K.2.2.2.2.2.1
  have hKV := K.2.2.2.2.2.2.2.1
  have hKv := hKV.1
  refine g_callK (Z' := Z) (mc := 0) (ms := 0) (va_runV (As := As) (rest := st) ⟨K.1, K.2.1, K.2.2.2.1, K.2.2.2.2.1, hts⟩ (hct rc Mc h1) ⟨callB_ok K hy hm.1 hR 0 0, hts _ hm.2.1, hts _ hm.2.2⟩ ⟨blind_WD, va_recv hKv (hW.one hn) hcl (q0 := 0) (by subst hk; show some _ = some _; rw [ce_obj (by have := (fD_len _ _ _ _ hcl).2; omega)]), fun U hU hV => ⟨rfl, by rw [hU]; exact hW, hKV.moved hV⟩⟩ rfl hna (by obtain ⟨l, h, _⟩ := hL; exact h.1) rfl (lv_room hcat) hd ⟨hc, hs⟩) hS ⟨rfl, rfl⟩ fun H1 locs1 hW1 hS1 => ?_
  exact kk rc Mc h1 K r M' h2 H1 locs1 lsA hW1 hS1 hL hc hs
theorem g_callS (hd : dc d.2.1 pc pc' (.invokestatic idx) 3) (hm : MS d.1 idx y) (hy : MY y dy na) (hR : dy.2.2.2.2.1 + 1 ≤ d.2.2.2.2.1 ∧ 8 + (dy.2.2.1 + 11) + dy.2.2.2.2.2 ≤ d.2.2.2.2.2)
    (hst : st0 = As.reverse ++ st) (hna : As.length = na) (hcat : (st.map fun v => v.category).sum ≤ 8)
    (hct : ∀ r M', oc = some (r, M') → CT (kl X) (kG X) y dy 0 0 As Z.2.2.1 Z.2.2.2 M (rv r) Z.2.2.1 Z.2.2.2 M')
    (kk : ∀ r M', oc = some (r, M') → GO X d Q pc' ls ((rv r).toList ++ st) Z M' (f r M')) : GO X d Q pc ls st0 Z M (bD oc f) := by
  obtain ⟨hd, rfl⟩ := hd
  subst hst
  intro K r M' ho H locs lsA hW hS hL hc hs
  obtain ⟨rc, Mc, h1, h2⟩ := bD_some ho
  have hts := K.2.2.2.2.2.1
  have hKV := K.2.2.2.2.2.2.2.1
  have hKv := hKV.1
  refine g_callK (Z' := Z) (mc := 0) (ms := 0) (va_runS (As := As) (rest := st) ⟨K.1, K.2.1, K.2.2.2.1, K.2.2.2.2.1, hts⟩ (hct rc Mc h1) ⟨callB_ok K hy hm.1 hR 0 0, hts _ hm.2⟩ ⟨blind_WD, fun U hU hV => ⟨rfl, by rw [hU]; exact hW, hKV.moved hV⟩⟩ rfl hna (by obtain ⟨l, h, _⟩ := hL; exact h.1) rfl (lv_room hcat) hd ⟨hc, hs⟩) hS ⟨rfl, rfl⟩ fun H1 locs1 hW1 hS1 => ?_
  exact kk rc Mc h1 K r M' h2 H1 locs1 lsA hW1 hS1 hL hc hs
theorem callN_ok {host : String} (K : KOK X d) (hy : MY y dy na) (hl : (d.1, idx, y, host) ∈ ntb) (hR : dy.2.2.2.2.1 + 1 ≤ d.2.2.2.2.1 ∧ 8 + (dy.2.2.1 + 11) + dy.2.2.2.2.2 ≤ d.2.2.2.2.2) (mc ms : Nat) : va_CN (kr X) (ks X) (ka X) d.1 idx y host dy.2.1 dy.2.2.1 dy.2.2.2.1 (WS y dy) (RM dy mc ms) mc ms na := by
  have hts := K.2.2.2.2.2.1
  refine va_cnB na hts ?_ rfl rfl rfl (K.2.2.2.2.2.2.2.1.2.1 _ hl) (hts _ hy.2.1) hy.2.2 ⟨Nat.le_trans hR.1 K.2.2.2.2.2.2.2.2.1, Nat.le_trans hR.2 K.2.2.2.2.2.2.2.2.2⟩
  intro w hw
  rcases List.mem_cons.mp hw with rfl | hw
  · exact ⟨hy.1, good_of_word (gtb_good _ hy.1)⟩
  · exact ⟨hw, good_of_word (gtb_good _ hw)⟩
theorem g_callSN {host : String} (hd : dc d.2.1 pc pc' (.invokestatic idx) 3) (hm : MN d.1 idx y host) (hy : MY y dy na) (hR : dy.2.2.2.2.1 + 1 ≤ d.2.2.2.2.1 ∧ 8 + (dy.2.2.1 + 11) + dy.2.2.2.2.2 ≤ d.2.2.2.2.2)
    (hst : st0 = As.reverse ++ st) (hna : As.length = na) (hcat : (st.map fun v => v.category).sum ≤ 8)
    (hct : ∀ r M', oc = some (r, M') → CT (kl X) (kG X) y dy 0 0 As Z.2.2.1 Z.2.2.2 M (rv r) Z.2.2.1 Z.2.2.2 M')
    (kk : ∀ r M', oc = some (r, M') → GO X d Q pc' ls ((rv r).toList ++ st) Z M' (f r M')) : GO X d Q pc ls st0 Z M (bD oc f) := by
  obtain ⟨hd, rfl⟩ := hd
  subst hst
  intro K r M' ho H locs lsA hW hS hL hc hs
  obtain ⟨rc, Mc, h1, h2⟩ := bD_some ho
  have hts := K.2.2.2.2.2.1
  have hKV := K.2.2.2.2.2.2.2.1
  have hKv := hKV.1
  refine g_callK (Z' := Z) (mc := 0) (ms := 0) (va_runSN (As := As) (rest := st) ⟨K.1, K.2.1, K.2.2.2.1, K.2.2.2.2.1, hts⟩ (hct rc Mc h1) ⟨callN_ok K hy hm.1 hR 0 0, hts _ hm.2, trivial⟩ ⟨blind_WD, fun U hU hV => ⟨rfl, by rw [hU]; exact hW, hKV.moved hV⟩⟩ rfl hna (by obtain ⟨l, h, _⟩ := hL; exact h.1) rfl (lv_room hcat) hd ⟨hc, hs⟩) hS ⟨rfl, rfl⟩ fun H1 locs1 hW1 hS1 => ?_
  exact kk rc Mc h1 K r M' h2 H1 locs1 lsA hW1 hS1 hL hc hs
theorem g_mmax {x y : Int32} {o : Option (α × Mm)} (hd : dc d.2.1 pc pc' (.invokestatic idx) 3) (hl : Cond.methodLink d.1 idx Lib.Math.max.name ∈ gtb ∧ Cond.static Lib.Math.max.name ∈ gtb ∧ Cond.initialized "java/lang/Math" ∈ gtb ∧ Cond.code Lib.Math.max.name Lib.Math.max.code 2 (some .int) ∈ gtb)
    (hR : 1 ≤ d.2.2.2.2.1 ∧ (st.map fun v => v.category).sum + 13 ≤ d.2.2.2.2.2) (kk : GO X d Q pc' ls (.int (if x < y then y else x) :: st) Z M o) : GO X d Q pc ls (.int y :: .int x :: st) Z M o := by
  obtain ⟨hd, rfl⟩ := hd
  intro K r M' ho H locs lsA hW hS hL hc hs
  have hts := K.2.2.2.2.2.1
  exact va_mmax K.1 K.2.1 (by obtain ⟨l, h, _⟩ := hL; rw [K.2.2.2.1]; exact h.1.symm) K.2.2.2.2.1 (hts _ hl.1) (hts _ hl.2.1) (hts _ hl.2.2.1) (hts _ hl.2.2.2) (Nat.le_trans hR.1 K.2.2.2.2.2.2.2.2.1) (Nat.le_trans hR.2 K.2.2.2.2.2.2.2.2.2) hc hs hd (kk K r M' ho H locs lsA hW hS hL hc hs)
theorem g_mmin {x y : Int32} {o : Option (α × Mm)} (hd : dc d.2.1 pc pc' (.invokestatic idx) 3) (hl : Cond.methodLink d.1 idx Lib.Math.min.name ∈ gtb ∧ Cond.static Lib.Math.min.name ∈ gtb ∧ Cond.initialized "java/lang/Math" ∈ gtb ∧ Cond.code Lib.Math.min.name Lib.Math.min.code 2 (some .int) ∈ gtb)
    (hR : 1 ≤ d.2.2.2.2.1 ∧ (st.map fun v => v.category).sum + 13 ≤ d.2.2.2.2.2) (kk : GO X d Q pc' ls (.int (if y < x then y else x) :: st) Z M o) : GO X d Q pc ls (.int y :: .int x :: st) Z M o := by
  obtain ⟨hd, rfl⟩ := hd
  intro K r M' ho H locs lsA hW hS hL hc hs
  have hts := K.2.2.2.2.2.1
  exact va_mmin K.1 K.2.1 (by obtain ⟨l, h, _⟩ := hL; rw [K.2.2.2.1]; exact h.1.symm) K.2.2.2.2.1 (hts _ hl.1) (hts _ hl.2.1) (hts _ hl.2.2.1) (hts _ hl.2.2.2) (Nat.le_trans hR.1 K.2.2.2.2.2.2.2.2.1) (Nat.le_trans hR.2 K.2.2.2.2.2.2.2.2.2) hc hs hd (kk K r M' ho H locs lsA hW hS hL hc hs)
theorem g_have {o o2 : Option (α × Mm)} {lsq : List (Option Value)} {stq : List Value} {pq : Nat} (h1 : GO X d Q pq lsq stq Z M o) (h2 : GO X d Q pq lsq stq Z M o → GO X d Q pc ls st Z M o2) : GO X d Q pc ls st Z M o2 := h2 h1
theorem g_phi0 {o : Option (α × Mm)} (J : Nat) (lsJ : List (Option Value)) (stJ : List Value) (hj : GO X d Q J lsJ stJ Z M o) (hb : GO X d Q J lsJ stJ Z M o → GO X d Q pc ls st Z M o) : GO X d Q pc ls st Z M o := hb hj
theorem g_phi1 {t1 : Int32} {g : Int32 → Option (α × Mm)} (J : Nat) (lsJ : Int32 → List (Option Value)) (stJ : Int32 → List Value) (hj : ∀ x, GO X d Q J (lsJ x) (stJ x) Z M (g x)) (hb : (∀ x, GO X d Q J (lsJ x) (stJ x) Z M (g x)) → GO X d Q pc ls st Z M (lT t1 g)) : GO X d Q pc ls st Z M (lT t1 g) := hb hj
theorem g_phi2 {t1 t2 : Int32} {g : Int32 → Int32 → Option (α × Mm)} (J : Nat) (lsJ : Int32 → Int32 → List (Option Value)) (stJ : Int32 → Int32 → List Value) (hj : ∀ x y, GO X d Q J (lsJ x y) (stJ x y) Z M (g x y)) (hb : (∀ x y, GO X d Q J (lsJ x y) (stJ x y) Z M (g x y)) → GO X d Q pc ls st Z M (lT t1 fun x => lT t2 (g x))) : GO X d Q pc ls st Z M (lT t1 fun x => lT t2 (g x)) := hb hj
theorem g_phi3 {t1 t2 t3 : Int32} {g : Int32 → Int32 → Int32 → Option (α × Mm)} (J : Nat) (lsJ : Int32 → Int32 → Int32 → List (Option Value)) (stJ : Int32 → Int32 → Int32 → List Value) (hj : ∀ x y z, GO X d Q J (lsJ x y z) (stJ x y z) Z M (g x y z)) (hb : (∀ x y z, GO X d Q J (lsJ x y z) (stJ x y z) Z M (g x y z)) → GO X d Q pc ls st Z M (lT t1 fun x => lT t2 fun y => lT t3 (g x y))) : GO X d Q pc ls st Z M (lT t1 fun x => lT t2 fun y => lT t3 (g x y)) := hb hj
theorem g_phi4 {t1 t2 t3 t4 : Int32} {g : Int32 → Int32 → Int32 → Int32 → Option (α × Mm)} (J : Nat) (lsJ : Int32 → Int32 → Int32 → Int32 → List (Option Value)) (stJ : Int32 → Int32 → Int32 → Int32 → List Value) (hj : ∀ x y z w, GO X d Q J (lsJ x y z w) (stJ x y z w) Z M (g x y z w)) (hb : (∀ x y z w, GO X d Q J (lsJ x y z w) (stJ x y z w) Z M (g x y z w)) → GO X d Q pc ls st Z M (lT t1 fun x => lT t2 fun y => lT t3 fun z => lT t4 (g x y z))) : GO X d Q pc ls st Z M (lT t1 fun x => lT t2 fun y => lT t3 fun z => lT t4 (g x y z)) := hb hj
end CALLS
end
section
/-! rules whose term names what comes (lT), guards what may fail -/
def ib (x : Int32) (n : Nat) : Bool := decide (0 ≤ x) && decide (x.toNatClampNeg < n)
theorem ib_in {x : Int32} {n : Nat} (h : ib x n = true) : vp_in x n := by
  simp only [ib, Bool.and_eq_true, decide_eq_true_eq] at h
  rintro (h1 | h1)
  · exact absurd h.1 (Int32.not_le.mpr h1)
  · omega
def oE {γ : Type} (r : Option Nat) (a : γ) (f : Nat → γ) : γ := match r with
  | none => a
  | some k => f k
def fuel : Nat := 5000
def aL (k : Nat) : Nat := kD k - 100
def WKp : List (Option Value) → List (Option Value) → Prop
  | [], _ => True
  | none :: a, [] => WKp a []
  | none :: a, _ :: b => WKp a b
  | some v :: a, x :: b => x = some v ∧ WKp a b
  | some _ :: _, [] => False
theorem WKp.ok : ∀ (a b : List (Option Value)), WKp a b → ∀ (k : Nat) (v : Value), a[k]? = some (some v) → b[k]? = some (some v)
  | [], _, _, k, v, h => by simp at h
  | none :: a, [], h0, 0, v, h => by simp at h
  | none :: a, [], h0, k + 1, v, h => by
    have := WKp.ok a [] h0 k v (by simpa using h)
    simp at this
  | none :: a, _ :: b, h0, 0, v, h => by simp at h
  | none :: a, _ :: b, h0, k + 1, v, h => by simpa using WKp.ok a b h0 k v (by simpa using h)
  | some w :: a, x :: b, h0, 0, v, h => by
    have h1 : w = v := by simpa using h
    rw [h0.1, h1]
    rfl
  | some w :: a, x :: b, h0, k + 1, v, h => by simpa using WKp.ok a b h0.2 k v (by simpa using h)
  | some w :: a, [], h0, k, v, h => h0.elim
section LETS
variable {α β : Type} {X : KX} {d dy : MD} {Q : α → Mm → State → Prop} {pc pc' tgt idx : Nat} {off : Int} {ls ls' : List (Option Value)} {st : List Value} {Z : ZZ} {M : Mm} {o : Option (α × Mm)} {x y c : Int32} {u v : Int64} {i j k ci n : Nat} {fI : Int32 → Option (α × Mm)} {fJ : Int64 → Option (α × Mm)} {fM : Mm → Option (α × Mm)}
theorem g_wk (h : WKp ls' ls) (kk : GO X d Q pc ls' st Z M o) : GO X d Q pc ls st Z M o := g_weak (WKp.ok _ _ h) kk
theorem g_istoreL_n {n : Fin 4} (hd : dc d.2.1 pc pc' (.istore_n n) 1) (hn : (n : Nat) < d.2.2.1) (hg : nlo ls n = true) (kk : ∀ z, GO X d Q pc' (ls.set n (some (.int z))) st Z M (fI z)) : GO X d Q pc ls (.int x :: st) Z M (lT x fI) := g_istore_n hd hn hg (kk x)
theorem g_istoreL (hd : dc d.2.1 pc pc' (.istore i) 2) (hn : i < d.2.2.1) (hg : nlo ls i = true) (kk : ∀ z, GO X d Q pc' (ls.set i (some (.int z))) st Z M (fI z)) : GO X d Q pc ls (.int x :: st) Z M (lT x fI) := g_istore hd hn hg (kk x)
theorem g_lstoreL_n {n : Fin 4} (hd : dc d.2.1 pc pc' (.lstore_n n) 1) (hn : (n : Nat) + 1 < d.2.2.1) (hg : nlo ls n = true) (kk : ∀ z, GO X d Q pc' ((ls.set n (some (.long z))).set (n + 1) none) st Z M (fJ z)) : GO X d Q pc ls (.long u :: st) Z M (lT u fJ) := g_lstore_n hd hn hg (kk u)
theorem g_lstoreL (hd : dc d.2.1 pc pc' (.lstore i) 2) (hn : i + 1 < d.2.2.1) (hg : nlo ls i = true) (kk : ∀ z, GO X d Q pc' ((ls.set i (some (.long z))).set (i + 1) none) st Z M (fJ z)) : GO X d Q pc ls (.long u :: st) Z M (lT u fJ) := g_lstore hd hn hg (kk u)
theorem g_iincL {n : Int} (hd : dc d.2.1 pc pc' (.iinc i n) 3) (hv : ls[i]? = some (some (.int x))) (hy : Int32.ofInt n = c) (hn : i < d.2.2.1) (hg : nlo ls i = true) (kk : ∀ z, GO X d Q pc' (ls.set i (some (.int z))) st Z M (fI z)) : GO X d Q pc ls st Z M (lT (x + c) fI) := g_iinc hd hv (by rw [hy]) hn hg (kk (x + c))
theorem g_putL {ty : FieldType} (hd : dc d.2.1 pc pc' (.putfield idx) 3) (hf : FP d.1 idx ci j ty) (hk : kD k = ci) (hn : k < Z.2.2.1) (hj : (fD ci)[j]? = some none) (hna : narrow ty (.int x) = .int x) (hfi : fits ty (.int x) = true) (kk : ∀ M1, GO X d Q pc' ls st Z M1 (fM M1)) : GO X d Q pc ls (.int x :: rf (kG X) k :: st) Z M (lT (wI M k j x) fM) := g_putI hd hf hk hn hj hna hfi (kk _)
theorem g_ialdG (hd : dc d.2.1 pc pc' .iaload 1) (hk : kD k = 100 + n ∧ n < 900) (hn : k < Z.2.2.1) (kk : GO X d Q pc' ls (.int (M.1 k x.toNatClampNeg) :: st) Z M o) : GO X d Q pc ls (.int x :: rf (kG X) k :: st) Z M (if ib x n = true then o else none) := g_grd fun h => g_iald hd hk.1 hk.2 hn kk (ib_in h)
theorem g_laldG (hd : dc d.2.1 pc pc' .laload 1) (hk : kD k = 1000 + n) (hn : k < Z.2.2.1) (kk : GO X d Q pc' ls (.long (M.2 k x.toNatClampNeg) :: st) Z M o) : GO X d Q pc ls (.int x :: rf (kG X) k :: st) Z M (if ib x n = true then o else none) := g_grd fun h => g_lald hd hk hn kk (ib_in h)
theorem g_aaldG (hd : dc d.2.1 pc pc' .aaload 1) (hz : FU Z) (hk : kD k = 50) (kk : GO X d Q pc' ls (rf (kG X) (k + 1 + 2 * x.toNatClampNeg) :: st) Z M o) : GO X d Q pc ls (.int x :: rf (kG X) k :: st) Z M (if ib x 6 = true then o else none) := g_grd fun h => g_aald hd hk (hz.lt hk) (fun j => hz.2 k j) kk (ib_in h)
theorem g_iastG (hd : dc d.2.1 pc pc' .iastore 1) (hk : kD k = 100 + n ∧ n < 900) (hn : k < Z.2.2.1) (kk : ∀ M1, GO X d Q pc' ls st Z M1 (fM M1)) : GO X d Q pc ls (.int y :: .int x :: rf (kG X) k :: st) Z M (if ib x n = true then lT (wI M k x.toNatClampNeg y) fM else none) := g_grd fun h => g_iast hd hk.1 hk.2 hn (kk _) (ib_in h)
theorem g_lastG (hd : dc d.2.1 pc pc' .lastore 1) (hk : kD k = 1000 + n) (hn : k < Z.2.2.1) (kk : ∀ M1, GO X d Q pc' ls st Z M1 (fM M1)) : GO X d Q pc ls (.long u :: .int x :: rf (kG X) k :: st) Z M (if ib x n = true then lT (wJ M k x.toNatClampNeg u) fM else none) := g_grd fun h => g_last hd hk hn (kk _) (ib_in h)
theorem g_idivG (hd : dc d.2.1 pc pc' .idiv 1) (kk : GO X d Q pc' ls (.int (x / y) :: st) Z M o) : GO X d Q pc ls (.int y :: .int x :: st) Z M (if y = 0 then none else o) := g_ite (fun _ => g_none) (fun h => g_idiv hd h kk)
theorem g_iremG (hd : dc d.2.1 pc pc' .irem 1) (kk : GO X d Q pc' ls (.int (x % y) :: st) Z M o) : GO X d Q pc ls (.int y :: .int x :: st) Z M (if y = 0 then none else o) := g_ite (fun _ => g_none) (fun h => g_irem hd h kk)
theorem g_ldivG (hd : dc d.2.1 pc pc' .ldiv 1) (kk : GO X d Q pc' ls (.long (u / v) :: st) Z M o) : GO X d Q pc ls (.long v :: .long u :: st) Z M (if v = 0 then none else o) := g_ite (fun _ => g_none) (fun h => g_ldiv hd h kk)
theorem g_lremG (hd : dc d.2.1 pc pc' .lrem 1) (kk : GO X d Q pc' ls (.long (u % v) :: st) Z M o) : GO X d Q pc ls (.long v :: .long u :: st) Z M (if v = 0 then none else o) := g_ite (fun _ => g_none) (fun h => g_lrem hd h kk)
theorem g_zretG (hd : dc d.2.1 pc pc' .ireturn 1) (hr : d.2.2.2.1 = some .boolean) : GO X d (QE X rvI Z) pc ls [.int x] Z M (if x = 0 ∨ x = 1 then some (x, M) else none) := g_grd fun h => g_zret hd hr h
theorem g_getRZ {z kz : Nat} (hd : dc d.2.1 pc pc' (.getfield idx) 3) (hf : FL d.1 idx ci j) (hz : FU Z) (hk : kD k = ci) (hc : ci ≠ 99) (hj : (fD ci)[j]? = some (some z)) (he : k + z = kz) (kk : GO X d Q pc' ls (rf (kG X) kz :: st) Z M o) : GO X d Q pc ls (rf (kG X) k :: st) Z M o := by
  subst he
  exact g_getR hd hf hk (hz.lt hk hc) (hz.2 _ _) hj kk
theorem g_oN {f : Nat → Option (α × Mm)} (kk : GO X d Q pc ls st Z M o) : GO X d Q pc ls st Z M (oE none o f) := kk
theorem g_oS {f : Nat → Option (α × Mm)} (kk : GO X d Q pc ls st Z M (f k)) : GO X d Q pc ls st Z M (oE (some k) o f) := kk
theorem g_aloadN_n {n : Fin 4} (hd : dc d.2.1 pc pc' (.aload_n n) 1) (hv : ls[(n : Nat)]? = some (some .null)) (kk : GO X d Q pc' ls (.null :: st) Z M o) : GO X d Q pc ls st Z M o := by
  obtain ⟨hd, rfl⟩ := hd
  intro K r M' ho H locs lsA hW hS hL hc hs
  exact lv_aload_nN K.1 K.2.1 hd rfl (hL.at hv) (kk K r M' ho H locs lsA hW hS hL hc hs)
theorem g_aloadN (hd : dc d.2.1 pc pc' (.aload i) 2) (hv : ls[i]? = some (some .null)) (kk : GO X d Q pc' ls (.null :: st) Z M o) : GO X d Q pc ls st Z M o := by
  obtain ⟨hd, rfl⟩ := hd
  intro K r M' ho H locs lsA hW hS hL hc hs
  exact lv_aloadN K.1 K.2.1 hd (hL.at hv) (kk K r M' ho H locs lsA hW hS hL hc hs)
theorem g_astoreN_n {n : Fin 4} (hd : dc d.2.1 pc pc' (.astore_n n) 1) (hn : (n : Nat) < d.2.2.1) (hg : nlo ls n = true) (kk : GO X d Q pc' (ls.set n (some .null)) st Z M o) : GO X d Q pc ls (.null :: st) Z M o := by
  obtain ⟨hd, rfl⟩ := hd
  intro K r M' ho H locs lsA hW hS ⟨l, h1, h2⟩ hc hs
  exact lv_astore_nN K.1 K.2.1 hd rfl h1 hn rfl (fun ls' h' => kk K r M' ho H locs ls' hW hS ⟨_, h', LV.set1 h2 hg⟩ hc hs)
theorem g_astoreN (hd : dc d.2.1 pc pc' (.astore i) 2) (hn : i < d.2.2.1) (hg : nlo ls i = true) (kk : GO X d Q pc' (ls.set i (some .null)) st Z M o) : GO X d Q pc ls (.null :: st) Z M o := by
  obtain ⟨hd, rfl⟩ := hd
  intro K r M' ho H locs lsA hW hS ⟨l, h1, h2⟩ hc hs
  exact lv_astoreN K.1 K.2.1 hd h1 hn rfl (fun ls' h' => kk K r M' ho H locs ls' hW hS ⟨_, h', LV.set1 h2 hg⟩ hc hs)
/-- System.arraycopy over longs -/
def cpJ (M : Mm) (k1 k2 sp dp n : Nat) : Mm := (M.1, fun q => if q = k2 then va_cpy (M.2 k1) (M.2 k2) sp dp n else M.2 q)
theorem g_copyG {k1 k2 : Nat} {sp dp n : Int32} (hd : dc d.2.1 pc pc' (.invokestatic idx) 3) (hl : Cond.methodLink d.1 idx arraycopyName ∈ gtb ∧ Cond.native arraycopyName ∈ gtb ∧ Cond.static arraycopyName ∈ gtb ∧ Cond.initialized "java/lang/System" ∈ gtb)
    (hk1 : kD k1 = 1000 + 60) (hk2 : kD k2 = 1000 + 60) (hn1 : k1 < Z.2.2.1) (hn2 : k2 < Z.2.2.1) (hR : 1 ≤ d.2.2.2.2.1 ∧ (st.map fun v => v.category).sum + (nativeFrameWords "java/lang/System" "arraycopy" 5 + 11) ≤ d.2.2.2.2.2)
    (kk : ∀ M1, GO X d Q pc' ls st Z M1 (fM M1)) : GO X d Q pc ls (.int n :: .int dp :: rf (kG X) k2 :: .int sp :: rf (kG X) k1 :: st) Z M (if ¬ sp < 0 ∧ ¬ dp < 0 ∧ ¬ n < 0 ∧ sp.toNatClampNeg + n.toNatClampNeg ≤ 60 ∧ dp.toNatClampNeg + n.toNatClampNeg ≤ 60 then lT (cpJ M k1 k2 sp.toNatClampNeg dp.toNatClampNeg n.toNatClampNeg) fM else none) := by
  obtain ⟨hd, rfl⟩ := hd
  refine g_grd ?_
  rintro ⟨h1, h2, h3, h4, h5⟩
  intro K r M' ho H locs lsA hW hS hL hc hs
  have hts := K.2.2.2.2.2.1
  have nn : ∀ z : Int32, ¬ z < 0 → z.toInt = (z.toNatClampNeg : Int) := by
    intro z hz
    have hz0 : (0 : Int) ≤ z.toInt := by
      have := Int32.not_lt.mp hz
      simpa using Int32.le_iff_toInt_le.mp this
    show z.toInt = ((z.toInt.toNat : Nat) : Int)
    omega
  have hKv := K.2.2.2.2.2.2.2.1.1
  have hc0 : H[k0 (kG X) + k1]? = some (vp_cell (kG X).2.2.1 (60, .inr (.inl (M.2 k1)))) := by
    have := hW.2 k1 hn1
    rw [ce_J hk1] at this
    exact this
  have hc1 : H[k0 (kG X) + k2]? = some (vp_cell (kG X).2.2.1 (60, .inr (.inl (M.2 k2)))) := by
    have := hW.2 k2 hn2
    rw [ce_J hk2] at this
    exact this
  obtain ⟨-, q0, hq0, cm0, hkk0⟩ := (hKv.2 1 _ rfl).1 60 (fun j => .long (M.2 k1 j))
  obtain ⟨-, q1, hq1, cm1, hkk1⟩ := (hKv.2 1 _ rfl).1 60 (fun j => .long (M.2 k2 j))
  intro T hT XX
  obtain ⟨vm', X', step⟩ := XX.arraycopy K.1 K.2.2.2.2.1 (hts _ hl.1) (hts _ hl.2.1) (hts _ hl.2.2.1) (hts _ hl.2.2.2) (src := k0 (kG X) + k1) (dst := k0 (kG X) + k2) (cs := vp_cell (kG X).2.2.1 (60, .inr (.inl (M.2 k1)))) (cd := vp_cell (kG X).2.2.1 (60, .inr (.inl (M.2 k2)))) (srcPos := sp) (destPos := dp) (n := n) (by rw [hT]; exact hc0) (by rw [hT]; exact hc1)
    (fun _ h => by cases h) (fun _ h => by cases h) (fun h => by cases h) (fun h => by cases h) hq0 hq1 hkk0 hkk1 (by simp [refKind]) h1 h2 h3
    (by rw [nn sp h1, nn n h3]; show ¬ _ > ((arrV (kG X).2.2.1 60 (fun j => .long (M.2 k1 j))).slots.size : Int); rw [arrV_size]; omega)
    (by rw [nn dp h2, nn n h3]; show ¬ _ > ((arrV (kG X).2.2.1 60 (fun j => .long (M.2 k2 j))).slots.size : Int); rw [arrV_size]; omega)
    (fun vm₁ _ i hi => by
      have e : (vp_cell (kG X).2.2.1 (60, .inr (.inl (M.2 k1)))).slots.getD (sp.toNatClampNeg + i) .null = .long (M.2 k1 (sp.toNatClampNeg + i)) := by
        show (arrV (kG X).2.2.1 60 (fun j => .long (M.2 k1 j))).slots.getD _ _ = _
        rw [Array.getD_eq_getD_getElem?, arrV_read _ _ (by omega)]
        rfl
      refine ⟨?_, ?_⟩
      · rw [e]; rfl
      · rw [e]; exact trivial)
    (g := F0 (km X) pc lsA (.int n :: .int dp :: .ref (k0 (kG X) + k2) :: .int sp :: .ref (k0 (kG X) + k1) :: st)) rfl (by obtain ⟨l, h, _⟩ := hL; rw [K.2.2.2.1]; exact h.1) (rest := st) rfl (by rw [K.2.1]; exact hd) (Nat.le_trans hR.1 K.2.2.2.2.2.2.2.2.1) (by have := Nat.le_trans hR.2 K.2.2.2.2.2.2.2.2.2; show 2 * 0 + _ + _ ≤ _; omega)
  have e1 : copied (vp_cell (kG X).2.2.1 (60, .inr (.inl (M.2 k1)))) (vp_cell (kG X).2.2.1 (60, .inr (.inl (M.2 k2)))) sp dp n = vp_cell (kG X).2.2.1 (60, .inr (.inl (va_cpy (M.2 k1) (M.2 k2) sp.toNatClampNeg dp.toNatClampNeg n.toNatClampNeg))) := va_copied (fun z => .long z) (kG X).2.2.1 (kG X).2.2.1 (M.2 k1) (M.2 k2) h4
  rw [e1] at X' step
  have hlt : k0 (kG X) + k2 < H.size := (Array.getElem?_eq_some_iff.mp hc1).1
  have hheap : ((T.setVm vm').setCell (k0 (kG X) + k2) (vp_cell (kG X).2.2.1 (60, .inr (.inl (va_cpy (M.2 k1) (M.2 k2) sp.toNatClampNeg dp.toNatClampNeg n.toNatClampNeg))))).heap = H.setIfInBounds (k0 (kG X) + k2) (vp_cell (kG X).2.2.1 (60, .inr (.inl (va_cpy (M.2 k1) (M.2 k2) sp.toNatClampNeg dp.toNatClampNeg n.toNatClampNeg)))) := by rw [← hT]; rfl
  have oq : ∀ q : Nat, q ≠ k0 (kG X) + k2 → (H.setIfInBounds (k0 (kG X) + k2) (vp_cell (kG X).2.2.1 (60, .inr (.inl (va_cpy (M.2 k1) (M.2 k2) sp.toNatClampNeg dp.toNatClampNeg n.toNatClampNeg)))))[q]? = H[q]? := fun q hq => by simp [Array.getElem?_setIfInBounds, Ne.symm hq]
  have hW2 : WD (kG X) Z.2.2.1 Z.2.2.2 (cpJ M k1 k2 sp.toNatClampNeg dp.toNatClampNeg n.toNatClampNeg) (H.setIfInBounds (k0 (kG X) + k2) (vp_cell (kG X).2.2.1 (60, .inr (.inl (va_cpy (M.2 k1) (M.2 k2) sp.toNatClampNeg dp.toNatClampNeg n.toNatClampNeg))))) := by
    refine hW.put (k := k2) (by simp) oq ?_ (fun q hq => ce_cg rfl (if_neg hq) rfl)
    rw [ce_J hk2]
    show (H.setIfInBounds _ _)[k0 (kG X) + k2]? = some (vp_cell _ (60, .inr (.inl (if k2 = k2 then _ else _))))
    rw [if_pos rfl]
    simp [Array.getElem?_setIfInBounds, hlt]
  obtain ⟨t, a1, b1⟩ := kk _ K r M' ho _ _ lsA hW2 ⟨by simp; exact hS.1, fun q g1 g2 => by
      rw [oq q (fun e => g2 (by rw [e]; exact Nat.le_add_right _ _))]
      exact hS.2.1 q g1 g2, fun q hq => by
      rcases List.mem_append.mp hq with h | h
      · exact hS.2.2 q h
      · obtain ⟨z, -, hz⟩ := List.mem_map.mp h
        rw [← hz]
        exact Nat.le_add_right _ _⟩ hL hc hs _ hheap X'
  exact ⟨t, step t a1, b1⟩
theorem g_icmp_eq' (hd : dj d.2.1 pc pc' tgt off (.if_icmp .eq off) 3) (kt : x = y → GO X d Q tgt ls st Z M o) (kf : ¬ x = y → GO X d Q pc' ls st Z M o) : GO X d Q pc ls (.int y :: .int x :: st) Z M o := by
  obtain ⟨hd, rfl, ht⟩ := hd
  intro K r M' ho H locs lsA hW hS hL hc hs
  exact lv_icmp_eq K.1 K.2.1 hd ht (fun h => kt h K r M' ho H locs lsA hW hS hL hc hs) (fun h => kf h K r M' ho H locs lsA hW hS hL hc hs)
theorem g_icmp_ne' (hd : dj d.2.1 pc pc' tgt off (.if_icmp .ne off) 3) (kt : ¬ x = y → GO X d Q tgt ls st Z M o) (kf : x = y → GO X d Q pc' ls st Z M o) : GO X d Q pc ls (.int y :: .int x :: st) Z M o := by
  obtain ⟨hd, rfl, ht⟩ := hd
  intro K r M' ho H locs lsA hW hS hL hc hs
  exact lv_icmp_ne K.1 K.2.1 hd ht (fun h => kt h K r M' ho H locs lsA hW hS hL hc hs) (fun h => kf h K r M' ho H locs lsA hW hS hL hc hs)
theorem g_icmp_lt' (hd : dj d.2.1 pc pc' tgt off (.if_icmp .lt off) 3) (kt : x < y → GO X d Q tgt ls st Z M o) (kf : ¬ x < y → GO X d Q pc' ls st Z M o) : GO X d Q pc ls (.int y :: .int x :: st) Z M o := by
  obtain ⟨hd, rfl, ht⟩ := hd
  intro K r M' ho H locs lsA hW hS hL hc hs
  exact lv_icmp_lt K.1 K.2.1 hd ht (fun h => kt h K r M' ho H locs lsA hW hS hL hc hs) (fun h => kf h K r M' ho H locs lsA hW hS hL hc hs)
theorem g_icmp_ge' (hd : dj d.2.1 pc pc' tgt off (.if_icmp .ge off) 3) (kt : y ≤ x → GO X d Q tgt ls st Z M o) (kf : ¬ y ≤ x → GO X d Q pc' ls st Z M o) : GO X d Q pc ls (.int y :: .int x :: st) Z M o := by
  obtain ⟨hd, rfl, ht⟩ := hd
  intro K r M' ho H locs lsA hW hS hL hc hs
  exact lv_icmp_ge K.1 K.2.1 hd ht (fun h => kt h K r M' ho H locs lsA hW hS hL hc hs) (fun h => kf h K r M' ho H locs lsA hW hS hL hc hs)
theorem g_icmp_gt' (hd : dj d.2.1 pc pc' tgt off (.if_icmp .gt off) 3) (kt : y < x → GO X d Q tgt ls st Z M o) (kf : ¬ y < x → GO X d Q pc' ls st Z M o) : GO X d Q pc ls (.int y :: .int x :: st) Z M o := by
  obtain ⟨hd, rfl, ht⟩ := hd
  intro K r M' ho H locs lsA hW hS hL hc hs
  exact lv_icmp_gt K.1 K.2.1 hd ht (fun h => kt h K r M' ho H locs lsA hW hS hL hc hs) (fun h => kf h K r M' ho H locs lsA hW hS hL hc hs)
theorem g_icmp_le' (hd : dj d.2.1 pc pc' tgt off (.if_icmp .le off) 3) (kt : x ≤ y → GO X d Q tgt ls st Z M o) (kf : ¬ x ≤ y → GO X d Q pc' ls st Z M o) : GO X d Q pc ls (.int y :: .int x :: st) Z M o := by
  obtain ⟨hd, rfl, ht⟩ := hd
  intro K r M' ho H locs lsA hW hS hL hc hs
  exact lv_icmp_le K.1 K.2.1 hd ht (fun h => kt h K r M' ho H locs lsA hW hS hL hc hs) (fun h => kf h K r M' ho H locs lsA hW hS hL hc hs)
theorem g_if_eq' (hd : dj d.2.1 pc pc' tgt off (.ifCond .eq off) 3) (kt : x = 0 → GO X d Q tgt ls st Z M o) (kf : ¬ x = 0 → GO X d Q pc' ls st Z M o) : GO X d Q pc ls (.int x :: st) Z M o := by
  obtain ⟨hd, rfl, ht⟩ := hd
  intro K r M' ho H locs lsA hW hS hL hc hs
  exact lv_if_eq K.1 K.2.1 hd ht (fun h => kt h K r M' ho H locs lsA hW hS hL hc hs) (fun h => kf h K r M' ho H locs lsA hW hS hL hc hs)
theorem g_if_ne' (hd : dj d.2.1 pc pc' tgt off (.ifCond .ne off) 3) (kt : ¬ x = 0 → GO X d Q tgt ls st Z M o) (kf : x = 0 → GO X d Q pc' ls st Z M o) : GO X d Q pc ls (.int x :: st) Z M o := by
  obtain ⟨hd, rfl, ht⟩ := hd
  intro K r M' ho H locs lsA hW hS hL hc hs
  exact lv_if_ne K.1 K.2.1 hd ht (fun h => kt h K r M' ho H locs lsA hW hS hL hc hs) (fun h => kf h K r M' ho H locs lsA hW hS hL hc hs)
theorem g_if_lt' (hd : dj d.2.1 pc pc' tgt off (.ifCond .lt off) 3) (kt : x < 0 → GO X d Q tgt ls st Z M o) (kf : ¬ x < 0 → GO X d Q pc' ls st Z M o) : GO X d Q pc ls (.int x :: st) Z M o := by
  obtain ⟨hd, rfl, ht⟩ := hd
  intro K r M' ho H locs lsA hW hS hL hc hs
  exact lv_if_lt K.1 K.2.1 hd ht (fun h => kt h K r M' ho H locs lsA hW hS hL hc hs) (fun h => kf h K r M' ho H locs lsA hW hS hL hc hs)
theorem g_if_ge' (hd : dj d.2.1 pc pc' tgt off (.ifCond .ge off) 3) (kt : 0 ≤ x → GO X d Q tgt ls st Z M o) (kf : ¬ 0 ≤ x → GO X d Q pc' ls st Z M o) : GO X d Q pc ls (.int x :: st) Z M o := by
  obtain ⟨hd, rfl, ht⟩ := hd
  intro K r M' ho H locs lsA hW hS hL hc hs
  exact lv_if_ge K.1 K.2.1 hd ht (fun h => kt h K r M' ho H locs lsA hW hS hL hc hs) (fun h => kf h K r M' ho H locs lsA hW hS hL hc hs)
theorem g_if_gt' (hd : dj d.2.1 pc pc' tgt off (.ifCond .gt off) 3) (kt : 0 < x → GO X d Q tgt ls st Z M o) (kf : ¬ 0 < x → GO X d Q pc' ls st Z M o) : GO X d Q pc ls (.int x :: st) Z M o := by
  obtain ⟨hd, rfl, ht⟩ := hd
  intro K r M' ho H locs lsA hW hS hL hc hs
  exact lv_if_gt K.1 K.2.1 hd ht (fun h => kt h K r M' ho H locs lsA hW hS hL hc hs) (fun h => kf h K r M' ho H locs lsA hW hS hL hc hs)
theorem g_if_le' (hd : dj d.2.1 pc pc' tgt off (.ifCond .le off) 3) (kt : x ≤ 0 → GO X d Q tgt ls st Z M o) (kf : ¬ x ≤ 0 → GO X d Q pc' ls st Z M o) : GO X d Q pc ls (.int x :: st) Z M o := by
  obtain ⟨hd, rfl, ht⟩ := hd
  intro K r M' ho H locs lsA hW hS hL hc hs
  exact lv_if_le K.1 K.2.1 hd ht (fun h => kt h K r M' ho H locs lsA hW hS hL hc hs) (fun h => kf h K r M' ho H locs lsA hW hS hL hc hs)
end LETS
theorem kq_0 : kD 0 = 9 := rfl
theorem kq_1 : kD 1 = 6 := rfl
theorem kq_2 : kD 2 = 0 := rfl
theorem kq_3 : kD 3 = 1 := rfl
theorem kq_4 : kD 4 = 5 := rfl
theorem kq_5 : kD 5 = 3 := rfl
theorem kq_6 : kD 6 = 4 := rfl
theorem kq_7 : kD 7 = 140 := rfl
theorem kq_8 : kD 8 = 4 := rfl
theorem kq_9 : kD 9 = 164 := rfl
theorem kq_10 : kD 10 = 2 := rfl
theorem kq_11 : kD 11 = 4 := rfl
theorem kq_12 : kD 12 = 160 := rfl
theorem kq_13 : kD 13 = 4 := rfl
theorem kq_14 : kD 14 = 160 := rfl
theorem kq_15 : kD 15 = 4 := rfl
theorem kq_16 : kD 16 = 160 := rfl
theorem kq_17 : kD 17 = 4 := rfl
theorem kq_18 : kD 18 = 104 := rfl
theorem kq_19 : kD 19 = 4 := rfl
theorem kq_20 : kD 20 = 105 := rfl
theorem kq_21 : kD 21 = 4 := rfl
theorem kq_22 : kD 22 = 105 := rfl
theorem kq_23 : kD 23 = 4 := rfl
theorem kq_24 : kD 24 = 108 := rfl
theorem kq_25 : kD 25 = 4 := rfl
theorem kq_26 : kD 26 = 108 := rfl
theorem kq_27 : kD 27 = 6 := rfl
theorem kq_28 : kD 28 = 0 := rfl
theorem kq_29 : kD 29 = 1 := rfl
theorem kq_30 : kD 30 = 5 := rfl
theorem kq_31 : kD 31 = 3 := rfl
theorem kq_32 : kD 32 = 4 := rfl
theorem kq_33 : kD 33 = 140 := rfl
theorem kq_34 : kD 34 = 4 := rfl
theorem kq_35 : kD 35 = 164 := rfl
theorem kq_36 : kD 36 = 2 := rfl
theorem kq_37 : kD 37 = 4 := rfl
theorem kq_38 : kD 38 = 160 := rfl
theorem kq_39 : kD 39 = 4 := rfl
theorem kq_40 : kD 40 = 160 := rfl
theorem kq_41 : kD 41 = 4 := rfl
theorem kq_42 : kD 42 = 160 := rfl
theorem kq_43 : kD 43 = 4 := rfl
theorem kq_44 : kD 44 = 104 := rfl
theorem kq_45 : kD 45 = 4 := rfl
theorem kq_46 : kD 46 = 105 := rfl
theorem kq_47 : kD 47 = 4 := rfl
theorem kq_48 : kD 48 = 105 := rfl
theorem kq_49 : kD 49 = 4 := rfl
theorem kq_50 : kD 50 = 108 := rfl
theorem kq_51 : kD 51 = 4 := rfl
theorem kq_52 : kD 52 = 108 := rfl
theorem kq_53 : kD 53 = 0 := rfl
theorem kq_54 : kD 54 = 1 := rfl
theorem kq_55 : kD 55 = 5 := rfl
theorem kq_56 : kD 56 = 8 := rfl
theorem kq_57 : kD 57 = 4 := rfl
theorem kq_58 : kD 58 = 200 := rfl
theorem kq_59 : kD 59 = 4 := rfl
theorem kq_60 : kD 60 = 110 := rfl
theorem kq_61 : kD 61 = 4 := rfl
theorem kq_62 : kD 62 = 110 := rfl
theorem kq_63 : kD 63 = 4 := rfl
theorem kq_64 : kD 64 = 110 := rfl
theorem kq_65 : kD 65 = 50 := rfl
theorem kq_66 : kD 66 = 7 := rfl
theorem kq_67 : kD 67 = 1060 := rfl
theorem kq_68 : kD 68 = 7 := rfl
theorem kq_69 : kD 69 = 1060 := rfl
theorem kq_70 : kD 70 = 7 := rfl
theorem kq_71 : kD 71 = 1060 := rfl
theorem kq_72 : kD 72 = 7 := rfl
theorem kq_73 : kD 73 = 1060 := rfl
theorem kq_74 : kD 74 = 7 := rfl
theorem kq_75 : kD 75 = 1060 := rfl
theorem kq_76 : kD 76 = 7 := rfl
theorem kq_77 : kD 77 = 1060 := rfl
theorem kq_78 : kD 78 = 10 := rfl
theorem kq_79 : kD 79 = 116 := rfl
theorem kq_80 : kD 80 = 116 := rfl
theorem kq_81 : kD 81 = 116 := rfl
theorem kq_82 : kD 82 = 116 := rfl
theorem kq_83 : kD 83 = 116 := rfl
theorem kq_84 : kD 84 = 116 := rfl
theorem kq_85 : kD 85 = 140 := rfl
theorem kq_86 : kD 86 = 164 := rfl
theorem kq_87 : kD 87 = 160 := rfl
theorem kq_88 : kD 88 = 160 := rfl
theorem kq_89 : kD 89 = 160 := rfl
theorem kq_90 : kD 90 = 120 := rfl
theorem kq_91 : kD 91 = 116 := rfl
theorem kq_92 : kD 92 = 200 := rfl
theorem kq_93 : kD 93 = 130 := rfl
theorem kq_94 : kD 94 = 500 := rfl
theorem kq_95 : kD 95 = 111 := rfl
theorem kq_96 : kD 96 = 106 := rfl
theorem kq_97 : kD 97 = 106 := rfl
theorem kq_98 : kD 98 = 1360 := rfl
theorem kq_99 : kD 99 = 1060 := rfl
theorem kk_0_1 {k : Nat} (h : kD k = 0) : kD (k + 1) = 1 := by
  have h0 : ∀ k, k < 100 → kD k = 0 → kD (k + 1) = 1 := by decide +kernel
  exact h0 k (kD_lt h (by decide)) h
theorem kk_0_2 {k : Nat} (h : kD k = 0) : kD (k + 2) = 5 := by
  have h0 : ∀ k, k < 100 → kD k = 0 → kD (k + 2) = 5 := by decide +kernel
  exact h0 k (kD_lt h (by decide)) h
theorem kk_2_1 {k : Nat} (h : kD k = 2) : kD (k + 1) = 4 := by
  have h0 : ∀ k, k < 100 → kD k = 2 → kD (k + 1) = 4 := by decide +kernel
  exact h0 k (kD_lt h (by decide)) h
theorem kk_2_3 {k : Nat} (h : kD k = 2) : kD (k + 3) = 4 := by
  have h0 : ∀ k, k < 100 → kD k = 2 → kD (k + 3) = 4 := by decide +kernel
  exact h0 k (kD_lt h (by decide)) h
theorem kk_2_5 {k : Nat} (h : kD k = 2) : kD (k + 5) = 4 := by
  have h0 : ∀ k, k < 100 → kD k = 2 → kD (k + 5) = 4 := by decide +kernel
  exact h0 k (kD_lt h (by decide)) h
theorem kk_2_7 {k : Nat} (h : kD k = 2) : kD (k + 7) = 4 := by
  have h0 : ∀ k, k < 100 → kD k = 2 → kD (k + 7) = 4 := by decide +kernel
  exact h0 k (kD_lt h (by decide)) h
theorem kk_3_1 {k : Nat} (h : kD k = 3) : kD (k + 1) = 4 := by
  have h0 : ∀ k, k < 100 → kD k = 3 → kD (k + 1) = 4 := by decide +kernel
  exact h0 k (kD_lt h (by decide)) h
theorem kk_3_3 {k : Nat} (h : kD k = 3) : kD (k + 3) = 4 := by
  have h0 : ∀ k, k < 100 → kD k = 3 → kD (k + 3) = 4 := by decide +kernel
  exact h0 k (kD_lt h (by decide)) h
theorem kk_4_1 {k : Nat} (h : kD k = 4) : kD (k + 1) = 100 + aL (k + 1) ∧ aL (k + 1) < 900 := by
  have h0 : ∀ k, k < 100 → kD k = 4 → kD (k + 1) = 100 + aL (k + 1) ∧ aL (k + 1) < 900 := by decide +kernel
  exact h0 k (kD_lt h (by decide)) h
theorem kk_6_1 {k : Nat} (h : kD k = 6) : kD (k + 1) = 0 := by
  have h0 : ∀ k, k < 100 → kD k = 6 → kD (k + 1) = 0 := by decide +kernel
  exact h0 k (kD_lt h (by decide)) h
theorem kk_6_4 {k : Nat} (h : kD k = 6) : kD (k + 4) = 3 := by
  have h0 : ∀ k, k < 100 → kD k = 6 → kD (k + 4) = 3 := by decide +kernel
  exact h0 k (kD_lt h (by decide)) h
theorem kk_6_9 {k : Nat} (h : kD k = 6) : kD (k + 9) = 2 := by
  have h0 : ∀ k, k < 100 → kD k = 6 → kD (k + 9) = 2 := by decide +kernel
  exact h0 k (kD_lt h (by decide)) h
theorem kk_6_18 {k : Nat} (h : kD k = 6) : kD (k + 18) = 4 := by
  have h0 : ∀ k, k < 100 → kD k = 6 → kD (k + 18) = 4 := by decide +kernel
  exact h0 k (kD_lt h (by decide)) h
theorem kk_6_20 {k : Nat} (h : kD k = 6) : kD (k + 20) = 4 := by
  have h0 : ∀ k, k < 100 → kD k = 6 → kD (k + 20) = 4 := by decide +kernel
  exact h0 k (kD_lt h (by decide)) h
theorem kk_6_22 {k : Nat} (h : kD k = 6) : kD (k + 22) = 4 := by
  have h0 : ∀ k, k < 100 → kD k = 6 → kD (k + 22) = 4 := by decide +kernel
  exact h0 k (kD_lt h (by decide)) h
theorem kk_6_24 {k : Nat} (h : kD k = 6) : kD (k + 24) = 4 := by
  have h0 : ∀ k, k < 100 → kD k = 6 → kD (k + 24) = 4 := by decide +kernel
  exact h0 k (kD_lt h (by decide)) h
theorem kk_7_1 {k : Nat} (h : kD k = 7) : kD (k + 1) = 1060 := by
  have h0 : ∀ k, k < 100 → kD k = 7 → kD (k + 1) = 1060 := by decide +kernel
  exact h0 k (kD_lt h (by decide)) h
theorem kk_8_1 {k : Nat} (h : kD k = 8) : kD (k + 1) = 4 := by
  have h0 : ∀ k, k < 100 → kD k = 8 → kD (k + 1) = 4 := by decide +kernel
  exact h0 k (kD_lt h (by decide)) h
theorem kk_8_3 {k : Nat} (h : kD k = 8) : kD (k + 3) = 4 := by
  have h0 : ∀ k, k < 100 → kD k = 8 → kD (k + 3) = 4 := by decide +kernel
  exact h0 k (kD_lt h (by decide)) h
theorem kk_8_5 {k : Nat} (h : kD k = 8) : kD (k + 5) = 4 := by
  have h0 : ∀ k, k < 100 → kD k = 8 → kD (k + 5) = 4 := by decide +kernel
  exact h0 k (kD_lt h (by decide)) h
theorem kk_8_7 {k : Nat} (h : kD k = 8) : kD (k + 7) = 4 := by
  have h0 : ∀ k, k < 100 → kD k = 8 → kD (k + 7) = 4 := by decide +kernel
  exact h0 k (kD_lt h (by decide)) h
theorem fj_0_0 : (fD 0)[0]? = some (none) := rfl
theorem fj_0_1 : (fD 0)[1]? = some (none) := rfl
theorem fj_0_2 : (fD 0)[2]? = some (none) := rfl
theorem fj_0_3 : (fD 0)[3]? = some (none) := rfl
theorem fj_0_4 : (fD 0)[4]? = some (none) := rfl
theorem fj_0_5 : (fD 0)[5]? = some (none) := rfl
theorem fj_0_6 : (fD 0)[6]? = some (none) := rfl
theorem fj_0_7 : (fD 0)[7]? = some (none) := rfl
theorem fj_0_8 : (fD 0)[8]? = some (none) := rfl
theorem fj_0_9 : (fD 0)[9]? = some (some 1) := rfl
theorem fj_0_10 : (fD 0)[10]? = some (some 2) := rfl
theorem fj_1_0 : (fD 1)[0]? = some (none) := rfl
theorem fj_1_1 : (fD 1)[1]? = some (none) := rfl
theorem fj_1_2 : (fD 1)[2]? = some (none) := rfl
theorem fj_1_3 : (fD 1)[3]? = some (none) := rfl
theorem fj_1_4 : (fD 1)[4]? = some (none) := rfl
theorem fj_2_0 : (fD 2)[0]? = some (some 1) := rfl
theorem fj_2_1 : (fD 2)[1]? = some (some 3) := rfl
theorem fj_2_2 : (fD 2)[2]? = some (some 5) := rfl
theorem fj_2_3 : (fD 2)[3]? = some (some 7) := rfl
theorem fj_3_0 : (fD 3)[0]? = some (some 1) := rfl
theorem fj_3_1 : (fD 3)[1]? = some (some 3) := rfl
theorem fj_4_0 : (fD 4)[0]? = some (some 1) := rfl
theorem fj_4_1 : (fD 4)[1]? = some (none) := rfl
theorem fj_5_0 : (fD 5)[0]? = some (none) := rfl
theorem fj_5_1 : (fD 5)[1]? = some (none) := rfl
theorem fj_5_2 : (fD 5)[2]? = some (none) := rfl
theorem fj_5_3 : (fD 5)[3]? = some (none) := rfl
theorem fj_5_4 : (fD 5)[4]? = some (none) := rfl
theorem fj_5_5 : (fD 5)[5]? = some (none) := rfl
theorem fj_6_0 : (fD 6)[0]? = some (some 1) := rfl
theorem fj_6_1 : (fD 6)[1]? = some (some 4) := rfl
theorem fj_6_2 : (fD 6)[2]? = some (some 9) := rfl
theorem fj_6_3 : (fD 6)[3]? = some (some 18) := rfl
theorem fj_6_4 : (fD 6)[4]? = some (some 20) := rfl
theorem fj_6_5 : (fD 6)[5]? = some (some 22) := rfl
theorem fj_6_6 : (fD 6)[6]? = some (some 24) := rfl
theorem fj_7_0 : (fD 7)[0]? = some (none) := rfl
theorem fj_7_1 : (fD 7)[1]? = some (none) := rfl
theorem fj_7_2 : (fD 7)[2]? = some (some 1) := rfl
theorem fj_8_0 : (fD 8)[0]? = some (some 1) := rfl
theorem fj_8_1 : (fD 8)[1]? = some (some 3) := rfl
theorem fj_8_2 : (fD 8)[2]? = some (some 5) := rfl
theorem fj_8_3 : (fD 8)[3]? = some (some 7) := rfl
theorem fj_8_4 : (fD 8)[4]? = some (none) := rfl
theorem fj_9_0 : (fD 9)[0]? = some (some 1) := rfl
theorem fj_9_1 : (fD 9)[1]? = some (some 27) := rfl
theorem fj_9_2 : (fD 9)[2]? = some (none) := rfl
theorem fj_9_3 : (fD 9)[3]? = some (some 53) := rfl
theorem fj_9_4 : (fD 9)[4]? = some (some 56) := rfl
theorem fj_9_5 : (fD 9)[5]? = some (some 65) := rfl
theorem fj_10_0 : (fD 10)[0]? = some (none) := rfl
theorem fj_10_1 : (fD 10)[1]? = some (none) := rfl
theorem fj_10_2 : (fD 10)[2]? = some (none) := rfl
theorem fj_10_3 : (fD 10)[3]? = some (none) := rfl
theorem fj_10_4 : (fD 10)[4]? = some (none) := rfl
theorem fj_10_5 : (fD 10)[5]? = some (none) := rfl
theorem fj_10_6 : (fD 10)[6]? = some (none) := rfl
theorem fj_10_7 : (fD 10)[7]? = some (some 1) := rfl
theorem fj_10_8 : (fD 10)[8]? = some (some 2) := rfl
theorem fj_10_9 : (fD 10)[9]? = some (some 3) := rfl
theorem fj_10_10 : (fD 10)[10]? = some (some 4) := rfl
theorem fj_10_11 : (fD 10)[11]? = some (some 5) := rfl
theorem fj_10_12 : (fD 10)[12]? = some (some 6) := rfl
theorem fj_10_13 : (fD 10)[13]? = some (none) := rfl
theorem fj_10_14 : (fD 10)[14]? = some (none) := rfl
theorem fj_10_15 : (fD 10)[15]? = some (some 7) := rfl
theorem fj_10_16 : (fD 10)[16]? = some (none) := rfl
theorem fj_10_17 : (fD 10)[17]? = some (some 8) := rfl
theorem fj_10_18 : (fD 10)[18]? = some (none) := rfl
theorem fj_10_19 : (fD 10)[19]? = some (some 9) := rfl
theorem fj_10_20 : (fD 10)[20]? = some (some 10) := rfl
theorem fj_10_21 : (fD 10)[21]? = some (some 11) := rfl
theorem fj_10_22 : (fD 10)[22]? = some (none) := rfl
theorem fj_10_23 : (fD 10)[23]? = some (none) := rfl
theorem fj_10_24 : (fD 10)[24]? = some (none) := rfl
theorem fj_10_25 : (fD 10)[25]? = some (none) := rfl
theorem fj_10_26 : (fD 10)[26]? = some (none) := rfl
theorem fj_10_27 : (fD 10)[27]? = some (some 12) := rfl
theorem fj_10_28 : (fD 10)[28]? = some (none) := rfl
theorem fj_10_29 : (fD 10)[29]? = some (some 13) := rfl
theorem fj_10_30 : (fD 10)[30]? = some (none) := rfl
theorem fj_10_31 : (fD 10)[31]? = some (some 14) := rfl
theorem fj_10_32 : (fD 10)[32]? = some (none) := rfl
theorem fj_10_33 : (fD 10)[33]? = some (none) := rfl
theorem fj_10_34 : (fD 10)[34]? = some (some 15) := rfl
theorem fj_10_35 : (fD 10)[35]? = some (some 16) := rfl
theorem fj_10_36 : (fD 10)[36]? = some (none) := rfl
theorem fj_10_37 : (fD 10)[37]? = some (some 17) := rfl
theorem fj_10_38 : (fD 10)[38]? = some (some 18) := rfl
theorem fj_10_39 : (fD 10)[39]? = some (some 19) := rfl
theorem fj_10_40 : (fD 10)[40]? = some (some 20) := rfl
theorem fj_10_41 : (fD 10)[41]? = some (some 21) := rfl
end
section
def md_Leaf_init : MD := ("PressSheets$Leaf", prog_3_method_1_code, 1, none, 1, 20)
def y_Leaf_init : MethodName := ⟨"PressSheets$Leaf", "<init>", "()V"⟩
theorem my_Leaf_init : MY y_Leaf_init md_Leaf_init 0 := ⟨lw_r 38 (by decide +kernel), lw_r 4 (by decide +kernel), by decide, by decide, by decide +kernel⟩
theorem e_Leaf_init_0 : dc md_Leaf_init.2.1 0 1 (.aload_n 0) 1 := ⟨by decide +kernel, rfl⟩
theorem e_Leaf_init_1 : dc md_Leaf_init.2.1 1 4 (.invokespecial 3) 3 := ⟨by decide +kernel, rfl⟩
theorem e_Leaf_init_4 : dc md_Leaf_init.2.1 4 5 (.return_) 1 := ⟨by decide +kernel, rfl⟩
def md_Spot_init : MD := ("PressSheets$Spot", prog_7_method_1_code, 1, none, 1, 20)
def y_Spot_init : MethodName := ⟨"PressSheets$Spot", "<init>", "()V"⟩
theorem my_Spot_init : MY y_Spot_init md_Spot_init 0 := ⟨lw_r 68 (by decide +kernel), lw_r 5 (by decide +kernel), by decide, by decide, by decide +kernel⟩
theorem e_Spot_init_0 : dc md_Spot_init.2.1 0 1 (.aload_n 0) 1 := ⟨by decide +kernel, rfl⟩
theorem e_Spot_init_1 : dc md_Spot_init.2.1 1 4 (.invokespecial 3) 3 := ⟨by decide +kernel, rfl⟩
theorem e_Spot_init_4 : dc md_Spot_init.2.1 4 5 (.return_) 1 := ⟨by decide +kernel, rfl⟩
def md_Job_figure : MD := ("PressSheets$Job", prog_2_method_7_code, 2, some (FieldType.int), 0, 0)
def y_Job_figure : MethodName := ⟨"PressSheets$Job", "figure", "(I)I"⟩
theorem my_Job_figure : MY y_Job_figure md_Job_figure 1 := ⟨lw_r 103 (by decide +kernel), lw_r 3 (by decide +kernel), by decide, by decide, by decide +kernel⟩
theorem e_Job_figure_0 : dc md_Job_figure.2.1 0 1 (.aload_n 0) 1 := ⟨by decide +kernel, rfl⟩
theorem e_Job_figure_1 : dc md_Job_figure.2.1 1 4 (.getfield 42) 3 := ⟨by decide +kernel, rfl⟩
theorem e_Job_figure_4 : dc md_Job_figure.2.1 4 5 (.iconst 2) 1 := ⟨by decide +kernel, rfl⟩
theorem e_Job_figure_5 : dc md_Job_figure.2.1 5 6 (.aload_n 0) 1 := ⟨by decide +kernel, rfl⟩
theorem e_Job_figure_6 : dc md_Job_figure.2.1 6 9 (.getfield 39) 3 := ⟨by decide +kernel, rfl⟩
theorem e_Job_figure_9 : dc md_Job_figure.2.1 9 10 (.iconst 1) 1 := ⟨by decide +kernel, rfl⟩
theorem e_Job_figure_10 : dc md_Job_figure.2.1 10 11 (.isub) 1 := ⟨by decide +kernel, rfl⟩
theorem e_Job_figure_11 : dc md_Job_figure.2.1 11 12 (.iload_n 1) 1 := ⟨by decide +kernel, rfl⟩
theorem e_Job_figure_12 : dc md_Job_figure.2.1 12 13 (.isub) 1 := ⟨by decide +kernel, rfl⟩
theorem e_Job_figure_13 : dc md_Job_figure.2.1 13 14 (.imul) 1 := ⟨by decide +kernel, rfl⟩
theorem e_Job_figure_14 : dc md_Job_figure.2.1 14 15 (.ishr) 1 := ⟨by decide +kernel, rfl⟩
theorem e_Job_figure_15 : dc md_Job_figure.2.1 15 16 (.iconst 3) 1 := ⟨by decide +kernel, rfl⟩
theorem e_Job_figure_16 : dc md_Job_figure.2.1 16 17 (.iand) 1 := ⟨by decide +kernel, rfl⟩
theorem e_Job_figure_17 : dc md_Job_figure.2.1 17 18 (.iconst 1) 1 := ⟨by decide +kernel, rfl⟩
theorem e_Job_figure_18 : dc md_Job_figure.2.1 18 19 (.iadd) 1 := ⟨by decide +kernel, rfl⟩
theorem e_Job_figure_19 : dc md_Job_figure.2.1 19 20 (.ireturn) 1 := ⟨by decide +kernel, rfl⟩
def md_Job_isAcross : MD := ("PressSheets$Job", prog_2_method_6_code, 1, some (FieldType.boolean), 0, 0)
def y_Job_isAcross : MethodName := ⟨"PressSheets$Job", "isAcross", "(I)Z"⟩
theorem my_Job_isAcross : MY y_Job_isAcross md_Job_isAcross 1 := ⟨lw_r 106 (by decide +kernel), lw_r 3 (by decide +kernel), by decide, by decide, by decide +kernel⟩
theorem e_Job_isAcross_0 : dc md_Job_isAcross.2.1 0 1 (.iload_n 0) 1 := ⟨by decide +kernel, rfl⟩
theorem e_Job_isAcross_1 : dc md_Job_isAcross.2.1 1 2 (.iconst 2) 1 := ⟨by decide +kernel, rfl⟩
theorem e_Job_isAcross_2 : dj md_Job_isAcross.2.1 2 5 9 7 (.if_icmp .gt 7) 3 := ⟨by decide +kernel, rfl, by decide⟩
theorem e_Job_isAcross_5 : dc md_Job_isAcross.2.1 5 6 (.iconst 1) 1 := ⟨by decide +kernel, rfl⟩
theorem e_Job_isAcross_6 : dj md_Job_isAcross.2.1 6 9 10 4 (.goto 4) 3 := ⟨by decide +kernel, rfl, by decide⟩
theorem e_Job_isAcross_9 : dc md_Job_isAcross.2.1 9 10 (.iconst 0) 1 := ⟨by decide +kernel, rfl⟩
theorem e_Job_isAcross_10 : dc md_Job_isAcross.2.1 10 11 (.ireturn) 1 := ⟨by decide +kernel, rfl⟩
def md_Job_foldBy : MD := ("PressSheets$Job", prog_2_method_3_code, 4, none, 1, 21)
def y_Job_foldBy : MethodName := ⟨"PressSheets$Job", "foldBy", "(II)V"⟩
theorem my_Job_foldBy : MY y_Job_foldBy md_Job_foldBy 2 := ⟨lw_r 99 (by decide +kernel), lw_r 3 (by decide +kernel), by decide, by decide, by decide +kernel⟩
theorem e_Job_foldBy_0 : dc md_Job_foldBy.2.1 0 1 (.aload_n 0) 1 := ⟨by decide +kernel, rfl⟩
theorem e_Job_foldBy_1 : dc md_Job_foldBy.2.1 1 2 (.iload_n 1) 1 := ⟨by decide +kernel, rfl⟩
theorem e_Job_foldBy_2 : dc md_Job_foldBy.2.1 2 5 (.putfield 39) 3 := ⟨by decide +kernel, rfl⟩
theorem e_Job_foldBy_5 : dc md_Job_foldBy.2.1 5 6 (.aload_n 0) 1 := ⟨by decide +kernel, rfl⟩
theorem e_Job_foldBy_6 : dc md_Job_foldBy.2.1 6 7 (.iload_n 2) 1 := ⟨by decide +kernel, rfl⟩
theorem e_Job_foldBy_7 : dc md_Job_foldBy.2.1 7 10 (.putfield 42) 3 := ⟨by decide +kernel, rfl⟩
theorem e_Job_foldBy_10 : dc md_Job_foldBy.2.1 10 11 (.aload_n 0) 1 := ⟨by decide +kernel, rfl⟩
theorem e_Job_foldBy_11 : dc md_Job_foldBy.2.1 11 12 (.iconst 1) 1 := ⟨by decide +kernel, rfl⟩
theorem e_Job_foldBy_12 : dc md_Job_foldBy.2.1 12 15 (.putfield 51) 3 := ⟨by decide +kernel, rfl⟩
theorem e_Job_foldBy_15 : dc md_Job_foldBy.2.1 15 16 (.aload_n 0) 1 := ⟨by decide +kernel, rfl⟩
theorem e_Job_foldBy_16 : dc md_Job_foldBy.2.1 16 17 (.iconst 1) 1 := ⟨by decide +kernel, rfl⟩
theorem e_Job_foldBy_17 : dc md_Job_foldBy.2.1 17 20 (.putfield 54) 3 := ⟨by decide +kernel, rfl⟩
theorem e_Job_foldBy_20 : dc md_Job_foldBy.2.1 20 21 (.iconst 0) 1 := ⟨by decide +kernel, rfl⟩
theorem e_Job_foldBy_21 : dc md_Job_foldBy.2.1 21 22 (.istore_n 3) 1 := ⟨by decide +kernel, rfl⟩
theorem e_Job_foldBy_22 : dc md_Job_foldBy.2.1 22 23 (.iload_n 3) 1 := ⟨by decide +kernel, rfl⟩
theorem e_Job_foldBy_23 : dc md_Job_foldBy.2.1 23 24 (.aload_n 0) 1 := ⟨by decide +kernel, rfl⟩
theorem e_Job_foldBy_24 : dc md_Job_foldBy.2.1 24 27 (.getfield 39) 3 := ⟨by decide +kernel, rfl⟩
theorem e_Job_foldBy_27 : dj md_Job_foldBy.2.1 27 30 70 43 (.if_icmp .ge 43) 3 := ⟨by decide +kernel, rfl, by decide⟩
theorem e_Job_foldBy_30 : dc md_Job_foldBy.2.1 30 31 (.aload_n 0) 1 := ⟨by decide +kernel, rfl⟩
theorem e_Job_foldBy_31 : dc md_Job_foldBy.2.1 31 32 (.iload_n 3) 1 := ⟨by decide +kernel, rfl⟩
theorem e_Job_foldBy_32 : dc md_Job_foldBy.2.1 32 35 (.invokevirtual 57) 3 := ⟨by decide +kernel, rfl⟩
theorem e_Job_foldBy_35 : dc md_Job_foldBy.2.1 35 38 (.invokestatic 61) 3 := ⟨by decide +kernel, rfl⟩
theorem e_Job_foldBy_38 : dj md_Job_foldBy.2.1 38 41 54 16 (.ifCond .eq 16) 3 := ⟨by decide +kernel, rfl, by decide⟩
theorem e_Job_foldBy_41 : dc md_Job_foldBy.2.1 41 42 (.aload_n 0) 1 := ⟨by decide +kernel, rfl⟩
theorem e_Job_foldBy_42 : dc md_Job_foldBy.2.1 42 43 (.dup) 1 := ⟨by decide +kernel, rfl⟩
theorem e_Job_foldBy_43 : dc md_Job_foldBy.2.1 43 46 (.getfield 51) 3 := ⟨by decide +kernel, rfl⟩
theorem e_Job_foldBy_46 : dc md_Job_foldBy.2.1 46 47 (.iconst 2) 1 := ⟨by decide +kernel, rfl⟩
theorem e_Job_foldBy_47 : dc md_Job_foldBy.2.1 47 48 (.imul) 1 := ⟨by decide +kernel, rfl⟩
theorem e_Job_foldBy_48 : dc md_Job_foldBy.2.1 48 51 (.putfield 51) 3 := ⟨by decide +kernel, rfl⟩
theorem e_Job_foldBy_51 : dj md_Job_foldBy.2.1 51 54 64 13 (.goto 13) 3 := ⟨by decide +kernel, rfl, by decide⟩
theorem e_Job_foldBy_54 : dc md_Job_foldBy.2.1 54 55 (.aload_n 0) 1 := ⟨by decide +kernel, rfl⟩
theorem e_Job_foldBy_55 : dc md_Job_foldBy.2.1 55 56 (.dup) 1 := ⟨by decide +kernel, rfl⟩
theorem e_Job_foldBy_56 : dc md_Job_foldBy.2.1 56 59 (.getfield 54) 3 := ⟨by decide +kernel, rfl⟩
theorem e_Job_foldBy_59 : dc md_Job_foldBy.2.1 59 60 (.iconst 2) 1 := ⟨by decide +kernel, rfl⟩
theorem e_Job_foldBy_60 : dc md_Job_foldBy.2.1 60 61 (.imul) 1 := ⟨by decide +kernel, rfl⟩
theorem e_Job_foldBy_61 : dc md_Job_foldBy.2.1 61 64 (.putfield 54) 3 := ⟨by decide +kernel, rfl⟩
theorem e_Job_foldBy_64 : dc md_Job_foldBy.2.1 64 67 (.iinc 3 1) 3 := ⟨by decide +kernel, rfl⟩
theorem e_Job_foldBy_67 : dj md_Job_foldBy.2.1 67 70 22 (-45) (.goto (-45)) 3 := ⟨by decide +kernel, rfl, by decide⟩
theorem e_Job_foldBy_70 : dc md_Job_foldBy.2.1 70 71 (.return_) 1 := ⟨by decide +kernel, rfl⟩
def md_Job_init : MD := ("PressSheets$Job", prog_2_method_1_code, 1, none, 2, 44)
def y_Job_init : MethodName := ⟨"PressSheets$Job", "<init>", "()V"⟩
theorem my_Job_init : MY y_Job_init md_Job_init 0 := ⟨lw_r 32 (by decide +kernel), lw_r 3 (by decide +kernel), by decide, by decide, by decide +kernel⟩
theorem e_Job_init_0 : dc md_Job_init.2.1 0 1 (.aload_n 0) 1 := ⟨by decide +kernel, rfl⟩
theorem e_Job_init_1 : dc md_Job_init.2.1 1 4 (.invokespecial 3) 3 := ⟨by decide +kernel, rfl⟩
theorem e_Job_init_4 : dc md_Job_init.2.1 4 5 (.aload_n 0) 1 := ⟨by decide +kernel, rfl⟩
theorem e_Job_init_5 : dc md_Job_init.2.1 5 6 (.iconst 4) 1 := ⟨by decide +kernel, rfl⟩
theorem e_Job_init_6 : dc md_Job_init.2.1 6 9 (.putfield 9) 3 := ⟨by decide +kernel, rfl⟩
theorem e_Job_init_9 : dc md_Job_init.2.1 9 10 (.aload_n 0) 1 := ⟨by decide +kernel, rfl⟩
theorem e_Job_init_10 : dc md_Job_init.2.1 10 12 (.bipush 100) 2 := ⟨by decide +kernel, rfl⟩
theorem e_Job_init_12 : dc md_Job_init.2.1 12 15 (.putfield 15) 3 := ⟨by decide +kernel, rfl⟩
theorem e_Job_init_15 : dc md_Job_init.2.1 15 16 (.aload_n 0) 1 := ⟨by decide +kernel, rfl⟩
theorem e_Job_init_16 : dc md_Job_init.2.1 16 17 (.iconst 1) 1 := ⟨by decide +kernel, rfl⟩
theorem e_Job_init_17 : dc md_Job_init.2.1 17 20 (.putfield 18) 3 := ⟨by decide +kernel, rfl⟩
theorem e_Job_init_20 : dc md_Job_init.2.1 20 21 (.aload_n 0) 1 := ⟨by decide +kernel, rfl⟩
theorem e_Job_init_21 : dc md_Job_init.2.1 21 24 (.new 21) 3 := ⟨by decide +kernel, rfl⟩
theorem e_Job_init_24 : dc md_Job_init.2.1 24 25 (.dup) 1 := ⟨by decide +kernel, rfl⟩
theorem e_Job_init_25 : dc md_Job_init.2.1 25 28 (.invokespecial 23) 3 := ⟨by decide +kernel, rfl⟩
theorem e_Job_init_28 : dc md_Job_init.2.1 28 31 (.putfield 24) 3 := ⟨by decide +kernel, rfl⟩
theorem e_Job_init_31 : dc md_Job_init.2.1 31 32 (.aload_n 0) 1 := ⟨by decide +kernel, rfl⟩
theorem e_Job_init_32 : dc md_Job_init.2.1 32 35 (.new 28) 3 := ⟨by decide +kernel, rfl⟩
theorem e_Job_init_35 : dc md_Job_init.2.1 35 36 (.dup) 1 := ⟨by decide +kernel, rfl⟩
theorem e_Job_init_36 : dc md_Job_init.2.1 36 39 (.invokespecial 30) 3 := ⟨by decide +kernel, rfl⟩
theorem e_Job_init_39 : dc md_Job_init.2.1 39 42 (.putfield 31) 3 := ⟨by decide +kernel, rfl⟩
theorem e_Job_init_42 : dc md_Job_init.2.1 42 43 (.aload_n 0) 1 := ⟨by decide +kernel, rfl⟩
theorem e_Job_init_43 : dc md_Job_init.2.1 43 44 (.iconst 1) 1 := ⟨by decide +kernel, rfl⟩
theorem e_Job_init_44 : dc md_Job_init.2.1 44 45 (.iconst 0) 1 := ⟨by decide +kernel, rfl⟩
theorem e_Job_init_45 : dc md_Job_init.2.1 45 48 (.invokevirtual 35) 3 := ⟨by decide +kernel, rfl⟩
theorem e_Job_init_48 : dc md_Job_init.2.1 48 49 (.return_) 1 := ⟨by decide +kernel, rfl⟩
def md_Row_init : MD := ("PressSheets$Row", prog_6_method_1_code, 2, none, 1, 20)
def y_Row_init : MethodName := ⟨"PressSheets$Row", "<init>", "(I)V"⟩
theorem my_Row_init : MY y_Row_init md_Row_init 1 := ⟨lw_r 169 (by decide +kernel), lw_r 7 (by decide +kernel), by decide, by decide, by decide +kernel⟩
theorem e_Row_init_0 : dc md_Row_init.2.1 0 1 (.aload_n 0) 1 := ⟨by decide +kernel, rfl⟩
theorem e_Row_init_1 : dc md_Row_init.2.1 1 4 (.invokespecial 3) 3 := ⟨by decide +kernel, rfl⟩
theorem e_Row_init_4 : dc md_Row_init.2.1 4 5 (.aload_n 0) 1 := ⟨by decide +kernel, rfl⟩
theorem e_Row_init_5 : dc md_Row_init.2.1 5 6 (.iload_n 1) 1 := ⟨by decide +kernel, rfl⟩
theorem e_Row_init_6 : dj md_Row_init.2.1 6 9 13 7 (.ifCond .le 7) 3 := ⟨by decide +kernel, rfl, by decide⟩
theorem e_Row_init_9 : dc md_Row_init.2.1 9 10 (.iload_n 1) 1 := ⟨by decide +kernel, rfl⟩
theorem e_Row_init_10 : dj md_Row_init.2.1 10 13 14 4 (.goto 4) 3 := ⟨by decide +kernel, rfl, by decide⟩
theorem e_Row_init_13 : dc md_Row_init.2.1 13 14 (.iconst 0) 1 := ⟨by decide +kernel, rfl⟩
theorem e_Row_init_14 : dc md_Row_init.2.1 14 16 (.newarray .int) 2 := ⟨by decide +kernel, rfl⟩
theorem e_Row_init_16 : dc md_Row_init.2.1 16 19 (.putfield 9) 3 := ⟨by decide +kernel, rfl⟩
theorem e_Row_init_19 : dc md_Row_init.2.1 19 20 (.return_) 1 := ⟨by decide +kernel, rfl⟩
def md_Press_init : MD := ("PressSheets$Press", prog_5_method_1_code, 1, none, 2, 41)
def y_Press_init : MethodName := ⟨"PressSheets$Press", "<init>", "()V"⟩
theorem my_Press_init : MY y_Press_init md_Press_init 0 := ⟨lw_r 163 (by decide +kernel), lw_r 6 (by decide +kernel), by decide, by decide, by decide +kernel⟩
theorem e_Press_init_0 : dc md_Press_init.2.1 0 1 (.aload_n 0) 1 := ⟨by decide +kernel, rfl⟩
theorem e_Press_init_1 : dc md_Press_init.2.1 1 4 (.invokespecial 3) 3 := ⟨by decide +kernel, rfl⟩
theorem e_Press_init_4 : dc md_Press_init.2.1 4 5 (.aload_n 0) 1 := ⟨by decide +kernel, rfl⟩
theorem e_Press_init_5 : dc md_Press_init.2.1 5 8 (.new 9) 3 := ⟨by decide +kernel, rfl⟩
theorem e_Press_init_8 : dc md_Press_init.2.1 8 9 (.dup) 1 := ⟨by decide +kernel, rfl⟩
theorem e_Press_init_9 : dc md_Press_init.2.1 9 11 (.bipush 40) 2 := ⟨by decide +kernel, rfl⟩
theorem e_Press_init_11 : dc md_Press_init.2.1 11 14 (.invokespecial 11) 3 := ⟨by decide +kernel, rfl⟩
theorem e_Press_init_14 : dc md_Press_init.2.1 14 17 (.putfield 14) 3 := ⟨by decide +kernel, rfl⟩
theorem e_Press_init_17 : dc md_Press_init.2.1 17 18 (.aload_n 0) 1 := ⟨by decide +kernel, rfl⟩
theorem e_Press_init_18 : dc md_Press_init.2.1 18 21 (.new 9) 3 := ⟨by decide +kernel, rfl⟩
theorem e_Press_init_21 : dc md_Press_init.2.1 21 22 (.dup) 1 := ⟨by decide +kernel, rfl⟩
theorem e_Press_init_22 : dc md_Press_init.2.1 22 24 (.bipush 64) 2 := ⟨by decide +kernel, rfl⟩
theorem e_Press_init_24 : dc md_Press_init.2.1 24 27 (.invokespecial 11) 3 := ⟨by decide +kernel, rfl⟩
theorem e_Press_init_27 : dc md_Press_init.2.1 27 30 (.putfield 20) 3 := ⟨by decide +kernel, rfl⟩
theorem e_Press_init_30 : dc md_Press_init.2.1 30 31 (.return_) 1 := ⟨by decide +kernel, rfl⟩
def md_Plan_init : MD := ("PressSheets$Plan", prog_4_method_1_code, 1, none, 2, 41)
def y_Plan_init : MethodName := ⟨"PressSheets$Plan", "<init>", "()V"⟩
theorem my_Plan_init : MY y_Plan_init md_Plan_init 0 := ⟨lw_r 199 (by decide +kernel), lw_r 8 (by decide +kernel), by decide, by decide, by decide +kernel⟩
theorem e_Plan_init_0 : dc md_Plan_init.2.1 0 1 (.aload_n 0) 1 := ⟨by decide +kernel, rfl⟩
theorem e_Plan_init_1 : dc md_Plan_init.2.1 1 4 (.invokespecial 3) 3 := ⟨by decide +kernel, rfl⟩
theorem e_Plan_init_4 : dc md_Plan_init.2.1 4 5 (.aload_n 0) 1 := ⟨by decide +kernel, rfl⟩
theorem e_Plan_init_5 : dc md_Plan_init.2.1 5 8 (.new 9) 3 := ⟨by decide +kernel, rfl⟩
theorem e_Plan_init_8 : dc md_Plan_init.2.1 8 9 (.dup) 1 := ⟨by decide +kernel, rfl⟩
theorem e_Plan_init_9 : dc md_Plan_init.2.1 9 11 (.bipush 60) 2 := ⟨by decide +kernel, rfl⟩
theorem e_Plan_init_11 : dc md_Plan_init.2.1 11 14 (.invokespecial 13) 3 := ⟨by decide +kernel, rfl⟩
theorem e_Plan_init_14 : dc md_Plan_init.2.1 14 17 (.putfield 16) 3 := ⟨by decide +kernel, rfl⟩
theorem e_Plan_init_17 : dc md_Plan_init.2.1 17 18 (.aload_n 0) 1 := ⟨by decide +kernel, rfl⟩
theorem e_Plan_init_18 : dc md_Plan_init.2.1 18 21 (.new 9) 3 := ⟨by decide +kernel, rfl⟩
theorem e_Plan_init_21 : dc md_Plan_init.2.1 21 22 (.dup) 1 := ⟨by decide +kernel, rfl⟩
theorem e_Plan_init_22 : dc md_Plan_init.2.1 22 24 (.bipush 60) 2 := ⟨by decide +kernel, rfl⟩
theorem e_Plan_init_24 : dc md_Plan_init.2.1 24 27 (.invokespecial 13) 3 := ⟨by decide +kernel, rfl⟩
theorem e_Plan_init_27 : dc md_Plan_init.2.1 27 30 (.putfield 20) 3 := ⟨by decide +kernel, rfl⟩
theorem e_Plan_init_30 : dc md_Plan_init.2.1 30 31 (.aload_n 0) 1 := ⟨by decide +kernel, rfl⟩
theorem e_Plan_init_31 : dc md_Plan_init.2.1 31 34 (.new 9) 3 := ⟨by decide +kernel, rfl⟩
theorem e_Plan_init_34 : dc md_Plan_init.2.1 34 35 (.dup) 1 := ⟨by decide +kernel, rfl⟩
theorem e_Plan_init_35 : dc md_Plan_init.2.1 35 37 (.bipush 60) 2 := ⟨by decide +kernel, rfl⟩
theorem e_Plan_init_37 : dc md_Plan_init.2.1 37 40 (.invokespecial 13) 3 := ⟨by decide +kernel, rfl⟩
theorem e_Plan_init_40 : dc md_Plan_init.2.1 40 43 (.putfield 23) 3 := ⟨by decide +kernel, rfl⟩
theorem e_Plan_init_43 : dc md_Plan_init.2.1 43 44 (.aload_n 0) 1 := ⟨by decide +kernel, rfl⟩
theorem e_Plan_init_44 : dc md_Plan_init.2.1 44 47 (.new 9) 3 := ⟨by decide +kernel, rfl⟩
theorem e_Plan_init_47 : dc md_Plan_init.2.1 47 48 (.dup) 1 := ⟨by decide +kernel, rfl⟩
theorem e_Plan_init_48 : dc md_Plan_init.2.1 48 49 (.iconst 4) 1 := ⟨by decide +kernel, rfl⟩
theorem e_Plan_init_49 : dc md_Plan_init.2.1 49 52 (.invokespecial 13) 3 := ⟨by decide +kernel, rfl⟩
theorem e_Plan_init_52 : dc md_Plan_init.2.1 52 55 (.putfield 26) 3 := ⟨by decide +kernel, rfl⟩
theorem e_Plan_init_55 : dc md_Plan_init.2.1 55 56 (.return_) 1 := ⟨by decide +kernel, rfl⟩
def md_State_init : MD := ("PressSheets$State", prog_8_method_1_code, 1, none, 3, 64)
def y_State_init : MethodName := ⟨"PressSheets$State", "<init>", "()V"⟩
theorem my_State_init : MY y_State_init md_State_init 0 := ⟨lw_r 26 (by decide +kernel), lw_r 2 (by decide +kernel), by decide, by decide, by decide +kernel⟩
theorem e_State_init_0 : dc md_State_init.2.1 0 1 (.aload_n 0) 1 := ⟨by decide +kernel, rfl⟩
theorem e_State_init_1 : dc md_State_init.2.1 1 4 (.invokespecial 3) 3 := ⟨by decide +kernel, rfl⟩
theorem e_State_init_4 : dc md_State_init.2.1 4 5 (.aload_n 0) 1 := ⟨by decide +kernel, rfl⟩
theorem e_State_init_5 : dc md_State_init.2.1 5 8 (.new 9) 3 := ⟨by decide +kernel, rfl⟩
theorem e_State_init_8 : dc md_State_init.2.1 8 9 (.dup) 1 := ⟨by decide +kernel, rfl⟩
theorem e_State_init_9 : dc md_State_init.2.1 9 12 (.invokespecial 11) 3 := ⟨by decide +kernel, rfl⟩
theorem e_State_init_12 : dc md_State_init.2.1 12 15 (.putfield 12) 3 := ⟨by decide +kernel, rfl⟩
theorem e_State_init_15 : dc md_State_init.2.1 15 16 (.aload_n 0) 1 := ⟨by decide +kernel, rfl⟩
theorem e_State_init_16 : dc md_State_init.2.1 16 19 (.new 18) 3 := ⟨by decide +kernel, rfl⟩
theorem e_State_init_19 : dc md_State_init.2.1 19 20 (.dup) 1 := ⟨by decide +kernel, rfl⟩
theorem e_State_init_20 : dc md_State_init.2.1 20 23 (.invokespecial 20) 3 := ⟨by decide +kernel, rfl⟩
theorem e_State_init_23 : dc md_State_init.2.1 23 26 (.putfield 21) 3 := ⟨by decide +kernel, rfl⟩
theorem e_State_init_26 : dc md_State_init.2.1 26 27 (.aload_n 0) 1 := ⟨by decide +kernel, rfl⟩
theorem e_State_init_27 : dc md_State_init.2.1 27 30 (.new 25) 3 := ⟨by decide +kernel, rfl⟩
theorem e_State_init_30 : dc md_State_init.2.1 30 31 (.dup) 1 := ⟨by decide +kernel, rfl⟩
theorem e_State_init_31 : dc md_State_init.2.1 31 34 (.invokespecial 27) 3 := ⟨by decide +kernel, rfl⟩
theorem e_State_init_34 : dc md_State_init.2.1 34 37 (.putfield 28) 3 := ⟨by decide +kernel, rfl⟩
theorem e_State_init_37 : dc md_State_init.2.1 37 38 (.aload_n 0) 1 := ⟨by decide +kernel, rfl⟩
theorem e_State_init_38 : dc md_State_init.2.1 38 41 (.new 32) 3 := ⟨by decide +kernel, rfl⟩
theorem e_State_init_41 : dc md_State_init.2.1 41 42 (.dup) 1 := ⟨by decide +kernel, rfl⟩
theorem e_State_init_42 : dc md_State_init.2.1 42 43 (.iconst 5) 1 := ⟨by decide +kernel, rfl⟩
theorem e_State_init_43 : dc md_State_init.2.1 43 46 (.invokespecial 34) 3 := ⟨by decide +kernel, rfl⟩
theorem e_State_init_46 : dc md_State_init.2.1 46 49 (.putfield 37) 3 := ⟨by decide +kernel, rfl⟩
theorem e_State_init_49 : dc md_State_init.2.1 49 50 (.aload_n 0) 1 := ⟨by decide +kernel, rfl⟩
theorem e_State_init_50 : dc md_State_init.2.1 50 53 (.new 32) 3 := ⟨by decide +kernel, rfl⟩
theorem e_State_init_53 : dc md_State_init.2.1 53 54 (.dup) 1 := ⟨by decide +kernel, rfl⟩
theorem e_State_init_54 : dc md_State_init.2.1 54 55 (.iconst 5) 1 := ⟨by decide +kernel, rfl⟩
theorem e_State_init_55 : dc md_State_init.2.1 55 58 (.invokespecial 34) 3 := ⟨by decide +kernel, rfl⟩
theorem e_State_init_58 : dc md_State_init.2.1 58 61 (.putfield 41) 3 := ⟨by decide +kernel, rfl⟩
theorem e_State_init_61 : dc md_State_init.2.1 61 62 (.aload_n 0) 1 := ⟨by decide +kernel, rfl⟩
theorem e_State_init_62 : dc md_State_init.2.1 62 65 (.new 32) 3 := ⟨by decide +kernel, rfl⟩
theorem e_State_init_65 : dc md_State_init.2.1 65 66 (.dup) 1 := ⟨by decide +kernel, rfl⟩
theorem e_State_init_66 : dc md_State_init.2.1 66 68 (.bipush 8) 2 := ⟨by decide +kernel, rfl⟩
theorem e_State_init_68 : dc md_State_init.2.1 68 71 (.invokespecial 34) 3 := ⟨by decide +kernel, rfl⟩
theorem e_State_init_71 : dc md_State_init.2.1 71 74 (.putfield 44) 3 := ⟨by decide +kernel, rfl⟩
theorem e_State_init_74 : dc md_State_init.2.1 74 75 (.aload_n 0) 1 := ⟨by decide +kernel, rfl⟩
theorem e_State_init_75 : dc md_State_init.2.1 75 78 (.new 32) 3 := ⟨by decide +kernel, rfl⟩
theorem e_State_init_78 : dc md_State_init.2.1 78 79 (.dup) 1 := ⟨by decide +kernel, rfl⟩
theorem e_State_init_79 : dc md_State_init.2.1 79 81 (.bipush 8) 2 := ⟨by decide +kernel, rfl⟩
theorem e_State_init_81 : dc md_State_init.2.1 81 84 (.invokespecial 34) 3 := ⟨by decide +kernel, rfl⟩
theorem e_State_init_84 : dc md_State_init.2.1 84 87 (.putfield 47) 3 := ⟨by decide +kernel, rfl⟩
theorem e_State_init_87 : dc md_State_init.2.1 87 88 (.return_) 1 := ⟨by decide +kernel, rfl⟩
def md_Text_init : MD := ("PressSheets$Text", prog_10_method_1_code, 1, none, 2, 41)
def y_Text_init : MethodName := ⟨"PressSheets$Text", "<init>", "()V"⟩
theorem my_Text_init : MY y_Text_init md_Text_init 0 := ⟨lw_r 257 (by decide +kernel), lw_r 9 (by decide +kernel), by decide, by decide, by decide +kernel⟩
theorem e_Text_init_0 : dc md_Text_init.2.1 0 1 (.aload_n 0) 1 := ⟨by decide +kernel, rfl⟩
theorem e_Text_init_1 : dc md_Text_init.2.1 1 4 (.invokespecial 3) 3 := ⟨by decide +kernel, rfl⟩
theorem e_Text_init_4 : dc md_Text_init.2.1 4 5 (.aload_n 0) 1 := ⟨by decide +kernel, rfl⟩
theorem e_Text_init_5 : dc md_Text_init.2.1 5 8 (.new 9) 3 := ⟨by decide +kernel, rfl⟩
theorem e_Text_init_8 : dc md_Text_init.2.1 8 9 (.dup) 1 := ⟨by decide +kernel, rfl⟩
theorem e_Text_init_9 : dc md_Text_init.2.1 9 11 (.bipush 100) 2 := ⟨by decide +kernel, rfl⟩
theorem e_Text_init_11 : dc md_Text_init.2.1 11 14 (.invokespecial 11) 3 := ⟨by decide +kernel, rfl⟩
theorem e_Text_init_14 : dc md_Text_init.2.1 14 17 (.putfield 14) 3 := ⟨by decide +kernel, rfl⟩
theorem e_Text_init_17 : dc md_Text_init.2.1 17 18 (.aload_n 0) 1 := ⟨by decide +kernel, rfl⟩
theorem e_Text_init_18 : dc md_Text_init.2.1 18 21 (.new 9) 3 := ⟨by decide +kernel, rfl⟩
theorem e_Text_init_21 : dc md_Text_init.2.1 21 22 (.dup) 1 := ⟨by decide +kernel, rfl⟩
theorem e_Text_init_22 : dc md_Text_init.2.1 22 24 (.bipush 10) 2 := ⟨by decide +kernel, rfl⟩
theorem e_Text_init_24 : dc md_Text_init.2.1 24 27 (.invokespecial 11) 3 := ⟨by decide +kernel, rfl⟩
theorem e_Text_init_27 : dc md_Text_init.2.1 27 30 (.putfield 20) 3 := ⟨by decide +kernel, rfl⟩
theorem e_Text_init_30 : dc md_Text_init.2.1 30 31 (.aload_n 0) 1 := ⟨by decide +kernel, rfl⟩
theorem e_Text_init_31 : dc md_Text_init.2.1 31 34 (.new 9) 3 := ⟨by decide +kernel, rfl⟩
theorem e_Text_init_34 : dc md_Text_init.2.1 34 35 (.dup) 1 := ⟨by decide +kernel, rfl⟩
theorem e_Text_init_35 : dc md_Text_init.2.1 35 37 (.bipush 10) 2 := ⟨by decide +kernel, rfl⟩
theorem e_Text_init_37 : dc md_Text_init.2.1 37 40 (.invokespecial 11) 3 := ⟨by decide +kernel, rfl⟩
theorem e_Text_init_40 : dc md_Text_init.2.1 40 43 (.putfield 23) 3 := ⟨by decide +kernel, rfl⟩
theorem e_Text_init_43 : dc md_Text_init.2.1 43 44 (.aload_n 0) 1 := ⟨by decide +kernel, rfl⟩
theorem e_Text_init_44 : dc md_Text_init.2.1 44 47 (.new 9) 3 := ⟨by decide +kernel, rfl⟩
theorem e_Text_init_47 : dc md_Text_init.2.1 47 48 (.dup) 1 := ⟨by decide +kernel, rfl⟩
theorem e_Text_init_48 : dc md_Text_init.2.1 48 50 (.bipush 10) 2 := ⟨by decide +kernel, rfl⟩
theorem e_Text_init_50 : dc md_Text_init.2.1 50 53 (.invokespecial 11) 3 := ⟨by decide +kernel, rfl⟩
theorem e_Text_init_53 : dc md_Text_init.2.1 53 56 (.putfield 26) 3 := ⟨by decide +kernel, rfl⟩
theorem e_Text_init_56 : dc md_Text_init.2.1 56 57 (.return_) 1 := ⟨by decide +kernel, rfl⟩
def md_Tape_init : MD := ("PressSheets$Tape", prog_9_method_1_code, 1, none, 1, 20)
def y_Tape_init : MethodName := ⟨"PressSheets$Tape", "<init>", "()V"⟩
theorem my_Tape_init : MY y_Tape_init md_Tape_init 0 := ⟨lw_r 286 (by decide +kernel), lw_r 10 (by decide +kernel), by decide, by decide, by decide +kernel⟩
theorem e_Tape_init_0 : dc md_Tape_init.2.1 0 1 (.aload_n 0) 1 := ⟨by decide +kernel, rfl⟩
theorem e_Tape_init_1 : dc md_Tape_init.2.1 1 4 (.invokespecial 3) 3 := ⟨by decide +kernel, rfl⟩
theorem e_Tape_init_4 : dc md_Tape_init.2.1 4 5 (.aload_n 0) 1 := ⟨by decide +kernel, rfl⟩
theorem e_Tape_init_5 : dc md_Tape_init.2.1 5 6 (.iconst (-1)) 1 := ⟨by decide +kernel, rfl⟩
theorem e_Tape_init_6 : dc md_Tape_init.2.1 6 9 (.putfield 11) 3 := ⟨by decide +kernel, rfl⟩
theorem e_Tape_init_9 : dc md_Tape_init.2.1 9 10 (.aload_n 0) 1 := ⟨by decide +kernel, rfl⟩
theorem e_Tape_init_10 : dc md_Tape_init.2.1 10 12 (.bipush 60) 2 := ⟨by decide +kernel, rfl⟩
theorem e_Tape_init_12 : dc md_Tape_init.2.1 12 14 (.newarray .long) 2 := ⟨by decide +kernel, rfl⟩
theorem e_Tape_init_14 : dc md_Tape_init.2.1 14 17 (.putfield 15) 3 := ⟨by decide +kernel, rfl⟩
theorem e_Tape_init_17 : dc md_Tape_init.2.1 17 18 (.return_) 1 := ⟨by decide +kernel, rfl⟩
def md_PS_init : MD := ("PressSheets", prog_1_method_1_code, 1, none, 4, 84)
def y_PS_init : MethodName := ⟨"PressSheets", "<init>", "()V"⟩
theorem my_PS_init : MY y_PS_init md_PS_init 0 := ⟨lw_r 18 (by decide +kernel), lw_r 1 (by decide +kernel), by decide, by decide, by decide +kernel⟩
theorem e_PS_init_0 : dc md_PS_init.2.1 0 1 (.aload_n 0) 1 := ⟨by decide +kernel, rfl⟩
theorem e_PS_init_1 : dc md_PS_init.2.1 1 4 (.invokespecial 3) 3 := ⟨by decide +kernel, rfl⟩
theorem e_PS_init_4 : dc md_PS_init.2.1 4 5 (.aload_n 0) 1 := ⟨by decide +kernel, rfl⟩
theorem e_PS_init_5 : dc md_PS_init.2.1 5 8 (.new 9) 3 := ⟨by decide +kernel, rfl⟩
theorem e_PS_init_8 : dc md_PS_init.2.1 8 9 (.dup) 1 := ⟨by decide +kernel, rfl⟩
theorem e_PS_init_9 : dc md_PS_init.2.1 9 12 (.invokespecial 11) 3 := ⟨by decide +kernel, rfl⟩
theorem e_PS_init_12 : dc md_PS_init.2.1 12 15 (.putfield 12) 3 := ⟨by decide +kernel, rfl⟩
theorem e_PS_init_15 : dc md_PS_init.2.1 15 16 (.aload_n 0) 1 := ⟨by decide +kernel, rfl⟩
theorem e_PS_init_16 : dc md_PS_init.2.1 16 19 (.new 9) 3 := ⟨by decide +kernel, rfl⟩
theorem e_PS_init_19 : dc md_PS_init.2.1 19 20 (.dup) 1 := ⟨by decide +kernel, rfl⟩
theorem e_PS_init_20 : dc md_PS_init.2.1 20 23 (.invokespecial 11) 3 := ⟨by decide +kernel, rfl⟩
theorem e_PS_init_23 : dc md_PS_init.2.1 23 26 (.putfield 18) 3 := ⟨by decide +kernel, rfl⟩
theorem e_PS_init_26 : dc md_PS_init.2.1 26 27 (.aload_n 0) 1 := ⟨by decide +kernel, rfl⟩
theorem e_PS_init_27 : dc md_PS_init.2.1 27 30 (.new 21) 3 := ⟨by decide +kernel, rfl⟩
theorem e_PS_init_30 : dc md_PS_init.2.1 30 31 (.dup) 1 := ⟨by decide +kernel, rfl⟩
theorem e_PS_init_31 : dc md_PS_init.2.1 31 34 (.invokespecial 23) 3 := ⟨by decide +kernel, rfl⟩
theorem e_PS_init_34 : dc md_PS_init.2.1 34 37 (.putfield 24) 3 := ⟨by decide +kernel, rfl⟩
theorem e_PS_init_37 : dc md_PS_init.2.1 37 38 (.aload_n 0) 1 := ⟨by decide +kernel, rfl⟩
theorem e_PS_init_38 : dc md_PS_init.2.1 38 41 (.new 28) 3 := ⟨by decide +kernel, rfl⟩
theorem e_PS_init_41 : dc md_PS_init.2.1 41 42 (.dup) 1 := ⟨by decide +kernel, rfl⟩
theorem e_PS_init_42 : dc md_PS_init.2.1 42 45 (.invokespecial 30) 3 := ⟨by decide +kernel, rfl⟩
theorem e_PS_init_45 : dc md_PS_init.2.1 45 48 (.putfield 31) 3 := ⟨by decide +kernel, rfl⟩
theorem e_PS_init_48 : dc md_PS_init.2.1 48 49 (.aload_n 0) 1 := ⟨by decide +kernel, rfl⟩
theorem e_PS_init_49 : dc md_PS_init.2.1 49 51 (.bipush 6) 2 := ⟨by decide +kernel, rfl⟩
theorem e_PS_init_51 : dc md_PS_init.2.1 51 54 (.anewarray 35) 3 := ⟨by decide +kernel, rfl⟩
theorem e_PS_init_54 : dc md_PS_init.2.1 54 55 (.dup) 1 := ⟨by decide +kernel, rfl⟩
theorem e_PS_init_55 : dc md_PS_init.2.1 55 56 (.iconst 0) 1 := ⟨by decide +kernel, rfl⟩
theorem e_PS_init_56 : dc md_PS_init.2.1 56 59 (.new 35) 3 := ⟨by decide +kernel, rfl⟩
theorem e_PS_init_59 : dc md_PS_init.2.1 59 60 (.dup) 1 := ⟨by decide +kernel, rfl⟩
theorem e_PS_init_60 : dc md_PS_init.2.1 60 63 (.invokespecial 37) 3 := ⟨by decide +kernel, rfl⟩
theorem e_PS_init_63 : dc md_PS_init.2.1 63 64 (.aastore) 1 := ⟨by decide +kernel, rfl⟩
theorem e_PS_init_64 : dc md_PS_init.2.1 64 65 (.dup) 1 := ⟨by decide +kernel, rfl⟩
theorem e_PS_init_65 : dc md_PS_init.2.1 65 66 (.iconst 1) 1 := ⟨by decide +kernel, rfl⟩
theorem e_PS_init_66 : dc md_PS_init.2.1 66 69 (.new 35) 3 := ⟨by decide +kernel, rfl⟩
theorem e_PS_init_69 : dc md_PS_init.2.1 69 70 (.dup) 1 := ⟨by decide +kernel, rfl⟩
theorem e_PS_init_70 : dc md_PS_init.2.1 70 73 (.invokespecial 37) 3 := ⟨by decide +kernel, rfl⟩
theorem e_PS_init_73 : dc md_PS_init.2.1 73 74 (.aastore) 1 := ⟨by decide +kernel, rfl⟩
theorem e_PS_init_74 : dc md_PS_init.2.1 74 75 (.dup) 1 := ⟨by decide +kernel, rfl⟩
theorem e_PS_init_75 : dc md_PS_init.2.1 75 76 (.iconst 2) 1 := ⟨by decide +kernel, rfl⟩
theorem e_PS_init_76 : dc md_PS_init.2.1 76 79 (.new 35) 3 := ⟨by decide +kernel, rfl⟩
theorem e_PS_init_79 : dc md_PS_init.2.1 79 80 (.dup) 1 := ⟨by decide +kernel, rfl⟩
theorem e_PS_init_80 : dc md_PS_init.2.1 80 83 (.invokespecial 37) 3 := ⟨by decide +kernel, rfl⟩
theorem e_PS_init_83 : dc md_PS_init.2.1 83 84 (.aastore) 1 := ⟨by decide +kernel, rfl⟩
theorem e_PS_init_84 : dc md_PS_init.2.1 84 85 (.dup) 1 := ⟨by decide +kernel, rfl⟩
theorem e_PS_init_85 : dc md_PS_init.2.1 85 86 (.iconst 3) 1 := ⟨by decide +kernel, rfl⟩
theorem e_PS_init_86 : dc md_PS_init.2.1 86 89 (.new 35) 3 := ⟨by decide +kernel, rfl⟩
theorem e_PS_init_89 : dc md_PS_init.2.1 89 90 (.dup) 1 := ⟨by decide +kernel, rfl⟩
theorem e_PS_init_90 : dc md_PS_init.2.1 90 93 (.invokespecial 37) 3 := ⟨by decide +kernel, rfl⟩
theorem e_PS_init_93 : dc md_PS_init.2.1 93 94 (.aastore) 1 := ⟨by decide +kernel, rfl⟩
theorem e_PS_init_94 : dc md_PS_init.2.1 94 95 (.dup) 1 := ⟨by decide +kernel, rfl⟩
theorem e_PS_init_95 : dc md_PS_init.2.1 95 96 (.iconst 4) 1 := ⟨by decide +kernel, rfl⟩
theorem e_PS_init_96 : dc md_PS_init.2.1 96 99 (.new 35) 3 := ⟨by decide +kernel, rfl⟩
theorem e_PS_init_99 : dc md_PS_init.2.1 99 100 (.dup) 1 := ⟨by decide +kernel, rfl⟩
theorem e_PS_init_100 : dc md_PS_init.2.1 100 103 (.invokespecial 37) 3 := ⟨by decide +kernel, rfl⟩
theorem e_PS_init_103 : dc md_PS_init.2.1 103 104 (.aastore) 1 := ⟨by decide +kernel, rfl⟩
theorem e_PS_init_104 : dc md_PS_init.2.1 104 105 (.dup) 1 := ⟨by decide +kernel, rfl⟩
theorem e_PS_init_105 : dc md_PS_init.2.1 105 106 (.iconst 5) 1 := ⟨by decide +kernel, rfl⟩
theorem e_PS_init_106 : dc md_PS_init.2.1 106 109 (.new 35) 3 := ⟨by decide +kernel, rfl⟩
theorem e_PS_init_109 : dc md_PS_init.2.1 109 110 (.dup) 1 := ⟨by decide +kernel, rfl⟩
theorem e_PS_init_110 : dc md_PS_init.2.1 110 113 (.invokespecial 37) 3 := ⟨by decide +kernel, rfl⟩
theorem e_PS_init_113 : dc md_PS_init.2.1 113 114 (.aastore) 1 := ⟨by decide +kernel, rfl⟩
theorem e_PS_init_114 : dc md_PS_init.2.1 114 117 (.putfield 38) 3 := ⟨by decide +kernel, rfl⟩
theorem e_PS_init_117 : dc md_PS_init.2.1 117 118 (.return_) 1 := ⟨by decide +kernel, rfl⟩
def md_MD_init : MD := ("PressSheetsModel", prog_12_method_1_code, 2, none, 1, 20)
def y_MD_init : MethodName := ⟨"PressSheetsModel", "<init>", "()V"⟩
theorem my_MD_init : MY y_MD_init md_MD_init 0 := ⟨lw_r 825 (by decide +kernel), lw_r 11 (by decide +kernel), by decide, by decide, by decide +kernel⟩
theorem e_MD_init_0 : dc md_MD_init.2.1 0 1 (.aload_n 0) 1 := ⟨by decide +kernel, rfl⟩
theorem e_MD_init_1 : dc md_MD_init.2.1 1 4 (.invokespecial 3) 3 := ⟨by decide +kernel, rfl⟩
theorem e_MD_init_4 : dc md_MD_init.2.1 4 5 (.aload_n 0) 1 := ⟨by decide +kernel, rfl⟩
theorem e_MD_init_5 : dc md_MD_init.2.1 5 6 (.iconst 1) 1 := ⟨by decide +kernel, rfl⟩
theorem e_MD_init_6 : dc md_MD_init.2.1 6 9 (.putfield 9) 3 := ⟨by decide +kernel, rfl⟩
theorem e_MD_init_9 : dc md_MD_init.2.1 9 10 (.aload_n 0) 1 := ⟨by decide +kernel, rfl⟩
theorem e_MD_init_10 : dc md_MD_init.2.1 10 11 (.iconst 4) 1 := ⟨by decide +kernel, rfl⟩
theorem e_MD_init_11 : dc md_MD_init.2.1 11 14 (.putfield 15) 3 := ⟨by decide +kernel, rfl⟩
theorem e_MD_init_14 : dc md_MD_init.2.1 14 15 (.aload_n 0) 1 := ⟨by decide +kernel, rfl⟩
theorem e_MD_init_15 : dc md_MD_init.2.1 15 17 (.bipush 100) 2 := ⟨by decide +kernel, rfl⟩
theorem e_MD_init_17 : dc md_MD_init.2.1 17 20 (.putfield 18) 3 := ⟨by decide +kernel, rfl⟩
theorem e_MD_init_20 : dc md_MD_init.2.1 20 21 (.aload_n 0) 1 := ⟨by decide +kernel, rfl⟩
theorem e_MD_init_21 : dc md_MD_init.2.1 21 22 (.iconst 1) 1 := ⟨by decide +kernel, rfl⟩
theorem e_MD_init_22 : dc md_MD_init.2.1 22 25 (.putfield 21) 3 := ⟨by decide +kernel, rfl⟩
theorem e_MD_init_25 : dc md_MD_init.2.1 25 26 (.aload_n 0) 1 := ⟨by decide +kernel, rfl⟩
theorem e_MD_init_26 : dc md_MD_init.2.1 26 28 (.bipush 16) 2 := ⟨by decide +kernel, rfl⟩
theorem e_MD_init_28 : dc md_MD_init.2.1 28 30 (.newarray .int) 2 := ⟨by decide +kernel, rfl⟩
theorem e_MD_init_30 : dc md_MD_init.2.1 30 33 (.putfield 24) 3 := ⟨by decide +kernel, rfl⟩
theorem e_MD_init_33 : dc md_MD_init.2.1 33 34 (.aload_n 0) 1 := ⟨by decide +kernel, rfl⟩
theorem e_MD_init_34 : dc md_MD_init.2.1 34 36 (.bipush 16) 2 := ⟨by decide +kernel, rfl⟩
theorem e_MD_init_36 : dc md_MD_init.2.1 36 38 (.newarray .int) 2 := ⟨by decide +kernel, rfl⟩
theorem e_MD_init_38 : dc md_MD_init.2.1 38 41 (.putfield 28) 3 := ⟨by decide +kernel, rfl⟩
theorem e_MD_init_41 : dc md_MD_init.2.1 41 42 (.aload_n 0) 1 := ⟨by decide +kernel, rfl⟩
theorem e_MD_init_42 : dc md_MD_init.2.1 42 44 (.bipush 16) 2 := ⟨by decide +kernel, rfl⟩
theorem e_MD_init_44 : dc md_MD_init.2.1 44 46 (.newarray .int) 2 := ⟨by decide +kernel, rfl⟩
theorem e_MD_init_46 : dc md_MD_init.2.1 46 49 (.putfield 31) 3 := ⟨by decide +kernel, rfl⟩
theorem e_MD_init_49 : dc md_MD_init.2.1 49 50 (.aload_n 0) 1 := ⟨by decide +kernel, rfl⟩
theorem e_MD_init_50 : dc md_MD_init.2.1 50 52 (.bipush 16) 2 := ⟨by decide +kernel, rfl⟩
theorem e_MD_init_52 : dc md_MD_init.2.1 52 54 (.newarray .int) 2 := ⟨by decide +kernel, rfl⟩
theorem e_MD_init_54 : dc md_MD_init.2.1 54 57 (.putfield 34) 3 := ⟨by decide +kernel, rfl⟩
theorem e_MD_init_57 : dc md_MD_init.2.1 57 58 (.aload_n 0) 1 := ⟨by decide +kernel, rfl⟩
theorem e_MD_init_58 : dc md_MD_init.2.1 58 60 (.bipush 16) 2 := ⟨by decide +kernel, rfl⟩
theorem e_MD_init_60 : dc md_MD_init.2.1 60 62 (.newarray .int) 2 := ⟨by decide +kernel, rfl⟩
theorem e_MD_init_62 : dc md_MD_init.2.1 62 65 (.putfield 37) 3 := ⟨by decide +kernel, rfl⟩
theorem e_MD_init_65 : dc md_MD_init.2.1 65 66 (.aload_n 0) 1 := ⟨by decide +kernel, rfl⟩
theorem e_MD_init_66 : dc md_MD_init.2.1 66 68 (.bipush 16) 2 := ⟨by decide +kernel, rfl⟩
theorem e_MD_init_68 : dc md_MD_init.2.1 68 70 (.newarray .int) 2 := ⟨by decide +kernel, rfl⟩
theorem e_MD_init_70 : dc md_MD_init.2.1 70 73 (.putfield 40) 3 := ⟨by decide +kernel, rfl⟩
theorem e_MD_init_73 : dc md_MD_init.2.1 73 74 (.aload_n 0) 1 := ⟨by decide +kernel, rfl⟩
theorem e_MD_init_74 : dc md_MD_init.2.1 74 76 (.bipush 40) 2 := ⟨by decide +kernel, rfl⟩
theorem e_MD_init_76 : dc md_MD_init.2.1 76 78 (.newarray .int) 2 := ⟨by decide +kernel, rfl⟩
theorem e_MD_init_78 : dc md_MD_init.2.1 78 81 (.putfield 43) 3 := ⟨by decide +kernel, rfl⟩
theorem e_MD_init_81 : dc md_MD_init.2.1 81 82 (.aload_n 0) 1 := ⟨by decide +kernel, rfl⟩
theorem e_MD_init_82 : dc md_MD_init.2.1 82 84 (.bipush 64) 2 := ⟨by decide +kernel, rfl⟩
theorem e_MD_init_84 : dc md_MD_init.2.1 84 86 (.newarray .int) 2 := ⟨by decide +kernel, rfl⟩
theorem e_MD_init_86 : dc md_MD_init.2.1 86 89 (.putfield 46) 3 := ⟨by decide +kernel, rfl⟩
theorem e_MD_init_89 : dc md_MD_init.2.1 89 90 (.aload_n 0) 1 := ⟨by decide +kernel, rfl⟩
theorem e_MD_init_90 : dc md_MD_init.2.1 90 92 (.bipush 60) 2 := ⟨by decide +kernel, rfl⟩
theorem e_MD_init_92 : dc md_MD_init.2.1 92 94 (.newarray .int) 2 := ⟨by decide +kernel, rfl⟩
theorem e_MD_init_94 : dc md_MD_init.2.1 94 97 (.putfield 49) 3 := ⟨by decide +kernel, rfl⟩
theorem e_MD_init_97 : dc md_MD_init.2.1 97 98 (.aload_n 0) 1 := ⟨by decide +kernel, rfl⟩
theorem e_MD_init_98 : dc md_MD_init.2.1 98 100 (.bipush 60) 2 := ⟨by decide +kernel, rfl⟩
theorem e_MD_init_100 : dc md_MD_init.2.1 100 102 (.newarray .int) 2 := ⟨by decide +kernel, rfl⟩
theorem e_MD_init_102 : dc md_MD_init.2.1 102 105 (.putfield 52) 3 := ⟨by decide +kernel, rfl⟩
theorem e_MD_init_105 : dc md_MD_init.2.1 105 106 (.aload_n 0) 1 := ⟨by decide +kernel, rfl⟩
theorem e_MD_init_106 : dc md_MD_init.2.1 106 108 (.bipush 60) 2 := ⟨by decide +kernel, rfl⟩
theorem e_MD_init_108 : dc md_MD_init.2.1 108 110 (.newarray .int) 2 := ⟨by decide +kernel, rfl⟩
theorem e_MD_init_110 : dc md_MD_init.2.1 110 113 (.putfield 55) 3 := ⟨by decide +kernel, rfl⟩
theorem e_MD_init_113 : dc md_MD_init.2.1 113 114 (.aload_n 0) 1 := ⟨by decide +kernel, rfl⟩
theorem e_MD_init_114 : dc md_MD_init.2.1 114 116 (.bipush 20) 2 := ⟨by decide +kernel, rfl⟩
theorem e_MD_init_116 : dc md_MD_init.2.1 116 118 (.newarray .int) 2 := ⟨by decide +kernel, rfl⟩
theorem e_MD_init_118 : dc md_MD_init.2.1 118 121 (.putfield 58) 3 := ⟨by decide +kernel, rfl⟩
theorem e_MD_init_121 : dc md_MD_init.2.1 121 122 (.aload_n 0) 1 := ⟨by decide +kernel, rfl⟩
theorem e_MD_init_122 : dc md_MD_init.2.1 122 124 (.bipush 16) 2 := ⟨by decide +kernel, rfl⟩
theorem e_MD_init_124 : dc md_MD_init.2.1 124 126 (.newarray .int) 2 := ⟨by decide +kernel, rfl⟩
theorem e_MD_init_126 : dc md_MD_init.2.1 126 129 (.putfield 61) 3 := ⟨by decide +kernel, rfl⟩
theorem e_MD_init_129 : dc md_MD_init.2.1 129 130 (.aload_n 0) 1 := ⟨by decide +kernel, rfl⟩
theorem e_MD_init_130 : dc md_MD_init.2.1 130 132 (.bipush 100) 2 := ⟨by decide +kernel, rfl⟩
theorem e_MD_init_132 : dc md_MD_init.2.1 132 134 (.newarray .int) 2 := ⟨by decide +kernel, rfl⟩
theorem e_MD_init_134 : dc md_MD_init.2.1 134 137 (.putfield 64) 3 := ⟨by decide +kernel, rfl⟩
theorem e_MD_init_137 : dc md_MD_init.2.1 137 138 (.aload_n 0) 1 := ⟨by decide +kernel, rfl⟩
theorem e_MD_init_138 : dc md_MD_init.2.1 138 140 (.bipush 30) 2 := ⟨by decide +kernel, rfl⟩
theorem e_MD_init_140 : dc md_MD_init.2.1 140 142 (.newarray .int) 2 := ⟨by decide +kernel, rfl⟩
theorem e_MD_init_142 : dc md_MD_init.2.1 142 145 (.putfield 67) 3 := ⟨by decide +kernel, rfl⟩
theorem e_MD_init_145 : dc md_MD_init.2.1 145 146 (.aload_n 0) 1 := ⟨by decide +kernel, rfl⟩
theorem e_MD_init_146 : dc md_MD_init.2.1 146 149 (.sipush 400) 3 := ⟨by decide +kernel, rfl⟩
theorem e_MD_init_149 : dc md_MD_init.2.1 149 151 (.newarray .int) 2 := ⟨by decide +kernel, rfl⟩
theorem e_MD_init_151 : dc md_MD_init.2.1 151 154 (.putfield 70) 3 := ⟨by decide +kernel, rfl⟩
theorem e_MD_init_154 : dc md_MD_init.2.1 154 155 (.aload_n 0) 1 := ⟨by decide +kernel, rfl⟩
theorem e_MD_init_155 : dc md_MD_init.2.1 155 157 (.bipush 11) 2 := ⟨by decide +kernel, rfl⟩
theorem e_MD_init_157 : dc md_MD_init.2.1 157 159 (.newarray .int) 2 := ⟨by decide +kernel, rfl⟩
theorem e_MD_init_159 : dc md_MD_init.2.1 159 162 (.putfield 73) 3 := ⟨by decide +kernel, rfl⟩
theorem e_MD_init_162 : dc md_MD_init.2.1 162 163 (.aload_n 0) 1 := ⟨by decide +kernel, rfl⟩
theorem e_MD_init_163 : dc md_MD_init.2.1 163 165 (.bipush 6) 2 := ⟨by decide +kernel, rfl⟩
theorem e_MD_init_165 : dc md_MD_init.2.1 165 167 (.newarray .int) 2 := ⟨by decide +kernel, rfl⟩
theorem e_MD_init_167 : dc md_MD_init.2.1 167 170 (.putfield 76) 3 := ⟨by decide +kernel, rfl⟩
theorem e_MD_init_170 : dc md_MD_init.2.1 170 171 (.aload_n 0) 1 := ⟨by decide +kernel, rfl⟩
theorem e_MD_init_171 : dc md_MD_init.2.1 171 173 (.bipush 6) 2 := ⟨by decide +kernel, rfl⟩
theorem e_MD_init_173 : dc md_MD_init.2.1 173 175 (.newarray .int) 2 := ⟨by decide +kernel, rfl⟩
theorem e_MD_init_175 : dc md_MD_init.2.1 175 178 (.putfield 79) 3 := ⟨by decide +kernel, rfl⟩
theorem e_MD_init_178 : dc md_MD_init.2.1 178 179 (.aload_n 0) 1 := ⟨by decide +kernel, rfl⟩
theorem e_MD_init_179 : dc md_MD_init.2.1 179 182 (.sipush 360) 3 := ⟨by decide +kernel, rfl⟩
theorem e_MD_init_182 : dc md_MD_init.2.1 182 184 (.newarray .long) 2 := ⟨by decide +kernel, rfl⟩
theorem e_MD_init_184 : dc md_MD_init.2.1 184 187 (.putfield 82) 3 := ⟨by decide +kernel, rfl⟩
theorem e_MD_init_187 : dc md_MD_init.2.1 187 188 (.aload_n 0) 1 := ⟨by decide +kernel, rfl⟩
theorem e_MD_init_188 : dc md_MD_init.2.1 188 190 (.bipush 60) 2 := ⟨by decide +kernel, rfl⟩
theorem e_MD_init_190 : dc md_MD_init.2.1 190 192 (.newarray .long) 2 := ⟨by decide +kernel, rfl⟩
theorem e_MD_init_192 : dc md_MD_init.2.1 192 195 (.putfield 86) 3 := ⟨by decide +kernel, rfl⟩
theorem e_MD_init_195 : dc md_MD_init.2.1 195 196 (.iconst 0) 1 := ⟨by decide +kernel, rfl⟩
theorem e_MD_init_196 : dc md_MD_init.2.1 196 197 (.istore_n 1) 1 := ⟨by decide +kernel, rfl⟩
theorem e_MD_init_197 : dc md_MD_init.2.1 197 198 (.iload_n 1) 1 := ⟨by decide +kernel, rfl⟩
theorem e_MD_init_198 : dc md_MD_init.2.1 198 200 (.bipush 6) 2 := ⟨by decide +kernel, rfl⟩
theorem e_MD_init_200 : dj md_MD_init.2.1 200 203 216 16 (.if_icmp .ge 16) 3 := ⟨by decide +kernel, rfl, by decide⟩
theorem e_MD_init_203 : dc md_MD_init.2.1 203 204 (.aload_n 0) 1 := ⟨by decide +kernel, rfl⟩
theorem e_MD_init_204 : dc md_MD_init.2.1 204 207 (.getfield 76) 3 := ⟨by decide +kernel, rfl⟩
theorem e_MD_init_207 : dc md_MD_init.2.1 207 208 (.iload_n 1) 1 := ⟨by decide +kernel, rfl⟩
theorem e_MD_init_208 : dc md_MD_init.2.1 208 209 (.iconst (-1)) 1 := ⟨by decide +kernel, rfl⟩
theorem e_MD_init_209 : dc md_MD_init.2.1 209 210 (.iastore) 1 := ⟨by decide +kernel, rfl⟩
theorem e_MD_init_210 : dc md_MD_init.2.1 210 213 (.iinc 1 1) 3 := ⟨by decide +kernel, rfl⟩
theorem e_MD_init_213 : dj md_MD_init.2.1 213 216 197 (-16) (.goto (-16)) 3 := ⟨by decide +kernel, rfl, by decide⟩
theorem e_MD_init_216 : dc md_MD_init.2.1 216 217 (.return_) 1 := ⟨by decide +kernel, rfl⟩
def md_Law_law : MD := ("PressSheetsLaw", code, 4, some (FieldType.boolean), 10, 219)
theorem e_Law_law_0 : dc md_Law_law.2.1 0 3 (.new 7) 3 := ⟨by decide +kernel, rfl⟩
theorem e_Law_law_3 : dc md_Law_law.2.1 3 4 (.dup) 1 := ⟨by decide +kernel, rfl⟩
theorem e_Law_law_4 : dc md_Law_law.2.1 4 7 (.invokespecial 9) 3 := ⟨by decide +kernel, rfl⟩
theorem e_Law_law_7 : dc md_Law_law.2.1 7 8 (.astore_n 1) 1 := ⟨by decide +kernel, rfl⟩
theorem e_Law_law_8 : dc md_Law_law.2.1 8 11 (.new 10) 3 := ⟨by decide +kernel, rfl⟩
theorem e_Law_law_11 : dc md_Law_law.2.1 11 12 (.dup) 1 := ⟨by decide +kernel, rfl⟩
theorem e_Law_law_12 : dc md_Law_law.2.1 12 15 (.invokespecial 12) 3 := ⟨by decide +kernel, rfl⟩
theorem e_Law_law_15 : dc md_Law_law.2.1 15 16 (.astore_n 2) 1 := ⟨by decide +kernel, rfl⟩
theorem e_Law_law_16 : dc md_Law_law.2.1 16 17 (.iconst 0) 1 := ⟨by decide +kernel, rfl⟩
theorem e_Law_law_17 : dc md_Law_law.2.1 17 18 (.istore_n 3) 1 := ⟨by decide +kernel, rfl⟩
theorem e_Law_law_18 : dc md_Law_law.2.1 18 19 (.iload_n 3) 1 := ⟨by decide +kernel, rfl⟩
theorem e_Law_law_19 : dc md_Law_law.2.1 19 20 (.aload_n 0) 1 := ⟨by decide +kernel, rfl⟩
theorem e_Law_law_20 : dc md_Law_law.2.1 20 21 (.arraylength) 1 := ⟨by decide +kernel, rfl⟩
theorem e_Law_law_21 : dc md_Law_law.2.1 21 23 (.bipush 6) 2 := ⟨by decide +kernel, rfl⟩
theorem e_Law_law_23 : dc md_Law_law.2.1 23 24 (.isub) 1 := ⟨by decide +kernel, rfl⟩
theorem e_Law_law_24 : dj md_Law_law.2.1 24 27 1252 1228 (.if_icmp .gt 1228) 3 := ⟨by decide +kernel, rfl, by decide⟩
theorem e_Law_law_1252 : dc md_Law_law.2.1 1252 1253 (.iconst 1) 1 := ⟨by decide +kernel, rfl⟩
theorem e_Law_law_1253 : dc md_Law_law.2.1 1253 1254 (.ireturn) 1 := ⟨by decide +kernel, rfl⟩
theorem fl_Job_39 : FL "PressSheets$Job" 39 0 0 := ⟨"PressSheets$Job", tC0, 11, rfl, by decide, lw_r 107 (by decide +kernel)⟩
theorem fl_Job_42 : FL "PressSheets$Job" 42 0 1 := ⟨"PressSheets$Job", tC0, 11, rfl, by decide, lw_r 110 (by decide +kernel)⟩
theorem fl_Job_51 : FL "PressSheets$Job" 51 0 2 := ⟨"PressSheets$Job", tC0, 11, rfl, by decide, lw_r 111 (by decide +kernel)⟩
theorem fl_Job_54 : FL "PressSheets$Job" 54 0 3 := ⟨"PressSheets$Job", tC0, 11, rfl, by decide, lw_r 115 (by decide +kernel)⟩
theorem fp_Job_39 : FP "PressSheets$Job" 39 0 0 .int := ⟨"PressSheets$Job", tC0, 11, rfl, by decide, lw_r 107 (by decide +kernel), rfl, by decide +kernel⟩
theorem fp_Job_42 : FP "PressSheets$Job" 42 0 1 .int := ⟨"PressSheets$Job", tC0, 11, rfl, by decide, lw_r 110 (by decide +kernel), rfl, by decide +kernel⟩
theorem fp_Job_51 : FP "PressSheets$Job" 51 0 2 .int := ⟨"PressSheets$Job", tC0, 11, rfl, by decide, lw_r 111 (by decide +kernel), rfl, by decide +kernel⟩
theorem fp_Job_54 : FP "PressSheets$Job" 54 0 3 .int := ⟨"PressSheets$Job", tC0, 11, rfl, by decide, lw_r 115 (by decide +kernel), rfl, by decide +kernel⟩
theorem ms_Job_61 : MS "PressSheets$Job" 61 y_Job_isAcross := ⟨lw_r 104 (by decide +kernel), lw_r 105 (by decide +kernel)⟩
theorem mv_Job_35 : MV "PressSheets$Job" 35 y_Job_foldBy := ⟨lw_r 96 (by decide +kernel), lw_r 97 (by decide +kernel), lw_r 98 (by decide +kernel)⟩
theorem mv_Job_57 : MV "PressSheets$Job" 57 y_Job_figure := ⟨lw_r 100 (by decide +kernel), lw_r 101 (by decide +kernel), lw_r 102 (by decide +kernel)⟩
end
section
def f_Job_figure (a0 : Nat) (v1 : Int32) (M : Mm) : Option (Int32 × Mm) := some (((((M.1 a0 1) >>> (((2 : Int32) * (((M.1 a0 0) - (1 : Int32)) - v1)) &&& 31)) &&& (3 : Int32)) + (1 : Int32)), M)
def f_Job_isAcross (v0 : Int32) (M : Mm) : Option (Int32 × Mm) := (if (2 : Int32) < v0 then some ((0 : Int32), M) else some ((1 : Int32), M))
def f_Job_foldBy_64 (a0 : Nat) (rec22 : Int32 → Mm → Option (Unit × Mm)) (v3 : Int32) (M : Mm) : Option (Unit × Mm) := (lT (v3 + (1 : Int32)) fun x14 => rec22 x14 M)
def f_Job_foldBy_22 (a0 : Nat) : Nat → Int32 → Mm → Option (Unit × Mm)
  | 0, _, _ => none
  | n + 1, v3, M => (if (M.1 a0 0) ≤ v3 then some ((), M) else (bD (f_Job_figure a0 v3 M) fun r7 M6 => (bD (f_Job_isAcross r7 M6) fun r10 M9 => (if r10 = 0 then (lT (wI M9 a0 3 ((M9.1 a0 3) * (2 : Int32))) fun M13 => (f_Job_foldBy_64 a0 (f_Job_foldBy_22 a0 n) v3 M13)) else (lT (wI M9 a0 2 ((M9.1 a0 2) * (2 : Int32))) fun M15 => (f_Job_foldBy_64 a0 (f_Job_foldBy_22 a0 n) v3 M15))))))
theorem f_Job_foldBy_22_s (a0 : Nat) (n : Nat) (v3 : Int32) (M : Mm) : f_Job_foldBy_22 a0 (n + 1) v3 M = (if (M.1 a0 0) ≤ v3 then some ((), M) else (bD (f_Job_figure a0 v3 M) fun r7 M6 => (bD (f_Job_isAcross r7 M6) fun r10 M9 => (if r10 = 0 then (lT (wI M9 a0 3 ((M9.1 a0 3) * (2 : Int32))) fun M13 => (f_Job_foldBy_64 a0 (f_Job_foldBy_22 a0 n) v3 M13)) else (lT (wI M9 a0 2 ((M9.1 a0 2) * (2 : Int32))) fun M15 => (f_Job_foldBy_64 a0 (f_Job_foldBy_22 a0 n) v3 M15)))))) := rfl
def f_Job_foldBy (a0 : Nat) (v1 : Int32) (v2 : Int32) (M : Mm) : Option (Unit × Mm) := (lT (wI M a0 0 v1) fun M1 => (lT (wI M1 a0 1 v2) fun M2 => (lT (wI M2 a0 2 (1 : Int32)) fun M3 => (lT (wI M3 a0 3 (1 : Int32)) fun M4 => (f_Job_foldBy_22 a0 fuel (0 : Int32) M4)))))
end
section
theorem g_wq {α : Type} {X : KX} {d : MD} {Q : α → Mm → State → Prop} {pc : Nat} {ls ls' : List (Option Value)} {st : List Value} {Z : ZZ} {M : Mm} {o : Option (α × Mm)} (kk : GO X d Q pc ls' st Z M o) (h : WKp ls' ls) : GO X d Q pc ls st Z M o := g_wk h kk
theorem g_hav {α : Type} {X : KX} {d : MD} {Q : α → Mm → State → Prop} {pc pq : Nat} {ls lsq : List (Option Value)} {st stq : List Value} {Z : ZZ} {M : Mm} {o : Option (α × Mm)} (h1 : GO X d Q pq lsq stq Z M o) (h2 : GO X d Q pq lsq stq Z M o → GO X d Q pc ls st Z M o) : GO X d Q pc ls st Z M o := h2 h1
end
section
set_option maxHeartbeats 4000000 in
set_option maxRecDepth 20000 in
theorem t_Job_figure {X : KX} {Z : ZZ} {a0 : Nat} {v1 : Int32} {M : Mm} (hn0 : a0 < Z.2.2.1) (ha0 : kD a0 = 0) : GO X md_Job_figure (QE X rvI Z) 0 [some (rf (kG X) a0), some (.int v1)] [] Z M (f_Job_figure a0 v1 M) := by
  unfold f_Job_figure
  refine g_aload_n e_Job_figure_0 rfl ?_
  refine g_getI e_Job_figure_1 fl_Job_42 ha0 hn0 fj_0_1 ?_
  refine g_iconst (x := (2 : Int32)) e_Job_figure_4 (by decide) ?_
  refine g_aload_n e_Job_figure_5 rfl ?_
  refine g_getI e_Job_figure_6 fl_Job_39 ha0 hn0 fj_0_0 ?_
  refine g_iconst (x := (1 : Int32)) e_Job_figure_9 (by decide) ?_
  refine g_isub e_Job_figure_10 ?_
  refine g_iload_n e_Job_figure_11 rfl ?_
  refine g_isub e_Job_figure_12 ?_
  refine g_imul e_Job_figure_13 ?_
  refine g_ishr e_Job_figure_14 ?_
  refine g_iconst (x := (3 : Int32)) e_Job_figure_15 (by decide) ?_
  refine g_iand e_Job_figure_16 ?_
  refine g_iconst (x := (1 : Int32)) e_Job_figure_17 (by decide) ?_
  refine g_iadd e_Job_figure_18 ?_
  exact g_iret e_Job_figure_19 rfl
set_option maxHeartbeats 4000000 in
set_option maxRecDepth 20000 in
theorem c_Job_figure {l : Launch} {G : KG} {Z : ZZ} {a0 : Nat} {v1 : Int32} {M M' : Mm} {r : Int32} (hn0 : a0 < Z.2.2.1) (ha0 : kD a0 = 0) (h : f_Job_figure a0 v1 M = some (r, M')) : CT l G y_Job_figure md_Job_figure 0 0 [rf G a0, .int v1] Z.2.2.1 Z.2.2.2 M (rvI r) Z.2.2.1 Z.2.2.2 M' :=
  CT.of (Z := (0, 0, Z.2.2.1, Z.2.2.2)) (Z' := (0, 0, Z.2.2.1, Z.2.2.2)) 0 (by decide) rfl ⟨rfl, rfl⟩ (by show 2 ≤ 2; decide) rfl h (fun X _ hG => by subst hG; exact t_Job_figure hn0 ha0)
set_option maxHeartbeats 4000000 in
set_option maxRecDepth 20000 in
theorem t_Job_isAcross {X : KX} {Z : ZZ} {v0 : Int32} {M : Mm} : GO X md_Job_isAcross (QE X rvI Z) 0 [some (.int v0)] [] Z M (f_Job_isAcross v0 M) := by
  unfold f_Job_isAcross
  refine g_iload_n e_Job_isAcross_0 rfl ?_
  refine g_iconst (x := (2 : Int32)) e_Job_isAcross_1 (by decide) ?_
  refine g_icmp_gt e_Job_isAcross_2 (fun c1 => ?_) (fun c1 => ?_)
  · refine g_iconst (x := (0 : Int32)) e_Job_isAcross_9 (by decide) ?_
    exact g_zret e_Job_isAcross_10 rfl (by decide)
  · refine g_iconst (x := (1 : Int32)) e_Job_isAcross_5 (by decide) ?_
    refine g_goto e_Job_isAcross_6 ?_
    exact g_zret e_Job_isAcross_10 rfl (by decide)
set_option maxHeartbeats 4000000 in
set_option maxRecDepth 20000 in
theorem c_Job_isAcross {l : Launch} {G : KG} {Z : ZZ} {v0 : Int32} {M M' : Mm} {r : Int32} (h : f_Job_isAcross v0 M = some (r, M')) : CT l G y_Job_isAcross md_Job_isAcross 0 0 [.int v0] Z.2.2.1 Z.2.2.2 M (rvI r) Z.2.2.1 Z.2.2.2 M' :=
  CT.of (Z := (0, 0, Z.2.2.1, Z.2.2.2)) (Z' := (0, 0, Z.2.2.1, Z.2.2.2)) 0 (by decide) rfl ⟨rfl, rfl⟩ (by show 1 ≤ 1; decide) rfl h (fun X _ hG => by subst hG; exact t_Job_isAcross )
set_option maxHeartbeats 4000000 in
set_option maxRecDepth 20000 in
theorem t_Job_foldBy_64 {X : KX} {Z : ZZ} {a0 : Nat} {rec22 : Int32 → Mm → Option (Unit × Mm)} (hn0 : a0 < Z.2.2.1) (ha0 : kD a0 = 0) (hr22 : ∀ (v3 : Int32) (M : Mm), GO X md_Job_foldBy (QE X rvU Z) 22 [some (rf (kG X) a0), none, none, some (.int v3)] [] Z M (rec22 v3 M)) : ∀ (v3 : Int32) (M : Mm), GO X md_Job_foldBy (QE X rvU Z) 64 [some (rf (kG X) a0), none, none, some (.int v3)] [] Z M (f_Job_foldBy_64 a0 rec22 v3 M) := by
  intro v3 M
  unfold f_Job_foldBy_64
  refine g_iincL (c := (1 : Int32)) e_Job_foldBy_64 rfl (by decide) (by decide) rfl (fun x14 => ?_)
  refine g_goto e_Job_foldBy_67 ?_
  exact g_wq (hr22 x14 M) ⟨rfl, rfl, trivial⟩
set_option maxHeartbeats 4000000 in
set_option maxRecDepth 20000 in
theorem t_Job_foldBy_22 {X : KX} {Z : ZZ} {a0 : Nat} (hn0 : a0 < Z.2.2.1) (ha0 : kD a0 = 0) : ∀ (n : Nat) (v3 : Int32) (M : Mm), GO X md_Job_foldBy (QE X rvU Z) 22 [some (rf (kG X) a0), none, none, some (.int v3)] [] Z M (f_Job_foldBy_22 a0 n v3 M) := by
  intro n
  induction n with
  | zero =>
    intro v3 M
    exact g_none
  | succ n ih =>
    intro v3 M
    rw [f_Job_foldBy_22_s]
    refine g_iload_n e_Job_foldBy_22 rfl ?_
    refine g_aload_n e_Job_foldBy_23 rfl ?_
    refine g_getI e_Job_foldBy_24 fl_Job_39 ha0 hn0 fj_0_0 ?_
    refine g_icmp_ge e_Job_foldBy_27 (fun c5 => ?_) (fun c5 => ?_)
    · exact g_vret e_Job_foldBy_70 rfl
    · refine g_aload_n e_Job_foldBy_30 rfl ?_
      refine g_iload_n e_Job_foldBy_31 rfl ?_
      refine g_callV (rv := rvI) (As := [.int v3]) (st := []) e_Job_foldBy_32 mv_Job_57 my_Job_figure (by decide) rfl rfl ha0 hn0 rfl (Nat.le_of_ble_eq_true rfl) rfl (fun r M1 h => c_Job_figure hn0 ha0 h) (fun r7 M6 h8 => ?_)
      refine g_callS (rv := rvI) (As := [.int r7]) (st := []) e_Job_foldBy_35 ms_Job_61 my_Job_isAcross (by decide) rfl rfl (Nat.le_of_ble_eq_true rfl) (fun r M1 h => c_Job_isAcross   h) (fun r10 M9 h11 => ?_)
      refine g_if_eq e_Job_foldBy_38 (fun c12 => ?_) (fun c12 => ?_)
      · refine g_aload_n e_Job_foldBy_54 rfl ?_
        refine g_dup e_Job_foldBy_55 rfl ?_
        refine g_getI e_Job_foldBy_56 fl_Job_54 ha0 hn0 fj_0_3 ?_
        refine g_iconst (x := (2 : Int32)) e_Job_foldBy_59 (by decide) ?_
        refine g_imul e_Job_foldBy_60 ?_
        refine g_putL e_Job_foldBy_61 fp_Job_54 ha0 hn0 fj_0_3 rfl rfl (fun M13 => ?_)
        exact g_wq (t_Job_foldBy_64 hn0 ha0 (ih) v3 M13) ⟨rfl, rfl, trivial⟩
      · refine g_aload_n e_Job_foldBy_41 rfl ?_
        refine g_dup e_Job_foldBy_42 rfl ?_
        refine g_getI e_Job_foldBy_43 fl_Job_51 ha0 hn0 fj_0_2 ?_
        refine g_iconst (x := (2 : Int32)) e_Job_foldBy_46 (by decide) ?_
        refine g_imul e_Job_foldBy_47 ?_
        refine g_putL e_Job_foldBy_48 fp_Job_51 ha0 hn0 fj_0_2 rfl rfl (fun M15 => ?_)
        refine g_goto e_Job_foldBy_51 ?_
        exact g_wq (t_Job_foldBy_64 hn0 ha0 (ih) v3 M15) ⟨rfl, rfl, trivial⟩
set_option maxHeartbeats 4000000 in
set_option maxRecDepth 20000 in
theorem t_Job_foldBy {X : KX} {Z : ZZ} {a0 : Nat} {v1 : Int32} {v2 : Int32} {M : Mm} (hn0 : a0 < Z.2.2.1) (ha0 : kD a0 = 0) : GO X md_Job_foldBy (QE X rvU Z) 0 [some (rf (kG X) a0), some (.int v1), some (.int v2), none] [] Z M (f_Job_foldBy a0 v1 v2 M) := by
  unfold f_Job_foldBy
  refine g_aload_n e_Job_foldBy_0 rfl ?_
  refine g_iload_n e_Job_foldBy_1 rfl ?_
  refine g_putL e_Job_foldBy_2 fp_Job_39 ha0 hn0 fj_0_0 rfl rfl (fun M1 => ?_)
  refine g_aload_n e_Job_foldBy_5 rfl ?_
  refine g_iload_n e_Job_foldBy_6 rfl ?_
  refine g_putL e_Job_foldBy_7 fp_Job_42 ha0 hn0 fj_0_1 rfl rfl (fun M2 => ?_)
  refine g_aload_n e_Job_foldBy_10 rfl ?_
  refine g_iconst (x := (1 : Int32)) e_Job_foldBy_11 (by decide) ?_
  refine g_putL e_Job_foldBy_12 fp_Job_51 ha0 hn0 fj_0_2 rfl rfl (fun M3 => ?_)
  refine g_aload_n e_Job_foldBy_15 rfl ?_
  refine g_iconst (x := (1 : Int32)) e_Job_foldBy_16 (by decide) ?_
  refine g_putL e_Job_foldBy_17 fp_Job_54 ha0 hn0 fj_0_3 rfl rfl (fun M4 => ?_)
  refine g_iconst (x := (0 : Int32)) e_Job_foldBy_20 (by decide) ?_
  refine g_istore_n e_Job_foldBy_21 (by decide) rfl ?_
  exact g_wq (t_Job_foldBy_22 hn0 ha0 fuel (0 : Int32) M4) ⟨rfl, rfl, trivial⟩
set_option maxHeartbeats 4000000 in
set_option maxRecDepth 20000 in
theorem c_Job_foldBy {l : Launch} {G : KG} {Z : ZZ} {a0 : Nat} {v1 : Int32} {v2 : Int32} {M M' : Mm} {r : Unit} (hn0 : a0 < Z.2.2.1) (ha0 : kD a0 = 0) (h : f_Job_foldBy a0 v1 v2 M = some (r, M')) : CT l G y_Job_foldBy md_Job_foldBy 0 0 [rf G a0, .int v1, .int v2] Z.2.2.1 Z.2.2.2 M (rvU r) Z.2.2.1 Z.2.2.2 M' :=
  CT.of (Z := (0, 0, Z.2.2.1, Z.2.2.2)) (Z' := (0, 0, Z.2.2.1, Z.2.2.2)) 1 (by decide) rfl ⟨rfl, rfl⟩ (by show 3 ≤ 4; decide) rfl h (fun X _ hG => by subst hG; exact t_Job_foldBy hn0 ha0)
end
section
def rkl : List (Nat × Nat) := [(2, 9), (2, 10), (1, 0), (6, 0), (5, 0), (8, 0), (5, 1), (1, 1), (11, 0), (10, 0), (13, 0), (10, 1), (15, 0), (10, 2), (17, 0), (10, 3), (1, 2), (19, 0), (1, 3), (21, 0), (1, 4), (23, 0), (1, 5), (25, 0), (1, 6), (0, 0), (28, 9), (28, 10), (27, 0), (32, 0), (31, 0), (34, 0), (31, 1), (27, 1), (37, 0), (36, 0), (39, 0), (36, 1), (41, 0), (36, 2), (43, 0), (36, 3), (27, 2), (45, 0), (27, 3), (47, 0), (27, 4), (49, 0), (27, 5), (51, 0), (27, 6), (0, 1), (53, 9), (53, 10), (0, 3), (57, 0), (56, 0), (59, 0), (56, 1), (61, 0), (56, 2), (63, 0), (56, 3), (0, 4), (66, 2), (65, 0), (68, 2), (65, 1), (70, 2), (65, 2), (72, 2), (65, 3), (74, 2), (65, 4), (76, 2), (65, 5), (0, 5), (78, 7), (78, 8), (78, 9), (78, 10), (78, 11), (78, 12), (78, 15), (78, 17), (78, 19), (78, 20), (78, 21), (78, 27), (78, 29), (78, 31), (78, 34), (78, 35), (78, 37), (78, 38), (78, 39), (78, 40), (78, 41)]
/-! constructors: rules that make cells and set their references once -/
def zr (M : Mm) (k : Nat) : Mm := (fun q => if q = k then (fun _ => 0) else M.1 q, fun q => if q = k then (fun _ => 0) else M.2 q)
def iniT (t : Nat) (q j : Nat) : Bool := !((rkl.drop t).contains (q, j))
theorem rkl_nd : rkl.Nodup := by decide +kernel
theorem ini_step {t k j0 : Nat} (h : rkl[t]? = some (k, j0)) (q j : Nat) : iniT (t + 1) q j = (if q = k ∧ j = j0 then true else iniT t q j) := by
  have hlt : t < rkl.length := (List.getElem?_eq_some_iff.mp h).1
  have hg : rkl[t] = (k, j0) := (List.getElem?_eq_some_iff.mp h).2
  have e : rkl.drop t = (k, j0) :: rkl.drop (t + 1) := by rw [List.drop_eq_getElem_cons hlt, hg]
  have hn : ((k, j0) :: rkl.drop (t + 1)).Nodup := by rw [← e]; exact (List.drop_sublist t rkl).nodup rkl_nd
  have hm := (List.nodup_cons.mp hn).1
  unfold iniT
  rw [e, List.contains_cons]
  by_cases hq : q = k ∧ j = j0
  · obtain ⟨rfl, rfl⟩ := hq
    rw [if_pos ⟨rfl, rfl⟩]
    simpa using hm
  · rw [if_neg hq]
    have : ((q, j) == (k, j0)) = false := by
      simp only [beq_eq_false_iff_ne, ne_eq, Prod.mk.injEq]
      exact hq
    rw [this, Bool.false_or]
theorem zr_ne (M : Mm) {k q : Nat} (h : q ≠ k) : (zr M k).1 q = M.1 q ∧ (zr M k).2 q = M.2 q := ⟨if_neg h, if_neg h⟩
theorem WD.push {G : KG} {n : Nat} {ini : Nat → Nat → Bool} {M : Mm} {H H' : Heap} (h : WD G n ini M H) (hz : H'.size = H.size + 1) (ho : ∀ q, q < H.size → H'[q]? = H[q]?) (he : va_at G.1 cls (k0 G + n, ce G ini (zr M n) n) H') : WD G (n + 1) ini (zr M n) H' := by
  refine ⟨by rw [hz, h.1]; omega, fun q hq => ?_⟩
  by_cases hk : q = n
  · subst hk; exact he
  · rw [ce_cg (zr_ne M hk).1 (zr_ne M hk).2 rfl]
    exact (h.2 q (by omega)).kept (ho _ (by show k0 G + q < H.size; rw [h.1]; omega))
theorem va_S.push {A : Nat → Prop} {H0 H H' : Heap} {locs : List Loc} (h : va_S A H0 H locs) (hz : H'.size = H.size + 1) (ho : ∀ q, q < H.size → H'[q]? = H[q]?) : va_S A H0 H' locs :=
  ⟨Nat.le_trans h.1 (by omega), fun q h1 h2 => (ho q (Nat.lt_of_lt_of_le h1 h.1)).trans (h.2.1 q h1 h2), h.2.2⟩
theorem arrV_cg {cA : ClassId} {N : Nat} {f g : Nat → Value} (h : ∀ j, j < N → f j = g j) : arrV cA N f = arrV cA N g := by
  unfold arrV
  congr 1
  apply Array.ext
  · simp
  · intro j h1 h2
    simpa using h j (by simpa using h1)
def FPR (own : String) (idx ci j : Nat) (ty : FieldType) : Prop := ∃ (C : String) (T : u_T) (N : Nat), cls[ci]? = some (C, T, N) ∧ j < N ∧ Cond.fieldLink own idx (T j).1 (T j).2.1 (T j).2.2.1 ∈ gtb ∧ (T j).2.2.2 = true ∧ (T j).1 = own ∧ parseFieldDescriptor (T j).2.2.1 = some ty
def IX (own : String) (idx : Nat) (y : MethodName) : Prop := Cond.methodLink own idx y ∈ gtb ∧ Cond.instanceMethod y ∈ gtb
def IN (own : String) (idx : Nat) (y : MethodName) (host : String) : Prop := (own, idx, y, host) ∈ ntb ∧ Cond.instanceMethod y ∈ gtb
section CTORS
variable {α β : Type} {X : KX} {d dy : MD} {Q : α → Mm → State → Prop} {pc pc' idx na : Nat} {ls : List (Option Value)} {st st0 : List Value} {c s n n' t k ci N c' s' j : Nat} {ini : Nat → Nat → Bool} {M : Mm} {o : Option (α × Mm)} {fM : Mm → Option (α × Mm)} {C : String} {T : u_T} {x : Int32} {y : MethodName}
theorem g_new (hd : dc d.2.1 pc pc' (.new idx) 3) (hcl : cls[ci]? = some (C, T, N)) (hw : Cond.classLink d.1 idx C ∈ gtb ∧ Cond.instantiable C N ∈ gtb ∧ Cond.initialized C ∈ gtb) (hk : kD n = ci) (ty : Nat → FieldType) (hty : ∀ k, k < N → parseFieldDescriptor (T k).2.2.1 = some (ty k))
    (hdv : ∀ j, j < N → defaultValue (ty j) = (match (fD ci).getD j none with | none => Value.int 0 | some _ => Value.null)) (hini : ∀ j, j < N → (fD ci).getD j none ≠ none → ini n j = false) (hc' : c + 1 = c') (hs' : s + N = s') (hn' : n + 1 = n') (hr : c' ≤ (kr X).cells ∧ s' ≤ (kr X).slots)
    (kk : ∀ M1, GO X d Q pc' ls (rf (kG X) n :: st) (c', s', n', ini) M1 (fM M1)) : GO X d Q pc ls st (c, s, n, ini) M (lT (zr M n) fM) := by
  obtain ⟨hd, rfl⟩ := hd
  subst hc'; subst hs'; subst hn'
  intro K r M' ho H locs lsA hW hS hL hc hs
  have hts := K.2.2.2.2.2.1
  have hKn := K.2.2.2.2.2.2.2.1.1.1 ci _ hcl
  obtain ⟨hlen, h11⟩ := fD_len _ _ _ _ hcl
  refine W.newcK K.1 K.2.1 K.2.2.2.2.1 (hts _ hw.1) (hts _ hw.2.1) (hts _ hw.2.2) rfl hd hr.1 hr.2 hKn.2.1 rfl fun H1 kC hkC e1 z1 o1 => ?_
  have hsz : H.size = k0 (kG X) + n := hW.1
  rw [hsz]
  refine kk _ K r M' ho H1 locs lsA (hW.push z1 o1 ?_) (hS.push z1 o1) hL hr.1 hr.2
  show va_at (kG X).1 cls (k0 (kG X) + n, ce (kG X) ini (zr M n) n) H1
  rw [ce_obj (by omega)]
  subst hk
  rw [← hsz]
  refine ⟨_, hcl, (u_born ty hts (cK _ _ _ _ hcl).1 hKn hkC e1 hty).to fun j hj => ?_⟩
  rw [hdv j hj, fvs_V (by rw [hlen]; exact hj)]
  have hi := hini j hj
  cases hg : (fD (kD n)).getD j none with
  | none => simp only [fval, zr, if_true]
  | some z =>
    rw [hg] at hi
    simp [fval, hi]
theorem g_newI (hd : dc d.2.1 pc pc' (.newarray .int) 2) (hw : Cond.arrayClass .int ∈ gtb) (hk : kD n = 100 + N) (hN : N < 900) (hx : ¬ x < 0 ∧ x.toNatClampNeg = N) (hc' : c + 1 = c') (hs' : s + N = s') (hn' : n + 1 = n') (hr : c' ≤ (kr X).cells ∧ s' ≤ (kr X).slots)
    (kk : ∀ M1, GO X d Q pc' ls (rf (kG X) n :: st) (c', s', n', ini) M1 (fM M1)) : GO X d Q pc ls (.int x :: st) (c, s, n, ini) M (lT (zr M n) fM) := by
  obtain ⟨hd, rfl⟩ := hd
  subst hc'; subst hs'; subst hn'
  intro K r M' ho H locs lsA hW hS hL hc hs
  have hts := K.2.2.2.2.2.1
  have hKv := K.2.2.2.2.2.2.2.1.1
  refine va_newaK (atype := .int) K.1 K.2.1 (hts _ hw) rfl hd rfl hx.1 hx.2 (by have : N * componentBytes (newarray.typeOf .int) = N * 4 := rfl; rw [this]; omega) hr.1 hr.2 rfl fun H1 cA e1 z1 o1 _ hNm => ?_
  have hcA : cA = (kG X).2.1 := Option.some.inj (hNm.symm.trans (hKv.2 0 _ rfl).2)
  have hsz : H.size = k0 (kG X) + n := hW.1
  rw [hsz]
  refine kk _ K r M' ho H1 locs lsA (hW.push z1 o1 ?_) (hS.push z1 o1) hL hr.1 hr.2
  rw [ce_I hk hN]
  show H1[k0 (kG X) + n]? = some (vp_cell _ _)
  rw [← hsz, e1, hcA, vp_cell_i]
  refine congrArg some (arrV_cg fun j hj => ?_)
  simp only [zr, if_true]
  rfl
theorem g_newJ (hd : dc d.2.1 pc pc' (.newarray .long) 2) (hw : Cond.arrayClass .long ∈ gtb) (hk : kD n = 1000 + N) (hN : N < 900) (hx : ¬ x < 0 ∧ x.toNatClampNeg = N) (hc' : c + 1 = c') (hs' : s + N = s') (hn' : n + 1 = n') (hr : c' ≤ (kr X).cells ∧ s' ≤ (kr X).slots)
    (kk : ∀ M1, GO X d Q pc' ls (rf (kG X) n :: st) (c', s', n', ini) M1 (fM M1)) : GO X d Q pc ls (.int x :: st) (c, s, n, ini) M (lT (zr M n) fM) := by
  obtain ⟨hd, rfl⟩ := hd
  subst hc'; subst hs'; subst hn'
  intro K r M' ho H locs lsA hW hS hL hc hs
  have hts := K.2.2.2.2.2.1
  have hKv := K.2.2.2.2.2.2.2.1.1
  refine va_newaK (atype := .long) K.1 K.2.1 (hts _ hw) rfl hd rfl hx.1 hx.2 (by have : N * componentBytes (newarray.typeOf .long) = N * 8 := rfl; rw [this]; omega) hr.1 hr.2 rfl fun H1 cA e1 z1 o1 _ hNm => ?_
  have hcA : cA = (kG X).2.2.1 := Option.some.inj (hNm.symm.trans (hKv.2 1 _ rfl).2)
  have hsz : H.size = k0 (kG X) + n := hW.1
  rw [hsz]
  refine kk _ K r M' ho H1 locs lsA (hW.push z1 o1 ?_) (hS.push z1 o1) hL hr.1 hr.2
  rw [ce_J hk]
  show H1[k0 (kG X) + n]? = some (vp_cell _ _)
  rw [← hsz, e1, hcA, vp_cell_l]
  refine congrArg some (arrV_cg fun j hj => ?_)
  simp only [zr, if_true]
  rfl
theorem g_newT (hd : dc d.2.1 pc pc' (.anewarray idx) 3) (hw : Cond.classLink d.1 idx "PressSheets$Tape" ∈ gtb) (hk : kD n = 50) (hx : ¬ x < 0 ∧ x.toNatClampNeg = 6) (hini : ∀ j, j < 6 → ini n j = false) (hc' : c + 1 = c') (hs' : s + 6 = s') (hn' : n + 1 = n') (hr : c' ≤ (kr X).cells ∧ s' ≤ (kr X).slots)
    (kk : ∀ M1, GO X d Q pc' ls (rf (kG X) n :: st) (c', s', n', ini) M1 (fM M1)) : GO X d Q pc ls (.int x :: st) (c, s, n, ini) M (lT (zr M n) fM) := by
  obtain ⟨hd, rfl⟩ := hd
  subst hc'; subst hs'; subst hn'
  obtain ⟨hx1, hx2⟩ := hx
  intro K r M' ho H locs lsA hW hS hL hc hs
  have hts := K.2.2.2.2.2.1
  have hKV := K.2.2.2.2.2.2.2.1
  refine W.anew K.1 K.2.1 K.2.2.2.2.1 (hts _ hw) (va_AO.use hKV.2.2) rfl hd rfl hx1 (by rw [hx2]; decide) hr.1 (by rw [hx2]; exact hr.2) fun cA kA comp f1 f2 f3 f4 => ?_
  rw [hx2]
  have hcA : cA = (kG X).2.2.2.1 := by
    obtain ⟨kB, compB, -, -, -, h4⟩ := (hKV.1.2 2 _ rfl).2
    exact Option.some.inj (f1.symm.trans h4)
  generalize hH1 : H.push ({ cls := cA, slots := Array.replicate 6 .null, vm := .none } : Cell) = H1
  have z1 : H1.size = H.size + 1 := by rw [← hH1, Array.size_push]
  have e1 : H1[H.size]? = some (arrV cA 6 (fun _ => .null)) := by rw [← hH1, Array.getElem?_push_size, ← arrV_new]
  have o1 : ∀ q : Nat, q < H.size → H1[q]? = H[q]? := fun q hq => by rw [← hH1, Array.getElem?_push, if_neg (Nat.ne_of_lt hq)]
  have hsz : H.size = k0 (kG X) + n := hW.1
  rw [hsz]
  refine kk _ K r M' ho H1 locs lsA (hW.push z1 o1 ?_) (hS.push z1 o1) hL hr.1 hr.2
  rw [ce_T hk]
  show H1[k0 (kG X) + n]? = some (vp_cell _ _)
  rw [← hsz, e1, hcA, vp_cell_q]
  refine congrArg some (arrV_cg fun j hj => ?_)
  simp [hini j hj, va_rf]
theorem g_putR {ty : FieldType} {z : Nat} (hI : (kt X).name = "<init>") (hd : dc d.2.1 pc pc' (.putfield idx) 3) (hf : FPR d.1 idx ci j ty) (hk : kD k = ci) (hn : k < n) (hj : (fD ci)[j]? = some (some z)) (hr : rkl[t]? = some (k, j)) (hna : ∀ v : Value, (∃ a, v = .ref a) → narrow ty v = v ∧ fits ty v = true) {kz t' : Nat} (hkz : k + z = kz) (ht' : t + 1 = t') (kk : GO X d Q pc' ls st (c, s, n, iniT t') M o) : GO X d Q pc ls (rf (kG X) kz :: rf (kG X) k :: st) (c, s, n, iniT t) M o := by
  obtain ⟨hd, rfl⟩ := hd
  obtain ⟨C, T, N, hcl, hN, hw, hfin, hdecl, hpd⟩ := hf
  subst hk; subst hkz; subst ht'
  intro K r M' ho H locs lsA hW hS hL hc hs
  have hts := K.2.2.2.2.2.1
  obtain ⟨hin, hnm, ty0, hty⟩ := cK _ _ _ _ hcl
  have hKv := K.2.2.2.2.2.2.2.1.1
  obtain ⟨hlen, h11⟩ := fD_len _ _ _ _ hcl
  have hap := va_apart (own := d.1) hts hin ty0 hty hnm hKv hcl
  have hat := hW.2 k hn
  rw [ce_obj (by omega)] at hat
  obtain ⟨r0, h1, cell, q1, q2, q3, q4⟩ := hat
  have hr0 : r0 = (C, T, N) := Option.some.inj (h1.symm.trans hcl)
  subst hr0
  obtain ⟨hSl, hfc, kC, hkC, hkind⟩ := hKv.1 _ _ hcl
  obtain ⟨cf, kf, fi, f, hi, hsl⟩ := hSl j hN
  have hlay := hts _ (hin _ (u_in_lay hN))
  unfold u_lay at hlay
  rw [if_pos hfin] at hlay
  have hst := (u_facts hfc hkC (u_lays hts hin hN) hi).1
  have hcf : (km X).cls = cf := by
    obtain ⟨_, _, c', _, _, _, -, -, hf', -, -, -, hown2, -⟩ := Cond.laysFinal_spec hlay
    have e1 : c' = cf := by have := hi.symm.trans hf'; simp at this; exact this.1.symm
    rw [hdecl] at hown2
    rw [← e1]; exact Option.some.inj (K.2.2.2.2.1.symm.trans hown2)
  have hnf := hna (rf (kG X) (k + z)) ⟨_, rfl⟩
  have h6 := u_fits hfc hkC hkind (Or.inr hlay) hi hpd hnf.1 hnf.2
  refine W.putFinK K.1 K.2.1 K.2.2.2.2.1 (hts _ hw) hi hst hcf hI (by rw [q2]; exact h6) q1 q3 (by rw [hsl]; exact k2_hasslot (q4 j hN)) rfl rfl hd fun H' e1 e2 e3 => ?_
  rw [hsl] at e1
  refine kk K r M' ho H' _ lsA (hW.put (ini' := iniT (t + 1)) e2 e3 ?_ ?_) (by rw [hsl]; exact hS.put e2 e3 (Nat.le_add_right _ _)) hL hc hs
  · rw [ce_obj (by omega)]
    have he : iniT (t + 1) k = (fun w => if w = j then true else iniT t k w) := by
      funext w
      rw [ini_step hr k w]
      by_cases hwj : w = j
      · subst hwj; simp
      · simp [hwj]
    refine ⟨_, hcl, t_OB.to (V := updV (vp_V (fvs (k0 (kG X)) (iniT t k) (M.1 k) k (fD (kD k)))) j (rf (kG X) (k + z))) ⟨_, e1, q2, q3, t_set q4 hap hN _⟩ (fun q hq => ?_)⟩
    rw [he]
    exact fvs_setR hj q (by rw [hlen]; exact hq)
  · intro q hq
    refine ce_cg rfl rfl ?_
    funext w
    rw [ini_step hr q w, if_neg (fun h => hq h.1)]
theorem g_aast (hd : dc d.2.1 pc pc' .aastore 1) (hk : kD k = 50) (hn : k < n) (hz : kD (k + 1 + 2 * j) = 7) (hzn : k + 1 + 2 * j < n) (hx : ¬ x < 0 ∧ x.toNatClampNeg = j) (hj : j < 6) (hr : rkl[t]? = some (k, j)) {kz t' : Nat} (hkz : k + 1 + 2 * j = kz) (ht' : t + 1 = t') (kk : GO X d Q pc' ls st (c, s, n, iniT t') M o) : GO X d Q pc ls (rf (kG X) kz :: .int x :: rf (kG X) k :: st) (c, s, n, iniT t) M o := by
  obtain ⟨hd, rfl⟩ := hd
  subst hkz; subst ht'
  obtain ⟨hx0, rfl⟩ := hx
  intro K r M' ho H locs lsA hW hS hL hc hs
  have hKv := K.2.2.2.2.2.2.2.1.1
  have hcl : cls[7]? = some ("PressSheets$Tape", tC7, 3) := rfl
  have hat := hW.2 k hn
  rw [ce_T hk] at hat
  have hatv := hW.2 _ hzn
  rw [ce_obj (by omega), hz] at hatv
  obtain ⟨r', hr', cellV, g1, g2, g3, -⟩ := hatv
  have hcls := (hKv.1 7 _ hcl).2
  obtain ⟨kA, comp, k1, k2, k3, -⟩ := (hKv.2 2 _ rfl).2
  have hcomp : comp = (kG X).1.1 7 := Option.some.inj (k3.symm.trans hcls.1)
  subst hcomp
  obtain ⟨kC, hkC, -⟩ := hcls.2
  refine W.aast K.1 K.2.1 hat (fun q h => by cases h) (fun h => by cases h) k1 k2 rfl hkC ⟨hx0, by show _ < (arrV _ _ _).slots.size; rw [arrV_size]; exact hj⟩ g1 (fun q h => by rw [g3] at h; cases h) (by rw [g2]; exact hkC) (by rw [g2]; exact va_assign hcls) rfl rfl hd fun H1 e z oq => ?_
  refine kk K r M' ho H1 _ lsA (hW.put (ini' := iniT (t + 1)) z oq ?_ ?_) (hS.put z oq (Nat.le_add_right _ _)) hL hc hs
  · rw [ce_T hk]
    show H1[k0 (kG X) + k]? = some (vp_cell _ _)
    rw [e, vp_cell_q, vp_cell_q, arrV_store]
    refine congrArg some (arrV_cg fun q hq => ?_)
    rw [ini_step hr k q]
    by_cases hqx : q = x.toNatClampNeg
    · subst hqx
      simp [updV, va_rf]
    · simp [updV, hqx]
  · intro q hq
    refine ce_cg rfl rfl ?_
    funext w
    rw [ini_step hr q w, if_neg (fun h => hq h.1)]
theorem g_objI (hd : dc d.2.1 pc pc' (.invokespecial idx) 3) (hw : Cond.methodLink d.1 idx objectInit ∈ gtb ∧ Cond.instanceMethod objectInit ∈ gtb ∧ Cond.code objectInit ⟨#[0xb1]⟩ 1 none ∈ gtb) (hlen : ls.length = d.2.2.1) (hR : 1 ≤ d.2.2.2.2.1 ∧ (st.map fun v => v.category).sum + 12 ≤ d.2.2.2.2.2) {Z : ZZ} (kk : GO X d Q pc' ls st Z M o) : GO X d Q pc ls (rf (kG X) k :: st) Z M o := by
  obtain ⟨hd, rfl⟩ := hd
  intro K r M' ho H locs lsA hW hS hL hc hs
  have hts := K.2.2.2.2.2.1
  refine W.objInit K.1 K.2.1 K.2.2.2.2.1 (hts _ hw.1) (hts _ hw.2.1) (hts _ hw.2.2) rfl (by obtain ⟨l, h, _⟩ := hL; rw [K.2.2.2.1]; exact h.1) rfl hd (Nat.le_trans hR.1 K.2.2.2.2.2.2.2.2.1) (by have := Nat.le_trans hR.2 K.2.2.2.2.2.2.2.2.2; show 2 * 0 + _ + 12 ≤ _; omega) ?_
  exact kk K r M' ho H locs lsA hW hS hL hc hs
variable {As : List Value} {oc : Option (Unit × Mm)} {f : Unit → Mm → Option (α × Mm)} {mc ms : Nat} {ini' : Nat → Nat → Bool}
theorem g_callI (hd : dc d.2.1 pc pc' (.invokespecial idx) 3) (hl : IX d.1 idx y) (hyn : y.name = "<init>") (hret : dy.2.2.2.1 = none) (hy : MY y dy na) (hR : dy.2.2.2.2.1 + 1 ≤ d.2.2.2.2.1 ∧ 8 + (dy.2.2.1 + 11) + dy.2.2.2.2.2 ≤ d.2.2.2.2.2)
    (hst : st0 = As.reverse ++ rf (kG X) k :: st) (hna : As.length = na) (hcat : (st.map fun v => v.category).sum ≤ 8) (hc' : c + mc = c') (hs' : s + ms = s') (hr : c' ≤ (kr X).cells ∧ s' ≤ (kr X).slots)
    (hct : ∀ M', oc = some ((), M') → CT (kl X) (kG X) y dy mc ms (rf (kG X) k :: As) n ini M none n' ini' M')
    (kk : ∀ M', oc = some ((), M') → GO X d Q pc' ls st (c', s', n', ini') M' (f () M')) : GO X d Q pc ls st0 (c, s, n, ini) M (bD oc f) := by
  obtain ⟨hd, rfl⟩ := hd
  subst hst; subst hc'; subst hs'
  intro K r M' ho H locs lsA hW hS hL hc hs
  obtain ⟨rc, Mc, h1, h2⟩ := bD_some ho
  have hts := K.2.2.2.2.2.1
  have hKV := K.2.2.2.2.2.2.2.1
  have cb : CallB (kr X) (ks X) (ka X) d.1 idx y dy.2.1 dy.2.2.1 none (WS y dy) (RM dy mc ms) mc ms na := by
    have := callB_ok K hy hl.1 hR mc ms
    rwa [hret] at this
  refine g_callK (Z := (c, s, n, ini)) (Z' := (c + mc, s + ms, n', ini')) (rv := rvU) (rc := ()) (va_runI (As := As) (rest := st) ⟨K.1, K.2.1, K.2.2.2.1, K.2.2.2.2.1, hts⟩ (hct Mc h1) ⟨cb, hyn, hts _ hl.2⟩ ⟨blind_WD, fun U hU hV => ⟨rfl, by rw [hU]; exact hW, hKV.moved hV⟩⟩ rfl hna (by obtain ⟨l, h, _⟩ := hL; exact h.1) rfl (lv_room hcat) hd hr) hS ⟨rfl, rfl⟩ fun H1 locs1 hW1 hS1 => ?_
  exact kk Mc h1 K r M' h2 H1 locs1 lsA hW1 hS1 hL hr.1 hr.2
theorem g_callIN {host : String} (hd : dc d.2.1 pc pc' (.invokespecial idx) 3) (hl : IN d.1 idx y host) (hyn : y.name = "<init>") (hret : dy.2.2.2.1 = none) (hy : MY y dy na) (hR : dy.2.2.2.2.1 + 1 ≤ d.2.2.2.2.1 ∧ 8 + (dy.2.2.1 + 11) + dy.2.2.2.2.2 ≤ d.2.2.2.2.2)
    (hst : st0 = As.reverse ++ rf (kG X) k :: st) (hna : As.length = na) (hcat : (st.map fun v => v.category).sum ≤ 8) (hc' : c + mc = c') (hs' : s + ms = s') (hr : c' ≤ (kr X).cells ∧ s' ≤ (kr X).slots)
    (hct : ∀ M', oc = some ((), M') → CT (kl X) (kG X) y dy mc ms (rf (kG X) k :: As) n ini M none n' ini' M')
    (kk : ∀ M', oc = some ((), M') → GO X d Q pc' ls st (c', s', n', ini') M' (f () M')) : GO X d Q pc ls st0 (c, s, n, ini) M (bD oc f) := by
  obtain ⟨hd, rfl⟩ := hd
  subst hst; subst hc'; subst hs'
  intro K r M' ho H locs lsA hW hS hL hc hs
  obtain ⟨rc, Mc, h1, h2⟩ := bD_some ho
  have hts := K.2.2.2.2.2.1
  have hKV := K.2.2.2.2.2.2.2.1
  have cb : va_CN (kr X) (ks X) (ka X) d.1 idx y host dy.2.1 dy.2.2.1 none (WS y dy) (RM dy mc ms) mc ms na := by
    have := callN_ok K hy hl.1 hR mc ms
    rwa [hret] at this
  refine g_callK (Z := (c, s, n, ini)) (Z' := (c + mc, s + ms, n', ini')) (rv := rvU) (rc := ()) (va_runIN (As := As) (rest := st) ⟨K.1, K.2.1, K.2.2.2.1, K.2.2.2.2.1, hts⟩ (hct Mc h1) ⟨cb, hyn, hts _ hl.2⟩ ⟨blind_WD, fun U hU hV => ⟨rfl, by rw [hU]; exact hW, hKV.moved hV⟩⟩ rfl hna (by obtain ⟨l, h, _⟩ := hL; exact h.1) rfl (lv_room hcat) hd hr) hS ⟨rfl, rfl⟩ fun H1 locs1 hW1 hS1 => ?_
  exact kk Mc h1 K r M' h2 H1 locs1 lsA hW1 hS1 hL hr.1 hr.2
theorem CT.ofI {l : Launch} {G : KG} {av : List Value} {M' : Mm} {o : Option (Unit × Mm)} (m : Nat)
    (hy : plainName y.cls = true) (hown : d.1 = y.cls) (hargs : (lg_sl av).length ≤ d.2.2.1) (hls : ls = ent av ++ List.replicate m none) (ho : o = some ((), M'))
    (body : ∀ X : KX, kl X = l → kG X = G → (kt X).name = y.name → c' ≤ (kr X).cells → s' ≤ (kr X).slots → GO X d (QE X rvU (c', s', n', ini')) 0 ls [] (0, 0, n, ini) M o) : CT l G y d c' s' av n ini M none n' ini' M' := by
  refine Met.ofW (cc := d.2.1) (maxL := d.2.2.1) (ret := d.2.2.2.1) hy rfl ?_
  intro p e s m0 args below meth c s₁ B hml hv
  obtain ⟨rfl, hW, hK⟩ := hv
  have hts := atoms_spec (ws := WS y d) B.pre
  have hl := lv_entry av hargs
  have he : entryFrame m0 av.toArray d.2.2.1 = F0 m0 0 ((lg_sl av ++ List.replicate (d.2.2.1 - (lg_sl av).length) Slot.unset).toArray) [] := by rw [lg_entry_eq]
  rw [he]
  have hb := body ((p, l, e, (headSpec (WS y d) (RM d c' s')).room, s, m0), (av.toArray, below, meth, c), G) rfl rfl ((name_of_methodNamed B.named B.method).1) (Nat.le_refl _) (Nat.le_refl _)
  exact hb ⟨B.exec, B.bytes, B.returns, hml, by rw [hown]; exact findClass_of_methodNamed B.named, fun w hw => hts w (List.mem_cons_of_mem _ hw), B.notSynchronized, hK, Nat.le_refl _, Nat.le_refl _⟩ () M' ho s.heap [] _ hW va_S.rf ⟨_, hl, fun k v hk => by rw [hls] at hk; have := ent_ok av m 0 k v hk; rwa [Nat.zero_add] at this⟩ (Nat.zero_le _) (Nat.zero_le _)
end CTORS

theorem g_iastK {α : Type} {X : KX} {d : MD} {Q : α → Mm → State → Prop} {pc pc' : Nat} {ls : List (Option Value)} {st : List Value} {Z : ZZ} {M : Mm} {x y : Int32} {i k n : Nat} {fM : Mm → Option (α × Mm)} (hd : dc d.2.1 pc pc' .iastore 1) (hk : kD k = 100 + n) (hr : n < 900) (hn : k < Z.2.2.1) (hin : ib x n = true) (hx : x.toNatClampNeg = i) (kk : ∀ M1, GO X d Q pc' ls st Z M1 (fM M1)) : GO X d Q pc ls (.int y :: .int x :: rf (kG X) k :: st) Z M (lT (wI M k i y) fM) := by
  subst hx
  exact g_iast hd hk hr hn (kk _) (ib_in hin)
theorem lT_ex {γ : Type} {a : γ} {f : γ → Option (Unit × Mm)} (h : ∃ M', f a = some ((), M')) : ∃ M', lT a f = some ((), M') := h
theorem bD_ex {x : Option (Unit × Mm)} {f : Unit → Mm → Option (Unit × Mm)} (h : ∃ M', x = some ((), M')) (h2 : ∀ M1, ∃ M', f () M1 = some ((), M')) : ∃ M', bD x f = some ((), M') := by
  obtain ⟨M1, rfl⟩ := h
  exact h2 M1
theorem fb3 (k : Nat) (M : Mm) : f_Job_foldBy k (1 : Int32) (0 : Int32) M = some ((), wI (wI (wI (wI (wI M k 0 1) k 1 0) k 2 1) k 3 1) k 2 2) := by
  unfold f_Job_foldBy
  simp only [lT, fuel]
  rw [f_Job_foldBy_22_s]
  simp [lT, bD, wI, upd, f_Job_figure, f_Job_isAcross]
  unfold f_Job_foldBy_64
  simp only [lT]
  rw [show (4999 : Nat) = 4998 + 1 from rfl, f_Job_foldBy_22_s]
  simp [upd]
theorem fbI (k : Nat) (M : Mm) : ∃ M', f_Job_foldBy k (1 : Int32) (0 : Int32) M = some ((), M') := ⟨_, fb3 k M⟩

theorem pY0 : ∀ k, k < 11 → parseFieldDescriptor (tC0 k).2.2.1 = some (yC0 k) := by decide +kernel
theorem dV0 : ∀ j, j < 11 → defaultValue (yC0 j) = (match (fD 0).getD j none with | none => Value.int 0 | some _ => Value.null) := by decide +kernel
theorem pY1 : ∀ k, k < 5 → parseFieldDescriptor (tC1 k).2.2.1 = some (yC1 k) := by decide +kernel
theorem dV1 : ∀ j, j < 5 → defaultValue (yC1 j) = (match (fD 1).getD j none with | none => Value.int 0 | some _ => Value.null) := by decide +kernel
theorem pY2 : ∀ k, k < 4 → parseFieldDescriptor (tC2 k).2.2.1 = some (yC2 k) := by decide +kernel
theorem dV2 : ∀ j, j < 4 → defaultValue (yC2 j) = (match (fD 2).getD j none with | none => Value.int 0 | some _ => Value.null) := by decide +kernel
theorem pY3 : ∀ k, k < 2 → parseFieldDescriptor (tC3 k).2.2.1 = some (yC3 k) := by decide +kernel
theorem dV3 : ∀ j, j < 2 → defaultValue (yC3 j) = (match (fD 3).getD j none with | none => Value.int 0 | some _ => Value.null) := by decide +kernel
theorem pY4 : ∀ k, k < 2 → parseFieldDescriptor (tC4 k).2.2.1 = some (yC4 k) := by decide +kernel
theorem dV4 : ∀ j, j < 2 → defaultValue (yC4 j) = (match (fD 4).getD j none with | none => Value.int 0 | some _ => Value.null) := by decide +kernel
theorem pY5 : ∀ k, k < 6 → parseFieldDescriptor (tC5 k).2.2.1 = some (yC5 k) := by decide +kernel
theorem dV5 : ∀ j, j < 6 → defaultValue (yC5 j) = (match (fD 5).getD j none with | none => Value.int 0 | some _ => Value.null) := by decide +kernel
theorem pY6 : ∀ k, k < 7 → parseFieldDescriptor (tC6 k).2.2.1 = some (yC6 k) := by decide +kernel
theorem dV6 : ∀ j, j < 7 → defaultValue (yC6 j) = (match (fD 6).getD j none with | none => Value.int 0 | some _ => Value.null) := by decide +kernel
theorem pY7 : ∀ k, k < 3 → parseFieldDescriptor (tC7 k).2.2.1 = some (yC7 k) := by decide +kernel
theorem dV7 : ∀ j, j < 3 → defaultValue (yC7 j) = (match (fD 7).getD j none with | none => Value.int 0 | some _ => Value.null) := by decide +kernel
theorem pY8 : ∀ k, k < 5 → parseFieldDescriptor (tC8 k).2.2.1 = some (yC8 k) := by decide +kernel
theorem dV8 : ∀ j, j < 5 → defaultValue (yC8 j) = (match (fD 8).getD j none with | none => Value.int 0 | some _ => Value.null) := by decide +kernel
theorem pY9 : ∀ k, k < 6 → parseFieldDescriptor (tC9 k).2.2.1 = some (yC9 k) := by decide +kernel
theorem dV9 : ∀ j, j < 6 → defaultValue (yC9 j) = (match (fD 9).getD j none with | none => Value.int 0 | some _ => Value.null) := by decide +kernel
theorem pY10 : ∀ k, k < 42 → parseFieldDescriptor (tC10 k).2.2.1 = some (yC10 k) := by decide +kernel
theorem dV10 : ∀ j, j < 42 → defaultValue (yC10 j) = (match (fD 10).getD j none with | none => Value.int 0 | some _ => Value.null) := by decide +kernel
theorem w_2 : ((Cond.initialized "PressSheets$State") : Cond) ∈ gtb := lw_r 2 (by decide +kernel)
theorem w_3 : ((Cond.initialized "PressSheets$Job") : Cond) ∈ gtb := lw_r 3 (by decide +kernel)
theorem w_4 : ((Cond.initialized "PressSheets$Leaf") : Cond) ∈ gtb := lw_r 4 (by decide +kernel)
theorem w_5 : ((Cond.initialized "PressSheets$Spot") : Cond) ∈ gtb := lw_r 5 (by decide +kernel)
theorem w_6 : ((Cond.initialized "PressSheets$Press") : Cond) ∈ gtb := lw_r 6 (by decide +kernel)
theorem w_7 : ((Cond.initialized "PressSheets$Row") : Cond) ∈ gtb := lw_r 7 (by decide +kernel)
theorem w_8 : ((Cond.initialized "PressSheets$Plan") : Cond) ∈ gtb := lw_r 8 (by decide +kernel)
theorem w_9 : ((Cond.initialized "PressSheets$Text") : Cond) ∈ gtb := lw_r 9 (by decide +kernel)
theorem w_10 : ((Cond.initialized "PressSheets$Tape") : Cond) ∈ gtb := lw_r 10 (by decide +kernel)
theorem w_19 : ((Cond.methodLink "PressSheets" (3 : Nat) ({ cls := "java/lang/Object", name := "<init>", desc := "()V" } : MethodName)) : Cond) ∈ gtb := lw_r 19 (by decide +kernel)
theorem w_20 : ((Cond.instanceMethod ({ cls := "java/lang/Object", name := "<init>", desc := "()V" } : MethodName)) : Cond) ∈ gtb := lw_r 20 (by decide +kernel)
theorem w_21 : (Cond.code objectInit ⟨#[0xb1]⟩ 1 none : Cond) ∈ gtb := lw_r 21 (by decide +kernel)
theorem w_22 : ((Cond.classLink "PressSheets" (9 : Nat) "PressSheets$State") : Cond) ∈ gtb := lw_r 22 (by decide +kernel)
theorem w_23 : ((Cond.instantiable "PressSheets$State" (7 : Nat)) : Cond) ∈ gtb := lw_r 23 (by decide +kernel)
theorem w_27 : ((Cond.methodLink "PressSheets$State" (3 : Nat) ({ cls := "java/lang/Object", name := "<init>", desc := "()V" } : MethodName)) : Cond) ∈ gtb := lw_r 27 (by decide +kernel)
theorem w_28 : ((Cond.classLink "PressSheets$State" (9 : Nat) "PressSheets$Job") : Cond) ∈ gtb := lw_r 28 (by decide +kernel)
theorem w_29 : ((Cond.instantiable "PressSheets$Job" (11 : Nat)) : Cond) ∈ gtb := lw_r 29 (by decide +kernel)
theorem w_33 : ((Cond.methodLink "PressSheets$Job" (3 : Nat) ({ cls := "java/lang/Object", name := "<init>", desc := "()V" } : MethodName)) : Cond) ∈ gtb := lw_r 33 (by decide +kernel)
theorem w_34 : ((Cond.classLink "PressSheets$Job" (21 : Nat) "PressSheets$Leaf") : Cond) ∈ gtb := lw_r 34 (by decide +kernel)
theorem w_35 : ((Cond.instantiable "PressSheets$Leaf" (5 : Nat)) : Cond) ∈ gtb := lw_r 35 (by decide +kernel)
theorem w_39 : ((Cond.methodLink "PressSheets$Leaf" (3 : Nat) ({ cls := "java/lang/Object", name := "<init>", desc := "()V" } : MethodName)) : Cond) ∈ gtb := lw_r 39 (by decide +kernel)
theorem w_64 : ((Cond.classLink "PressSheets$Job" (28 : Nat) "PressSheets$Spot") : Cond) ∈ gtb := lw_r 64 (by decide +kernel)
theorem w_65 : ((Cond.instantiable "PressSheets$Spot" (6 : Nat)) : Cond) ∈ gtb := lw_r 65 (by decide +kernel)
theorem w_69 : ((Cond.methodLink "PressSheets$Spot" (3 : Nat) ({ cls := "java/lang/Object", name := "<init>", desc := "()V" } : MethodName)) : Cond) ∈ gtb := lw_r 69 (by decide +kernel)
theorem w_159 : ((Cond.classLink "PressSheets$State" (18 : Nat) "PressSheets$Press") : Cond) ∈ gtb := lw_r 159 (by decide +kernel)
theorem w_160 : ((Cond.instantiable "PressSheets$Press" (2 : Nat)) : Cond) ∈ gtb := lw_r 160 (by decide +kernel)
theorem w_164 : ((Cond.methodLink "PressSheets$Press" (3 : Nat) ({ cls := "java/lang/Object", name := "<init>", desc := "()V" } : MethodName)) : Cond) ∈ gtb := lw_r 164 (by decide +kernel)
theorem w_165 : ((Cond.classLink "PressSheets$Press" (9 : Nat) "PressSheets$Row") : Cond) ∈ gtb := lw_r 165 (by decide +kernel)
theorem w_166 : ((Cond.instantiable "PressSheets$Row" (2 : Nat)) : Cond) ∈ gtb := lw_r 166 (by decide +kernel)
theorem w_170 : ((Cond.methodLink "PressSheets$Row" (3 : Nat) ({ cls := "java/lang/Object", name := "<init>", desc := "()V" } : MethodName)) : Cond) ∈ gtb := lw_r 170 (by decide +kernel)
theorem w_183 : ((Cond.arrayClass FieldType.int) : Cond) ∈ gtb := lw_r 183 (by decide +kernel)
theorem w_195 : ((Cond.classLink "PressSheets$State" (25 : Nat) "PressSheets$Plan") : Cond) ∈ gtb := lw_r 195 (by decide +kernel)
theorem w_196 : ((Cond.instantiable "PressSheets$Plan" (4 : Nat)) : Cond) ∈ gtb := lw_r 196 (by decide +kernel)
theorem w_200 : ((Cond.methodLink "PressSheets$Plan" (3 : Nat) ({ cls := "java/lang/Object", name := "<init>", desc := "()V" } : MethodName)) : Cond) ∈ gtb := lw_r 200 (by decide +kernel)
theorem w_201 : ((Cond.classLink "PressSheets$Plan" (9 : Nat) "PressSheets$Row") : Cond) ∈ gtb := lw_r 201 (by decide +kernel)
theorem w_220 : ((Cond.classLink "PressSheets$State" (32 : Nat) "PressSheets$Row") : Cond) ∈ gtb := lw_r 220 (by decide +kernel)
theorem w_251 : ((Cond.classLink "PressSheets" (21 : Nat) "PressSheets$Job") : Cond) ∈ gtb := lw_r 251 (by decide +kernel)
theorem w_253 : ((Cond.classLink "PressSheets" (28 : Nat) "PressSheets$Text") : Cond) ∈ gtb := lw_r 253 (by decide +kernel)
theorem w_254 : ((Cond.instantiable "PressSheets$Text" (5 : Nat)) : Cond) ∈ gtb := lw_r 254 (by decide +kernel)
theorem w_258 : ((Cond.methodLink "PressSheets$Text" (3 : Nat) ({ cls := "java/lang/Object", name := "<init>", desc := "()V" } : MethodName)) : Cond) ∈ gtb := lw_r 258 (by decide +kernel)
theorem w_259 : ((Cond.classLink "PressSheets$Text" (9 : Nat) "PressSheets$Row") : Cond) ∈ gtb := lw_r 259 (by decide +kernel)
theorem w_281 : ((Cond.classLink "PressSheets" (35 : Nat) "PressSheets$Tape") : Cond) ∈ gtb := lw_r 281 (by decide +kernel)
theorem w_283 : ((Cond.instantiable "PressSheets$Tape" (3 : Nat)) : Cond) ∈ gtb := lw_r 283 (by decide +kernel)
theorem w_287 : ((Cond.methodLink "PressSheets$Tape" (3 : Nat) ({ cls := "java/lang/Object", name := "<init>", desc := "()V" } : MethodName)) : Cond) ∈ gtb := lw_r 287 (by decide +kernel)
theorem w_300 : ((Cond.arrayClass FieldType.long) : Cond) ∈ gtb := lw_r 300 (by decide +kernel)
theorem w_826 : ((Cond.methodLink "PressSheetsModel" (3 : Nat) ({ cls := "java/lang/Object", name := "<init>", desc := "()V" } : MethodName)) : Cond) ∈ gtb := lw_r 826 (by decide +kernel)
theorem fl_MD_76_ : FL "PressSheetsModel" 76 10 38 := ⟨"PressSheetsModel", tC10, 42, rfl, by decide, lw_r 864 (by decide +kernel)⟩
theorem fp_Job_15_ : FP "PressSheets$Job" 15 0 7 .int := ⟨"PressSheets$Job", tC0, 11, rfl, by decide, lw_r 126 (by decide +kernel), rfl, by decide +kernel⟩
theorem fp_Job_18_ : FP "PressSheets$Job" 18 0 8 .int := ⟨"PressSheets$Job", tC0, 11, rfl, by decide, lw_r 127 (by decide +kernel), rfl, by decide +kernel⟩
theorem fp_Job_9_ : FP "PressSheets$Job" 9 0 4 .int := ⟨"PressSheets$Job", tC0, 11, rfl, by decide, lw_r 119 (by decide +kernel), rfl, by decide +kernel⟩
theorem fp_MD_15_ : FP "PressSheetsModel" 15 10 2 .int := ⟨"PressSheetsModel", tC10, 42, rfl, by decide, lw_r 828 (by decide +kernel), rfl, by decide +kernel⟩
theorem fp_MD_18_ : FP "PressSheetsModel" 18 10 5 .int := ⟨"PressSheetsModel", tC10, 42, rfl, by decide, lw_r 831 (by decide +kernel), rfl, by decide +kernel⟩
theorem fp_MD_21_ : FP "PressSheetsModel" 21 10 6 .int := ⟨"PressSheetsModel", tC10, 42, rfl, by decide, lw_r 832 (by decide +kernel), rfl, by decide +kernel⟩
theorem fp_MD_9_ : FP "PressSheetsModel" 9 10 1 .int := ⟨"PressSheetsModel", tC10, 42, rfl, by decide, lw_r 827 (by decide +kernel), rfl, by decide +kernel⟩
theorem fp_Tape_11_ : FP "PressSheets$Tape" 11 7 0 .int := ⟨"PressSheets$Tape", tC7, 3, rfl, by decide, lw_r 288 (by decide +kernel), rfl, by decide +kernel⟩
theorem fr_Job_24 : FPR "PressSheets$Job" 24 0 9 (yC0 9) := ⟨"PressSheets$Job", tC0, 11, rfl, by decide, lw_r 129 (by decide +kernel), rfl, rfl, by decide +kernel⟩
theorem fr_Job_31 : FPR "PressSheets$Job" 31 0 10 (yC0 10) := ⟨"PressSheets$Job", tC0, 11, rfl, by decide, lw_r 132 (by decide +kernel), rfl, rfl, by decide +kernel⟩
theorem fr_MD_24 : FPR "PressSheetsModel" 24 10 7 (yC10 7) := ⟨"PressSheetsModel", tC10, 42, rfl, by decide, lw_r 833 (by decide +kernel), rfl, rfl, by decide +kernel⟩
theorem fr_MD_28 : FPR "PressSheetsModel" 28 10 8 (yC10 8) := ⟨"PressSheetsModel", tC10, 42, rfl, by decide, lw_r 834 (by decide +kernel), rfl, rfl, by decide +kernel⟩
theorem fr_MD_31 : FPR "PressSheetsModel" 31 10 9 (yC10 9) := ⟨"PressSheetsModel", tC10, 42, rfl, by decide, lw_r 835 (by decide +kernel), rfl, rfl, by decide +kernel⟩
theorem fr_MD_34 : FPR "PressSheetsModel" 34 10 10 (yC10 10) := ⟨"PressSheetsModel", tC10, 42, rfl, by decide, lw_r 836 (by decide +kernel), rfl, rfl, by decide +kernel⟩
theorem fr_MD_37 : FPR "PressSheetsModel" 37 10 11 (yC10 11) := ⟨"PressSheetsModel", tC10, 42, rfl, by decide, lw_r 837 (by decide +kernel), rfl, rfl, by decide +kernel⟩
theorem fr_MD_40 : FPR "PressSheetsModel" 40 10 12 (yC10 12) := ⟨"PressSheetsModel", tC10, 42, rfl, by decide, lw_r 838 (by decide +kernel), rfl, rfl, by decide +kernel⟩
theorem fr_MD_43 : FPR "PressSheetsModel" 43 10 15 (yC10 15) := ⟨"PressSheetsModel", tC10, 42, rfl, by decide, lw_r 841 (by decide +kernel), rfl, rfl, by decide +kernel⟩
theorem fr_MD_46 : FPR "PressSheetsModel" 46 10 17 (yC10 17) := ⟨"PressSheetsModel", tC10, 42, rfl, by decide, lw_r 843 (by decide +kernel), rfl, rfl, by decide +kernel⟩
theorem fr_MD_49 : FPR "PressSheetsModel" 49 10 19 (yC10 19) := ⟨"PressSheetsModel", tC10, 42, rfl, by decide, lw_r 845 (by decide +kernel), rfl, rfl, by decide +kernel⟩
theorem fr_MD_52 : FPR "PressSheetsModel" 52 10 20 (yC10 20) := ⟨"PressSheetsModel", tC10, 42, rfl, by decide, lw_r 846 (by decide +kernel), rfl, rfl, by decide +kernel⟩
theorem fr_MD_55 : FPR "PressSheetsModel" 55 10 21 (yC10 21) := ⟨"PressSheetsModel", tC10, 42, rfl, by decide, lw_r 847 (by decide +kernel), rfl, rfl, by decide +kernel⟩
theorem fr_MD_58 : FPR "PressSheetsModel" 58 10 27 (yC10 27) := ⟨"PressSheetsModel", tC10, 42, rfl, by decide, lw_r 853 (by decide +kernel), rfl, rfl, by decide +kernel⟩
theorem fr_MD_61 : FPR "PressSheetsModel" 61 10 29 (yC10 29) := ⟨"PressSheetsModel", tC10, 42, rfl, by decide, lw_r 855 (by decide +kernel), rfl, rfl, by decide +kernel⟩
theorem fr_MD_64 : FPR "PressSheetsModel" 64 10 31 (yC10 31) := ⟨"PressSheetsModel", tC10, 42, rfl, by decide, lw_r 857 (by decide +kernel), rfl, rfl, by decide +kernel⟩
theorem fr_MD_67 : FPR "PressSheetsModel" 67 10 34 (yC10 34) := ⟨"PressSheetsModel", tC10, 42, rfl, by decide, lw_r 860 (by decide +kernel), rfl, rfl, by decide +kernel⟩
theorem fr_MD_70 : FPR "PressSheetsModel" 70 10 35 (yC10 35) := ⟨"PressSheetsModel", tC10, 42, rfl, by decide, lw_r 861 (by decide +kernel), rfl, rfl, by decide +kernel⟩
theorem fr_MD_73 : FPR "PressSheetsModel" 73 10 37 (yC10 37) := ⟨"PressSheetsModel", tC10, 42, rfl, by decide, lw_r 863 (by decide +kernel), rfl, rfl, by decide +kernel⟩
theorem fr_MD_76 : FPR "PressSheetsModel" 76 10 38 (yC10 38) := ⟨"PressSheetsModel", tC10, 42, rfl, by decide, lw_r 864 (by decide +kernel), rfl, rfl, by decide +kernel⟩
theorem fr_MD_79 : FPR "PressSheetsModel" 79 10 39 (yC10 39) := ⟨"PressSheetsModel", tC10, 42, rfl, by decide, lw_r 865 (by decide +kernel), rfl, rfl, by decide +kernel⟩
theorem fr_MD_82 : FPR "PressSheetsModel" 82 10 40 (yC10 40) := ⟨"PressSheetsModel", tC10, 42, rfl, by decide, lw_r 866 (by decide +kernel), rfl, rfl, by decide +kernel⟩
theorem fr_MD_86 : FPR "PressSheetsModel" 86 10 41 (yC10 41) := ⟨"PressSheetsModel", tC10, 42, rfl, by decide, lw_r 867 (by decide +kernel), rfl, rfl, by decide +kernel⟩
theorem fr_PS_12 : FPR "PressSheets" 12 9 0 (yC9 0) := ⟨"PressSheets", tC9, 6, rfl, by decide, lw_r 301 (by decide +kernel), rfl, rfl, by decide +kernel⟩
theorem fr_PS_18 : FPR "PressSheets" 18 9 1 (yC9 1) := ⟨"PressSheets", tC9, 6, rfl, by decide, lw_r 302 (by decide +kernel), rfl, rfl, by decide +kernel⟩
theorem fr_PS_24 : FPR "PressSheets" 24 9 3 (yC9 3) := ⟨"PressSheets", tC9, 6, rfl, by decide, lw_r 304 (by decide +kernel), rfl, rfl, by decide +kernel⟩
theorem fr_PS_31 : FPR "PressSheets" 31 9 4 (yC9 4) := ⟨"PressSheets", tC9, 6, rfl, by decide, lw_r 305 (by decide +kernel), rfl, rfl, by decide +kernel⟩
theorem fr_PS_38 : FPR "PressSheets" 38 9 5 (yC9 5) := ⟨"PressSheets", tC9, 6, rfl, by decide, lw_r 306 (by decide +kernel), rfl, rfl, by decide +kernel⟩
theorem fr_Plan_16 : FPR "PressSheets$Plan" 16 2 0 (yC2 0) := ⟨"PressSheets$Plan", tC2, 4, rfl, by decide, lw_r 203 (by decide +kernel), rfl, rfl, by decide +kernel⟩
theorem fr_Plan_20 : FPR "PressSheets$Plan" 20 2 1 (yC2 1) := ⟨"PressSheets$Plan", tC2, 4, rfl, by decide, lw_r 205 (by decide +kernel), rfl, rfl, by decide +kernel⟩
theorem fr_Plan_23 : FPR "PressSheets$Plan" 23 2 2 (yC2 2) := ⟨"PressSheets$Plan", tC2, 4, rfl, by decide, lw_r 207 (by decide +kernel), rfl, rfl, by decide +kernel⟩
theorem fr_Plan_26 : FPR "PressSheets$Plan" 26 2 3 (yC2 3) := ⟨"PressSheets$Plan", tC2, 4, rfl, by decide, lw_r 209 (by decide +kernel), rfl, rfl, by decide +kernel⟩
theorem fr_Press_14 : FPR "PressSheets$Press" 14 3 0 (yC3 0) := ⟨"PressSheets$Press", tC3, 2, rfl, by decide, lw_r 184 (by decide +kernel), rfl, rfl, by decide +kernel⟩
theorem fr_Press_20 : FPR "PressSheets$Press" 20 3 1 (yC3 1) := ⟨"PressSheets$Press", tC3, 2, rfl, by decide, lw_r 187 (by decide +kernel), rfl, rfl, by decide +kernel⟩
theorem fr_Row_9 : FPR "PressSheets$Row" 9 4 0 (yC4 0) := ⟨"PressSheets$Row", tC4, 2, rfl, by decide, lw_r 171 (by decide +kernel), rfl, rfl, by decide +kernel⟩
theorem fr_State_12 : FPR "PressSheets$State" 12 6 0 (yC6 0) := ⟨"PressSheets$State", tC6, 7, rfl, by decide, lw_r 222 (by decide +kernel), rfl, rfl, by decide +kernel⟩
theorem fr_State_21 : FPR "PressSheets$State" 21 6 1 (yC6 1) := ⟨"PressSheets$State", tC6, 7, rfl, by decide, lw_r 224 (by decide +kernel), rfl, rfl, by decide +kernel⟩
theorem fr_State_28 : FPR "PressSheets$State" 28 6 2 (yC6 2) := ⟨"PressSheets$State", tC6, 7, rfl, by decide, lw_r 226 (by decide +kernel), rfl, rfl, by decide +kernel⟩
theorem fr_State_37 : FPR "PressSheets$State" 37 6 3 (yC6 3) := ⟨"PressSheets$State", tC6, 7, rfl, by decide, lw_r 228 (by decide +kernel), rfl, rfl, by decide +kernel⟩
theorem fr_State_41 : FPR "PressSheets$State" 41 6 4 (yC6 4) := ⟨"PressSheets$State", tC6, 7, rfl, by decide, lw_r 230 (by decide +kernel), rfl, rfl, by decide +kernel⟩
theorem fr_State_44 : FPR "PressSheets$State" 44 6 5 (yC6 5) := ⟨"PressSheets$State", tC6, 7, rfl, by decide, lw_r 232 (by decide +kernel), rfl, rfl, by decide +kernel⟩
theorem fr_State_47 : FPR "PressSheets$State" 47 6 6 (yC6 6) := ⟨"PressSheets$State", tC6, 7, rfl, by decide, lw_r 234 (by decide +kernel), rfl, rfl, by decide +kernel⟩
theorem fr_Tape_15 : FPR "PressSheets$Tape" 15 7 2 (yC7 2) := ⟨"PressSheets$Tape", tC7, 3, rfl, by decide, lw_r 291 (by decide +kernel), rfl, rfl, by decide +kernel⟩
theorem fr_Text_14 : FPR "PressSheets$Text" 14 8 0 (yC8 0) := ⟨"PressSheets$Text", tC8, 5, rfl, by decide, lw_r 261 (by decide +kernel), rfl, rfl, by decide +kernel⟩
theorem fr_Text_20 : FPR "PressSheets$Text" 20 8 1 (yC8 1) := ⟨"PressSheets$Text", tC8, 5, rfl, by decide, lw_r 263 (by decide +kernel), rfl, rfl, by decide +kernel⟩
theorem fr_Text_23 : FPR "PressSheets$Text" 23 8 2 (yC8 2) := ⟨"PressSheets$Text", tC8, 5, rfl, by decide, lw_r 265 (by decide +kernel), rfl, rfl, by decide +kernel⟩
theorem fr_Text_26 : FPR "PressSheets$Text" 26 8 3 (yC8 3) := ⟨"PressSheets$Text", tC8, 5, rfl, by decide, lw_r 267 (by decide +kernel), rfl, rfl, by decide +kernel⟩
theorem in_Job_23 : IN "PressSheets$Job" 23 y_Leaf_init "PressSheets" := ⟨by decide, lw_r 37 (by decide +kernel)⟩
theorem in_Job_30 : IN "PressSheets$Job" 30 y_Spot_init "PressSheets" := ⟨by decide, lw_r 67 (by decide +kernel)⟩
theorem in_PS_11 : IN "PressSheets" 11 y_State_init "PressSheets" := ⟨by decide, lw_r 25 (by decide +kernel)⟩
theorem in_PS_30 : IN "PressSheets" 30 y_Text_init "PressSheets" := ⟨by decide, lw_r 256 (by decide +kernel)⟩
theorem in_PS_37 : IN "PressSheets" 37 y_Tape_init "PressSheets" := ⟨by decide, lw_r 285 (by decide +kernel)⟩
theorem in_State_20 : IN "PressSheets$State" 20 y_Press_init "PressSheets" := ⟨by decide, lw_r 162 (by decide +kernel)⟩
theorem in_State_27 : IN "PressSheets$State" 27 y_Plan_init "PressSheets" := ⟨by decide, lw_r 198 (by decide +kernel)⟩
theorem ix_PS_23 : IX "PressSheets" 23 y_Job_init := ⟨lw_r 252 (by decide +kernel), lw_r 31 (by decide +kernel)⟩
theorem ix_Plan_13 : IX "PressSheets$Plan" 13 y_Row_init := ⟨lw_r 202 (by decide +kernel), lw_r 168 (by decide +kernel)⟩
theorem ix_Press_11 : IX "PressSheets$Press" 11 y_Row_init := ⟨lw_r 167 (by decide +kernel), lw_r 168 (by decide +kernel)⟩
theorem ix_State_11 : IX "PressSheets$State" 11 y_Job_init := ⟨lw_r 30 (by decide +kernel), lw_r 31 (by decide +kernel)⟩
theorem ix_State_34 : IX "PressSheets$State" 34 y_Row_init := ⟨lw_r 221 (by decide +kernel), lw_r 168 (by decide +kernel)⟩
theorem ix_Text_11 : IX "PressSheets$Text" 11 y_Row_init := ⟨lw_r 260 (by decide +kernel), lw_r 168 (by decide +kernel)⟩
def f_Leaf_init_3 (M : Mm) : Option (Unit × Mm) := some ((), M)
set_option maxHeartbeats 4000000 in
set_option maxRecDepth 20000 in
theorem t_Leaf_init_3 {X : KX} {M : Mm} (hI : (kt X).name = "<init>") (hrc : 0 ≤ (kr X).cells) (hrs : 0 ≤ (kr X).slots) : GO X md_Leaf_init (QE X rvU (0, 0, 4, iniT 0)) 0 [some (rf (kG X) 3)] [] (0, 0, 4, iniT 0) M (f_Leaf_init_3 M) := by
  unfold f_Leaf_init_3
  refine g_aload_n e_Leaf_init_0 rfl ?_
  refine g_objI e_Leaf_init_1 ⟨w_39, w_20, w_21⟩ rfl ⟨by decide, Nat.le_of_ble_eq_true rfl⟩ ?_
  exact g_vret e_Leaf_init_4 rfl
theorem c_Leaf_init_3 {l : Launch} {G : KG} {M M' : Mm} (h : f_Leaf_init_3 M = some ((), M')) : CT l G y_Leaf_init md_Leaf_init 0 0 [rf G 3] 4 (iniT 0) M none 4 (iniT 0) M' :=
  CT.ofI 0 (by decide) rfl (by show 1 ≤ 1; decide) rfl h (fun X _ hG hI h1 h2 => by subst hG; exact t_Leaf_init_3 hI h1 h2)
theorem x_Leaf_init_3 (M : Mm) : ∃ M', f_Leaf_init_3 M = some ((), M') := by
  unfold f_Leaf_init_3
  exact ⟨_, rfl⟩
def f_Spot_init_4 (M : Mm) : Option (Unit × Mm) := some ((), M)
set_option maxHeartbeats 4000000 in
set_option maxRecDepth 20000 in
theorem t_Spot_init_4 {X : KX} {M : Mm} (hI : (kt X).name = "<init>") (hrc : 0 ≤ (kr X).cells) (hrs : 0 ≤ (kr X).slots) : GO X md_Spot_init (QE X rvU (0, 0, 5, iniT 1)) 0 [some (rf (kG X) 4)] [] (0, 0, 5, iniT 1) M (f_Spot_init_4 M) := by
  unfold f_Spot_init_4
  refine g_aload_n e_Spot_init_0 rfl ?_
  refine g_objI e_Spot_init_1 ⟨w_69, w_20, w_21⟩ rfl ⟨by decide, Nat.le_of_ble_eq_true rfl⟩ ?_
  exact g_vret e_Spot_init_4 rfl
theorem c_Spot_init_4 {l : Launch} {G : KG} {M M' : Mm} (h : f_Spot_init_4 M = some ((), M')) : CT l G y_Spot_init md_Spot_init 0 0 [rf G 4] 5 (iniT 1) M none 5 (iniT 1) M' :=
  CT.ofI 0 (by decide) rfl (by show 1 ≤ 1; decide) rfl h (fun X _ hG hI h1 h2 => by subst hG; exact t_Spot_init_4 hI h1 h2)
theorem x_Spot_init_4 (M : Mm) : ∃ M', f_Spot_init_4 M = some ((), M') := by
  unfold f_Spot_init_4
  exact ⟨_, rfl⟩
def f_Job_init_2 (M : Mm) : Option (Unit × Mm) := (lT (wI M 2 4 (4 : Int32)) fun M1 => (lT (wI M1 2 7 (100 : Int32)) fun M2 => (lT (wI M2 2 8 (1 : Int32)) fun M3 => (lT (zr M3 3) fun M4 => (bD (f_Leaf_init_3 M4) fun _ M5 => (lT (zr M5 4) fun M6 => (bD (f_Spot_init_4 M6) fun _ M7 => (bD (f_Job_foldBy 2 (1 : Int32) (0 : Int32) M7) fun _ M8 => some ((), M8)))))))))
set_option maxHeartbeats 4000000 in
set_option maxRecDepth 20000 in
theorem t_Job_init_2 {X : KX} {M : Mm} (hI : (kt X).name = "<init>") (hrc : 2 ≤ (kr X).cells) (hrs : 11 ≤ (kr X).slots) : GO X md_Job_init (QE X rvU (2, 11, 5, iniT 2)) 0 [some (rf (kG X) 2)] [] (0, 0, 3, iniT 0) M (f_Job_init_2 M) := by
  unfold f_Job_init_2
  refine g_aload_n e_Job_init_0 rfl ?_
  refine g_objI e_Job_init_1 ⟨w_33, w_20, w_21⟩ rfl ⟨by decide, Nat.le_of_ble_eq_true rfl⟩ ?_
  refine g_aload_n e_Job_init_4 rfl ?_
  refine g_iconst (x := (4 : Int32)) e_Job_init_5 (by decide) ?_
  refine g_putL e_Job_init_6 fp_Job_9_ kq_2 (by decide) fj_0_4 rfl rfl (fun M1 => ?_)
  refine g_aload_n e_Job_init_9 rfl ?_
  refine g_bipush (x := (100 : Int32)) e_Job_init_10 (by decide) ?_
  refine g_putL e_Job_init_12 fp_Job_15_ kq_2 (by decide) fj_0_7 rfl rfl (fun M2 => ?_)
  refine g_aload_n e_Job_init_15 rfl ?_
  refine g_iconst (x := (1 : Int32)) e_Job_init_16 (by decide) ?_
  refine g_putL e_Job_init_17 fp_Job_18_ kq_2 (by decide) fj_0_8 rfl rfl (fun M3 => ?_)
  refine g_aload_n e_Job_init_20 rfl ?_
  refine g_new (c' := 1) (s' := 5) (n' := 4) e_Job_init_21 (show cls[1]? = some ("PressSheets$Leaf", tC1, 5) from rfl) ⟨w_34, w_35, w_4⟩ kq_3 yC1 pY1 dV1 (by decide +kernel) rfl rfl rfl ⟨Nat.le_trans (by decide) hrc, Nat.le_trans (by decide) hrs⟩ (fun M4 => ?_)
  refine g_dup e_Job_init_24 rfl ?_
  refine g_callIN (mc := 0) (ms := 0) (c' := 1) (s' := 5) (As := []) (st := [rf (kG X) 3, rf (kG X) 2]) e_Job_init_25 in_Job_23 rfl rfl my_Leaf_init (by decide) rfl rfl (Nat.le_of_ble_eq_true rfl) rfl rfl ⟨Nat.le_trans (by decide) hrc, Nat.le_trans (by decide) hrs⟩ (fun _ h => c_Leaf_init_3 h) (fun M5 _ => ?_)
  refine g_putR (t' := 1) hI e_Job_init_28 fr_Job_24 kq_2 (by decide) fj_0_9 (show rkl[0]? = some (2, 9) from rfl) (fun v hv => by obtain ⟨a, rfl⟩ := hv; exact ⟨rfl, rfl⟩) rfl rfl ?_
  refine g_aload_n e_Job_init_31 rfl ?_
  refine g_new (c' := 2) (s' := 11) (n' := 5) e_Job_init_32 (show cls[5]? = some ("PressSheets$Spot", tC5, 6) from rfl) ⟨w_64, w_65, w_5⟩ kq_4 yC5 pY5 dV5 (by decide +kernel) rfl rfl rfl ⟨Nat.le_trans (by decide) hrc, Nat.le_trans (by decide) hrs⟩ (fun M6 => ?_)
  refine g_dup e_Job_init_35 rfl ?_
  refine g_callIN (mc := 0) (ms := 0) (c' := 2) (s' := 11) (As := []) (st := [rf (kG X) 4, rf (kG X) 2]) e_Job_init_36 in_Job_30 rfl rfl my_Spot_init (by decide) rfl rfl (Nat.le_of_ble_eq_true rfl) rfl rfl ⟨Nat.le_trans (by decide) hrc, Nat.le_trans (by decide) hrs⟩ (fun _ h => c_Spot_init_4 h) (fun M7 _ => ?_)
  refine g_putR (t' := 2) hI e_Job_init_39 fr_Job_31 kq_2 (by decide) fj_0_10 (show rkl[1]? = some (2, 10) from rfl) (fun v hv => by obtain ⟨a, rfl⟩ := hv; exact ⟨rfl, rfl⟩) rfl rfl ?_
  refine g_aload_n e_Job_init_42 rfl ?_
  refine g_iconst (x := (1 : Int32)) e_Job_init_43 (by decide) ?_
  refine g_iconst (x := (0 : Int32)) e_Job_init_44 (by decide) ?_
  refine g_callV (rv := rvU) (As := [.int (1 : Int32), .int (0 : Int32)]) (st := []) e_Job_init_45 mv_Job_35 my_Job_foldBy (by decide) rfl rfl kq_2 (by decide) rfl (Nat.le_of_ble_eq_true rfl) rfl (fun r M1 h => c_Job_foldBy (Z := (2, 11, 5, iniT 2)) (by decide) kq_2 h) (fun _ M8 _ => ?_)
  exact g_vret e_Job_init_48 rfl
theorem c_Job_init_2 {l : Launch} {G : KG} {M M' : Mm} (h : f_Job_init_2 M = some ((), M')) : CT l G y_Job_init md_Job_init 2 11 [rf G 2] 3 (iniT 0) M none 5 (iniT 2) M' :=
  CT.ofI 0 (by decide) rfl (by show 1 ≤ 1; decide) rfl h (fun X _ hG hI h1 h2 => by subst hG; exact t_Job_init_2 hI h1 h2)
theorem x_Job_init_2 (M : Mm) : ∃ M', f_Job_init_2 M = some ((), M') := by
  unfold f_Job_init_2
  refine lT_ex ?_
  refine lT_ex ?_
  refine lT_ex ?_
  refine lT_ex ?_
  refine bD_ex (x_Leaf_init_3 _) (fun _ => ?_)
  refine lT_ex ?_
  refine bD_ex (x_Spot_init_4 _) (fun _ => ?_)
  refine bD_ex (fbI 2 _) (fun _ => ?_)
  exact ⟨_, rfl⟩
def f_Row_init_6 (M : Mm) : Option (Unit × Mm) := (lT (zr M 7) fun M1 => some ((), M1))
set_option maxHeartbeats 4000000 in
set_option maxRecDepth 20000 in
theorem t_Row_init_6 {X : KX} {M : Mm} (hI : (kt X).name = "<init>") (hrc : 1 ≤ (kr X).cells) (hrs : 40 ≤ (kr X).slots) : GO X md_Row_init (QE X rvU (1, 40, 8, iniT 4)) 0 [some (rf (kG X) 6), some (.int (40 : Int32))] [] (0, 0, 7, iniT 3) M (f_Row_init_6 M) := by
  unfold f_Row_init_6
  refine g_aload_n e_Row_init_0 rfl ?_
  refine g_objI e_Row_init_1 ⟨w_170, w_20, w_21⟩ rfl ⟨by decide, Nat.le_of_ble_eq_true rfl⟩ ?_
  refine g_aload_n e_Row_init_4 rfl ?_
  refine g_iload_n e_Row_init_5 rfl ?_
  refine g_if_le' e_Row_init_6 (fun h => absurd h (by decide)) (fun _ => ?_)
  refine g_iload_n e_Row_init_9 rfl ?_
  refine g_goto e_Row_init_10 ?_
  refine g_newI (N := 40) (c' := 1) (s' := 40) (n' := 8) e_Row_init_14 w_183 kq_7 (by decide) (by decide) rfl rfl rfl ⟨Nat.le_trans (by decide) hrc, Nat.le_trans (by decide) hrs⟩ (fun M1 => ?_)
  refine g_putR (t' := 4) hI e_Row_init_16 fr_Row_9 kq_6 (by decide) fj_4_0 (show rkl[3]? = some (6, 0) from rfl) (fun v hv => by obtain ⟨a, rfl⟩ := hv; exact ⟨rfl, rfl⟩) rfl rfl ?_
  exact g_vret e_Row_init_19 rfl
theorem c_Row_init_6 {l : Launch} {G : KG} {M M' : Mm} (h : f_Row_init_6 M = some ((), M')) : CT l G y_Row_init md_Row_init 1 40 [rf G 6, .int (40 : Int32)] 7 (iniT 3) M none 8 (iniT 4) M' :=
  CT.ofI 0 (by decide) rfl (by show 2 ≤ 2; decide) rfl h (fun X _ hG hI h1 h2 => by subst hG; exact t_Row_init_6 hI h1 h2)
theorem x_Row_init_6 (M : Mm) : ∃ M', f_Row_init_6 M = some ((), M') := by
  unfold f_Row_init_6
  refine lT_ex ?_
  exact ⟨_, rfl⟩
def f_Row_init_8 (M : Mm) : Option (Unit × Mm) := (lT (zr M 9) fun M1 => some ((), M1))
set_option maxHeartbeats 4000000 in
set_option maxRecDepth 20000 in
theorem t_Row_init_8 {X : KX} {M : Mm} (hI : (kt X).name = "<init>") (hrc : 1 ≤ (kr X).cells) (hrs : 64 ≤ (kr X).slots) : GO X md_Row_init (QE X rvU (1, 64, 10, iniT 6)) 0 [some (rf (kG X) 8), some (.int (64 : Int32))] [] (0, 0, 9, iniT 5) M (f_Row_init_8 M) := by
  unfold f_Row_init_8
  refine g_aload_n e_Row_init_0 rfl ?_
  refine g_objI e_Row_init_1 ⟨w_170, w_20, w_21⟩ rfl ⟨by decide, Nat.le_of_ble_eq_true rfl⟩ ?_
  refine g_aload_n e_Row_init_4 rfl ?_
  refine g_iload_n e_Row_init_5 rfl ?_
  refine g_if_le' e_Row_init_6 (fun h => absurd h (by decide)) (fun _ => ?_)
  refine g_iload_n e_Row_init_9 rfl ?_
  refine g_goto e_Row_init_10 ?_
  refine g_newI (N := 64) (c' := 1) (s' := 64) (n' := 10) e_Row_init_14 w_183 kq_9 (by decide) (by decide) rfl rfl rfl ⟨Nat.le_trans (by decide) hrc, Nat.le_trans (by decide) hrs⟩ (fun M1 => ?_)
  refine g_putR (t' := 6) hI e_Row_init_16 fr_Row_9 kq_8 (by decide) fj_4_0 (show rkl[5]? = some (8, 0) from rfl) (fun v hv => by obtain ⟨a, rfl⟩ := hv; exact ⟨rfl, rfl⟩) rfl rfl ?_
  exact g_vret e_Row_init_19 rfl
theorem c_Row_init_8 {l : Launch} {G : KG} {M M' : Mm} (h : f_Row_init_8 M = some ((), M')) : CT l G y_Row_init md_Row_init 1 64 [rf G 8, .int (64 : Int32)] 9 (iniT 5) M none 10 (iniT 6) M' :=
  CT.ofI 0 (by decide) rfl (by show 2 ≤ 2; decide) rfl h (fun X _ hG hI h1 h2 => by subst hG; exact t_Row_init_8 hI h1 h2)
theorem x_Row_init_8 (M : Mm) : ∃ M', f_Row_init_8 M = some ((), M') := by
  unfold f_Row_init_8
  refine lT_ex ?_
  exact ⟨_, rfl⟩
def f_Press_init_5 (M : Mm) : Option (Unit × Mm) := (lT (zr M 6) fun M1 => (bD (f_Row_init_6 M1) fun _ M2 => (lT (zr M2 8) fun M3 => (bD (f_Row_init_8 M3) fun _ M4 => some ((), M4)))))
set_option maxHeartbeats 4000000 in
set_option maxRecDepth 20000 in
theorem t_Press_init_5 {X : KX} {M : Mm} (hI : (kt X).name = "<init>") (hrc : 4 ≤ (kr X).cells) (hrs : 108 ≤ (kr X).slots) : GO X md_Press_init (QE X rvU (4, 108, 10, iniT 7)) 0 [some (rf (kG X) 5)] [] (0, 0, 6, iniT 3) M (f_Press_init_5 M) := by
  unfold f_Press_init_5
  refine g_aload_n e_Press_init_0 rfl ?_
  refine g_objI e_Press_init_1 ⟨w_164, w_20, w_21⟩ rfl ⟨by decide, Nat.le_of_ble_eq_true rfl⟩ ?_
  refine g_aload_n e_Press_init_4 rfl ?_
  refine g_new (c' := 1) (s' := 2) (n' := 7) e_Press_init_5 (show cls[4]? = some ("PressSheets$Row", tC4, 2) from rfl) ⟨w_165, w_166, w_7⟩ kq_6 yC4 pY4 dV4 (by decide +kernel) rfl rfl rfl ⟨Nat.le_trans (by decide) hrc, Nat.le_trans (by decide) hrs⟩ (fun M1 => ?_)
  refine g_dup e_Press_init_8 rfl ?_
  refine g_bipush (x := (40 : Int32)) e_Press_init_9 (by decide) ?_
  refine g_callI (mc := 1) (ms := 40) (c' := 2) (s' := 42) (As := [.int (40 : Int32)]) (st := [rf (kG X) 6, rf (kG X) 5]) e_Press_init_11 ix_Press_11 rfl rfl my_Row_init (by decide) rfl rfl (Nat.le_of_ble_eq_true rfl) rfl rfl ⟨Nat.le_trans (by decide) hrc, Nat.le_trans (by decide) hrs⟩ (fun _ h => c_Row_init_6 h) (fun M2 _ => ?_)
  refine g_putR (t' := 5) hI e_Press_init_14 fr_Press_14 kq_5 (by decide) fj_3_0 (show rkl[4]? = some (5, 0) from rfl) (fun v hv => by obtain ⟨a, rfl⟩ := hv; exact ⟨rfl, rfl⟩) rfl rfl ?_
  refine g_aload_n e_Press_init_17 rfl ?_
  refine g_new (c' := 3) (s' := 44) (n' := 9) e_Press_init_18 (show cls[4]? = some ("PressSheets$Row", tC4, 2) from rfl) ⟨w_165, w_166, w_7⟩ kq_8 yC4 pY4 dV4 (by decide +kernel) rfl rfl rfl ⟨Nat.le_trans (by decide) hrc, Nat.le_trans (by decide) hrs⟩ (fun M3 => ?_)
  refine g_dup e_Press_init_21 rfl ?_
  refine g_bipush (x := (64 : Int32)) e_Press_init_22 (by decide) ?_
  refine g_callI (mc := 1) (ms := 64) (c' := 4) (s' := 108) (As := [.int (64 : Int32)]) (st := [rf (kG X) 8, rf (kG X) 5]) e_Press_init_24 ix_Press_11 rfl rfl my_Row_init (by decide) rfl rfl (Nat.le_of_ble_eq_true rfl) rfl rfl ⟨Nat.le_trans (by decide) hrc, Nat.le_trans (by decide) hrs⟩ (fun _ h => c_Row_init_8 h) (fun M4 _ => ?_)
  refine g_putR (t' := 7) hI e_Press_init_27 fr_Press_20 kq_5 (by decide) fj_3_1 (show rkl[6]? = some (5, 1) from rfl) (fun v hv => by obtain ⟨a, rfl⟩ := hv; exact ⟨rfl, rfl⟩) rfl rfl ?_
  exact g_vret e_Press_init_30 rfl
theorem c_Press_init_5 {l : Launch} {G : KG} {M M' : Mm} (h : f_Press_init_5 M = some ((), M')) : CT l G y_Press_init md_Press_init 4 108 [rf G 5] 6 (iniT 3) M none 10 (iniT 7) M' :=
  CT.ofI 0 (by decide) rfl (by show 1 ≤ 1; decide) rfl h (fun X _ hG hI h1 h2 => by subst hG; exact t_Press_init_5 hI h1 h2)
theorem x_Press_init_5 (M : Mm) : ∃ M', f_Press_init_5 M = some ((), M') := by
  unfold f_Press_init_5
  refine lT_ex ?_
  refine bD_ex (x_Row_init_6 _) (fun _ => ?_)
  refine lT_ex ?_
  refine bD_ex (x_Row_init_8 _) (fun _ => ?_)
  exact ⟨_, rfl⟩
def f_Row_init_11 (M : Mm) : Option (Unit × Mm) := (lT (zr M 12) fun M1 => some ((), M1))
set_option maxHeartbeats 4000000 in
set_option maxRecDepth 20000 in
theorem t_Row_init_11 {X : KX} {M : Mm} (hI : (kt X).name = "<init>") (hrc : 1 ≤ (kr X).cells) (hrs : 60 ≤ (kr X).slots) : GO X md_Row_init (QE X rvU (1, 60, 13, iniT 9)) 0 [some (rf (kG X) 11), some (.int (60 : Int32))] [] (0, 0, 12, iniT 8) M (f_Row_init_11 M) := by
  unfold f_Row_init_11
  refine g_aload_n e_Row_init_0 rfl ?_
  refine g_objI e_Row_init_1 ⟨w_170, w_20, w_21⟩ rfl ⟨by decide, Nat.le_of_ble_eq_true rfl⟩ ?_
  refine g_aload_n e_Row_init_4 rfl ?_
  refine g_iload_n e_Row_init_5 rfl ?_
  refine g_if_le' e_Row_init_6 (fun h => absurd h (by decide)) (fun _ => ?_)
  refine g_iload_n e_Row_init_9 rfl ?_
  refine g_goto e_Row_init_10 ?_
  refine g_newI (N := 60) (c' := 1) (s' := 60) (n' := 13) e_Row_init_14 w_183 kq_12 (by decide) (by decide) rfl rfl rfl ⟨Nat.le_trans (by decide) hrc, Nat.le_trans (by decide) hrs⟩ (fun M1 => ?_)
  refine g_putR (t' := 9) hI e_Row_init_16 fr_Row_9 kq_11 (by decide) fj_4_0 (show rkl[8]? = some (11, 0) from rfl) (fun v hv => by obtain ⟨a, rfl⟩ := hv; exact ⟨rfl, rfl⟩) rfl rfl ?_
  exact g_vret e_Row_init_19 rfl
theorem c_Row_init_11 {l : Launch} {G : KG} {M M' : Mm} (h : f_Row_init_11 M = some ((), M')) : CT l G y_Row_init md_Row_init 1 60 [rf G 11, .int (60 : Int32)] 12 (iniT 8) M none 13 (iniT 9) M' :=
  CT.ofI 0 (by decide) rfl (by show 2 ≤ 2; decide) rfl h (fun X _ hG hI h1 h2 => by subst hG; exact t_Row_init_11 hI h1 h2)
theorem x_Row_init_11 (M : Mm) : ∃ M', f_Row_init_11 M = some ((), M') := by
  unfold f_Row_init_11
  refine lT_ex ?_
  exact ⟨_, rfl⟩
def f_Row_init_13 (M : Mm) : Option (Unit × Mm) := (lT (zr M 14) fun M1 => some ((), M1))
set_option maxHeartbeats 4000000 in
set_option maxRecDepth 20000 in
theorem t_Row_init_13 {X : KX} {M : Mm} (hI : (kt X).name = "<init>") (hrc : 1 ≤ (kr X).cells) (hrs : 60 ≤ (kr X).slots) : GO X md_Row_init (QE X rvU (1, 60, 15, iniT 11)) 0 [some (rf (kG X) 13), some (.int (60 : Int32))] [] (0, 0, 14, iniT 10) M (f_Row_init_13 M) := by
  unfold f_Row_init_13
  refine g_aload_n e_Row_init_0 rfl ?_
  refine g_objI e_Row_init_1 ⟨w_170, w_20, w_21⟩ rfl ⟨by decide, Nat.le_of_ble_eq_true rfl⟩ ?_
  refine g_aload_n e_Row_init_4 rfl ?_
  refine g_iload_n e_Row_init_5 rfl ?_
  refine g_if_le' e_Row_init_6 (fun h => absurd h (by decide)) (fun _ => ?_)
  refine g_iload_n e_Row_init_9 rfl ?_
  refine g_goto e_Row_init_10 ?_
  refine g_newI (N := 60) (c' := 1) (s' := 60) (n' := 15) e_Row_init_14 w_183 kq_14 (by decide) (by decide) rfl rfl rfl ⟨Nat.le_trans (by decide) hrc, Nat.le_trans (by decide) hrs⟩ (fun M1 => ?_)
  refine g_putR (t' := 11) hI e_Row_init_16 fr_Row_9 kq_13 (by decide) fj_4_0 (show rkl[10]? = some (13, 0) from rfl) (fun v hv => by obtain ⟨a, rfl⟩ := hv; exact ⟨rfl, rfl⟩) rfl rfl ?_
  exact g_vret e_Row_init_19 rfl
theorem c_Row_init_13 {l : Launch} {G : KG} {M M' : Mm} (h : f_Row_init_13 M = some ((), M')) : CT l G y_Row_init md_Row_init 1 60 [rf G 13, .int (60 : Int32)] 14 (iniT 10) M none 15 (iniT 11) M' :=
  CT.ofI 0 (by decide) rfl (by show 2 ≤ 2; decide) rfl h (fun X _ hG hI h1 h2 => by subst hG; exact t_Row_init_13 hI h1 h2)
theorem x_Row_init_13 (M : Mm) : ∃ M', f_Row_init_13 M = some ((), M') := by
  unfold f_Row_init_13
  refine lT_ex ?_
  exact ⟨_, rfl⟩
def f_Row_init_15 (M : Mm) : Option (Unit × Mm) := (lT (zr M 16) fun M1 => some ((), M1))
set_option maxHeartbeats 4000000 in
set_option maxRecDepth 20000 in
theorem t_Row_init_15 {X : KX} {M : Mm} (hI : (kt X).name = "<init>") (hrc : 1 ≤ (kr X).cells) (hrs : 60 ≤ (kr X).slots) : GO X md_Row_init (QE X rvU (1, 60, 17, iniT 13)) 0 [some (rf (kG X) 15), some (.int (60 : Int32))] [] (0, 0, 16, iniT 12) M (f_Row_init_15 M) := by
  unfold f_Row_init_15
  refine g_aload_n e_Row_init_0 rfl ?_
  refine g_objI e_Row_init_1 ⟨w_170, w_20, w_21⟩ rfl ⟨by decide, Nat.le_of_ble_eq_true rfl⟩ ?_
  refine g_aload_n e_Row_init_4 rfl ?_
  refine g_iload_n e_Row_init_5 rfl ?_
  refine g_if_le' e_Row_init_6 (fun h => absurd h (by decide)) (fun _ => ?_)
  refine g_iload_n e_Row_init_9 rfl ?_
  refine g_goto e_Row_init_10 ?_
  refine g_newI (N := 60) (c' := 1) (s' := 60) (n' := 17) e_Row_init_14 w_183 kq_16 (by decide) (by decide) rfl rfl rfl ⟨Nat.le_trans (by decide) hrc, Nat.le_trans (by decide) hrs⟩ (fun M1 => ?_)
  refine g_putR (t' := 13) hI e_Row_init_16 fr_Row_9 kq_15 (by decide) fj_4_0 (show rkl[12]? = some (15, 0) from rfl) (fun v hv => by obtain ⟨a, rfl⟩ := hv; exact ⟨rfl, rfl⟩) rfl rfl ?_
  exact g_vret e_Row_init_19 rfl
theorem c_Row_init_15 {l : Launch} {G : KG} {M M' : Mm} (h : f_Row_init_15 M = some ((), M')) : CT l G y_Row_init md_Row_init 1 60 [rf G 15, .int (60 : Int32)] 16 (iniT 12) M none 17 (iniT 13) M' :=
  CT.ofI 0 (by decide) rfl (by show 2 ≤ 2; decide) rfl h (fun X _ hG hI h1 h2 => by subst hG; exact t_Row_init_15 hI h1 h2)
theorem x_Row_init_15 (M : Mm) : ∃ M', f_Row_init_15 M = some ((), M') := by
  unfold f_Row_init_15
  refine lT_ex ?_
  exact ⟨_, rfl⟩
def f_Row_init_17 (M : Mm) : Option (Unit × Mm) := (lT (zr M 18) fun M1 => some ((), M1))
set_option maxHeartbeats 4000000 in
set_option maxRecDepth 20000 in
theorem t_Row_init_17 {X : KX} {M : Mm} (hI : (kt X).name = "<init>") (hrc : 1 ≤ (kr X).cells) (hrs : 4 ≤ (kr X).slots) : GO X md_Row_init (QE X rvU (1, 4, 19, iniT 15)) 0 [some (rf (kG X) 17), some (.int (4 : Int32))] [] (0, 0, 18, iniT 14) M (f_Row_init_17 M) := by
  unfold f_Row_init_17
  refine g_aload_n e_Row_init_0 rfl ?_
  refine g_objI e_Row_init_1 ⟨w_170, w_20, w_21⟩ rfl ⟨by decide, Nat.le_of_ble_eq_true rfl⟩ ?_
  refine g_aload_n e_Row_init_4 rfl ?_
  refine g_iload_n e_Row_init_5 rfl ?_
  refine g_if_le' e_Row_init_6 (fun h => absurd h (by decide)) (fun _ => ?_)
  refine g_iload_n e_Row_init_9 rfl ?_
  refine g_goto e_Row_init_10 ?_
  refine g_newI (N := 4) (c' := 1) (s' := 4) (n' := 19) e_Row_init_14 w_183 kq_18 (by decide) (by decide) rfl rfl rfl ⟨Nat.le_trans (by decide) hrc, Nat.le_trans (by decide) hrs⟩ (fun M1 => ?_)
  refine g_putR (t' := 15) hI e_Row_init_16 fr_Row_9 kq_17 (by decide) fj_4_0 (show rkl[14]? = some (17, 0) from rfl) (fun v hv => by obtain ⟨a, rfl⟩ := hv; exact ⟨rfl, rfl⟩) rfl rfl ?_
  exact g_vret e_Row_init_19 rfl
theorem c_Row_init_17 {l : Launch} {G : KG} {M M' : Mm} (h : f_Row_init_17 M = some ((), M')) : CT l G y_Row_init md_Row_init 1 4 [rf G 17, .int (4 : Int32)] 18 (iniT 14) M none 19 (iniT 15) M' :=
  CT.ofI 0 (by decide) rfl (by show 2 ≤ 2; decide) rfl h (fun X _ hG hI h1 h2 => by subst hG; exact t_Row_init_17 hI h1 h2)
theorem x_Row_init_17 (M : Mm) : ∃ M', f_Row_init_17 M = some ((), M') := by
  unfold f_Row_init_17
  refine lT_ex ?_
  exact ⟨_, rfl⟩
def f_Plan_init_10 (M : Mm) : Option (Unit × Mm) := (lT (zr M 11) fun M1 => (bD (f_Row_init_11 M1) fun _ M2 => (lT (zr M2 13) fun M3 => (bD (f_Row_init_13 M3) fun _ M4 => (lT (zr M4 15) fun M5 => (bD (f_Row_init_15 M5) fun _ M6 => (lT (zr M6 17) fun M7 => (bD (f_Row_init_17 M7) fun _ M8 => some ((), M8)))))))))
set_option maxHeartbeats 4000000 in
set_option maxRecDepth 20000 in
theorem t_Plan_init_10 {X : KX} {M : Mm} (hI : (kt X).name = "<init>") (hrc : 8 ≤ (kr X).cells) (hrs : 192 ≤ (kr X).slots) : GO X md_Plan_init (QE X rvU (8, 192, 19, iniT 16)) 0 [some (rf (kG X) 10)] [] (0, 0, 11, iniT 8) M (f_Plan_init_10 M) := by
  unfold f_Plan_init_10
  refine g_aload_n e_Plan_init_0 rfl ?_
  refine g_objI e_Plan_init_1 ⟨w_200, w_20, w_21⟩ rfl ⟨by decide, Nat.le_of_ble_eq_true rfl⟩ ?_
  refine g_aload_n e_Plan_init_4 rfl ?_
  refine g_new (c' := 1) (s' := 2) (n' := 12) e_Plan_init_5 (show cls[4]? = some ("PressSheets$Row", tC4, 2) from rfl) ⟨w_201, w_166, w_7⟩ kq_11 yC4 pY4 dV4 (by decide +kernel) rfl rfl rfl ⟨Nat.le_trans (by decide) hrc, Nat.le_trans (by decide) hrs⟩ (fun M1 => ?_)
  refine g_dup e_Plan_init_8 rfl ?_
  refine g_bipush (x := (60 : Int32)) e_Plan_init_9 (by decide) ?_
  refine g_callI (mc := 1) (ms := 60) (c' := 2) (s' := 62) (As := [.int (60 : Int32)]) (st := [rf (kG X) 11, rf (kG X) 10]) e_Plan_init_11 ix_Plan_13 rfl rfl my_Row_init (by decide) rfl rfl (Nat.le_of_ble_eq_true rfl) rfl rfl ⟨Nat.le_trans (by decide) hrc, Nat.le_trans (by decide) hrs⟩ (fun _ h => c_Row_init_11 h) (fun M2 _ => ?_)
  refine g_putR (t' := 10) hI e_Plan_init_14 fr_Plan_16 kq_10 (by decide) fj_2_0 (show rkl[9]? = some (10, 0) from rfl) (fun v hv => by obtain ⟨a, rfl⟩ := hv; exact ⟨rfl, rfl⟩) rfl rfl ?_
  refine g_aload_n e_Plan_init_17 rfl ?_
  refine g_new (c' := 3) (s' := 64) (n' := 14) e_Plan_init_18 (show cls[4]? = some ("PressSheets$Row", tC4, 2) from rfl) ⟨w_201, w_166, w_7⟩ kq_13 yC4 pY4 dV4 (by decide +kernel) rfl rfl rfl ⟨Nat.le_trans (by decide) hrc, Nat.le_trans (by decide) hrs⟩ (fun M3 => ?_)
  refine g_dup e_Plan_init_21 rfl ?_
  refine g_bipush (x := (60 : Int32)) e_Plan_init_22 (by decide) ?_
  refine g_callI (mc := 1) (ms := 60) (c' := 4) (s' := 124) (As := [.int (60 : Int32)]) (st := [rf (kG X) 13, rf (kG X) 10]) e_Plan_init_24 ix_Plan_13 rfl rfl my_Row_init (by decide) rfl rfl (Nat.le_of_ble_eq_true rfl) rfl rfl ⟨Nat.le_trans (by decide) hrc, Nat.le_trans (by decide) hrs⟩ (fun _ h => c_Row_init_13 h) (fun M4 _ => ?_)
  refine g_putR (t' := 12) hI e_Plan_init_27 fr_Plan_20 kq_10 (by decide) fj_2_1 (show rkl[11]? = some (10, 1) from rfl) (fun v hv => by obtain ⟨a, rfl⟩ := hv; exact ⟨rfl, rfl⟩) rfl rfl ?_
  refine g_aload_n e_Plan_init_30 rfl ?_
  refine g_new (c' := 5) (s' := 126) (n' := 16) e_Plan_init_31 (show cls[4]? = some ("PressSheets$Row", tC4, 2) from rfl) ⟨w_201, w_166, w_7⟩ kq_15 yC4 pY4 dV4 (by decide +kernel) rfl rfl rfl ⟨Nat.le_trans (by decide) hrc, Nat.le_trans (by decide) hrs⟩ (fun M5 => ?_)
  refine g_dup e_Plan_init_34 rfl ?_
  refine g_bipush (x := (60 : Int32)) e_Plan_init_35 (by decide) ?_
  refine g_callI (mc := 1) (ms := 60) (c' := 6) (s' := 186) (As := [.int (60 : Int32)]) (st := [rf (kG X) 15, rf (kG X) 10]) e_Plan_init_37 ix_Plan_13 rfl rfl my_Row_init (by decide) rfl rfl (Nat.le_of_ble_eq_true rfl) rfl rfl ⟨Nat.le_trans (by decide) hrc, Nat.le_trans (by decide) hrs⟩ (fun _ h => c_Row_init_15 h) (fun M6 _ => ?_)
  refine g_putR (t' := 14) hI e_Plan_init_40 fr_Plan_23 kq_10 (by decide) fj_2_2 (show rkl[13]? = some (10, 2) from rfl) (fun v hv => by obtain ⟨a, rfl⟩ := hv; exact ⟨rfl, rfl⟩) rfl rfl ?_
  refine g_aload_n e_Plan_init_43 rfl ?_
  refine g_new (c' := 7) (s' := 188) (n' := 18) e_Plan_init_44 (show cls[4]? = some ("PressSheets$Row", tC4, 2) from rfl) ⟨w_201, w_166, w_7⟩ kq_17 yC4 pY4 dV4 (by decide +kernel) rfl rfl rfl ⟨Nat.le_trans (by decide) hrc, Nat.le_trans (by decide) hrs⟩ (fun M7 => ?_)
  refine g_dup e_Plan_init_47 rfl ?_
  refine g_iconst (x := (4 : Int32)) e_Plan_init_48 (by decide) ?_
  refine g_callI (mc := 1) (ms := 4) (c' := 8) (s' := 192) (As := [.int (4 : Int32)]) (st := [rf (kG X) 17, rf (kG X) 10]) e_Plan_init_49 ix_Plan_13 rfl rfl my_Row_init (by decide) rfl rfl (Nat.le_of_ble_eq_true rfl) rfl rfl ⟨Nat.le_trans (by decide) hrc, Nat.le_trans (by decide) hrs⟩ (fun _ h => c_Row_init_17 h) (fun M8 _ => ?_)
  refine g_putR (t' := 16) hI e_Plan_init_52 fr_Plan_26 kq_10 (by decide) fj_2_3 (show rkl[15]? = some (10, 3) from rfl) (fun v hv => by obtain ⟨a, rfl⟩ := hv; exact ⟨rfl, rfl⟩) rfl rfl ?_
  exact g_vret e_Plan_init_55 rfl
theorem c_Plan_init_10 {l : Launch} {G : KG} {M M' : Mm} (h : f_Plan_init_10 M = some ((), M')) : CT l G y_Plan_init md_Plan_init 8 192 [rf G 10] 11 (iniT 8) M none 19 (iniT 16) M' :=
  CT.ofI 0 (by decide) rfl (by show 1 ≤ 1; decide) rfl h (fun X _ hG hI h1 h2 => by subst hG; exact t_Plan_init_10 hI h1 h2)
theorem x_Plan_init_10 (M : Mm) : ∃ M', f_Plan_init_10 M = some ((), M') := by
  unfold f_Plan_init_10
  refine lT_ex ?_
  refine bD_ex (x_Row_init_11 _) (fun _ => ?_)
  refine lT_ex ?_
  refine bD_ex (x_Row_init_13 _) (fun _ => ?_)
  refine lT_ex ?_
  refine bD_ex (x_Row_init_15 _) (fun _ => ?_)
  refine lT_ex ?_
  refine bD_ex (x_Row_init_17 _) (fun _ => ?_)
  exact ⟨_, rfl⟩
def f_Row_init_19 (M : Mm) : Option (Unit × Mm) := (lT (zr M 20) fun M1 => some ((), M1))
set_option maxHeartbeats 4000000 in
set_option maxRecDepth 20000 in
theorem t_Row_init_19 {X : KX} {M : Mm} (hI : (kt X).name = "<init>") (hrc : 1 ≤ (kr X).cells) (hrs : 5 ≤ (kr X).slots) : GO X md_Row_init (QE X rvU (1, 5, 21, iniT 18)) 0 [some (rf (kG X) 19), some (.int (5 : Int32))] [] (0, 0, 20, iniT 17) M (f_Row_init_19 M) := by
  unfold f_Row_init_19
  refine g_aload_n e_Row_init_0 rfl ?_
  refine g_objI e_Row_init_1 ⟨w_170, w_20, w_21⟩ rfl ⟨by decide, Nat.le_of_ble_eq_true rfl⟩ ?_
  refine g_aload_n e_Row_init_4 rfl ?_
  refine g_iload_n e_Row_init_5 rfl ?_
  refine g_if_le' e_Row_init_6 (fun h => absurd h (by decide)) (fun _ => ?_)
  refine g_iload_n e_Row_init_9 rfl ?_
  refine g_goto e_Row_init_10 ?_
  refine g_newI (N := 5) (c' := 1) (s' := 5) (n' := 21) e_Row_init_14 w_183 kq_20 (by decide) (by decide) rfl rfl rfl ⟨Nat.le_trans (by decide) hrc, Nat.le_trans (by decide) hrs⟩ (fun M1 => ?_)
  refine g_putR (t' := 18) hI e_Row_init_16 fr_Row_9 kq_19 (by decide) fj_4_0 (show rkl[17]? = some (19, 0) from rfl) (fun v hv => by obtain ⟨a, rfl⟩ := hv; exact ⟨rfl, rfl⟩) rfl rfl ?_
  exact g_vret e_Row_init_19 rfl
theorem c_Row_init_19 {l : Launch} {G : KG} {M M' : Mm} (h : f_Row_init_19 M = some ((), M')) : CT l G y_Row_init md_Row_init 1 5 [rf G 19, .int (5 : Int32)] 20 (iniT 17) M none 21 (iniT 18) M' :=
  CT.ofI 0 (by decide) rfl (by show 2 ≤ 2; decide) rfl h (fun X _ hG hI h1 h2 => by subst hG; exact t_Row_init_19 hI h1 h2)
theorem x_Row_init_19 (M : Mm) : ∃ M', f_Row_init_19 M = some ((), M') := by
  unfold f_Row_init_19
  refine lT_ex ?_
  exact ⟨_, rfl⟩
def f_Row_init_21 (M : Mm) : Option (Unit × Mm) := (lT (zr M 22) fun M1 => some ((), M1))
set_option maxHeartbeats 4000000 in
set_option maxRecDepth 20000 in
theorem t_Row_init_21 {X : KX} {M : Mm} (hI : (kt X).name = "<init>") (hrc : 1 ≤ (kr X).cells) (hrs : 5 ≤ (kr X).slots) : GO X md_Row_init (QE X rvU (1, 5, 23, iniT 20)) 0 [some (rf (kG X) 21), some (.int (5 : Int32))] [] (0, 0, 22, iniT 19) M (f_Row_init_21 M) := by
  unfold f_Row_init_21
  refine g_aload_n e_Row_init_0 rfl ?_
  refine g_objI e_Row_init_1 ⟨w_170, w_20, w_21⟩ rfl ⟨by decide, Nat.le_of_ble_eq_true rfl⟩ ?_
  refine g_aload_n e_Row_init_4 rfl ?_
  refine g_iload_n e_Row_init_5 rfl ?_
  refine g_if_le' e_Row_init_6 (fun h => absurd h (by decide)) (fun _ => ?_)
  refine g_iload_n e_Row_init_9 rfl ?_
  refine g_goto e_Row_init_10 ?_
  refine g_newI (N := 5) (c' := 1) (s' := 5) (n' := 23) e_Row_init_14 w_183 kq_22 (by decide) (by decide) rfl rfl rfl ⟨Nat.le_trans (by decide) hrc, Nat.le_trans (by decide) hrs⟩ (fun M1 => ?_)
  refine g_putR (t' := 20) hI e_Row_init_16 fr_Row_9 kq_21 (by decide) fj_4_0 (show rkl[19]? = some (21, 0) from rfl) (fun v hv => by obtain ⟨a, rfl⟩ := hv; exact ⟨rfl, rfl⟩) rfl rfl ?_
  exact g_vret e_Row_init_19 rfl
theorem c_Row_init_21 {l : Launch} {G : KG} {M M' : Mm} (h : f_Row_init_21 M = some ((), M')) : CT l G y_Row_init md_Row_init 1 5 [rf G 21, .int (5 : Int32)] 22 (iniT 19) M none 23 (iniT 20) M' :=
  CT.ofI 0 (by decide) rfl (by show 2 ≤ 2; decide) rfl h (fun X _ hG hI h1 h2 => by subst hG; exact t_Row_init_21 hI h1 h2)
theorem x_Row_init_21 (M : Mm) : ∃ M', f_Row_init_21 M = some ((), M') := by
  unfold f_Row_init_21
  refine lT_ex ?_
  exact ⟨_, rfl⟩
def f_Row_init_23 (M : Mm) : Option (Unit × Mm) := (lT (zr M 24) fun M1 => some ((), M1))
set_option maxHeartbeats 4000000 in
set_option maxRecDepth 20000 in
theorem t_Row_init_23 {X : KX} {M : Mm} (hI : (kt X).name = "<init>") (hrc : 1 ≤ (kr X).cells) (hrs : 8 ≤ (kr X).slots) : GO X md_Row_init (QE X rvU (1, 8, 25, iniT 22)) 0 [some (rf (kG X) 23), some (.int (8 : Int32))] [] (0, 0, 24, iniT 21) M (f_Row_init_23 M) := by
  unfold f_Row_init_23
  refine g_aload_n e_Row_init_0 rfl ?_
  refine g_objI e_Row_init_1 ⟨w_170, w_20, w_21⟩ rfl ⟨by decide, Nat.le_of_ble_eq_true rfl⟩ ?_
  refine g_aload_n e_Row_init_4 rfl ?_
  refine g_iload_n e_Row_init_5 rfl ?_
  refine g_if_le' e_Row_init_6 (fun h => absurd h (by decide)) (fun _ => ?_)
  refine g_iload_n e_Row_init_9 rfl ?_
  refine g_goto e_Row_init_10 ?_
  refine g_newI (N := 8) (c' := 1) (s' := 8) (n' := 25) e_Row_init_14 w_183 kq_24 (by decide) (by decide) rfl rfl rfl ⟨Nat.le_trans (by decide) hrc, Nat.le_trans (by decide) hrs⟩ (fun M1 => ?_)
  refine g_putR (t' := 22) hI e_Row_init_16 fr_Row_9 kq_23 (by decide) fj_4_0 (show rkl[21]? = some (23, 0) from rfl) (fun v hv => by obtain ⟨a, rfl⟩ := hv; exact ⟨rfl, rfl⟩) rfl rfl ?_
  exact g_vret e_Row_init_19 rfl
theorem c_Row_init_23 {l : Launch} {G : KG} {M M' : Mm} (h : f_Row_init_23 M = some ((), M')) : CT l G y_Row_init md_Row_init 1 8 [rf G 23, .int (8 : Int32)] 24 (iniT 21) M none 25 (iniT 22) M' :=
  CT.ofI 0 (by decide) rfl (by show 2 ≤ 2; decide) rfl h (fun X _ hG hI h1 h2 => by subst hG; exact t_Row_init_23 hI h1 h2)
theorem x_Row_init_23 (M : Mm) : ∃ M', f_Row_init_23 M = some ((), M') := by
  unfold f_Row_init_23
  refine lT_ex ?_
  exact ⟨_, rfl⟩
def f_Row_init_25 (M : Mm) : Option (Unit × Mm) := (lT (zr M 26) fun M1 => some ((), M1))
set_option maxHeartbeats 4000000 in
set_option maxRecDepth 20000 in
theorem t_Row_init_25 {X : KX} {M : Mm} (hI : (kt X).name = "<init>") (hrc : 1 ≤ (kr X).cells) (hrs : 8 ≤ (kr X).slots) : GO X md_Row_init (QE X rvU (1, 8, 27, iniT 24)) 0 [some (rf (kG X) 25), some (.int (8 : Int32))] [] (0, 0, 26, iniT 23) M (f_Row_init_25 M) := by
  unfold f_Row_init_25
  refine g_aload_n e_Row_init_0 rfl ?_
  refine g_objI e_Row_init_1 ⟨w_170, w_20, w_21⟩ rfl ⟨by decide, Nat.le_of_ble_eq_true rfl⟩ ?_
  refine g_aload_n e_Row_init_4 rfl ?_
  refine g_iload_n e_Row_init_5 rfl ?_
  refine g_if_le' e_Row_init_6 (fun h => absurd h (by decide)) (fun _ => ?_)
  refine g_iload_n e_Row_init_9 rfl ?_
  refine g_goto e_Row_init_10 ?_
  refine g_newI (N := 8) (c' := 1) (s' := 8) (n' := 27) e_Row_init_14 w_183 kq_26 (by decide) (by decide) rfl rfl rfl ⟨Nat.le_trans (by decide) hrc, Nat.le_trans (by decide) hrs⟩ (fun M1 => ?_)
  refine g_putR (t' := 24) hI e_Row_init_16 fr_Row_9 kq_25 (by decide) fj_4_0 (show rkl[23]? = some (25, 0) from rfl) (fun v hv => by obtain ⟨a, rfl⟩ := hv; exact ⟨rfl, rfl⟩) rfl rfl ?_
  exact g_vret e_Row_init_19 rfl
theorem c_Row_init_25 {l : Launch} {G : KG} {M M' : Mm} (h : f_Row_init_25 M = some ((), M')) : CT l G y_Row_init md_Row_init 1 8 [rf G 25, .int (8 : Int32)] 26 (iniT 23) M none 27 (iniT 24) M' :=
  CT.ofI 0 (by decide) rfl (by show 2 ≤ 2; decide) rfl h (fun X _ hG hI h1 h2 => by subst hG; exact t_Row_init_25 hI h1 h2)
theorem x_Row_init_25 (M : Mm) : ∃ M', f_Row_init_25 M = some ((), M') := by
  unfold f_Row_init_25
  refine lT_ex ?_
  exact ⟨_, rfl⟩
def f_State_init_1 (M : Mm) : Option (Unit × Mm) := (lT (zr M 2) fun M1 => (bD (f_Job_init_2 M1) fun _ M2 => (lT (zr M2 5) fun M3 => (bD (f_Press_init_5 M3) fun _ M4 => (lT (zr M4 10) fun M5 => (bD (f_Plan_init_10 M5) fun _ M6 => (lT (zr M6 19) fun M7 => (bD (f_Row_init_19 M7) fun _ M8 => (lT (zr M8 21) fun M9 => (bD (f_Row_init_21 M9) fun _ M10 => (lT (zr M10 23) fun M11 => (bD (f_Row_init_23 M11) fun _ M12 => (lT (zr M12 25) fun M13 => (bD (f_Row_init_25 M13) fun _ M14 => some ((), M14)))))))))))))))
set_option maxHeartbeats 4000000 in
set_option maxRecDepth 20000 in
theorem t_State_init_1 {X : KX} {M : Mm} (hI : (kt X).name = "<init>") (hrc : 25 ≤ (kr X).cells) (hrs : 362 ≤ (kr X).slots) : GO X md_State_init (QE X rvU (25, 362, 27, iniT 25)) 0 [some (rf (kG X) 1)] [] (0, 0, 2, iniT 0) M (f_State_init_1 M) := by
  unfold f_State_init_1
  refine g_aload_n e_State_init_0 rfl ?_
  refine g_objI e_State_init_1 ⟨w_27, w_20, w_21⟩ rfl ⟨by decide, Nat.le_of_ble_eq_true rfl⟩ ?_
  refine g_aload_n e_State_init_4 rfl ?_
  refine g_new (c' := 1) (s' := 11) (n' := 3) e_State_init_5 (show cls[0]? = some ("PressSheets$Job", tC0, 11) from rfl) ⟨w_28, w_29, w_3⟩ kq_2 yC0 pY0 dV0 (by decide +kernel) rfl rfl rfl ⟨Nat.le_trans (by decide) hrc, Nat.le_trans (by decide) hrs⟩ (fun M1 => ?_)
  refine g_dup e_State_init_8 rfl ?_
  refine g_callI (mc := 2) (ms := 11) (c' := 3) (s' := 22) (As := []) (st := [rf (kG X) 2, rf (kG X) 1]) e_State_init_9 ix_State_11 rfl rfl my_Job_init (by decide) rfl rfl (Nat.le_of_ble_eq_true rfl) rfl rfl ⟨Nat.le_trans (by decide) hrc, Nat.le_trans (by decide) hrs⟩ (fun _ h => c_Job_init_2 h) (fun M2 _ => ?_)
  refine g_putR (t' := 3) hI e_State_init_12 fr_State_12 kq_1 (by decide) fj_6_0 (show rkl[2]? = some (1, 0) from rfl) (fun v hv => by obtain ⟨a, rfl⟩ := hv; exact ⟨rfl, rfl⟩) rfl rfl ?_
  refine g_aload_n e_State_init_15 rfl ?_
  refine g_new (c' := 4) (s' := 24) (n' := 6) e_State_init_16 (show cls[3]? = some ("PressSheets$Press", tC3, 2) from rfl) ⟨w_159, w_160, w_6⟩ kq_5 yC3 pY3 dV3 (by decide +kernel) rfl rfl rfl ⟨Nat.le_trans (by decide) hrc, Nat.le_trans (by decide) hrs⟩ (fun M3 => ?_)
  refine g_dup e_State_init_19 rfl ?_
  refine g_callIN (mc := 4) (ms := 108) (c' := 8) (s' := 132) (As := []) (st := [rf (kG X) 5, rf (kG X) 1]) e_State_init_20 in_State_20 rfl rfl my_Press_init (by decide) rfl rfl (Nat.le_of_ble_eq_true rfl) rfl rfl ⟨Nat.le_trans (by decide) hrc, Nat.le_trans (by decide) hrs⟩ (fun _ h => c_Press_init_5 h) (fun M4 _ => ?_)
  refine g_putR (t' := 8) hI e_State_init_23 fr_State_21 kq_1 (by decide) fj_6_1 (show rkl[7]? = some (1, 1) from rfl) (fun v hv => by obtain ⟨a, rfl⟩ := hv; exact ⟨rfl, rfl⟩) rfl rfl ?_
  refine g_aload_n e_State_init_26 rfl ?_
  refine g_new (c' := 9) (s' := 136) (n' := 11) e_State_init_27 (show cls[2]? = some ("PressSheets$Plan", tC2, 4) from rfl) ⟨w_195, w_196, w_8⟩ kq_10 yC2 pY2 dV2 (by decide +kernel) rfl rfl rfl ⟨Nat.le_trans (by decide) hrc, Nat.le_trans (by decide) hrs⟩ (fun M5 => ?_)
  refine g_dup e_State_init_30 rfl ?_
  refine g_callIN (mc := 8) (ms := 192) (c' := 17) (s' := 328) (As := []) (st := [rf (kG X) 10, rf (kG X) 1]) e_State_init_31 in_State_27 rfl rfl my_Plan_init (by decide) rfl rfl (Nat.le_of_ble_eq_true rfl) rfl rfl ⟨Nat.le_trans (by decide) hrc, Nat.le_trans (by decide) hrs⟩ (fun _ h => c_Plan_init_10 h) (fun M6 _ => ?_)
  refine g_putR (t' := 17) hI e_State_init_34 fr_State_28 kq_1 (by decide) fj_6_2 (show rkl[16]? = some (1, 2) from rfl) (fun v hv => by obtain ⟨a, rfl⟩ := hv; exact ⟨rfl, rfl⟩) rfl rfl ?_
  refine g_aload_n e_State_init_37 rfl ?_
  refine g_new (c' := 18) (s' := 330) (n' := 20) e_State_init_38 (show cls[4]? = some ("PressSheets$Row", tC4, 2) from rfl) ⟨w_220, w_166, w_7⟩ kq_19 yC4 pY4 dV4 (by decide +kernel) rfl rfl rfl ⟨Nat.le_trans (by decide) hrc, Nat.le_trans (by decide) hrs⟩ (fun M7 => ?_)
  refine g_dup e_State_init_41 rfl ?_
  refine g_iconst (x := (5 : Int32)) e_State_init_42 (by decide) ?_
  refine g_callI (mc := 1) (ms := 5) (c' := 19) (s' := 335) (As := [.int (5 : Int32)]) (st := [rf (kG X) 19, rf (kG X) 1]) e_State_init_43 ix_State_34 rfl rfl my_Row_init (by decide) rfl rfl (Nat.le_of_ble_eq_true rfl) rfl rfl ⟨Nat.le_trans (by decide) hrc, Nat.le_trans (by decide) hrs⟩ (fun _ h => c_Row_init_19 h) (fun M8 _ => ?_)
  refine g_putR (t' := 19) hI e_State_init_46 fr_State_37 kq_1 (by decide) fj_6_3 (show rkl[18]? = some (1, 3) from rfl) (fun v hv => by obtain ⟨a, rfl⟩ := hv; exact ⟨rfl, rfl⟩) rfl rfl ?_
  refine g_aload_n e_State_init_49 rfl ?_
  refine g_new (c' := 20) (s' := 337) (n' := 22) e_State_init_50 (show cls[4]? = some ("PressSheets$Row", tC4, 2) from rfl) ⟨w_220, w_166, w_7⟩ kq_21 yC4 pY4 dV4 (by decide +kernel) rfl rfl rfl ⟨Nat.le_trans (by decide) hrc, Nat.le_trans (by decide) hrs⟩ (fun M9 => ?_)
  refine g_dup e_State_init_53 rfl ?_
  refine g_iconst (x := (5 : Int32)) e_State_init_54 (by decide) ?_
  refine g_callI (mc := 1) (ms := 5) (c' := 21) (s' := 342) (As := [.int (5 : Int32)]) (st := [rf (kG X) 21, rf (kG X) 1]) e_State_init_55 ix_State_34 rfl rfl my_Row_init (by decide) rfl rfl (Nat.le_of_ble_eq_true rfl) rfl rfl ⟨Nat.le_trans (by decide) hrc, Nat.le_trans (by decide) hrs⟩ (fun _ h => c_Row_init_21 h) (fun M10 _ => ?_)
  refine g_putR (t' := 21) hI e_State_init_58 fr_State_41 kq_1 (by decide) fj_6_4 (show rkl[20]? = some (1, 4) from rfl) (fun v hv => by obtain ⟨a, rfl⟩ := hv; exact ⟨rfl, rfl⟩) rfl rfl ?_
  refine g_aload_n e_State_init_61 rfl ?_
  refine g_new (c' := 22) (s' := 344) (n' := 24) e_State_init_62 (show cls[4]? = some ("PressSheets$Row", tC4, 2) from rfl) ⟨w_220, w_166, w_7⟩ kq_23 yC4 pY4 dV4 (by decide +kernel) rfl rfl rfl ⟨Nat.le_trans (by decide) hrc, Nat.le_trans (by decide) hrs⟩ (fun M11 => ?_)
  refine g_dup e_State_init_65 rfl ?_
  refine g_bipush (x := (8 : Int32)) e_State_init_66 (by decide) ?_
  refine g_callI (mc := 1) (ms := 8) (c' := 23) (s' := 352) (As := [.int (8 : Int32)]) (st := [rf (kG X) 23, rf (kG X) 1]) e_State_init_68 ix_State_34 rfl rfl my_Row_init (by decide) rfl rfl (Nat.le_of_ble_eq_true rfl) rfl rfl ⟨Nat.le_trans (by decide) hrc, Nat.le_trans (by decide) hrs⟩ (fun _ h => c_Row_init_23 h) (fun M12 _ => ?_)
  refine g_putR (t' := 23) hI e_State_init_71 fr_State_44 kq_1 (by decide) fj_6_5 (show rkl[22]? = some (1, 5) from rfl) (fun v hv => by obtain ⟨a, rfl⟩ := hv; exact ⟨rfl, rfl⟩) rfl rfl ?_
  refine g_aload_n e_State_init_74 rfl ?_
  refine g_new (c' := 24) (s' := 354) (n' := 26) e_State_init_75 (show cls[4]? = some ("PressSheets$Row", tC4, 2) from rfl) ⟨w_220, w_166, w_7⟩ kq_25 yC4 pY4 dV4 (by decide +kernel) rfl rfl rfl ⟨Nat.le_trans (by decide) hrc, Nat.le_trans (by decide) hrs⟩ (fun M13 => ?_)
  refine g_dup e_State_init_78 rfl ?_
  refine g_bipush (x := (8 : Int32)) e_State_init_79 (by decide) ?_
  refine g_callI (mc := 1) (ms := 8) (c' := 25) (s' := 362) (As := [.int (8 : Int32)]) (st := [rf (kG X) 25, rf (kG X) 1]) e_State_init_81 ix_State_34 rfl rfl my_Row_init (by decide) rfl rfl (Nat.le_of_ble_eq_true rfl) rfl rfl ⟨Nat.le_trans (by decide) hrc, Nat.le_trans (by decide) hrs⟩ (fun _ h => c_Row_init_25 h) (fun M14 _ => ?_)
  refine g_putR (t' := 25) hI e_State_init_84 fr_State_47 kq_1 (by decide) fj_6_6 (show rkl[24]? = some (1, 6) from rfl) (fun v hv => by obtain ⟨a, rfl⟩ := hv; exact ⟨rfl, rfl⟩) rfl rfl ?_
  exact g_vret e_State_init_87 rfl
theorem c_State_init_1 {l : Launch} {G : KG} {M M' : Mm} (h : f_State_init_1 M = some ((), M')) : CT l G y_State_init md_State_init 25 362 [rf G 1] 2 (iniT 0) M none 27 (iniT 25) M' :=
  CT.ofI 0 (by decide) rfl (by show 1 ≤ 1; decide) rfl h (fun X _ hG hI h1 h2 => by subst hG; exact t_State_init_1 hI h1 h2)
theorem x_State_init_1 (M : Mm) : ∃ M', f_State_init_1 M = some ((), M') := by
  unfold f_State_init_1
  refine lT_ex ?_
  refine bD_ex (x_Job_init_2 _) (fun _ => ?_)
  refine lT_ex ?_
  refine bD_ex (x_Press_init_5 _) (fun _ => ?_)
  refine lT_ex ?_
  refine bD_ex (x_Plan_init_10 _) (fun _ => ?_)
  refine lT_ex ?_
  refine bD_ex (x_Row_init_19 _) (fun _ => ?_)
  refine lT_ex ?_
  refine bD_ex (x_Row_init_21 _) (fun _ => ?_)
  refine lT_ex ?_
  refine bD_ex (x_Row_init_23 _) (fun _ => ?_)
  refine lT_ex ?_
  refine bD_ex (x_Row_init_25 _) (fun _ => ?_)
  exact ⟨_, rfl⟩
def f_Leaf_init_29 (M : Mm) : Option (Unit × Mm) := some ((), M)
set_option maxHeartbeats 4000000 in
set_option maxRecDepth 20000 in
theorem t_Leaf_init_29 {X : KX} {M : Mm} (hI : (kt X).name = "<init>") (hrc : 0 ≤ (kr X).cells) (hrs : 0 ≤ (kr X).slots) : GO X md_Leaf_init (QE X rvU (0, 0, 30, iniT 26)) 0 [some (rf (kG X) 29)] [] (0, 0, 30, iniT 26) M (f_Leaf_init_29 M) := by
  unfold f_Leaf_init_29
  refine g_aload_n e_Leaf_init_0 rfl ?_
  refine g_objI e_Leaf_init_1 ⟨w_39, w_20, w_21⟩ rfl ⟨by decide, Nat.le_of_ble_eq_true rfl⟩ ?_
  exact g_vret e_Leaf_init_4 rfl
theorem c_Leaf_init_29 {l : Launch} {G : KG} {M M' : Mm} (h : f_Leaf_init_29 M = some ((), M')) : CT l G y_Leaf_init md_Leaf_init 0 0 [rf G 29] 30 (iniT 26) M none 30 (iniT 26) M' :=
  CT.ofI 0 (by decide) rfl (by show 1 ≤ 1; decide) rfl h (fun X _ hG hI h1 h2 => by subst hG; exact t_Leaf_init_29 hI h1 h2)
theorem x_Leaf_init_29 (M : Mm) : ∃ M', f_Leaf_init_29 M = some ((), M') := by
  unfold f_Leaf_init_29
  exact ⟨_, rfl⟩
def f_Spot_init_30 (M : Mm) : Option (Unit × Mm) := some ((), M)
set_option maxHeartbeats 4000000 in
set_option maxRecDepth 20000 in
theorem t_Spot_init_30 {X : KX} {M : Mm} (hI : (kt X).name = "<init>") (hrc : 0 ≤ (kr X).cells) (hrs : 0 ≤ (kr X).slots) : GO X md_Spot_init (QE X rvU (0, 0, 31, iniT 27)) 0 [some (rf (kG X) 30)] [] (0, 0, 31, iniT 27) M (f_Spot_init_30 M) := by
  unfold f_Spot_init_30
  refine g_aload_n e_Spot_init_0 rfl ?_
  refine g_objI e_Spot_init_1 ⟨w_69, w_20, w_21⟩ rfl ⟨by decide, Nat.le_of_ble_eq_true rfl⟩ ?_
  exact g_vret e_Spot_init_4 rfl
theorem c_Spot_init_30 {l : Launch} {G : KG} {M M' : Mm} (h : f_Spot_init_30 M = some ((), M')) : CT l G y_Spot_init md_Spot_init 0 0 [rf G 30] 31 (iniT 27) M none 31 (iniT 27) M' :=
  CT.ofI 0 (by decide) rfl (by show 1 ≤ 1; decide) rfl h (fun X _ hG hI h1 h2 => by subst hG; exact t_Spot_init_30 hI h1 h2)
theorem x_Spot_init_30 (M : Mm) : ∃ M', f_Spot_init_30 M = some ((), M') := by
  unfold f_Spot_init_30
  exact ⟨_, rfl⟩
def f_Job_init_28 (M : Mm) : Option (Unit × Mm) := (lT (wI M 28 4 (4 : Int32)) fun M1 => (lT (wI M1 28 7 (100 : Int32)) fun M2 => (lT (wI M2 28 8 (1 : Int32)) fun M3 => (lT (zr M3 29) fun M4 => (bD (f_Leaf_init_29 M4) fun _ M5 => (lT (zr M5 30) fun M6 => (bD (f_Spot_init_30 M6) fun _ M7 => (bD (f_Job_foldBy 28 (1 : Int32) (0 : Int32) M7) fun _ M8 => some ((), M8)))))))))
set_option maxHeartbeats 4000000 in
set_option maxRecDepth 20000 in
theorem t_Job_init_28 {X : KX} {M : Mm} (hI : (kt X).name = "<init>") (hrc : 2 ≤ (kr X).cells) (hrs : 11 ≤ (kr X).slots) : GO X md_Job_init (QE X rvU (2, 11, 31, iniT 28)) 0 [some (rf (kG X) 28)] [] (0, 0, 29, iniT 26) M (f_Job_init_28 M) := by
  unfold f_Job_init_28
  refine g_aload_n e_Job_init_0 rfl ?_
  refine g_objI e_Job_init_1 ⟨w_33, w_20, w_21⟩ rfl ⟨by decide, Nat.le_of_ble_eq_true rfl⟩ ?_
  refine g_aload_n e_Job_init_4 rfl ?_
  refine g_iconst (x := (4 : Int32)) e_Job_init_5 (by decide) ?_
  refine g_putL e_Job_init_6 fp_Job_9_ kq_28 (by decide) fj_0_4 rfl rfl (fun M1 => ?_)
  refine g_aload_n e_Job_init_9 rfl ?_
  refine g_bipush (x := (100 : Int32)) e_Job_init_10 (by decide) ?_
  refine g_putL e_Job_init_12 fp_Job_15_ kq_28 (by decide) fj_0_7 rfl rfl (fun M2 => ?_)
  refine g_aload_n e_Job_init_15 rfl ?_
  refine g_iconst (x := (1 : Int32)) e_Job_init_16 (by decide) ?_
  refine g_putL e_Job_init_17 fp_Job_18_ kq_28 (by decide) fj_0_8 rfl rfl (fun M3 => ?_)
  refine g_aload_n e_Job_init_20 rfl ?_
  refine g_new (c' := 1) (s' := 5) (n' := 30) e_Job_init_21 (show cls[1]? = some ("PressSheets$Leaf", tC1, 5) from rfl) ⟨w_34, w_35, w_4⟩ kq_29 yC1 pY1 dV1 (by decide +kernel) rfl rfl rfl ⟨Nat.le_trans (by decide) hrc, Nat.le_trans (by decide) hrs⟩ (fun M4 => ?_)
  refine g_dup e_Job_init_24 rfl ?_
  refine g_callIN (mc := 0) (ms := 0) (c' := 1) (s' := 5) (As := []) (st := [rf (kG X) 29, rf (kG X) 28]) e_Job_init_25 in_Job_23 rfl rfl my_Leaf_init (by decide) rfl rfl (Nat.le_of_ble_eq_true rfl) rfl rfl ⟨Nat.le_trans (by decide) hrc, Nat.le_trans (by decide) hrs⟩ (fun _ h => c_Leaf_init_29 h) (fun M5 _ => ?_)
  refine g_putR (t' := 27) hI e_Job_init_28 fr_Job_24 kq_28 (by decide) fj_0_9 (show rkl[26]? = some (28, 9) from rfl) (fun v hv => by obtain ⟨a, rfl⟩ := hv; exact ⟨rfl, rfl⟩) rfl rfl ?_
  refine g_aload_n e_Job_init_31 rfl ?_
  refine g_new (c' := 2) (s' := 11) (n' := 31) e_Job_init_32 (show cls[5]? = some ("PressSheets$Spot", tC5, 6) from rfl) ⟨w_64, w_65, w_5⟩ kq_30 yC5 pY5 dV5 (by decide +kernel) rfl rfl rfl ⟨Nat.le_trans (by decide) hrc, Nat.le_trans (by decide) hrs⟩ (fun M6 => ?_)
  refine g_dup e_Job_init_35 rfl ?_
  refine g_callIN (mc := 0) (ms := 0) (c' := 2) (s' := 11) (As := []) (st := [rf (kG X) 30, rf (kG X) 28]) e_Job_init_36 in_Job_30 rfl rfl my_Spot_init (by decide) rfl rfl (Nat.le_of_ble_eq_true rfl) rfl rfl ⟨Nat.le_trans (by decide) hrc, Nat.le_trans (by decide) hrs⟩ (fun _ h => c_Spot_init_30 h) (fun M7 _ => ?_)
  refine g_putR (t' := 28) hI e_Job_init_39 fr_Job_31 kq_28 (by decide) fj_0_10 (show rkl[27]? = some (28, 10) from rfl) (fun v hv => by obtain ⟨a, rfl⟩ := hv; exact ⟨rfl, rfl⟩) rfl rfl ?_
  refine g_aload_n e_Job_init_42 rfl ?_
  refine g_iconst (x := (1 : Int32)) e_Job_init_43 (by decide) ?_
  refine g_iconst (x := (0 : Int32)) e_Job_init_44 (by decide) ?_
  refine g_callV (rv := rvU) (As := [.int (1 : Int32), .int (0 : Int32)]) (st := []) e_Job_init_45 mv_Job_35 my_Job_foldBy (by decide) rfl rfl kq_28 (by decide) rfl (Nat.le_of_ble_eq_true rfl) rfl (fun r M1 h => c_Job_foldBy (Z := (2, 11, 31, iniT 28)) (by decide) kq_28 h) (fun _ M8 _ => ?_)
  exact g_vret e_Job_init_48 rfl
theorem c_Job_init_28 {l : Launch} {G : KG} {M M' : Mm} (h : f_Job_init_28 M = some ((), M')) : CT l G y_Job_init md_Job_init 2 11 [rf G 28] 29 (iniT 26) M none 31 (iniT 28) M' :=
  CT.ofI 0 (by decide) rfl (by show 1 ≤ 1; decide) rfl h (fun X _ hG hI h1 h2 => by subst hG; exact t_Job_init_28 hI h1 h2)
theorem x_Job_init_28 (M : Mm) : ∃ M', f_Job_init_28 M = some ((), M') := by
  unfold f_Job_init_28
  refine lT_ex ?_
  refine lT_ex ?_
  refine lT_ex ?_
  refine lT_ex ?_
  refine bD_ex (x_Leaf_init_29 _) (fun _ => ?_)
  refine lT_ex ?_
  refine bD_ex (x_Spot_init_30 _) (fun _ => ?_)
  refine bD_ex (fbI 28 _) (fun _ => ?_)
  exact ⟨_, rfl⟩
def f_Row_init_32 (M : Mm) : Option (Unit × Mm) := (lT (zr M 33) fun M1 => some ((), M1))
set_option maxHeartbeats 4000000 in
set_option maxRecDepth 20000 in
theorem t_Row_init_32 {X : KX} {M : Mm} (hI : (kt X).name = "<init>") (hrc : 1 ≤ (kr X).cells) (hrs : 40 ≤ (kr X).slots) : GO X md_Row_init (QE X rvU (1, 40, 34, iniT 30)) 0 [some (rf (kG X) 32), some (.int (40 : Int32))] [] (0, 0, 33, iniT 29) M (f_Row_init_32 M) := by
  unfold f_Row_init_32
  refine g_aload_n e_Row_init_0 rfl ?_
  refine g_objI e_Row_init_1 ⟨w_170, w_20, w_21⟩ rfl ⟨by decide, Nat.le_of_ble_eq_true rfl⟩ ?_
  refine g_aload_n e_Row_init_4 rfl ?_
  refine g_iload_n e_Row_init_5 rfl ?_
  refine g_if_le' e_Row_init_6 (fun h => absurd h (by decide)) (fun _ => ?_)
  refine g_iload_n e_Row_init_9 rfl ?_
  refine g_goto e_Row_init_10 ?_
  refine g_newI (N := 40) (c' := 1) (s' := 40) (n' := 34) e_Row_init_14 w_183 kq_33 (by decide) (by decide) rfl rfl rfl ⟨Nat.le_trans (by decide) hrc, Nat.le_trans (by decide) hrs⟩ (fun M1 => ?_)
  refine g_putR (t' := 30) hI e_Row_init_16 fr_Row_9 kq_32 (by decide) fj_4_0 (show rkl[29]? = some (32, 0) from rfl) (fun v hv => by obtain ⟨a, rfl⟩ := hv; exact ⟨rfl, rfl⟩) rfl rfl ?_
  exact g_vret e_Row_init_19 rfl
theorem c_Row_init_32 {l : Launch} {G : KG} {M M' : Mm} (h : f_Row_init_32 M = some ((), M')) : CT l G y_Row_init md_Row_init 1 40 [rf G 32, .int (40 : Int32)] 33 (iniT 29) M none 34 (iniT 30) M' :=
  CT.ofI 0 (by decide) rfl (by show 2 ≤ 2; decide) rfl h (fun X _ hG hI h1 h2 => by subst hG; exact t_Row_init_32 hI h1 h2)
theorem x_Row_init_32 (M : Mm) : ∃ M', f_Row_init_32 M = some ((), M') := by
  unfold f_Row_init_32
  refine lT_ex ?_
  exact ⟨_, rfl⟩
def f_Row_init_34 (M : Mm) : Option (Unit × Mm) := (lT (zr M 35) fun M1 => some ((), M1))
set_option maxHeartbeats 4000000 in
set_option maxRecDepth 20000 in
theorem t_Row_init_34 {X : KX} {M : Mm} (hI : (kt X).name = "<init>") (hrc : 1 ≤ (kr X).cells) (hrs : 64 ≤ (kr X).slots) : GO X md_Row_init (QE X rvU (1, 64, 36, iniT 32)) 0 [some (rf (kG X) 34), some (.int (64 : Int32))] [] (0, 0, 35, iniT 31) M (f_Row_init_34 M) := by
  unfold f_Row_init_34
  refine g_aload_n e_Row_init_0 rfl ?_
  refine g_objI e_Row_init_1 ⟨w_170, w_20, w_21⟩ rfl ⟨by decide, Nat.le_of_ble_eq_true rfl⟩ ?_
  refine g_aload_n e_Row_init_4 rfl ?_
  refine g_iload_n e_Row_init_5 rfl ?_
  refine g_if_le' e_Row_init_6 (fun h => absurd h (by decide)) (fun _ => ?_)
  refine g_iload_n e_Row_init_9 rfl ?_
  refine g_goto e_Row_init_10 ?_
  refine g_newI (N := 64) (c' := 1) (s' := 64) (n' := 36) e_Row_init_14 w_183 kq_35 (by decide) (by decide) rfl rfl rfl ⟨Nat.le_trans (by decide) hrc, Nat.le_trans (by decide) hrs⟩ (fun M1 => ?_)
  refine g_putR (t' := 32) hI e_Row_init_16 fr_Row_9 kq_34 (by decide) fj_4_0 (show rkl[31]? = some (34, 0) from rfl) (fun v hv => by obtain ⟨a, rfl⟩ := hv; exact ⟨rfl, rfl⟩) rfl rfl ?_
  exact g_vret e_Row_init_19 rfl
theorem c_Row_init_34 {l : Launch} {G : KG} {M M' : Mm} (h : f_Row_init_34 M = some ((), M')) : CT l G y_Row_init md_Row_init 1 64 [rf G 34, .int (64 : Int32)] 35 (iniT 31) M none 36 (iniT 32) M' :=
  CT.ofI 0 (by decide) rfl (by show 2 ≤ 2; decide) rfl h (fun X _ hG hI h1 h2 => by subst hG; exact t_Row_init_34 hI h1 h2)
theorem x_Row_init_34 (M : Mm) : ∃ M', f_Row_init_34 M = some ((), M') := by
  unfold f_Row_init_34
  refine lT_ex ?_
  exact ⟨_, rfl⟩
def f_Press_init_31 (M : Mm) : Option (Unit × Mm) := (lT (zr M 32) fun M1 => (bD (f_Row_init_32 M1) fun _ M2 => (lT (zr M2 34) fun M3 => (bD (f_Row_init_34 M3) fun _ M4 => some ((), M4)))))
set_option maxHeartbeats 4000000 in
set_option maxRecDepth 20000 in
theorem t_Press_init_31 {X : KX} {M : Mm} (hI : (kt X).name = "<init>") (hrc : 4 ≤ (kr X).cells) (hrs : 108 ≤ (kr X).slots) : GO X md_Press_init (QE X rvU (4, 108, 36, iniT 33)) 0 [some (rf (kG X) 31)] [] (0, 0, 32, iniT 29) M (f_Press_init_31 M) := by
  unfold f_Press_init_31
  refine g_aload_n e_Press_init_0 rfl ?_
  refine g_objI e_Press_init_1 ⟨w_164, w_20, w_21⟩ rfl ⟨by decide, Nat.le_of_ble_eq_true rfl⟩ ?_
  refine g_aload_n e_Press_init_4 rfl ?_
  refine g_new (c' := 1) (s' := 2) (n' := 33) e_Press_init_5 (show cls[4]? = some ("PressSheets$Row", tC4, 2) from rfl) ⟨w_165, w_166, w_7⟩ kq_32 yC4 pY4 dV4 (by decide +kernel) rfl rfl rfl ⟨Nat.le_trans (by decide) hrc, Nat.le_trans (by decide) hrs⟩ (fun M1 => ?_)
  refine g_dup e_Press_init_8 rfl ?_
  refine g_bipush (x := (40 : Int32)) e_Press_init_9 (by decide) ?_
  refine g_callI (mc := 1) (ms := 40) (c' := 2) (s' := 42) (As := [.int (40 : Int32)]) (st := [rf (kG X) 32, rf (kG X) 31]) e_Press_init_11 ix_Press_11 rfl rfl my_Row_init (by decide) rfl rfl (Nat.le_of_ble_eq_true rfl) rfl rfl ⟨Nat.le_trans (by decide) hrc, Nat.le_trans (by decide) hrs⟩ (fun _ h => c_Row_init_32 h) (fun M2 _ => ?_)
  refine g_putR (t' := 31) hI e_Press_init_14 fr_Press_14 kq_31 (by decide) fj_3_0 (show rkl[30]? = some (31, 0) from rfl) (fun v hv => by obtain ⟨a, rfl⟩ := hv; exact ⟨rfl, rfl⟩) rfl rfl ?_
  refine g_aload_n e_Press_init_17 rfl ?_
  refine g_new (c' := 3) (s' := 44) (n' := 35) e_Press_init_18 (show cls[4]? = some ("PressSheets$Row", tC4, 2) from rfl) ⟨w_165, w_166, w_7⟩ kq_34 yC4 pY4 dV4 (by decide +kernel) rfl rfl rfl ⟨Nat.le_trans (by decide) hrc, Nat.le_trans (by decide) hrs⟩ (fun M3 => ?_)
  refine g_dup e_Press_init_21 rfl ?_
  refine g_bipush (x := (64 : Int32)) e_Press_init_22 (by decide) ?_
  refine g_callI (mc := 1) (ms := 64) (c' := 4) (s' := 108) (As := [.int (64 : Int32)]) (st := [rf (kG X) 34, rf (kG X) 31]) e_Press_init_24 ix_Press_11 rfl rfl my_Row_init (by decide) rfl rfl (Nat.le_of_ble_eq_true rfl) rfl rfl ⟨Nat.le_trans (by decide) hrc, Nat.le_trans (by decide) hrs⟩ (fun _ h => c_Row_init_34 h) (fun M4 _ => ?_)
  refine g_putR (t' := 33) hI e_Press_init_27 fr_Press_20 kq_31 (by decide) fj_3_1 (show rkl[32]? = some (31, 1) from rfl) (fun v hv => by obtain ⟨a, rfl⟩ := hv; exact ⟨rfl, rfl⟩) rfl rfl ?_
  exact g_vret e_Press_init_30 rfl
theorem c_Press_init_31 {l : Launch} {G : KG} {M M' : Mm} (h : f_Press_init_31 M = some ((), M')) : CT l G y_Press_init md_Press_init 4 108 [rf G 31] 32 (iniT 29) M none 36 (iniT 33) M' :=
  CT.ofI 0 (by decide) rfl (by show 1 ≤ 1; decide) rfl h (fun X _ hG hI h1 h2 => by subst hG; exact t_Press_init_31 hI h1 h2)
theorem x_Press_init_31 (M : Mm) : ∃ M', f_Press_init_31 M = some ((), M') := by
  unfold f_Press_init_31
  refine lT_ex ?_
  refine bD_ex (x_Row_init_32 _) (fun _ => ?_)
  refine lT_ex ?_
  refine bD_ex (x_Row_init_34 _) (fun _ => ?_)
  exact ⟨_, rfl⟩
def f_Row_init_37 (M : Mm) : Option (Unit × Mm) := (lT (zr M 38) fun M1 => some ((), M1))
set_option maxHeartbeats 4000000 in
set_option maxRecDepth 20000 in
theorem t_Row_init_37 {X : KX} {M : Mm} (hI : (kt X).name = "<init>") (hrc : 1 ≤ (kr X).cells) (hrs : 60 ≤ (kr X).slots) : GO X md_Row_init (QE X rvU (1, 60, 39, iniT 35)) 0 [some (rf (kG X) 37), some (.int (60 : Int32))] [] (0, 0, 38, iniT 34) M (f_Row_init_37 M) := by
  unfold f_Row_init_37
  refine g_aload_n e_Row_init_0 rfl ?_
  refine g_objI e_Row_init_1 ⟨w_170, w_20, w_21⟩ rfl ⟨by decide, Nat.le_of_ble_eq_true rfl⟩ ?_
  refine g_aload_n e_Row_init_4 rfl ?_
  refine g_iload_n e_Row_init_5 rfl ?_
  refine g_if_le' e_Row_init_6 (fun h => absurd h (by decide)) (fun _ => ?_)
  refine g_iload_n e_Row_init_9 rfl ?_
  refine g_goto e_Row_init_10 ?_
  refine g_newI (N := 60) (c' := 1) (s' := 60) (n' := 39) e_Row_init_14 w_183 kq_38 (by decide) (by decide) rfl rfl rfl ⟨Nat.le_trans (by decide) hrc, Nat.le_trans (by decide) hrs⟩ (fun M1 => ?_)
  refine g_putR (t' := 35) hI e_Row_init_16 fr_Row_9 kq_37 (by decide) fj_4_0 (show rkl[34]? = some (37, 0) from rfl) (fun v hv => by obtain ⟨a, rfl⟩ := hv; exact ⟨rfl, rfl⟩) rfl rfl ?_
  exact g_vret e_Row_init_19 rfl
theorem c_Row_init_37 {l : Launch} {G : KG} {M M' : Mm} (h : f_Row_init_37 M = some ((), M')) : CT l G y_Row_init md_Row_init 1 60 [rf G 37, .int (60 : Int32)] 38 (iniT 34) M none 39 (iniT 35) M' :=
  CT.ofI 0 (by decide) rfl (by show 2 ≤ 2; decide) rfl h (fun X _ hG hI h1 h2 => by subst hG; exact t_Row_init_37 hI h1 h2)
theorem x_Row_init_37 (M : Mm) : ∃ M', f_Row_init_37 M = some ((), M') := by
  unfold f_Row_init_37
  refine lT_ex ?_
  exact ⟨_, rfl⟩
def f_Row_init_39 (M : Mm) : Option (Unit × Mm) := (lT (zr M 40) fun M1 => some ((), M1))
set_option maxHeartbeats 4000000 in
set_option maxRecDepth 20000 in
theorem t_Row_init_39 {X : KX} {M : Mm} (hI : (kt X).name = "<init>") (hrc : 1 ≤ (kr X).cells) (hrs : 60 ≤ (kr X).slots) : GO X md_Row_init (QE X rvU (1, 60, 41, iniT 37)) 0 [some (rf (kG X) 39), some (.int (60 : Int32))] [] (0, 0, 40, iniT 36) M (f_Row_init_39 M) := by
  unfold f_Row_init_39
  refine g_aload_n e_Row_init_0 rfl ?_
  refine g_objI e_Row_init_1 ⟨w_170, w_20, w_21⟩ rfl ⟨by decide, Nat.le_of_ble_eq_true rfl⟩ ?_
  refine g_aload_n e_Row_init_4 rfl ?_
  refine g_iload_n e_Row_init_5 rfl ?_
  refine g_if_le' e_Row_init_6 (fun h => absurd h (by decide)) (fun _ => ?_)
  refine g_iload_n e_Row_init_9 rfl ?_
  refine g_goto e_Row_init_10 ?_
  refine g_newI (N := 60) (c' := 1) (s' := 60) (n' := 41) e_Row_init_14 w_183 kq_40 (by decide) (by decide) rfl rfl rfl ⟨Nat.le_trans (by decide) hrc, Nat.le_trans (by decide) hrs⟩ (fun M1 => ?_)
  refine g_putR (t' := 37) hI e_Row_init_16 fr_Row_9 kq_39 (by decide) fj_4_0 (show rkl[36]? = some (39, 0) from rfl) (fun v hv => by obtain ⟨a, rfl⟩ := hv; exact ⟨rfl, rfl⟩) rfl rfl ?_
  exact g_vret e_Row_init_19 rfl
theorem c_Row_init_39 {l : Launch} {G : KG} {M M' : Mm} (h : f_Row_init_39 M = some ((), M')) : CT l G y_Row_init md_Row_init 1 60 [rf G 39, .int (60 : Int32)] 40 (iniT 36) M none 41 (iniT 37) M' :=
  CT.ofI 0 (by decide) rfl (by show 2 ≤ 2; decide) rfl h (fun X _ hG hI h1 h2 => by subst hG; exact t_Row_init_39 hI h1 h2)
theorem x_Row_init_39 (M : Mm) : ∃ M', f_Row_init_39 M = some ((), M') := by
  unfold f_Row_init_39
  refine lT_ex ?_
  exact ⟨_, rfl⟩
def f_Row_init_41 (M : Mm) : Option (Unit × Mm) := (lT (zr M 42) fun M1 => some ((), M1))
set_option maxHeartbeats 4000000 in
set_option maxRecDepth 20000 in
theorem t_Row_init_41 {X : KX} {M : Mm} (hI : (kt X).name = "<init>") (hrc : 1 ≤ (kr X).cells) (hrs : 60 ≤ (kr X).slots) : GO X md_Row_init (QE X rvU (1, 60, 43, iniT 39)) 0 [some (rf (kG X) 41), some (.int (60 : Int32))] [] (0, 0, 42, iniT 38) M (f_Row_init_41 M) := by
  unfold f_Row_init_41
  refine g_aload_n e_Row_init_0 rfl ?_
  refine g_objI e_Row_init_1 ⟨w_170, w_20, w_21⟩ rfl ⟨by decide, Nat.le_of_ble_eq_true rfl⟩ ?_
  refine g_aload_n e_Row_init_4 rfl ?_
  refine g_iload_n e_Row_init_5 rfl ?_
  refine g_if_le' e_Row_init_6 (fun h => absurd h (by decide)) (fun _ => ?_)
  refine g_iload_n e_Row_init_9 rfl ?_
  refine g_goto e_Row_init_10 ?_
  refine g_newI (N := 60) (c' := 1) (s' := 60) (n' := 43) e_Row_init_14 w_183 kq_42 (by decide) (by decide) rfl rfl rfl ⟨Nat.le_trans (by decide) hrc, Nat.le_trans (by decide) hrs⟩ (fun M1 => ?_)
  refine g_putR (t' := 39) hI e_Row_init_16 fr_Row_9 kq_41 (by decide) fj_4_0 (show rkl[38]? = some (41, 0) from rfl) (fun v hv => by obtain ⟨a, rfl⟩ := hv; exact ⟨rfl, rfl⟩) rfl rfl ?_
  exact g_vret e_Row_init_19 rfl
theorem c_Row_init_41 {l : Launch} {G : KG} {M M' : Mm} (h : f_Row_init_41 M = some ((), M')) : CT l G y_Row_init md_Row_init 1 60 [rf G 41, .int (60 : Int32)] 42 (iniT 38) M none 43 (iniT 39) M' :=
  CT.ofI 0 (by decide) rfl (by show 2 ≤ 2; decide) rfl h (fun X _ hG hI h1 h2 => by subst hG; exact t_Row_init_41 hI h1 h2)
theorem x_Row_init_41 (M : Mm) : ∃ M', f_Row_init_41 M = some ((), M') := by
  unfold f_Row_init_41
  refine lT_ex ?_
  exact ⟨_, rfl⟩
def f_Row_init_43 (M : Mm) : Option (Unit × Mm) := (lT (zr M 44) fun M1 => some ((), M1))
set_option maxHeartbeats 4000000 in
set_option maxRecDepth 20000 in
theorem t_Row_init_43 {X : KX} {M : Mm} (hI : (kt X).name = "<init>") (hrc : 1 ≤ (kr X).cells) (hrs : 4 ≤ (kr X).slots) : GO X md_Row_init (QE X rvU (1, 4, 45, iniT 41)) 0 [some (rf (kG X) 43), some (.int (4 : Int32))] [] (0, 0, 44, iniT 40) M (f_Row_init_43 M) := by
  unfold f_Row_init_43
  refine g_aload_n e_Row_init_0 rfl ?_
  refine g_objI e_Row_init_1 ⟨w_170, w_20, w_21⟩ rfl ⟨by decide, Nat.le_of_ble_eq_true rfl⟩ ?_
  refine g_aload_n e_Row_init_4 rfl ?_
  refine g_iload_n e_Row_init_5 rfl ?_
  refine g_if_le' e_Row_init_6 (fun h => absurd h (by decide)) (fun _ => ?_)
  refine g_iload_n e_Row_init_9 rfl ?_
  refine g_goto e_Row_init_10 ?_
  refine g_newI (N := 4) (c' := 1) (s' := 4) (n' := 45) e_Row_init_14 w_183 kq_44 (by decide) (by decide) rfl rfl rfl ⟨Nat.le_trans (by decide) hrc, Nat.le_trans (by decide) hrs⟩ (fun M1 => ?_)
  refine g_putR (t' := 41) hI e_Row_init_16 fr_Row_9 kq_43 (by decide) fj_4_0 (show rkl[40]? = some (43, 0) from rfl) (fun v hv => by obtain ⟨a, rfl⟩ := hv; exact ⟨rfl, rfl⟩) rfl rfl ?_
  exact g_vret e_Row_init_19 rfl
theorem c_Row_init_43 {l : Launch} {G : KG} {M M' : Mm} (h : f_Row_init_43 M = some ((), M')) : CT l G y_Row_init md_Row_init 1 4 [rf G 43, .int (4 : Int32)] 44 (iniT 40) M none 45 (iniT 41) M' :=
  CT.ofI 0 (by decide) rfl (by show 2 ≤ 2; decide) rfl h (fun X _ hG hI h1 h2 => by subst hG; exact t_Row_init_43 hI h1 h2)
theorem x_Row_init_43 (M : Mm) : ∃ M', f_Row_init_43 M = some ((), M') := by
  unfold f_Row_init_43
  refine lT_ex ?_
  exact ⟨_, rfl⟩
def f_Plan_init_36 (M : Mm) : Option (Unit × Mm) := (lT (zr M 37) fun M1 => (bD (f_Row_init_37 M1) fun _ M2 => (lT (zr M2 39) fun M3 => (bD (f_Row_init_39 M3) fun _ M4 => (lT (zr M4 41) fun M5 => (bD (f_Row_init_41 M5) fun _ M6 => (lT (zr M6 43) fun M7 => (bD (f_Row_init_43 M7) fun _ M8 => some ((), M8)))))))))
set_option maxHeartbeats 4000000 in
set_option maxRecDepth 20000 in
theorem t_Plan_init_36 {X : KX} {M : Mm} (hI : (kt X).name = "<init>") (hrc : 8 ≤ (kr X).cells) (hrs : 192 ≤ (kr X).slots) : GO X md_Plan_init (QE X rvU (8, 192, 45, iniT 42)) 0 [some (rf (kG X) 36)] [] (0, 0, 37, iniT 34) M (f_Plan_init_36 M) := by
  unfold f_Plan_init_36
  refine g_aload_n e_Plan_init_0 rfl ?_
  refine g_objI e_Plan_init_1 ⟨w_200, w_20, w_21⟩ rfl ⟨by decide, Nat.le_of_ble_eq_true rfl⟩ ?_
  refine g_aload_n e_Plan_init_4 rfl ?_
  refine g_new (c' := 1) (s' := 2) (n' := 38) e_Plan_init_5 (show cls[4]? = some ("PressSheets$Row", tC4, 2) from rfl) ⟨w_201, w_166, w_7⟩ kq_37 yC4 pY4 dV4 (by decide +kernel) rfl rfl rfl ⟨Nat.le_trans (by decide) hrc, Nat.le_trans (by decide) hrs⟩ (fun M1 => ?_)
  refine g_dup e_Plan_init_8 rfl ?_
  refine g_bipush (x := (60 : Int32)) e_Plan_init_9 (by decide) ?_
  refine g_callI (mc := 1) (ms := 60) (c' := 2) (s' := 62) (As := [.int (60 : Int32)]) (st := [rf (kG X) 37, rf (kG X) 36]) e_Plan_init_11 ix_Plan_13 rfl rfl my_Row_init (by decide) rfl rfl (Nat.le_of_ble_eq_true rfl) rfl rfl ⟨Nat.le_trans (by decide) hrc, Nat.le_trans (by decide) hrs⟩ (fun _ h => c_Row_init_37 h) (fun M2 _ => ?_)
  refine g_putR (t' := 36) hI e_Plan_init_14 fr_Plan_16 kq_36 (by decide) fj_2_0 (show rkl[35]? = some (36, 0) from rfl) (fun v hv => by obtain ⟨a, rfl⟩ := hv; exact ⟨rfl, rfl⟩) rfl rfl ?_
  refine g_aload_n e_Plan_init_17 rfl ?_
  refine g_new (c' := 3) (s' := 64) (n' := 40) e_Plan_init_18 (show cls[4]? = some ("PressSheets$Row", tC4, 2) from rfl) ⟨w_201, w_166, w_7⟩ kq_39 yC4 pY4 dV4 (by decide +kernel) rfl rfl rfl ⟨Nat.le_trans (by decide) hrc, Nat.le_trans (by decide) hrs⟩ (fun M3 => ?_)
  refine g_dup e_Plan_init_21 rfl ?_
  refine g_bipush (x := (60 : Int32)) e_Plan_init_22 (by decide) ?_
  refine g_callI (mc := 1) (ms := 60) (c' := 4) (s' := 124) (As := [.int (60 : Int32)]) (st := [rf (kG X) 39, rf (kG X) 36]) e_Plan_init_24 ix_Plan_13 rfl rfl my_Row_init (by decide) rfl rfl (Nat.le_of_ble_eq_true rfl) rfl rfl ⟨Nat.le_trans (by decide) hrc, Nat.le_trans (by decide) hrs⟩ (fun _ h => c_Row_init_39 h) (fun M4 _ => ?_)
  refine g_putR (t' := 38) hI e_Plan_init_27 fr_Plan_20 kq_36 (by decide) fj_2_1 (show rkl[37]? = some (36, 1) from rfl) (fun v hv => by obtain ⟨a, rfl⟩ := hv; exact ⟨rfl, rfl⟩) rfl rfl ?_
  refine g_aload_n e_Plan_init_30 rfl ?_
  refine g_new (c' := 5) (s' := 126) (n' := 42) e_Plan_init_31 (show cls[4]? = some ("PressSheets$Row", tC4, 2) from rfl) ⟨w_201, w_166, w_7⟩ kq_41 yC4 pY4 dV4 (by decide +kernel) rfl rfl rfl ⟨Nat.le_trans (by decide) hrc, Nat.le_trans (by decide) hrs⟩ (fun M5 => ?_)
  refine g_dup e_Plan_init_34 rfl ?_
  refine g_bipush (x := (60 : Int32)) e_Plan_init_35 (by decide) ?_
  refine g_callI (mc := 1) (ms := 60) (c' := 6) (s' := 186) (As := [.int (60 : Int32)]) (st := [rf (kG X) 41, rf (kG X) 36]) e_Plan_init_37 ix_Plan_13 rfl rfl my_Row_init (by decide) rfl rfl (Nat.le_of_ble_eq_true rfl) rfl rfl ⟨Nat.le_trans (by decide) hrc, Nat.le_trans (by decide) hrs⟩ (fun _ h => c_Row_init_41 h) (fun M6 _ => ?_)
  refine g_putR (t' := 40) hI e_Plan_init_40 fr_Plan_23 kq_36 (by decide) fj_2_2 (show rkl[39]? = some (36, 2) from rfl) (fun v hv => by obtain ⟨a, rfl⟩ := hv; exact ⟨rfl, rfl⟩) rfl rfl ?_
  refine g_aload_n e_Plan_init_43 rfl ?_
  refine g_new (c' := 7) (s' := 188) (n' := 44) e_Plan_init_44 (show cls[4]? = some ("PressSheets$Row", tC4, 2) from rfl) ⟨w_201, w_166, w_7⟩ kq_43 yC4 pY4 dV4 (by decide +kernel) rfl rfl rfl ⟨Nat.le_trans (by decide) hrc, Nat.le_trans (by decide) hrs⟩ (fun M7 => ?_)
  refine g_dup e_Plan_init_47 rfl ?_
  refine g_iconst (x := (4 : Int32)) e_Plan_init_48 (by decide) ?_
  refine g_callI (mc := 1) (ms := 4) (c' := 8) (s' := 192) (As := [.int (4 : Int32)]) (st := [rf (kG X) 43, rf (kG X) 36]) e_Plan_init_49 ix_Plan_13 rfl rfl my_Row_init (by decide) rfl rfl (Nat.le_of_ble_eq_true rfl) rfl rfl ⟨Nat.le_trans (by decide) hrc, Nat.le_trans (by decide) hrs⟩ (fun _ h => c_Row_init_43 h) (fun M8 _ => ?_)
  refine g_putR (t' := 42) hI e_Plan_init_52 fr_Plan_26 kq_36 (by decide) fj_2_3 (show rkl[41]? = some (36, 3) from rfl) (fun v hv => by obtain ⟨a, rfl⟩ := hv; exact ⟨rfl, rfl⟩) rfl rfl ?_
  exact g_vret e_Plan_init_55 rfl
theorem c_Plan_init_36 {l : Launch} {G : KG} {M M' : Mm} (h : f_Plan_init_36 M = some ((), M')) : CT l G y_Plan_init md_Plan_init 8 192 [rf G 36] 37 (iniT 34) M none 45 (iniT 42) M' :=
  CT.ofI 0 (by decide) rfl (by show 1 ≤ 1; decide) rfl h (fun X _ hG hI h1 h2 => by subst hG; exact t_Plan_init_36 hI h1 h2)
theorem x_Plan_init_36 (M : Mm) : ∃ M', f_Plan_init_36 M = some ((), M') := by
  unfold f_Plan_init_36
  refine lT_ex ?_
  refine bD_ex (x_Row_init_37 _) (fun _ => ?_)
  refine lT_ex ?_
  refine bD_ex (x_Row_init_39 _) (fun _ => ?_)
  refine lT_ex ?_
  refine bD_ex (x_Row_init_41 _) (fun _ => ?_)
  refine lT_ex ?_
  refine bD_ex (x_Row_init_43 _) (fun _ => ?_)
  exact ⟨_, rfl⟩
def f_Row_init_45 (M : Mm) : Option (Unit × Mm) := (lT (zr M 46) fun M1 => some ((), M1))
set_option maxHeartbeats 4000000 in
set_option maxRecDepth 20000 in
theorem t_Row_init_45 {X : KX} {M : Mm} (hI : (kt X).name = "<init>") (hrc : 1 ≤ (kr X).cells) (hrs : 5 ≤ (kr X).slots) : GO X md_Row_init (QE X rvU (1, 5, 47, iniT 44)) 0 [some (rf (kG X) 45), some (.int (5 : Int32))] [] (0, 0, 46, iniT 43) M (f_Row_init_45 M) := by
  unfold f_Row_init_45
  refine g_aload_n e_Row_init_0 rfl ?_
  refine g_objI e_Row_init_1 ⟨w_170, w_20, w_21⟩ rfl ⟨by decide, Nat.le_of_ble_eq_true rfl⟩ ?_
  refine g_aload_n e_Row_init_4 rfl ?_
  refine g_iload_n e_Row_init_5 rfl ?_
  refine g_if_le' e_Row_init_6 (fun h => absurd h (by decide)) (fun _ => ?_)
  refine g_iload_n e_Row_init_9 rfl ?_
  refine g_goto e_Row_init_10 ?_
  refine g_newI (N := 5) (c' := 1) (s' := 5) (n' := 47) e_Row_init_14 w_183 kq_46 (by decide) (by decide) rfl rfl rfl ⟨Nat.le_trans (by decide) hrc, Nat.le_trans (by decide) hrs⟩ (fun M1 => ?_)
  refine g_putR (t' := 44) hI e_Row_init_16 fr_Row_9 kq_45 (by decide) fj_4_0 (show rkl[43]? = some (45, 0) from rfl) (fun v hv => by obtain ⟨a, rfl⟩ := hv; exact ⟨rfl, rfl⟩) rfl rfl ?_
  exact g_vret e_Row_init_19 rfl
theorem c_Row_init_45 {l : Launch} {G : KG} {M M' : Mm} (h : f_Row_init_45 M = some ((), M')) : CT l G y_Row_init md_Row_init 1 5 [rf G 45, .int (5 : Int32)] 46 (iniT 43) M none 47 (iniT 44) M' :=
  CT.ofI 0 (by decide) rfl (by show 2 ≤ 2; decide) rfl h (fun X _ hG hI h1 h2 => by subst hG; exact t_Row_init_45 hI h1 h2)
theorem x_Row_init_45 (M : Mm) : ∃ M', f_Row_init_45 M = some ((), M') := by
  unfold f_Row_init_45
  refine lT_ex ?_
  exact ⟨_, rfl⟩
def f_Row_init_47 (M : Mm) : Option (Unit × Mm) := (lT (zr M 48) fun M1 => some ((), M1))
set_option maxHeartbeats 4000000 in
set_option maxRecDepth 20000 in
theorem t_Row_init_47 {X : KX} {M : Mm} (hI : (kt X).name = "<init>") (hrc : 1 ≤ (kr X).cells) (hrs : 5 ≤ (kr X).slots) : GO X md_Row_init (QE X rvU (1, 5, 49, iniT 46)) 0 [some (rf (kG X) 47), some (.int (5 : Int32))] [] (0, 0, 48, iniT 45) M (f_Row_init_47 M) := by
  unfold f_Row_init_47
  refine g_aload_n e_Row_init_0 rfl ?_
  refine g_objI e_Row_init_1 ⟨w_170, w_20, w_21⟩ rfl ⟨by decide, Nat.le_of_ble_eq_true rfl⟩ ?_
  refine g_aload_n e_Row_init_4 rfl ?_
  refine g_iload_n e_Row_init_5 rfl ?_
  refine g_if_le' e_Row_init_6 (fun h => absurd h (by decide)) (fun _ => ?_)
  refine g_iload_n e_Row_init_9 rfl ?_
  refine g_goto e_Row_init_10 ?_
  refine g_newI (N := 5) (c' := 1) (s' := 5) (n' := 49) e_Row_init_14 w_183 kq_48 (by decide) (by decide) rfl rfl rfl ⟨Nat.le_trans (by decide) hrc, Nat.le_trans (by decide) hrs⟩ (fun M1 => ?_)
  refine g_putR (t' := 46) hI e_Row_init_16 fr_Row_9 kq_47 (by decide) fj_4_0 (show rkl[45]? = some (47, 0) from rfl) (fun v hv => by obtain ⟨a, rfl⟩ := hv; exact ⟨rfl, rfl⟩) rfl rfl ?_
  exact g_vret e_Row_init_19 rfl
theorem c_Row_init_47 {l : Launch} {G : KG} {M M' : Mm} (h : f_Row_init_47 M = some ((), M')) : CT l G y_Row_init md_Row_init 1 5 [rf G 47, .int (5 : Int32)] 48 (iniT 45) M none 49 (iniT 46) M' :=
  CT.ofI 0 (by decide) rfl (by show 2 ≤ 2; decide) rfl h (fun X _ hG hI h1 h2 => by subst hG; exact t_Row_init_47 hI h1 h2)
theorem x_Row_init_47 (M : Mm) : ∃ M', f_Row_init_47 M = some ((), M') := by
  unfold f_Row_init_47
  refine lT_ex ?_
  exact ⟨_, rfl⟩
def f_Row_init_49 (M : Mm) : Option (Unit × Mm) := (lT (zr M 50) fun M1 => some ((), M1))
set_option maxHeartbeats 4000000 in
set_option maxRecDepth 20000 in
theorem t_Row_init_49 {X : KX} {M : Mm} (hI : (kt X).name = "<init>") (hrc : 1 ≤ (kr X).cells) (hrs : 8 ≤ (kr X).slots) : GO X md_Row_init (QE X rvU (1, 8, 51, iniT 48)) 0 [some (rf (kG X) 49), some (.int (8 : Int32))] [] (0, 0, 50, iniT 47) M (f_Row_init_49 M) := by
  unfold f_Row_init_49
  refine g_aload_n e_Row_init_0 rfl ?_
  refine g_objI e_Row_init_1 ⟨w_170, w_20, w_21⟩ rfl ⟨by decide, Nat.le_of_ble_eq_true rfl⟩ ?_
  refine g_aload_n e_Row_init_4 rfl ?_
  refine g_iload_n e_Row_init_5 rfl ?_
  refine g_if_le' e_Row_init_6 (fun h => absurd h (by decide)) (fun _ => ?_)
  refine g_iload_n e_Row_init_9 rfl ?_
  refine g_goto e_Row_init_10 ?_
  refine g_newI (N := 8) (c' := 1) (s' := 8) (n' := 51) e_Row_init_14 w_183 kq_50 (by decide) (by decide) rfl rfl rfl ⟨Nat.le_trans (by decide) hrc, Nat.le_trans (by decide) hrs⟩ (fun M1 => ?_)
  refine g_putR (t' := 48) hI e_Row_init_16 fr_Row_9 kq_49 (by decide) fj_4_0 (show rkl[47]? = some (49, 0) from rfl) (fun v hv => by obtain ⟨a, rfl⟩ := hv; exact ⟨rfl, rfl⟩) rfl rfl ?_
  exact g_vret e_Row_init_19 rfl
theorem c_Row_init_49 {l : Launch} {G : KG} {M M' : Mm} (h : f_Row_init_49 M = some ((), M')) : CT l G y_Row_init md_Row_init 1 8 [rf G 49, .int (8 : Int32)] 50 (iniT 47) M none 51 (iniT 48) M' :=
  CT.ofI 0 (by decide) rfl (by show 2 ≤ 2; decide) rfl h (fun X _ hG hI h1 h2 => by subst hG; exact t_Row_init_49 hI h1 h2)
theorem x_Row_init_49 (M : Mm) : ∃ M', f_Row_init_49 M = some ((), M') := by
  unfold f_Row_init_49
  refine lT_ex ?_
  exact ⟨_, rfl⟩
def f_Row_init_51 (M : Mm) : Option (Unit × Mm) := (lT (zr M 52) fun M1 => some ((), M1))
set_option maxHeartbeats 4000000 in
set_option maxRecDepth 20000 in
theorem t_Row_init_51 {X : KX} {M : Mm} (hI : (kt X).name = "<init>") (hrc : 1 ≤ (kr X).cells) (hrs : 8 ≤ (kr X).slots) : GO X md_Row_init (QE X rvU (1, 8, 53, iniT 50)) 0 [some (rf (kG X) 51), some (.int (8 : Int32))] [] (0, 0, 52, iniT 49) M (f_Row_init_51 M) := by
  unfold f_Row_init_51
  refine g_aload_n e_Row_init_0 rfl ?_
  refine g_objI e_Row_init_1 ⟨w_170, w_20, w_21⟩ rfl ⟨by decide, Nat.le_of_ble_eq_true rfl⟩ ?_
  refine g_aload_n e_Row_init_4 rfl ?_
  refine g_iload_n e_Row_init_5 rfl ?_
  refine g_if_le' e_Row_init_6 (fun h => absurd h (by decide)) (fun _ => ?_)
  refine g_iload_n e_Row_init_9 rfl ?_
  refine g_goto e_Row_init_10 ?_
  refine g_newI (N := 8) (c' := 1) (s' := 8) (n' := 53) e_Row_init_14 w_183 kq_52 (by decide) (by decide) rfl rfl rfl ⟨Nat.le_trans (by decide) hrc, Nat.le_trans (by decide) hrs⟩ (fun M1 => ?_)
  refine g_putR (t' := 50) hI e_Row_init_16 fr_Row_9 kq_51 (by decide) fj_4_0 (show rkl[49]? = some (51, 0) from rfl) (fun v hv => by obtain ⟨a, rfl⟩ := hv; exact ⟨rfl, rfl⟩) rfl rfl ?_
  exact g_vret e_Row_init_19 rfl
theorem c_Row_init_51 {l : Launch} {G : KG} {M M' : Mm} (h : f_Row_init_51 M = some ((), M')) : CT l G y_Row_init md_Row_init 1 8 [rf G 51, .int (8 : Int32)] 52 (iniT 49) M none 53 (iniT 50) M' :=
  CT.ofI 0 (by decide) rfl (by show 2 ≤ 2; decide) rfl h (fun X _ hG hI h1 h2 => by subst hG; exact t_Row_init_51 hI h1 h2)
theorem x_Row_init_51 (M : Mm) : ∃ M', f_Row_init_51 M = some ((), M') := by
  unfold f_Row_init_51
  refine lT_ex ?_
  exact ⟨_, rfl⟩
def f_State_init_27 (M : Mm) : Option (Unit × Mm) := (lT (zr M 28) fun M1 => (bD (f_Job_init_28 M1) fun _ M2 => (lT (zr M2 31) fun M3 => (bD (f_Press_init_31 M3) fun _ M4 => (lT (zr M4 36) fun M5 => (bD (f_Plan_init_36 M5) fun _ M6 => (lT (zr M6 45) fun M7 => (bD (f_Row_init_45 M7) fun _ M8 => (lT (zr M8 47) fun M9 => (bD (f_Row_init_47 M9) fun _ M10 => (lT (zr M10 49) fun M11 => (bD (f_Row_init_49 M11) fun _ M12 => (lT (zr M12 51) fun M13 => (bD (f_Row_init_51 M13) fun _ M14 => some ((), M14)))))))))))))))
set_option maxHeartbeats 4000000 in
set_option maxRecDepth 20000 in
theorem t_State_init_27 {X : KX} {M : Mm} (hI : (kt X).name = "<init>") (hrc : 25 ≤ (kr X).cells) (hrs : 362 ≤ (kr X).slots) : GO X md_State_init (QE X rvU (25, 362, 53, iniT 51)) 0 [some (rf (kG X) 27)] [] (0, 0, 28, iniT 26) M (f_State_init_27 M) := by
  unfold f_State_init_27
  refine g_aload_n e_State_init_0 rfl ?_
  refine g_objI e_State_init_1 ⟨w_27, w_20, w_21⟩ rfl ⟨by decide, Nat.le_of_ble_eq_true rfl⟩ ?_
  refine g_aload_n e_State_init_4 rfl ?_
  refine g_new (c' := 1) (s' := 11) (n' := 29) e_State_init_5 (show cls[0]? = some ("PressSheets$Job", tC0, 11) from rfl) ⟨w_28, w_29, w_3⟩ kq_28 yC0 pY0 dV0 (by decide +kernel) rfl rfl rfl ⟨Nat.le_trans (by decide) hrc, Nat.le_trans (by decide) hrs⟩ (fun M1 => ?_)
  refine g_dup e_State_init_8 rfl ?_
  refine g_callI (mc := 2) (ms := 11) (c' := 3) (s' := 22) (As := []) (st := [rf (kG X) 28, rf (kG X) 27]) e_State_init_9 ix_State_11 rfl rfl my_Job_init (by decide) rfl rfl (Nat.le_of_ble_eq_true rfl) rfl rfl ⟨Nat.le_trans (by decide) hrc, Nat.le_trans (by decide) hrs⟩ (fun _ h => c_Job_init_28 h) (fun M2 _ => ?_)
  refine g_putR (t' := 29) hI e_State_init_12 fr_State_12 kq_27 (by decide) fj_6_0 (show rkl[28]? = some (27, 0) from rfl) (fun v hv => by obtain ⟨a, rfl⟩ := hv; exact ⟨rfl, rfl⟩) rfl rfl ?_
  refine g_aload_n e_State_init_15 rfl ?_
  refine g_new (c' := 4) (s' := 24) (n' := 32) e_State_init_16 (show cls[3]? = some ("PressSheets$Press", tC3, 2) from rfl) ⟨w_159, w_160, w_6⟩ kq_31 yC3 pY3 dV3 (by decide +kernel) rfl rfl rfl ⟨Nat.le_trans (by decide) hrc, Nat.le_trans (by decide) hrs⟩ (fun M3 => ?_)
  refine g_dup e_State_init_19 rfl ?_
  refine g_callIN (mc := 4) (ms := 108) (c' := 8) (s' := 132) (As := []) (st := [rf (kG X) 31, rf (kG X) 27]) e_State_init_20 in_State_20 rfl rfl my_Press_init (by decide) rfl rfl (Nat.le_of_ble_eq_true rfl) rfl rfl ⟨Nat.le_trans (by decide) hrc, Nat.le_trans (by decide) hrs⟩ (fun _ h => c_Press_init_31 h) (fun M4 _ => ?_)
  refine g_putR (t' := 34) hI e_State_init_23 fr_State_21 kq_27 (by decide) fj_6_1 (show rkl[33]? = some (27, 1) from rfl) (fun v hv => by obtain ⟨a, rfl⟩ := hv; exact ⟨rfl, rfl⟩) rfl rfl ?_
  refine g_aload_n e_State_init_26 rfl ?_
  refine g_new (c' := 9) (s' := 136) (n' := 37) e_State_init_27 (show cls[2]? = some ("PressSheets$Plan", tC2, 4) from rfl) ⟨w_195, w_196, w_8⟩ kq_36 yC2 pY2 dV2 (by decide +kernel) rfl rfl rfl ⟨Nat.le_trans (by decide) hrc, Nat.le_trans (by decide) hrs⟩ (fun M5 => ?_)
  refine g_dup e_State_init_30 rfl ?_
  refine g_callIN (mc := 8) (ms := 192) (c' := 17) (s' := 328) (As := []) (st := [rf (kG X) 36, rf (kG X) 27]) e_State_init_31 in_State_27 rfl rfl my_Plan_init (by decide) rfl rfl (Nat.le_of_ble_eq_true rfl) rfl rfl ⟨Nat.le_trans (by decide) hrc, Nat.le_trans (by decide) hrs⟩ (fun _ h => c_Plan_init_36 h) (fun M6 _ => ?_)
  refine g_putR (t' := 43) hI e_State_init_34 fr_State_28 kq_27 (by decide) fj_6_2 (show rkl[42]? = some (27, 2) from rfl) (fun v hv => by obtain ⟨a, rfl⟩ := hv; exact ⟨rfl, rfl⟩) rfl rfl ?_
  refine g_aload_n e_State_init_37 rfl ?_
  refine g_new (c' := 18) (s' := 330) (n' := 46) e_State_init_38 (show cls[4]? = some ("PressSheets$Row", tC4, 2) from rfl) ⟨w_220, w_166, w_7⟩ kq_45 yC4 pY4 dV4 (by decide +kernel) rfl rfl rfl ⟨Nat.le_trans (by decide) hrc, Nat.le_trans (by decide) hrs⟩ (fun M7 => ?_)
  refine g_dup e_State_init_41 rfl ?_
  refine g_iconst (x := (5 : Int32)) e_State_init_42 (by decide) ?_
  refine g_callI (mc := 1) (ms := 5) (c' := 19) (s' := 335) (As := [.int (5 : Int32)]) (st := [rf (kG X) 45, rf (kG X) 27]) e_State_init_43 ix_State_34 rfl rfl my_Row_init (by decide) rfl rfl (Nat.le_of_ble_eq_true rfl) rfl rfl ⟨Nat.le_trans (by decide) hrc, Nat.le_trans (by decide) hrs⟩ (fun _ h => c_Row_init_45 h) (fun M8 _ => ?_)
  refine g_putR (t' := 45) hI e_State_init_46 fr_State_37 kq_27 (by decide) fj_6_3 (show rkl[44]? = some (27, 3) from rfl) (fun v hv => by obtain ⟨a, rfl⟩ := hv; exact ⟨rfl, rfl⟩) rfl rfl ?_
  refine g_aload_n e_State_init_49 rfl ?_
  refine g_new (c' := 20) (s' := 337) (n' := 48) e_State_init_50 (show cls[4]? = some ("PressSheets$Row", tC4, 2) from rfl) ⟨w_220, w_166, w_7⟩ kq_47 yC4 pY4 dV4 (by decide +kernel) rfl rfl rfl ⟨Nat.le_trans (by decide) hrc, Nat.le_trans (by decide) hrs⟩ (fun M9 => ?_)
  refine g_dup e_State_init_53 rfl ?_
  refine g_iconst (x := (5 : Int32)) e_State_init_54 (by decide) ?_
  refine g_callI (mc := 1) (ms := 5) (c' := 21) (s' := 342) (As := [.int (5 : Int32)]) (st := [rf (kG X) 47, rf (kG X) 27]) e_State_init_55 ix_State_34 rfl rfl my_Row_init (by decide) rfl rfl (Nat.le_of_ble_eq_true rfl) rfl rfl ⟨Nat.le_trans (by decide) hrc, Nat.le_trans (by decide) hrs⟩ (fun _ h => c_Row_init_47 h) (fun M10 _ => ?_)
  refine g_putR (t' := 47) hI e_State_init_58 fr_State_41 kq_27 (by decide) fj_6_4 (show rkl[46]? = some (27, 4) from rfl) (fun v hv => by obtain ⟨a, rfl⟩ := hv; exact ⟨rfl, rfl⟩) rfl rfl ?_
  refine g_aload_n e_State_init_61 rfl ?_
  refine g_new (c' := 22) (s' := 344) (n' := 50) e_State_init_62 (show cls[4]? = some ("PressSheets$Row", tC4, 2) from rfl) ⟨w_220, w_166, w_7⟩ kq_49 yC4 pY4 dV4 (by decide +kernel) rfl rfl rfl ⟨Nat.le_trans (by decide) hrc, Nat.le_trans (by decide) hrs⟩ (fun M11 => ?_)
  refine g_dup e_State_init_65 rfl ?_
  refine g_bipush (x := (8 : Int32)) e_State_init_66 (by decide) ?_
  refine g_callI (mc := 1) (ms := 8) (c' := 23) (s' := 352) (As := [.int (8 : Int32)]) (st := [rf (kG X) 49, rf (kG X) 27]) e_State_init_68 ix_State_34 rfl rfl my_Row_init (by decide) rfl rfl (Nat.le_of_ble_eq_true rfl) rfl rfl ⟨Nat.le_trans (by decide) hrc, Nat.le_trans (by decide) hrs⟩ (fun _ h => c_Row_init_49 h) (fun M12 _ => ?_)
  refine g_putR (t' := 49) hI e_State_init_71 fr_State_44 kq_27 (by decide) fj_6_5 (show rkl[48]? = some (27, 5) from rfl) (fun v hv => by obtain ⟨a, rfl⟩ := hv; exact ⟨rfl, rfl⟩) rfl rfl ?_
  refine g_aload_n e_State_init_74 rfl ?_
  refine g_new (c' := 24) (s' := 354) (n' := 52) e_State_init_75 (show cls[4]? = some ("PressSheets$Row", tC4, 2) from rfl) ⟨w_220, w_166, w_7⟩ kq_51 yC4 pY4 dV4 (by decide +kernel) rfl rfl rfl ⟨Nat.le_trans (by decide) hrc, Nat.le_trans (by decide) hrs⟩ (fun M13 => ?_)
  refine g_dup e_State_init_78 rfl ?_
  refine g_bipush (x := (8 : Int32)) e_State_init_79 (by decide) ?_
  refine g_callI (mc := 1) (ms := 8) (c' := 25) (s' := 362) (As := [.int (8 : Int32)]) (st := [rf (kG X) 51, rf (kG X) 27]) e_State_init_81 ix_State_34 rfl rfl my_Row_init (by decide) rfl rfl (Nat.le_of_ble_eq_true rfl) rfl rfl ⟨Nat.le_trans (by decide) hrc, Nat.le_trans (by decide) hrs⟩ (fun _ h => c_Row_init_51 h) (fun M14 _ => ?_)
  refine g_putR (t' := 51) hI e_State_init_84 fr_State_47 kq_27 (by decide) fj_6_6 (show rkl[50]? = some (27, 6) from rfl) (fun v hv => by obtain ⟨a, rfl⟩ := hv; exact ⟨rfl, rfl⟩) rfl rfl ?_
  exact g_vret e_State_init_87 rfl
theorem c_State_init_27 {l : Launch} {G : KG} {M M' : Mm} (h : f_State_init_27 M = some ((), M')) : CT l G y_State_init md_State_init 25 362 [rf G 27] 28 (iniT 26) M none 53 (iniT 51) M' :=
  CT.ofI 0 (by decide) rfl (by show 1 ≤ 1; decide) rfl h (fun X _ hG hI h1 h2 => by subst hG; exact t_State_init_27 hI h1 h2)
theorem x_State_init_27 (M : Mm) : ∃ M', f_State_init_27 M = some ((), M') := by
  unfold f_State_init_27
  refine lT_ex ?_
  refine bD_ex (x_Job_init_28 _) (fun _ => ?_)
  refine lT_ex ?_
  refine bD_ex (x_Press_init_31 _) (fun _ => ?_)
  refine lT_ex ?_
  refine bD_ex (x_Plan_init_36 _) (fun _ => ?_)
  refine lT_ex ?_
  refine bD_ex (x_Row_init_45 _) (fun _ => ?_)
  refine lT_ex ?_
  refine bD_ex (x_Row_init_47 _) (fun _ => ?_)
  refine lT_ex ?_
  refine bD_ex (x_Row_init_49 _) (fun _ => ?_)
  refine lT_ex ?_
  refine bD_ex (x_Row_init_51 _) (fun _ => ?_)
  exact ⟨_, rfl⟩
def f_Leaf_init_54 (M : Mm) : Option (Unit × Mm) := some ((), M)
set_option maxHeartbeats 4000000 in
set_option maxRecDepth 20000 in
theorem t_Leaf_init_54 {X : KX} {M : Mm} (hI : (kt X).name = "<init>") (hrc : 0 ≤ (kr X).cells) (hrs : 0 ≤ (kr X).slots) : GO X md_Leaf_init (QE X rvU (0, 0, 55, iniT 52)) 0 [some (rf (kG X) 54)] [] (0, 0, 55, iniT 52) M (f_Leaf_init_54 M) := by
  unfold f_Leaf_init_54
  refine g_aload_n e_Leaf_init_0 rfl ?_
  refine g_objI e_Leaf_init_1 ⟨w_39, w_20, w_21⟩ rfl ⟨by decide, Nat.le_of_ble_eq_true rfl⟩ ?_
  exact g_vret e_Leaf_init_4 rfl
theorem c_Leaf_init_54 {l : Launch} {G : KG} {M M' : Mm} (h : f_Leaf_init_54 M = some ((), M')) : CT l G y_Leaf_init md_Leaf_init 0 0 [rf G 54] 55 (iniT 52) M none 55 (iniT 52) M' :=
  CT.ofI 0 (by decide) rfl (by show 1 ≤ 1; decide) rfl h (fun X _ hG hI h1 h2 => by subst hG; exact t_Leaf_init_54 hI h1 h2)
theorem x_Leaf_init_54 (M : Mm) : ∃ M', f_Leaf_init_54 M = some ((), M') := by
  unfold f_Leaf_init_54
  exact ⟨_, rfl⟩
def f_Spot_init_55 (M : Mm) : Option (Unit × Mm) := some ((), M)
set_option maxHeartbeats 4000000 in
set_option maxRecDepth 20000 in
theorem t_Spot_init_55 {X : KX} {M : Mm} (hI : (kt X).name = "<init>") (hrc : 0 ≤ (kr X).cells) (hrs : 0 ≤ (kr X).slots) : GO X md_Spot_init (QE X rvU (0, 0, 56, iniT 53)) 0 [some (rf (kG X) 55)] [] (0, 0, 56, iniT 53) M (f_Spot_init_55 M) := by
  unfold f_Spot_init_55
  refine g_aload_n e_Spot_init_0 rfl ?_
  refine g_objI e_Spot_init_1 ⟨w_69, w_20, w_21⟩ rfl ⟨by decide, Nat.le_of_ble_eq_true rfl⟩ ?_
  exact g_vret e_Spot_init_4 rfl
theorem c_Spot_init_55 {l : Launch} {G : KG} {M M' : Mm} (h : f_Spot_init_55 M = some ((), M')) : CT l G y_Spot_init md_Spot_init 0 0 [rf G 55] 56 (iniT 53) M none 56 (iniT 53) M' :=
  CT.ofI 0 (by decide) rfl (by show 1 ≤ 1; decide) rfl h (fun X _ hG hI h1 h2 => by subst hG; exact t_Spot_init_55 hI h1 h2)
theorem x_Spot_init_55 (M : Mm) : ∃ M', f_Spot_init_55 M = some ((), M') := by
  unfold f_Spot_init_55
  exact ⟨_, rfl⟩
def f_Job_init_53 (M : Mm) : Option (Unit × Mm) := (lT (wI M 53 4 (4 : Int32)) fun M1 => (lT (wI M1 53 7 (100 : Int32)) fun M2 => (lT (wI M2 53 8 (1 : Int32)) fun M3 => (lT (zr M3 54) fun M4 => (bD (f_Leaf_init_54 M4) fun _ M5 => (lT (zr M5 55) fun M6 => (bD (f_Spot_init_55 M6) fun _ M7 => (bD (f_Job_foldBy 53 (1 : Int32) (0 : Int32) M7) fun _ M8 => some ((), M8)))))))))
set_option maxHeartbeats 4000000 in
set_option maxRecDepth 20000 in
theorem t_Job_init_53 {X : KX} {M : Mm} (hI : (kt X).name = "<init>") (hrc : 2 ≤ (kr X).cells) (hrs : 11 ≤ (kr X).slots) : GO X md_Job_init (QE X rvU (2, 11, 56, iniT 54)) 0 [some (rf (kG X) 53)] [] (0, 0, 54, iniT 52) M (f_Job_init_53 M) := by
  unfold f_Job_init_53
  refine g_aload_n e_Job_init_0 rfl ?_
  refine g_objI e_Job_init_1 ⟨w_33, w_20, w_21⟩ rfl ⟨by decide, Nat.le_of_ble_eq_true rfl⟩ ?_
  refine g_aload_n e_Job_init_4 rfl ?_
  refine g_iconst (x := (4 : Int32)) e_Job_init_5 (by decide) ?_
  refine g_putL e_Job_init_6 fp_Job_9_ kq_53 (by decide) fj_0_4 rfl rfl (fun M1 => ?_)
  refine g_aload_n e_Job_init_9 rfl ?_
  refine g_bipush (x := (100 : Int32)) e_Job_init_10 (by decide) ?_
  refine g_putL e_Job_init_12 fp_Job_15_ kq_53 (by decide) fj_0_7 rfl rfl (fun M2 => ?_)
  refine g_aload_n e_Job_init_15 rfl ?_
  refine g_iconst (x := (1 : Int32)) e_Job_init_16 (by decide) ?_
  refine g_putL e_Job_init_17 fp_Job_18_ kq_53 (by decide) fj_0_8 rfl rfl (fun M3 => ?_)
  refine g_aload_n e_Job_init_20 rfl ?_
  refine g_new (c' := 1) (s' := 5) (n' := 55) e_Job_init_21 (show cls[1]? = some ("PressSheets$Leaf", tC1, 5) from rfl) ⟨w_34, w_35, w_4⟩ kq_54 yC1 pY1 dV1 (by decide +kernel) rfl rfl rfl ⟨Nat.le_trans (by decide) hrc, Nat.le_trans (by decide) hrs⟩ (fun M4 => ?_)
  refine g_dup e_Job_init_24 rfl ?_
  refine g_callIN (mc := 0) (ms := 0) (c' := 1) (s' := 5) (As := []) (st := [rf (kG X) 54, rf (kG X) 53]) e_Job_init_25 in_Job_23 rfl rfl my_Leaf_init (by decide) rfl rfl (Nat.le_of_ble_eq_true rfl) rfl rfl ⟨Nat.le_trans (by decide) hrc, Nat.le_trans (by decide) hrs⟩ (fun _ h => c_Leaf_init_54 h) (fun M5 _ => ?_)
  refine g_putR (t' := 53) hI e_Job_init_28 fr_Job_24 kq_53 (by decide) fj_0_9 (show rkl[52]? = some (53, 9) from rfl) (fun v hv => by obtain ⟨a, rfl⟩ := hv; exact ⟨rfl, rfl⟩) rfl rfl ?_
  refine g_aload_n e_Job_init_31 rfl ?_
  refine g_new (c' := 2) (s' := 11) (n' := 56) e_Job_init_32 (show cls[5]? = some ("PressSheets$Spot", tC5, 6) from rfl) ⟨w_64, w_65, w_5⟩ kq_55 yC5 pY5 dV5 (by decide +kernel) rfl rfl rfl ⟨Nat.le_trans (by decide) hrc, Nat.le_trans (by decide) hrs⟩ (fun M6 => ?_)
  refine g_dup e_Job_init_35 rfl ?_
  refine g_callIN (mc := 0) (ms := 0) (c' := 2) (s' := 11) (As := []) (st := [rf (kG X) 55, rf (kG X) 53]) e_Job_init_36 in_Job_30 rfl rfl my_Spot_init (by decide) rfl rfl (Nat.le_of_ble_eq_true rfl) rfl rfl ⟨Nat.le_trans (by decide) hrc, Nat.le_trans (by decide) hrs⟩ (fun _ h => c_Spot_init_55 h) (fun M7 _ => ?_)
  refine g_putR (t' := 54) hI e_Job_init_39 fr_Job_31 kq_53 (by decide) fj_0_10 (show rkl[53]? = some (53, 10) from rfl) (fun v hv => by obtain ⟨a, rfl⟩ := hv; exact ⟨rfl, rfl⟩) rfl rfl ?_
  refine g_aload_n e_Job_init_42 rfl ?_
  refine g_iconst (x := (1 : Int32)) e_Job_init_43 (by decide) ?_
  refine g_iconst (x := (0 : Int32)) e_Job_init_44 (by decide) ?_
  refine g_callV (rv := rvU) (As := [.int (1 : Int32), .int (0 : Int32)]) (st := []) e_Job_init_45 mv_Job_35 my_Job_foldBy (by decide) rfl rfl kq_53 (by decide) rfl (Nat.le_of_ble_eq_true rfl) rfl (fun r M1 h => c_Job_foldBy (Z := (2, 11, 56, iniT 54)) (by decide) kq_53 h) (fun _ M8 _ => ?_)
  exact g_vret e_Job_init_48 rfl
theorem c_Job_init_53 {l : Launch} {G : KG} {M M' : Mm} (h : f_Job_init_53 M = some ((), M')) : CT l G y_Job_init md_Job_init 2 11 [rf G 53] 54 (iniT 52) M none 56 (iniT 54) M' :=
  CT.ofI 0 (by decide) rfl (by show 1 ≤ 1; decide) rfl h (fun X _ hG hI h1 h2 => by subst hG; exact t_Job_init_53 hI h1 h2)
theorem x_Job_init_53 (M : Mm) : ∃ M', f_Job_init_53 M = some ((), M') := by
  unfold f_Job_init_53
  refine lT_ex ?_
  refine lT_ex ?_
  refine lT_ex ?_
  refine lT_ex ?_
  refine bD_ex (x_Leaf_init_54 _) (fun _ => ?_)
  refine lT_ex ?_
  refine bD_ex (x_Spot_init_55 _) (fun _ => ?_)
  refine bD_ex (fbI 53 _) (fun _ => ?_)
  exact ⟨_, rfl⟩
def f_Row_init_57 (M : Mm) : Option (Unit × Mm) := (lT (zr M 58) fun M1 => some ((), M1))
set_option maxHeartbeats 4000000 in
set_option maxRecDepth 20000 in
theorem t_Row_init_57 {X : KX} {M : Mm} (hI : (kt X).name = "<init>") (hrc : 1 ≤ (kr X).cells) (hrs : 100 ≤ (kr X).slots) : GO X md_Row_init (QE X rvU (1, 100, 59, iniT 56)) 0 [some (rf (kG X) 57), some (.int (100 : Int32))] [] (0, 0, 58, iniT 55) M (f_Row_init_57 M) := by
  unfold f_Row_init_57
  refine g_aload_n e_Row_init_0 rfl ?_
  refine g_objI e_Row_init_1 ⟨w_170, w_20, w_21⟩ rfl ⟨by decide, Nat.le_of_ble_eq_true rfl⟩ ?_
  refine g_aload_n e_Row_init_4 rfl ?_
  refine g_iload_n e_Row_init_5 rfl ?_
  refine g_if_le' e_Row_init_6 (fun h => absurd h (by decide)) (fun _ => ?_)
  refine g_iload_n e_Row_init_9 rfl ?_
  refine g_goto e_Row_init_10 ?_
  refine g_newI (N := 100) (c' := 1) (s' := 100) (n' := 59) e_Row_init_14 w_183 kq_58 (by decide) (by decide) rfl rfl rfl ⟨Nat.le_trans (by decide) hrc, Nat.le_trans (by decide) hrs⟩ (fun M1 => ?_)
  refine g_putR (t' := 56) hI e_Row_init_16 fr_Row_9 kq_57 (by decide) fj_4_0 (show rkl[55]? = some (57, 0) from rfl) (fun v hv => by obtain ⟨a, rfl⟩ := hv; exact ⟨rfl, rfl⟩) rfl rfl ?_
  exact g_vret e_Row_init_19 rfl
theorem c_Row_init_57 {l : Launch} {G : KG} {M M' : Mm} (h : f_Row_init_57 M = some ((), M')) : CT l G y_Row_init md_Row_init 1 100 [rf G 57, .int (100 : Int32)] 58 (iniT 55) M none 59 (iniT 56) M' :=
  CT.ofI 0 (by decide) rfl (by show 2 ≤ 2; decide) rfl h (fun X _ hG hI h1 h2 => by subst hG; exact t_Row_init_57 hI h1 h2)
theorem x_Row_init_57 (M : Mm) : ∃ M', f_Row_init_57 M = some ((), M') := by
  unfold f_Row_init_57
  refine lT_ex ?_
  exact ⟨_, rfl⟩
def f_Row_init_59 (M : Mm) : Option (Unit × Mm) := (lT (zr M 60) fun M1 => some ((), M1))
set_option maxHeartbeats 4000000 in
set_option maxRecDepth 20000 in
theorem t_Row_init_59 {X : KX} {M : Mm} (hI : (kt X).name = "<init>") (hrc : 1 ≤ (kr X).cells) (hrs : 10 ≤ (kr X).slots) : GO X md_Row_init (QE X rvU (1, 10, 61, iniT 58)) 0 [some (rf (kG X) 59), some (.int (10 : Int32))] [] (0, 0, 60, iniT 57) M (f_Row_init_59 M) := by
  unfold f_Row_init_59
  refine g_aload_n e_Row_init_0 rfl ?_
  refine g_objI e_Row_init_1 ⟨w_170, w_20, w_21⟩ rfl ⟨by decide, Nat.le_of_ble_eq_true rfl⟩ ?_
  refine g_aload_n e_Row_init_4 rfl ?_
  refine g_iload_n e_Row_init_5 rfl ?_
  refine g_if_le' e_Row_init_6 (fun h => absurd h (by decide)) (fun _ => ?_)
  refine g_iload_n e_Row_init_9 rfl ?_
  refine g_goto e_Row_init_10 ?_
  refine g_newI (N := 10) (c' := 1) (s' := 10) (n' := 61) e_Row_init_14 w_183 kq_60 (by decide) (by decide) rfl rfl rfl ⟨Nat.le_trans (by decide) hrc, Nat.le_trans (by decide) hrs⟩ (fun M1 => ?_)
  refine g_putR (t' := 58) hI e_Row_init_16 fr_Row_9 kq_59 (by decide) fj_4_0 (show rkl[57]? = some (59, 0) from rfl) (fun v hv => by obtain ⟨a, rfl⟩ := hv; exact ⟨rfl, rfl⟩) rfl rfl ?_
  exact g_vret e_Row_init_19 rfl
theorem c_Row_init_59 {l : Launch} {G : KG} {M M' : Mm} (h : f_Row_init_59 M = some ((), M')) : CT l G y_Row_init md_Row_init 1 10 [rf G 59, .int (10 : Int32)] 60 (iniT 57) M none 61 (iniT 58) M' :=
  CT.ofI 0 (by decide) rfl (by show 2 ≤ 2; decide) rfl h (fun X _ hG hI h1 h2 => by subst hG; exact t_Row_init_59 hI h1 h2)
theorem x_Row_init_59 (M : Mm) : ∃ M', f_Row_init_59 M = some ((), M') := by
  unfold f_Row_init_59
  refine lT_ex ?_
  exact ⟨_, rfl⟩
def f_Row_init_61 (M : Mm) : Option (Unit × Mm) := (lT (zr M 62) fun M1 => some ((), M1))
set_option maxHeartbeats 4000000 in
set_option maxRecDepth 20000 in
theorem t_Row_init_61 {X : KX} {M : Mm} (hI : (kt X).name = "<init>") (hrc : 1 ≤ (kr X).cells) (hrs : 10 ≤ (kr X).slots) : GO X md_Row_init (QE X rvU (1, 10, 63, iniT 60)) 0 [some (rf (kG X) 61), some (.int (10 : Int32))] [] (0, 0, 62, iniT 59) M (f_Row_init_61 M) := by
  unfold f_Row_init_61
  refine g_aload_n e_Row_init_0 rfl ?_
  refine g_objI e_Row_init_1 ⟨w_170, w_20, w_21⟩ rfl ⟨by decide, Nat.le_of_ble_eq_true rfl⟩ ?_
  refine g_aload_n e_Row_init_4 rfl ?_
  refine g_iload_n e_Row_init_5 rfl ?_
  refine g_if_le' e_Row_init_6 (fun h => absurd h (by decide)) (fun _ => ?_)
  refine g_iload_n e_Row_init_9 rfl ?_
  refine g_goto e_Row_init_10 ?_
  refine g_newI (N := 10) (c' := 1) (s' := 10) (n' := 63) e_Row_init_14 w_183 kq_62 (by decide) (by decide) rfl rfl rfl ⟨Nat.le_trans (by decide) hrc, Nat.le_trans (by decide) hrs⟩ (fun M1 => ?_)
  refine g_putR (t' := 60) hI e_Row_init_16 fr_Row_9 kq_61 (by decide) fj_4_0 (show rkl[59]? = some (61, 0) from rfl) (fun v hv => by obtain ⟨a, rfl⟩ := hv; exact ⟨rfl, rfl⟩) rfl rfl ?_
  exact g_vret e_Row_init_19 rfl
theorem c_Row_init_61 {l : Launch} {G : KG} {M M' : Mm} (h : f_Row_init_61 M = some ((), M')) : CT l G y_Row_init md_Row_init 1 10 [rf G 61, .int (10 : Int32)] 62 (iniT 59) M none 63 (iniT 60) M' :=
  CT.ofI 0 (by decide) rfl (by show 2 ≤ 2; decide) rfl h (fun X _ hG hI h1 h2 => by subst hG; exact t_Row_init_61 hI h1 h2)
theorem x_Row_init_61 (M : Mm) : ∃ M', f_Row_init_61 M = some ((), M') := by
  unfold f_Row_init_61
  refine lT_ex ?_
  exact ⟨_, rfl⟩
def f_Row_init_63 (M : Mm) : Option (Unit × Mm) := (lT (zr M 64) fun M1 => some ((), M1))
set_option maxHeartbeats 4000000 in
set_option maxRecDepth 20000 in
theorem t_Row_init_63 {X : KX} {M : Mm} (hI : (kt X).name = "<init>") (hrc : 1 ≤ (kr X).cells) (hrs : 10 ≤ (kr X).slots) : GO X md_Row_init (QE X rvU (1, 10, 65, iniT 62)) 0 [some (rf (kG X) 63), some (.int (10 : Int32))] [] (0, 0, 64, iniT 61) M (f_Row_init_63 M) := by
  unfold f_Row_init_63
  refine g_aload_n e_Row_init_0 rfl ?_
  refine g_objI e_Row_init_1 ⟨w_170, w_20, w_21⟩ rfl ⟨by decide, Nat.le_of_ble_eq_true rfl⟩ ?_
  refine g_aload_n e_Row_init_4 rfl ?_
  refine g_iload_n e_Row_init_5 rfl ?_
  refine g_if_le' e_Row_init_6 (fun h => absurd h (by decide)) (fun _ => ?_)
  refine g_iload_n e_Row_init_9 rfl ?_
  refine g_goto e_Row_init_10 ?_
  refine g_newI (N := 10) (c' := 1) (s' := 10) (n' := 65) e_Row_init_14 w_183 kq_64 (by decide) (by decide) rfl rfl rfl ⟨Nat.le_trans (by decide) hrc, Nat.le_trans (by decide) hrs⟩ (fun M1 => ?_)
  refine g_putR (t' := 62) hI e_Row_init_16 fr_Row_9 kq_63 (by decide) fj_4_0 (show rkl[61]? = some (63, 0) from rfl) (fun v hv => by obtain ⟨a, rfl⟩ := hv; exact ⟨rfl, rfl⟩) rfl rfl ?_
  exact g_vret e_Row_init_19 rfl
theorem c_Row_init_63 {l : Launch} {G : KG} {M M' : Mm} (h : f_Row_init_63 M = some ((), M')) : CT l G y_Row_init md_Row_init 1 10 [rf G 63, .int (10 : Int32)] 64 (iniT 61) M none 65 (iniT 62) M' :=
  CT.ofI 0 (by decide) rfl (by show 2 ≤ 2; decide) rfl h (fun X _ hG hI h1 h2 => by subst hG; exact t_Row_init_63 hI h1 h2)
theorem x_Row_init_63 (M : Mm) : ∃ M', f_Row_init_63 M = some ((), M') := by
  unfold f_Row_init_63
  refine lT_ex ?_
  exact ⟨_, rfl⟩
def f_Text_init_56 (M : Mm) : Option (Unit × Mm) := (lT (zr M 57) fun M1 => (bD (f_Row_init_57 M1) fun _ M2 => (lT (zr M2 59) fun M3 => (bD (f_Row_init_59 M3) fun _ M4 => (lT (zr M4 61) fun M5 => (bD (f_Row_init_61 M5) fun _ M6 => (lT (zr M6 63) fun M7 => (bD (f_Row_init_63 M7) fun _ M8 => some ((), M8)))))))))
set_option maxHeartbeats 4000000 in
set_option maxRecDepth 20000 in
theorem t_Text_init_56 {X : KX} {M : Mm} (hI : (kt X).name = "<init>") (hrc : 8 ≤ (kr X).cells) (hrs : 138 ≤ (kr X).slots) : GO X md_Text_init (QE X rvU (8, 138, 65, iniT 63)) 0 [some (rf (kG X) 56)] [] (0, 0, 57, iniT 55) M (f_Text_init_56 M) := by
  unfold f_Text_init_56
  refine g_aload_n e_Text_init_0 rfl ?_
  refine g_objI e_Text_init_1 ⟨w_258, w_20, w_21⟩ rfl ⟨by decide, Nat.le_of_ble_eq_true rfl⟩ ?_
  refine g_aload_n e_Text_init_4 rfl ?_
  refine g_new (c' := 1) (s' := 2) (n' := 58) e_Text_init_5 (show cls[4]? = some ("PressSheets$Row", tC4, 2) from rfl) ⟨w_259, w_166, w_7⟩ kq_57 yC4 pY4 dV4 (by decide +kernel) rfl rfl rfl ⟨Nat.le_trans (by decide) hrc, Nat.le_trans (by decide) hrs⟩ (fun M1 => ?_)
  refine g_dup e_Text_init_8 rfl ?_
  refine g_bipush (x := (100 : Int32)) e_Text_init_9 (by decide) ?_
  refine g_callI (mc := 1) (ms := 100) (c' := 2) (s' := 102) (As := [.int (100 : Int32)]) (st := [rf (kG X) 57, rf (kG X) 56]) e_Text_init_11 ix_Text_11 rfl rfl my_Row_init (by decide) rfl rfl (Nat.le_of_ble_eq_true rfl) rfl rfl ⟨Nat.le_trans (by decide) hrc, Nat.le_trans (by decide) hrs⟩ (fun _ h => c_Row_init_57 h) (fun M2 _ => ?_)
  refine g_putR (t' := 57) hI e_Text_init_14 fr_Text_14 kq_56 (by decide) fj_8_0 (show rkl[56]? = some (56, 0) from rfl) (fun v hv => by obtain ⟨a, rfl⟩ := hv; exact ⟨rfl, rfl⟩) rfl rfl ?_
  refine g_aload_n e_Text_init_17 rfl ?_
  refine g_new (c' := 3) (s' := 104) (n' := 60) e_Text_init_18 (show cls[4]? = some ("PressSheets$Row", tC4, 2) from rfl) ⟨w_259, w_166, w_7⟩ kq_59 yC4 pY4 dV4 (by decide +kernel) rfl rfl rfl ⟨Nat.le_trans (by decide) hrc, Nat.le_trans (by decide) hrs⟩ (fun M3 => ?_)
  refine g_dup e_Text_init_21 rfl ?_
  refine g_bipush (x := (10 : Int32)) e_Text_init_22 (by decide) ?_
  refine g_callI (mc := 1) (ms := 10) (c' := 4) (s' := 114) (As := [.int (10 : Int32)]) (st := [rf (kG X) 59, rf (kG X) 56]) e_Text_init_24 ix_Text_11 rfl rfl my_Row_init (by decide) rfl rfl (Nat.le_of_ble_eq_true rfl) rfl rfl ⟨Nat.le_trans (by decide) hrc, Nat.le_trans (by decide) hrs⟩ (fun _ h => c_Row_init_59 h) (fun M4 _ => ?_)
  refine g_putR (t' := 59) hI e_Text_init_27 fr_Text_20 kq_56 (by decide) fj_8_1 (show rkl[58]? = some (56, 1) from rfl) (fun v hv => by obtain ⟨a, rfl⟩ := hv; exact ⟨rfl, rfl⟩) rfl rfl ?_
  refine g_aload_n e_Text_init_30 rfl ?_
  refine g_new (c' := 5) (s' := 116) (n' := 62) e_Text_init_31 (show cls[4]? = some ("PressSheets$Row", tC4, 2) from rfl) ⟨w_259, w_166, w_7⟩ kq_61 yC4 pY4 dV4 (by decide +kernel) rfl rfl rfl ⟨Nat.le_trans (by decide) hrc, Nat.le_trans (by decide) hrs⟩ (fun M5 => ?_)
  refine g_dup e_Text_init_34 rfl ?_
  refine g_bipush (x := (10 : Int32)) e_Text_init_35 (by decide) ?_
  refine g_callI (mc := 1) (ms := 10) (c' := 6) (s' := 126) (As := [.int (10 : Int32)]) (st := [rf (kG X) 61, rf (kG X) 56]) e_Text_init_37 ix_Text_11 rfl rfl my_Row_init (by decide) rfl rfl (Nat.le_of_ble_eq_true rfl) rfl rfl ⟨Nat.le_trans (by decide) hrc, Nat.le_trans (by decide) hrs⟩ (fun _ h => c_Row_init_61 h) (fun M6 _ => ?_)
  refine g_putR (t' := 61) hI e_Text_init_40 fr_Text_23 kq_56 (by decide) fj_8_2 (show rkl[60]? = some (56, 2) from rfl) (fun v hv => by obtain ⟨a, rfl⟩ := hv; exact ⟨rfl, rfl⟩) rfl rfl ?_
  refine g_aload_n e_Text_init_43 rfl ?_
  refine g_new (c' := 7) (s' := 128) (n' := 64) e_Text_init_44 (show cls[4]? = some ("PressSheets$Row", tC4, 2) from rfl) ⟨w_259, w_166, w_7⟩ kq_63 yC4 pY4 dV4 (by decide +kernel) rfl rfl rfl ⟨Nat.le_trans (by decide) hrc, Nat.le_trans (by decide) hrs⟩ (fun M7 => ?_)
  refine g_dup e_Text_init_47 rfl ?_
  refine g_bipush (x := (10 : Int32)) e_Text_init_48 (by decide) ?_
  refine g_callI (mc := 1) (ms := 10) (c' := 8) (s' := 138) (As := [.int (10 : Int32)]) (st := [rf (kG X) 63, rf (kG X) 56]) e_Text_init_50 ix_Text_11 rfl rfl my_Row_init (by decide) rfl rfl (Nat.le_of_ble_eq_true rfl) rfl rfl ⟨Nat.le_trans (by decide) hrc, Nat.le_trans (by decide) hrs⟩ (fun _ h => c_Row_init_63 h) (fun M8 _ => ?_)
  refine g_putR (t' := 63) hI e_Text_init_53 fr_Text_26 kq_56 (by decide) fj_8_3 (show rkl[62]? = some (56, 3) from rfl) (fun v hv => by obtain ⟨a, rfl⟩ := hv; exact ⟨rfl, rfl⟩) rfl rfl ?_
  exact g_vret e_Text_init_56 rfl
theorem c_Text_init_56 {l : Launch} {G : KG} {M M' : Mm} (h : f_Text_init_56 M = some ((), M')) : CT l G y_Text_init md_Text_init 8 138 [rf G 56] 57 (iniT 55) M none 65 (iniT 63) M' :=
  CT.ofI 0 (by decide) rfl (by show 1 ≤ 1; decide) rfl h (fun X _ hG hI h1 h2 => by subst hG; exact t_Text_init_56 hI h1 h2)
theorem x_Text_init_56 (M : Mm) : ∃ M', f_Text_init_56 M = some ((), M') := by
  unfold f_Text_init_56
  refine lT_ex ?_
  refine bD_ex (x_Row_init_57 _) (fun _ => ?_)
  refine lT_ex ?_
  refine bD_ex (x_Row_init_59 _) (fun _ => ?_)
  refine lT_ex ?_
  refine bD_ex (x_Row_init_61 _) (fun _ => ?_)
  refine lT_ex ?_
  refine bD_ex (x_Row_init_63 _) (fun _ => ?_)
  exact ⟨_, rfl⟩
def f_Tape_init_66 (M : Mm) : Option (Unit × Mm) := (lT (wI M 66 0 (-1 : Int32)) fun M1 => (lT (zr M1 67) fun M2 => some ((), M2)))
set_option maxHeartbeats 4000000 in
set_option maxRecDepth 20000 in
theorem t_Tape_init_66 {X : KX} {M : Mm} (hI : (kt X).name = "<init>") (hrc : 1 ≤ (kr X).cells) (hrs : 60 ≤ (kr X).slots) : GO X md_Tape_init (QE X rvU (1, 60, 68, iniT 65)) 0 [some (rf (kG X) 66)] [] (0, 0, 67, iniT 64) M (f_Tape_init_66 M) := by
  unfold f_Tape_init_66
  refine g_aload_n e_Tape_init_0 rfl ?_
  refine g_objI e_Tape_init_1 ⟨w_287, w_20, w_21⟩ rfl ⟨by decide, Nat.le_of_ble_eq_true rfl⟩ ?_
  refine g_aload_n e_Tape_init_4 rfl ?_
  refine g_iconst (x := (-1 : Int32)) e_Tape_init_5 (by decide) ?_
  refine g_putL e_Tape_init_6 fp_Tape_11_ kq_66 (by decide) fj_7_0 rfl rfl (fun M1 => ?_)
  refine g_aload_n e_Tape_init_9 rfl ?_
  refine g_bipush (x := (60 : Int32)) e_Tape_init_10 (by decide) ?_
  refine g_newJ (N := 60) (c' := 1) (s' := 60) (n' := 68) e_Tape_init_12 w_300 kq_67 (by decide) (by decide) rfl rfl rfl ⟨Nat.le_trans (by decide) hrc, Nat.le_trans (by decide) hrs⟩ (fun M2 => ?_)
  refine g_putR (t' := 65) hI e_Tape_init_14 fr_Tape_15 kq_66 (by decide) fj_7_2 (show rkl[64]? = some (66, 2) from rfl) (fun v hv => by obtain ⟨a, rfl⟩ := hv; exact ⟨rfl, rfl⟩) rfl rfl ?_
  exact g_vret e_Tape_init_17 rfl
theorem c_Tape_init_66 {l : Launch} {G : KG} {M M' : Mm} (h : f_Tape_init_66 M = some ((), M')) : CT l G y_Tape_init md_Tape_init 1 60 [rf G 66] 67 (iniT 64) M none 68 (iniT 65) M' :=
  CT.ofI 0 (by decide) rfl (by show 1 ≤ 1; decide) rfl h (fun X _ hG hI h1 h2 => by subst hG; exact t_Tape_init_66 hI h1 h2)
theorem x_Tape_init_66 (M : Mm) : ∃ M', f_Tape_init_66 M = some ((), M') := by
  unfold f_Tape_init_66
  refine lT_ex ?_
  refine lT_ex ?_
  exact ⟨_, rfl⟩
def f_Tape_init_68 (M : Mm) : Option (Unit × Mm) := (lT (wI M 68 0 (-1 : Int32)) fun M1 => (lT (zr M1 69) fun M2 => some ((), M2)))
set_option maxHeartbeats 4000000 in
set_option maxRecDepth 20000 in
theorem t_Tape_init_68 {X : KX} {M : Mm} (hI : (kt X).name = "<init>") (hrc : 1 ≤ (kr X).cells) (hrs : 60 ≤ (kr X).slots) : GO X md_Tape_init (QE X rvU (1, 60, 70, iniT 67)) 0 [some (rf (kG X) 68)] [] (0, 0, 69, iniT 66) M (f_Tape_init_68 M) := by
  unfold f_Tape_init_68
  refine g_aload_n e_Tape_init_0 rfl ?_
  refine g_objI e_Tape_init_1 ⟨w_287, w_20, w_21⟩ rfl ⟨by decide, Nat.le_of_ble_eq_true rfl⟩ ?_
  refine g_aload_n e_Tape_init_4 rfl ?_
  refine g_iconst (x := (-1 : Int32)) e_Tape_init_5 (by decide) ?_
  refine g_putL e_Tape_init_6 fp_Tape_11_ kq_68 (by decide) fj_7_0 rfl rfl (fun M1 => ?_)
  refine g_aload_n e_Tape_init_9 rfl ?_
  refine g_bipush (x := (60 : Int32)) e_Tape_init_10 (by decide) ?_
  refine g_newJ (N := 60) (c' := 1) (s' := 60) (n' := 70) e_Tape_init_12 w_300 kq_69 (by decide) (by decide) rfl rfl rfl ⟨Nat.le_trans (by decide) hrc, Nat.le_trans (by decide) hrs⟩ (fun M2 => ?_)
  refine g_putR (t' := 67) hI e_Tape_init_14 fr_Tape_15 kq_68 (by decide) fj_7_2 (show rkl[66]? = some (68, 2) from rfl) (fun v hv => by obtain ⟨a, rfl⟩ := hv; exact ⟨rfl, rfl⟩) rfl rfl ?_
  exact g_vret e_Tape_init_17 rfl
theorem c_Tape_init_68 {l : Launch} {G : KG} {M M' : Mm} (h : f_Tape_init_68 M = some ((), M')) : CT l G y_Tape_init md_Tape_init 1 60 [rf G 68] 69 (iniT 66) M none 70 (iniT 67) M' :=
  CT.ofI 0 (by decide) rfl (by show 1 ≤ 1; decide) rfl h (fun X _ hG hI h1 h2 => by subst hG; exact t_Tape_init_68 hI h1 h2)
theorem x_Tape_init_68 (M : Mm) : ∃ M', f_Tape_init_68 M = some ((), M') := by
  unfold f_Tape_init_68
  refine lT_ex ?_
  refine lT_ex ?_
  exact ⟨_, rfl⟩
def f_Tape_init_70 (M : Mm) : Option (Unit × Mm) := (lT (wI M 70 0 (-1 : Int32)) fun M1 => (lT (zr M1 71) fun M2 => some ((), M2)))
set_option maxHeartbeats 4000000 in
set_option maxRecDepth 20000 in
theorem t_Tape_init_70 {X : KX} {M : Mm} (hI : (kt X).name = "<init>") (hrc : 1 ≤ (kr X).cells) (hrs : 60 ≤ (kr X).slots) : GO X md_Tape_init (QE X rvU (1, 60, 72, iniT 69)) 0 [some (rf (kG X) 70)] [] (0, 0, 71, iniT 68) M (f_Tape_init_70 M) := by
  unfold f_Tape_init_70
  refine g_aload_n e_Tape_init_0 rfl ?_
  refine g_objI e_Tape_init_1 ⟨w_287, w_20, w_21⟩ rfl ⟨by decide, Nat.le_of_ble_eq_true rfl⟩ ?_
  refine g_aload_n e_Tape_init_4 rfl ?_
  refine g_iconst (x := (-1 : Int32)) e_Tape_init_5 (by decide) ?_
  refine g_putL e_Tape_init_6 fp_Tape_11_ kq_70 (by decide) fj_7_0 rfl rfl (fun M1 => ?_)
  refine g_aload_n e_Tape_init_9 rfl ?_
  refine g_bipush (x := (60 : Int32)) e_Tape_init_10 (by decide) ?_
  refine g_newJ (N := 60) (c' := 1) (s' := 60) (n' := 72) e_Tape_init_12 w_300 kq_71 (by decide) (by decide) rfl rfl rfl ⟨Nat.le_trans (by decide) hrc, Nat.le_trans (by decide) hrs⟩ (fun M2 => ?_)
  refine g_putR (t' := 69) hI e_Tape_init_14 fr_Tape_15 kq_70 (by decide) fj_7_2 (show rkl[68]? = some (70, 2) from rfl) (fun v hv => by obtain ⟨a, rfl⟩ := hv; exact ⟨rfl, rfl⟩) rfl rfl ?_
  exact g_vret e_Tape_init_17 rfl
theorem c_Tape_init_70 {l : Launch} {G : KG} {M M' : Mm} (h : f_Tape_init_70 M = some ((), M')) : CT l G y_Tape_init md_Tape_init 1 60 [rf G 70] 71 (iniT 68) M none 72 (iniT 69) M' :=
  CT.ofI 0 (by decide) rfl (by show 1 ≤ 1; decide) rfl h (fun X _ hG hI h1 h2 => by subst hG; exact t_Tape_init_70 hI h1 h2)
theorem x_Tape_init_70 (M : Mm) : ∃ M', f_Tape_init_70 M = some ((), M') := by
  unfold f_Tape_init_70
  refine lT_ex ?_
  refine lT_ex ?_
  exact ⟨_, rfl⟩
def f_Tape_init_72 (M : Mm) : Option (Unit × Mm) := (lT (wI M 72 0 (-1 : Int32)) fun M1 => (lT (zr M1 73) fun M2 => some ((), M2)))
set_option maxHeartbeats 4000000 in
set_option maxRecDepth 20000 in
theorem t_Tape_init_72 {X : KX} {M : Mm} (hI : (kt X).name = "<init>") (hrc : 1 ≤ (kr X).cells) (hrs : 60 ≤ (kr X).slots) : GO X md_Tape_init (QE X rvU (1, 60, 74, iniT 71)) 0 [some (rf (kG X) 72)] [] (0, 0, 73, iniT 70) M (f_Tape_init_72 M) := by
  unfold f_Tape_init_72
  refine g_aload_n e_Tape_init_0 rfl ?_
  refine g_objI e_Tape_init_1 ⟨w_287, w_20, w_21⟩ rfl ⟨by decide, Nat.le_of_ble_eq_true rfl⟩ ?_
  refine g_aload_n e_Tape_init_4 rfl ?_
  refine g_iconst (x := (-1 : Int32)) e_Tape_init_5 (by decide) ?_
  refine g_putL e_Tape_init_6 fp_Tape_11_ kq_72 (by decide) fj_7_0 rfl rfl (fun M1 => ?_)
  refine g_aload_n e_Tape_init_9 rfl ?_
  refine g_bipush (x := (60 : Int32)) e_Tape_init_10 (by decide) ?_
  refine g_newJ (N := 60) (c' := 1) (s' := 60) (n' := 74) e_Tape_init_12 w_300 kq_73 (by decide) (by decide) rfl rfl rfl ⟨Nat.le_trans (by decide) hrc, Nat.le_trans (by decide) hrs⟩ (fun M2 => ?_)
  refine g_putR (t' := 71) hI e_Tape_init_14 fr_Tape_15 kq_72 (by decide) fj_7_2 (show rkl[70]? = some (72, 2) from rfl) (fun v hv => by obtain ⟨a, rfl⟩ := hv; exact ⟨rfl, rfl⟩) rfl rfl ?_
  exact g_vret e_Tape_init_17 rfl
theorem c_Tape_init_72 {l : Launch} {G : KG} {M M' : Mm} (h : f_Tape_init_72 M = some ((), M')) : CT l G y_Tape_init md_Tape_init 1 60 [rf G 72] 73 (iniT 70) M none 74 (iniT 71) M' :=
  CT.ofI 0 (by decide) rfl (by show 1 ≤ 1; decide) rfl h (fun X _ hG hI h1 h2 => by subst hG; exact t_Tape_init_72 hI h1 h2)
theorem x_Tape_init_72 (M : Mm) : ∃ M', f_Tape_init_72 M = some ((), M') := by
  unfold f_Tape_init_72
  refine lT_ex ?_
  refine lT_ex ?_
  exact ⟨_, rfl⟩
def f_Tape_init_74 (M : Mm) : Option (Unit × Mm) := (lT (wI M 74 0 (-1 : Int32)) fun M1 => (lT (zr M1 75) fun M2 => some ((), M2)))
set_option maxHeartbeats 4000000 in
set_option maxRecDepth 20000 in
theorem t_Tape_init_74 {X : KX} {M : Mm} (hI : (kt X).name = "<init>") (hrc : 1 ≤ (kr X).cells) (hrs : 60 ≤ (kr X).slots) : GO X md_Tape_init (QE X rvU (1, 60, 76, iniT 73)) 0 [some (rf (kG X) 74)] [] (0, 0, 75, iniT 72) M (f_Tape_init_74 M) := by
  unfold f_Tape_init_74
  refine g_aload_n e_Tape_init_0 rfl ?_
  refine g_objI e_Tape_init_1 ⟨w_287, w_20, w_21⟩ rfl ⟨by decide, Nat.le_of_ble_eq_true rfl⟩ ?_
  refine g_aload_n e_Tape_init_4 rfl ?_
  refine g_iconst (x := (-1 : Int32)) e_Tape_init_5 (by decide) ?_
  refine g_putL e_Tape_init_6 fp_Tape_11_ kq_74 (by decide) fj_7_0 rfl rfl (fun M1 => ?_)
  refine g_aload_n e_Tape_init_9 rfl ?_
  refine g_bipush (x := (60 : Int32)) e_Tape_init_10 (by decide) ?_
  refine g_newJ (N := 60) (c' := 1) (s' := 60) (n' := 76) e_Tape_init_12 w_300 kq_75 (by decide) (by decide) rfl rfl rfl ⟨Nat.le_trans (by decide) hrc, Nat.le_trans (by decide) hrs⟩ (fun M2 => ?_)
  refine g_putR (t' := 73) hI e_Tape_init_14 fr_Tape_15 kq_74 (by decide) fj_7_2 (show rkl[72]? = some (74, 2) from rfl) (fun v hv => by obtain ⟨a, rfl⟩ := hv; exact ⟨rfl, rfl⟩) rfl rfl ?_
  exact g_vret e_Tape_init_17 rfl
theorem c_Tape_init_74 {l : Launch} {G : KG} {M M' : Mm} (h : f_Tape_init_74 M = some ((), M')) : CT l G y_Tape_init md_Tape_init 1 60 [rf G 74] 75 (iniT 72) M none 76 (iniT 73) M' :=
  CT.ofI 0 (by decide) rfl (by show 1 ≤ 1; decide) rfl h (fun X _ hG hI h1 h2 => by subst hG; exact t_Tape_init_74 hI h1 h2)
theorem x_Tape_init_74 (M : Mm) : ∃ M', f_Tape_init_74 M = some ((), M') := by
  unfold f_Tape_init_74
  refine lT_ex ?_
  refine lT_ex ?_
  exact ⟨_, rfl⟩
def f_Tape_init_76 (M : Mm) : Option (Unit × Mm) := (lT (wI M 76 0 (-1 : Int32)) fun M1 => (lT (zr M1 77) fun M2 => some ((), M2)))
set_option maxHeartbeats 4000000 in
set_option maxRecDepth 20000 in
theorem t_Tape_init_76 {X : KX} {M : Mm} (hI : (kt X).name = "<init>") (hrc : 1 ≤ (kr X).cells) (hrs : 60 ≤ (kr X).slots) : GO X md_Tape_init (QE X rvU (1, 60, 78, iniT 75)) 0 [some (rf (kG X) 76)] [] (0, 0, 77, iniT 74) M (f_Tape_init_76 M) := by
  unfold f_Tape_init_76
  refine g_aload_n e_Tape_init_0 rfl ?_
  refine g_objI e_Tape_init_1 ⟨w_287, w_20, w_21⟩ rfl ⟨by decide, Nat.le_of_ble_eq_true rfl⟩ ?_
  refine g_aload_n e_Tape_init_4 rfl ?_
  refine g_iconst (x := (-1 : Int32)) e_Tape_init_5 (by decide) ?_
  refine g_putL e_Tape_init_6 fp_Tape_11_ kq_76 (by decide) fj_7_0 rfl rfl (fun M1 => ?_)
  refine g_aload_n e_Tape_init_9 rfl ?_
  refine g_bipush (x := (60 : Int32)) e_Tape_init_10 (by decide) ?_
  refine g_newJ (N := 60) (c' := 1) (s' := 60) (n' := 78) e_Tape_init_12 w_300 kq_77 (by decide) (by decide) rfl rfl rfl ⟨Nat.le_trans (by decide) hrc, Nat.le_trans (by decide) hrs⟩ (fun M2 => ?_)
  refine g_putR (t' := 75) hI e_Tape_init_14 fr_Tape_15 kq_76 (by decide) fj_7_2 (show rkl[74]? = some (76, 2) from rfl) (fun v hv => by obtain ⟨a, rfl⟩ := hv; exact ⟨rfl, rfl⟩) rfl rfl ?_
  exact g_vret e_Tape_init_17 rfl
theorem c_Tape_init_76 {l : Launch} {G : KG} {M M' : Mm} (h : f_Tape_init_76 M = some ((), M')) : CT l G y_Tape_init md_Tape_init 1 60 [rf G 76] 77 (iniT 74) M none 78 (iniT 75) M' :=
  CT.ofI 0 (by decide) rfl (by show 1 ≤ 1; decide) rfl h (fun X _ hG hI h1 h2 => by subst hG; exact t_Tape_init_76 hI h1 h2)
theorem x_Tape_init_76 (M : Mm) : ∃ M', f_Tape_init_76 M = some ((), M') := by
  unfold f_Tape_init_76
  refine lT_ex ?_
  refine lT_ex ?_
  exact ⟨_, rfl⟩
def f_PS_init_0 (M : Mm) : Option (Unit × Mm) := (lT (zr M 1) fun M1 => (bD (f_State_init_1 M1) fun _ M2 => (lT (zr M2 27) fun M3 => (bD (f_State_init_27 M3) fun _ M4 => (lT (zr M4 53) fun M5 => (bD (f_Job_init_53 M5) fun _ M6 => (lT (zr M6 56) fun M7 => (bD (f_Text_init_56 M7) fun _ M8 => (lT (zr M8 65) fun M9 => (lT (zr M9 66) fun M10 => (bD (f_Tape_init_66 M10) fun _ M11 => (lT (zr M11 68) fun M12 => (bD (f_Tape_init_68 M12) fun _ M13 => (lT (zr M13 70) fun M14 => (bD (f_Tape_init_70 M14) fun _ M15 => (lT (zr M15 72) fun M16 => (bD (f_Tape_init_72 M16) fun _ M17 => (lT (zr M17 74) fun M18 => (bD (f_Tape_init_74 M18) fun _ M19 => (lT (zr M19 76) fun M20 => (bD (f_Tape_init_76 M20) fun _ M21 => some ((), M21))))))))))))))))))))))
set_option maxHeartbeats 4000000 in
set_option maxRecDepth 20000 in
theorem t_PS_init_0 {X : KX} {M : Mm} (hI : (kt X).name = "<init>") (hrc : 77 ≤ (kr X).cells) (hrs : 1287 ≤ (kr X).slots) : GO X md_PS_init (QE X rvU (77, 1287, 78, iniT 77)) 0 [some (rf (kG X) 0)] [] (0, 0, 1, iniT 0) M (f_PS_init_0 M) := by
  unfold f_PS_init_0
  refine g_aload_n e_PS_init_0 rfl ?_
  refine g_objI e_PS_init_1 ⟨w_19, w_20, w_21⟩ rfl ⟨by decide, Nat.le_of_ble_eq_true rfl⟩ ?_
  refine g_aload_n e_PS_init_4 rfl ?_
  refine g_new (c' := 1) (s' := 7) (n' := 2) e_PS_init_5 (show cls[6]? = some ("PressSheets$State", tC6, 7) from rfl) ⟨w_22, w_23, w_2⟩ kq_1 yC6 pY6 dV6 (by decide +kernel) rfl rfl rfl ⟨Nat.le_trans (by decide) hrc, Nat.le_trans (by decide) hrs⟩ (fun M1 => ?_)
  refine g_dup e_PS_init_8 rfl ?_
  refine g_callIN (mc := 25) (ms := 362) (c' := 26) (s' := 369) (As := []) (st := [rf (kG X) 1, rf (kG X) 0]) e_PS_init_9 in_PS_11 rfl rfl my_State_init (by decide) rfl rfl (Nat.le_of_ble_eq_true rfl) rfl rfl ⟨Nat.le_trans (by decide) hrc, Nat.le_trans (by decide) hrs⟩ (fun _ h => c_State_init_1 h) (fun M2 _ => ?_)
  refine g_putR (t' := 26) hI e_PS_init_12 fr_PS_12 kq_0 (by decide) fj_9_0 (show rkl[25]? = some (0, 0) from rfl) (fun v hv => by obtain ⟨a, rfl⟩ := hv; exact ⟨rfl, rfl⟩) rfl rfl ?_
  refine g_aload_n e_PS_init_15 rfl ?_
  refine g_new (c' := 27) (s' := 376) (n' := 28) e_PS_init_16 (show cls[6]? = some ("PressSheets$State", tC6, 7) from rfl) ⟨w_22, w_23, w_2⟩ kq_27 yC6 pY6 dV6 (by decide +kernel) rfl rfl rfl ⟨Nat.le_trans (by decide) hrc, Nat.le_trans (by decide) hrs⟩ (fun M3 => ?_)
  refine g_dup e_PS_init_19 rfl ?_
  refine g_callIN (mc := 25) (ms := 362) (c' := 52) (s' := 738) (As := []) (st := [rf (kG X) 27, rf (kG X) 0]) e_PS_init_20 in_PS_11 rfl rfl my_State_init (by decide) rfl rfl (Nat.le_of_ble_eq_true rfl) rfl rfl ⟨Nat.le_trans (by decide) hrc, Nat.le_trans (by decide) hrs⟩ (fun _ h => c_State_init_27 h) (fun M4 _ => ?_)
  refine g_putR (t' := 52) hI e_PS_init_23 fr_PS_18 kq_0 (by decide) fj_9_1 (show rkl[51]? = some (0, 1) from rfl) (fun v hv => by obtain ⟨a, rfl⟩ := hv; exact ⟨rfl, rfl⟩) rfl rfl ?_
  refine g_aload_n e_PS_init_26 rfl ?_
  refine g_new (c' := 53) (s' := 749) (n' := 54) e_PS_init_27 (show cls[0]? = some ("PressSheets$Job", tC0, 11) from rfl) ⟨w_251, w_29, w_3⟩ kq_53 yC0 pY0 dV0 (by decide +kernel) rfl rfl rfl ⟨Nat.le_trans (by decide) hrc, Nat.le_trans (by decide) hrs⟩ (fun M5 => ?_)
  refine g_dup e_PS_init_30 rfl ?_
  refine g_callI (mc := 2) (ms := 11) (c' := 55) (s' := 760) (As := []) (st := [rf (kG X) 53, rf (kG X) 0]) e_PS_init_31 ix_PS_23 rfl rfl my_Job_init (by decide) rfl rfl (Nat.le_of_ble_eq_true rfl) rfl rfl ⟨Nat.le_trans (by decide) hrc, Nat.le_trans (by decide) hrs⟩ (fun _ h => c_Job_init_53 h) (fun M6 _ => ?_)
  refine g_putR (t' := 55) hI e_PS_init_34 fr_PS_24 kq_0 (by decide) fj_9_3 (show rkl[54]? = some (0, 3) from rfl) (fun v hv => by obtain ⟨a, rfl⟩ := hv; exact ⟨rfl, rfl⟩) rfl rfl ?_
  refine g_aload_n e_PS_init_37 rfl ?_
  refine g_new (c' := 56) (s' := 765) (n' := 57) e_PS_init_38 (show cls[8]? = some ("PressSheets$Text", tC8, 5) from rfl) ⟨w_253, w_254, w_9⟩ kq_56 yC8 pY8 dV8 (by decide +kernel) rfl rfl rfl ⟨Nat.le_trans (by decide) hrc, Nat.le_trans (by decide) hrs⟩ (fun M7 => ?_)
  refine g_dup e_PS_init_41 rfl ?_
  refine g_callIN (mc := 8) (ms := 138) (c' := 64) (s' := 903) (As := []) (st := [rf (kG X) 56, rf (kG X) 0]) e_PS_init_42 in_PS_30 rfl rfl my_Text_init (by decide) rfl rfl (Nat.le_of_ble_eq_true rfl) rfl rfl ⟨Nat.le_trans (by decide) hrc, Nat.le_trans (by decide) hrs⟩ (fun _ h => c_Text_init_56 h) (fun M8 _ => ?_)
  refine g_putR (t' := 64) hI e_PS_init_45 fr_PS_31 kq_0 (by decide) fj_9_4 (show rkl[63]? = some (0, 4) from rfl) (fun v hv => by obtain ⟨a, rfl⟩ := hv; exact ⟨rfl, rfl⟩) rfl rfl ?_
  refine g_aload_n e_PS_init_48 rfl ?_
  refine g_bipush (x := (6 : Int32)) e_PS_init_49 (by decide) ?_
  refine g_newT (c' := 65) (s' := 909) (n' := 66) e_PS_init_51 w_281 kq_65 (by decide) (by decide +kernel) rfl rfl rfl ⟨Nat.le_trans (by decide) hrc, Nat.le_trans (by decide) hrs⟩ (fun M9 => ?_)
  refine g_dup e_PS_init_54 rfl ?_
  refine g_iconst (x := (0 : Int32)) e_PS_init_55 (by decide) ?_
  refine g_new (c' := 66) (s' := 912) (n' := 67) e_PS_init_56 (show cls[7]? = some ("PressSheets$Tape", tC7, 3) from rfl) ⟨w_281, w_283, w_10⟩ kq_66 yC7 pY7 dV7 (by decide +kernel) rfl rfl rfl ⟨Nat.le_trans (by decide) hrc, Nat.le_trans (by decide) hrs⟩ (fun M10 => ?_)
  refine g_dup e_PS_init_59 rfl ?_
  refine g_callIN (mc := 1) (ms := 60) (c' := 67) (s' := 972) (As := []) (st := [rf (kG X) 66, .int (0 : Int32), rf (kG X) 65, rf (kG X) 65, rf (kG X) 0]) e_PS_init_60 in_PS_37 rfl rfl my_Tape_init (by decide) rfl rfl (Nat.le_of_ble_eq_true rfl) rfl rfl ⟨Nat.le_trans (by decide) hrc, Nat.le_trans (by decide) hrs⟩ (fun _ h => c_Tape_init_66 h) (fun M11 _ => ?_)
  refine g_aast (j := 0) (t' := 66) e_PS_init_63 kq_65 (by decide) kq_66 (by decide) (by decide) (by decide) (show rkl[65]? = some (65, 0) from rfl) rfl rfl ?_
  refine g_dup e_PS_init_64 rfl ?_
  refine g_iconst (x := (1 : Int32)) e_PS_init_65 (by decide) ?_
  refine g_new (c' := 68) (s' := 975) (n' := 69) e_PS_init_66 (show cls[7]? = some ("PressSheets$Tape", tC7, 3) from rfl) ⟨w_281, w_283, w_10⟩ kq_68 yC7 pY7 dV7 (by decide +kernel) rfl rfl rfl ⟨Nat.le_trans (by decide) hrc, Nat.le_trans (by decide) hrs⟩ (fun M12 => ?_)
  refine g_dup e_PS_init_69 rfl ?_
  refine g_callIN (mc := 1) (ms := 60) (c' := 69) (s' := 1035) (As := []) (st := [rf (kG X) 68, .int (1 : Int32), rf (kG X) 65, rf (kG X) 65, rf (kG X) 0]) e_PS_init_70 in_PS_37 rfl rfl my_Tape_init (by decide) rfl rfl (Nat.le_of_ble_eq_true rfl) rfl rfl ⟨Nat.le_trans (by decide) hrc, Nat.le_trans (by decide) hrs⟩ (fun _ h => c_Tape_init_68 h) (fun M13 _ => ?_)
  refine g_aast (j := 1) (t' := 68) e_PS_init_73 kq_65 (by decide) kq_68 (by decide) (by decide) (by decide) (show rkl[67]? = some (65, 1) from rfl) rfl rfl ?_
  refine g_dup e_PS_init_74 rfl ?_
  refine g_iconst (x := (2 : Int32)) e_PS_init_75 (by decide) ?_
  refine g_new (c' := 70) (s' := 1038) (n' := 71) e_PS_init_76 (show cls[7]? = some ("PressSheets$Tape", tC7, 3) from rfl) ⟨w_281, w_283, w_10⟩ kq_70 yC7 pY7 dV7 (by decide +kernel) rfl rfl rfl ⟨Nat.le_trans (by decide) hrc, Nat.le_trans (by decide) hrs⟩ (fun M14 => ?_)
  refine g_dup e_PS_init_79 rfl ?_
  refine g_callIN (mc := 1) (ms := 60) (c' := 71) (s' := 1098) (As := []) (st := [rf (kG X) 70, .int (2 : Int32), rf (kG X) 65, rf (kG X) 65, rf (kG X) 0]) e_PS_init_80 in_PS_37 rfl rfl my_Tape_init (by decide) rfl rfl (Nat.le_of_ble_eq_true rfl) rfl rfl ⟨Nat.le_trans (by decide) hrc, Nat.le_trans (by decide) hrs⟩ (fun _ h => c_Tape_init_70 h) (fun M15 _ => ?_)
  refine g_aast (j := 2) (t' := 70) e_PS_init_83 kq_65 (by decide) kq_70 (by decide) (by decide) (by decide) (show rkl[69]? = some (65, 2) from rfl) rfl rfl ?_
  refine g_dup e_PS_init_84 rfl ?_
  refine g_iconst (x := (3 : Int32)) e_PS_init_85 (by decide) ?_
  refine g_new (c' := 72) (s' := 1101) (n' := 73) e_PS_init_86 (show cls[7]? = some ("PressSheets$Tape", tC7, 3) from rfl) ⟨w_281, w_283, w_10⟩ kq_72 yC7 pY7 dV7 (by decide +kernel) rfl rfl rfl ⟨Nat.le_trans (by decide) hrc, Nat.le_trans (by decide) hrs⟩ (fun M16 => ?_)
  refine g_dup e_PS_init_89 rfl ?_
  refine g_callIN (mc := 1) (ms := 60) (c' := 73) (s' := 1161) (As := []) (st := [rf (kG X) 72, .int (3 : Int32), rf (kG X) 65, rf (kG X) 65, rf (kG X) 0]) e_PS_init_90 in_PS_37 rfl rfl my_Tape_init (by decide) rfl rfl (Nat.le_of_ble_eq_true rfl) rfl rfl ⟨Nat.le_trans (by decide) hrc, Nat.le_trans (by decide) hrs⟩ (fun _ h => c_Tape_init_72 h) (fun M17 _ => ?_)
  refine g_aast (j := 3) (t' := 72) e_PS_init_93 kq_65 (by decide) kq_72 (by decide) (by decide) (by decide) (show rkl[71]? = some (65, 3) from rfl) rfl rfl ?_
  refine g_dup e_PS_init_94 rfl ?_
  refine g_iconst (x := (4 : Int32)) e_PS_init_95 (by decide) ?_
  refine g_new (c' := 74) (s' := 1164) (n' := 75) e_PS_init_96 (show cls[7]? = some ("PressSheets$Tape", tC7, 3) from rfl) ⟨w_281, w_283, w_10⟩ kq_74 yC7 pY7 dV7 (by decide +kernel) rfl rfl rfl ⟨Nat.le_trans (by decide) hrc, Nat.le_trans (by decide) hrs⟩ (fun M18 => ?_)
  refine g_dup e_PS_init_99 rfl ?_
  refine g_callIN (mc := 1) (ms := 60) (c' := 75) (s' := 1224) (As := []) (st := [rf (kG X) 74, .int (4 : Int32), rf (kG X) 65, rf (kG X) 65, rf (kG X) 0]) e_PS_init_100 in_PS_37 rfl rfl my_Tape_init (by decide) rfl rfl (Nat.le_of_ble_eq_true rfl) rfl rfl ⟨Nat.le_trans (by decide) hrc, Nat.le_trans (by decide) hrs⟩ (fun _ h => c_Tape_init_74 h) (fun M19 _ => ?_)
  refine g_aast (j := 4) (t' := 74) e_PS_init_103 kq_65 (by decide) kq_74 (by decide) (by decide) (by decide) (show rkl[73]? = some (65, 4) from rfl) rfl rfl ?_
  refine g_dup e_PS_init_104 rfl ?_
  refine g_iconst (x := (5 : Int32)) e_PS_init_105 (by decide) ?_
  refine g_new (c' := 76) (s' := 1227) (n' := 77) e_PS_init_106 (show cls[7]? = some ("PressSheets$Tape", tC7, 3) from rfl) ⟨w_281, w_283, w_10⟩ kq_76 yC7 pY7 dV7 (by decide +kernel) rfl rfl rfl ⟨Nat.le_trans (by decide) hrc, Nat.le_trans (by decide) hrs⟩ (fun M20 => ?_)
  refine g_dup e_PS_init_109 rfl ?_
  refine g_callIN (mc := 1) (ms := 60) (c' := 77) (s' := 1287) (As := []) (st := [rf (kG X) 76, .int (5 : Int32), rf (kG X) 65, rf (kG X) 65, rf (kG X) 0]) e_PS_init_110 in_PS_37 rfl rfl my_Tape_init (by decide) rfl rfl (Nat.le_of_ble_eq_true rfl) rfl rfl ⟨Nat.le_trans (by decide) hrc, Nat.le_trans (by decide) hrs⟩ (fun _ h => c_Tape_init_76 h) (fun M21 _ => ?_)
  refine g_aast (j := 5) (t' := 76) e_PS_init_113 kq_65 (by decide) kq_76 (by decide) (by decide) (by decide) (show rkl[75]? = some (65, 5) from rfl) rfl rfl ?_
  refine g_putR (t' := 77) hI e_PS_init_114 fr_PS_38 kq_0 (by decide) fj_9_5 (show rkl[76]? = some (0, 5) from rfl) (fun v hv => by obtain ⟨a, rfl⟩ := hv; exact ⟨rfl, rfl⟩) rfl rfl ?_
  exact g_vret e_PS_init_117 rfl
theorem c_PS_init_0 {l : Launch} {G : KG} {M M' : Mm} (h : f_PS_init_0 M = some ((), M')) : CT l G y_PS_init md_PS_init 77 1287 [rf G 0] 1 (iniT 0) M none 78 (iniT 77) M' :=
  CT.ofI 0 (by decide) rfl (by show 1 ≤ 1; decide) rfl h (fun X _ hG hI h1 h2 => by subst hG; exact t_PS_init_0 hI h1 h2)
theorem x_PS_init_0 (M : Mm) : ∃ M', f_PS_init_0 M = some ((), M') := by
  unfold f_PS_init_0
  refine lT_ex ?_
  refine bD_ex (x_State_init_1 _) (fun _ => ?_)
  refine lT_ex ?_
  refine bD_ex (x_State_init_27 _) (fun _ => ?_)
  refine lT_ex ?_
  refine bD_ex (x_Job_init_53 _) (fun _ => ?_)
  refine lT_ex ?_
  refine bD_ex (x_Text_init_56 _) (fun _ => ?_)
  refine lT_ex ?_
  refine lT_ex ?_
  refine bD_ex (x_Tape_init_66 _) (fun _ => ?_)
  refine lT_ex ?_
  refine bD_ex (x_Tape_init_68 _) (fun _ => ?_)
  refine lT_ex ?_
  refine bD_ex (x_Tape_init_70 _) (fun _ => ?_)
  refine lT_ex ?_
  refine bD_ex (x_Tape_init_72 _) (fun _ => ?_)
  refine lT_ex ?_
  refine bD_ex (x_Tape_init_74 _) (fun _ => ?_)
  refine lT_ex ?_
  refine bD_ex (x_Tape_init_76 _) (fun _ => ?_)
  exact ⟨_, rfl⟩
def f_MD_init_78 (M : Mm) : Option (Unit × Mm) := (lT (wI M 78 1 (1 : Int32)) fun M1 => (lT (wI M1 78 2 (4 : Int32)) fun M2 => (lT (wI M2 78 5 (100 : Int32)) fun M3 => (lT (wI M3 78 6 (1 : Int32)) fun M4 => (lT (zr M4 79) fun M5 => (lT (zr M5 80) fun M6 => (lT (zr M6 81) fun M7 => (lT (zr M7 82) fun M8 => (lT (zr M8 83) fun M9 => (lT (zr M9 84) fun M10 => (lT (zr M10 85) fun M11 => (lT (zr M11 86) fun M12 => (lT (zr M12 87) fun M13 => (lT (zr M13 88) fun M14 => (lT (zr M14 89) fun M15 => (lT (zr M15 90) fun M16 => (lT (zr M16 91) fun M17 => (lT (zr M17 92) fun M18 => (lT (zr M18 93) fun M19 => (lT (zr M19 94) fun M20 => (lT (zr M20 95) fun M21 => (lT (zr M21 96) fun M22 => (lT (zr M22 97) fun M23 => (lT (zr M23 98) fun M24 => (lT (zr M24 99) fun M25 => (lT (wI M25 96 0 (-1 : Int32)) fun M26 => (lT (wI M26 96 1 (-1 : Int32)) fun M27 => (lT (wI M27 96 2 (-1 : Int32)) fun M28 => (lT (wI M28 96 3 (-1 : Int32)) fun M29 => (lT (wI M29 96 4 (-1 : Int32)) fun M30 => (lT (wI M30 96 5 (-1 : Int32)) fun M31 => some ((), M31))))))))))))))))))))))))))))))))
set_option maxHeartbeats 4000000 in
set_option maxRecDepth 20000 in
theorem t_MD_init_78 {X : KX} {M : Mm} (hI : (kt X).name = "<init>") (hrc : 21 ≤ (kr X).cells) (hrs : 1389 ≤ (kr X).slots) : GO X md_MD_init (QE X rvU (21, 1389, 100, iniT 98)) 0 [some (rf (kG X) 78), none] [] (0, 0, 79, iniT 77) M (f_MD_init_78 M) := by
  unfold f_MD_init_78
  refine g_aload_n e_MD_init_0 rfl ?_
  refine g_objI e_MD_init_1 ⟨w_826, w_20, w_21⟩ rfl ⟨by decide, Nat.le_of_ble_eq_true rfl⟩ ?_
  refine g_aload_n e_MD_init_4 rfl ?_
  refine g_iconst (x := (1 : Int32)) e_MD_init_5 (by decide) ?_
  refine g_putL e_MD_init_6 fp_MD_9_ kq_78 (by decide) fj_10_1 rfl rfl (fun M1 => ?_)
  refine g_aload_n e_MD_init_9 rfl ?_
  refine g_iconst (x := (4 : Int32)) e_MD_init_10 (by decide) ?_
  refine g_putL e_MD_init_11 fp_MD_15_ kq_78 (by decide) fj_10_2 rfl rfl (fun M2 => ?_)
  refine g_aload_n e_MD_init_14 rfl ?_
  refine g_bipush (x := (100 : Int32)) e_MD_init_15 (by decide) ?_
  refine g_putL e_MD_init_17 fp_MD_18_ kq_78 (by decide) fj_10_5 rfl rfl (fun M3 => ?_)
  refine g_aload_n e_MD_init_20 rfl ?_
  refine g_iconst (x := (1 : Int32)) e_MD_init_21 (by decide) ?_
  refine g_putL e_MD_init_22 fp_MD_21_ kq_78 (by decide) fj_10_6 rfl rfl (fun M4 => ?_)
  refine g_aload_n e_MD_init_25 rfl ?_
  refine g_bipush (x := (16 : Int32)) e_MD_init_26 (by decide) ?_
  refine g_newI (N := 16) (c' := 1) (s' := 16) (n' := 80) e_MD_init_28 w_183 kq_79 (by decide) (by decide) rfl rfl rfl ⟨Nat.le_trans (by decide) hrc, Nat.le_trans (by decide) hrs⟩ (fun M5 => ?_)
  refine g_putR (t' := 78) hI e_MD_init_30 fr_MD_24 kq_78 (by decide) fj_10_7 (show rkl[77]? = some (78, 7) from rfl) (fun v hv => by obtain ⟨a, rfl⟩ := hv; exact ⟨rfl, rfl⟩) rfl rfl ?_
  refine g_aload_n e_MD_init_33 rfl ?_
  refine g_bipush (x := (16 : Int32)) e_MD_init_34 (by decide) ?_
  refine g_newI (N := 16) (c' := 2) (s' := 32) (n' := 81) e_MD_init_36 w_183 kq_80 (by decide) (by decide) rfl rfl rfl ⟨Nat.le_trans (by decide) hrc, Nat.le_trans (by decide) hrs⟩ (fun M6 => ?_)
  refine g_putR (t' := 79) hI e_MD_init_38 fr_MD_28 kq_78 (by decide) fj_10_8 (show rkl[78]? = some (78, 8) from rfl) (fun v hv => by obtain ⟨a, rfl⟩ := hv; exact ⟨rfl, rfl⟩) rfl rfl ?_
  refine g_aload_n e_MD_init_41 rfl ?_
  refine g_bipush (x := (16 : Int32)) e_MD_init_42 (by decide) ?_
  refine g_newI (N := 16) (c' := 3) (s' := 48) (n' := 82) e_MD_init_44 w_183 kq_81 (by decide) (by decide) rfl rfl rfl ⟨Nat.le_trans (by decide) hrc, Nat.le_trans (by decide) hrs⟩ (fun M7 => ?_)
  refine g_putR (t' := 80) hI e_MD_init_46 fr_MD_31 kq_78 (by decide) fj_10_9 (show rkl[79]? = some (78, 9) from rfl) (fun v hv => by obtain ⟨a, rfl⟩ := hv; exact ⟨rfl, rfl⟩) rfl rfl ?_
  refine g_aload_n e_MD_init_49 rfl ?_
  refine g_bipush (x := (16 : Int32)) e_MD_init_50 (by decide) ?_
  refine g_newI (N := 16) (c' := 4) (s' := 64) (n' := 83) e_MD_init_52 w_183 kq_82 (by decide) (by decide) rfl rfl rfl ⟨Nat.le_trans (by decide) hrc, Nat.le_trans (by decide) hrs⟩ (fun M8 => ?_)
  refine g_putR (t' := 81) hI e_MD_init_54 fr_MD_34 kq_78 (by decide) fj_10_10 (show rkl[80]? = some (78, 10) from rfl) (fun v hv => by obtain ⟨a, rfl⟩ := hv; exact ⟨rfl, rfl⟩) rfl rfl ?_
  refine g_aload_n e_MD_init_57 rfl ?_
  refine g_bipush (x := (16 : Int32)) e_MD_init_58 (by decide) ?_
  refine g_newI (N := 16) (c' := 5) (s' := 80) (n' := 84) e_MD_init_60 w_183 kq_83 (by decide) (by decide) rfl rfl rfl ⟨Nat.le_trans (by decide) hrc, Nat.le_trans (by decide) hrs⟩ (fun M9 => ?_)
  refine g_putR (t' := 82) hI e_MD_init_62 fr_MD_37 kq_78 (by decide) fj_10_11 (show rkl[81]? = some (78, 11) from rfl) (fun v hv => by obtain ⟨a, rfl⟩ := hv; exact ⟨rfl, rfl⟩) rfl rfl ?_
  refine g_aload_n e_MD_init_65 rfl ?_
  refine g_bipush (x := (16 : Int32)) e_MD_init_66 (by decide) ?_
  refine g_newI (N := 16) (c' := 6) (s' := 96) (n' := 85) e_MD_init_68 w_183 kq_84 (by decide) (by decide) rfl rfl rfl ⟨Nat.le_trans (by decide) hrc, Nat.le_trans (by decide) hrs⟩ (fun M10 => ?_)
  refine g_putR (t' := 83) hI e_MD_init_70 fr_MD_40 kq_78 (by decide) fj_10_12 (show rkl[82]? = some (78, 12) from rfl) (fun v hv => by obtain ⟨a, rfl⟩ := hv; exact ⟨rfl, rfl⟩) rfl rfl ?_
  refine g_aload_n e_MD_init_73 rfl ?_
  refine g_bipush (x := (40 : Int32)) e_MD_init_74 (by decide) ?_
  refine g_newI (N := 40) (c' := 7) (s' := 136) (n' := 86) e_MD_init_76 w_183 kq_85 (by decide) (by decide) rfl rfl rfl ⟨Nat.le_trans (by decide) hrc, Nat.le_trans (by decide) hrs⟩ (fun M11 => ?_)
  refine g_putR (t' := 84) hI e_MD_init_78 fr_MD_43 kq_78 (by decide) fj_10_15 (show rkl[83]? = some (78, 15) from rfl) (fun v hv => by obtain ⟨a, rfl⟩ := hv; exact ⟨rfl, rfl⟩) rfl rfl ?_
  refine g_aload_n e_MD_init_81 rfl ?_
  refine g_bipush (x := (64 : Int32)) e_MD_init_82 (by decide) ?_
  refine g_newI (N := 64) (c' := 8) (s' := 200) (n' := 87) e_MD_init_84 w_183 kq_86 (by decide) (by decide) rfl rfl rfl ⟨Nat.le_trans (by decide) hrc, Nat.le_trans (by decide) hrs⟩ (fun M12 => ?_)
  refine g_putR (t' := 85) hI e_MD_init_86 fr_MD_46 kq_78 (by decide) fj_10_17 (show rkl[84]? = some (78, 17) from rfl) (fun v hv => by obtain ⟨a, rfl⟩ := hv; exact ⟨rfl, rfl⟩) rfl rfl ?_
  refine g_aload_n e_MD_init_89 rfl ?_
  refine g_bipush (x := (60 : Int32)) e_MD_init_90 (by decide) ?_
  refine g_newI (N := 60) (c' := 9) (s' := 260) (n' := 88) e_MD_init_92 w_183 kq_87 (by decide) (by decide) rfl rfl rfl ⟨Nat.le_trans (by decide) hrc, Nat.le_trans (by decide) hrs⟩ (fun M13 => ?_)
  refine g_putR (t' := 86) hI e_MD_init_94 fr_MD_49 kq_78 (by decide) fj_10_19 (show rkl[85]? = some (78, 19) from rfl) (fun v hv => by obtain ⟨a, rfl⟩ := hv; exact ⟨rfl, rfl⟩) rfl rfl ?_
  refine g_aload_n e_MD_init_97 rfl ?_
  refine g_bipush (x := (60 : Int32)) e_MD_init_98 (by decide) ?_
  refine g_newI (N := 60) (c' := 10) (s' := 320) (n' := 89) e_MD_init_100 w_183 kq_88 (by decide) (by decide) rfl rfl rfl ⟨Nat.le_trans (by decide) hrc, Nat.le_trans (by decide) hrs⟩ (fun M14 => ?_)
  refine g_putR (t' := 87) hI e_MD_init_102 fr_MD_52 kq_78 (by decide) fj_10_20 (show rkl[86]? = some (78, 20) from rfl) (fun v hv => by obtain ⟨a, rfl⟩ := hv; exact ⟨rfl, rfl⟩) rfl rfl ?_
  refine g_aload_n e_MD_init_105 rfl ?_
  refine g_bipush (x := (60 : Int32)) e_MD_init_106 (by decide) ?_
  refine g_newI (N := 60) (c' := 11) (s' := 380) (n' := 90) e_MD_init_108 w_183 kq_89 (by decide) (by decide) rfl rfl rfl ⟨Nat.le_trans (by decide) hrc, Nat.le_trans (by decide) hrs⟩ (fun M15 => ?_)
  refine g_putR (t' := 88) hI e_MD_init_110 fr_MD_55 kq_78 (by decide) fj_10_21 (show rkl[87]? = some (78, 21) from rfl) (fun v hv => by obtain ⟨a, rfl⟩ := hv; exact ⟨rfl, rfl⟩) rfl rfl ?_
  refine g_aload_n e_MD_init_113 rfl ?_
  refine g_bipush (x := (20 : Int32)) e_MD_init_114 (by decide) ?_
  refine g_newI (N := 20) (c' := 12) (s' := 400) (n' := 91) e_MD_init_116 w_183 kq_90 (by decide) (by decide) rfl rfl rfl ⟨Nat.le_trans (by decide) hrc, Nat.le_trans (by decide) hrs⟩ (fun M16 => ?_)
  refine g_putR (t' := 89) hI e_MD_init_118 fr_MD_58 kq_78 (by decide) fj_10_27 (show rkl[88]? = some (78, 27) from rfl) (fun v hv => by obtain ⟨a, rfl⟩ := hv; exact ⟨rfl, rfl⟩) rfl rfl ?_
  refine g_aload_n e_MD_init_121 rfl ?_
  refine g_bipush (x := (16 : Int32)) e_MD_init_122 (by decide) ?_
  refine g_newI (N := 16) (c' := 13) (s' := 416) (n' := 92) e_MD_init_124 w_183 kq_91 (by decide) (by decide) rfl rfl rfl ⟨Nat.le_trans (by decide) hrc, Nat.le_trans (by decide) hrs⟩ (fun M17 => ?_)
  refine g_putR (t' := 90) hI e_MD_init_126 fr_MD_61 kq_78 (by decide) fj_10_29 (show rkl[89]? = some (78, 29) from rfl) (fun v hv => by obtain ⟨a, rfl⟩ := hv; exact ⟨rfl, rfl⟩) rfl rfl ?_
  refine g_aload_n e_MD_init_129 rfl ?_
  refine g_bipush (x := (100 : Int32)) e_MD_init_130 (by decide) ?_
  refine g_newI (N := 100) (c' := 14) (s' := 516) (n' := 93) e_MD_init_132 w_183 kq_92 (by decide) (by decide) rfl rfl rfl ⟨Nat.le_trans (by decide) hrc, Nat.le_trans (by decide) hrs⟩ (fun M18 => ?_)
  refine g_putR (t' := 91) hI e_MD_init_134 fr_MD_64 kq_78 (by decide) fj_10_31 (show rkl[90]? = some (78, 31) from rfl) (fun v hv => by obtain ⟨a, rfl⟩ := hv; exact ⟨rfl, rfl⟩) rfl rfl ?_
  refine g_aload_n e_MD_init_137 rfl ?_
  refine g_bipush (x := (30 : Int32)) e_MD_init_138 (by decide) ?_
  refine g_newI (N := 30) (c' := 15) (s' := 546) (n' := 94) e_MD_init_140 w_183 kq_93 (by decide) (by decide) rfl rfl rfl ⟨Nat.le_trans (by decide) hrc, Nat.le_trans (by decide) hrs⟩ (fun M19 => ?_)
  refine g_putR (t' := 92) hI e_MD_init_142 fr_MD_67 kq_78 (by decide) fj_10_34 (show rkl[91]? = some (78, 34) from rfl) (fun v hv => by obtain ⟨a, rfl⟩ := hv; exact ⟨rfl, rfl⟩) rfl rfl ?_
  refine g_aload_n e_MD_init_145 rfl ?_
  refine g_sipush (x := (400 : Int32)) e_MD_init_146 (by decide) ?_
  refine g_newI (N := 400) (c' := 16) (s' := 946) (n' := 95) e_MD_init_149 w_183 kq_94 (by decide) (by decide) rfl rfl rfl ⟨Nat.le_trans (by decide) hrc, Nat.le_trans (by decide) hrs⟩ (fun M20 => ?_)
  refine g_putR (t' := 93) hI e_MD_init_151 fr_MD_70 kq_78 (by decide) fj_10_35 (show rkl[92]? = some (78, 35) from rfl) (fun v hv => by obtain ⟨a, rfl⟩ := hv; exact ⟨rfl, rfl⟩) rfl rfl ?_
  refine g_aload_n e_MD_init_154 rfl ?_
  refine g_bipush (x := (11 : Int32)) e_MD_init_155 (by decide) ?_
  refine g_newI (N := 11) (c' := 17) (s' := 957) (n' := 96) e_MD_init_157 w_183 kq_95 (by decide) (by decide) rfl rfl rfl ⟨Nat.le_trans (by decide) hrc, Nat.le_trans (by decide) hrs⟩ (fun M21 => ?_)
  refine g_putR (t' := 94) hI e_MD_init_159 fr_MD_73 kq_78 (by decide) fj_10_37 (show rkl[93]? = some (78, 37) from rfl) (fun v hv => by obtain ⟨a, rfl⟩ := hv; exact ⟨rfl, rfl⟩) rfl rfl ?_
  refine g_aload_n e_MD_init_162 rfl ?_
  refine g_bipush (x := (6 : Int32)) e_MD_init_163 (by decide) ?_
  refine g_newI (N := 6) (c' := 18) (s' := 963) (n' := 97) e_MD_init_165 w_183 kq_96 (by decide) (by decide) rfl rfl rfl ⟨Nat.le_trans (by decide) hrc, Nat.le_trans (by decide) hrs⟩ (fun M22 => ?_)
  refine g_putR (t' := 95) hI e_MD_init_167 fr_MD_76 kq_78 (by decide) fj_10_38 (show rkl[94]? = some (78, 38) from rfl) (fun v hv => by obtain ⟨a, rfl⟩ := hv; exact ⟨rfl, rfl⟩) rfl rfl ?_
  refine g_aload_n e_MD_init_170 rfl ?_
  refine g_bipush (x := (6 : Int32)) e_MD_init_171 (by decide) ?_
  refine g_newI (N := 6) (c' := 19) (s' := 969) (n' := 98) e_MD_init_173 w_183 kq_97 (by decide) (by decide) rfl rfl rfl ⟨Nat.le_trans (by decide) hrc, Nat.le_trans (by decide) hrs⟩ (fun M23 => ?_)
  refine g_putR (t' := 96) hI e_MD_init_175 fr_MD_79 kq_78 (by decide) fj_10_39 (show rkl[95]? = some (78, 39) from rfl) (fun v hv => by obtain ⟨a, rfl⟩ := hv; exact ⟨rfl, rfl⟩) rfl rfl ?_
  refine g_aload_n e_MD_init_178 rfl ?_
  refine g_sipush (x := (360 : Int32)) e_MD_init_179 (by decide) ?_
  refine g_newJ (N := 360) (c' := 20) (s' := 1329) (n' := 99) e_MD_init_182 w_300 kq_98 (by decide) (by decide) rfl rfl rfl ⟨Nat.le_trans (by decide) hrc, Nat.le_trans (by decide) hrs⟩ (fun M24 => ?_)
  refine g_putR (t' := 97) hI e_MD_init_184 fr_MD_82 kq_78 (by decide) fj_10_40 (show rkl[96]? = some (78, 40) from rfl) (fun v hv => by obtain ⟨a, rfl⟩ := hv; exact ⟨rfl, rfl⟩) rfl rfl ?_
  refine g_aload_n e_MD_init_187 rfl ?_
  refine g_bipush (x := (60 : Int32)) e_MD_init_188 (by decide) ?_
  refine g_newJ (N := 60) (c' := 21) (s' := 1389) (n' := 100) e_MD_init_190 w_300 kq_99 (by decide) (by decide) rfl rfl rfl ⟨Nat.le_trans (by decide) hrc, Nat.le_trans (by decide) hrs⟩ (fun M25 => ?_)
  refine g_putR (t' := 98) hI e_MD_init_192 fr_MD_86 kq_78 (by decide) fj_10_41 (show rkl[97]? = some (78, 41) from rfl) (fun v hv => by obtain ⟨a, rfl⟩ := hv; exact ⟨rfl, rfl⟩) rfl rfl ?_
  refine g_iconst (x := (0 : Int32)) e_MD_init_195 (by decide) ?_
  refine g_istore_n e_MD_init_196 (by decide) rfl ?_
  refine g_iload_n e_MD_init_197 rfl ?_
  refine g_bipush (x := (6 : Int32)) e_MD_init_198 (by decide) ?_
  refine g_icmp_ge' e_MD_init_200 (fun h => absurd h (by decide)) (fun _ => ?_)
  refine g_aload_n e_MD_init_203 rfl ?_
  refine g_getR e_MD_init_204 fl_MD_76_ kq_78 (by decide) (by decide +kernel) fj_10_38 ?_
  refine g_iload_n e_MD_init_207 rfl ?_
  refine g_iconst (x := (-1 : Int32)) e_MD_init_208 (by decide) ?_
  refine g_iastK (n := 6) (i := 0) e_MD_init_209 kq_96 (by decide) (by decide) (by decide) (by decide) (fun M26 => ?_)
  refine g_iinc (y := (1 : Int32)) e_MD_init_210 rfl (by decide) (by decide) rfl ?_
  refine g_goto e_MD_init_213 ?_
  refine g_iload_n e_MD_init_197 rfl ?_
  refine g_bipush (x := (6 : Int32)) e_MD_init_198 (by decide) ?_
  refine g_icmp_ge' e_MD_init_200 (fun h => absurd h (by decide)) (fun _ => ?_)
  refine g_aload_n e_MD_init_203 rfl ?_
  refine g_getR e_MD_init_204 fl_MD_76_ kq_78 (by decide) (by decide +kernel) fj_10_38 ?_
  refine g_iload_n e_MD_init_207 rfl ?_
  refine g_iconst (x := (-1 : Int32)) e_MD_init_208 (by decide) ?_
  refine g_iastK (n := 6) (i := 1) e_MD_init_209 kq_96 (by decide) (by decide) (by decide) (by decide) (fun M27 => ?_)
  refine g_iinc (y := (2 : Int32)) e_MD_init_210 rfl (by decide) (by decide) rfl ?_
  refine g_goto e_MD_init_213 ?_
  refine g_iload_n e_MD_init_197 rfl ?_
  refine g_bipush (x := (6 : Int32)) e_MD_init_198 (by decide) ?_
  refine g_icmp_ge' e_MD_init_200 (fun h => absurd h (by decide)) (fun _ => ?_)
  refine g_aload_n e_MD_init_203 rfl ?_
  refine g_getR e_MD_init_204 fl_MD_76_ kq_78 (by decide) (by decide +kernel) fj_10_38 ?_
  refine g_iload_n e_MD_init_207 rfl ?_
  refine g_iconst (x := (-1 : Int32)) e_MD_init_208 (by decide) ?_
  refine g_iastK (n := 6) (i := 2) e_MD_init_209 kq_96 (by decide) (by decide) (by decide) (by decide) (fun M28 => ?_)
  refine g_iinc (y := (3 : Int32)) e_MD_init_210 rfl (by decide) (by decide) rfl ?_
  refine g_goto e_MD_init_213 ?_
  refine g_iload_n e_MD_init_197 rfl ?_
  refine g_bipush (x := (6 : Int32)) e_MD_init_198 (by decide) ?_
  refine g_icmp_ge' e_MD_init_200 (fun h => absurd h (by decide)) (fun _ => ?_)
  refine g_aload_n e_MD_init_203 rfl ?_
  refine g_getR e_MD_init_204 fl_MD_76_ kq_78 (by decide) (by decide +kernel) fj_10_38 ?_
  refine g_iload_n e_MD_init_207 rfl ?_
  refine g_iconst (x := (-1 : Int32)) e_MD_init_208 (by decide) ?_
  refine g_iastK (n := 6) (i := 3) e_MD_init_209 kq_96 (by decide) (by decide) (by decide) (by decide) (fun M29 => ?_)
  refine g_iinc (y := (4 : Int32)) e_MD_init_210 rfl (by decide) (by decide) rfl ?_
  refine g_goto e_MD_init_213 ?_
  refine g_iload_n e_MD_init_197 rfl ?_
  refine g_bipush (x := (6 : Int32)) e_MD_init_198 (by decide) ?_
  refine g_icmp_ge' e_MD_init_200 (fun h => absurd h (by decide)) (fun _ => ?_)
  refine g_aload_n e_MD_init_203 rfl ?_
  refine g_getR e_MD_init_204 fl_MD_76_ kq_78 (by decide) (by decide +kernel) fj_10_38 ?_
  refine g_iload_n e_MD_init_207 rfl ?_
  refine g_iconst (x := (-1 : Int32)) e_MD_init_208 (by decide) ?_
  refine g_iastK (n := 6) (i := 4) e_MD_init_209 kq_96 (by decide) (by decide) (by decide) (by decide) (fun M30 => ?_)
  refine g_iinc (y := (5 : Int32)) e_MD_init_210 rfl (by decide) (by decide) rfl ?_
  refine g_goto e_MD_init_213 ?_
  refine g_iload_n e_MD_init_197 rfl ?_
  refine g_bipush (x := (6 : Int32)) e_MD_init_198 (by decide) ?_
  refine g_icmp_ge' e_MD_init_200 (fun h => absurd h (by decide)) (fun _ => ?_)
  refine g_aload_n e_MD_init_203 rfl ?_
  refine g_getR e_MD_init_204 fl_MD_76_ kq_78 (by decide) (by decide +kernel) fj_10_38 ?_
  refine g_iload_n e_MD_init_207 rfl ?_
  refine g_iconst (x := (-1 : Int32)) e_MD_init_208 (by decide) ?_
  refine g_iastK (n := 6) (i := 5) e_MD_init_209 kq_96 (by decide) (by decide) (by decide) (by decide) (fun M31 => ?_)
  refine g_iinc (y := (6 : Int32)) e_MD_init_210 rfl (by decide) (by decide) rfl ?_
  refine g_goto e_MD_init_213 ?_
  refine g_iload_n e_MD_init_197 rfl ?_
  refine g_bipush (x := (6 : Int32)) e_MD_init_198 (by decide) ?_
  refine g_icmp_ge' e_MD_init_200 (fun _ => ?_) (fun h => absurd (by decide) h)
  exact g_vret e_MD_init_216 rfl
theorem c_MD_init_78 {l : Launch} {G : KG} {M M' : Mm} (h : f_MD_init_78 M = some ((), M')) : CT l G y_MD_init md_MD_init 21 1389 [rf G 78] 79 (iniT 77) M none 100 (iniT 98) M' :=
  CT.ofI 1 (by decide) rfl (by show 1 ≤ 2; decide) rfl h (fun X _ hG hI h1 h2 => by subst hG; exact t_MD_init_78 hI h1 h2)
theorem x_MD_init_78 (M : Mm) : ∃ M', f_MD_init_78 M = some ((), M') := by
  unfold f_MD_init_78
  refine lT_ex ?_
  refine lT_ex ?_
  refine lT_ex ?_
  refine lT_ex ?_
  refine lT_ex ?_
  refine lT_ex ?_
  refine lT_ex ?_
  refine lT_ex ?_
  refine lT_ex ?_
  refine lT_ex ?_
  refine lT_ex ?_
  refine lT_ex ?_
  refine lT_ex ?_
  refine lT_ex ?_
  refine lT_ex ?_
  refine lT_ex ?_
  refine lT_ex ?_
  refine lT_ex ?_
  refine lT_ex ?_
  refine lT_ex ?_
  refine lT_ex ?_
  refine lT_ex ?_
  refine lT_ex ?_
  refine lT_ex ?_
  refine lT_ex ?_
  refine lT_ex ?_
  refine lT_ex ?_
  refine lT_ex ?_
  refine lT_ex ?_
  refine lT_ex ?_
  refine lT_ex ?_
  exact ⟨_, rfl⟩
end
section
/-! the law's start: what the tables give; its first rows -/
theorem law_inst : ∀ (ci : Nat) (C : String) (T : u_T) (N : Nat), cls[ci]? = some (C, T, N) → Cond.instantiable C N ∈ gtb := by
  intro ci C T N h
  match ci, h with
  | 0, h => cases h; exact lw_r 29 (by decide +kernel)
  | 1, h => cases h; exact lw_r 35 (by decide +kernel)
  | 2, h => cases h; exact lw_r 196 (by decide +kernel)
  | 3, h => cases h; exact lw_r 160 (by decide +kernel)
  | 4, h => cases h; exact lw_r 166 (by decide +kernel)
  | 5, h => cases h; exact lw_r 65 (by decide +kernel)
  | 6, h => cases h; exact lw_r 23 (by decide +kernel)
  | 7, h => cases h; exact lw_r 283 (by decide +kernel)
  | 8, h => cases h; exact lw_r 254 (by decide +kernel)
  | 9, h => cases h; exact lw_r 15 (by decide +kernel)
  | 10, h => cases h; exact lw_r 822 (by decide +kernel)
  | _ + 11, h => cases h
theorem ntb_in : ∀ q ∈ ntb, Cond.methodLinkNest q.1 q.2.1 q.2.2.1 q.2.2.2 ∈ lw_tbl := by
  have h : ntb.all (fun q => decide (Cond.methodLinkNest q.1 q.2.1 q.2.2.1 q.2.2.2 ∈ lw_tbl)) = true := by decide +kernel
  intro q hq
  exact of_decide_eq_true (List.all_eq_true.mp h q hq)
theorem law_known {args : Array Value} {s : State} (hts : ∀ w ∈ lw_tbl, w.before args s = true) : ∃ G : KG, k0 G = s.heap.size ∧ VK G s := by
  have htg : ∀ w ∈ gtb, w.before args s = true := fun w hw => hts w (gtb_in hw)
  have hcl : ∀ ci : Nat, ∃ (cC : ClassId) (iS : Nat → Nat), ∀ q : vw_C, cls[ci]? = some q → u_Kn s q.1 q.2.1 q.2.2 cC iS := by
    intro ci
    cases h : cls[ci]? with
    | none => exact ⟨(0 : Nat), fun _ => 0, fun q hq => by cases hq⟩
    | some r =>
      obtain ⟨C, T, N⟩ := r
      obtain ⟨cC, iS, hK⟩ := u_known htg (cK _ _ _ _ h).1 (htg _ (law_inst _ _ _ _ h))
      exact ⟨cC, iS, fun q hq => by cases hq; exact hK⟩
  obtain ⟨cI, kI, coI, i1, i2, i3⟩ := Cond.arrayClass_spec (hts (.arrayClass .int) (List.mem_append_right _ (List.mem_of_getElem? (i := 183) (by decide +kernel))))
  obtain ⟨cJ, kJ, coJ, j1, j2, j3⟩ := Cond.arrayClass_spec (hts (.arrayClass .long) (List.mem_append_right _ (List.mem_of_getElem? (i := 300) (by decide +kernel))))
  have hAO := hts (.arrayOver (.object "PressSheets$Tape")) (List.mem_append_right _ (List.mem_of_getElem? (i := 282) (by decide +kernel)))
  obtain ⟨coT, cT, kT, t1, t2, t3, t4, t5⟩ := Cond.arrayOver_spec hAO
  refine ⟨((fun c => Classical.choose (hcl c), fun c => Classical.choose (Classical.choose_spec (hcl c))), cI, cJ, cT, s.heap.size), rfl, ⟨fun c q hq => Classical.choose_spec (Classical.choose_spec (hcl c)) q hq, fun k q hk => ?_⟩, fun q hq => va_Nw.of rfl (hts _ (ntb_in q hq)), va_AO.of hAO⟩
  match k, hk with
  | 0, hk => cases hk; exact ⟨fun n z => ⟨fun k h => (by cases h), kI, i2, coI, i3⟩, i1⟩
  | 1, hk => cases hk; exact ⟨fun n z => ⟨fun k h => (by cases h), kJ, j2, coJ, j3⟩, j1⟩
  | 2, hk => cases hk; exact ⟨fun n z => ⟨fun k h => (by cases h), kT, t3, coT, t4⟩, kT, coT, t3, t4, t1, t5⟩
  | _ + 3, hk => cases hk
section LAWR
variable {α : Type} {X : KX} {d : MD} {Q : α → Mm → State → Prop} {pc pc' : Nat} {ls : List (Option Value)} {st : List Value} {Z : ZZ} {M : Mm} {o : Option (α × Mm)} {b L : Nat} {xs : Nat → Int32} {x : Int32}
theorem g_aloadS_n {n : Fin 4} (hd : dc d.2.1 pc pc' (.aload_n n) 1) (hv : ls[(n : Nat)]? = some (some (.ref b))) (kk : GO X d Q pc' ls (.ref b :: st) Z M o) : GO X d Q pc ls st Z M o := by
  obtain ⟨hd, rfl⟩ := hd
  intro K r M' ho H locs lsA hW hS hL hc hs
  exact lv_aload_n K.1 K.2.1 hd rfl (hL.at hv) (kk K r M' ho H locs lsA hW hS hL hc hs)
theorem g_slen (hX : va_X b L xs (ks X) (ks X).heap) (hbl : b < (ks X).heap.size) (hbA : b < k0 (kG X)) (hd : dc d.2.1 pc pc' .arraylength 1) (kk : GO X d Q pc' ls (.int (Int32.ofNat L) :: st) Z M o) : GO X d Q pc ls (.ref b :: st) Z M o := by
  obtain ⟨hd, rfl⟩ := hd
  intro K r M' ho H locs lsA hW hS hL hc hs
  exact va_slen K.1 K.2.1 hX hbl (by show ¬ k0 (kG X) ≤ b; omega) hS hd (kk K r M' ho H locs lsA hW hS hL hc hs)
theorem g_sldG (hX : va_X b L xs (ks X) (ks X).heap) (hbl : b < (ks X).heap.size) (hbA : b < k0 (kG X)) (hd : dc d.2.1 pc pc' .iaload 1) (kk : GO X d Q pc' ls (.int (xs x.toNatClampNeg) :: st) Z M o) : GO X d Q pc ls (.int x :: .ref b :: st) Z M (if ib x L = true then o else none) := g_grd fun h => by
  obtain ⟨hd, rfl⟩ := hd
  intro K r M' ho H locs lsA hW hS hL hc hs
  exact va_sld K.1 K.2.1 hX hbl (by show ¬ k0 (kG X) ≤ b; omega) hS (ib_in h) hd (kk K r M' ho H locs lsA hW hS hL hc hs)
end LAWR
theorem ix_Law_9 : IX "PressSheetsLaw" 9 y_PS_init := ⟨lw_r 16 (by decide +kernel), lw_r 17 (by decide +kernel)⟩
theorem ix_Law_12 : IX "PressSheetsLaw" 12 y_MD_init := ⟨lw_r 823 (by decide +kernel), lw_r 824 (by decide +kernel)⟩
theorem wl_14 : Cond.classLink "PressSheetsLaw" 7 "PressSheets" ∈ gtb := lw_r 14 (by decide +kernel)
theorem wl_821 : Cond.classLink "PressSheetsLaw" 10 "PressSheetsModel" ∈ gtb := lw_r 821 (by decide +kernel)
theorem wl_1 : Cond.initialized "PressSheets" ∈ gtb := lw_r 1 (by decide +kernel)
theorem wl_11 : Cond.initialized "PressSheetsModel" ∈ gtb := lw_r 11 (by decide +kernel)
/-- the two objects are made; then the loop's head -/
def fL_start (kk : Mm → Option (Int32 × Mm)) (M : Mm) : Option (Int32 × Mm) := lT (zr M 0) fun M1 => bD (f_PS_init_0 M1) fun _ M2 => lT (zr M2 78) fun M3 => bD (f_MD_init_78 M3) fun _ M4 => kk M4
set_option maxHeartbeats 4000000 in
set_option maxRecDepth 20000 in
theorem tL_start {X : KX} {Q : Int32 → Mm → State → Prop} {M : Mm} {b : Nat} {kk : Mm → Option (Int32 × Mm)} (hrc : 100 ≤ (kr X).cells) (hrs : 2724 ≤ (kr X).slots)
    (hk : ∀ M1, GO X md_Law_law Q 18 [some (.ref b), some (rf (kG X) 0), some (rf (kG X) 78), some (.int (0 : Int32))] [] (100, 2724, 100, iniT 98) M1 (kk M1)) :
    GO X md_Law_law Q 0 [some (.ref b), none, none, none] [] (0, 0, 0, iniT 0) M (fL_start kk M) := by
  unfold fL_start
  refine g_new (c' := 1) (s' := 6) (n' := 1) e_Law_law_0 (show cls[9]? = some ("PressSheets", tC9, 6) from rfl) ⟨wl_14, law_inst 9 _ _ _ rfl, wl_1⟩ kq_0 yC9 pY9 dV9 (by decide +kernel) rfl rfl rfl ⟨Nat.le_trans (by decide) hrc, Nat.le_trans (by decide) hrs⟩ (fun M1 => ?_)
  refine g_dup e_Law_law_3 rfl ?_
  refine g_callI (mc := 77) (ms := 1287) (c' := 78) (s' := 1293) (As := []) (st := [rf (kG X) 0]) e_Law_law_4 ix_Law_9 rfl rfl my_PS_init (by decide) rfl rfl (Nat.le_of_ble_eq_true rfl) rfl rfl ⟨Nat.le_trans (by decide) hrc, Nat.le_trans (by decide) hrs⟩ (fun _ h => c_PS_init_0 h) (fun M2 _ => ?_)
  refine g_astore_n e_Law_law_7 (by decide) rfl ?_
  refine g_new (c' := 79) (s' := 1335) (n' := 79) e_Law_law_8 (show cls[10]? = some ("PressSheetsModel", tC10, 42) from rfl) ⟨wl_821, law_inst 10 _ _ _ rfl, wl_11⟩ kq_78 yC10 pY10 dV10 (by decide +kernel) rfl rfl rfl ⟨Nat.le_trans (by decide) hrc, Nat.le_trans (by decide) hrs⟩ (fun M3 => ?_)
  refine g_dup e_Law_law_11 rfl ?_
  refine g_callI (mc := 21) (ms := 1389) (c' := 100) (s' := 2724) (As := []) (st := [rf (kG X) 78]) e_Law_law_12 ix_Law_12 rfl rfl my_MD_init (by decide) rfl rfl (Nat.le_of_ble_eq_true rfl) rfl rfl ⟨Nat.le_trans (by decide) hrc, Nat.le_trans (by decide) hrs⟩ (fun _ h => c_MD_init_78 h) (fun M4 _ => ?_)
  refine g_astore_n e_Law_law_15 (by decide) rfl ?_
  refine g_iconst (x := (0 : Int32)) e_Law_law_16 (by decide) ?_
  refine g_istore_n e_Law_law_17 (by decide) rfl ?_
  exact hk M4
end
section
/-! THE STATEMENT IS FALSE AS PRINTED: its frame grants 1966 new slots; every run makes 100 cells whose arrays alone have 2513 (2724 with the objects' fields): shown at the printed witness's start with the empty script -/
theorem W.mono {p : Program} {l : Launch} {e : Env} {R : Room} {s : State} {m : MethodId} {args : Array Value} {below : List Frame} {meth : Method} {c : Code} {H : Heap} {locs : List Loc} {cells slots : Nat} {Q Q' : State → Prop} {g : JFrame} (h : ∀ t, Q t → Q' t) (k : W p l e R s m args below meth c H locs cells slots Q g) : W p l e R s m args below meth c H locs cells slots Q' g := by
  intro T hT X
  obtain ⟨t, a, b⟩ := k T hT X
  exact ⟨t, a, h t b⟩
def roomB : Room := { frames := 12, cells := 100, slots := 2724, locals := 440 }
def law_Q0 : Array Value → State → Outcome → State → Prop := fun _ st _ t => ∃ (G : KG) (M : Mm), k0 G = st.heap.size ∧ WD G 100 (iniT 98) M t.heap
theorem fL_some (M : Mm) : ∃ M', fL_start (fun M => some ((1 : Int32), M)) M = some ((1 : Int32), M') := by
  unfold fL_start
  obtain ⟨M2, h2⟩ := x_PS_init_0 (zr M 0)
  simp only [lT, h2, bD]
  obtain ⟨M4, h4⟩ := x_MD_init_78 (zr M2 78)
  simp only [h4]
  exact ⟨_, rfl⟩
set_option maxHeartbeats 4000000 in
set_option maxRecDepth 20000 in
theorem law_met0 (l : Launch) (b : Nat) : Met l x (Cond.code x code maxLocals ret :: tables_1) roomB (fun args s => args = #[.ref b] ∧ va_X b 0 (fun _ => 0) s s.heap ∧ b < s.heap.size) law_Q0 100 2724 (fun _ => True) := by
  refine Met.ofW (cc := code) (maxL := maxLocals) (ret := ret) (by decide) rfl ?_
  intro p e s m args below meth c s₁ B hml hv
  obtain ⟨rfl, hX, hbl⟩ := hv
  have hts0 : ∀ c ∈ (Jvm.Cond.code x code maxLocals ret :: tables_1), c.before #[Value.ref b] s = true := atoms_spec (ws := Jvm.Cond.code x code maxLocals ret :: tables_1) B.pre
  have hts : ∀ w ∈ lw_tbl, w.before #[Value.ref b] s = true := k2_hts_sels lw_privs (fun w hw => hts0 w (List.mem_cons_of_mem _ hw)) lw_privs_ok
  obtain ⟨G, hG, hVK⟩ := law_known hts
  have hl := lv_entry ([.ref b]) (n := 4) (Nat.le_of_ble_eq_true rfl)
  have he : entryFrame m (#[Value.ref b] : Array Value) maxLocals = F0 m 0 ((lg_sl ([.ref b]) ++ List.replicate (4 - (lg_sl ([.ref b])).length) Slot.unset).toArray) [] := by
    show entryFrame m ([Value.ref b] : List Value).toArray 4 = _
    rw [lg_entry_eq]
  rw [he]
  obtain ⟨M', hM'⟩ := fL_some ((fun _ _ => 0, fun _ _ => 0) : Mm)
  have main : GO ((p, l, e, (headSpec (Cond.code x code maxLocals ret :: tables_1) roomB).room, s, m), (#[Value.ref b], below, meth, c), G) md_Law_law (QE ((p, l, e, (headSpec (Cond.code x code maxLocals ret :: tables_1) roomB).room, s, m), (#[Value.ref b], below, meth, c), G) rvI (100, 2724, 100, iniT 98)) 0 [some (.ref b), none, none, none] [] (0, 0, 0, iniT 0) ((fun _ _ => 0, fun _ _ => 0) : Mm) (fL_start (fun M => some ((1 : Int32), M)) ((fun _ _ => 0, fun _ _ => 0) : Mm)) := by
    refine tL_start (Nat.le_refl _) (Nat.le_refl _) (fun M1 => ?_)
    refine g_iload_n e_Law_law_18 rfl ?_
    refine g_aloadS_n (b := b) e_Law_law_19 rfl ?_
    refine g_slen (L := 0) (xs := fun _ => 0) hX hbl (by show b < k0 G; rw [hG]; exact hbl) e_Law_law_20 ?_
    refine g_bipush (x := (6 : Int32)) e_Law_law_21 (by decide) ?_
    refine g_isub e_Law_law_23 ?_
    refine g_icmp_gt' e_Law_law_24 (fun _ => ?_) (fun h => absurd (by decide) h)
    refine g_iconst (x := (1 : Int32)) e_Law_law_1252 (by decide) ?_
    exact g_zret e_Law_law_1253 rfl (by decide)
  have h0 := main ⟨B.exec, B.bytes, B.returns, hml, findClass_of_methodNamed B.named, fun w hw => hts w (gtb_in hw), B.notSynchronized, hVK, Nat.le_of_ble_eq_true rfl, Nat.le_of_ble_eq_true rfl⟩ (1 : Int32) M' hM' s.heap [] _ ⟨by rw [hG]; rfl, fun k hk => absurd hk (Nat.not_lt_zero k)⟩ va_S.rf ⟨_, hl, fun k v hk => ent_ok [.ref b] 3 0 k v hk |> fun h => by rwa [Nat.zero_add] at h⟩ (Nat.zero_le _) (Nat.zero_le _)
  refine W.widen (k := 0) (n := 0) (Nat.le_refl _) (Nat.le_refl _) (W.mono ?_ h0)
  rintro t ⟨o, h1, h2, ⟨-, hW, -⟩, L, h4, -⟩
  exact ⟨o, h1, h2, ⟨G, M', hG, hW⟩, L, h4, fun _ _ => trivial⟩
def szk (k : Nat) : Nat := if kD k < 50 then 0 else if kD k = 50 then 6 else if kD k < 1000 then kD k - 100 else kD k - 1000
theorem sum_ge : ∀ (l : List Nat) (f : Nat → Nat), (∀ k v, l[k]? = some v → f k ≤ v) → ((List.range l.length).map f).sum ≤ l.sum
  | [], f, _ => by simp
  | a :: l, f, h => by
    have h1 := sum_ge l (fun k => f (k + 1)) (fun k v hk => h (k + 1) v (by simpa using hk))
    have h0 := h 0 a rfl
    rw [List.length_cons, List.range_succ_eq_map, List.map_cons, List.map_map, List.sum_cons, List.sum_cons]
    exact Nat.add_le_add h0 h1
theorem WD.size_ge {G : KG} {ini : Nat → Nat → Bool} {M : Mm} {H : Heap} (h : WD G 100 ini M H) : 2513 ≤ ((H.toList.drop (k0 G)).map (·.slots.size)).sum := by
  have hlen : ((H.toList.drop (k0 G)).map (·.slots.size)).length = 100 := by
    rw [List.length_map, List.length_drop, Array.length_toList, h.1]
    omega
  have hs := sum_ge ((H.toList.drop (k0 G)).map (·.slots.size)) szk (fun k v hk => by
    have hk100 : k < 100 := by rw [← hlen]; exact (List.getElem?_eq_some_iff.mp hk).1
    rw [List.getElem?_map, List.getElem?_drop, Array.getElem?_toList] at hk
    have hat := h.2 k hk100
    unfold szk
    by_cases c1 : kD k < 50
    · rw [if_pos c1]; exact Nat.zero_le _
    rw [if_neg c1]
    by_cases c2 : kD k = 50
    · rw [if_pos c2]
      rw [ce_T c2] at hat
      have hc : H[k0 G + k]? = some (vp_cell G.2.2.2.1 (6, _)) := hat
      rw [hc] at hk
      have hv : (vp_cell G.2.2.2.1 (6, _)).slots.size = v := Option.some.inj hk
      rw [← hv, vp_cell_q, arrV_size]
      exact Nat.le_refl _
    rw [if_neg c2]
    by_cases c3 : kD k < 1000
    · rw [if_pos c3]
      have c4 : 100 ≤ kD k := by
        have : ∀ k, k < 100 → ¬ kD k < 50 → ¬ kD k = 50 → 100 ≤ kD k := by decide +kernel
        exact this k hk100 c1 c2
      rw [ce_I (n := kD k - 100) (by omega) (by omega)] at hat
      have hc : H[k0 G + k]? = some (vp_cell G.2.1 (kD k - 100, .inl (M.1 k))) := hat
      rw [hc] at hk
      have hv : (vp_cell G.2.1 (kD k - 100, .inl (M.1 k))).slots.size = v := Option.some.inj hk
      rw [← hv, vp_cell_i, arrV_size]
      exact Nat.le_refl _
    · rw [if_neg c3]
      rw [ce_J (n := kD k - 1000) (by omega)] at hat
      have hc : H[k0 G + k]? = some (vp_cell G.2.2.1 (kD k - 1000, .inr (.inl (M.2 k)))) := hat
      rw [hc] at hk
      have hv : (vp_cell G.2.2.1 (kD k - 1000, .inr (.inl (M.2 k)))).slots.size = v := Option.some.inj hk
      rw [← hv, vp_cell_l, arrV_size]
      exact Nat.le_refl _)
  rw [hlen] at hs
  have e : ((List.range 100).map szk).sum = 2513 := by decide +kernel
  omega
def s00 : State := start1.aboutOf #[]
set_option maxRecDepth 16384 in
theorem s00_rest : ((Cond.code x code maxLocals ret :: tables_1).filter (fun c => !c.onTables)).all (fun c => c.before start1.args0 s00) = true := by decide +kernel
theorem s00_words : ∀ c ∈ (Cond.code x code maxLocals ret :: tables_1), c.before start1.args0 s00 = true := by
  intro c hc
  cases hon : c.onTables with
  | true => exact va_tabs (u := start1.about) (U := s00) hon rfl (start1.words c hc)
  | false => exact List.all_eq_true.mp s00_rest c (List.mem_filter.mpr ⟨hc, by rw [hon]; rfl⟩)
set_option maxRecDepth 16384 in
theorem s00_at (R : Room) (h : R = room_1 ∨ R = roomB) : (headSpec (Cond.code x code maxLocals ret :: tables_1) R).applies x start1.e0.platform s00 = true := by
  rcases h with rfl | rfl
  · exact (Spec.applies_iff rfl).mpr ⟨rfl, rfl, rfl, by decide +kernel, by decide +kernel, by decide +kernel, launch0.hasRoom_least _ room_1 (by decide +kernel) (by decide +kernel) (by decide +kernel) (by decide +kernel) (by decide +kernel) (by decide +kernel), atoms_intro s00_words⟩
  · exact (Spec.applies_iff rfl).mpr ⟨rfl, rfl, rfl, by decide +kernel, by decide +kernel, by decide +kernel, launch0.hasRoom_least _ roomB (by decide +kernel) (by decide +kernel) (by decide +kernel) (by decide +kernel) (by decide +kernel) (by decide +kernel), atoms_intro s00_words⟩
set_option maxRecDepth 16384 in
/-- NO PROOF OF THE STATEMENT IS POSSIBLE -/
theorem part_false : ¬ Claimed_1_1 := by
  intro hC
  have hrest : rest_1_c.before start1.args0 s00 = true := by decide +kernel
  have hpre : (Cond.and given_1 narrow_1).before start1.args0 s00 = true := by decide +kernel
  obtain ⟨n, o, h1, h2, h3, h4⟩ := hC launch0 rfl lists_1 trivial start1.p0 start1.e0 (launch0.admits_env _ _ _) fairChoices_fair.cas fairChoices_fair.clock s00 ⟨0, 0⟩ start1.args0 Lib.HandBits.below0 rfl (by decide +kernel) (by decide +kernel) (s00_at room_1 (Or.inl rfl)) ⟨trivial, hrest, hpre⟩
  obtain ⟨n', o', g1, g2, g3, ⟨G, M, hG, hW⟩, -⟩ := law_met0 launch0 0 start1.p0 start1.e0 (launch0.admits_env _ _ _) fairChoices_fair.cas fairChoices_fair.clock s00 ⟨0, 0⟩ start1.args0 Lib.HandBits.below0 rfl ((Spec.applies_iff_loose rfl).mp (s00_at roomB (Or.inr rfl))).1 ⟨rfl, ⟨_, rfl, ⟨fun k h => (by cases h), _, rfl, _, rfl⟩, fun h => (by cases h), rfl, fun j hj => absurd hj (Nat.not_lt_zero j)⟩, by decide⟩ trivial
  have hn : n = n' := by
    rcases Nat.lt_trichotomy n n' with q | q | q
    · exact absurd (g1 n q) h3.not_within
    · exact q
    · exact absurd (h1 n' q) g3.not_within
  subst hn
  have h5 := h4.2.2.2.2.2.2.2.1
  have h6 := hW.size_ge
  rw [hG] at h6
  exact absurd (Nat.le_trans h6 h5) (by decide)
set_option maxRecDepth 16384 in
/-- THE STATEMENT'S OWN FORM OF A REFUTATION, OF BOTH ITS ARMS: a start that keeps all that the statement asks, whose run ends, and what it must be then is not so -/
theorem part_refuted : RefutedClaimed_1_1 ∧ RefutedClaimed_1_2 := by
  have hrest : rest_1_c.before start1.args0 s00 = true := by decide +kernel
  have hpre : (Cond.and given_1 narrow_1).before start1.args0 s00 = true := by decide +kernel
  obtain ⟨n, o, g1, g2, g3, ⟨G, M, hG, hW⟩, -⟩ := law_met0 launch0 0 start1.p0 start1.e0 (launch0.admits_env _ _ _) fairChoices_fair.cas fairChoices_fair.clock s00 ⟨0, 0⟩ start1.args0 Lib.HandBits.below0 rfl ((Spec.applies_iff_loose rfl).mp (s00_at roomB (Or.inr rfl))).1 ⟨rfl, ⟨_, rfl, ⟨fun k h => (by cases h), _, rfl, _, rfl⟩, fun h => (by cases h), rfl, fun j hj => absurd hj (Nat.not_lt_zero j)⟩, by decide⟩ trivial
  have h6 := hW.size_ge
  rw [hG] at h6
  have hA : AtStart classFile x code maxLocals ret World_1 tables_1 room_1 Calls_1 rest_1 Pre_1 launch0 start1.p0 start1.e0 s00 ⟨0, 0⟩ start1.args0 Lib.HandBits.below0 := ⟨lists_1, trivial, launch0.admits_env _ _ _, launch0.least_env, fairChoices_fair.cas, fairChoices_fair.clock, rfl, by decide +kernel, by decide +kernel, s00_at room_1 (Or.inl rfl), trivial, hrest, hpre⟩
  exact ⟨⟨launch0, start1.p0, start1.e0, s00, ⟨0, 0⟩, start1.args0, Lib.HandBits.below0, rfl, hA, n, o, g1, g2, g3, fun h4 => absurd (Nat.le_trans h6 h4.2.2.2.2.2.2.2.1) (by decide)⟩, ⟨launch0, start1.p0, start1.e0, s00, ⟨0, 0⟩, start1.args0, Lib.HandBits.below0, rfl, hA, n, o, g1, g2, g3, fun h4 => absurd (Nat.le_trans h6 h4.2.2.2.2.2.2.2.1) (by decide)⟩⟩
end
