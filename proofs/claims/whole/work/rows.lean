section
-- ===== PART A: goes FIRST, ahead of the names: the tables' words, and 'selects' of the private methods out of them =====
/-- a private method of a class that the tables say can be made, by its rows of tables_1 -/
def lw_okq (q : MethodName × Nat) : Prop := (q.1.cls ≠ "java/lang/invoke/MethodHandle" ∧ q.1.cls ≠ "java/lang/invoke/VarHandle") ∧ Cond.instantiable q.1.cls q.2 ∈ tables_1 ∧ Cond.privateMethod q.1 ∈ tables_1 ∧ Cond.instanceMethod q.1 ∈ tables_1
theorem lw_p0 : lw_okq (⟨"PressSheets$State", "pagesMove", "()V"⟩, 7) := ⟨⟨by decide +kernel, by decide +kernel⟩, List.mem_of_getElem? (i := 23) (by decide +kernel), List.mem_of_getElem? (i := 341) (by decide +kernel), List.mem_of_getElem? (i := 342) (by decide +kernel)⟩
theorem lw_p1 : lw_okq (⟨"PressSheets$Leaf", "turnOver", "(ZZ)V"⟩, 5) := ⟨⟨by decide +kernel, by decide +kernel⟩, List.mem_of_getElem? (i := 35) (by decide +kernel), List.mem_of_getElem? (i := 417) (by decide +kernel), List.mem_of_getElem? (i := 418) (by decide +kernel)⟩
theorem lw_p2 : lw_okq (⟨"PressSheets$Plan", "tellForme", "(LPressSheets$Job;II)V"⟩, 4) := ⟨⟨by decide +kernel, by decide +kernel⟩, List.mem_of_getElem? (i := 196) (by decide +kernel), List.mem_of_getElem? (i := 641) (by decide +kernel), List.mem_of_getElem? (i := 642) (by decide +kernel)⟩
theorem lw_p3 : lw_okq (⟨"PressSheets$Plan", "isFaulty", "(LPressSheets$Job;I)Z"⟩, 4) := ⟨⟨by decide +kernel, by decide +kernel⟩, List.mem_of_getElem? (i := 196) (by decide +kernel), List.mem_of_getElem? (i := 657) (by decide +kernel), List.mem_of_getElem? (i := 658) (by decide +kernel)⟩
theorem lw_p4 : lw_okq (⟨"PressSheets$Plan", "faulty", "(IIII)Z"⟩, 4) := ⟨⟨by decide +kernel, by decide +kernel⟩, List.mem_of_getElem? (i := 196) (by decide +kernel), List.mem_of_getElem? (i := 661) (by decide +kernel), List.mem_of_getElem? (i := 662) (by decide +kernel)⟩
theorem lw_p5 : lw_okq (⟨"PressSheets$Text", "isClause", "()Z"⟩, 5) := ⟨⟨by decide +kernel, by decide +kernel⟩, List.mem_of_getElem? (i := 254) (by decide +kernel), List.mem_of_getElem? (i := 714) (by decide +kernel), List.mem_of_getElem? (i := 715) (by decide +kernel)⟩
theorem lw_p6 : lw_okq (⟨"PressSheets$Text", "isNext", "(I)Z"⟩, 5) := ⟨⟨by decide +kernel, by decide +kernel⟩, List.mem_of_getElem? (i := 254) (by decide +kernel), List.mem_of_getElem? (i := 719) (by decide +kernel), List.mem_of_getElem? (i := 720) (by decide +kernel)⟩
theorem lw_p7 : lw_okq (⟨"PressSheets$Text", "number", "(III)I"⟩, 5) := ⟨⟨by decide +kernel, by decide +kernel⟩, List.mem_of_getElem? (i := 254) (by decide +kernel), List.mem_of_getElem? (i := 723) (by decide +kernel), List.mem_of_getElem? (i := 724) (by decide +kernel)⟩
theorem lw_p8 : lw_okq (⟨"PressSheets", "tapeAt", "(I)LPressSheets$Tape;"⟩, 6) := ⟨⟨by decide +kernel, by decide +kernel⟩, List.mem_of_getElem? (i := 15) (by decide +kernel), List.mem_of_getElem? (i := 739) (by decide +kernel), List.mem_of_getElem? (i := 740) (by decide +kernel)⟩
theorem lw_p9 : lw_okq (⟨"PressSheets$Tape", "cut", "(J)J"⟩, 3) := ⟨⟨by decide +kernel, by decide +kernel⟩, List.mem_of_getElem? (i := 283) (by decide +kernel), List.mem_of_getElem? (i := 803) (by decide +kernel), List.mem_of_getElem? (i := 804) (by decide +kernel)⟩
theorem lw_p10 : lw_okq (⟨"PressSheetsModel", "empties", "()V"⟩, 42) := ⟨⟨by decide +kernel, by decide +kernel⟩, List.mem_of_getElem? (i := 822) (by decide +kernel), List.mem_of_getElem? (i := 964) (by decide +kernel), List.mem_of_getElem? (i := 965) (by decide +kernel)⟩
theorem lw_p11 : lw_okq (⟨"PressSheetsModel", "held", "(I)I"⟩, 42) := ⟨⟨by decide +kernel, by decide +kernel⟩, List.mem_of_getElem? (i := 822) (by decide +kernel), List.mem_of_getElem? (i := 977) (by decide +kernel), List.mem_of_getElem? (i := 978) (by decide +kernel)⟩
theorem lw_p12 : lw_okq (⟨"PressSheetsModel", "lays", "(II)V"⟩, 42) := ⟨⟨by decide +kernel, by decide +kernel⟩, List.mem_of_getElem? (i := 822) (by decide +kernel), List.mem_of_getElem? (i := 981) (by decide +kernel), List.mem_of_getElem? (i := 982) (by decide +kernel)⟩
theorem lw_p13 : lw_okq (⟨"PressSheetsModel", "w", "()I"⟩, 42) := ⟨⟨by decide +kernel, by decide +kernel⟩, List.mem_of_getElem? (i := 822) (by decide +kernel), List.mem_of_getElem? (i := 989) (by decide +kernel), List.mem_of_getElem? (i := 990) (by decide +kernel)⟩
theorem lw_p14 : lw_okq (⟨"PressSheetsModel", "h", "()I"⟩, 42) := ⟨⟨by decide +kernel, by decide +kernel⟩, List.mem_of_getElem? (i := 822) (by decide +kernel), List.mem_of_getElem? (i := 993) (by decide +kernel), List.mem_of_getElem? (i := 994) (by decide +kernel)⟩
theorem lw_p15 : lw_okq (⟨"PressSheetsModel", "leaves", "()I"⟩, 42) := ⟨⟨by decide +kernel, by decide +kernel⟩, List.mem_of_getElem? (i := 822) (by decide +kernel), List.mem_of_getElem? (i := 997) (by decide +kernel), List.mem_of_getElem? (i := 998) (by decide +kernel)⟩
def lw_privs_1 : List (MethodName × Nat) := [(⟨"PressSheets$State", "pagesMove", "()V"⟩, 7), (⟨"PressSheets$Leaf", "turnOver", "(ZZ)V"⟩, 5), (⟨"PressSheets$Plan", "tellForme", "(LPressSheets$Job;II)V"⟩, 4), (⟨"PressSheets$Plan", "isFaulty", "(LPressSheets$Job;I)Z"⟩, 4), (⟨"PressSheets$Plan", "faulty", "(IIII)Z"⟩, 4), (⟨"PressSheets$Text", "isClause", "()Z"⟩, 5), (⟨"PressSheets$Text", "isNext", "(I)Z"⟩, 5), (⟨"PressSheets$Text", "number", "(III)I"⟩, 5), (⟨"PressSheets", "tapeAt", "(I)LPressSheets$Tape;"⟩, 6), (⟨"PressSheets$Tape", "cut", "(J)J"⟩, 3), (⟨"PressSheetsModel", "empties", "()V"⟩, 42), (⟨"PressSheetsModel", "held", "(I)I"⟩, 42), (⟨"PressSheetsModel", "lays", "(II)V"⟩, 42), (⟨"PressSheetsModel", "w", "()I"⟩, 42), (⟨"PressSheetsModel", "h", "()I"⟩, 42), (⟨"PressSheetsModel", "leaves", "()I"⟩, 42)]
theorem lw_r1 : ∀ q ∈ lw_privs_1, lw_okq q := List.forall_mem_cons.mpr ⟨lw_p0, List.forall_mem_cons.mpr ⟨lw_p1, List.forall_mem_cons.mpr ⟨lw_p2, List.forall_mem_cons.mpr ⟨lw_p3, List.forall_mem_cons.mpr ⟨lw_p4, List.forall_mem_cons.mpr ⟨lw_p5, List.forall_mem_cons.mpr ⟨lw_p6, List.forall_mem_cons.mpr ⟨lw_p7, List.forall_mem_cons.mpr ⟨lw_p8, List.forall_mem_cons.mpr ⟨lw_p9, List.forall_mem_cons.mpr ⟨lw_p10, List.forall_mem_cons.mpr ⟨lw_p11, List.forall_mem_cons.mpr ⟨lw_p12, List.forall_mem_cons.mpr ⟨lw_p13, List.forall_mem_cons.mpr ⟨lw_p14, List.forall_mem_cons.mpr ⟨lw_p15, fun _ h => absurd h List.not_mem_nil⟩⟩⟩⟩⟩⟩⟩⟩⟩⟩⟩⟩⟩⟩⟩⟩
theorem lw_p16 : lw_okq (⟨"PressSheetsModel", "sheets", "()I"⟩, 42) := ⟨⟨by decide +kernel, by decide +kernel⟩, List.mem_of_getElem? (i := 822) (by decide +kernel), List.mem_of_getElem? (i := 1004) (by decide +kernel), List.mem_of_getElem? (i := 1005) (by decide +kernel)⟩
theorem lw_p17 : lw_okq (⟨"PressSheetsModel", "perSheet", "()I"⟩, 42) := ⟨⟨by decide +kernel, by decide +kernel⟩, List.mem_of_getElem? (i := 822) (by decide +kernel), List.mem_of_getElem? (i := 1008) (by decide +kernel), List.mem_of_getElem? (i := 1009) (by decide +kernel)⟩
theorem lw_p18 : lw_okq (⟨"PressSheetsModel", "allPages", "()I"⟩, 42) := ⟨⟨by decide +kernel, by decide +kernel⟩, List.mem_of_getElem? (i := 822) (by decide +kernel), List.mem_of_getElem? (i := 1012) (by decide +kernel), List.mem_of_getElem? (i := 1013) (by decide +kernel)⟩
theorem lw_p19 : lw_okq (⟨"PressSheetsModel", "folds", "()V"⟩, 42) := ⟨⟨by decide +kernel, by decide +kernel⟩, List.mem_of_getElem? (i := 822) (by decide +kernel), List.mem_of_getElem? (i := 1020) (by decide +kernel), List.mem_of_getElem? (i := 1021) (by decide +kernel)⟩
theorem lw_p20 : lw_okq (⟨"PressSheetsModel", "moves", "(IIII)Z"⟩, 42) := ⟨⟨by decide +kernel, by decide +kernel⟩, List.mem_of_getElem? (i := 822) (by decide +kernel), List.mem_of_getElem? (i := 1027) (by decide +kernel), List.mem_of_getElem? (i := 1028) (by decide +kernel)⟩
theorem lw_p21 : lw_okq (⟨"PressSheetsModel", "sideOf", "(I)I"⟩, 42) := ⟨⟨by decide +kernel, by decide +kernel⟩, List.mem_of_getElem? (i := 822) (by decide +kernel), List.mem_of_getElem? (i := 1031) (by decide +kernel), List.mem_of_getElem? (i := 1032) (by decide +kernel)⟩
theorem lw_p22 : lw_okq (⟨"PressSheetsModel", "isPage", "(I)Z"⟩, 42) := ⟨⟨by decide +kernel, by decide +kernel⟩, List.mem_of_getElem? (i := 822) (by decide +kernel), List.mem_of_getElem? (i := 1039) (by decide +kernel), List.mem_of_getElem? (i := 1040) (by decide +kernel)⟩
theorem lw_p23 : lw_okq (⟨"PressSheetsModel", "standsAt", "(II)I"⟩, 42) := ⟨⟨by decide +kernel, by decide +kernel⟩, List.mem_of_getElem? (i := 822) (by decide +kernel), List.mem_of_getElem? (i := 1043) (by decide +kernel), List.mem_of_getElem? (i := 1044) (by decide +kernel)⟩
theorem lw_p24 : lw_okq (⟨"PressSheetsModel", "finds", "(I)V"⟩, 42) := ⟨⟨by decide +kernel, by decide +kernel⟩, List.mem_of_getElem? (i := 822) (by decide +kernel), List.mem_of_getElem? (i := 1047) (by decide +kernel), List.mem_of_getElem? (i := 1048) (by decide +kernel)⟩
theorem lw_p25 : lw_okq (⟨"PressSheetsModel", "pageAt", "(II)I"⟩, 42) := ⟨⟨by decide +kernel, by decide +kernel⟩, List.mem_of_getElem? (i := 822) (by decide +kernel), List.mem_of_getElem? (i := 1051) (by decide +kernel), List.mem_of_getElem? (i := 1052) (by decide +kernel)⟩
theorem lw_p26 : lw_okq (⟨"PressSheetsModel", "seenRow", "(II)I"⟩, 42) := ⟨⟨by decide +kernel, by decide +kernel⟩, List.mem_of_getElem? (i := 822) (by decide +kernel), List.mem_of_getElem? (i := 1055) (by decide +kernel), List.mem_of_getElem? (i := 1056) (by decide +kernel)⟩
theorem lw_p27 : lw_okq (⟨"PressSheetsModel", "seenColumn", "(II)I"⟩, 42) := ⟨⟨by decide +kernel, by decide +kernel⟩, List.mem_of_getElem? (i := 822) (by decide +kernel), List.mem_of_getElem? (i := 1059) (by decide +kernel), List.mem_of_getElem? (i := 1060) (by decide +kernel)⟩
theorem lw_p28 : lw_okq (⟨"PressSheetsModel", "isForme", "(I)Z"⟩, 42) := ⟨⟨by decide +kernel, by decide +kernel⟩, List.mem_of_getElem? (i := 822) (by decide +kernel), List.mem_of_getElem? (i := 1067) (by decide +kernel), List.mem_of_getElem? (i := 1068) (by decide +kernel)⟩
theorem lw_p29 : lw_okq (⟨"PressSheetsModel", "isCell", "(II)Z"⟩, 42) := ⟨⟨by decide +kernel, by decide +kernel⟩, List.mem_of_getElem? (i := 822) (by decide +kernel), List.mem_of_getElem? (i := 1071) (by decide +kernel), List.mem_of_getElem? (i := 1072) (by decide +kernel)⟩
theorem lw_p30 : lw_okq (⟨"PressSheetsModel", "pageOf", "(III)I"⟩, 42) := ⟨⟨by decide +kernel, by decide +kernel⟩, List.mem_of_getElem? (i := 822) (by decide +kernel), List.mem_of_getElem? (i := 1075) (by decide +kernel), List.mem_of_getElem? (i := 1076) (by decide +kernel)⟩
theorem lw_p31 : lw_okq (⟨"PressSheetsModel", "outside", "(I)I"⟩, 42) := ⟨⟨by decide +kernel, by decide +kernel⟩, List.mem_of_getElem? (i := 822) (by decide +kernel), List.mem_of_getElem? (i := 1087) (by decide +kernel), List.mem_of_getElem? (i := 1088) (by decide +kernel)⟩
def lw_privs_2 : List (MethodName × Nat) := [(⟨"PressSheetsModel", "sheets", "()I"⟩, 42), (⟨"PressSheetsModel", "perSheet", "()I"⟩, 42), (⟨"PressSheetsModel", "allPages", "()I"⟩, 42), (⟨"PressSheetsModel", "folds", "()V"⟩, 42), (⟨"PressSheetsModel", "moves", "(IIII)Z"⟩, 42), (⟨"PressSheetsModel", "sideOf", "(I)I"⟩, 42), (⟨"PressSheetsModel", "isPage", "(I)Z"⟩, 42), (⟨"PressSheetsModel", "standsAt", "(II)I"⟩, 42), (⟨"PressSheetsModel", "finds", "(I)V"⟩, 42), (⟨"PressSheetsModel", "pageAt", "(II)I"⟩, 42), (⟨"PressSheetsModel", "seenRow", "(II)I"⟩, 42), (⟨"PressSheetsModel", "seenColumn", "(II)I"⟩, 42), (⟨"PressSheetsModel", "isForme", "(I)Z"⟩, 42), (⟨"PressSheetsModel", "isCell", "(II)Z"⟩, 42), (⟨"PressSheetsModel", "pageOf", "(III)I"⟩, 42), (⟨"PressSheetsModel", "outside", "(I)I"⟩, 42)]
theorem lw_r2 : ∀ q ∈ lw_privs_2, lw_okq q := List.forall_mem_cons.mpr ⟨lw_p16, List.forall_mem_cons.mpr ⟨lw_p17, List.forall_mem_cons.mpr ⟨lw_p18, List.forall_mem_cons.mpr ⟨lw_p19, List.forall_mem_cons.mpr ⟨lw_p20, List.forall_mem_cons.mpr ⟨lw_p21, List.forall_mem_cons.mpr ⟨lw_p22, List.forall_mem_cons.mpr ⟨lw_p23, List.forall_mem_cons.mpr ⟨lw_p24, List.forall_mem_cons.mpr ⟨lw_p25, List.forall_mem_cons.mpr ⟨lw_p26, List.forall_mem_cons.mpr ⟨lw_p27, List.forall_mem_cons.mpr ⟨lw_p28, List.forall_mem_cons.mpr ⟨lw_p29, List.forall_mem_cons.mpr ⟨lw_p30, List.forall_mem_cons.mpr ⟨lw_p31, fun _ h => absurd h List.not_mem_nil⟩⟩⟩⟩⟩⟩⟩⟩⟩⟩⟩⟩⟩⟩⟩⟩
theorem lw_p32 : lw_okq (⟨"PressSheetsModel", "isPrinted", "(I)Z"⟩, 42) := ⟨⟨by decide +kernel, by decide +kernel⟩, List.mem_of_getElem? (i := 822) (by decide +kernel), List.mem_of_getElem? (i := 1107) (by decide +kernel), List.mem_of_getElem? (i := 1108) (by decide +kernel)⟩
theorem lw_p33 : lw_okq (⟨"PressSheetsModel", "strokes", "()Z"⟩, 42) := ⟨⟨by decide +kernel, by decide +kernel⟩, List.mem_of_getElem? (i := 822) (by decide +kernel), List.mem_of_getElem? (i := 1115) (by decide +kernel), List.mem_of_getElem? (i := 1116) (by decide +kernel)⟩
theorem lw_p34 : lw_okq (⟨"PressSheetsModel", "leaves", "(I)V"⟩, 42) := ⟨⟨by decide +kernel, by decide +kernel⟩, List.mem_of_getElem? (i := 822) (by decide +kernel), List.mem_of_getElem? (i := 1119) (by decide +kernel), List.mem_of_getElem? (i := 1120) (by decide +kernel)⟩
theorem lw_p35 : lw_okq (⟨"PressSheetsModel", "tells", "(III)Z"⟩, 42) := ⟨⟨by decide +kernel, by decide +kernel⟩, List.mem_of_getElem? (i := 822) (by decide +kernel), List.mem_of_getElem? (i := 1146) (by decide +kernel), List.mem_of_getElem? (i := 1147) (by decide +kernel)⟩
theorem lw_p36 : lw_okq (⟨"PressSheetsModel", "proves", "(I)V"⟩, 42) := ⟨⟨by decide +kernel, by decide +kernel⟩, List.mem_of_getElem? (i := 822) (by decide +kernel), List.mem_of_getElem? (i := 1166) (by decide +kernel), List.mem_of_getElem? (i := 1167) (by decide +kernel)⟩
theorem lw_p37 : lw_okq (⟨"PressSheetsModel", "areSo", "()Z"⟩, 42) := ⟨⟨by decide +kernel, by decide +kernel⟩, List.mem_of_getElem? (i := 822) (by decide +kernel), List.mem_of_getElem? (i := 1178) (by decide +kernel), List.mem_of_getElem? (i := 1179) (by decide +kernel)⟩
theorem lw_p38 : lw_okq (⟨"PressSheetsModel", "clause", "(II)Z"⟩, 42) := ⟨⟨by decide +kernel, by decide +kernel⟩, List.mem_of_getElem? (i := 822) (by decide +kernel), List.mem_of_getElem? (i := 1198) (by decide +kernel), List.mem_of_getElem? (i := 1199) (by decide +kernel)⟩
theorem lw_p39 : lw_okq (⟨"PressSheetsModel", "here", "(I)I"⟩, 42) := ⟨⟨by decide +kernel, by decide +kernel⟩, List.mem_of_getElem? (i := 822) (by decide +kernel), List.mem_of_getElem? (i := 1202) (by decide +kernel), List.mem_of_getElem? (i := 1203) (by decide +kernel)⟩
theorem lw_p40 : lw_okq (⟨"PressSheetsModel", "number", "(IIIIII)Z"⟩, 42) := ⟨⟨by decide +kernel, by decide +kernel⟩, List.mem_of_getElem? (i := 822) (by decide +kernel), List.mem_of_getElem? (i := 1206) (by decide +kernel), List.mem_of_getElem? (i := 1207) (by decide +kernel)⟩
theorem lw_p41 : lw_okq (⟨"PressSheetsModel", "does", "(I)I"⟩, 42) := ⟨⟨by decide +kernel, by decide +kernel⟩, List.mem_of_getElem? (i := 822) (by decide +kernel), List.mem_of_getElem? (i := 1210) (by decide +kernel), List.mem_of_getElem? (i := 1211) (by decide +kernel)⟩
theorem lw_p42 : lw_okq (⟨"PressSheetsModel", "carriesAll", "(Z)V"⟩, 42) := ⟨⟨by decide +kernel, by decide +kernel⟩, List.mem_of_getElem? (i := 822) (by decide +kernel), List.mem_of_getElem? (i := 1228) (by decide +kernel), List.mem_of_getElem? (i := 1229) (by decide +kernel)⟩
theorem lw_p43 : lw_okq (⟨"PressSheetsModel", "carries", "([IIIZ)I"⟩, 42) := ⟨⟨by decide +kernel, by decide +kernel⟩, List.mem_of_getElem? (i := 822) (by decide +kernel), List.mem_of_getElem? (i := 1232) (by decide +kernel), List.mem_of_getElem? (i := 1233) (by decide +kernel)⟩
def lw_privs_3 : List (MethodName × Nat) := [(⟨"PressSheetsModel", "isPrinted", "(I)Z"⟩, 42), (⟨"PressSheetsModel", "strokes", "()Z"⟩, 42), (⟨"PressSheetsModel", "leaves", "(I)V"⟩, 42), (⟨"PressSheetsModel", "tells", "(III)Z"⟩, 42), (⟨"PressSheetsModel", "proves", "(I)V"⟩, 42), (⟨"PressSheetsModel", "areSo", "()Z"⟩, 42), (⟨"PressSheetsModel", "clause", "(II)Z"⟩, 42), (⟨"PressSheetsModel", "here", "(I)I"⟩, 42), (⟨"PressSheetsModel", "number", "(IIIIII)Z"⟩, 42), (⟨"PressSheetsModel", "does", "(I)I"⟩, 42), (⟨"PressSheetsModel", "carriesAll", "(Z)V"⟩, 42), (⟨"PressSheetsModel", "carries", "([IIIZ)I"⟩, 42)]
theorem lw_r3 : ∀ q ∈ lw_privs_3, lw_okq q := List.forall_mem_cons.mpr ⟨lw_p32, List.forall_mem_cons.mpr ⟨lw_p33, List.forall_mem_cons.mpr ⟨lw_p34, List.forall_mem_cons.mpr ⟨lw_p35, List.forall_mem_cons.mpr ⟨lw_p36, List.forall_mem_cons.mpr ⟨lw_p37, List.forall_mem_cons.mpr ⟨lw_p38, List.forall_mem_cons.mpr ⟨lw_p39, List.forall_mem_cons.mpr ⟨lw_p40, List.forall_mem_cons.mpr ⟨lw_p41, List.forall_mem_cons.mpr ⟨lw_p42, List.forall_mem_cons.mpr ⟨lw_p43, fun _ h => absurd h List.not_mem_nil⟩⟩⟩⟩⟩⟩⟩⟩⟩⟩⟩⟩
def lw_privs : List (MethodName × Nat) := lw_privs_1 ++ (lw_privs_2 ++ (lw_privs_3))
def lw_tbl : List Cond := k2_sels lw_privs ++ tables_1
theorem lw_privs_ok : ∀ q ∈ lw_privs, lw_okq q := by
  show ∀ q ∈ lw_privs_1 ++ (lw_privs_2 ++ (lw_privs_3)), lw_okq q
  exact List.forall_mem_append.mpr ⟨lw_r1, List.forall_mem_append.mpr ⟨lw_r2, lw_r3⟩⟩
end
section
/-! memory: what the ints and longs of the cells hold, by cell and place; the cells' kinds and fields are laid out once for all -/
abbrev Mm : Type := (Nat → Nat → Int32) × (Nat → Nat → Int64)
def updL (f : Nat → Int64) (k : Nat) (x : Int64) : Nat → Int64 := fun j => if j = k then x else f j
def wI (M : Mm) (k j : Nat) (v : Int32) : Mm := (fun q => if q = k then upd (M.1 k) j v else M.1 q, M.2)
def wJ (M : Mm) (k j : Nat) (v : Int64) : Mm := (M.1, fun q => if q = k then updL (M.2 k) j v else M.2 q)
def kdl : List Nat := [9, 6, 0, 1, 5, 3, 4, 140, 4, 164, 2, 4, 160, 4, 160, 4, 160, 4, 104, 4, 105, 4, 105, 4, 108, 4, 108, 6, 0, 1, 5, 3, 4, 140, 4, 164, 2, 4, 160, 4, 160, 4, 160, 4, 104, 4, 105, 4, 105, 4, 108, 4, 108, 0, 1, 5, 8, 4, 200, 4, 110, 4, 110, 4, 110, 50, 7, 1060, 7, 1060, 7, 1060, 7, 1060, 7, 1060, 7, 1060, 10, 116, 116, 116, 116, 116, 116, 140, 164, 160, 160, 160, 120, 116, 200, 130, 500, 111, 106, 106, 1360, 1060]
def kD (k : Nat) : Nat := kdl.getD k 99
def fldl : List (List (Option Nat)) := [[none, none, none, none, none, none, none, none, none, some 1, some 2], [none, none, none, none, none], [some 1, some 3, some 5, some 7], [some 1, some 3], [some 1, none], [none, none, none, none, none, none], [some 1, some 4, some 9, some 18, some 20, some 22, some 24], [none, none, some 1], [some 1, some 3, some 5, some 7, none], [some 1, some 27, none, some 53, some 56, some 65], [none, none, none, none, none, none, none, some 1, some 2, some 3, some 4, some 5, some 6, none, none, some 7, none, some 8, none, some 9, some 10, some 11, none, none, none, none, none, some 12, none, some 13, none, some 14, none, none, some 15, some 16, none, some 17, some 18, some 19, some 20, some 21]]
def fD (c : Nat) : List (Option Nat) := fldl.getD c []

def tC0 : u_T := fun k => match k with
  | 0 => ("PressSheets$Job", "figures", "I", false)
  | 1 => ("PressSheets$Job", "code", "I", false)
  | 2 => ("PressSheets$Job", "wide", "I", false)
  | 3 => ("PressSheets$Job", "high", "I", false)
  | 4 => ("PressSheets$Job", "pages", "I", false)
  | 5 => ("PressSheets$Job", "gather", "I", false)
  | 6 => ("PressSheets$Job", "turn", "I", false)
  | 7 => ("PressSheets$Job", "thick", "I", false)
  | 8 => ("PressSheets$Job", "copies", "I", false)
  | 9 => ("PressSheets$Job", "leaf", "LPressSheets$Leaf;", true)
  | _ => ("PressSheets$Job", "spot", "LPressSheets$Spot;", true)
def yC0 : Nat → FieldType := fun k => match k with
  | 0 => .int
  | 1 => .int
  | 2 => .int
  | 3 => .int
  | 4 => .int
  | 5 => .int
  | 6 => .int
  | 7 => .int
  | 8 => .int
  | 9 => .object "PressSheets$Leaf"
  | _ => .object "PressSheets$Spot"
def tC1 : u_T := fun k => match k with
  | 0 => ("PressSheets$Leaf", "row", "I", false)
  | 1 => ("PressSheets$Leaf", "column", "I", false)
  | 2 => ("PressSheets$Leaf", "depth", "I", false)
  | 3 => ("PressSheets$Leaf", "above", "I", false)
  | _ => ("PressSheets$Leaf", "head", "I", false)
def yC1 : Nat → FieldType := fun k => match k with
  | 0 => .int
  | 1 => .int
  | 2 => .int
  | 3 => .int
  | _ => .int
def tC2 : u_T := fun k => match k with
  | 0 => ("PressSheets$Plan", "cells", "LPressSheets$Row;", true)
  | 1 => ("PressSheets$Plan", "pages", "LPressSheets$Row;", true)
  | 2 => ("PressSheets$Plan", "heads", "LPressSheets$Row;", true)
  | _ => ("PressSheets$Plan", "proven", "LPressSheets$Row;", true)
def yC2 : Nat → FieldType := fun k => match k with
  | 0 => .object "PressSheets$Row"
  | 1 => .object "PressSheets$Row"
  | 2 => .object "PressSheets$Row"
  | _ => .object "PressSheets$Row"
def tC3 : u_T := fun k => match k with
  | 0 => ("PressSheets$Press", "waiting", "LPressSheets$Row;", true)
  | _ => ("PressSheets$Press", "done", "LPressSheets$Row;", true)
def yC3 : Nat → FieldType := fun k => match k with
  | 0 => .object "PressSheets$Row"
  | _ => .object "PressSheets$Row"
def tC4 : u_T := fun k => match k with
  | 0 => ("PressSheets$Row", "items", "[I", true)
  | _ => ("PressSheets$Row", "size", "I", false)
def yC4 : Nat → FieldType := fun k => match k with
  | 0 => .array .int
  | _ => .int
def tC5 : u_T := fun k => match k with
  | 0 => ("PressSheets$Spot", "sheet", "I", false)
  | 1 => ("PressSheets$Spot", "number", "I", false)
  | 2 => ("PressSheets$Spot", "side", "I", false)
  | 3 => ("PressSheets$Spot", "row", "I", false)
  | 4 => ("PressSheets$Spot", "column", "I", false)
  | _ => ("PressSheets$Spot", "head", "I", false)
def yC5 : Nat → FieldType := fun k => match k with
  | 0 => .int
  | 1 => .int
  | 2 => .int
  | 3 => .int
  | 4 => .int
  | _ => .int
def tC6 : u_T := fun k => match k with
  | 0 => ("PressSheets$State", "job", "LPressSheets$Job;", true)
  | 1 => ("PressSheets$State", "press", "LPressSheets$Press;", true)
  | 2 => ("PressSheets$State", "plan", "LPressSheets$Plan;", true)
  | 3 => ("PressSheets$State", "seenCells", "LPressSheets$Row;", true)
  | 4 => ("PressSheets$State", "seenPages", "LPressSheets$Row;", true)
  | 5 => ("PressSheets$State", "eventKinds", "LPressSheets$Row;", true)
  | _ => ("PressSheets$State", "eventNumbers", "LPressSheets$Row;", true)
def yC6 : Nat → FieldType := fun k => match k with
  | 0 => .object "PressSheets$Job"
  | 1 => .object "PressSheets$Press"
  | 2 => .object "PressSheets$Plan"
  | 3 => .object "PressSheets$Row"
  | 4 => .object "PressSheets$Row"
  | 5 => .object "PressSheets$Row"
  | _ => .object "PressSheets$Row"
def tC7 : u_T := fun k => match k with
  | 0 => ("PressSheets$Tape", "sort", "I", false)
  | 1 => ("PressSheets$Tape", "size", "I", false)
  | _ => ("PressSheets$Tape", "items", "[J", true)
def yC7 : Nat → FieldType := fun k => match k with
  | 0 => .int
  | 1 => .int
  | _ => .array .long
def tC8 : u_T := fun k => match k with
  | 0 => ("PressSheets$Text", "signs", "LPressSheets$Row;", true)
  | 1 => ("PressSheets$Text", "kinds", "LPressSheets$Row;", true)
  | 2 => ("PressSheets$Text", "firsts", "LPressSheets$Row;", true)
  | 3 => ("PressSheets$Text", "seconds", "LPressSheets$Row;", true)
  | _ => ("PressSheets$Text", "at", "I", false)
def yC8 : Nat → FieldType := fun k => match k with
  | 0 => .object "PressSheets$Row"
  | 1 => .object "PressSheets$Row"
  | 2 => .object "PressSheets$Row"
  | 3 => .object "PressSheets$Row"
  | _ => .int
def tC9 : u_T := fun k => match k with
  | 0 => ("PressSheets", "now", "LPressSheets$State;", true)
  | 1 => ("PressSheets", "kept", "LPressSheets$State;", true)
  | 2 => ("PressSheets", "imageTaken", "Z", false)
  | 3 => ("PressSheets", "trial", "LPressSheets$Job;", true)
  | 4 => ("PressSheets", "text", "LPressSheets$Text;", true)
  | _ => ("PressSheets", "tapes", "[LPressSheets$Tape;", true)
def yC9 : Nat → FieldType := fun k => match k with
  | 0 => .object "PressSheets$State"
  | 1 => .object "PressSheets$State"
  | 2 => .boolean
  | 3 => .object "PressSheets$Job"
  | 4 => .object "PressSheets$Text"
  | _ => .array (.object "PressSheets$Tape")
def tC10 : u_T := fun k => match k with
  | 0 => ("PressSheetsModel", "thrown", "I", false)
  | 1 => ("PressSheetsModel", "fold", "I", false)
  | 2 => ("PressSheetsModel", "pages", "I", false)
  | 3 => ("PressSheetsModel", "gather", "I", false)
  | 4 => ("PressSheetsModel", "turn", "I", false)
  | 5 => ("PressSheetsModel", "thick", "I", false)
  | 6 => ("PressSheetsModel", "copies", "I", false)
  | 7 => ("PressSheetsModel", "rowAt", "[I", true)
  | 8 => ("PressSheetsModel", "columnAt", "[I", true)
  | 9 => ("PressSheetsModel", "depth", "[I", true)
  | 10 => ("PressSheetsModel", "above", "[I", true)
  | 11 => ("PressSheetsModel", "heads", "[I", true)
  | 12 => ("PressSheetsModel", "leafAt", "[I", true)
  | 13 => ("PressSheetsModel", "sheetWith", "I", false)
  | 14 => ("PressSheetsModel", "numberWith", "I", false)
  | 15 => ("PressSheetsModel", "line", "[I", true)
  | 16 => ("PressSheetsModel", "waiting", "I", false)
  | 17 => ("PressSheetsModel", "printedAt", "[I", true)
  | 18 => ("PressSheetsModel", "done", "I", false)
  | 19 => ("PressSheetsModel", "planCell", "[I", true)
  | 20 => ("PressSheetsModel", "planPage", "[I", true)
  | 21 => ("PressSheetsModel", "planHead", "[I", true)
  | 22 => ("PressSheetsModel", "planned", "I", false)
  | 23 => ("PressSheetsModel", "faultPage", "I", false)
  | 24 => ("PressSheetsModel", "faultCode", "I", false)
  | 25 => ("PressSheetsModel", "faultCell", "I", false)
  | 26 => ("PressSheetsModel", "faultLast", "I", false)
  | 27 => ("PressSheetsModel", "seen", "[I", true)
  | 28 => ("PressSheetsModel", "seenMany", "I", false)
  | 29 => ("PressSheetsModel", "events", "[I", true)
  | 30 => ("PressSheetsModel", "eventMany", "I", false)
  | 31 => ("PressSheetsModel", "text", "[I", true)
  | 32 => ("PressSheetsModel", "texted", "I", false)
  | 33 => ("PressSheetsModel", "at", "I", false)
  | 34 => ("PressSheetsModel", "clauses", "[I", true)
  | 35 => ("PressSheetsModel", "kept", "[I", true)
  | 36 => ("PressSheetsModel", "hasImage", "Z", false)
  | 37 => ("PressSheetsModel", "numbers", "[I", true)
  | 38 => ("PressSheetsModel", "sorts", "[I", true)
  | 39 => ("PressSheetsModel", "sizes", "[I", true)
  | 40 => ("PressSheetsModel", "cells", "[J", true)
  | _ => ("PressSheetsModel", "carried", "[J", true)
def yC10 : Nat → FieldType := fun k => match k with
  | 0 => .int
  | 1 => .int
  | 2 => .int
  | 3 => .int
  | 4 => .int
  | 5 => .int
  | 6 => .int
  | 7 => .array .int
  | 8 => .array .int
  | 9 => .array .int
  | 10 => .array .int
  | 11 => .array .int
  | 12 => .array .int
  | 13 => .int
  | 14 => .int
  | 15 => .array .int
  | 16 => .int
  | 17 => .array .int
  | 18 => .int
  | 19 => .array .int
  | 20 => .array .int
  | 21 => .array .int
  | 22 => .int
  | 23 => .int
  | 24 => .int
  | 25 => .int
  | 26 => .int
  | 27 => .array .int
  | 28 => .int
  | 29 => .array .int
  | 30 => .int
  | 31 => .array .int
  | 32 => .int
  | 33 => .int
  | 34 => .array .int
  | 35 => .array .int
  | 36 => .boolean
  | 37 => .array .int
  | 38 => .array .int
  | 39 => .array .int
  | 40 => .array .long
  | _ => .array .long
def cls : List vw_C := [("PressSheets$Job", tC0, 11), ("PressSheets$Leaf", tC1, 5), ("PressSheets$Plan", tC2, 4), ("PressSheets$Press", tC3, 2), ("PressSheets$Row", tC4, 2), ("PressSheets$Spot", tC5, 6), ("PressSheets$State", tC6, 7), ("PressSheets$Tape", tC7, 3), ("PressSheets$Text", tC8, 5), ("PressSheets", tC9, 6), ("PressSheetsModel", tC10, 42)]
/-- the tables' words that any method may take with it -/
def gtb : List Cond := lw_tbl.filter goodWord
theorem gtb_in {w : Cond} (h : w ∈ gtb) : w ∈ lw_tbl := (List.mem_filter.mp h).1
theorem gtb_of {w : Cond} (h : w ∈ lw_tbl) (hg : goodWord w = true) : w ∈ gtb := List.mem_filter.mpr ⟨h, hg⟩
theorem gtb_good : ∀ w ∈ gtb, goodWord w = true := fun _ h => (List.mem_filter.mp h).2
/-- what the tables say of a class of ours -/
def CK (C : String) (T : u_T) (N : Nat) : Prop := (∀ w ∈ u_ws C T N, w ∈ gtb) ∧ (∀ a, a < N → ∀ b, b < N → a ≠ b → (T a).2.1 ≠ (T b).2.1) ∧ ∃ ty : Nat → FieldType, ∀ k, k < N → parseFieldDescriptor (T k).2.2.1 = some (ty k)
theorem cKa {C : String} {T : u_T} {N : Nat} (h : ∀ w ∈ u_ws C T N, w ∈ lw_tbl) (h2 : ∀ w ∈ u_ws C T N, goodWord w = true) : ∀ w ∈ u_ws C T N, w ∈ gtb := fun w hw => gtb_of (h w hw) (h2 w hw)
theorem lw_r {w : Cond} (i : Nat) (h : tables_1[i]? = some w) (hg : goodWord w = true := by decide) : w ∈ gtb := gtb_of (List.mem_append_right _ (List.mem_of_getElem? h)) hg
theorem lw_l {w : Cond} (i : Nat) (h : (k2_sels lw_privs)[i]? = some w) (hg : goodWord w = true := by decide) : w ∈ gtb := gtb_of (List.mem_append_left _ (List.mem_of_getElem? h)) hg
set_option maxRecDepth 20000 in
theorem cK0 : CK "PressSheets$Job" tC0 11 := ⟨cKa (by decide +kernel) (by decide +kernel), by decide +kernel, yC0, by decide +kernel⟩
set_option maxRecDepth 20000 in
theorem cK1 : CK "PressSheets$Leaf" tC1 5 := ⟨cKa (by decide +kernel) (by decide +kernel), by decide +kernel, yC1, by decide +kernel⟩
set_option maxRecDepth 20000 in
theorem cK2 : CK "PressSheets$Plan" tC2 4 := ⟨cKa (by decide +kernel) (by decide +kernel), by decide +kernel, yC2, by decide +kernel⟩
set_option maxRecDepth 20000 in
theorem cK3 : CK "PressSheets$Press" tC3 2 := ⟨cKa (by decide +kernel) (by decide +kernel), by decide +kernel, yC3, by decide +kernel⟩
set_option maxRecDepth 20000 in
theorem cK4 : CK "PressSheets$Row" tC4 2 := ⟨cKa (by decide +kernel) (by decide +kernel), by decide +kernel, yC4, by decide +kernel⟩
set_option maxRecDepth 20000 in
theorem cK5 : CK "PressSheets$Spot" tC5 6 := ⟨cKa (by decide +kernel) (by decide +kernel), by decide +kernel, yC5, by decide +kernel⟩
set_option maxRecDepth 20000 in
theorem cK6 : CK "PressSheets$State" tC6 7 := ⟨cKa (by decide +kernel) (by decide +kernel), by decide +kernel, yC6, by decide +kernel⟩
set_option maxRecDepth 20000 in
theorem cK7 : CK "PressSheets$Tape" tC7 3 := ⟨cKa (by decide +kernel) (by decide +kernel), by decide +kernel, yC7, by decide +kernel⟩
set_option maxRecDepth 20000 in
theorem cK8 : CK "PressSheets$Text" tC8 5 := ⟨cKa (by decide +kernel) (by decide +kernel), by decide +kernel, yC8, by decide +kernel⟩
set_option maxRecDepth 20000 in
theorem cK9 : CK "PressSheets" tC9 6 := ⟨cKa (by decide +kernel) (by decide +kernel), by decide +kernel, yC9, by decide +kernel⟩
set_option maxRecDepth 20000 in
theorem cK10 : CK "PressSheetsModel" tC10 42 := ⟨cKa (by decide +kernel) (by decide +kernel), by decide +kernel, yC10, by decide +kernel⟩
theorem cK : ∀ (ci : Nat) (C : String) (T : u_T) (N : Nat), cls[ci]? = some (C, T, N) → CK C T N := by
  intro ci C T N h
  match ci, h with
  | 0, h => cases h; exact cK0
  | 1, h => cases h; exact cK1
  | 2, h => cases h; exact cK2
  | 3, h => cases h; exact cK3
  | 4, h => cases h; exact cK4
  | 5, h => cases h; exact cK5
  | 6, h => cases h; exact cK6
  | 7, h => cases h; exact cK7
  | 8, h => cases h; exact cK8
  | 9, h => cases h; exact cK9
  | 10, h => cases h; exact cK10
  | _ + 11, h => cases h
end
section
/-! the judgement GO: from this place of the method the machine comes to the method's end with what the term o says; a rule an instruction -/
abbrev KG : Type := va_G × ClassId × ClassId × ClassId × Nat
abbrev KX : Type := (Program × Launch × Env × Room × State × MethodId) × (Array Value × List Frame × Method × Code) × KG
abbrev kp (X : KX) : Program := X.1.1
abbrev kl (X : KX) : Launch := X.1.2.1
abbrev ke (X : KX) : Env := X.1.2.2.1
abbrev kr (X : KX) : Room := X.1.2.2.2.1
abbrev ks (X : KX) : State := X.1.2.2.2.2.1
abbrev km (X : KX) : MethodId := X.1.2.2.2.2.2
abbrev ka (X : KX) : Array Value := X.2.1.1
abbrev kb (X : KX) : List Frame := X.2.1.2.1
abbrev kt (X : KX) : Method := X.2.1.2.2.1
abbrev kc (X : KX) : Code := X.2.1.2.2.2
abbrev kG (X : KX) : KG := X.2.2
abbrev k0 (G : KG) : Nat := G.2.2.2.2
abbrev rf (G : KG) (k : Nat) : Value := .ref (G.2.2.2.2 + k)
def rfo (G : KG) (k : Option Nat) : Value := match k with
  | none => .null
  | some k => rf G k
def fval (b : Nat) (ini : Nat → Bool) (row : Nat → Int32) (k : Nat) (o : Option Nat) (j : Nat) : Value := match o with
  | none => .int (row j)
  | some d => if ini j = true then .ref (b + (k + d)) else .null
def fvs (b : Nat) (ini : Nat → Bool) (row : Nat → Int32) (k : Nat) (fl : List (Option Nat)) : List Value := (List.range fl.length).map (fun j => fval b ini row k (fl.getD j none) j)
def ce (G : KG) (ini : Nat → Nat → Bool) (M : Mm) (k : Nat) : va_E :=
  if kD k < 50 then .inr (kD k, fvs (k0 G) (ini k) (M.1 k) k (fD (kD k)))
  else if kD k = 50 then .inl (G.2.2.2.1, 6, .inr (.inr (.inr (.inr (fun j => if ini k j = true then some (k0 G + (k + 1 + 2 * j)) else none)))))
  else if kD k < 1000 then .inl (G.2.1, kD k - 100, .inl (M.1 k))
  else .inl (G.2.2.1, kD k - 1000, .inr (.inl (M.2 k)))
def WD (G : KG) (n : Nat) (ini : Nat → Nat → Bool) (M : Mm) (H : Heap) : Prop := H.size = k0 G + n ∧ ∀ k, k < n → va_at G.1 cls (k0 G + k, ce G ini M k) H
abbrev tyl (G : KG) : List (ClassId × FieldType) := [(G.2.1, .int), (G.2.2.1, .long), (G.2.2.2.1, .object "PressSheets$Tape")]
/-- the calls of private members of a nest mate -/
def ntb : List (String × Nat × MethodName × String) := [("PressSheets", 11, ⟨"PressSheets$State", "<init>", "()V"⟩, "PressSheets"), ("PressSheets$Job", 23, ⟨"PressSheets$Leaf", "<init>", "()V"⟩, "PressSheets"), ("PressSheets$Job", 30, ⟨"PressSheets$Spot", "<init>", "()V"⟩, "PressSheets"), ("PressSheets$State", 20, ⟨"PressSheets$Press", "<init>", "()V"⟩, "PressSheets"), ("PressSheets$State", 27, ⟨"PressSheets$Plan", "<init>", "()V"⟩, "PressSheets"), ("PressSheets", 30, ⟨"PressSheets$Text", "<init>", "()V"⟩, "PressSheets"), ("PressSheets", 37, ⟨"PressSheets$Tape", "<init>", "()V"⟩, "PressSheets"), ("PressSheets$Spot", 65, ⟨"PressSheets", "cellOf", "(IIII)I"⟩, "PressSheets")]
def VK (G : KG) (U : State) : Prop := va_K G.1 cls (tyl G) U ∧ (∀ q ∈ ntb, va_Nw (.methodLinkNest q.1 q.2.1 q.2.2.1 q.2.2.2) U) ∧ va_AO "PressSheets$Tape" U
/-- a method: its class, bytes, locals, type; the frames and the locals' room that it wants -/
abbrev MD : Type := String × ByteArray × Nat × Option FieldType × Nat × Nat
def KOK (X : KX) (d : MD) : Prop := (kp X).tables.exec = Jvm.exec ∧ (kc X).code = d.2.1 ∧ (kt X).sig.returnType = d.2.2.2.1 ∧ (kc X).maxLocals = d.2.2.1 ∧ (ks X).vm.findClass d.1 = some (km X).cls ∧ (∀ w ∈ gtb, w.before (ka X) (ks X) = true) ∧ (kt X).locks = false ∧ VK (kG X) (ks X) ∧ d.2.2.2.2.1 ≤ (kr X).frames ∧ d.2.2.2.2.2 ≤ (kr X).locals
abbrev ZZ : Type := Nat × Nat × Nat × (Nat → Nat → Bool)
abbrev KA (G : KG) : Nat → Prop := fun q => k0 G ≤ q
def LV (lsA : Array Slot) (nL : Nat) (ls : List (Option Value)) : Prop := ∃ l, lv_has lsA nL l ∧ ∀ (k : Nat) (v : Value), ls[k]? = some (some v) → (k, v) ∈ l
def GO {α : Type} (X : KX) (d : MD) (Q : α → Mm → State → Prop) (pc : Nat) (ls : List (Option Value)) (st : List Value) (Z : ZZ) (M : Mm) (o : Option (α × Mm)) : Prop :=
  KOK X d → ∀ (r : α) (M' : Mm), o = some (r, M') → ∀ (H : Heap) (locs : List Loc) (lsA : Array Slot), WD (kG X) Z.2.2.1 Z.2.2.2 M H → va_S (KA (kG X)) (ks X).heap H locs → LV lsA d.2.2.1 ls → Z.1 ≤ (kr X).cells → Z.2.1 ≤ (kr X).slots →
    W (kp X) (kl X) (ke X) (kr X) (ks X) (km X) (ka X) (kb X) (kt X) (kc X) H locs Z.1 Z.2.1 (Q r M') (F0 (km X) pc lsA st)
/-- a decoded instruction, and where the next one is; a jump's target -/
def dc (cc : ByteArray) (pc pc' : Nat) (i : Instr) (len : Nat) : Prop := decode cc pc = .ok (i, len) ∧ pc + len = pc'
def dj (cc : ByteArray) (pc pc' tgt : Nat) (off : Int) (i : Instr) (len : Nat) : Prop := decode cc pc = .ok (i, len) ∧ pc + len = pc' ∧ (pc : Int) + off = (tgt : Int)
def lT {α β : Type} (a : α) (f : α → β) : β := f a
def bD {α β : Type} (x : Option (β × Mm)) (f : β → Mm → Option (α × Mm)) : Option (α × Mm) := match x with
  | none => none
  | some q => f q.1 q.2
theorem bD_some {α β : Type} {x : Option (β × Mm)} {f : β → Mm → Option (α × Mm)} {r : α × Mm} (h : bD x f = some r) : ∃ (a : β) (M : Mm), x = some (a, M) ∧ f a M = some r := by
  cases x with
  | none => cases h
  | some q => exact ⟨q.1, q.2, rfl, h⟩
theorem irem_eq (x y : Int32) : x - x / y * y = x % y := by
  apply Int32.toInt_inj.mp
  have h0 : ∀ z : Int32, z.toInt = z.toInt.bmod (2 ^ 32) := fun z => by simp
  have h := h0 (x % y)
  rw [h, Int32.toInt_mod, Int32.toInt_sub, Int32.toInt_mul, Int32.toInt_div, Int.tmod_def]
  simp [Int.mul_comm]
theorem lrem_eq (x y : Int64) : x - x / y * y = x % y := by
  apply Int64.toInt_inj.mp
  have h0 : ∀ z : Int64, z.toInt = z.toInt.bmod (2 ^ 64) := fun z => by simp
  have h := h0 (x % y)
  rw [h, Int64.toInt_mod, Int64.toInt_sub, Int64.toInt_mul, Int64.toInt_div, Int.tmod_def]
  simp [Int.mul_comm]
section RULES
variable {α β : Type} {X : KX} {d : MD} {Q : α → Mm → State → Prop} {pc pc' tgt idx : Nat} {off : Int} {ls : List (Option Value)} {st : List Value} {Z : ZZ} {M : Mm} {o o1 o2 : Option (α × Mm)} {x y : Int32} {u v : Int64} {i j k ci : Nat}
theorem g_weak {ls' : List (Option Value)} (h : ∀ (k : Nat) (v : Value), ls'[k]? = some (some v) → ls[k]? = some (some v)) (kk : GO X d Q pc ls' st Z M o) : GO X d Q pc ls st Z M o := by
  intro K r M' ho H locs lsA hW hS hL hc hs
  obtain ⟨l, h1, h2⟩ := hL
  exact kk K r M' ho H locs lsA hW hS ⟨l, h1, fun k v hk => h2 k v (h k v hk)⟩ hc hs
theorem g_none : GO X d Q pc ls st Z M none := fun _ _ _ h => by cases h
theorem g_ite {P : Prop} [Decidable P] (k1 : P → GO X d Q pc ls st Z M o1) (k2 : ¬ P → GO X d Q pc ls st Z M o2) : GO X d Q pc ls st Z M (if P then o1 else o2) := by
  by_cases h : P
  · rw [if_pos h]; exact k1 h
  · rw [if_neg h]; exact k2 h
theorem g_grd {P : Prop} [Decidable P] (k1 : P → GO X d Q pc ls st Z M o1) : GO X d Q pc ls st Z M (if P then o1 else none) := g_ite k1 (fun _ => g_none)
theorem g_lt {γ : Type} {a : γ} {f : γ → Option (α × Mm)} (kk : GO X d Q pc ls st Z M (f a)) : GO X d Q pc ls st Z M (lT a f) := kk
theorem g_pt {γ : Type} {P : Prop} [Decidable P] {a b : γ} {f : γ → Option (α × Mm)} (h : P) (kk : GO X d Q pc ls st Z M (lT a f)) : GO X d Q pc ls st Z M (lT (if P then a else b) f) := by rw [if_pos h]; exact kk
theorem g_pf {γ : Type} {P : Prop} [Decidable P] {a b : γ} {f : γ → Option (α × Mm)} (h : ¬ P) (kk : GO X d Q pc ls st Z M (lT b f)) : GO X d Q pc ls st Z M (lT (if P then a else b) f) := by rw [if_neg h]; exact kk
theorem LV.at {lsA : Array Slot} {nL : Nat} {ls : List (Option Value)} (h : LV lsA nL ls) {k : Nat} {v : Value} (hk : ls[k]? = some (some v)) : lsA[k]? = some (.val v) := by
  obtain ⟨l, h1, h2⟩ := h
  exact h1.2.2 _ (h2 k v hk)
def nlo (ls : List (Option Value)) (i : Nat) : Bool := match i with
  | 0 => true
  | j + 1 => match ls[j]? with
    | some (some v) => v.category == 1
    | _ => true
theorem LV.set1 {ls : List (Option Value)} {l : List (Nat × Value)} (hl : ∀ (k : Nat) (v : Value), ls[k]? = some (some v) → (k, v) ∈ l) {i : Nat} {v : Value} (hn : nlo ls i = true) :
    ∀ (k : Nat) (v' : Value), (ls.set i (some v))[k]? = some (some v') → (k, v') ∈ (i, v) :: l.filter (fun q => !(q.1 == i) && !(q.1 + 1 == i && q.2.category == 2)) := by
  intro k v' hk
  by_cases he : k = i
  · subst he
    have hlt : k < ls.length := by
      have := (List.getElem?_eq_some_iff.mp hk).1
      simpa using this
    rw [List.getElem?_set_self hlt] at hk
    cases hk
    exact List.mem_cons_self
  · rw [List.getElem?_set_ne (Ne.symm he)] at hk
    refine List.mem_cons_of_mem _ (List.mem_filter.mpr ⟨hl k v' hk, ?_⟩)
    have h1 : ¬ (k + 1 = i ∧ v'.category = 2) := by
      rintro ⟨rfl, h2⟩
      simp only [nlo, hk] at hn
      rw [h2] at hn
      cases hn
    simp only [Bool.and_eq_true, Bool.not_eq_true', beq_eq_false_iff_ne, ne_eq, Bool.and_eq_false_iff]
    refine ⟨he, ?_⟩
    by_cases h2 : k + 1 = i
    · exact Or.inr (fun h3 => h1 ⟨h2, h3⟩)
    · exact Or.inl h2
theorem LV.set2 {ls : List (Option Value)} {l : List (Nat × Value)} (hl : ∀ (k : Nat) (v : Value), ls[k]? = some (some v) → (k, v) ∈ l) {i : Nat} {v : Value} (hn : nlo ls i = true) :
    ∀ (k : Nat) (v' : Value), ((ls.set i (some v)).set (i + 1) none)[k]? = some (some v') → (k, v') ∈ (i, v) :: l.filter (fun q => !(q.1 == i) && (!(q.1 == i + 1) && !(q.1 + 1 == i && q.2.category == 2))) := by
  intro k v' hk
  by_cases hi : k = i + 1
  · subst hi
    by_cases hlt : i + 1 < ls.length
    · rw [List.getElem?_set_self (by simpa using hlt)] at hk
      cases hk
    · have := (List.getElem?_eq_some_iff.mp hk).1
      simp at this
      omega
  · rw [List.getElem?_set_ne (Ne.symm hi)] at hk
    have h0 := LV.set1 hl hn k v' hk
    rcases List.mem_cons.mp h0 with h0 | h0
    · rw [h0]; exact List.mem_cons_self
    · obtain ⟨h1, h2⟩ := List.mem_filter.mp h0
      refine List.mem_cons_of_mem _ (List.mem_filter.mpr ⟨h1, ?_⟩)
      simp only [Bool.and_eq_true] at h2 ⊢
      exact ⟨h2.1, by simpa using hi, h2.2⟩
/-! a local's load and store -/
theorem g_iload_n {n : Fin 4} (hd : dc d.2.1 pc pc' (.iload_n n) 1) (hv : ls[(n : Nat)]? = some (some (.int x))) (kk : GO X d Q pc' ls (.int x :: st) Z M o) : GO X d Q pc ls st Z M o := by
  obtain ⟨hd, rfl⟩ := hd
  intro K r M' ho H locs lsA hW hS hL hc hs
  exact lv_iload_n K.1 K.2.1 hd rfl (hL.at hv) (kk K r M' ho H locs lsA hW hS hL hc hs)
theorem g_iload (hd : dc d.2.1 pc pc' (.iload i) 2) (hv : ls[i]? = some (some (.int x))) (kk : GO X d Q pc' ls (.int x :: st) Z M o) : GO X d Q pc ls st Z M o := by
  obtain ⟨hd, rfl⟩ := hd
  intro K r M' ho H locs lsA hW hS hL hc hs
  exact lv_iload K.1 K.2.1 hd (hL.at hv) (kk K r M' ho H locs lsA hW hS hL hc hs)
theorem g_lload_n {n : Fin 4} (hd : dc d.2.1 pc pc' (.lload_n n) 1) (hv : ls[(n : Nat)]? = some (some (.long u))) (kk : GO X d Q pc' ls (.long u :: st) Z M o) : GO X d Q pc ls st Z M o := by
  obtain ⟨hd, rfl⟩ := hd
  intro K r M' ho H locs lsA hW hS hL hc hs
  exact lv_lload_n K.1 K.2.1 hd rfl (hL.at hv) (kk K r M' ho H locs lsA hW hS hL hc hs)
theorem g_lload (hd : dc d.2.1 pc pc' (.lload i) 2) (hv : ls[i]? = some (some (.long u))) (kk : GO X d Q pc' ls (.long u :: st) Z M o) : GO X d Q pc ls st Z M o := by
  obtain ⟨hd, rfl⟩ := hd
  intro K r M' ho H locs lsA hW hS hL hc hs
  exact lv_lload K.1 K.2.1 hd (hL.at hv) (kk K r M' ho H locs lsA hW hS hL hc hs)
theorem g_aload_n {n : Fin 4} (hd : dc d.2.1 pc pc' (.aload_n n) 1) (hv : ls[(n : Nat)]? = some (some (rf (kG X) k))) (kk : GO X d Q pc' ls (rf (kG X) k :: st) Z M o) : GO X d Q pc ls st Z M o := by
  obtain ⟨hd, rfl⟩ := hd
  intro K r M' ho H locs lsA hW hS hL hc hs
  exact lv_aload_n K.1 K.2.1 hd rfl (hL.at hv) (kk K r M' ho H locs lsA hW hS hL hc hs)
theorem g_aload (hd : dc d.2.1 pc pc' (.aload i) 2) (hv : ls[i]? = some (some (rf (kG X) k))) (kk : GO X d Q pc' ls (rf (kG X) k :: st) Z M o) : GO X d Q pc ls st Z M o := by
  obtain ⟨hd, rfl⟩ := hd
  intro K r M' ho H locs lsA hW hS hL hc hs
  exact lv_aload K.1 K.2.1 hd (hL.at hv) (kk K r M' ho H locs lsA hW hS hL hc hs)
theorem g_istore_n {n : Fin 4} (hd : dc d.2.1 pc pc' (.istore_n n) 1) (hn : (n : Nat) < d.2.2.1) (hg : nlo ls n = true) (kk : GO X d Q pc' (ls.set n (some (.int x))) st Z M o) : GO X d Q pc ls (.int x :: st) Z M o := by
  obtain ⟨hd, rfl⟩ := hd
  intro K r M' ho H locs lsA hW hS ⟨l, h1, h2⟩ hc hs
  exact lv_istore_n K.1 K.2.1 hd rfl h1 hn rfl (fun ls' h' => kk K r M' ho H locs ls' hW hS ⟨_, h', LV.set1 h2 hg⟩ hc hs)
theorem g_istore (hd : dc d.2.1 pc pc' (.istore i) 2) (hn : i < d.2.2.1) (hg : nlo ls i = true) (kk : GO X d Q pc' (ls.set i (some (.int x))) st Z M o) : GO X d Q pc ls (.int x :: st) Z M o := by
  obtain ⟨hd, rfl⟩ := hd
  intro K r M' ho H locs lsA hW hS ⟨l, h1, h2⟩ hc hs
  exact lv_istore K.1 K.2.1 hd h1 hn rfl (fun ls' h' => kk K r M' ho H locs ls' hW hS ⟨_, h', LV.set1 h2 hg⟩ hc hs)
theorem g_astore_n {n : Fin 4} (hd : dc d.2.1 pc pc' (.astore_n n) 1) (hn : (n : Nat) < d.2.2.1) (hg : nlo ls n = true) (kk : GO X d Q pc' (ls.set n (some (rf (kG X) k))) st Z M o) : GO X d Q pc ls (rf (kG X) k :: st) Z M o := by
  obtain ⟨hd, rfl⟩ := hd
  intro K r M' ho H locs lsA hW hS ⟨l, h1, h2⟩ hc hs
  exact lv_astore_n K.1 K.2.1 hd rfl h1 hn rfl (fun ls' h' => kk K r M' ho H locs ls' hW hS ⟨_, h', LV.set1 h2 hg⟩ hc hs)
theorem g_astore (hd : dc d.2.1 pc pc' (.astore i) 2) (hn : i < d.2.2.1) (hg : nlo ls i = true) (kk : GO X d Q pc' (ls.set i (some (rf (kG X) k))) st Z M o) : GO X d Q pc ls (rf (kG X) k :: st) Z M o := by
  obtain ⟨hd, rfl⟩ := hd
  intro K r M' ho H locs lsA hW hS ⟨l, h1, h2⟩ hc hs
  exact lv_astore K.1 K.2.1 hd h1 hn rfl (fun ls' h' => kk K r M' ho H locs ls' hW hS ⟨_, h', LV.set1 h2 hg⟩ hc hs)
theorem g_lstore_n {n : Fin 4} (hd : dc d.2.1 pc pc' (.lstore_n n) 1) (hn : (n : Nat) + 1 < d.2.2.1) (hg : nlo ls n = true) (kk : GO X d Q pc' ((ls.set n (some (.long u))).set (n + 1) none) st Z M o) : GO X d Q pc ls (.long u :: st) Z M o := by
  obtain ⟨hd, rfl⟩ := hd
  intro K r M' ho H locs lsA hW hS ⟨l, h1, h2⟩ hc hs
  exact lv_lstore_n K.1 K.2.1 hd rfl h1 hn rfl (fun ls' h' => kk K r M' ho H locs ls' hW hS ⟨_, h', LV.set2 h2 hg⟩ hc hs)
theorem g_lstore (hd : dc d.2.1 pc pc' (.lstore i) 2) (hn : i + 1 < d.2.2.1) (hg : nlo ls i = true) (kk : GO X d Q pc' ((ls.set i (some (.long u))).set (i + 1) none) st Z M o) : GO X d Q pc ls (.long u :: st) Z M o := by
  obtain ⟨hd, rfl⟩ := hd
  intro K r M' ho H locs lsA hW hS ⟨l, h1, h2⟩ hc hs
  exact lv_lstore K.1 K.2.1 hd h1 hn rfl (fun ls' h' => kk K r M' ho H locs ls' hW hS ⟨_, h', LV.set2 h2 hg⟩ hc hs)
theorem g_iinc {n : Int} (hd : dc d.2.1 pc pc' (.iinc i n) 3) (hv : ls[i]? = some (some (.int x))) (hy : x + Int32.ofInt n = y) (hn : i < d.2.2.1) (hg : nlo ls i = true) (kk : GO X d Q pc' (ls.set i (some (.int y))) st Z M o) : GO X d Q pc ls st Z M o := by
  obtain ⟨hd, rfl⟩ := hd
  intro K r M' ho H locs lsA hW hS ⟨l, h1, h2⟩ hc hs
  obtain ⟨q, hq⟩ := List.getElem?_of_mem (h2 _ _ hv)
  exact lv_iinc K.1 K.2.1 hd h1 hq hy hn rfl (fun ls' h' => kk K r M' ho H locs ls' hW hS ⟨_, h', LV.set1 h2 hg⟩ hc hs)
theorem g_iconst {n : Int} (hd : dc d.2.1 pc pc' (.iconst n) 1) (hx : Int32.ofInt n = x) (kk : GO X d Q pc' ls (.int x :: st) Z M o) : GO X d Q pc ls (st) Z M o := by
  obtain ⟨hd, rfl⟩ := hd
  intro K r M' ho H locs lsA hW hS hL hc hs
  exact lv_iconst K.1 K.2.1 hd hx (kk K r M' ho H locs lsA hW hS hL hc hs)
theorem g_bipush {n : Int} (hd : dc d.2.1 pc pc' (.bipush n) 2) (hx : (Int8.ofInt n).toInt32 = x) (kk : GO X d Q pc' ls (.int x :: st) Z M o) : GO X d Q pc ls (st) Z M o := by
  obtain ⟨hd, rfl⟩ := hd
  intro K r M' ho H locs lsA hW hS hL hc hs
  exact lv_bipush K.1 K.2.1 hd hx (kk K r M' ho H locs lsA hW hS hL hc hs)
theorem g_sipush {n : Int} (hd : dc d.2.1 pc pc' (.sipush n) 3) (hx : (Int16.ofInt n).toInt32 = x) (kk : GO X d Q pc' ls (.int x :: st) Z M o) : GO X d Q pc ls (st) Z M o := by
  obtain ⟨hd, rfl⟩ := hd
  intro K r M' ho H locs lsA hW hS hL hc hs
  exact lv_sipush K.1 K.2.1 hd hx (kk K r M' ho H locs lsA hW hS hL hc hs)
theorem g_lconst {n : Fin 2} (hd : dc d.2.1 pc pc' (.lconst n) 1) (hx : Int64.ofNat n.val = u) (kk : GO X d Q pc' ls (.long u :: st) Z M o) : GO X d Q pc ls (st) Z M o := by
  obtain ⟨hd, rfl⟩ := hd
  intro K r M' ho H locs lsA hW hS hL hc hs
  exact lv_lconst K.1 K.2.1 hd hx (kk K r M' ho H locs lsA hW hS hL hc hs)
theorem g_iadd (hd : dc d.2.1 pc pc' .iadd 1) (kk : GO X d Q pc' ls (.int (x + y) :: st) Z M o) : GO X d Q pc ls (.int y :: .int x :: st) Z M o := by
  obtain ⟨hd, rfl⟩ := hd
  intro K r M' ho H locs lsA hW hS hL hc hs
  exact lv_iadd K.1 K.2.1 hd (kk K r M' ho H locs lsA hW hS hL hc hs)
theorem g_isub (hd : dc d.2.1 pc pc' .isub 1) (kk : GO X d Q pc' ls (.int (x - y) :: st) Z M o) : GO X d Q pc ls (.int y :: .int x :: st) Z M o := by
  obtain ⟨hd, rfl⟩ := hd
  intro K r M' ho H locs lsA hW hS hL hc hs
  exact lv_isub K.1 K.2.1 hd (kk K r M' ho H locs lsA hW hS hL hc hs)
theorem g_imul (hd : dc d.2.1 pc pc' .imul 1) (kk : GO X d Q pc' ls (.int (x * y) :: st) Z M o) : GO X d Q pc ls (.int y :: .int x :: st) Z M o := by
  obtain ⟨hd, rfl⟩ := hd
  intro K r M' ho H locs lsA hW hS hL hc hs
  exact lv_imul K.1 K.2.1 hd (kk K r M' ho H locs lsA hW hS hL hc hs)
theorem g_iand (hd : dc d.2.1 pc pc' .iand 1) (kk : GO X d Q pc' ls (.int (x &&& y) :: st) Z M o) : GO X d Q pc ls (.int y :: .int x :: st) Z M o := by
  obtain ⟨hd, rfl⟩ := hd
  intro K r M' ho H locs lsA hW hS hL hc hs
  exact lv_iand K.1 K.2.1 hd (kk K r M' ho H locs lsA hW hS hL hc hs)
theorem g_ixor (hd : dc d.2.1 pc pc' .ixor 1) (kk : GO X d Q pc' ls (.int (x ^^^ y) :: st) Z M o) : GO X d Q pc ls (.int y :: .int x :: st) Z M o := by
  obtain ⟨hd, rfl⟩ := hd
  intro K r M' ho H locs lsA hW hS hL hc hs
  exact lv_ixor K.1 K.2.1 hd (kk K r M' ho H locs lsA hW hS hL hc hs)
theorem g_ishl (hd : dc d.2.1 pc pc' .ishl 1) (kk : GO X d Q pc' ls (.int (x <<< (y &&& 31)) :: st) Z M o) : GO X d Q pc ls (.int y :: .int x :: st) Z M o := by
  obtain ⟨hd, rfl⟩ := hd
  intro K r M' ho H locs lsA hW hS hL hc hs
  exact lv_ishl K.1 K.2.1 hd (kk K r M' ho H locs lsA hW hS hL hc hs)
theorem g_ishr (hd : dc d.2.1 pc pc' .ishr 1) (kk : GO X d Q pc' ls (.int (x >>> (y &&& 31)) :: st) Z M o) : GO X d Q pc ls (.int y :: .int x :: st) Z M o := by
  obtain ⟨hd, rfl⟩ := hd
  intro K r M' ho H locs lsA hW hS hL hc hs
  exact lv_ishr K.1 K.2.1 hd (kk K r M' ho H locs lsA hW hS hL hc hs)
theorem g_idiv (hd : dc d.2.1 pc pc' .idiv 1) (hne : ¬ y = 0) (kk : GO X d Q pc' ls (.int (x / y) :: st) Z M o) : GO X d Q pc ls (.int y :: .int x :: st) Z M o := by
  obtain ⟨hd, rfl⟩ := hd
  intro K r M' ho H locs lsA hW hS hL hc hs
  exact lv_idiv K.1 K.2.1 hd hne (kk K r M' ho H locs lsA hW hS hL hc hs)
theorem g_irem (hd : dc d.2.1 pc pc' .irem 1) (hne : ¬ y = 0) (kk : GO X d Q pc' ls (.int (x % y) :: st) Z M o) : GO X d Q pc ls (.int y :: .int x :: st) Z M o := by
  obtain ⟨hd, rfl⟩ := hd
  intro K r M' ho H locs lsA hW hS hL hc hs
  exact lv_irem K.1 K.2.1 hd hne (irem_eq x y ▸ kk K r M' ho H locs lsA hW hS hL hc hs)
theorem g_lmul (hd : dc d.2.1 pc pc' .lmul 1) (kk : GO X d Q pc' ls (.long (u * v) :: st) Z M o) : GO X d Q pc ls (.long v :: .long u :: st) Z M o := by
  obtain ⟨hd, rfl⟩ := hd
  intro K r M' ho H locs lsA hW hS hL hc hs
  exact lv_lmul K.1 K.2.1 hd (kk K r M' ho H locs lsA hW hS hL hc hs)
theorem g_land (hd : dc d.2.1 pc pc' .land 1) (kk : GO X d Q pc' ls (.long (u &&& v) :: st) Z M o) : GO X d Q pc ls (.long v :: .long u :: st) Z M o := by
  obtain ⟨hd, rfl⟩ := hd
  intro K r M' ho H locs lsA hW hS hL hc hs
  exact lv_land K.1 K.2.1 hd (kk K r M' ho H locs lsA hW hS hL hc hs)
theorem g_lor (hd : dc d.2.1 pc pc' .lor 1) (kk : GO X d Q pc' ls (.long (u ||| v) :: st) Z M o) : GO X d Q pc ls (.long v :: .long u :: st) Z M o := by
  obtain ⟨hd, rfl⟩ := hd
  intro K r M' ho H locs lsA hW hS hL hc hs
  exact lv_lor K.1 K.2.1 hd (kk K r M' ho H locs lsA hW hS hL hc hs)
theorem g_ldiv (hd : dc d.2.1 pc pc' .ldiv 1) (hne : ¬ v = 0) (kk : GO X d Q pc' ls (.long (u / v) :: st) Z M o) : GO X d Q pc ls (.long v :: .long u :: st) Z M o := by
  obtain ⟨hd, rfl⟩ := hd
  intro K r M' ho H locs lsA hW hS hL hc hs
  exact lv_ldiv K.1 K.2.1 hd hne (kk K r M' ho H locs lsA hW hS hL hc hs)
theorem g_lrem (hd : dc d.2.1 pc pc' .lrem 1) (hne : ¬ v = 0) (kk : GO X d Q pc' ls (.long (u % v) :: st) Z M o) : GO X d Q pc ls (.long v :: .long u :: st) Z M o := by
  obtain ⟨hd, rfl⟩ := hd
  intro K r M' ho H locs lsA hW hS hL hc hs
  exact lv_lrem K.1 K.2.1 hd hne (lrem_eq u v ▸ kk K r M' ho H locs lsA hW hS hL hc hs)
theorem g_lshl (hd : dc d.2.1 pc pc' .lshl 1) (kk : GO X d Q pc' ls (.long (u <<< (y.toInt64 &&& 63)) :: st) Z M o) : GO X d Q pc ls (.int y :: .long u :: st) Z M o := by
  obtain ⟨hd, rfl⟩ := hd
  intro K r M' ho H locs lsA hW hS hL hc hs
  exact lv_lshl K.1 K.2.1 hd rfl (kk K r M' ho H locs lsA hW hS hL hc hs)
theorem g_i2l (hd : dc d.2.1 pc pc' .i2l 1) (kk : GO X d Q pc' ls (.long x.toInt64 :: st) Z M o) : GO X d Q pc ls (.int x :: st) Z M o := by
  obtain ⟨hd, rfl⟩ := hd
  intro K r M' ho H locs lsA hW hS hL hc hs
  exact lv_i2l K.1 K.2.1 hd rfl (kk K r M' ho H locs lsA hW hS hL hc hs)
theorem g_l2i (hd : dc d.2.1 pc pc' .l2i 1) (kk : GO X d Q pc' ls (.int u.toInt32 :: st) Z M o) : GO X d Q pc ls (.long u :: st) Z M o := by
  obtain ⟨hd, rfl⟩ := hd
  intro K r M' ho H locs lsA hW hS hL hc hs
  exact lv_l2i K.1 K.2.1 hd rfl (kk K r M' ho H locs lsA hW hS hL hc hs)
theorem g_i2b (hd : dc d.2.1 pc pc' .i2b 1) (kk : GO X d Q pc' ls (.int x.toInt8.toInt32 :: st) Z M o) : GO X d Q pc ls (.int x :: st) Z M o := by
  obtain ⟨hd, rfl⟩ := hd
  intro K r M' ho H locs lsA hW hS hL hc hs
  exact lv_i2b K.1 K.2.1 hd rfl (kk K r M' ho H locs lsA hW hS hL hc hs)
theorem g_i2s (hd : dc d.2.1 pc pc' .i2s 1) (kk : GO X d Q pc' ls (.int x.toInt16.toInt32 :: st) Z M o) : GO X d Q pc ls (.int x :: st) Z M o := by
  obtain ⟨hd, rfl⟩ := hd
  intro K r M' ho H locs lsA hW hS hL hc hs
  exact lv_i2s K.1 K.2.1 hd rfl (kk K r M' ho H locs lsA hW hS hL hc hs)
theorem g_lcmp (hd : dc d.2.1 pc pc' .lcmp 1) (kk : GO X d Q pc' ls (.int (lg_cmp u v) :: st) Z M o) : GO X d Q pc ls (.long v :: .long u :: st) Z M o := by
  obtain ⟨hd, rfl⟩ := hd
  intro K r M' ho H locs lsA hW hS hL hc hs
  exact W.lcmp K.1 K.2.1 hd (kk K r M' ho H locs lsA hW hS hL hc hs)
theorem g_dup {w : Value} (hd : dc d.2.1 pc pc' .dup 1) (hw : w.category = 1) (kk : GO X d Q pc' ls (w :: w :: st) Z M o) : GO X d Q pc ls (w :: st) Z M o := by
  obtain ⟨hd, rfl⟩ := hd
  intro K r M' ho H locs lsA hW hS hL hc hs
  exact lv_dup K.1 K.2.1 hd hw (kk K r M' ho H locs lsA hW hS hL hc hs)
theorem g_pop {w : Value} (hd : dc d.2.1 pc pc' .pop 1) (hw : w.category = 1) (kk : GO X d Q pc' ls (st) Z M o) : GO X d Q pc ls (w :: st) Z M o := by
  obtain ⟨hd, rfl⟩ := hd
  intro K r M' ho H locs lsA hW hS hL hc hs
  exact lv_pop K.1 K.2.1 hd hw (kk K r M' ho H locs lsA hW hS hL hc hs)
theorem g_dup2 {w z : Value} (hd : dc d.2.1 pc pc' .dup2 1) (hw : w.category = 1) (hz : z.category = 1) (kk : GO X d Q pc' ls (w :: z :: w :: z :: st) Z M o) : GO X d Q pc ls (w :: z :: st) Z M o := by
  obtain ⟨hd, rfl⟩ := hd
  intro K r M' ho H locs lsA hW hS hL hc hs
  exact lv_dup2_11 K.1 K.2.1 hd hw hz (kk K r M' ho H locs lsA hW hS hL hc hs)
theorem g_null (hd : dc d.2.1 pc pc' .aconst_null 1) (kk : GO X d Q pc' ls (.null :: st) Z M o) : GO X d Q pc ls (st) Z M o := by
  obtain ⟨hd, rfl⟩ := hd
  intro K r M' ho H locs lsA hW hS hL hc hs
  exact lv_null K.1 K.2.1 hd (kk K r M' ho H locs lsA hW hS hL hc hs)
theorem g_ldc (hd : dc d.2.1 pc pc' (.ldc idx) 2) (hw : Cond.constant d.1 idx x ∈ gtb) (kk : GO X d Q pc' ls (.int x :: st) Z M o) : GO X d Q pc ls (st) Z M o := by
  obtain ⟨hd, rfl⟩ := hd
  intro K r M' ho H locs lsA hW hS hL hc hs
  exact lv_ldc K.1 K.2.1 K.2.2.2.2.1 (K.2.2.2.2.2.1 _ hw) hd (kk K r M' ho H locs lsA hW hS hL hc hs)
theorem g_ldc2 (hd : dc d.2.1 pc pc' (.ldc2_w idx) 3) (hw : Cond.constantLong d.1 idx u ∈ gtb) (kk : GO X d Q pc' ls (.long u :: st) Z M o) : GO X d Q pc ls (st) Z M o := by
  obtain ⟨hd, rfl⟩ := hd
  intro K r M' ho H locs lsA hW hS hL hc hs
  exact lv_ldc2 K.1 K.2.1 K.2.2.2.2.1 (K.2.2.2.2.2.1 _ hw) hd (kk K r M' ho H locs lsA hW hS hL hc hs)
theorem g_icmp_eq (hd : dj d.2.1 pc pc' tgt off (.if_icmp .eq off) 3) (kt : x = y → GO X d Q tgt ls st Z M o1) (kf : ¬ x = y → GO X d Q pc' ls st Z M o2) : GO X d Q pc ls (.int y :: .int x :: st) Z M (if x = y then o1 else o2) := by
  obtain ⟨hd, rfl, ht⟩ := hd
  intro K r M' ho H locs lsA hW hS hL hc hs
  exact lv_icmp_eq K.1 K.2.1 hd ht (fun h => kt h K r M' (by rw [if_pos h] at ho; exact ho) H locs lsA hW hS hL hc hs) (fun h => kf h K r M' (by rw [if_neg h] at ho; exact ho) H locs lsA hW hS hL hc hs)
theorem g_icmp_ne (hd : dj d.2.1 pc pc' tgt off (.if_icmp .ne off) 3) (kt : ¬ x = y → GO X d Q tgt ls st Z M o2) (kf : x = y → GO X d Q pc' ls st Z M o1) : GO X d Q pc ls (.int y :: .int x :: st) Z M (if x = y then o1 else o2) := by
  obtain ⟨hd, rfl, ht⟩ := hd
  intro K r M' ho H locs lsA hW hS hL hc hs
  exact lv_icmp_ne K.1 K.2.1 hd ht (fun h => kt h K r M' (by rw [if_neg h] at ho; exact ho) H locs lsA hW hS hL hc hs) (fun h => kf h K r M' (by rw [if_pos h] at ho; exact ho) H locs lsA hW hS hL hc hs)
theorem g_icmp_lt (hd : dj d.2.1 pc pc' tgt off (.if_icmp .lt off) 3) (kt : x < y → GO X d Q tgt ls st Z M o1) (kf : ¬ x < y → GO X d Q pc' ls st Z M o2) : GO X d Q pc ls (.int y :: .int x :: st) Z M (if x < y then o1 else o2) := by
  obtain ⟨hd, rfl, ht⟩ := hd
  intro K r M' ho H locs lsA hW hS hL hc hs
  exact lv_icmp_lt K.1 K.2.1 hd ht (fun h => kt h K r M' (by rw [if_pos h] at ho; exact ho) H locs lsA hW hS hL hc hs) (fun h => kf h K r M' (by rw [if_neg h] at ho; exact ho) H locs lsA hW hS hL hc hs)
theorem g_icmp_ge (hd : dj d.2.1 pc pc' tgt off (.if_icmp .ge off) 3) (kt : y ≤ x → GO X d Q tgt ls st Z M o1) (kf : ¬ y ≤ x → GO X d Q pc' ls st Z M o2) : GO X d Q pc ls (.int y :: .int x :: st) Z M (if y ≤ x then o1 else o2) := by
  obtain ⟨hd, rfl, ht⟩ := hd
  intro K r M' ho H locs lsA hW hS hL hc hs
  exact lv_icmp_ge K.1 K.2.1 hd ht (fun h => kt h K r M' (by rw [if_pos h] at ho; exact ho) H locs lsA hW hS hL hc hs) (fun h => kf h K r M' (by rw [if_neg h] at ho; exact ho) H locs lsA hW hS hL hc hs)
theorem g_icmp_gt (hd : dj d.2.1 pc pc' tgt off (.if_icmp .gt off) 3) (kt : y < x → GO X d Q tgt ls st Z M o1) (kf : ¬ y < x → GO X d Q pc' ls st Z M o2) : GO X d Q pc ls (.int y :: .int x :: st) Z M (if y < x then o1 else o2) := by
  obtain ⟨hd, rfl, ht⟩ := hd
  intro K r M' ho H locs lsA hW hS hL hc hs
  exact lv_icmp_gt K.1 K.2.1 hd ht (fun h => kt h K r M' (by rw [if_pos h] at ho; exact ho) H locs lsA hW hS hL hc hs) (fun h => kf h K r M' (by rw [if_neg h] at ho; exact ho) H locs lsA hW hS hL hc hs)
theorem g_icmp_le (hd : dj d.2.1 pc pc' tgt off (.if_icmp .le off) 3) (kt : x ≤ y → GO X d Q tgt ls st Z M o1) (kf : ¬ x ≤ y → GO X d Q pc' ls st Z M o2) : GO X d Q pc ls (.int y :: .int x :: st) Z M (if x ≤ y then o1 else o2) := by
  obtain ⟨hd, rfl, ht⟩ := hd
  intro K r M' ho H locs lsA hW hS hL hc hs
  exact lv_icmp_le K.1 K.2.1 hd ht (fun h => kt h K r M' (by rw [if_pos h] at ho; exact ho) H locs lsA hW hS hL hc hs) (fun h => kf h K r M' (by rw [if_neg h] at ho; exact ho) H locs lsA hW hS hL hc hs)
theorem g_if_eq (hd : dj d.2.1 pc pc' tgt off (.ifCond .eq off) 3) (kt : x = 0 → GO X d Q tgt ls st Z M o1) (kf : ¬ x = 0 → GO X d Q pc' ls st Z M o2) : GO X d Q pc ls (.int x :: st) Z M (if x = 0 then o1 else o2) := by
  obtain ⟨hd, rfl, ht⟩ := hd
  intro K r M' ho H locs lsA hW hS hL hc hs
  exact lv_if_eq K.1 K.2.1 hd ht (fun h => kt h K r M' (by rw [if_pos h] at ho; exact ho) H locs lsA hW hS hL hc hs) (fun h => kf h K r M' (by rw [if_neg h] at ho; exact ho) H locs lsA hW hS hL hc hs)
theorem g_if_ne (hd : dj d.2.1 pc pc' tgt off (.ifCond .ne off) 3) (kt : ¬ x = 0 → GO X d Q tgt ls st Z M o2) (kf : x = 0 → GO X d Q pc' ls st Z M o1) : GO X d Q pc ls (.int x :: st) Z M (if x = 0 then o1 else o2) := by
  obtain ⟨hd, rfl, ht⟩ := hd
  intro K r M' ho H locs lsA hW hS hL hc hs
  exact lv_if_ne K.1 K.2.1 hd ht (fun h => kt h K r M' (by rw [if_neg h] at ho; exact ho) H locs lsA hW hS hL hc hs) (fun h => kf h K r M' (by rw [if_pos h] at ho; exact ho) H locs lsA hW hS hL hc hs)
theorem g_if_lt (hd : dj d.2.1 pc pc' tgt off (.ifCond .lt off) 3) (kt : x < 0 → GO X d Q tgt ls st Z M o1) (kf : ¬ x < 0 → GO X d Q pc' ls st Z M o2) : GO X d Q pc ls (.int x :: st) Z M (if x < 0 then o1 else o2) := by
  obtain ⟨hd, rfl, ht⟩ := hd
  intro K r M' ho H locs lsA hW hS hL hc hs
  exact lv_if_lt K.1 K.2.1 hd ht (fun h => kt h K r M' (by rw [if_pos h] at ho; exact ho) H locs lsA hW hS hL hc hs) (fun h => kf h K r M' (by rw [if_neg h] at ho; exact ho) H locs lsA hW hS hL hc hs)
theorem g_if_ge (hd : dj d.2.1 pc pc' tgt off (.ifCond .ge off) 3) (kt : 0 ≤ x → GO X d Q tgt ls st Z M o1) (kf : ¬ 0 ≤ x → GO X d Q pc' ls st Z M o2) : GO X d Q pc ls (.int x :: st) Z M (if 0 ≤ x then o1 else o2) := by
  obtain ⟨hd, rfl, ht⟩ := hd
  intro K r M' ho H locs lsA hW hS hL hc hs
  exact lv_if_ge K.1 K.2.1 hd ht (fun h => kt h K r M' (by rw [if_pos h] at ho; exact ho) H locs lsA hW hS hL hc hs) (fun h => kf h K r M' (by rw [if_neg h] at ho; exact ho) H locs lsA hW hS hL hc hs)
theorem g_if_gt (hd : dj d.2.1 pc pc' tgt off (.ifCond .gt off) 3) (kt : 0 < x → GO X d Q tgt ls st Z M o1) (kf : ¬ 0 < x → GO X d Q pc' ls st Z M o2) : GO X d Q pc ls (.int x :: st) Z M (if 0 < x then o1 else o2) := by
  obtain ⟨hd, rfl, ht⟩ := hd
  intro K r M' ho H locs lsA hW hS hL hc hs
  exact lv_if_gt K.1 K.2.1 hd ht (fun h => kt h K r M' (by rw [if_pos h] at ho; exact ho) H locs lsA hW hS hL hc hs) (fun h => kf h K r M' (by rw [if_neg h] at ho; exact ho) H locs lsA hW hS hL hc hs)
theorem g_if_le (hd : dj d.2.1 pc pc' tgt off (.ifCond .le off) 3) (kt : x ≤ 0 → GO X d Q tgt ls st Z M o1) (kf : ¬ x ≤ 0 → GO X d Q pc' ls st Z M o2) : GO X d Q pc ls (.int x :: st) Z M (if x ≤ 0 then o1 else o2) := by
  obtain ⟨hd, rfl, ht⟩ := hd
  intro K r M' ho H locs lsA hW hS hL hc hs
  exact lv_if_le K.1 K.2.1 hd ht (fun h => kt h K r M' (by rw [if_pos h] at ho; exact ho) H locs lsA hW hS hL hc hs) (fun h => kf h K r M' (by rw [if_neg h] at ho; exact ho) H locs lsA hW hS hL hc hs)
theorem g_goto (hd : dj d.2.1 pc pc' tgt off (.goto off) 3) (kk : GO X d Q tgt ls st Z M o) : GO X d Q pc ls st Z M o := by
  obtain ⟨hd, rfl, ht⟩ := hd
  intro K r M' ho H locs lsA hW hS hL hc hs
  exact lv_goto K.1 K.2.1 hd ht (kk K r M' ho H locs lsA hW hS hL hc hs)
theorem g_ifnull (hd : dj d.2.1 pc pc' tgt off (.ifnull off) 3) (kk : GO X d Q pc' ls st Z M o) : GO X d Q pc ls (rf (kG X) k :: st) Z M o := by
  obtain ⟨hd, rfl, ht⟩ := hd
  intro K r M' ho H locs lsA hW hS hL hc hs
  exact lv_ifnull K.1 K.2.1 hd (kk K r M' ho H locs lsA hW hS hL hc hs)
theorem g_ifnullN (hd : dj d.2.1 pc pc' tgt off (.ifnull off) 3) (kk : GO X d Q tgt ls st Z M o) : GO X d Q pc ls (.null :: st) Z M o := by
  obtain ⟨hd, rfl, ht⟩ := hd
  intro K r M' ho H locs lsA hW hS hL hc hs
  exact lv_ifnullN K.1 K.2.1 hd ht (kk K r M' ho H locs lsA hW hS hL hc hs)
theorem g_ifnonnull (hd : dj d.2.1 pc pc' tgt off (.ifnonnull off) 3) (kk : GO X d Q tgt ls st Z M o) : GO X d Q pc ls (rf (kG X) k :: st) Z M o := by
  obtain ⟨hd, rfl, ht⟩ := hd
  intro K r M' ho H locs lsA hW hS hL hc hs
  exact lv_ifnonnull K.1 K.2.1 hd ht (kk K r M' ho H locs lsA hW hS hL hc hs)
theorem g_ifnonnullN (hd : dj d.2.1 pc pc' tgt off (.ifnonnull off) 3) (kk : GO X d Q pc' ls st Z M o) : GO X d Q pc ls (.null :: st) Z M o := by
  obtain ⟨hd, rfl, ht⟩ := hd
  intro K r M' ho H locs lsA hW hS hL hc hs
  exact lv_ifnonnullN K.1 K.2.1 hd (kk K r M' ho H locs lsA hW hS hL hc hs)
theorem g_tswI {dflt lo hi : Int} {offs : Array Int} {len : Nat} (hd : decode d.2.1 pc = .ok (.tableswitch dflt lo hi offs, len)) (c : Int32) (hx : x = c) (h : ¬ c.toInt < lo ∧ ¬ hi < c.toInt ∧ offs[(c.toInt - lo).toNat]? = some off ∧ (pc : Int) + off = (tgt : Int)) (kk : GO X d Q tgt ls st Z M o) : GO X d Q pc ls (.int x :: st) Z M o := by
  subst hx
  intro K r M' ho H locs lsA hW hS hL hc hs
  exact lv_tableIn K.1 K.2.1 hd h.1 h.2.1 h.2.2.1 h.2.2.2 (kk K r M' ho H locs lsA hW hS hL hc hs)
theorem g_tswO {dflt lo hi : Int} {offs : Array Int} {len : Nat} (hd : decode d.2.1 pc = .ok (.tableswitch dflt lo hi offs, len)) (ht : (pc : Int) + dflt = (tgt : Int)) (h : x.toInt < lo ∨ hi < x.toInt) (kk : GO X d Q tgt ls st Z M o) : GO X d Q pc ls (.int x :: st) Z M o := by
  intro K r M' ho H locs lsA hW hS hL hc hs
  exact lv_tableOut K.1 K.2.1 hd h ht (kk K r M' ho H locs lsA hW hS hL hc hs)
theorem g_lsw {dflt : Int} {ps : Array (Int × Int)} {len : Nat} (hd : decode d.2.1 pc = .ok (.lookupswitch dflt ps, len)) (hp : (ps.toList.zip (ps.toList.drop 1)).all (fun (a, next) => a.1 < next.1) = true) (ho' : Op.lookupswitch.offset ps.toList dflt x.toInt = off) (ht : (pc : Int) + off = (tgt : Int)) (kk : GO X d Q tgt ls st Z M o) : GO X d Q pc ls (.int x :: st) Z M o := by
  intro K r M' ho H locs lsA hW hS hL hc hs
  exact lv_lookup K.1 K.2.1 hd hp ho' ht (kk K r M' ho H locs lsA hW hS hL hc hs)
theorem sw_out {lo hi : Int} {x : Int32} (h : ∀ c : Int, lo ≤ c → c ≤ hi → ¬ x = Int32.ofInt c) : x.toInt < lo ∨ hi < x.toInt := by
  by_cases h1 : x.toInt < lo
  · exact Or.inl h1
  · by_cases h2 : hi < x.toInt
    · exact Or.inr h2
    · exact absurd (by simp) (h x.toInt (by omega) (by omega))
end RULES
end
section
/-! the rules of fields, arrays, calls and ends -/
theorem ce_obj {G : KG} {ini : Nat → Nat → Bool} {M : Mm} {k : Nat} (h : kD k < 50) : ce G ini M k = .inr (kD k, fvs (k0 G) (ini k) (M.1 k) k (fD (kD k))) := if_pos h
theorem ce_T {G : KG} {ini : Nat → Nat → Bool} {M : Mm} {k : Nat} (h : kD k = 50) : ce G ini M k = .inl (G.2.2.2.1, 6, .inr (.inr (.inr (.inr (fun j => if ini k j = true then some (k0 G + (k + 1 + 2 * j)) else none))))) := by
  unfold ce
  rw [if_neg (by omega), if_pos h]
theorem ce_I {G : KG} {ini : Nat → Nat → Bool} {M : Mm} {k n : Nat} (h : kD k = 100 + n) (h2 : n < 900) : ce G ini M k = .inl (G.2.1, n, .inl (M.1 k)) := by
  unfold ce
  rw [if_neg (by omega), if_neg (by omega), if_pos (by omega), show kD k - 100 = n by omega]
theorem ce_J {G : KG} {ini : Nat → Nat → Bool} {M : Mm} {k n : Nat} (h : kD k = 1000 + n) : ce G ini M k = .inl (G.2.2.1, n, .inr (.inl (M.2 k))) := by
  unfold ce
  rw [if_neg (by omega), if_neg (by omega), if_neg (by omega), show kD k - 1000 = n by omega]
theorem ce_cg {G : KG} {ini ini' : Nat → Nat → Bool} {M M' : Mm} {k : Nat} (h1 : M'.1 k = M.1 k) (h2 : M'.2 k = M.2 k) (h3 : ini' k = ini k) : ce G ini' M' k = ce G ini M k := by
  unfold ce
  rw [h1, h2, h3]
theorem wI_self (M : Mm) (k j : Nat) (v : Int32) : (wI M k j v).1 k = upd (M.1 k) j v := if_pos rfl
theorem wI_ne (M : Mm) {k q : Nat} (j : Nat) (v : Int32) (h : q ≠ k) : (wI M k j v).1 q = M.1 q := if_neg h
theorem wJ_self (M : Mm) (k j : Nat) (v : Int64) : (wJ M k j v).2 k = updL (M.2 k) j v := if_pos rfl
theorem wJ_ne (M : Mm) {k q : Nat} (j : Nat) (v : Int64) (h : q ≠ k) : (wJ M k j v).2 q = M.2 q := if_neg h
theorem fvs_len (b : Nat) (ini : Nat → Bool) (row : Nat → Int32) (k : Nat) (fl : List (Option Nat)) : (fvs b ini row k fl).length = fl.length := by simp [fvs]
theorem fvs_get {b : Nat} {ini : Nat → Bool} {row : Nat → Int32} {k : Nat} {fl : List (Option Nat)} {j : Nat} {x : Option Nat} (h : fl[j]? = some x) : (fvs b ini row k fl)[j]? = some (fval b ini row k x j) := by
  have hj : j < fl.length := (List.getElem?_eq_some_iff.mp h).1
  unfold fvs
  rw [List.getElem?_map, List.getElem?_range hj]
  show some (fval b ini row k (fl.getD j none) j) = _
  rw [List.getD_eq_getElem?_getD, h]
  rfl
theorem fvs_V {b : Nat} {ini : Nat → Bool} {row : Nat → Int32} {k : Nat} {fl : List (Option Nat)} {j : Nat} (hj : j < fl.length) : vp_V (fvs b ini row k fl) j = fval b ini row k (fl.getD j none) j := by
  have h : fl[j]? = some (fl.getD j none) := by
    rw [List.getD_eq_getElem?_getD, List.getElem?_eq_getElem hj]
    rfl
  unfold vp_V
  rw [List.getD_eq_getElem?_getD, fvs_get h]
  rfl
theorem fvs_set {b : Nat} {ini : Nat → Bool} {row : Nat → Int32} {k : Nat} {fl : List (Option Nat)} {j : Nat} (h : fl[j]? = some none) (x : Int32) : ∀ q, q < fl.length → updV (vp_V (fvs b ini row k fl)) j (.int x) q = vp_V (fvs b ini (upd row j x) k fl) q := by
  intro q hq
  rw [fvs_V hq]
  have hg : fl.getD j none = none := by rw [List.getD_eq_getElem?_getD, h]; rfl
  by_cases he : q = j
  · subst he
    rw [hg]; simp [updV, fval, upd]
  · simp only [updV, if_neg he, fvs_V hq]
    cases fl.getD q none with
    | none => simp [fval, upd, he]
    | some y => simp [fval]
theorem fvs_setR {b : Nat} {ini : Nat → Bool} {row : Nat → Int32} {k : Nat} {fl : List (Option Nat)} {j x : Nat} (h : fl[j]? = some (some x)) : ∀ q, q < fl.length → updV (vp_V (fvs b ini row k fl)) j (.ref (b + (k + x))) q = vp_V (fvs b (fun z => if z = j then true else ini z) row k fl) q := by
  intro q hq
  rw [fvs_V hq]
  have hg : fl.getD j none = some x := by rw [List.getD_eq_getElem?_getD, h]; rfl
  by_cases he : q = j
  · subst he
    rw [hg]; simp [updV, fval]
  · simp only [updV, if_neg he, fvs_V hq]
    cases fl.getD q none with
    | none => simp [fval]
    | some y => simp [fval, he]
theorem fD_len : ∀ (ci : Nat) (C : String) (T : u_T) (N : Nat), cls[ci]? = some (C, T, N) → (fD ci).length = N ∧ ci < 11 := by
  intro ci C T N h
  match ci, h with
  | 0, h => cases h; exact ⟨by decide, by decide⟩
  | 1, h => cases h; exact ⟨by decide, by decide⟩
  | 2, h => cases h; exact ⟨by decide, by decide⟩
  | 3, h => cases h; exact ⟨by decide, by decide⟩
  | 4, h => cases h; exact ⟨by decide, by decide⟩
  | 5, h => cases h; exact ⟨by decide, by decide⟩
  | 6, h => cases h; exact ⟨by decide, by decide⟩
  | 7, h => cases h; exact ⟨by decide, by decide⟩
  | 8, h => cases h; exact ⟨by decide, by decide⟩
  | 9, h => cases h; exact ⟨by decide, by decide⟩
  | 10, h => cases h; exact ⟨by decide, by decide⟩
  | _ + 11, h => cases h
theorem WD.one {G : KG} {n : Nat} {ini : Nat → Nat → Bool} {M : Mm} {H : Heap} (h : WD G n ini M H) {k : Nat} (hk : k < n) : va_P G.1 cls [(k0 G + k, ce G ini M k)] H := by
  intro i q hi
  match i, hi with
  | 0, hi => cases hi; exact h.2 k hk
  | _ + 1, hi => cases hi
theorem WD.put {G : KG} {n : Nat} {ini ini' : Nat → Nat → Bool} {M M' : Mm} {H H' : Heap} (h : WD G n ini M H) {k : Nat} (hz : H'.size = H.size) (ho : ∀ q, q ≠ k0 G + k → H'[q]? = H[q]?) (he : va_at G.1 cls (k0 G + k, ce G ini' M' k) H') (hc : ∀ q, q ≠ k → ce G ini' M' q = ce G ini M q) : WD G n ini' M' H' := by
  refine ⟨hz.trans h.1, fun q hq => ?_⟩
  by_cases hk : q = k
  · subst hk; exact he
  · rw [hc q hk]
    exact (h.2 q hq).kept (ho _ (by show k0 G + q ≠ k0 G + k; omega))
/-- the row of the tables that links a field -/
def FL (own : String) (idx ci j : Nat) : Prop := ∃ (C : String) (T : u_T) (N : Nat), cls[ci]? = some (C, T, N) ∧ j < N ∧ Cond.fieldLink own idx (T j).1 (T j).2.1 (T j).2.2.1 ∈ gtb
def FP (own : String) (idx ci j : Nat) (ty : FieldType) : Prop := ∃ (C : String) (T : u_T) (N : Nat), cls[ci]? = some (C, T, N) ∧ j < N ∧ Cond.fieldLink own idx (T j).1 (T j).2.1 (T j).2.2.1 ∈ gtb ∧ (T j).2.2.2 = false ∧ parseFieldDescriptor (T j).2.2.1 = some ty
def FU (Z : ZZ) : Prop := Z.2.2.1 = 100 ∧ ∀ k j, Z.2.2.2 k j = true
theorem kD_lt {k c : Nat} (h : kD k = c) (hc : c ≠ 99) : k < 100 := by
  rcases Nat.lt_or_ge k 100 with h1 | h1
  · exact h1
  · have : kD k = 99 := by
      unfold kD
      rw [List.getD_eq_getElem?_getD, List.getElem?_eq_none (by show kdl.length ≤ k; exact h1)]
      rfl
    omega
theorem FU.lt {Z : ZZ} (h : FU Z) {k c : Nat} (hk : kD k = c) (hc : c ≠ 99 := by decide) : k < Z.2.2.1 := by
  rw [h.1]; exact kD_lt hk hc
section HEAPR
variable {α β : Type} {X : KX} {d : MD} {Q : α → Mm → State → Prop} {pc pc' tgt idx : Nat} {off : Int} {ls : List (Option Value)} {st : List Value} {Z : ZZ} {M : Mm} {o o1 o2 : Option (α × Mm)} {x y : Int32} {u v : Int64} {i j k ci n : Nat}
theorem g_getI (hd : dc d.2.1 pc pc' (.getfield idx) 3) (hf : FL d.1 idx ci j) (hk : kD k = ci) (hn : k < Z.2.2.1) (hj : (fD ci)[j]? = some none) (kk : GO X d Q pc' ls (.int (M.1 k j) :: st) Z M o) : GO X d Q pc ls (rf (kG X) k :: st) Z M o := by
  obtain ⟨hd, rfl⟩ := hd
  obtain ⟨C, T, N, hcl, hN, hw⟩ := hf
  subst hk
  intro K r M' ho H locs lsA hW hS hL hc hs
  refine va_get (D := (kG X).1) (ws := [(k0 (kG X) + k, ce (kG X) Z.2.2.2 M k)]) (v := .int (M.1 k j)) K.1 K.2.1 K.2.2.2.2.2.1 (cK _ _ _ _ hcl).1 K.2.2.2.2.1 K.2.2.2.2.2.2.2.1.1 (hW.one hn) 0 (by show some _ = some _; rw [ce_obj (by have := (fD_len _ _ _ _ hcl).2; omega)]) hcl j hN (K.2.2.2.2.2.1 _ hw) (fun _ h => h) (fvs_get hj) hd (kk K r M' ho H locs lsA hW hS hL hc hs)
theorem g_getR {z : Nat} (hd : dc d.2.1 pc pc' (.getfield idx) 3) (hf : FL d.1 idx ci j) (hk : kD k = ci) (hn : k < Z.2.2.1) (hi : Z.2.2.2 k j = true) (hj : (fD ci)[j]? = some (some z)) (kk : GO X d Q pc' ls (rf (kG X) (k + z) :: st) Z M o) : GO X d Q pc ls (rf (kG X) k :: st) Z M o := by
  obtain ⟨hd, rfl⟩ := hd
  obtain ⟨C, T, N, hcl, hN, hw⟩ := hf
  subst hk
  intro K r M' ho H locs lsA hW hS hL hc hs
  refine va_get (D := (kG X).1) (ws := [(k0 (kG X) + k, ce (kG X) Z.2.2.2 M k)]) (v := rf (kG X) (k + z)) K.1 K.2.1 K.2.2.2.2.2.1 (cK _ _ _ _ hcl).1 K.2.2.2.2.1 K.2.2.2.2.2.2.2.1.1 (hW.one hn) 0 (by show some _ = some _; rw [ce_obj (by have := (fD_len _ _ _ _ hcl).2; omega)]) hcl j hN (K.2.2.2.2.2.1 _ hw) (fun _ h => h) ?_ hd (kk K r M' ho H locs lsA hW hS hL hc hs)
  rw [fvs_get hj]
  simp [fval, hi]
theorem g_putI {ty : FieldType} (hd : dc d.2.1 pc pc' (.putfield idx) 3) (hf : FP d.1 idx ci j ty) (hk : kD k = ci) (hn : k < Z.2.2.1) (hj : (fD ci)[j]? = some none) (hna : narrow ty (.int x) = .int x) (hfi : fits ty (.int x) = true) (kk : GO X d Q pc' ls st Z (wI M k j x) o) : GO X d Q pc ls (.int x :: rf (kG X) k :: st) Z M o := by
  obtain ⟨hd, rfl⟩ := hd
  obtain ⟨C, T, N, hcl, hN, hw, hfin, hpd⟩ := hf
  subst hk
  intro K r M' ho H locs lsA hW hS hL hc hs
  have hts := K.2.2.2.2.2.1
  obtain ⟨hin, hnm, ty0, hty⟩ := cK _ _ _ _ hcl
  have hKv := K.2.2.2.2.2.2.2.1.1
  obtain ⟨hlen, h11⟩ := fD_len _ _ _ _ hcl
  have hap := va_apart (own := d.1) hts hin ty0 hty hnm hKv hcl
  have hat := hW.2 k hn
  rw [ce_obj (by omega)] at hat
  obtain ⟨r0, h1, cell, q1, q2, q3, q4⟩ := hat
  have hr : r0 = (C, T, N) := Option.some.inj (h1.symm.trans hcl)
  subst hr
  obtain ⟨hSl, hfc, kC, hkC, hkind⟩ := hKv.1 _ _ hcl
  obtain ⟨cf, kf, fi, f, hi, hsl⟩ := hSl j hN
  have hlay := hts _ (hin _ (u_in_lay hN))
  unfold u_lay at hlay
  rw [if_neg (by rw [hfin]; decide)] at hlay
  have hst := (u_facts hfc hkC (u_lays hts hin hN) hi).1
  have h6 := u_store hfc hkC hkind hlay hi hpd hna hfi
  refine W.putK K.1 K.2.1 (f := f) ⟨K.2.2.2.2.1, hts _ hw, ⟨_, _, _, hi⟩, hst⟩ (by rw [q2]; exact h6) q1 q3 (by rw [hsl]; exact k2_hasslot (q4 j hN)) rfl rfl hd fun H' e1 e2 e3 => ?_
  rw [hsl] at e1 ⊢
  refine kk K r M' ho H' _ lsA (hW.put e2 e3 ?_ ?_) (hS.put e2 e3 (Nat.le_add_right _ _)) hL hc hs
  · rw [ce_obj (by omega), wI_self]
    exact ⟨_, hcl, t_OB.to (V := updV (vp_V (fvs (k0 (kG X)) (Z.2.2.2 k) (M.1 k) k (fD (kD k)))) j (.int x)) ⟨_, e1, q2, q3, t_set q4 hap hN (.int x)⟩ (fun q hq => fvs_set hj x q (by rw [hlen]; exact hq))⟩
  · intro q hq
    exact ce_cg (wI_ne M j x hq) rfl rfl
theorem g_iald (hd : dc d.2.1 pc pc' .iaload 1) (hk : kD k = 100 + n) (hr : n < 900) (hn : k < Z.2.2.1) (kk : GO X d Q pc' ls (.int (M.1 k x.toNatClampNeg) :: st) Z M o) (hin : vp_in x n) : GO X d Q pc ls (.int x :: rf (kG X) k :: st) Z M o := by
  obtain ⟨hd, rfl⟩ := hd
  intro K r M' ho H locs lsA hW hS hL hc hs
  exact va_iald (D := (kG X).1) (ws := [(k0 (kG X) + k, ce (kG X) Z.2.2.2 M k)]) (f := M.1 k) K.1 K.2.1 K.2.2.2.2.2.2.2.1.1 (hW.one hn) 0 0 (by show some _ = some _; rw [ce_I hk hr]) rfl hin hd (kk K r M' ho H locs lsA hW hS hL hc hs)
theorem g_lald (hd : dc d.2.1 pc pc' .laload 1) (hk : kD k = 1000 + n) (hn : k < Z.2.2.1) (kk : GO X d Q pc' ls (.long (M.2 k x.toNatClampNeg) :: st) Z M o) (hin : vp_in x n) : GO X d Q pc ls (.int x :: rf (kG X) k :: st) Z M o := by
  obtain ⟨hd, rfl⟩ := hd
  intro K r M' ho H locs lsA hW hS hL hc hs
  exact va_lald (D := (kG X).1) (ws := [(k0 (kG X) + k, ce (kG X) Z.2.2.2 M k)]) (f := M.2 k) K.1 K.2.1 K.2.2.2.2.2.2.2.1.1 (hW.one hn) 0 1 (by show some _ = some _; rw [ce_J hk]) rfl hin hd (kk K r M' ho H locs lsA hW hS hL hc hs)
theorem g_aald (hd : dc d.2.1 pc pc' .aaload 1) (hk : kD k = 50) (hn : k < Z.2.2.1) (hi : ∀ j, Z.2.2.2 k j = true) (kk : GO X d Q pc' ls (rf (kG X) (k + 1 + 2 * x.toNatClampNeg) :: st) Z M o) (hin : vp_in x 6) : GO X d Q pc ls (.int x :: rf (kG X) k :: st) Z M o := by
  obtain ⟨hd, rfl⟩ := hd
  intro K r M' ho H locs lsA hW hS hL hc hs
  refine va_aldq (D := (kG X).1) (ws := [(k0 (kG X) + k, ce (kG X) Z.2.2.2 M k)]) (f := fun j => if Z.2.2.2 k j = true then some (k0 (kG X) + (k + 1 + 2 * j)) else none) K.1 K.2.1 K.2.2.2.2.2.2.2.1.1 (hW.one hn) 0 2 (by show some _ = some _; rw [ce_T hk]) rfl hin hd ?_
  simp only [hi, if_true]
  exact kk K r M' ho H locs lsA hW hS hL hc hs
theorem g_alenI (hd : dc d.2.1 pc pc' .arraylength 1) (hk : kD k = 100 + n) (hr : n < 900) (hn : k < Z.2.2.1) (kk : GO X d Q pc' ls (.int (Int32.ofNat n) :: st) Z M o) : GO X d Q pc ls (rf (kG X) k :: st) Z M o := by
  obtain ⟨hd, rfl⟩ := hd
  intro K r M' ho H locs lsA hW hS hL hc hs
  exact va_alen (D := (kG X).1) (ws := [(k0 (kG X) + k, ce (kG X) Z.2.2.2 M k)]) K.1 K.2.1 K.2.2.2.2.2.2.2.1.1 (hW.one hn) 0 0 (by show some _ = some _; rw [ce_I hk hr]) rfl rfl hd (kk K r M' ho H locs lsA hW hS hL hc hs)
theorem g_alenJ (hd : dc d.2.1 pc pc' .arraylength 1) (hk : kD k = 1000 + n) (hn : k < Z.2.2.1) (kk : GO X d Q pc' ls (.int (Int32.ofNat n) :: st) Z M o) : GO X d Q pc ls (rf (kG X) k :: st) Z M o := by
  obtain ⟨hd, rfl⟩ := hd
  intro K r M' ho H locs lsA hW hS hL hc hs
  exact va_alen (D := (kG X).1) (ws := [(k0 (kG X) + k, ce (kG X) Z.2.2.2 M k)]) K.1 K.2.1 K.2.2.2.2.2.2.2.1.1 (hW.one hn) 0 1 (by show some _ = some _; rw [ce_J hk]) rfl rfl hd (kk K r M' ho H locs lsA hW hS hL hc hs)
theorem g_alenT (hd : dc d.2.1 pc pc' .arraylength 1) (hk : kD k = 50) (hn : k < Z.2.2.1) (kk : GO X d Q pc' ls (.int 6 :: st) Z M o) : GO X d Q pc ls (rf (kG X) k :: st) Z M o := by
  obtain ⟨hd, rfl⟩ := hd
  intro K r M' ho H locs lsA hW hS hL hc hs
  exact va_alen (D := (kG X).1) (ws := [(k0 (kG X) + k, ce (kG X) Z.2.2.2 M k)]) K.1 K.2.1 K.2.2.2.2.2.2.2.1.1 (hW.one hn) 0 2 (by show some _ = some _; rw [ce_T hk]) rfl rfl hd (kk K r M' ho H locs lsA hW hS hL hc hs)
theorem g_iast (hd : dc d.2.1 pc pc' .iastore 1) (hk : kD k = 100 + n) (hr : n < 900) (hn : k < Z.2.2.1) (kk : GO X d Q pc' ls st Z (wI M k x.toNatClampNeg y) o) (hin : vp_in x n) : GO X d Q pc ls (.int y :: .int x :: rf (kG X) k :: st) Z M o := by
  obtain ⟨hd, rfl⟩ := hd
  intro K r M' ho H locs lsA hW hS hL hc hs
  have hat := hW.2 k hn
  rw [ce_I hk hr] at hat
  refine W.iast K.1 K.2.1 hat ((K.2.2.2.2.2.2.2.1.1.2 0 _ rfl).1 n (fun j => .int (M.1 k j))) (fun q => by cases q) (by show ¬ (x < 0 ∨ (arrV _ _ _).slots.size ≤ _); rw [arrV_size]; exact hin) rfl rfl hd fun H1 e z oq => ?_
  refine kk K r M' ho H1 _ lsA (hW.put z oq ?_ (fun q hq => ce_cg (wI_ne M _ y hq) rfl rfl)) (hS.put z oq (Nat.le_add_right _ _)) hL hc hs
  rw [ce_I hk hr, wI_self]
  show H1[_]? = some (vp_cell _ _)
  rw [e, vp_cell_i, vp_cell_i, arrV_store]
  congr 2
  funext q
  by_cases hq : q = x.toNatClampNeg
  · subst hq
    simp [updV, upd]
  · simp [updV, upd, hq]
theorem g_last (hd : dc d.2.1 pc pc' .lastore 1) (hk : kD k = 1000 + n) (hn : k < Z.2.2.1) (kk : GO X d Q pc' ls st Z (wJ M k x.toNatClampNeg u) o) (hin : vp_in x n) : GO X d Q pc ls (.long u :: .int x :: rf (kG X) k :: st) Z M o := by
  obtain ⟨hd, rfl⟩ := hd
  intro K r M' ho H locs lsA hW hS hL hc hs
  have hat := hW.2 k hn
  rw [ce_J hk] at hat
  refine W.last K.1 K.2.1 hat ((K.2.2.2.2.2.2.2.1.1.2 1 _ rfl).1 n (fun j => .long (M.2 k j))) (fun q => by cases q) (by show ¬ (x < 0 ∨ (arrV _ _ _).slots.size ≤ _); rw [arrV_size]; exact hin) rfl rfl hd fun H1 e z oq => ?_
  refine kk K r M' ho H1 _ lsA (hW.put z oq ?_ (fun q hq => ce_cg rfl (wJ_ne M _ u hq) rfl)) (hS.put z oq (Nat.le_add_right _ _)) hL hc hs
  rw [ce_J hk, wJ_self]
  show H1[_]? = some (vp_cell _ _)
  rw [e, vp_cell_l, vp_cell_l, arrV_store]
  congr 2
  funext q
  by_cases hq : q = x.toNatClampNeg
  · subst hq
    simp [updV, updL]
  · simp [updV, updL, hq]
end HEAPR
end
section
/-! a method's end, its contract, its beginning, calls -/
def QC (G : KG) (n : Nat) (ini : Nat → Nat → Bool) (v : Option Value) (M : Mm) : Array Value → State → Outcome → State → Prop := fun _ st oc t => oc = .returned v ∧ WD G n ini M t.heap ∧ va_F (KA G) st t
def QE {α : Type} (X : KX) (rv : α → Option Value) (Z : ZZ) : α → Mm → State → Prop := fun r M' => MQ (kb X) (QC (kG X) Z.2.2.1 Z.2.2.2 (rv r) M') (ka X) (ks X) Z.1 Z.2.1 (KA (kG X))
abbrev rvI (r : Int32) : Option Value := some (.int r)
abbrev rvJ (r : Int64) : Option Value := some (.long r)
abbrev rvU (_ : Unit) : Option Value := none
def rvO (G : KG) (r : Option Nat) : Option Value := some (rfo G r)
section ENDS
variable {α β : Type} {X : KX} {d : MD} {pc pc' : Nat} {ls : List (Option Value)} {Z : ZZ} {M : Mm} {x : Int32} {u : Int64}
theorem g_iret (hd : dc d.2.1 pc pc' .ireturn 1) (hr : d.2.2.2.1 = some .int) : GO X d (QE X rvI Z) pc ls [.int x] Z M (some (x, M)) := by
  obtain ⟨hd, rfl⟩ := hd
  intro K r M' ho H locs lsA hW hS hL hc hs
  cases ho
  exact W.iret K.1 K.2.1 (K.2.2.1.trans hr) (fun t ht hV => ⟨rfl, by rw [ht]; exact hW, hS.F ht⟩) hS.2.2 hd K.2.2.2.2.2.2.1
theorem g_zret (hd : dc d.2.1 pc pc' .ireturn 1) (hr : d.2.2.2.1 = some .boolean) (hx : x = 0 ∨ x = 1) : GO X d (QE X rvI Z) pc ls [.int x] Z M (some (x, M)) := by
  obtain ⟨hd, rfl⟩ := hd
  intro K r M' ho H locs lsA hW hS hL hc hs
  cases ho
  exact W.zret K.1 K.2.1 (K.2.2.1.trans hr) (by rcases hx with rfl | rfl <;> rfl) (fun t ht hV => ⟨rfl, by rw [ht]; exact hW, hS.F ht⟩) hS.2.2 hd K.2.2.2.2.2.2.1
theorem g_lret (hd : dc d.2.1 pc pc' .lreturn 1) (hr : d.2.2.2.1 = some .long) : GO X d (QE X rvJ Z) pc ls [.long u] Z M (some (u, M)) := by
  obtain ⟨hd, rfl⟩ := hd
  intro K r M' ho H locs lsA hW hS hL hc hs
  cases ho
  exact W.lret K.1 K.2.1 (K.2.2.1.trans hr) (fun t ht hV => ⟨rfl, by rw [ht]; exact hW, hS.F ht⟩) hS.2.2 hd K.2.2.2.2.2.2.1
theorem g_vret (hd : dc d.2.1 pc pc' .return_ 1) (hr : d.2.2.2.1 = none) : GO X d (QE X rvU Z) pc ls [] Z M (some ((), M)) := by
  obtain ⟨hd, rfl⟩ := hd
  intro K r M' ho H locs lsA hW hS hL hc hs
  cases ho
  exact W.vret K.1 K.2.1 (K.2.2.1.trans hr) (fun t ht hV => ⟨rfl, by rw [ht]; exact hW, hS.F ht⟩) hS.2.2 hd K.2.2.2.2.2.2.1
theorem g_aret {C : String} {k : Option Nat} {w : Value} (hd : dc d.2.1 pc pc' .areturn 1) (hr : d.2.2.2.1 = some (.object C)) (hw : w = rfo (kG X) k) : GO X d (QE X (rvO (kG X)) Z) pc ls [w] Z M (some (k, M)) := by
  obtain ⟨hd, rfl⟩ := hd
  intro K r M' ho H locs lsA hW hS hL hc hs
  cases ho
  subst hw
  exact W.aret K.1 K.2.1 (K.2.2.1.trans hr) (Or.inl ⟨C, rfl⟩) (by cases k with
    | none => exact Or.inl rfl
    | some k => exact Or.inr ⟨_, rfl⟩) (fun t ht hV => ⟨rfl, by rw [ht]; exact hW, hS.F ht⟩) hS.2.2 hd K.2.2.2.2.2.2.1
end ENDS
def WS (y : MethodName) (d : MD) : List Cond := Cond.code y d.2.1 d.2.2.1 d.2.2.2.1 :: gtb
def RM (d : MD) (mc ms : Nat) : Room := { frames := d.2.2.2.2.1, cells := mc, slots := ms, locals := d.2.2.2.2.2 }
/-- the contract: from these arguments and this memory the method answers v and leaves that memory -/
def CT (l : Launch) (G : KG) (y : MethodName) (d : MD) (mc ms : Nat) (av : List Value) (n : Nat) (ini : Nat → Nat → Bool) (M : Mm) (v : Option Value) (n' : Nat) (ini' : Nat → Nat → Bool) (M' : Mm) : Prop :=
  Met l y (WS y d) (RM d mc ms) (va_Pc av (fun U => WD G n ini M U.heap ∧ VK G U)) (QC G n' ini' v M') mc ms (KA G)
def ent (av : List Value) : List (Option Value) := av.flatMap (fun v => if v.category = 2 then [some v, none] else [some v])
theorem ent_ok : ∀ (av : List Value) (m i : Nat) (k : Nat) (v : Value), (ent av ++ List.replicate m none)[k]? = some (some v) → (i + k, v) ∈ lv_args i av
  | [], m, i, k, v, h => by
    simp [ent, List.getElem?_replicate] at h
  | a :: av, m, i, k, v, h => by
    have e : ent (a :: av) = (if a.category = 2 then [some a, none] else [some a]) ++ ent av := by simp [ent]
    rw [e] at h
    show (i + k, v) ∈ (i, a) :: lv_args (if a.category = 2 then i + 2 else i + 1) av
    by_cases hc : a.category = 2
    · rw [if_pos hc] at h ⊢
      match k, h with
      | 0, h => simp at h; subst h; exact List.mem_cons_self
      | 1, h => simp at h
      | k + 2, h =>
        have h2 : (ent av ++ List.replicate m none)[k]? = some (some v) := by simpa using h
        have := ent_ok av m (i + 2) k v h2
        rw [show i + (k + 2) = i + 2 + k by omega]
        exact List.mem_cons_of_mem _ this
    · rw [if_neg hc] at h ⊢
      match k, h with
      | 0, h => simp at h; subst h; exact List.mem_cons_self
      | k + 1, h =>
        have h2 : (ent av ++ List.replicate m none)[k]? = some (some v) := by simpa using h
        have := ent_ok av m (i + 1) k v h2
        rw [show i + (k + 1) = i + 1 + k by omega]
        exact List.mem_cons_of_mem _ this
theorem CT.of {α : Type} {l : Launch} {G : KG} {y : MethodName} {d : MD} {av : List Value} {Z Z' : ZZ} {M M' : Mm} {rv : α → Option Value} {r : α} {o : Option (α × Mm)} {ls : List (Option Value)} (m : Nat)
    (hy : plainName y.cls = true) (hown : d.1 = y.cls) (hz : Z.1 = 0 ∧ Z.2.1 = 0) (hargs : (lg_sl av).length ≤ d.2.2.1) (hls : ls = ent av ++ List.replicate m none) (ho : o = some (r, M'))
    (body : ∀ X : KX, kl X = l → kG X = G → GO X d (QE X rv Z') 0 ls [] Z M o) : CT l G y d Z'.1 Z'.2.1 av Z.2.2.1 Z.2.2.2 M (rv r) Z'.2.2.1 Z'.2.2.2 M' := by
  refine Met.ofW (cc := d.2.1) (maxL := d.2.2.1) (ret := d.2.2.2.1) hy rfl ?_
  intro p e s m0 args below meth c s₁ B hml hv
  obtain ⟨rfl, hW, hK⟩ := hv
  have hts := atoms_spec (ws := WS y d) B.pre
  have hl := lv_entry av hargs
  have he : entryFrame m0 av.toArray d.2.2.1 = F0 m0 0 ((lg_sl av ++ List.replicate (d.2.2.1 - (lg_sl av).length) Slot.unset).toArray) [] := by rw [lg_entry_eq]
  rw [he]
  have hb := body ((p, l, e, (headSpec (WS y d) (RM d Z'.1 Z'.2.1)).room, s, m0), (av.toArray, below, meth, c), G) rfl rfl
  have h0 := hb ⟨B.exec, B.bytes, B.returns, hml, by rw [hown]; exact findClass_of_methodNamed B.named, fun w hw => hts w (List.mem_cons_of_mem _ hw), B.notSynchronized, hK, Nat.le_refl _, Nat.le_refl _⟩ r M' ho s.heap [] _ hW va_S.rf ⟨_, hl, fun k v hk => by rw [hls] at hk; have := ent_ok av m 0 k v hk; rwa [Nat.zero_add] at this⟩ (by rw [hz.1]; exact Nat.zero_le _) (by rw [hz.2]; exact Nat.zero_le _)
  rw [hz.1, hz.2] at h0
  exact h0
/-- what the tables say of a method: its code, its class; how many arguments -/
def MY (y : MethodName) (d : MD) (na : Nat) : Prop := Cond.code y d.2.1 d.2.2.1 d.2.2.2.1 ∈ gtb ∧ Cond.initialized y.cls ∈ gtb ∧ (y.cls ≠ "java/lang/invoke/MethodHandle" ∧ y.cls ≠ "java/lang/invoke/VarHandle" ∧ (parseMethodDescriptor y.desc).map (fun d => d.parameters.length) = some na)
def MV (own : String) (idx : Nat) (y : MethodName) : Prop := Cond.methodLink own idx y ∈ gtb ∧ Cond.instanceMethod y ∈ gtb ∧ Cond.selects y.cls y y ∈ gtb
def MS (own : String) (idx : Nat) (y : MethodName) : Prop := Cond.methodLink own idx y ∈ gtb ∧ Cond.static y ∈ gtb
theorem VK.moved {G : KG} {s U : State} (h : VK G s) (hW : s.WarmedH U.vm) : VK G U := ⟨va_K.moved hW.alike h.1, fun q hq => va_Nw.warmM hW (h.2.1 q hq), va_AO.moved hW.alike h.2.2⟩
/-- a static method of a nest mate -/
def MN (own : String) (idx : Nat) (y : MethodName) (host : String) : Prop := (own, idx, y, host) ∈ ntb ∧ Cond.static y ∈ gtb
section CALLS
variable {α β : Type} {X : KX} {d dy : MD} {Q : α → Mm → State → Prop} {pc pc' idx na : Nat} {ls : List (Option Value)} {st st0 : List Value} {Z : ZZ} {M : Mm} {y : MethodName} {As : List Value} {rv : β → Option Value} {oc : Option (β × Mm)} {f : β → Mm → Option (α × Mm)} {k ci : Nat} {C : String} {T : u_T} {N : Nat}
theorem blind_WD {G : KG} {n : Nat} {ini : Nat → Nat → Bool} {M : Mm} {av : List Value} : FrameBlind (va_Pc av (fun U => WD G n ini M U.heap ∧ VK G U)) := by
  intro a U g mk ⟨h1, h2, h3⟩
  exact ⟨h1, h2, va_K.moved (u := U) (U := U.calling g mk a) (Vm.Alike.refl U.vm) h3.1, fun q hq => va_Nw.same rfl rfl (h3.2.1 q hq), va_AO.moved (u := U) (U := U.calling g mk a) (Vm.Alike.refl U.vm) h3.2.2⟩
theorem callB_ok (K : KOK X d) (hy : MY y dy na) (hl : Cond.methodLink d.1 idx y ∈ gtb) (hR : dy.2.2.2.2.1 + 1 ≤ d.2.2.2.2.1 ∧ 8 + (dy.2.2.1 + 11) + dy.2.2.2.2.2 ≤ d.2.2.2.2.2) (mc ms : Nat) : CallB (kr X) (ks X) (ka X) d.1 idx y dy.2.1 dy.2.2.1 dy.2.2.2.1 (WS y dy) (RM dy mc ms) mc ms na := by
  have hts := K.2.2.2.2.2.1
  refine callB_of na hts ?_ rfl rfl rfl (hts _ hy.2.1) (hts _ hl) hy.2.2 ⟨Nat.le_trans hR.1 K.2.2.2.2.2.2.2.2.1, Nat.le_trans hR.2 K.2.2.2.2.2.2.2.2.2⟩
  intro w hw
  rcases List.mem_cons.mp hw with rfl | hw
  · exact ⟨hy.1, good_of_word (gtb_good _ hy.1)⟩
  · exact ⟨hw, good_of_word (gtb_good _ hw)⟩
theorem g_callK {Z' : ZZ} {H : Heap} {locs : List Loc} {lsA : Array Slot} {r : α} {M' : Mm} {mc ms : Nat} {a : Array Value} {rc : β} {Mc : Mm}
    (run : va_Run (kp X) (kl X) (ke X) (kr X) (ks X) (km X) (ka X) (kb X) (kt X) (kc X) H locs Z.1 Z.2.1 mc ms (F0 (km X) pc lsA st0) st (QC (kG X) Z'.2.2.1 Z'.2.2.2 (rv rc) Mc a) (KA (kG X)))
    (hS : va_S (KA (kG X)) (ks X).heap H locs) (hZ : Z'.1 = Z.1 + mc ∧ Z'.2.1 = Z.2.1 + ms)
    (kk : ∀ (H1 : Heap) (locs1 : List Loc), WD (kG X) Z'.2.2.1 Z'.2.2.2 Mc H1 → va_S (KA (kG X)) (ks X).heap H1 locs1 → W (kp X) (kl X) (ke X) (kr X) (ks X) (km X) (ka X) (kb X) (kt X) (kc X) H1 locs1 Z'.1 Z'.2.1 (Q r M') (F0 (km X) (pc + 3) lsA ((rv rc).toList ++ st))) :
    W (kp X) (kl X) (ke X) (kr X) (ks X) (km X) (ka X) (kb X) (kt X) (kc X) H locs Z.1 Z.2.1 (Q r M') (F0 (km X) pc lsA st0) := by
  intro T0 hT XX
  obtain ⟨v, st₀, t, T', L, h0, X', hL, e1, e2, ⟨hv, hWt, hz, hk⟩, stp⟩ := run T0 hT XX
  cases hv
  rw [h0] at hz hk
  have hW' : WD (kG X) Z'.2.2.1 Z'.2.2.2 Mc T'.heap := by rw [e1]; exact hWt
  rw [← hZ.1, ← hZ.2] at X'
  obtain ⟨t2, a1, b1⟩ := kk T'.heap (locs ++ L) hW' ⟨Nat.le_trans hS.1 (by rw [e1]; exact hz), fun q h1 h2 => by rw [e1, hk q (Nat.lt_of_lt_of_le h1 hS.1) h2]; exact hS.2.1 q h1 h2, fun q hq => by
    rcases List.mem_append.mp hq with h | h
    · exact hS.2.2 q h
    · exact hL q h⟩ T' rfl X'
  exact ⟨t2, stp t2 a1, b1⟩
theorem g_callV (hd : dc d.2.1 pc pc' (.invokevirtual idx) 3) (hm : MV d.1 idx y) (hy : MY y dy na) (hR : dy.2.2.2.2.1 + 1 ≤ d.2.2.2.2.1 ∧ 8 + (dy.2.2.1 + 11) + dy.2.2.2.2.2 ≤ d.2.2.2.2.2)
    (hst : st0 = As.reverse ++ rf (kG X) k :: st) (hna : As.length = na) (hk : kD k = ci) (hn : k < Z.2.2.1) (hcl : cls[ci]? = some (y.cls, T, N)) (hcat : (st.map fun v => v.category).sum ≤ 8) (hlen : ls.length = d.2.2.1)
    (hct : ∀ r M', oc = some (r, M') → CT (kl X) (kG X) y dy 0 0 (rf (kG X) k :: As) Z.2.2.1 Z.2.2.2 M (rv r) Z.2.2.1 Z.2.2.2 M')
    (kk : ∀ r M', oc = some (r, M') → GO X d Q pc' ls ((rv r).toList ++ st) Z M' (f r M')) : GO X d Q pc ls st0 Z M (bD oc f) := by
  obtain ⟨hd, rfl⟩ := hd
  subst hst
  intro K r M' ho H locs lsA hW hS hL hc hs
  obtain ⟨rc, Mc, h1, h2⟩ := bD_some ho
  have hts := K.2.2.2.2.2.1
  have hKV := K.2.2.2.2.2.2.2.1
  have hKv := hKV.1
  refine g_callK (Z' := Z) (mc := 0) (ms := 0) (va_runV (As := As) (rest := st) ⟨K.1, K.2.1, K.2.2.2.1, K.2.2.2.2.1, hts⟩ (hct rc Mc h1) ⟨callB_ok K hy hm.1 hR 0 0, hts _ hm.2.1, hts _ hm.2.2⟩ ⟨blind_WD, va_recv hKv (hW.one hn) hcl (q0 := 0) (by subst hk; show some _ = some _; rw [ce_obj (by have := (fD_len _ _ _ _ hcl).2; omega)]), fun U hU hV => ⟨rfl, by rw [hU]; exact hW, hKV.moved hV⟩⟩ rfl hna (by obtain ⟨l, h, _⟩ := hL; exact h.1) rfl (lv_room hcat) hd ⟨hc, hs⟩) hS ⟨rfl, rfl⟩ fun H1 locs1 hW1 hS1 => ?_
  exact kk rc Mc h1 K r M' h2 H1 locs1 lsA hW1 hS1 hL hc hs
theorem g_callS (hd : dc d.2.1 pc pc' (.invokestatic idx) 3) (hm : MS d.1 idx y) (hy : MY y dy na) (hR : dy.2.2.2.2.1 + 1 ≤ d.2.2.2.2.1 ∧ 8 + (dy.2.2.1 + 11) + dy.2.2.2.2.2 ≤ d.2.2.2.2.2)
    (hst : st0 = As.reverse ++ st) (hna : As.length = na) (hcat : (st.map fun v => v.category).sum ≤ 8)
    (hct : ∀ r M', oc = some (r, M') → CT (kl X) (kG X) y dy 0 0 As Z.2.2.1 Z.2.2.2 M (rv r) Z.2.2.1 Z.2.2.2 M')
    (kk : ∀ r M', oc = some (r, M') → GO X d Q pc' ls ((rv r).toList ++ st) Z M' (f r M')) : GO X d Q pc ls st0 Z M (bD oc f) := by
  obtain ⟨hd, rfl⟩ := hd
  subst hst
  intro K r M' ho H locs lsA hW hS hL hc hs
  obtain ⟨rc, Mc, h1, h2⟩ := bD_some ho
  have hts := K.2.2.2.2.2.1
  have hKV := K.2.2.2.2.2.2.2.1
  have hKv := hKV.1
  refine g_callK (Z' := Z) (mc := 0) (ms := 0) (va_runS (As := As) (rest := st) ⟨K.1, K.2.1, K.2.2.2.1, K.2.2.2.2.1, hts⟩ (hct rc Mc h1) ⟨callB_ok K hy hm.1 hR 0 0, hts _ hm.2⟩ ⟨blind_WD, fun U hU hV => ⟨rfl, by rw [hU]; exact hW, hKV.moved hV⟩⟩ rfl hna (by obtain ⟨l, h, _⟩ := hL; exact h.1) rfl (lv_room hcat) hd ⟨hc, hs⟩) hS ⟨rfl, rfl⟩ fun H1 locs1 hW1 hS1 => ?_
  exact kk rc Mc h1 K r M' h2 H1 locs1 lsA hW1 hS1 hL hc hs
theorem callN_ok {host : String} (K : KOK X d) (hy : MY y dy na) (hl : (d.1, idx, y, host) ∈ ntb) (hR : dy.2.2.2.2.1 + 1 ≤ d.2.2.2.2.1 ∧ 8 + (dy.2.2.1 + 11) + dy.2.2.2.2.2 ≤ d.2.2.2.2.2) (mc ms : Nat) : va_CN (kr X) (ks X) (ka X) d.1 idx y host dy.2.1 dy.2.2.1 dy.2.2.2.1 (WS y dy) (RM dy mc ms) mc ms na := by
  have hts := K.2.2.2.2.2.1
  refine va_cnB na hts ?_ rfl rfl rfl (K.2.2.2.2.2.2.2.1.2.1 _ hl) (hts _ hy.2.1) hy.2.2 ⟨Nat.le_trans hR.1 K.2.2.2.2.2.2.2.2.1, Nat.le_trans hR.2 K.2.2.2.2.2.2.2.2.2⟩
  intro w hw
  rcases List.mem_cons.mp hw with rfl | hw
  · exact ⟨hy.1, good_of_word (gtb_good _ hy.1)⟩
  · exact ⟨hw, good_of_word (gtb_good _ hw)⟩
theorem g_callSN {host : String} (hd : dc d.2.1 pc pc' (.invokestatic idx) 3) (hm : MN d.1 idx y host) (hy : MY y dy na) (hR : dy.2.2.2.2.1 + 1 ≤ d.2.2.2.2.1 ∧ 8 + (dy.2.2.1 + 11) + dy.2.2.2.2.2 ≤ d.2.2.2.2.2)
    (hst : st0 = As.reverse ++ st) (hna : As.length = na) (hcat : (st.map fun v => v.category).sum ≤ 8)
    (hct : ∀ r M', oc = some (r, M') → CT (kl X) (kG X) y dy 0 0 As Z.2.2.1 Z.2.2.2 M (rv r) Z.2.2.1 Z.2.2.2 M')
    (kk : ∀ r M', oc = some (r, M') → GO X d Q pc' ls ((rv r).toList ++ st) Z M' (f r M')) : GO X d Q pc ls st0 Z M (bD oc f) := by
  obtain ⟨hd, rfl⟩ := hd
  subst hst
  intro K r M' ho H locs lsA hW hS hL hc hs
  obtain ⟨rc, Mc, h1, h2⟩ := bD_some ho
  have hts := K.2.2.2.2.2.1
  have hKV := K.2.2.2.2.2.2.2.1
  have hKv := hKV.1
  refine g_callK (Z' := Z) (mc := 0) (ms := 0) (va_runSN (As := As) (rest := st) ⟨K.1, K.2.1, K.2.2.2.1, K.2.2.2.2.1, hts⟩ (hct rc Mc h1) ⟨callN_ok K hy hm.1 hR 0 0, hts _ hm.2, trivial⟩ ⟨blind_WD, fun U hU hV => ⟨rfl, by rw [hU]; exact hW, hKV.moved hV⟩⟩ rfl hna (by obtain ⟨l, h, _⟩ := hL; exact h.1) rfl (lv_room hcat) hd ⟨hc, hs⟩) hS ⟨rfl, rfl⟩ fun H1 locs1 hW1 hS1 => ?_
  exact kk rc Mc h1 K r M' h2 H1 locs1 lsA hW1 hS1 hL hc hs
theorem g_mmax {x y : Int32} {o : Option (α × Mm)} (hd : dc d.2.1 pc pc' (.invokestatic idx) 3) (hl : Cond.methodLink d.1 idx Lib.Math.max.name ∈ gtb ∧ Cond.static Lib.Math.max.name ∈ gtb ∧ Cond.initialized "java/lang/Math" ∈ gtb ∧ Cond.code Lib.Math.max.name Lib.Math.max.code 2 (some .int) ∈ gtb)
    (hR : 1 ≤ d.2.2.2.2.1 ∧ (st.map fun v => v.category).sum + 13 ≤ d.2.2.2.2.2) (kk : GO X d Q pc' ls (.int (if x < y then y else x) :: st) Z M o) : GO X d Q pc ls (.int y :: .int x :: st) Z M o := by
  obtain ⟨hd, rfl⟩ := hd
  intro K r M' ho H locs lsA hW hS hL hc hs
  have hts := K.2.2.2.2.2.1
  exact va_mmax K.1 K.2.1 (by obtain ⟨l, h, _⟩ := hL; rw [K.2.2.2.1]; exact h.1.symm) K.2.2.2.2.1 (hts _ hl.1) (hts _ hl.2.1) (hts _ hl.2.2.1) (hts _ hl.2.2.2) (Nat.le_trans hR.1 K.2.2.2.2.2.2.2.2.1) (Nat.le_trans hR.2 K.2.2.2.2.2.2.2.2.2) hc hs hd (kk K r M' ho H locs lsA hW hS hL hc hs)
theorem g_mmin {x y : Int32} {o : Option (α × Mm)} (hd : dc d.2.1 pc pc' (.invokestatic idx) 3) (hl : Cond.methodLink d.1 idx Lib.Math.min.name ∈ gtb ∧ Cond.static Lib.Math.min.name ∈ gtb ∧ Cond.initialized "java/lang/Math" ∈ gtb ∧ Cond.code Lib.Math.min.name Lib.Math.min.code 2 (some .int) ∈ gtb)
    (hR : 1 ≤ d.2.2.2.2.1 ∧ (st.map fun v => v.category).sum + 13 ≤ d.2.2.2.2.2) (kk : GO X d Q pc' ls (.int (if y < x then y else x) :: st) Z M o) : GO X d Q pc ls (.int y :: .int x :: st) Z M o := by
  obtain ⟨hd, rfl⟩ := hd
  intro K r M' ho H locs lsA hW hS hL hc hs
  have hts := K.2.2.2.2.2.1
  exact va_mmin K.1 K.2.1 (by obtain ⟨l, h, _⟩ := hL; rw [K.2.2.2.1]; exact h.1.symm) K.2.2.2.2.1 (hts _ hl.1) (hts _ hl.2.1) (hts _ hl.2.2.1) (hts _ hl.2.2.2) (Nat.le_trans hR.1 K.2.2.2.2.2.2.2.2.1) (Nat.le_trans hR.2 K.2.2.2.2.2.2.2.2.2) hc hs hd (kk K r M' ho H locs lsA hW hS hL hc hs)
theorem g_have {o o2 : Option (α × Mm)} {lsq : List (Option Value)} {stq : List Value} {pq : Nat} (h1 : GO X d Q pq lsq stq Z M o) (h2 : GO X d Q pq lsq stq Z M o → GO X d Q pc ls st Z M o2) : GO X d Q pc ls st Z M o2 := h2 h1
theorem g_phi0 {o : Option (α × Mm)} (J : Nat) (lsJ : List (Option Value)) (stJ : List Value) (hj : GO X d Q J lsJ stJ Z M o) (hb : GO X d Q J lsJ stJ Z M o → GO X d Q pc ls st Z M o) : GO X d Q pc ls st Z M o := hb hj
theorem g_phi1 {t1 : Int32} {g : Int32 → Option (α × Mm)} (J : Nat) (lsJ : Int32 → List (Option Value)) (stJ : Int32 → List Value) (hj : ∀ x, GO X d Q J (lsJ x) (stJ x) Z M (g x)) (hb : (∀ x, GO X d Q J (lsJ x) (stJ x) Z M (g x)) → GO X d Q pc ls st Z M (lT t1 g)) : GO X d Q pc ls st Z M (lT t1 g) := hb hj
theorem g_phi2 {t1 t2 : Int32} {g : Int32 → Int32 → Option (α × Mm)} (J : Nat) (lsJ : Int32 → Int32 → List (Option Value)) (stJ : Int32 → Int32 → List Value) (hj : ∀ x y, GO X d Q J (lsJ x y) (stJ x y) Z M (g x y)) (hb : (∀ x y, GO X d Q J (lsJ x y) (stJ x y) Z M (g x y)) → GO X d Q pc ls st Z M (lT t1 fun x => lT t2 (g x))) : GO X d Q pc ls st Z M (lT t1 fun x => lT t2 (g x)) := hb hj
theorem g_phi3 {t1 t2 t3 : Int32} {g : Int32 → Int32 → Int32 → Option (α × Mm)} (J : Nat) (lsJ : Int32 → Int32 → Int32 → List (Option Value)) (stJ : Int32 → Int32 → Int32 → List Value) (hj : ∀ x y z, GO X d Q J (lsJ x y z) (stJ x y z) Z M (g x y z)) (hb : (∀ x y z, GO X d Q J (lsJ x y z) (stJ x y z) Z M (g x y z)) → GO X d Q pc ls st Z M (lT t1 fun x => lT t2 fun y => lT t3 (g x y))) : GO X d Q pc ls st Z M (lT t1 fun x => lT t2 fun y => lT t3 (g x y)) := hb hj
theorem g_phi4 {t1 t2 t3 t4 : Int32} {g : Int32 → Int32 → Int32 → Int32 → Option (α × Mm)} (J : Nat) (lsJ : Int32 → Int32 → Int32 → Int32 → List (Option Value)) (stJ : Int32 → Int32 → Int32 → Int32 → List Value) (hj : ∀ x y z w, GO X d Q J (lsJ x y z w) (stJ x y z w) Z M (g x y z w)) (hb : (∀ x y z w, GO X d Q J (lsJ x y z w) (stJ x y z w) Z M (g x y z w)) → GO X d Q pc ls st Z M (lT t1 fun x => lT t2 fun y => lT t3 fun z => lT t4 (g x y z))) : GO X d Q pc ls st Z M (lT t1 fun x => lT t2 fun y => lT t3 fun z => lT t4 (g x y z)) := hb hj
end CALLS
end
section
/-! rules whose term names what comes (lT), guards what may fail -/
def ib (x : Int32) (n : Nat) : Bool := decide (0 ≤ x) && decide (x.toNatClampNeg < n)
theorem ib_in {x : Int32} {n : Nat} (h : ib x n = true) : vp_in x n := by
  simp only [ib, Bool.and_eq_true, decide_eq_true_eq] at h
  rintro (h1 | h1)
  · exact absurd h.1 (Int32.not_le.mpr h1)
  · omega
def oE {γ : Type} (r : Option Nat) (a : γ) (f : Nat → γ) : γ := match r with
  | none => a
  | some k => f k
def fuel : Nat := 5000
def aL (k : Nat) : Nat := kD k - 100
def WKp : List (Option Value) → List (Option Value) → Prop
  | [], _ => True
  | none :: a, [] => WKp a []
  | none :: a, _ :: b => WKp a b
  | some v :: a, x :: b => x = some v ∧ WKp a b
  | some _ :: _, [] => False
theorem WKp.ok : ∀ (a b : List (Option Value)), WKp a b → ∀ (k : Nat) (v : Value), a[k]? = some (some v) → b[k]? = some (some v)
  | [], _, _, k, v, h => by simp at h
  | none :: a, [], h0, 0, v, h => by simp at h
  | none :: a, [], h0, k + 1, v, h => by
    have := WKp.ok a [] h0 k v (by simpa using h)
    simp at this
  | none :: a, _ :: b, h0, 0, v, h => by simp at h
  | none :: a, _ :: b, h0, k + 1, v, h => by simpa using WKp.ok a b h0 k v (by simpa using h)
  | some w :: a, x :: b, h0, 0, v, h => by
    have h1 : w = v := by simpa using h
    rw [h0.1, h1]
    rfl
  | some w :: a, x :: b, h0, k + 1, v, h => by simpa using WKp.ok a b h0.2 k v (by simpa using h)
  | some w :: a, [], h0, k, v, h => h0.elim
section LETS
variable {α β : Type} {X : KX} {d dy : MD} {Q : α → Mm → State → Prop} {pc pc' tgt idx : Nat} {off : Int} {ls ls' : List (Option Value)} {st : List Value} {Z : ZZ} {M : Mm} {o : Option (α × Mm)} {x y c : Int32} {u v : Int64} {i j k ci n : Nat} {fI : Int32 → Option (α × Mm)} {fJ : Int64 → Option (α × Mm)} {fM : Mm → Option (α × Mm)}
theorem g_wk (h : WKp ls' ls) (kk : GO X d Q pc ls' st Z M o) : GO X d Q pc ls st Z M o := g_weak (WKp.ok _ _ h) kk
theorem g_istoreL_n {n : Fin 4} (hd : dc d.2.1 pc pc' (.istore_n n) 1) (hn : (n : Nat) < d.2.2.1) (hg : nlo ls n = true) (kk : ∀ z, GO X d Q pc' (ls.set n (some (.int z))) st Z M (fI z)) : GO X d Q pc ls (.int x :: st) Z M (lT x fI) := g_istore_n hd hn hg (kk x)
theorem g_istoreL (hd : dc d.2.1 pc pc' (.istore i) 2) (hn : i < d.2.2.1) (hg : nlo ls i = true) (kk : ∀ z, GO X d Q pc' (ls.set i (some (.int z))) st Z M (fI z)) : GO X d Q pc ls (.int x :: st) Z M (lT x fI) := g_istore hd hn hg (kk x)
theorem g_lstoreL_n {n : Fin 4} (hd : dc d.2.1 pc pc' (.lstore_n n) 1) (hn : (n : Nat) + 1 < d.2.2.1) (hg : nlo ls n = true) (kk : ∀ z, GO X d Q pc' ((ls.set n (some (.long z))).set (n + 1) none) st Z M (fJ z)) : GO X d Q pc ls (.long u :: st) Z M (lT u fJ) := g_lstore_n hd hn hg (kk u)
theorem g_lstoreL (hd : dc d.2.1 pc pc' (.lstore i) 2) (hn : i + 1 < d.2.2.1) (hg : nlo ls i = true) (kk : ∀ z, GO X d Q pc' ((ls.set i (some (.long z))).set (i + 1) none) st Z M (fJ z)) : GO X d Q pc ls (.long u :: st) Z M (lT u fJ) := g_lstore hd hn hg (kk u)
theorem g_iincL {n : Int} (hd : dc d.2.1 pc pc' (.iinc i n) 3) (hv : ls[i]? = some (some (.int x))) (hy : Int32.ofInt n = c) (hn : i < d.2.2.1) (hg : nlo ls i = true) (kk : ∀ z, GO X d Q pc' (ls.set i (some (.int z))) st Z M (fI z)) : GO X d Q pc ls st Z M (lT (x + c) fI) := g_iinc hd hv (by rw [hy]) hn hg (kk (x + c))
theorem g_putL {ty : FieldType} (hd : dc d.2.1 pc pc' (.putfield idx) 3) (hf : FP d.1 idx ci j ty) (hk : kD k = ci) (hn : k < Z.2.2.1) (hj : (fD ci)[j]? = some none) (hna : narrow ty (.int x) = .int x) (hfi : fits ty (.int x) = true) (kk : ∀ M1, GO X d Q pc' ls st Z M1 (fM M1)) : GO X d Q pc ls (.int x :: rf (kG X) k :: st) Z M (lT (wI M k j x) fM) := g_putI hd hf hk hn hj hna hfi (kk _)
theorem g_ialdG (hd : dc d.2.1 pc pc' .iaload 1) (hk : kD k = 100 + n ∧ n < 900) (hn : k < Z.2.2.1) (kk : GO X d Q pc' ls (.int (M.1 k x.toNatClampNeg) :: st) Z M o) : GO X d Q pc ls (.int x :: rf (kG X) k :: st) Z M (if ib x n = true then o else none) := g_grd fun h => g_iald hd hk.1 hk.2 hn kk (ib_in h)
theorem g_laldG (hd : dc d.2.1 pc pc' .laload 1) (hk : kD k = 1000 + n) (hn : k < Z.2.2.1) (kk : GO X d Q pc' ls (.long (M.2 k x.toNatClampNeg) :: st) Z M o) : GO X d Q pc ls (.int x :: rf (kG X) k :: st) Z M (if ib x n = true then o else none) := g_grd fun h => g_lald hd hk hn kk (ib_in h)
theorem g_aaldG (hd : dc d.2.1 pc pc' .aaload 1) (hz : FU Z) (hk : kD k = 50) (kk : GO X d Q pc' ls (rf (kG X) (k + 1 + 2 * x.toNatClampNeg) :: st) Z M o) : GO X d Q pc ls (.int x :: rf (kG X) k :: st) Z M (if ib x 6 = true then o else none) := g_grd fun h => g_aald hd hk (hz.lt hk) (fun j => hz.2 k j) kk (ib_in h)
theorem g_iastG (hd : dc d.2.1 pc pc' .iastore 1) (hk : kD k = 100 + n ∧ n < 900) (hn : k < Z.2.2.1) (kk : ∀ M1, GO X d Q pc' ls st Z M1 (fM M1)) : GO X d Q pc ls (.int y :: .int x :: rf (kG X) k :: st) Z M (if ib x n = true then lT (wI M k x.toNatClampNeg y) fM else none) := g_grd fun h => g_iast hd hk.1 hk.2 hn (kk _) (ib_in h)
theorem g_lastG (hd : dc d.2.1 pc pc' .lastore 1) (hk : kD k = 1000 + n) (hn : k < Z.2.2.1) (kk : ∀ M1, GO X d Q pc' ls st Z M1 (fM M1)) : GO X d Q pc ls (.long u :: .int x :: rf (kG X) k :: st) Z M (if ib x n = true then lT (wJ M k x.toNatClampNeg u) fM else none) := g_grd fun h => g_last hd hk hn (kk _) (ib_in h)
theorem g_idivG (hd : dc d.2.1 pc pc' .idiv 1) (kk : GO X d Q pc' ls (.int (x / y) :: st) Z M o) : GO X d Q pc ls (.int y :: .int x :: st) Z M (if y = 0 then none else o) := g_ite (fun _ => g_none) (fun h => g_idiv hd h kk)
theorem g_iremG (hd : dc d.2.1 pc pc' .irem 1) (kk : GO X d Q pc' ls (.int (x % y) :: st) Z M o) : GO X d Q pc ls (.int y :: .int x :: st) Z M (if y = 0 then none else o) := g_ite (fun _ => g_none) (fun h => g_irem hd h kk)
theorem g_ldivG (hd : dc d.2.1 pc pc' .ldiv 1) (kk : GO X d Q pc' ls (.long (u / v) :: st) Z M o) : GO X d Q pc ls (.long v :: .long u :: st) Z M (if v = 0 then none else o) := g_ite (fun _ => g_none) (fun h => g_ldiv hd h kk)
theorem g_lremG (hd : dc d.2.1 pc pc' .lrem 1) (kk : GO X d Q pc' ls (.long (u % v) :: st) Z M o) : GO X d Q pc ls (.long v :: .long u :: st) Z M (if v = 0 then none else o) := g_ite (fun _ => g_none) (fun h => g_lrem hd h kk)
theorem g_zretG (hd : dc d.2.1 pc pc' .ireturn 1) (hr : d.2.2.2.1 = some .boolean) : GO X d (QE X rvI Z) pc ls [.int x] Z M (if x = 0 ∨ x = 1 then some (x, M) else none) := g_grd fun h => g_zret hd hr h
theorem g_getRZ {z kz : Nat} (hd : dc d.2.1 pc pc' (.getfield idx) 3) (hf : FL d.1 idx ci j) (hz : FU Z) (hk : kD k = ci) (hc : ci ≠ 99) (hj : (fD ci)[j]? = some (some z)) (he : k + z = kz) (kk : GO X d Q pc' ls (rf (kG X) kz :: st) Z M o) : GO X d Q pc ls (rf (kG X) k :: st) Z M o := by
  subst he
  exact g_getR hd hf hk (hz.lt hk hc) (hz.2 _ _) hj kk
theorem g_oN {f : Nat → Option (α × Mm)} (kk : GO X d Q pc ls st Z M o) : GO X d Q pc ls st Z M (oE none o f) := kk
theorem g_oS {f : Nat → Option (α × Mm)} (kk : GO X d Q pc ls st Z M (f k)) : GO X d Q pc ls st Z M (oE (some k) o f) := kk
theorem g_aloadN_n {n : Fin 4} (hd : dc d.2.1 pc pc' (.aload_n n) 1) (hv : ls[(n : Nat)]? = some (some .null)) (kk : GO X d Q pc' ls (.null :: st) Z M o) : GO X d Q pc ls st Z M o := by
  obtain ⟨hd, rfl⟩ := hd
  intro K r M' ho H locs lsA hW hS hL hc hs
  exact lv_aload_nN K.1 K.2.1 hd rfl (hL.at hv) (kk K r M' ho H locs lsA hW hS hL hc hs)
theorem g_aloadN (hd : dc d.2.1 pc pc' (.aload i) 2) (hv : ls[i]? = some (some .null)) (kk : GO X d Q pc' ls (.null :: st) Z M o) : GO X d Q pc ls st Z M o := by
  obtain ⟨hd, rfl⟩ := hd
  intro K r M' ho H locs lsA hW hS hL hc hs
  exact lv_aloadN K.1 K.2.1 hd (hL.at hv) (kk K r M' ho H locs lsA hW hS hL hc hs)
theorem g_astoreN_n {n : Fin 4} (hd : dc d.2.1 pc pc' (.astore_n n) 1) (hn : (n : Nat) < d.2.2.1) (hg : nlo ls n = true) (kk : GO X d Q pc' (ls.set n (some .null)) st Z M o) : GO X d Q pc ls (.null :: st) Z M o := by
  obtain ⟨hd, rfl⟩ := hd
  intro K r M' ho H locs lsA hW hS ⟨l, h1, h2⟩ hc hs
  exact lv_astore_nN K.1 K.2.1 hd rfl h1 hn rfl (fun ls' h' => kk K r M' ho H locs ls' hW hS ⟨_, h', LV.set1 h2 hg⟩ hc hs)
theorem g_astoreN (hd : dc d.2.1 pc pc' (.astore i) 2) (hn : i < d.2.2.1) (hg : nlo ls i = true) (kk : GO X d Q pc' (ls.set i (some .null)) st Z M o) : GO X d Q pc ls (.null :: st) Z M o := by
  obtain ⟨hd, rfl⟩ := hd
  intro K r M' ho H locs lsA hW hS ⟨l, h1, h2⟩ hc hs
  exact lv_astoreN K.1 K.2.1 hd h1 hn rfl (fun ls' h' => kk K r M' ho H locs ls' hW hS ⟨_, h', LV.set1 h2 hg⟩ hc hs)
/-- System.arraycopy over longs -/
def cpJ (M : Mm) (k1 k2 sp dp n : Nat) : Mm := (M.1, fun q => if q = k2 then va_cpy (M.2 k1) (M.2 k2) sp dp n else M.2 q)
theorem g_copyG {k1 k2 : Nat} {sp dp n : Int32} (hd : dc d.2.1 pc pc' (.invokestatic idx) 3) (hl : Cond.methodLink d.1 idx arraycopyName ∈ gtb ∧ Cond.native arraycopyName ∈ gtb ∧ Cond.static arraycopyName ∈ gtb ∧ Cond.initialized "java/lang/System" ∈ gtb)
    (hk1 : kD k1 = 1000 + 60) (hk2 : kD k2 = 1000 + 60) (hn1 : k1 < Z.2.2.1) (hn2 : k2 < Z.2.2.1) (hR : 1 ≤ d.2.2.2.2.1 ∧ (st.map fun v => v.category).sum + (nativeFrameWords "java/lang/System" "arraycopy" 5 + 11) ≤ d.2.2.2.2.2)
    (kk : ∀ M1, GO X d Q pc' ls st Z M1 (fM M1)) : GO X d Q pc ls (.int n :: .int dp :: rf (kG X) k2 :: .int sp :: rf (kG X) k1 :: st) Z M (if ¬ sp < 0 ∧ ¬ dp < 0 ∧ ¬ n < 0 ∧ sp.toNatClampNeg + n.toNatClampNeg ≤ 60 ∧ dp.toNatClampNeg + n.toNatClampNeg ≤ 60 then lT (cpJ M k1 k2 sp.toNatClampNeg dp.toNatClampNeg n.toNatClampNeg) fM else none) := by
  obtain ⟨hd, rfl⟩ := hd
  refine g_grd ?_
  rintro ⟨h1, h2, h3, h4, h5⟩
  intro K r M' ho H locs lsA hW hS hL hc hs
  have hts := K.2.2.2.2.2.1
  have nn : ∀ z : Int32, ¬ z < 0 → z.toInt = (z.toNatClampNeg : Int) := by
    intro z hz
    have hz0 : (0 : Int) ≤ z.toInt := by
      have := Int32.not_lt.mp hz
      simpa using Int32.le_iff_toInt_le.mp this
    show z.toInt = ((z.toInt.toNat : Nat) : Int)
    omega
  have hKv := K.2.2.2.2.2.2.2.1.1
  have hc0 : H[k0 (kG X) + k1]? = some (vp_cell (kG X).2.2.1 (60, .inr (.inl (M.2 k1)))) := by
    have := hW.2 k1 hn1
    rw [ce_J hk1] at this
    exact this
  have hc1 : H[k0 (kG X) + k2]? = some (vp_cell (kG X).2.2.1 (60, .inr (.inl (M.2 k2)))) := by
    have := hW.2 k2 hn2
    rw [ce_J hk2] at this
    exact this
  obtain ⟨-, q0, hq0, cm0, hkk0⟩ := (hKv.2 1 _ rfl).1 60 (fun j => .long (M.2 k1 j))
  obtain ⟨-, q1, hq1, cm1, hkk1⟩ := (hKv.2 1 _ rfl).1 60 (fun j => .long (M.2 k2 j))
  intro T hT XX
  obtain ⟨vm', X', step⟩ := XX.arraycopy K.1 K.2.2.2.2.1 (hts _ hl.1) (hts _ hl.2.1) (hts _ hl.2.2.1) (hts _ hl.2.2.2) (src := k0 (kG X) + k1) (dst := k0 (kG X) + k2) (cs := vp_cell (kG X).2.2.1 (60, .inr (.inl (M.2 k1)))) (cd := vp_cell (kG X).2.2.1 (60, .inr (.inl (M.2 k2)))) (srcPos := sp) (destPos := dp) (n := n) (by rw [hT]; exact hc0) (by rw [hT]; exact hc1)
    (fun _ h => by cases h) (fun _ h => by cases h) (fun h => by cases h) (fun h => by cases h) hq0 hq1 hkk0 hkk1 (by simp [refKind]) h1 h2 h3
    (by rw [nn sp h1, nn n h3]; show ¬ _ > ((arrV (kG X).2.2.1 60 (fun j => .long (M.2 k1 j))).slots.size : Int); rw [arrV_size]; omega)
    (by rw [nn dp h2, nn n h3]; show ¬ _ > ((arrV (kG X).2.2.1 60 (fun j => .long (M.2 k2 j))).slots.size : Int); rw [arrV_size]; omega)
    (fun vm₁ _ i hi => by
      have e : (vp_cell (kG X).2.2.1 (60, .inr (.inl (M.2 k1)))).slots.getD (sp.toNatClampNeg + i) .null = .long (M.2 k1 (sp.toNatClampNeg + i)) := by
        show (arrV (kG X).2.2.1 60 (fun j => .long (M.2 k1 j))).slots.getD _ _ = _
        rw [Array.getD_eq_getD_getElem?, arrV_read _ _ (by omega)]
        rfl
      refine ⟨?_, ?_⟩
      · rw [e]; rfl
      · rw [e]; exact trivial)
    (g := F0 (km X) pc lsA (.int n :: .int dp :: .ref (k0 (kG X) + k2) :: .int sp :: .ref (k0 (kG X) + k1) :: st)) rfl (by obtain ⟨l, h, _⟩ := hL; rw [K.2.2.2.1]; exact h.1) (rest := st) rfl (by rw [K.2.1]; exact hd) (Nat.le_trans hR.1 K.2.2.2.2.2.2.2.2.1) (by have := Nat.le_trans hR.2 K.2.2.2.2.2.2.2.2.2; show 2 * 0 + _ + _ ≤ _; omega)
  have e1 : copied (vp_cell (kG X).2.2.1 (60, .inr (.inl (M.2 k1)))) (vp_cell (kG X).2.2.1 (60, .inr (.inl (M.2 k2)))) sp dp n = vp_cell (kG X).2.2.1 (60, .inr (.inl (va_cpy (M.2 k1) (M.2 k2) sp.toNatClampNeg dp.toNatClampNeg n.toNatClampNeg))) := va_copied (fun z => .long z) (kG X).2.2.1 (kG X).2.2.1 (M.2 k1) (M.2 k2) h4
  rw [e1] at X' step
  have hlt : k0 (kG X) + k2 < H.size := (Array.getElem?_eq_some_iff.mp hc1).1
  have hheap : ((T.setVm vm').setCell (k0 (kG X) + k2) (vp_cell (kG X).2.2.1 (60, .inr (.inl (va_cpy (M.2 k1) (M.2 k2) sp.toNatClampNeg dp.toNatClampNeg n.toNatClampNeg))))).heap = H.setIfInBounds (k0 (kG X) + k2) (vp_cell (kG X).2.2.1 (60, .inr (.inl (va_cpy (M.2 k1) (M.2 k2) sp.toNatClampNeg dp.toNatClampNeg n.toNatClampNeg)))) := by rw [← hT]; rfl
  have oq : ∀ q : Nat, q ≠ k0 (kG X) + k2 → (H.setIfInBounds (k0 (kG X) + k2) (vp_cell (kG X).2.2.1 (60, .inr (.inl (va_cpy (M.2 k1) (M.2 k2) sp.toNatClampNeg dp.toNatClampNeg n.toNatClampNeg)))))[q]? = H[q]? := fun q hq => by simp [Array.getElem?_setIfInBounds, Ne.symm hq]
  have hW2 : WD (kG X) Z.2.2.1 Z.2.2.2 (cpJ M k1 k2 sp.toNatClampNeg dp.toNatClampNeg n.toNatClampNeg) (H.setIfInBounds (k0 (kG X) + k2) (vp_cell (kG X).2.2.1 (60, .inr (.inl (va_cpy (M.2 k1) (M.2 k2) sp.toNatClampNeg dp.toNatClampNeg n.toNatClampNeg))))) := by
    refine hW.put (k := k2) (by simp) oq ?_ (fun q hq => ce_cg rfl (if_neg hq) rfl)
    rw [ce_J hk2]
    show (H.setIfInBounds _ _)[k0 (kG X) + k2]? = some (vp_cell _ (60, .inr (.inl (if k2 = k2 then _ else _))))
    rw [if_pos rfl]
    simp [Array.getElem?_setIfInBounds, hlt]
  obtain ⟨t, a1, b1⟩ := kk _ K r M' ho _ _ lsA hW2 ⟨by simp; exact hS.1, fun q g1 g2 => by
      rw [oq q (fun e => g2 (by rw [e]; exact Nat.le_add_right _ _))]
      exact hS.2.1 q g1 g2, fun q hq => by
      rcases List.mem_append.mp hq with h | h
      · exact hS.2.2 q h
      · obtain ⟨z, -, hz⟩ := List.mem_map.mp h
        rw [← hz]
        exact Nat.le_add_right _ _⟩ hL hc hs _ hheap X'
  exact ⟨t, step t a1, b1⟩
theorem g_icmp_eq' (hd : dj d.2.1 pc pc' tgt off (.if_icmp .eq off) 3) (kt : x = y → GO X d Q tgt ls st Z M o) (kf : ¬ x = y → GO X d Q pc' ls st Z M o) : GO X d Q pc ls (.int y :: .int x :: st) Z M o := by
  obtain ⟨hd, rfl, ht⟩ := hd
  intro K r M' ho H locs lsA hW hS hL hc hs
  exact lv_icmp_eq K.1 K.2.1 hd ht (fun h => kt h K r M' ho H locs lsA hW hS hL hc hs) (fun h => kf h K r M' ho H locs lsA hW hS hL hc hs)
theorem g_icmp_ne' (hd : dj d.2.1 pc pc' tgt off (.if_icmp .ne off) 3) (kt : ¬ x = y → GO X d Q tgt ls st Z M o) (kf : x = y → GO X d Q pc' ls st Z M o) : GO X d Q pc ls (.int y :: .int x :: st) Z M o := by
  obtain ⟨hd, rfl, ht⟩ := hd
  intro K r M' ho H locs lsA hW hS hL hc hs
  exact lv_icmp_ne K.1 K.2.1 hd ht (fun h => kt h K r M' ho H locs lsA hW hS hL hc hs) (fun h => kf h K r M' ho H locs lsA hW hS hL hc hs)
theorem g_icmp_lt' (hd : dj d.2.1 pc pc' tgt off (.if_icmp .lt off) 3) (kt : x < y → GO X d Q tgt ls st Z M o) (kf : ¬ x < y → GO X d Q pc' ls st Z M o) : GO X d Q pc ls (.int y :: .int x :: st) Z M o := by
  obtain ⟨hd, rfl, ht⟩ := hd
  intro K r M' ho H locs lsA hW hS hL hc hs
  exact lv_icmp_lt K.1 K.2.1 hd ht (fun h => kt h K r M' ho H locs lsA hW hS hL hc hs) (fun h => kf h K r M' ho H locs lsA hW hS hL hc hs)
theorem g_icmp_ge' (hd : dj d.2.1 pc pc' tgt off (.if_icmp .ge off) 3) (kt : y ≤ x → GO X d Q tgt ls st Z M o) (kf : ¬ y ≤ x → GO X d Q pc' ls st Z M o) : GO X d Q pc ls (.int y :: .int x :: st) Z M o := by
  obtain ⟨hd, rfl, ht⟩ := hd
  intro K r M' ho H locs lsA hW hS hL hc hs
  exact lv_icmp_ge K.1 K.2.1 hd ht (fun h => kt h K r M' ho H locs lsA hW hS hL hc hs) (fun h => kf h K r M' ho H locs lsA hW hS hL hc hs)
theorem g_icmp_gt' (hd : dj d.2.1 pc pc' tgt off (.if_icmp .gt off) 3) (kt : y < x → GO X d Q tgt ls st Z M o) (kf : ¬ y < x → GO X d Q pc' ls st Z M o) : GO X d Q pc ls (.int y :: .int x :: st) Z M o := by
  obtain ⟨hd, rfl, ht⟩ := hd
  intro K r M' ho H locs lsA hW hS hL hc hs
  exact lv_icmp_gt K.1 K.2.1 hd ht (fun h => kt h K r M' ho H locs lsA hW hS hL hc hs) (fun h => kf h K r M' ho H locs lsA hW hS hL hc hs)
theorem g_icmp_le' (hd : dj d.2.1 pc pc' tgt off (.if_icmp .le off) 3) (kt : x ≤ y → GO X d Q tgt ls st Z M o) (kf : ¬ x ≤ y → GO X d Q pc' ls st Z M o) : GO X d Q pc ls (.int y :: .int x :: st) Z M o := by
  obtain ⟨hd, rfl, ht⟩ := hd
  intro K r M' ho H locs lsA hW hS hL hc hs
  exact lv_icmp_le K.1 K.2.1 hd ht (fun h => kt h K r M' ho H locs lsA hW hS hL hc hs) (fun h => kf h K r M' ho H locs lsA hW hS hL hc hs)
theorem g_if_eq' (hd : dj d.2.1 pc pc' tgt off (.ifCond .eq off) 3) (kt : x = 0 → GO X d Q tgt ls st Z M o) (kf : ¬ x = 0 → GO X d Q pc' ls st Z M o) : GO X d Q pc ls (.int x :: st) Z M o := by
  obtain ⟨hd, rfl, ht⟩ := hd
  intro K r M' ho H locs lsA hW hS hL hc hs
  exact lv_if_eq K.1 K.2.1 hd ht (fun h => kt h K r M' ho H locs lsA hW hS hL hc hs) (fun h => kf h K r M' ho H locs lsA hW hS hL hc hs)
theorem g_if_ne' (hd : dj d.2.1 pc pc' tgt off (.ifCond .ne off) 3) (kt : ¬ x = 0 → GO X d Q tgt ls st Z M o) (kf : x = 0 → GO X d Q pc' ls st Z M o) : GO X d Q pc ls (.int x :: st) Z M o := by
  obtain ⟨hd, rfl, ht⟩ := hd
  intro K r M' ho H locs lsA hW hS hL hc hs
  exact lv_if_ne K.1 K.2.1 hd ht (fun h => kt h K r M' ho H locs lsA hW hS hL hc hs) (fun h => kf h K r M' ho H locs lsA hW hS hL hc hs)
theorem g_if_lt' (hd : dj d.2.1 pc pc' tgt off (.ifCond .lt off) 3) (kt : x < 0 → GO X d Q tgt ls st Z M o) (kf : ¬ x < 0 → GO X d Q pc' ls st Z M o) : GO X d Q pc ls (.int x :: st) Z M o := by
  obtain ⟨hd, rfl, ht⟩ := hd
  intro K r M' ho H locs lsA hW hS hL hc hs
  exact lv_if_lt K.1 K.2.1 hd ht (fun h => kt h K r M' ho H locs lsA hW hS hL hc hs) (fun h => kf h K r M' ho H locs lsA hW hS hL hc hs)
theorem g_if_ge' (hd : dj d.2.1 pc pc' tgt off (.ifCond .ge off) 3) (kt : 0 ≤ x → GO X d Q tgt ls st Z M o) (kf : ¬ 0 ≤ x → GO X d Q pc' ls st Z M o) : GO X d Q pc ls (.int x :: st) Z M o := by
  obtain ⟨hd, rfl, ht⟩ := hd
  intro K r M' ho H locs lsA hW hS hL hc hs
  exact lv_if_ge K.1 K.2.1 hd ht (fun h => kt h K r M' ho H locs lsA hW hS hL hc hs) (fun h => kf h K r M' ho H locs lsA hW hS hL hc hs)
theorem g_if_gt' (hd : dj d.2.1 pc pc' tgt off (.ifCond .gt off) 3) (kt : 0 < x → GO X d Q tgt ls st Z M o) (kf : ¬ 0 < x → GO X d Q pc' ls st Z M o) : GO X d Q pc ls (.int x :: st) Z M o := by
  obtain ⟨hd, rfl, ht⟩ := hd
  intro K r M' ho H locs lsA hW hS hL hc hs
  exact lv_if_gt K.1 K.2.1 hd ht (fun h => kt h K r M' ho H locs lsA hW hS hL hc hs) (fun h => kf h K r M' ho H locs lsA hW hS hL hc hs)
theorem g_if_le' (hd : dj d.2.1 pc pc' tgt off (.ifCond .le off) 3) (kt : x ≤ 0 → GO X d Q tgt ls st Z M o) (kf : ¬ x ≤ 0 → GO X d Q pc' ls st Z M o) : GO X d Q pc ls (.int x :: st) Z M o := by
  obtain ⟨hd, rfl, ht⟩ := hd
  intro K r M' ho H locs lsA hW hS hL hc hs
  exact lv_if_le K.1 K.2.1 hd ht (fun h => kt h K r M' ho H locs lsA hW hS hL hc hs) (fun h => kf h K r M' ho H locs lsA hW hS hL hc hs)
end LETS
theorem kq_0 : kD 0 = 9 := rfl
theorem kq_1 : kD 1 = 6 := rfl
theorem kq_2 : kD 2 = 0 := rfl
theorem kq_3 : kD 3 = 1 := rfl
theorem kq_4 : kD 4 = 5 := rfl
theorem kq_5 : kD 5 = 3 := rfl
theorem kq_6 : kD 6 = 4 := rfl
theorem kq_7 : kD 7 = 140 := rfl
theorem kq_8 : kD 8 = 4 := rfl
theorem kq_9 : kD 9 = 164 := rfl
theorem kq_10 : kD 10 = 2 := rfl
theorem kq_11 : kD 11 = 4 := rfl
theorem kq_12 : kD 12 = 160 := rfl
theorem kq_13 : kD 13 = 4 := rfl
theorem kq_14 : kD 14 = 160 := rfl
theorem kq_15 : kD 15 = 4 := rfl
theorem kq_16 : kD 16 = 160 := rfl
theorem kq_17 : kD 17 = 4 := rfl
theorem kq_18 : kD 18 = 104 := rfl
theorem kq_19 : kD 19 = 4 := rfl
theorem kq_20 : kD 20 = 105 := rfl
theorem kq_21 : kD 21 = 4 := rfl
theorem kq_22 : kD 22 = 105 := rfl
theorem kq_23 : kD 23 = 4 := rfl
theorem kq_24 : kD 24 = 108 := rfl
theorem kq_25 : kD 25 = 4 := rfl
theorem kq_26 : kD 26 = 108 := rfl
theorem kq_27 : kD 27 = 6 := rfl
theorem kq_28 : kD 28 = 0 := rfl
theorem kq_29 : kD 29 = 1 := rfl
theorem kq_30 : kD 30 = 5 := rfl
theorem kq_31 : kD 31 = 3 := rfl
theorem kq_32 : kD 32 = 4 := rfl
theorem kq_33 : kD 33 = 140 := rfl
theorem kq_34 : kD 34 = 4 := rfl
theorem kq_35 : kD 35 = 164 := rfl
theorem kq_36 : kD 36 = 2 := rfl
theorem kq_37 : kD 37 = 4 := rfl
theorem kq_38 : kD 38 = 160 := rfl
theorem kq_39 : kD 39 = 4 := rfl
theorem kq_40 : kD 40 = 160 := rfl
theorem kq_41 : kD 41 = 4 := rfl
theorem kq_42 : kD 42 = 160 := rfl
theorem kq_43 : kD 43 = 4 := rfl
theorem kq_44 : kD 44 = 104 := rfl
theorem kq_45 : kD 45 = 4 := rfl
theorem kq_46 : kD 46 = 105 := rfl
theorem kq_47 : kD 47 = 4 := rfl
theorem kq_48 : kD 48 = 105 := rfl
theorem kq_49 : kD 49 = 4 := rfl
theorem kq_50 : kD 50 = 108 := rfl
theorem kq_51 : kD 51 = 4 := rfl
theorem kq_52 : kD 52 = 108 := rfl
theorem kq_53 : kD 53 = 0 := rfl
theorem kq_54 : kD 54 = 1 := rfl
theorem kq_55 : kD 55 = 5 := rfl
theorem kq_56 : kD 56 = 8 := rfl
theorem kq_57 : kD 57 = 4 := rfl
theorem kq_58 : kD 58 = 200 := rfl
theorem kq_59 : kD 59 = 4 := rfl
theorem kq_60 : kD 60 = 110 := rfl
theorem kq_61 : kD 61 = 4 := rfl
theorem kq_62 : kD 62 = 110 := rfl
theorem kq_63 : kD 63 = 4 := rfl
theorem kq_64 : kD 64 = 110 := rfl
theorem kq_65 : kD 65 = 50 := rfl
theorem kq_66 : kD 66 = 7 := rfl
theorem kq_67 : kD 67 = 1060 := rfl
theorem kq_68 : kD 68 = 7 := rfl
theorem kq_69 : kD 69 = 1060 := rfl
theorem kq_70 : kD 70 = 7 := rfl
theorem kq_71 : kD 71 = 1060 := rfl
theorem kq_72 : kD 72 = 7 := rfl
theorem kq_73 : kD 73 = 1060 := rfl
theorem kq_74 : kD 74 = 7 := rfl
theorem kq_75 : kD 75 = 1060 := rfl
theorem kq_76 : kD 76 = 7 := rfl
theorem kq_77 : kD 77 = 1060 := rfl
theorem kq_78 : kD 78 = 10 := rfl
theorem kq_79 : kD 79 = 116 := rfl
theorem kq_80 : kD 80 = 116 := rfl
theorem kq_81 : kD 81 = 116 := rfl
theorem kq_82 : kD 82 = 116 := rfl
theorem kq_83 : kD 83 = 116 := rfl
theorem kq_84 : kD 84 = 116 := rfl
theorem kq_85 : kD 85 = 140 := rfl
theorem kq_86 : kD 86 = 164 := rfl
theorem kq_87 : kD 87 = 160 := rfl
theorem kq_88 : kD 88 = 160 := rfl
theorem kq_89 : kD 89 = 160 := rfl
theorem kq_90 : kD 90 = 120 := rfl
theorem kq_91 : kD 91 = 116 := rfl
theorem kq_92 : kD 92 = 200 := rfl
theorem kq_93 : kD 93 = 130 := rfl
theorem kq_94 : kD 94 = 500 := rfl
theorem kq_95 : kD 95 = 111 := rfl
theorem kq_96 : kD 96 = 106 := rfl
theorem kq_97 : kD 97 = 106 := rfl
theorem kq_98 : kD 98 = 1360 := rfl
theorem kq_99 : kD 99 = 1060 := rfl
theorem kk_0_1 {k : Nat} (h : kD k = 0) : kD (k + 1) = 1 := by
  have h0 : ∀ k, k < 100 → kD k = 0 → kD (k + 1) = 1 := by decide +kernel
  exact h0 k (kD_lt h (by decide)) h
theorem kk_0_2 {k : Nat} (h : kD k = 0) : kD (k + 2) = 5 := by
  have h0 : ∀ k, k < 100 → kD k = 0 → kD (k + 2) = 5 := by decide +kernel
  exact h0 k (kD_lt h (by decide)) h
theorem kk_2_1 {k : Nat} (h : kD k = 2) : kD (k + 1) = 4 := by
  have h0 : ∀ k, k < 100 → kD k = 2 → kD (k + 1) = 4 := by decide +kernel
  exact h0 k (kD_lt h (by decide)) h
theorem kk_2_3 {k : Nat} (h : kD k = 2) : kD (k + 3) = 4 := by
  have h0 : ∀ k, k < 100 → kD k = 2 → kD (k + 3) = 4 := by decide +kernel
  exact h0 k (kD_lt h (by decide)) h
theorem kk_2_5 {k : Nat} (h : kD k = 2) : kD (k + 5) = 4 := by
  have h0 : ∀ k, k < 100 → kD k = 2 → kD (k + 5) = 4 := by decide +kernel
  exact h0 k (kD_lt h (by decide)) h
theorem kk_2_7 {k : Nat} (h : kD k = 2) : kD (k + 7) = 4 := by
  have h0 : ∀ k, k < 100 → kD k = 2 → kD (k + 7) = 4 := by decide +kernel
  exact h0 k (kD_lt h (by decide)) h
theorem kk_3_1 {k : Nat} (h : kD k = 3) : kD (k + 1) = 4 := by
  have h0 : ∀ k, k < 100 → kD k = 3 → kD (k + 1) = 4 := by decide +kernel
  exact h0 k (kD_lt h (by decide)) h
theorem kk_3_3 {k : Nat} (h : kD k = 3) : kD (k + 3) = 4 := by
  have h0 : ∀ k, k < 100 → kD k = 3 → kD (k + 3) = 4 := by decide +kernel
  exact h0 k (kD_lt h (by decide)) h
theorem kk_4_1 {k : Nat} (h : kD k = 4) : kD (k + 1) = 100 + aL (k + 1) ∧ aL (k + 1) < 900 := by
  have h0 : ∀ k, k < 100 → kD k = 4 → kD (k + 1) = 100 + aL (k + 1) ∧ aL (k + 1) < 900 := by decide +kernel
  exact h0 k (kD_lt h (by decide)) h
theorem kk_6_1 {k : Nat} (h : kD k = 6) : kD (k + 1) = 0 := by
  have h0 : ∀ k, k < 100 → kD k = 6 → kD (k + 1) = 0 := by decide +kernel
  exact h0 k (kD_lt h (by decide)) h
theorem kk_6_4 {k : Nat} (h : kD k = 6) : kD (k + 4) = 3 := by
  have h0 : ∀ k, k < 100 → kD k = 6 → kD (k + 4) = 3 := by decide +kernel
  exact h0 k (kD_lt h (by decide)) h
theorem kk_6_9 {k : Nat} (h : kD k = 6) : kD (k + 9) = 2 := by
  have h0 : ∀ k, k < 100 → kD k = 6 → kD (k + 9) = 2 := by decide +kernel
  exact h0 k (kD_lt h (by decide)) h
theorem kk_6_18 {k : Nat} (h : kD k = 6) : kD (k + 18) = 4 := by
  have h0 : ∀ k, k < 100 → kD k = 6 → kD (k + 18) = 4 := by decide +kernel
  exact h0 k (kD_lt h (by decide)) h
theorem kk_6_20 {k : Nat} (h : kD k = 6) : kD (k + 20) = 4 := by
  have h0 : ∀ k, k < 100 → kD k = 6 → kD (k + 20) = 4 := by decide +kernel
  exact h0 k (kD_lt h (by decide)) h
theorem kk_6_22 {k : Nat} (h : kD k = 6) : kD (k + 22) = 4 := by
  have h0 : ∀ k, k < 100 → kD k = 6 → kD (k + 22) = 4 := by decide +kernel
  exact h0 k (kD_lt h (by decide)) h
theorem kk_6_24 {k : Nat} (h : kD k = 6) : kD (k + 24) = 4 := by
  have h0 : ∀ k, k < 100 → kD k = 6 → kD (k + 24) = 4 := by decide +kernel
  exact h0 k (kD_lt h (by decide)) h
theorem kk_7_1 {k : Nat} (h : kD k = 7) : kD (k + 1) = 1060 := by
  have h0 : ∀ k, k < 100 → kD k = 7 → kD (k + 1) = 1060 := by decide +kernel
  exact h0 k (kD_lt h (by decide)) h
theorem kk_8_1 {k : Nat} (h : kD k = 8) : kD (k + 1) = 4 := by
  have h0 : ∀ k, k < 100 → kD k = 8 → kD (k + 1) = 4 := by decide +kernel
  exact h0 k (kD_lt h (by decide)) h
theorem kk_8_3 {k : Nat} (h : kD k = 8) : kD (k + 3) = 4 := by
  have h0 : ∀ k, k < 100 → kD k = 8 → kD (k + 3) = 4 := by decide +kernel
  exact h0 k (kD_lt h (by decide)) h
theorem kk_8_5 {k : Nat} (h : kD k = 8) : kD (k + 5) = 4 := by
  have h0 : ∀ k, k < 100 → kD k = 8 → kD (k + 5) = 4 := by decide +kernel
  exact h0 k (kD_lt h (by decide)) h
theorem kk_8_7 {k : Nat} (h : kD k = 8) : kD (k + 7) = 4 := by
  have h0 : ∀ k, k < 100 → kD k = 8 → kD (k + 7) = 4 := by decide +kernel
  exact h0 k (kD_lt h (by decide)) h
theorem fj_0_0 : (fD 0)[0]? = some (none) := rfl
theorem fj_0_1 : (fD 0)[1]? = some (none) := rfl
theorem fj_0_2 : (fD 0)[2]? = some (none) := rfl
theorem fj_0_3 : (fD 0)[3]? = some (none) := rfl
theorem fj_0_4 : (fD 0)[4]? = some (none) := rfl
theorem fj_0_5 : (fD 0)[5]? = some (none) := rfl
theorem fj_0_6 : (fD 0)[6]? = some (none) := rfl
theorem fj_0_7 : (fD 0)[7]? = some (none) := rfl
theorem fj_0_8 : (fD 0)[8]? = some (none) := rfl
theorem fj_0_9 : (fD 0)[9]? = some (some 1) := rfl
theorem fj_0_10 : (fD 0)[10]? = some (some 2) := rfl
theorem fj_1_0 : (fD 1)[0]? = some (none) := rfl
theorem fj_1_1 : (fD 1)[1]? = some (none) := rfl
theorem fj_1_2 : (fD 1)[2]? = some (none) := rfl
theorem fj_1_3 : (fD 1)[3]? = some (none) := rfl
theorem fj_1_4 : (fD 1)[4]? = some (none) := rfl
theorem fj_2_0 : (fD 2)[0]? = some (some 1) := rfl
theorem fj_2_1 : (fD 2)[1]? = some (some 3) := rfl
theorem fj_2_2 : (fD 2)[2]? = some (some 5) := rfl
theorem fj_2_3 : (fD 2)[3]? = some (some 7) := rfl
theorem fj_3_0 : (fD 3)[0]? = some (some 1) := rfl
theorem fj_3_1 : (fD 3)[1]? = some (some 3) := rfl
theorem fj_4_0 : (fD 4)[0]? = some (some 1) := rfl
theorem fj_4_1 : (fD 4)[1]? = some (none) := rfl
theorem fj_5_0 : (fD 5)[0]? = some (none) := rfl
theorem fj_5_1 : (fD 5)[1]? = some (none) := rfl
theorem fj_5_2 : (fD 5)[2]? = some (none) := rfl
theorem fj_5_3 : (fD 5)[3]? = some (none) := rfl
theorem fj_5_4 : (fD 5)[4]? = some (none) := rfl
theorem fj_5_5 : (fD 5)[5]? = some (none) := rfl
theorem fj_6_0 : (fD 6)[0]? = some (some 1) := rfl
theorem fj_6_1 : (fD 6)[1]? = some (some 4) := rfl
theorem fj_6_2 : (fD 6)[2]? = some (some 9) := rfl
theorem fj_6_3 : (fD 6)[3]? = some (some 18) := rfl
theorem fj_6_4 : (fD 6)[4]? = some (some 20) := rfl
theorem fj_6_5 : (fD 6)[5]? = some (some 22) := rfl
theorem fj_6_6 : (fD 6)[6]? = some (some 24) := rfl
theorem fj_7_0 : (fD 7)[0]? = some (none) := rfl
theorem fj_7_1 : (fD 7)[1]? = some (none) := rfl
theorem fj_7_2 : (fD 7)[2]? = some (some 1) := rfl
theorem fj_8_0 : (fD 8)[0]? = some (some 1) := rfl
theorem fj_8_1 : (fD 8)[1]? = some (some 3) := rfl
theorem fj_8_2 : (fD 8)[2]? = some (some 5) := rfl
theorem fj_8_3 : (fD 8)[3]? = some (some 7) := rfl
theorem fj_8_4 : (fD 8)[4]? = some (none) := rfl
theorem fj_9_0 : (fD 9)[0]? = some (some 1) := rfl
theorem fj_9_1 : (fD 9)[1]? = some (some 27) := rfl
theorem fj_9_2 : (fD 9)[2]? = some (none) := rfl
theorem fj_9_3 : (fD 9)[3]? = some (some 53) := rfl
theorem fj_9_4 : (fD 9)[4]? = some (some 56) := rfl
theorem fj_9_5 : (fD 9)[5]? = some (some 65) := rfl
theorem fj_10_0 : (fD 10)[0]? = some (none) := rfl
theorem fj_10_1 : (fD 10)[1]? = some (none) := rfl
theorem fj_10_2 : (fD 10)[2]? = some (none) := rfl
theorem fj_10_3 : (fD 10)[3]? = some (none) := rfl
theorem fj_10_4 : (fD 10)[4]? = some (none) := rfl
theorem fj_10_5 : (fD 10)[5]? = some (none) := rfl
theorem fj_10_6 : (fD 10)[6]? = some (none) := rfl
theorem fj_10_7 : (fD 10)[7]? = some (some 1) := rfl
theorem fj_10_8 : (fD 10)[8]? = some (some 2) := rfl
theorem fj_10_9 : (fD 10)[9]? = some (some 3) := rfl
theorem fj_10_10 : (fD 10)[10]? = some (some 4) := rfl
theorem fj_10_11 : (fD 10)[11]? = some (some 5) := rfl
theorem fj_10_12 : (fD 10)[12]? = some (some 6) := rfl
theorem fj_10_13 : (fD 10)[13]? = some (none) := rfl
theorem fj_10_14 : (fD 10)[14]? = some (none) := rfl
theorem fj_10_15 : (fD 10)[15]? = some (some 7) := rfl
theorem fj_10_16 : (fD 10)[16]? = some (none) := rfl
theorem fj_10_17 : (fD 10)[17]? = some (some 8) := rfl
theorem fj_10_18 : (fD 10)[18]? = some (none) := rfl
theorem fj_10_19 : (fD 10)[19]? = some (some 9) := rfl
theorem fj_10_20 : (fD 10)[20]? = some (some 10) := rfl
theorem fj_10_21 : (fD 10)[21]? = some (some 11) := rfl
theorem fj_10_22 : (fD 10)[22]? = some (none) := rfl
theorem fj_10_23 : (fD 10)[23]? = some (none) := rfl
theorem fj_10_24 : (fD 10)[24]? = some (none) := rfl
theorem fj_10_25 : (fD 10)[25]? = some (none) := rfl
theorem fj_10_26 : (fD 10)[26]? = some (none) := rfl
theorem fj_10_27 : (fD 10)[27]? = some (some 12) := rfl
theorem fj_10_28 : (fD 10)[28]? = some (none) := rfl
theorem fj_10_29 : (fD 10)[29]? = some (some 13) := rfl
theorem fj_10_30 : (fD 10)[30]? = some (none) := rfl
theorem fj_10_31 : (fD 10)[31]? = some (some 14) := rfl
theorem fj_10_32 : (fD 10)[32]? = some (none) := rfl
theorem fj_10_33 : (fD 10)[33]? = some (none) := rfl
theorem fj_10_34 : (fD 10)[34]? = some (some 15) := rfl
theorem fj_10_35 : (fD 10)[35]? = some (some 16) := rfl
theorem fj_10_36 : (fD 10)[36]? = some (none) := rfl
theorem fj_10_37 : (fD 10)[37]? = some (some 17) := rfl
theorem fj_10_38 : (fD 10)[38]? = some (some 18) := rfl
theorem fj_10_39 : (fD 10)[39]? = some (some 19) := rfl
theorem fj_10_40 : (fD 10)[40]? = some (some 20) := rfl
theorem fj_10_41 : (fD 10)[41]? = some (some 21) := rfl
end
