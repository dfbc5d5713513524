set_option maxHeartbeats 4000000 in
set_option maxRecDepth 20000 in
theorem t_State_allSeenStand_2 {X : KX} {Z : ZZ} {a0 : Nat} {a1 : Nat} (hz : FU Z) (ha0 : kD a0 = 6) (ha1 : kD a1 = 0) : ∀ (n : Nat) (v2 : Int32) (M : Mm), GO X md_State_allSeenStand (QE X rvI Z) 2 [some (rf (kG X) a0), some (rf (kG X) a1), some (.int v2), none, none, none, none, none] [] Z M (f_State_allSeenStand_2 a0 a1 n v2 M) := by
  intro n
  induction n with
  | zero =>
    intro v2 M
    exact g_none
  | succ n ih =>
    intro v2 M
    rw [f_State_allSeenStand_2_s]
    refine g_iload_n e_State_allSeenStand_2 rfl ?_
    refine g_aload_n e_State_allSeenStand_3 rfl ?_
    refine g_getRZ (kz := (a0 + 18)) e_State_allSeenStand_4 fl_State_37 hz ha0 (by decide) fj_6_3 rfl ?_
    refine g_getI e_State_allSeenStand_7 fl_State_105 (kk_6_18 ha0) (hz.lt (kk_6_18 ha0)) fj_4_1 ?_
    refine g_icmp_ge e_State_allSeenStand_10 (fun c1 => ?_) (fun c1 => ?_)
    · refine g_iconst (x := (1 : Int32)) e_State_allSeenStand_106 (by decide) ?_
      exact g_zret e_State_allSeenStand_107 rfl (by decide)
    · refine g_aload_n e_State_allSeenStand_13 rfl ?_
      refine g_getRZ (kz := (a0 + 18)) e_State_allSeenStand_14 fl_State_37 hz ha0 (by decide) fj_6_3 rfl ?_
      refine g_iload_n e_State_allSeenStand_17 rfl ?_
      refine g_callV (rv := rvI) (As := [.int v2]) (st := []) e_State_allSeenStand_18 mv_State_128 my_Row_get (by decide) rfl rfl (kk_6_18 ha0) (hz.lt (kk_6_18 ha0)) rfl (Nat.le_of_ble_eq_true rfl) rfl (fun r M1 h => c_Row_get hz (kk_6_18 ha0) h) (fun r3 M2 h4 => ?_)
      refine g_istore_n e_State_allSeenStand_21 (by decide) rfl ?_
      refine g_iload_n e_State_allSeenStand_22 rfl ?_
      refine g_sipush (x := (1000 : Int32)) e_State_allSeenStand_23 (by decide) ?_
      refine g_idiv e_State_allSeenStand_26 (by decide) ?_
      refine g_istoreL e_State_allSeenStand_27 (by decide) rfl (fun x5 => ?_)
      refine g_iload_n e_State_allSeenStand_29 rfl ?_
      refine g_sipush (x := (500 : Int32)) e_State_allSeenStand_30 (by decide) ?_
      refine g_idiv e_State_allSeenStand_33 (by decide) ?_
      refine g_iconst (x := (2 : Int32)) e_State_allSeenStand_34 (by decide) ?_
      refine g_irem e_State_allSeenStand_35 (by decide) ?_
      refine g_istoreL e_State_allSeenStand_36 (by decide) rfl (fun x6 => ?_)
      refine g_iload_n e_State_allSeenStand_38 rfl ?_
      refine g_sipush (x := (500 : Int32)) e_State_allSeenStand_39 (by decide) ?_
      refine g_irem e_State_allSeenStand_42 (by decide) ?_
      refine g_bipush (x := (20 : Int32)) e_State_allSeenStand_43 (by decide) ?_
      refine g_idiv e_State_allSeenStand_45 (by decide) ?_
      refine g_istoreL e_State_allSeenStand_46 (by decide) rfl (fun x7 => ?_)
      refine g_iload_n e_State_allSeenStand_48 rfl ?_
      refine g_bipush (x := (20 : Int32)) e_State_allSeenStand_49 (by decide) ?_
      refine g_irem e_State_allSeenStand_51 (by decide) ?_
      refine g_istoreL e_State_allSeenStand_52 (by decide) rfl (fun x8 => ?_)
      refine g_aload_n e_State_allSeenStand_54 rfl ?_
      refine g_bipush (x := (10 : Int32)) e_State_allSeenStand_55 (by decide) ?_
      refine g_iload e_State_allSeenStand_57 rfl ?_
      refine g_imul e_State_allSeenStand_59 ?_
      refine g_iload e_State_allSeenStand_60 rfl ?_
      refine g_iadd e_State_allSeenStand_62 ?_
      refine g_iload e_State_allSeenStand_63 rfl ?_
      refine g_iload e_State_allSeenStand_65 rfl ?_
      refine g_callV (rv := rvI) (As := [.int (((10 : Int32) * x5) + x6), .int x7, .int x8]) (st := []) e_State_allSeenStand_67 mv_State_131 my_Job_hasCell (by decide) rfl rfl ha1 (hz.lt ha1) rfl (Nat.le_of_ble_eq_true rfl) rfl (fun r M1 h => c_Job_hasCell hz ha1 h) (fun r10 M9 h11 => ?_)
      refine g_if_ne e_State_allSeenStand_70 (fun c12 => ?_) (fun c12 => ?_)
      · refine g_aload_n e_State_allSeenStand_75 rfl ?_
        refine g_iload e_State_allSeenStand_76 rfl ?_
        refine g_iload e_State_allSeenStand_78 rfl ?_
        refine g_iload e_State_allSeenStand_80 rfl ?_
        refine g_iload e_State_allSeenStand_82 rfl ?_
        refine g_callV (rv := rvI) (As := [.int x5, .int x6, .int x7, .int x8]) (st := []) e_State_allSeenStand_84 mv_State_135 my_Job_pageSeen (by decide) rfl rfl ha1 (hz.lt ha1) rfl (Nat.le_of_ble_eq_true rfl) rfl (fun r M1 h => c_Job_pageSeen hz ha1 h) (fun r14 M13 h15 => ?_)
        refine g_aload_n e_State_allSeenStand_87 rfl ?_
        refine g_getRZ (kz := (a0 + 20)) e_State_allSeenStand_88 fl_State_41 hz ha0 (by decide) fj_6_4 rfl ?_
        refine g_iload_n e_State_allSeenStand_91 rfl ?_
        refine g_callV (rv := rvI) (As := [.int v2]) (st := [.int r14]) e_State_allSeenStand_92 mv_State_128 my_Row_get (by decide) rfl rfl (kk_6_20 ha0) (hz.lt (kk_6_20 ha0)) rfl (Nat.le_of_ble_eq_true rfl) rfl (fun r M1 h => c_Row_get hz (kk_6_20 ha0) h) (fun r17 M16 h18 => ?_)
        refine g_icmp_eq e_State_allSeenStand_95 (fun c19 => ?_) (fun c19 => ?_)
        · refine g_iincL (c := (1 : Int32)) e_State_allSeenStand_100 rfl (by decide) (by decide) rfl (fun x20 => ?_)
          refine g_goto e_State_allSeenStand_103 ?_
          exact g_wq (ih x20 M16) ⟨rfl, rfl, rfl, trivial⟩
        · refine g_iconst (x := (0 : Int32)) e_State_allSeenStand_98 (by decide) ?_
          exact g_zret e_State_allSeenStand_99 rfl (by decide)
      · refine g_iconst (x := (0 : Int32)) e_State_allSeenStand_73 (by decide) ?_
        exact g_zret e_State_allSeenStand_74 rfl (by decide)
set_option maxHeartbeats 4000000 in
set_option maxRecDepth 20000 in
theorem t_State_allSeenStand {X : KX} {Z : ZZ} {a0 : Nat} {a1 : Nat} {M : Mm} (hz : FU Z) (ha0 : kD a0 = 6) (ha1 : kD a1 = 0) : GO X md_State_allSeenStand (QE X rvI Z) 0 [some (rf (kG X) a0), some (rf (kG X) a1), none, none, none, none, none, none] [] Z M (f_State_allSeenStand a0 a1 M) := by
  unfold f_State_allSeenStand
  refine g_iconst (x := (0 : Int32)) e_State_allSeenStand_0 (by decide) ?_
  refine g_istore_n e_State_allSeenStand_1 (by decide) rfl ?_
  exact g_wq (t_State_allSeenStand_2 hz ha0 ha1 fuel (0 : Int32) M) ⟨rfl, rfl, rfl, trivial⟩
set_option maxHeartbeats 4000000 in
set_option maxRecDepth 20000 in
theorem c_State_allSeenStand {l : Launch} {G : KG} {Z : ZZ} {a0 : Nat} {a1 : Nat} {M M' : Mm} {r : Int32} (hz : FU Z) (ha0 : kD a0 = 6) (ha1 : kD a1 = 0) (h : f_State_allSeenStand a0 a1 M = some (r, M')) : CT l G y_State_allSeenStand md_State_allSeenStand 0 0 [rf G a0, rf G a1] Z.2.2.1 Z.2.2.2 M (rvI r) Z.2.2.1 Z.2.2.2 M' :=
  CT.of (Z := (0, 0, Z.2.2.1, Z.2.2.2)) (Z' := (0, 0, Z.2.2.1, Z.2.2.2)) 6 (by decide) rfl ⟨rfl, rfl⟩ (by show 2 ≤ 8; decide) rfl h (fun X _ hG => by subst hG; exact t_State_allSeenStand hz ha0 ha1)
set_option maxHeartbeats 4000000 in
set_option maxRecDepth 20000 in
theorem t_State_follows {X : KX} {Z : ZZ} {a0 : Nat} {v1 : Int32} {v2 : Int32} {v3 : Int32} {M : Mm} (hz : FU Z) (ha0 : kD a0 = 6) : GO X md_State_follows (QE X rvI Z) 0 [some (rf (kG X) a0), some (.int v1), some (.int v2), some (.int v3)] [] Z M (f_State_follows a0 v1 v2 v3 M) := by
  unfold f_State_follows
  refine g_iload_n e_State_follows_0 rfl ?_
  refine g_ite (fun c1 => ?_) (fun c1 => ?_)
  · refine g_lsw e_State_follows_1.1 (by decide) (off := 118) (tgt := 119) (by rw [c1]; decide) (by decide) ?_
    refine g_iconst (x := (3 : Int32)) e_State_follows_119 (by decide) ?_
    refine g_iload_n e_State_follows_120 rfl ?_
    refine g_callS (rv := rvI) (As := [.int (3 : Int32), .int v2]) (st := []) e_State_follows_121 ms_State_81 my_Job_allows (by decide) rfl rfl (Nat.le_of_ble_eq_true rfl) (fun r M1 h => c_Job_allows hz  h) (fun r3 M2 h4 => ?_)
    refine g_if_eq e_State_follows_124 (fun c5 => ?_) (fun c5 => ?_)
    · refine g_iconst (x := (0 : Int32)) e_State_follows_135 (by decide) ?_
      exact g_zret e_State_follows_136 rfl (by decide)
    · refine g_iconst (x := (4 : Int32)) e_State_follows_127 (by decide) ?_
      refine g_iload_n e_State_follows_128 rfl ?_
      refine g_callS (rv := rvI) (As := [.int (4 : Int32), .int v3]) (st := []) e_State_follows_129 ms_State_81 my_Job_allows (by decide) rfl rfl (Nat.le_of_ble_eq_true rfl) (fun r M1 h => c_Job_allows hz  h) (fun r7 M6 h8 => ?_)
      refine g_if_ne e_State_follows_132 (fun c9 => ?_) (fun c9 => ?_)
      · refine g_aload_n e_State_follows_137 rfl ?_
        refine g_iconst (x := (3 : Int32)) e_State_follows_138 (by decide) ?_
        refine g_iload_n e_State_follows_139 rfl ?_
        refine g_callV (rv := rvI) (As := [.int (3 : Int32), .int v2]) (st := []) e_State_follows_140 mv_State_142 my_State_settle (by decide) rfl rfl ha0 (hz.lt ha0) rfl (Nat.le_of_ble_eq_true rfl) rfl (fun r M1 h => c_State_settle hz ha0 h) (fun r11 M10 h12 => ?_)
        refine g_pop e_State_follows_143 rfl ?_
        refine g_aload_n e_State_follows_144 rfl ?_
        refine g_iconst (x := (4 : Int32)) e_State_follows_145 (by decide) ?_
        refine g_iload_n e_State_follows_146 rfl ?_
        refine g_callV (rv := rvI) (As := [.int (4 : Int32), .int v3]) (st := []) e_State_follows_147 mv_State_142 my_State_settle (by decide) rfl rfl ha0 (hz.lt ha0) rfl (Nat.le_of_ble_eq_true rfl) rfl (fun r M1 h => c_State_settle hz ha0 h) (fun r14 M13 h15 => ?_)
        refine g_pop e_State_follows_150 rfl ?_
        refine g_iconst (x := (1 : Int32)) e_State_follows_151 (by decide) ?_
        exact g_zret e_State_follows_152 rfl (by decide)
      · refine g_iconst (x := (0 : Int32)) e_State_follows_135 (by decide) ?_
        exact g_zret e_State_follows_136 rfl (by decide)
  refine g_ite (fun c16 => ?_) (fun c16 => ?_)
  · refine g_lsw e_State_follows_1.1 (by decide) (off := 59) (tgt := 60) (by rw [c16]; decide) (by decide) ?_
    refine g_aload_n e_State_follows_60 rfl ?_
    refine g_iload_n e_State_follows_61 rfl ?_
    refine g_callV (rv := rvI) (As := [.int v2]) (st := []) e_State_follows_62 mv_State_139 my_State_refold (by decide) rfl rfl ha0 (hz.lt ha0) rfl (Nat.le_of_ble_eq_true rfl) rfl (fun r M1 h => c_State_refold hz ha0 h) (fun r18 M17 h19 => ?_)
    refine g_if_lt e_State_follows_65 (fun c20 => ?_) (fun c20 => ?_)
    · refine g_iconst (x := (0 : Int32)) e_State_follows_72 (by decide) ?_
      exact g_zret e_State_follows_73 rfl (by decide)
    · refine g_iconst (x := (1 : Int32)) e_State_follows_68 (by decide) ?_
      refine g_goto e_State_follows_69 ?_
      exact g_zret e_State_follows_73 rfl (by decide)
  refine g_ite (fun c21 => ?_) (fun c21 => ?_)
  · refine g_lsw e_State_follows_1.1 (by decide) (off := 88) (tgt := 89) (by rw [c21]; decide) (by decide) ?_
    refine g_aload_n e_State_follows_89 rfl ?_
    refine g_iconst (x := (1 : Int32)) e_State_follows_90 (by decide) ?_
    refine g_iload_n e_State_follows_91 rfl ?_
    refine g_callV (rv := rvI) (As := [.int (1 : Int32), .int v2]) (st := []) e_State_follows_92 mv_State_142 my_State_settle (by decide) rfl rfl ha0 (hz.lt ha0) rfl (Nat.le_of_ble_eq_true rfl) rfl (fun r M1 h => c_State_settle hz ha0 h) (fun r23 M22 h24 => ?_)
    refine g_if_lt e_State_follows_95 (fun c25 => ?_) (fun c25 => ?_)
    · refine g_iconst (x := (0 : Int32)) e_State_follows_102 (by decide) ?_
      exact g_zret e_State_follows_103 rfl (by decide)
    · refine g_iconst (x := (1 : Int32)) e_State_follows_98 (by decide) ?_
      refine g_goto e_State_follows_99 ?_
      exact g_zret e_State_follows_103 rfl (by decide)
  refine g_ite (fun c26 => ?_) (fun c26 => ?_)
  · refine g_lsw e_State_follows_1.1 (by decide) (off := 73) (tgt := 74) (by rw [c26]; decide) (by decide) ?_
    refine g_aload_n e_State_follows_74 rfl ?_
    refine g_iconst (x := (0 : Int32)) e_State_follows_75 (by decide) ?_
    refine g_iload_n e_State_follows_76 rfl ?_
    refine g_callV (rv := rvI) (As := [.int (0 : Int32), .int v2]) (st := []) e_State_follows_77 mv_State_142 my_State_settle (by decide) rfl rfl ha0 (hz.lt ha0) rfl (Nat.le_of_ble_eq_true rfl) rfl (fun r M1 h => c_State_settle hz ha0 h) (fun r28 M27 h29 => ?_)
    refine g_if_lt e_State_follows_80 (fun c30 => ?_) (fun c30 => ?_)
    · refine g_iconst (x := (0 : Int32)) e_State_follows_87 (by decide) ?_
      exact g_zret e_State_follows_88 rfl (by decide)
    · refine g_iconst (x := (1 : Int32)) e_State_follows_83 (by decide) ?_
      refine g_goto e_State_follows_84 ?_
      exact g_zret e_State_follows_88 rfl (by decide)
  refine g_ite (fun c31 => ?_) (fun c31 => ?_)
  · refine g_lsw e_State_follows_1.1 (by decide) (off := 103) (tgt := 104) (by rw [c31]; decide) (by decide) ?_
    refine g_aload_n e_State_follows_104 rfl ?_
    refine g_iconst (x := (2 : Int32)) e_State_follows_105 (by decide) ?_
    refine g_iload_n e_State_follows_106 rfl ?_
    refine g_callV (rv := rvI) (As := [.int (2 : Int32), .int v2]) (st := []) e_State_follows_107 mv_State_142 my_State_settle (by decide) rfl rfl ha0 (hz.lt ha0) rfl (Nat.le_of_ble_eq_true rfl) rfl (fun r M1 h => c_State_settle hz ha0 h) (fun r33 M32 h34 => ?_)
    refine g_if_lt e_State_follows_110 (fun c35 => ?_) (fun c35 => ?_)
    · refine g_iconst (x := (0 : Int32)) e_State_follows_117 (by decide) ?_
      exact g_zret e_State_follows_118 rfl (by decide)
    · refine g_iconst (x := (1 : Int32)) e_State_follows_113 (by decide) ?_
      refine g_goto e_State_follows_114 ?_
      exact g_zret e_State_follows_118 rfl (by decide)
  refine g_ite (fun c36 => ?_) (fun c36 => ?_)
  · refine g_lsw e_State_follows_1.1 (by decide) (off := 152) (tgt := 153) (by rw [c36]; decide) (by decide) ?_
    refine g_aload_n e_State_follows_153 rfl ?_
    refine g_iload_n e_State_follows_154 rfl ?_
    refine g_callV (rv := rvI) (As := [.int v2]) (st := []) e_State_follows_155 mv_State_145 my_State_queue (by decide) rfl rfl ha0 (hz.lt ha0) rfl (Nat.le_of_ble_eq_true rfl) rfl (fun r M1 h => c_State_queue hz ha0 h) (fun r38 M37 h39 => ?_)
    refine g_if_lt e_State_follows_158 (fun c40 => ?_) (fun c40 => ?_)
    · refine g_iconst (x := (0 : Int32)) e_State_follows_165 (by decide) ?_
      exact g_zret e_State_follows_166 rfl (by decide)
    · refine g_iconst (x := (1 : Int32)) e_State_follows_161 (by decide) ?_
      refine g_goto e_State_follows_162 ?_
      exact g_zret e_State_follows_166 rfl (by decide)
  refine g_lsw e_State_follows_1.1 (by decide) (off := 166) (tgt := 167) ((lv_osw c1 (by decide)).trans ((lv_osw c16 (by decide)).trans ((lv_osw c21 (by decide)).trans ((lv_osw c26 (by decide)).trans ((lv_osw c31 (by decide)).trans ((lv_osw c36 (by decide)).trans (rfl))))))) (by decide) ?_
  refine g_iconst (x := (0 : Int32)) e_State_follows_167 (by decide) ?_
  exact g_zret e_State_follows_168 rfl (by decide)
set_option maxHeartbeats 4000000 in
set_option maxRecDepth 20000 in
theorem c_State_follows {l : Launch} {G : KG} {Z : ZZ} {a0 : Nat} {v1 : Int32} {v2 : Int32} {v3 : Int32} {M M' : Mm} {r : Int32} (hz : FU Z) (ha0 : kD a0 = 6) (h : f_State_follows a0 v1 v2 v3 M = some (r, M')) : CT l G y_State_follows md_State_follows 0 0 [rf G a0, .int v1, .int v2, .int v3] Z.2.2.1 Z.2.2.2 M (rvI r) Z.2.2.1 Z.2.2.2 M' :=
  CT.of (Z := (0, 0, Z.2.2.1, Z.2.2.2)) (Z' := (0, 0, Z.2.2.1, Z.2.2.2)) 0 (by decide) rfl ⟨rfl, rfl⟩ (by show 4 ≤ 4; decide) rfl h (fun X _ hG => by subst hG; exact t_State_follows hz ha0)
set_option maxHeartbeats 4000000 in
set_option maxRecDepth 20000 in
theorem t_Tape_become_12 {X : KX} {Z : ZZ} {a0 : Nat} (hz : FU Z) (ha0 : kD a0 = 7) : ∀ (n : Nat) (v3 : Int32) (M : Mm), GO X md_Tape_become (QE X rvU Z) 12 [some (rf (kG X) a0), none, none, some (.int v3)] [] Z M (f_Tape_become_12 a0 n v3 M) := by
  intro n
  induction n with
  | zero =>
    intro v3 M
    exact g_none
  | succ n ih =>
    intro v3 M
    rw [f_Tape_become_12_s]
    refine g_iload_n e_Tape_become_12 rfl ?_
    refine g_aload_n e_Tape_become_13 rfl ?_
    refine g_getRZ (kz := (a0 + 1)) e_Tape_become_14 fl_Tape_15 hz ha0 (by decide) fj_7_2 rfl ?_
    refine g_alenJ (n := 60) e_Tape_become_17 (kk_7_1 ha0) (hz.lt (kk_7_1 ha0) (by decide)) ?_
    refine g_icmp_ge e_Tape_become_18 (fun c3 => ?_) (fun c3 => ?_)
    · exact g_vret e_Tape_become_34 rfl
    · refine g_aload_n e_Tape_become_21 rfl ?_
      refine g_getRZ (kz := (a0 + 1)) e_Tape_become_22 fl_Tape_15 hz ha0 (by decide) fj_7_2 rfl ?_
      refine g_iload_n e_Tape_become_25 rfl ?_
      refine g_lconst (u := (0 : Int64)) e_Tape_become_26 (by decide) ?_
      refine g_lastG (n := 60) e_Tape_become_27 (kk_7_1 ha0) (hz.lt (kk_7_1 ha0) (by decide)) (fun M4 => ?_)
      refine g_iincL (c := (1 : Int32)) e_Tape_become_28 rfl (by decide) (by decide) rfl (fun x5 => ?_)
      refine g_goto e_Tape_become_31 ?_
      exact g_wq (ih x5 M4) ⟨rfl, rfl, trivial⟩
set_option maxHeartbeats 4000000 in
set_option maxRecDepth 20000 in
theorem t_Tape_become {X : KX} {Z : ZZ} {a0 : Nat} {v1 : Int32} {v2 : Int32} {M : Mm} (hz : FU Z) (ha0 : kD a0 = 7) : GO X md_Tape_become (QE X rvU Z) 0 [some (rf (kG X) a0), some (.int v1), some (.int v2), none] [] Z M (f_Tape_become a0 v1 v2 M) := by
  unfold f_Tape_become
  refine g_aload_n e_Tape_become_0 rfl ?_
  refine g_iload_n e_Tape_become_1 rfl ?_
  refine g_putL e_Tape_become_2 fp_Tape_11 ha0 (hz.lt ha0) fj_7_0 rfl rfl (fun M1 => ?_)
  refine g_aload_n e_Tape_become_5 rfl ?_
  refine g_iload_n e_Tape_become_6 rfl ?_
  refine g_putL e_Tape_become_7 fp_Tape_19 ha0 (hz.lt ha0) fj_7_1 rfl rfl (fun M2 => ?_)
  refine g_iconst (x := (0 : Int32)) e_Tape_become_10 (by decide) ?_
  refine g_istore_n e_Tape_become_11 (by decide) rfl ?_
  exact g_wq (t_Tape_become_12 hz ha0 fuel (0 : Int32) M2) ⟨rfl, rfl, trivial⟩
set_option maxHeartbeats 4000000 in
set_option maxRecDepth 20000 in
theorem c_Tape_become {l : Launch} {G : KG} {Z : ZZ} {a0 : Nat} {v1 : Int32} {v2 : Int32} {M M' : Mm} {r : Unit} (hz : FU Z) (ha0 : kD a0 = 7) (h : f_Tape_become a0 v1 v2 M = some (r, M')) : CT l G y_Tape_become md_Tape_become 0 0 [rf G a0, .int v1, .int v2] Z.2.2.1 Z.2.2.2 M (rvU r) Z.2.2.1 Z.2.2.2 M' :=
  CT.of (Z := (0, 0, Z.2.2.1, Z.2.2.2)) (Z' := (0, 0, Z.2.2.1, Z.2.2.2)) 1 (by decide) rfl ⟨rfl, rfl⟩ (by show 3 ≤ 4; decide) rfl h (fun X _ hG => by subst hG; exact t_Tape_become hz ha0)
set_option maxHeartbeats 4000000 in
set_option maxRecDepth 20000 in
theorem t_Tape_has {X : KX} {Z : ZZ} {a0 : Nat} {v1 : Int32} {M : Mm} (hz : FU Z) (ha0 : kD a0 = 7) : GO X md_Tape_has (QE X rvI Z) 0 [some (rf (kG X) a0), some (.int v1)] [] Z M (f_Tape_has a0 v1 M) := by
  unfold f_Tape_has
  refine g_iload_n e_Tape_has_0 rfl ?_
  refine g_if_lt e_Tape_has_1 (fun c1 => ?_) (fun c1 => ?_)
  · refine g_iconst (x := (0 : Int32)) e_Tape_has_25 (by decide) ?_
    exact g_zret e_Tape_has_26 rfl (by decide)
  · refine g_iload_n e_Tape_has_4 rfl ?_
    refine g_aload_n e_Tape_has_5 rfl ?_
    refine g_getI e_Tape_has_6 fl_Tape_19 ha0 (hz.lt ha0) fj_7_1 ?_
    refine g_icmp_ge e_Tape_has_9 (fun c2 => ?_) (fun c2 => ?_)
    · refine g_iconst (x := (0 : Int32)) e_Tape_has_25 (by decide) ?_
      exact g_zret e_Tape_has_26 rfl (by decide)
    · refine g_iload_n e_Tape_has_12 rfl ?_
      refine g_aload_n e_Tape_has_13 rfl ?_
      refine g_getRZ (kz := (a0 + 1)) e_Tape_has_14 fl_Tape_15 hz ha0 (by decide) fj_7_2 rfl ?_
      refine g_alenJ (n := 60) e_Tape_has_17 (kk_7_1 ha0) (hz.lt (kk_7_1 ha0) (by decide)) ?_
      refine g_icmp_ge e_Tape_has_18 (fun c3 => ?_) (fun c3 => ?_)
      · refine g_iconst (x := (0 : Int32)) e_Tape_has_25 (by decide) ?_
        exact g_zret e_Tape_has_26 rfl (by decide)
      · refine g_iconst (x := (1 : Int32)) e_Tape_has_21 (by decide) ?_
        refine g_goto e_Tape_has_22 ?_
        exact g_zret e_Tape_has_26 rfl (by decide)
set_option maxHeartbeats 4000000 in
set_option maxRecDepth 20000 in
theorem c_Tape_has {l : Launch} {G : KG} {Z : ZZ} {a0 : Nat} {v1 : Int32} {M M' : Mm} {r : Int32} (hz : FU Z) (ha0 : kD a0 = 7) (h : f_Tape_has a0 v1 M = some (r, M')) : CT l G y_Tape_has md_Tape_has 0 0 [rf G a0, .int v1] Z.2.2.1 Z.2.2.2 M (rvI r) Z.2.2.1 Z.2.2.2 M' :=
  CT.of (Z := (0, 0, Z.2.2.1, Z.2.2.2)) (Z' := (0, 0, Z.2.2.1, Z.2.2.2)) 0 (by decide) rfl ⟨rfl, rfl⟩ (by show 2 ≤ 2; decide) rfl h (fun X _ hG => by subst hG; exact t_Tape_has hz ha0)
set_option maxHeartbeats 4000000 in
set_option maxRecDepth 20000 in
theorem t_Tape_hasStretch {X : KX} {Z : ZZ} {a0 : Nat} {v1 : Int32} {v2 : Int32} {M : Mm} (hz : FU Z) (ha0 : kD a0 = 7) : GO X md_Tape_hasStretch (QE X rvI Z) 0 [some (rf (kG X) a0), some (.int v1), some (.int v2)] [] Z M (f_Tape_hasStretch a0 v1 v2 M) := by
  unfold f_Tape_hasStretch
  refine g_iload_n e_Tape_hasStretch_0 rfl ?_
  refine g_if_lt e_Tape_hasStretch_1 (fun c1 => ?_) (fun c1 => ?_)
  · refine g_iconst (x := (0 : Int32)) e_Tape_hasStretch_42 (by decide) ?_
    exact g_zret e_Tape_hasStretch_43 rfl (by decide)
  · refine g_iload_n e_Tape_hasStretch_4 rfl ?_
    refine g_if_lt e_Tape_hasStretch_5 (fun c2 => ?_) (fun c2 => ?_)
    · refine g_iconst (x := (0 : Int32)) e_Tape_hasStretch_42 (by decide) ?_
      exact g_zret e_Tape_hasStretch_43 rfl (by decide)
    · refine g_aload_n e_Tape_hasStretch_8 rfl ?_
      refine g_getI e_Tape_hasStretch_9 fl_Tape_19 ha0 (hz.lt ha0) fj_7_1 ?_
      refine g_aload_n e_Tape_hasStretch_12 rfl ?_
      refine g_getRZ (kz := (a0 + 1)) e_Tape_hasStretch_13 fl_Tape_15 hz ha0 (by decide) fj_7_2 rfl ?_
      refine g_alenJ (n := 60) e_Tape_hasStretch_16 (kk_7_1 ha0) (hz.lt (kk_7_1 ha0) (by decide)) ?_
      refine g_icmp_gt e_Tape_hasStretch_17 (fun c3 => ?_) (fun c3 => ?_)
      · refine g_iconst (x := (0 : Int32)) e_Tape_hasStretch_42 (by decide) ?_
        exact g_zret e_Tape_hasStretch_43 rfl (by decide)
      · refine g_iload_n e_Tape_hasStretch_20 rfl ?_
        refine g_aload_n e_Tape_hasStretch_21 rfl ?_
        refine g_getI e_Tape_hasStretch_22 fl_Tape_19 ha0 (hz.lt ha0) fj_7_1 ?_
        refine g_icmp_gt e_Tape_hasStretch_25 (fun c4 => ?_) (fun c4 => ?_)
        · refine g_iconst (x := (0 : Int32)) e_Tape_hasStretch_42 (by decide) ?_
          exact g_zret e_Tape_hasStretch_43 rfl (by decide)
        · refine g_iload_n e_Tape_hasStretch_28 rfl ?_
          refine g_aload_n e_Tape_hasStretch_29 rfl ?_
          refine g_getI e_Tape_hasStretch_30 fl_Tape_19 ha0 (hz.lt ha0) fj_7_1 ?_
          refine g_iload_n e_Tape_hasStretch_33 rfl ?_
          refine g_isub e_Tape_hasStretch_34 ?_
          refine g_icmp_gt e_Tape_hasStretch_35 (fun c5 => ?_) (fun c5 => ?_)
          · refine g_iconst (x := (0 : Int32)) e_Tape_hasStretch_42 (by decide) ?_
            exact g_zret e_Tape_hasStretch_43 rfl (by decide)
          · refine g_iconst (x := (1 : Int32)) e_Tape_hasStretch_38 (by decide) ?_
            refine g_goto e_Tape_hasStretch_39 ?_
            exact g_zret e_Tape_hasStretch_43 rfl (by decide)
set_option maxHeartbeats 4000000 in
set_option maxRecDepth 20000 in
theorem c_Tape_hasStretch {l : Launch} {G : KG} {Z : ZZ} {a0 : Nat} {v1 : Int32} {v2 : Int32} {M M' : Mm} {r : Int32} (hz : FU Z) (ha0 : kD a0 = 7) (h : f_Tape_hasStretch a0 v1 v2 M = some (r, M')) : CT l G y_Tape_hasStretch md_Tape_hasStretch 0 0 [rf G a0, .int v1, .int v2] Z.2.2.1 Z.2.2.2 M (rvI r) Z.2.2.1 Z.2.2.2 M' :=
  CT.of (Z := (0, 0, Z.2.2.1, Z.2.2.2)) (Z' := (0, 0, Z.2.2.1, Z.2.2.2)) 0 (by decide) rfl ⟨rfl, rfl⟩ (by show 3 ≤ 3; decide) rfl h (fun X _ hG => by subst hG; exact t_Tape_hasStretch hz ha0)
set_option maxHeartbeats 4000000 in
set_option maxRecDepth 20000 in
theorem t_Tape_get {X : KX} {Z : ZZ} {a0 : Nat} {v1 : Int32} {M : Mm} (hz : FU Z) (ha0 : kD a0 = 7) : GO X md_Tape_get (QE X rvJ Z) 0 [some (rf (kG X) a0), some (.int v1)] [] Z M (f_Tape_get a0 v1 M) := by
  unfold f_Tape_get
  refine g_aload_n e_Tape_get_0 rfl ?_
  refine g_iload_n e_Tape_get_1 rfl ?_
  refine g_callV (rv := rvI) (As := [.int v1]) (st := []) e_Tape_get_2 mv_Tape_22 my_Tape_has (by decide) rfl rfl ha0 (hz.lt ha0) rfl (Nat.le_of_ble_eq_true rfl) rfl (fun r M1 h => c_Tape_has hz ha0 h) (fun r2 M1 h3 => ?_)
  refine g_if_eq e_Tape_get_5 (fun c4 => ?_) (fun c4 => ?_)
  · refine g_ldc2 (u := (-9223372036854775808 : Int64)) e_Tape_get_17 w_752 ?_
    exact g_lret e_Tape_get_20 rfl
  · refine g_aload_n e_Tape_get_8 rfl ?_
    refine g_getRZ (kz := (a0 + 1)) e_Tape_get_9 fl_Tape_15 hz ha0 (by decide) fj_7_2 rfl ?_
    refine g_iload_n e_Tape_get_12 rfl ?_
    refine g_laldG (n := 60) e_Tape_get_13 (kk_7_1 ha0) (hz.lt (kk_7_1 ha0) (by decide)) ?_
    refine g_goto e_Tape_get_14 ?_
    exact g_lret e_Tape_get_20 rfl
set_option maxHeartbeats 4000000 in
set_option maxRecDepth 20000 in
theorem c_Tape_get {l : Launch} {G : KG} {Z : ZZ} {a0 : Nat} {v1 : Int32} {M M' : Mm} {r : Int64} (hz : FU Z) (ha0 : kD a0 = 7) (h : f_Tape_get a0 v1 M = some (r, M')) : CT l G y_Tape_get md_Tape_get 0 0 [rf G a0, .int v1] Z.2.2.1 Z.2.2.2 M (rvJ r) Z.2.2.1 Z.2.2.2 M' :=
  CT.of (Z := (0, 0, Z.2.2.1, Z.2.2.2)) (Z' := (0, 0, Z.2.2.1, Z.2.2.2)) 0 (by decide) rfl ⟨rfl, rfl⟩ (by show 2 ≤ 2; decide) rfl h (fun X _ hG => by subst hG; exact t_Tape_get hz ha0)
set_option maxHeartbeats 4000000 in
set_option maxRecDepth 20000 in
theorem t_Tape_cut {X : KX} {Z : ZZ} {a0 : Nat} {v1 : Int64} {M : Mm} (hz : FU Z) (ha0 : kD a0 = 7) : GO X md_Tape_cut (QE X rvJ Z) 0 [some (rf (kG X) a0), some (.long v1), none] [] Z M (f_Tape_cut a0 v1 M) := by
  unfold f_Tape_cut
  refine g_aload_n e_Tape_cut_0 rfl ?_
  refine g_getI e_Tape_cut_1 fl_Tape_11 ha0 (hz.lt ha0) fj_7_0 ?_
  refine g_ite (fun c1 => ?_) (fun c1 => ?_)
  · refine g_tswI e_Tape_cut_4.1 (0 : Int32) c1 (off := 36) (tgt := 40) (by decide) ?_
    refine g_lload_n e_Tape_cut_40 rfl ?_
    refine g_l2i e_Tape_cut_41 ?_
    refine g_i2b e_Tape_cut_42 ?_
    refine g_i2l e_Tape_cut_43 ?_
    exact g_lret e_Tape_cut_44 rfl
  refine g_ite (fun c2 => ?_) (fun c2 => ?_)
  · refine g_tswI e_Tape_cut_4.1 (1 : Int32) c2 (off := 41) (tgt := 45) (by decide) ?_
    refine g_lload_n e_Tape_cut_45 rfl ?_
    refine g_l2i e_Tape_cut_46 ?_
    refine g_i2s e_Tape_cut_47 ?_
    refine g_i2l e_Tape_cut_48 ?_
    exact g_lret e_Tape_cut_49 rfl
  refine g_ite (fun c3 => ?_) (fun c3 => ?_)
  · refine g_tswI e_Tape_cut_4.1 (2 : Int32) c3 (off := 46) (tgt := 50) (by decide) ?_
    refine g_lload_n e_Tape_cut_50 rfl ?_
    refine g_l2i e_Tape_cut_51 ?_
    refine g_i2l e_Tape_cut_52 ?_
    exact g_lret e_Tape_cut_53 rfl
  refine g_ite (fun c4 => ?_) (fun c4 => ?_)
  · refine g_tswI e_Tape_cut_4.1 (4 : Int32) c4 (off := 50) (tgt := 54) (by decide) ?_
    refine g_lload_n e_Tape_cut_54 rfl ?_
    refine g_lconst (u := (0 : Int64)) e_Tape_cut_55 (by decide) ?_
    refine g_lcmp e_Tape_cut_56 ?_
    refine g_if_eq e_Tape_cut_57 (fun c5 => ?_) (fun c5 => ?_)
    · refine g_lconst (u := (0 : Int64)) e_Tape_cut_64 (by decide) ?_
      exact g_lret e_Tape_cut_65 rfl
    · refine g_lconst (u := (1 : Int64)) e_Tape_cut_60 (by decide) ?_
      refine g_goto e_Tape_cut_61 ?_
      exact g_lret e_Tape_cut_65 rfl
  refine g_hav (pq := 66) (lsq := [some (rf (kG X) a0), some (.long v1), none]) (stq := []) ?_ (fun hq => ?_)
  · refine g_lload_n e_Tape_cut_66 rfl ?_
    exact g_lret e_Tape_cut_67 rfl
  · by_cases c6 : (M.1 a0 0) = (3 : Int32)
    · exact g_tswI e_Tape_cut_4.1 (3 : Int32) c6 (off := 62) (tgt := 66) (by decide) hq
    refine g_tswO e_Tape_cut_4.1 (tgt := 66) (by decide) (sw_out (fun q h1 h2 => ?_)) hq
    rcases (show q = 0 ∨ q = 1 ∨ q = 2 ∨ q = 3 ∨ q = 4 by omega) with rfl | rfl | rfl | rfl | rfl
    · exact c1
    · exact c2
    · exact c3
    · exact c6
    · exact c4
set_option maxHeartbeats 4000000 in
set_option maxRecDepth 20000 in
theorem c_Tape_cut {l : Launch} {G : KG} {Z : ZZ} {a0 : Nat} {v1 : Int64} {M M' : Mm} {r : Int64} (hz : FU Z) (ha0 : kD a0 = 7) (h : f_Tape_cut a0 v1 M = some (r, M')) : CT l G y_Tape_cut md_Tape_cut 0 0 [rf G a0, .long v1] Z.2.2.1 Z.2.2.2 M (rvJ r) Z.2.2.1 Z.2.2.2 M' :=
  CT.of (Z := (0, 0, Z.2.2.1, Z.2.2.2)) (Z' := (0, 0, Z.2.2.1, Z.2.2.2)) 0 (by decide) rfl ⟨rfl, rfl⟩ (by show 3 ≤ 3; decide) rfl h (fun X _ hG => by subst hG; exact t_Tape_cut hz ha0)
set_option maxHeartbeats 4000000 in
set_option maxRecDepth 20000 in
theorem t_Tape_put {X : KX} {Z : ZZ} {a0 : Nat} {v1 : Int32} {v2 : Int64} {M : Mm} (hz : FU Z) (ha0 : kD a0 = 7) : GO X md_Tape_put (QE X rvI Z) 0 [some (rf (kG X) a0), some (.int v1), some (.long v2), none] [] Z M (f_Tape_put a0 v1 v2 M) := by
  unfold f_Tape_put
  refine g_aload_n e_Tape_put_0 rfl ?_
  refine g_iload_n e_Tape_put_1 rfl ?_
  refine g_callV (rv := rvI) (As := [.int v1]) (st := []) e_Tape_put_2 mv_Tape_22 my_Tape_has (by decide) rfl rfl ha0 (hz.lt ha0) rfl (Nat.le_of_ble_eq_true rfl) rfl (fun r M1 h => c_Tape_has hz ha0 h) (fun r2 M1 h3 => ?_)
  refine g_if_ne e_Tape_put_5 (fun c4 => ?_) (fun c4 => ?_)
  · refine g_aload_n e_Tape_put_10 rfl ?_
    refine g_getRZ (kz := (a0 + 1)) e_Tape_put_11 fl_Tape_15 hz ha0 (by decide) fj_7_2 rfl ?_
    refine g_iload_n e_Tape_put_14 rfl ?_
    refine g_aload_n e_Tape_put_15 rfl ?_
    refine g_lload_n e_Tape_put_16 rfl ?_
    refine g_callV (rv := rvJ) (As := [.long v2]) (st := [.int v1, rf (kG X) (a0 + 1)]) e_Tape_put_17 mv_Tape_28 my_Tape_cut (by decide) rfl rfl ha0 (hz.lt ha0) rfl (Nat.le_of_ble_eq_true rfl) rfl (fun r M1 h => c_Tape_cut hz ha0 h) (fun r6 M5 h7 => ?_)
    refine g_lastG (n := 60) e_Tape_put_20 (kk_7_1 ha0) (hz.lt (kk_7_1 ha0) (by decide)) (fun M8 => ?_)
    refine g_iconst (x := (1 : Int32)) e_Tape_put_21 (by decide) ?_
    exact g_zret e_Tape_put_22 rfl (by decide)
  · refine g_iconst (x := (0 : Int32)) e_Tape_put_8 (by decide) ?_
    exact g_zret e_Tape_put_9 rfl (by decide)
set_option maxHeartbeats 4000000 in
set_option maxRecDepth 20000 in
theorem c_Tape_put {l : Launch} {G : KG} {Z : ZZ} {a0 : Nat} {v1 : Int32} {v2 : Int64} {M M' : Mm} {r : Int32} (hz : FU Z) (ha0 : kD a0 = 7) (h : f_Tape_put a0 v1 v2 M = some (r, M')) : CT l G y_Tape_put md_Tape_put 0 0 [rf G a0, .int v1, .long v2] Z.2.2.1 Z.2.2.2 M (rvI r) Z.2.2.1 Z.2.2.2 M' :=
  CT.of (Z := (0, 0, Z.2.2.1, Z.2.2.2)) (Z' := (0, 0, Z.2.2.1, Z.2.2.2)) 0 (by decide) rfl ⟨rfl, rfl⟩ (by show 4 ≤ 4; decide) rfl h (fun X _ hG => by subst hG; exact t_Tape_put hz ha0)
set_option maxHeartbeats 4000000 in
set_option maxRecDepth 20000 in
theorem t_Text_isNext {X : KX} {Z : ZZ} {v1 : Int32} {M : Mm} (hz : FU Z) : GO X md_Text_isNext (QE X rvI Z) 0 [some (rf (kG X) 56), some (.int v1)] [] Z M (f_Text_isNext v1 M) := by
  unfold f_Text_isNext
  refine g_aload_n e_Text_isNext_0 rfl ?_
  refine g_getRZ (kz := 57) e_Text_isNext_1 fl_Text_14 hz kq_56 (by decide) fj_8_0 rfl ?_
  refine g_aload_n e_Text_isNext_4 rfl ?_
  refine g_getI e_Text_isNext_5 fl_Text_29 kq_56 (hz.lt kq_56) fj_8_4 ?_
  refine g_callV (rv := rvI) (As := [.int (M.1 56 4)]) (st := []) e_Text_isNext_8 mv_Text_47 my_Row_get (by decide) rfl rfl kq_57 (hz.lt kq_57) rfl (Nat.le_of_ble_eq_true rfl) rfl (fun r M1 h => c_Row_get hz kq_57 h) (fun r2 M1 h3 => ?_)
  refine g_iload_n e_Text_isNext_11 rfl ?_
  refine g_icmp_eq e_Text_isNext_12 (fun c4 => ?_) (fun c4 => ?_)
  · refine g_aload_n e_Text_isNext_17 rfl ?_
    refine g_dup e_Text_isNext_18 rfl ?_
    refine g_getI e_Text_isNext_19 fl_Text_29 kq_56 (hz.lt kq_56) fj_8_4 ?_
    refine g_iconst (x := (1 : Int32)) e_Text_isNext_22 (by decide) ?_
    refine g_iadd e_Text_isNext_23 ?_
    refine g_putL e_Text_isNext_24 fp_Text_29 kq_56 (hz.lt kq_56) fj_8_4 rfl rfl (fun M5 => ?_)
    refine g_iconst (x := (1 : Int32)) e_Text_isNext_27 (by decide) ?_
    exact g_zret e_Text_isNext_28 rfl (by decide)
  · refine g_iconst (x := (0 : Int32)) e_Text_isNext_15 (by decide) ?_
    exact g_zret e_Text_isNext_16 rfl (by decide)
set_option maxHeartbeats 4000000 in
set_option maxRecDepth 20000 in
theorem c_Text_isNext {l : Launch} {G : KG} {Z : ZZ} {v1 : Int32} {M M' : Mm} {r : Int32} (hz : FU Z) (h : f_Text_isNext v1 M = some (r, M')) : CT l G y_Text_isNext md_Text_isNext 0 0 [rf G 56, .int v1] Z.2.2.1 Z.2.2.2 M (rvI r) Z.2.2.1 Z.2.2.2 M' :=
  CT.of (Z := (0, 0, Z.2.2.1, Z.2.2.2)) (Z' := (0, 0, Z.2.2.1, Z.2.2.2)) 0 (by decide) rfl ⟨rfl, rfl⟩ (by show 2 ≤ 2; decide) rfl h (fun X _ hG => by subst hG; exact t_Text_isNext hz)
set_option maxHeartbeats 4000000 in
set_option maxRecDepth 20000 in
theorem t_Text_number_85 {X : KX} {Z : ZZ} (hz : FU Z) : ∀ (v4 : Int32) (v5 : Int32) (M : Mm), GO X md_Text_number (QE X rvI Z) 85 [some (rf (kG X) 56), none, none, none, some (.int v4), some (.int v5)] [] Z M (f_Text_number_85 v4 v5 M) := by
  intro v4 v5 M
  unfold f_Text_number_85
  refine g_aload_n e_Text_number_85 rfl ?_
  refine g_getI e_Text_number_86 fl_Text_29 kq_56 (hz.lt kq_56) fj_8_4 ?_
  refine g_iload e_Text_number_89 rfl ?_
  refine g_phi1 100 (fun x4 => [none, none, none, none, none, none]) (fun x4 => [.int x4]) (fun x4 => ?_) (fun hj5 => ?_)
  · show GO X _ _ 100 [none, none, none, none, none, none] [.int x4] Z M _
    exact g_iret e_Text_number_100 rfl
  · refine g_icmp_ne' e_Text_number_91 (fun c3 => ?_) (fun c3 => ?_)
    · refine g_iload e_Text_number_98 rfl ?_
      exact (g_pf c3 (g_lt (g_wq (hj5 v4) trivial)))
    · refine g_iconst (x := (-1 : Int32)) e_Text_number_94 (by decide) ?_
      refine g_goto e_Text_number_95 ?_
      exact (g_pt c3 (g_lt (g_wq (hj5 (-1 : Int32)) trivial)))
set_option maxHeartbeats 4000000 in
set_option maxRecDepth 20000 in
theorem t_Text_number_9 {X : KX} {Z : ZZ} (hz : FU Z) : ∀ (n : Nat) (v1 : Int32) (v2 : Int32) (v3 : Int32) (v4 : Int32) (v5 : Int32) (M : Mm), GO X md_Text_number (QE X rvI Z) 9 [some (rf (kG X) 56), some (.int v1), some (.int v2), some (.int v3), some (.int v4), some (.int v5)] [] Z M (f_Text_number_9 n v1 v2 v3 v4 v5 M) := by
  intro n
  induction n with
  | zero =>
    intro v1 v2 v3 v4 v5 M
    exact g_none
  | succ n ih =>
    intro v1 v2 v3 v4 v5 M
    rw [f_Text_number_9_s]
    refine g_aload_n e_Text_number_9 rfl ?_
    refine g_getI e_Text_number_10 fl_Text_29 kq_56 (hz.lt kq_56) fj_8_4 ?_
    refine g_iload e_Text_number_13 rfl ?_
    refine g_isub e_Text_number_15 ?_
    refine g_iload_n e_Text_number_16 rfl ?_
    refine g_icmp_ge e_Text_number_17 (fun c2 => ?_) (fun c2 => ?_)
    · exact g_wq (t_Text_number_85 hz v4 v5 M) ⟨rfl, rfl, rfl, trivial⟩
    · refine g_aload_n e_Text_number_20 rfl ?_
      refine g_getRZ (kz := 57) e_Text_number_21 fl_Text_14 hz kq_56 (by decide) fj_8_0 rfl ?_
      refine g_aload_n e_Text_number_24 rfl ?_
      refine g_getI e_Text_number_25 fl_Text_29 kq_56 (hz.lt kq_56) fj_8_4 ?_
      refine g_callV (rv := rvI) (As := [.int (M.1 56 4)]) (st := []) e_Text_number_28 mv_Text_47 my_Row_get (by decide) rfl rfl kq_57 (hz.lt kq_57) rfl (Nat.le_of_ble_eq_true rfl) rfl (fun r M1 h => c_Row_get hz kq_57 h) (fun r7 M6 h8 => ?_)
      refine g_iload_n e_Text_number_31 rfl ?_
      refine g_icmp_lt e_Text_number_32 (fun c9 => ?_) (fun c9 => ?_)
      · exact g_wq (t_Text_number_85 hz v4 v5 M6) ⟨rfl, rfl, rfl, trivial⟩
      · refine g_aload_n e_Text_number_35 rfl ?_
        refine g_getRZ (kz := 57) e_Text_number_36 fl_Text_14 hz kq_56 (by decide) fj_8_0 rfl ?_
        refine g_aload_n e_Text_number_39 rfl ?_
        refine g_getI e_Text_number_40 fl_Text_29 kq_56 (hz.lt kq_56) fj_8_4 ?_
        refine g_callV (rv := rvI) (As := [.int (M6.1 56 4)]) (st := []) e_Text_number_43 mv_Text_47 my_Row_get (by decide) rfl rfl kq_57 (hz.lt kq_57) rfl (Nat.le_of_ble_eq_true rfl) rfl (fun r M1 h => c_Row_get hz kq_57 h) (fun r11 M10 h12 => ?_)
        refine g_iload_n e_Text_number_46 rfl ?_
        refine g_icmp_gt e_Text_number_47 (fun c13 => ?_) (fun c13 => ?_)
        · exact g_wq (t_Text_number_85 hz v4 v5 M10) ⟨rfl, rfl, rfl, trivial⟩
        · refine g_bipush (x := (10 : Int32)) e_Text_number_50 (by decide) ?_
          refine g_iload e_Text_number_52 rfl ?_
          refine g_imul e_Text_number_54 ?_
          refine g_aload_n e_Text_number_55 rfl ?_
          refine g_getRZ (kz := 57) e_Text_number_56 fl_Text_14 hz kq_56 (by decide) fj_8_0 rfl ?_
          refine g_aload_n e_Text_number_59 rfl ?_
          refine g_getI e_Text_number_60 fl_Text_29 kq_56 (hz.lt kq_56) fj_8_4 ?_
          refine g_callV (rv := rvI) (As := [.int (M10.1 56 4)]) (st := [.int ((10 : Int32) * v4)]) e_Text_number_63 mv_Text_47 my_Row_get (by decide) rfl rfl kq_57 (hz.lt kq_57) rfl (Nat.le_of_ble_eq_true rfl) rfl (fun r M1 h => c_Row_get hz kq_57 h) (fun r15 M14 h16 => ?_)
          refine g_iadd e_Text_number_66 ?_
          refine g_bipush (x := (48 : Int32)) e_Text_number_67 (by decide) ?_
          refine g_isub e_Text_number_69 ?_
          refine g_istoreL e_Text_number_70 (by decide) rfl (fun x17 => ?_)
          refine g_aload_n e_Text_number_72 rfl ?_
          refine g_dup e_Text_number_73 rfl ?_
          refine g_getI e_Text_number_74 fl_Text_29 kq_56 (hz.lt kq_56) fj_8_4 ?_
          refine g_iconst (x := (1 : Int32)) e_Text_number_77 (by decide) ?_
          refine g_iadd e_Text_number_78 ?_
          refine g_putL e_Text_number_79 fp_Text_29 kq_56 (hz.lt kq_56) fj_8_4 rfl rfl (fun M18 => ?_)
          refine g_goto e_Text_number_82 ?_
          exact g_wq (ih v1 v2 v3 x17 v5 M18) ⟨rfl, rfl, rfl, rfl, rfl, rfl, trivial⟩
set_option maxHeartbeats 4000000 in
set_option maxRecDepth 20000 in
theorem t_Text_number {X : KX} {Z : ZZ} {v1 : Int32} {v2 : Int32} {v3 : Int32} {M : Mm} (hz : FU Z) : GO X md_Text_number (QE X rvI Z) 0 [some (rf (kG X) 56), some (.int v1), some (.int v2), some (.int v3), none, none] [] Z M (f_Text_number v1 v2 v3 M) := by
  unfold f_Text_number
  refine g_iconst (x := (0 : Int32)) e_Text_number_0 (by decide) ?_
  refine g_istore e_Text_number_1 (by decide) rfl ?_
  refine g_aload_n e_Text_number_3 rfl ?_
  refine g_getI e_Text_number_4 fl_Text_29 kq_56 (hz.lt kq_56) fj_8_4 ?_
  refine g_istoreL e_Text_number_7 (by decide) rfl (fun x1 => ?_)
  exact g_wq (t_Text_number_9 hz fuel v1 v2 v3 (0 : Int32) x1 M) ⟨rfl, rfl, rfl, rfl, rfl, rfl, trivial⟩
set_option maxHeartbeats 4000000 in
set_option maxRecDepth 20000 in
theorem c_Text_number {l : Launch} {G : KG} {Z : ZZ} {v1 : Int32} {v2 : Int32} {v3 : Int32} {M M' : Mm} {r : Int32} (hz : FU Z) (h : f_Text_number v1 v2 v3 M = some (r, M')) : CT l G y_Text_number md_Text_number 0 0 [rf G 56, .int v1, .int v2, .int v3] Z.2.2.1 Z.2.2.2 M (rvI r) Z.2.2.1 Z.2.2.2 M' :=
  CT.of (Z := (0, 0, Z.2.2.1, Z.2.2.2)) (Z' := (0, 0, Z.2.2.1, Z.2.2.2)) 2 (by decide) rfl ⟨rfl, rfl⟩ (by show 4 ≤ 6; decide) rfl h (fun X _ hG => by subst hG; exact t_Text_number hz)
set_option maxHeartbeats 4000000 in
set_option maxRecDepth 20000 in
theorem t_Text_isClause_136 {X : KX} {Z : ZZ} (hz : FU Z) : ∀ (v1 : Int32) (v3 : Int32) (s0 : Int32) (M : Mm), GO X md_Text_isClause (QE X rvI Z) 136 [some (rf (kG X) 56), some (.int v1), none, some (.int v3), none] [.int s0] Z M (f_Text_isClause_136 v1 v3 s0 M) := by
  intro v1 v3 s0 M
  unfold f_Text_isClause_136
  refine g_istore e_Text_isClause_136 (by decide) rfl ?_
  refine g_iload e_Text_isClause_138 rfl ?_
  refine g_if_ge e_Text_isClause_140 (fun c15 => ?_) (fun c15 => ?_)
  · refine g_aload_n e_Text_isClause_145 rfl ?_
    refine g_getRZ (kz := 59) e_Text_isClause_146 fl_Text_20 hz kq_56 (by decide) fj_8_1 rfl ?_
    refine g_iload_n e_Text_isClause_149 rfl ?_
    refine g_callV (rv := rvI) (As := [.int v1]) (st := []) e_Text_isClause_150 mv_Text_55 my_Row_add (by decide) rfl rfl kq_59 (hz.lt kq_59) rfl (Nat.le_of_ble_eq_true rfl) rfl (fun r M1 h => c_Row_add hz kq_59 h) (fun r17 M16 h18 => ?_)
    refine g_pop e_Text_isClause_153 rfl ?_
    refine g_aload_n e_Text_isClause_154 rfl ?_
    refine g_getRZ (kz := 61) e_Text_isClause_155 fl_Text_23 hz kq_56 (by decide) fj_8_2 rfl ?_
    refine g_iload_n e_Text_isClause_158 rfl ?_
    refine g_callV (rv := rvI) (As := [.int v3]) (st := []) e_Text_isClause_159 mv_Text_55 my_Row_add (by decide) rfl rfl kq_61 (hz.lt kq_61) rfl (Nat.le_of_ble_eq_true rfl) rfl (fun r M1 h => c_Row_add hz kq_61 h) (fun r20 M19 h21 => ?_)
    refine g_pop e_Text_isClause_162 rfl ?_
    refine g_aload_n e_Text_isClause_163 rfl ?_
    refine g_getRZ (kz := 63) e_Text_isClause_164 fl_Text_26 hz kq_56 (by decide) fj_8_3 rfl ?_
    refine g_iload e_Text_isClause_167 rfl ?_
    refine g_callV (rv := rvI) (As := [.int s0]) (st := []) e_Text_isClause_169 mv_Text_55 my_Row_add (by decide) rfl rfl kq_63 (hz.lt kq_63) rfl (Nat.le_of_ble_eq_true rfl) rfl (fun r M1 h => c_Row_add hz kq_63 h) (fun r23 M22 h24 => ?_)
    refine g_pop e_Text_isClause_172 rfl ?_
    refine g_iconst (x := (1 : Int32)) e_Text_isClause_173 (by decide) ?_
    exact g_zret e_Text_isClause_174 rfl (by decide)
  · refine g_iconst (x := (0 : Int32)) e_Text_isClause_143 (by decide) ?_
    exact g_zret e_Text_isClause_144 rfl (by decide)
set_option maxHeartbeats 4000000 in
set_option maxRecDepth 20000 in
theorem t_Text_isClause_118 {X : KX} {Z : ZZ} (hz : FU Z) : ∀ (v1 : Int32) (v2 : Int32) (v3 : Int32) (M : Mm), GO X md_Text_isClause (QE X rvI Z) 118 [some (rf (kG X) 56), some (.int v1), some (.int v2), some (.int v3), none] [] Z M (f_Text_isClause_118 v1 v2 v3 M) := by
  intro v1 v2 v3 M
  unfold f_Text_isClause_118
  refine g_iload_n e_Text_isClause_118 rfl ?_
  refine g_if_eq e_Text_isClause_119 (fun c14 => ?_) (fun c14 => ?_)
  · refine g_iconst (x := (0 : Int32)) e_Text_isClause_135 (by decide) ?_
    exact g_wq (t_Text_isClause_136 hz v1 v3 (0 : Int32) M) ⟨rfl, rfl, rfl, trivial⟩
  · refine g_aload_n e_Text_isClause_122 rfl ?_
    refine g_bipush (x := (48 : Int32)) e_Text_isClause_123 (by decide) ?_
    refine g_bipush (x := (57 : Int32)) e_Text_isClause_125 (by decide) ?_
    refine g_bipush (x := (7 : Int32)) e_Text_isClause_127 (by decide) ?_
    refine g_callV (rv := rvI) (As := [.int (48 : Int32), .int (57 : Int32), .int (7 : Int32)]) (st := []) e_Text_isClause_129 mv_Text_51 my_Text_number (by decide) rfl rfl kq_56 (hz.lt kq_56) rfl (Nat.le_of_ble_eq_true rfl) rfl (fun r M1 h => c_Text_number hz  h) (fun r26 M25 h27 => ?_)
    refine g_goto e_Text_isClause_132 ?_
    exact g_wq (t_Text_isClause_136 hz v1 v3 r26 M25) ⟨rfl, rfl, rfl, trivial⟩
set_option maxHeartbeats 4000000 in
set_option maxRecDepth 20000 in
theorem t_Text_isClause_98 {X : KX} {Z : ZZ} (hz : FU Z) : ∀ (v1 : Int32) (v2 : Int32) (s0 : Int32) (M : Mm), GO X md_Text_isClause (QE X rvI Z) 98 [some (rf (kG X) 56), some (.int v1), some (.int v2), none, none] [.int s0] Z M (f_Text_isClause_98 v1 v2 s0 M) := by
  intro v1 v2 s0 M
  unfold f_Text_isClause_98
  refine g_istore_n e_Text_isClause_98 (by decide) rfl ?_
  refine g_iload_n e_Text_isClause_99 rfl ?_
  refine g_if_lt e_Text_isClause_100 (fun c12 => ?_) (fun c12 => ?_)
  · refine g_iconst (x := (0 : Int32)) e_Text_isClause_116 (by decide) ?_
    exact g_zret e_Text_isClause_117 rfl (by decide)
  · refine g_iload_n e_Text_isClause_103 rfl ?_
    refine g_if_eq e_Text_isClause_104 (fun c13 => ?_) (fun c13 => ?_)
    · exact g_wq (t_Text_isClause_118 hz v1 v2 s0 M) ⟨rfl, rfl, rfl, rfl, trivial⟩
    · refine g_aload_n e_Text_isClause_107 rfl ?_
      refine g_bipush (x := (44 : Int32)) e_Text_isClause_108 (by decide) ?_
      refine g_callV (rv := rvI) (As := [.int (44 : Int32)]) (st := []) e_Text_isClause_110 mv_Text_43 my_Text_isNext (by decide) rfl rfl kq_56 (hz.lt kq_56) rfl (Nat.le_of_ble_eq_true rfl) rfl (fun r M1 h => c_Text_isNext hz  h) (fun r29 M28 h30 => ?_)
      refine g_if_ne e_Text_isClause_113 (fun c31 => ?_) (fun c31 => ?_)
      · exact g_wq (t_Text_isClause_118 hz v1 v2 s0 M28) ⟨rfl, rfl, rfl, rfl, trivial⟩
      · refine g_iconst (x := (0 : Int32)) e_Text_isClause_116 (by decide) ?_
        exact g_zret e_Text_isClause_117 rfl (by decide)
set_option maxHeartbeats 4000000 in
set_option maxRecDepth 20000 in
theorem t_Text_isClause_70 {X : KX} {Z : ZZ} (hz : FU Z) : ∀ (v1 : Int32) (v2 : Int32) (M : Mm), GO X md_Text_isClause (QE X rvI Z) 70 [some (rf (kG X) 56), some (.int v1), some (.int v2), none, none] [] Z M (f_Text_isClause_70 v1 v2 M) := by
  intro v1 v2 M
  unfold f_Text_isClause_70
  refine g_iload_n e_Text_isClause_70 rfl ?_
  refine g_bipush (x := (102 : Int32)) e_Text_isClause_71 (by decide) ?_
  refine g_icmp_ne e_Text_isClause_73 (fun c8 => ?_) (fun c8 => ?_)
  · refine g_aload_n e_Text_isClause_88 rfl ?_
    refine g_bipush (x := (48 : Int32)) e_Text_isClause_89 (by decide) ?_
    refine g_bipush (x := (57 : Int32)) e_Text_isClause_91 (by decide) ?_
    refine g_bipush (x := (7 : Int32)) e_Text_isClause_93 (by decide) ?_
    refine g_callV (rv := rvI) (As := [.int (48 : Int32), .int (57 : Int32), .int (7 : Int32)]) (st := []) e_Text_isClause_95 mv_Text_51 my_Text_number (by decide) rfl rfl kq_56 (hz.lt kq_56) rfl (Nat.le_of_ble_eq_true rfl) rfl (fun r M1 h => c_Text_number hz  h) (fun r10 M9 h11 => ?_)
    exact g_wq (t_Text_isClause_98 hz v1 v2 r10 M9) ⟨rfl, rfl, rfl, trivial⟩
  · refine g_aload_n e_Text_isClause_76 rfl ?_
    refine g_bipush (x := (49 : Int32)) e_Text_isClause_77 (by decide) ?_
    refine g_bipush (x := (52 : Int32)) e_Text_isClause_79 (by decide) ?_
    refine g_iconst (x := (4 : Int32)) e_Text_isClause_81 (by decide) ?_
    refine g_callV (rv := rvI) (As := [.int (49 : Int32), .int (52 : Int32), .int (4 : Int32)]) (st := []) e_Text_isClause_82 mv_Text_51 my_Text_number (by decide) rfl rfl kq_56 (hz.lt kq_56) rfl (Nat.le_of_ble_eq_true rfl) rfl (fun r M1 h => c_Text_number hz  h) (fun r33 M32 h34 => ?_)
    refine g_goto e_Text_isClause_85 ?_
    exact g_wq (t_Text_isClause_98 hz v1 v2 r33 M32) ⟨rfl, rfl, rfl, trivial⟩
set_option maxHeartbeats 4000000 in
set_option maxRecDepth 20000 in
theorem t_Text_isClause {X : KX} {Z : ZZ} {M : Mm} (hz : FU Z) : GO X md_Text_isClause (QE X rvI Z) 0 [some (rf (kG X) 56), none, none, none, none] [] Z M (f_Text_isClause M) := by
  unfold f_Text_isClause
  refine g_aload_n e_Text_isClause_0 rfl ?_
  refine g_getRZ (kz := 57) e_Text_isClause_1 fl_Text_14 hz kq_56 (by decide) fj_8_0 rfl ?_
  refine g_aload_n e_Text_isClause_4 rfl ?_
  refine g_getI e_Text_isClause_5 fl_Text_29 kq_56 (hz.lt kq_56) fj_8_4 ?_
  refine g_callV (rv := rvI) (As := [.int (M.1 56 4)]) (st := []) e_Text_isClause_8 mv_Text_47 my_Row_get (by decide) rfl rfl kq_57 (hz.lt kq_57) rfl (Nat.le_of_ble_eq_true rfl) rfl (fun r M1 h => c_Row_get hz kq_57 h) (fun r2 M1 h3 => ?_)
  refine g_istore_n e_Text_isClause_11 (by decide) rfl ?_
  refine g_aload_n e_Text_isClause_12 rfl ?_
  refine g_bipush (x := (99 : Int32)) e_Text_isClause_13 (by decide) ?_
  refine g_callV (rv := rvI) (As := [.int (99 : Int32)]) (st := []) e_Text_isClause_15 mv_Text_43 my_Text_isNext (by decide) rfl rfl kq_56 (hz.lt kq_56) rfl (Nat.le_of_ble_eq_true rfl) rfl (fun r M1 h => c_Text_isNext hz  h) (fun r5 M4 h6 => ?_)
  refine g_istore_n e_Text_isClause_18 (by decide) rfl ?_
  refine g_iload_n e_Text_isClause_19 rfl ?_
  refine g_if_ne e_Text_isClause_20 (fun c7 => ?_) (fun c7 => ?_)
  · exact g_wq (t_Text_isClause_70 hz r2 r5 M4) ⟨rfl, rfl, rfl, trivial⟩
  · refine g_aload_n e_Text_isClause_23 rfl ?_
    refine g_bipush (x := (102 : Int32)) e_Text_isClause_24 (by decide) ?_
    refine g_callV (rv := rvI) (As := [.int (102 : Int32)]) (st := []) e_Text_isClause_26 mv_Text_43 my_Text_isNext (by decide) rfl rfl kq_56 (hz.lt kq_56) rfl (Nat.le_of_ble_eq_true rfl) rfl (fun r M1 h => c_Text_isNext hz  h) (fun r36 M35 h37 => ?_)
    refine g_if_ne e_Text_isClause_29 (fun c38 => ?_) (fun c38 => ?_)
    · exact g_wq (t_Text_isClause_70 hz r2 r5 M35) ⟨rfl, rfl, rfl, trivial⟩
    · refine g_aload_n e_Text_isClause_32 rfl ?_
      refine g_bipush (x := (110 : Int32)) e_Text_isClause_33 (by decide) ?_
      refine g_callV (rv := rvI) (As := [.int (110 : Int32)]) (st := []) e_Text_isClause_35 mv_Text_43 my_Text_isNext (by decide) rfl rfl kq_56 (hz.lt kq_56) rfl (Nat.le_of_ble_eq_true rfl) rfl (fun r M1 h => c_Text_isNext hz  h) (fun r40 M39 h41 => ?_)
      refine g_if_ne e_Text_isClause_38 (fun c42 => ?_) (fun c42 => ?_)
      · exact g_wq (t_Text_isClause_70 hz r2 r5 M39) ⟨rfl, rfl, rfl, trivial⟩
      · refine g_aload_n e_Text_isClause_41 rfl ?_
        refine g_bipush (x := (103 : Int32)) e_Text_isClause_42 (by decide) ?_
        refine g_callV (rv := rvI) (As := [.int (103 : Int32)]) (st := []) e_Text_isClause_44 mv_Text_43 my_Text_isNext (by decide) rfl rfl kq_56 (hz.lt kq_56) rfl (Nat.le_of_ble_eq_true rfl) rfl (fun r M1 h => c_Text_isNext hz  h) (fun r44 M43 h45 => ?_)
        refine g_if_ne e_Text_isClause_47 (fun c46 => ?_) (fun c46 => ?_)
        · exact g_wq (t_Text_isClause_70 hz r2 r5 M43) ⟨rfl, rfl, rfl, trivial⟩
        · refine g_aload_n e_Text_isClause_50 rfl ?_
          refine g_bipush (x := (116 : Int32)) e_Text_isClause_51 (by decide) ?_
          refine g_callV (rv := rvI) (As := [.int (116 : Int32)]) (st := []) e_Text_isClause_53 mv_Text_43 my_Text_isNext (by decide) rfl rfl kq_56 (hz.lt kq_56) rfl (Nat.le_of_ble_eq_true rfl) rfl (fun r M1 h => c_Text_isNext hz  h) (fun r48 M47 h49 => ?_)
          refine g_if_ne e_Text_isClause_56 (fun c50 => ?_) (fun c50 => ?_)
          · exact g_wq (t_Text_isClause_70 hz r2 r5 M47) ⟨rfl, rfl, rfl, trivial⟩
          · refine g_aload_n e_Text_isClause_59 rfl ?_
            refine g_bipush (x := (119 : Int32)) e_Text_isClause_60 (by decide) ?_
            refine g_callV (rv := rvI) (As := [.int (119 : Int32)]) (st := []) e_Text_isClause_62 mv_Text_43 my_Text_isNext (by decide) rfl rfl kq_56 (hz.lt kq_56) rfl (Nat.le_of_ble_eq_true rfl) rfl (fun r M1 h => c_Text_isNext hz  h) (fun r52 M51 h53 => ?_)
            refine g_if_ne e_Text_isClause_65 (fun c54 => ?_) (fun c54 => ?_)
            · exact g_wq (t_Text_isClause_70 hz r2 r5 M51) ⟨rfl, rfl, rfl, trivial⟩
            · refine g_iconst (x := (0 : Int32)) e_Text_isClause_68 (by decide) ?_
              exact g_zret e_Text_isClause_69 rfl (by decide)
set_option maxHeartbeats 4000000 in
set_option maxRecDepth 20000 in
theorem c_Text_isClause {l : Launch} {G : KG} {Z : ZZ} {M M' : Mm} {r : Int32} (hz : FU Z) (h : f_Text_isClause M = some (r, M')) : CT l G y_Text_isClause md_Text_isClause 0 0 [rf G 56] Z.2.2.1 Z.2.2.2 M (rvI r) Z.2.2.1 Z.2.2.2 M' :=
  CT.of (Z := (0, 0, Z.2.2.1, Z.2.2.2)) (Z' := (0, 0, Z.2.2.1, Z.2.2.2)) 4 (by decide) rfl ⟨rfl, rfl⟩ (by show 1 ≤ 5; decide) rfl h (fun X _ hG => by subst hG; exact t_Text_isClause hz)
set_option maxHeartbeats 4000000 in
set_option maxRecDepth 20000 in
theorem t_Text_parse_28 {X : KX} {Z : ZZ} (hz : FU Z) : ∀ (n : Nat) (v1 : Int32) (M : Mm), GO X md_Text_parse (QE X rvI Z) 28 [some (rf (kG X) 56), some (.int v1)] [] Z M (f_Text_parse_28 n v1 M) := by
  intro n
  induction n with
  | zero =>
    intro v1 M
    exact g_none
  | succ n ih =>
    intro v1 M
    rw [f_Text_parse_28_s]
    refine g_iload_n e_Text_parse_28 rfl ?_
    refine g_bipush (x := (10 : Int32)) e_Text_parse_29 (by decide) ?_
    refine g_icmp_gt e_Text_parse_31 (fun c11 => ?_) (fun c11 => ?_)
    · refine g_aload_n e_Text_parse_88 rfl ?_
      refine g_getI e_Text_parse_89 fl_Text_29 kq_56 (hz.lt kq_56) fj_8_4 ?_
      exact g_iret e_Text_parse_92 rfl
    · refine g_aload_n e_Text_parse_34 rfl ?_
      refine g_callV (rv := rvI) (As := []) (st := []) e_Text_parse_35 mv_Text_36 my_Text_isClause (by decide) rfl rfl kq_56 (hz.lt kq_56) rfl (Nat.le_of_ble_eq_true rfl) rfl (fun r M1 h => c_Text_isClause hz  h) (fun r13 M12 h14 => ?_)
      refine g_if_ne e_Text_parse_38 (fun c15 => ?_) (fun c15 => ?_)
      · refine g_aload_n e_Text_parse_46 rfl ?_
        refine g_getI e_Text_parse_47 fl_Text_29 kq_56 (hz.lt kq_56) fj_8_4 ?_
        refine g_aload_n e_Text_parse_50 rfl ?_
        refine g_getRZ (kz := 57) e_Text_parse_51 fl_Text_14 hz kq_56 (by decide) fj_8_0 rfl ?_
        refine g_getI e_Text_parse_54 fl_Text_40 kq_57 (hz.lt kq_57) fj_4_1 ?_
        refine g_icmp_lt e_Text_parse_57 (fun c16 => ?_) (fun c16 => ?_)
        · refine g_iload_n e_Text_parse_62 rfl ?_
          refine g_bipush (x := (10 : Int32)) e_Text_parse_63 (by decide) ?_
          refine g_icmp_eq e_Text_parse_65 (fun c17 => ?_) (fun c17 => ?_)
          · refine g_aload_n e_Text_parse_77 rfl ?_
            refine g_getI e_Text_parse_78 fl_Text_29 kq_56 (hz.lt kq_56) fj_8_4 ?_
            exact g_iret e_Text_parse_81 rfl
          · refine g_aload_n e_Text_parse_68 rfl ?_
            refine g_bipush (x := (59 : Int32)) e_Text_parse_69 (by decide) ?_
            refine g_callV (rv := rvI) (As := [.int (59 : Int32)]) (st := []) e_Text_parse_71 mv_Text_43 my_Text_isNext (by decide) rfl rfl kq_56 (hz.lt kq_56) rfl (Nat.le_of_ble_eq_true rfl) rfl (fun r M1 h => c_Text_isNext hz  h) (fun r19 M18 h20 => ?_)
            refine g_if_ne e_Text_parse_74 (fun c21 => ?_) (fun c21 => ?_)
            · refine g_iincL (c := (1 : Int32)) e_Text_parse_82 rfl (by decide) (by decide) rfl (fun x22 => ?_)
              refine g_goto e_Text_parse_85 ?_
              exact g_wq (ih x22 M18) ⟨rfl, rfl, trivial⟩
            · refine g_aload_n e_Text_parse_77 rfl ?_
              refine g_getI e_Text_parse_78 fl_Text_29 kq_56 (hz.lt kq_56) fj_8_4 ?_
              exact g_iret e_Text_parse_81 rfl
        · refine g_iconst (x := (-1 : Int32)) e_Text_parse_60 (by decide) ?_
          exact g_iret e_Text_parse_61 rfl
      · refine g_aload_n e_Text_parse_41 rfl ?_
        refine g_getI e_Text_parse_42 fl_Text_29 kq_56 (hz.lt kq_56) fj_8_4 ?_
        exact g_iret e_Text_parse_45 rfl
set_option maxHeartbeats 4000000 in
set_option maxRecDepth 20000 in
theorem t_Text_parse {X : KX} {Z : ZZ} {M : Mm} (hz : FU Z) : GO X md_Text_parse (QE X rvI Z) 0 [some (rf (kG X) 56), none] [] Z M (f_Text_parse M) := by
  unfold f_Text_parse
  refine g_aload_n e_Text_parse_0 rfl ?_
  refine g_iconst (x := (0 : Int32)) e_Text_parse_1 (by decide) ?_
  refine g_putL e_Text_parse_2 fp_Text_29 kq_56 (hz.lt kq_56) fj_8_4 rfl rfl (fun M1 => ?_)
  refine g_aload_n e_Text_parse_5 rfl ?_
  refine g_getRZ (kz := 59) e_Text_parse_6 fl_Text_20 hz kq_56 (by decide) fj_8_1 rfl ?_
  refine g_callV (rv := rvU) (As := []) (st := []) e_Text_parse_9 mv_Text_33 my_Row_clear (by decide) rfl rfl kq_59 (hz.lt kq_59) rfl (Nat.le_of_ble_eq_true rfl) rfl (fun r M1 h => c_Row_clear hz kq_59 h) (fun r3 M2 h4 => ?_)
  refine g_aload_n e_Text_parse_12 rfl ?_
  refine g_getRZ (kz := 61) e_Text_parse_13 fl_Text_23 hz kq_56 (by decide) fj_8_2 rfl ?_
  refine g_callV (rv := rvU) (As := []) (st := []) e_Text_parse_16 mv_Text_33 my_Row_clear (by decide) rfl rfl kq_61 (hz.lt kq_61) rfl (Nat.le_of_ble_eq_true rfl) rfl (fun r M1 h => c_Row_clear hz kq_61 h) (fun r6 M5 h7 => ?_)
  refine g_aload_n e_Text_parse_19 rfl ?_
  refine g_getRZ (kz := 63) e_Text_parse_20 fl_Text_26 hz kq_56 (by decide) fj_8_3 rfl ?_
  refine g_callV (rv := rvU) (As := []) (st := []) e_Text_parse_23 mv_Text_33 my_Row_clear (by decide) rfl rfl kq_63 (hz.lt kq_63) rfl (Nat.le_of_ble_eq_true rfl) rfl (fun r M1 h => c_Row_clear hz kq_63 h) (fun r9 M8 h10 => ?_)
  refine g_iconst (x := (1 : Int32)) e_Text_parse_26 (by decide) ?_
  refine g_istore_n e_Text_parse_27 (by decide) rfl ?_
  exact g_wq (t_Text_parse_28 hz fuel (1 : Int32) M8) ⟨rfl, rfl, trivial⟩
set_option maxHeartbeats 4000000 in
set_option maxRecDepth 20000 in
theorem c_Text_parse {l : Launch} {G : KG} {Z : ZZ} {M M' : Mm} {r : Int32} (hz : FU Z) (h : f_Text_parse M = some (r, M')) : CT l G y_Text_parse md_Text_parse 0 0 [rf G 56] Z.2.2.1 Z.2.2.2 M (rvI r) Z.2.2.1 Z.2.2.2 M' :=
  CT.of (Z := (0, 0, Z.2.2.1, Z.2.2.2)) (Z' := (0, 0, Z.2.2.1, Z.2.2.2)) 1 (by decide) rfl ⟨rfl, rfl⟩ (by show 1 ≤ 2; decide) rfl h (fun X _ hG => by subst hG; exact t_Text_parse hz)
set_option maxHeartbeats 4000000 in
set_option maxRecDepth 20000 in
theorem t_PS_fold {X : KX} {Z : ZZ} {v1 : Int32} {M : Mm} (hz : FU Z) : GO X md_PS_fold (QE X rvI Z) 0 [some (rf (kG X) 0), some (.int v1)] [] Z M (f_PS_fold v1 M) := by
  unfold f_PS_fold
  refine g_aload_n e_PS_fold_0 rfl ?_
  refine g_getRZ (kz := 1) e_PS_fold_1 fl_PS_12 hz kq_0 (by decide) fj_9_0 rfl ?_
  refine g_iload_n e_PS_fold_4 rfl ?_
  refine g_callV (rv := rvI) (As := [.int v1]) (st := []) e_PS_fold_5 mv_PS_42 my_State_refold (by decide) rfl rfl kq_1 (hz.lt kq_1) rfl (Nat.le_of_ble_eq_true rfl) rfl (fun r M1 h => c_State_refold hz kq_1 h) (fun r2 M1 h3 => ?_)
  exact g_iret e_PS_fold_8 rfl
set_option maxHeartbeats 4000000 in
set_option maxRecDepth 20000 in
theorem c_PS_fold {l : Launch} {G : KG} {Z : ZZ} {v1 : Int32} {M M' : Mm} {r : Int32} (hz : FU Z) (h : f_PS_fold v1 M = some (r, M')) : CT l G y_PS_fold md_PS_fold 0 0 [rf G 0, .int v1] Z.2.2.1 Z.2.2.2 M (rvI r) Z.2.2.1 Z.2.2.2 M' :=
  CT.of (Z := (0, 0, Z.2.2.1, Z.2.2.2)) (Z' := (0, 0, Z.2.2.1, Z.2.2.2)) 0 (by decide) rfl ⟨rfl, rfl⟩ (by show 2 ≤ 2; decide) rfl h (fun X _ hG => by subst hG; exact t_PS_fold hz)
set_option maxHeartbeats 4000000 in
set_option maxRecDepth 20000 in
theorem t_PS_set {X : KX} {Z : ZZ} {v1 : Int32} {v2 : Int32} {M : Mm} (hz : FU Z) : GO X md_PS_set (QE X rvI Z) 0 [some (rf (kG X) 0), some (.int v1), some (.int v2)] [] Z M (f_PS_set v1 v2 M) := by
  unfold f_PS_set
  refine g_aload_n e_PS_set_0 rfl ?_
  refine g_getRZ (kz := 1) e_PS_set_1 fl_PS_12 hz kq_0 (by decide) fj_9_0 rfl ?_
  refine g_iload_n e_PS_set_4 rfl ?_
  refine g_iload_n e_PS_set_5 rfl ?_
  refine g_callV (rv := rvI) (As := [.int v1, .int v2]) (st := []) e_PS_set_6 mv_PS_46 my_State_settle (by decide) rfl rfl kq_1 (hz.lt kq_1) rfl (Nat.le_of_ble_eq_true rfl) rfl (fun r M1 h => c_State_settle hz kq_1 h) (fun r2 M1 h3 => ?_)
  exact g_iret e_PS_set_9 rfl
set_option maxHeartbeats 4000000 in
set_option maxRecDepth 20000 in
theorem c_PS_set {l : Launch} {G : KG} {Z : ZZ} {v1 : Int32} {v2 : Int32} {M M' : Mm} {r : Int32} (hz : FU Z) (h : f_PS_set v1 v2 M = some (r, M')) : CT l G y_PS_set md_PS_set 0 0 [rf G 0, .int v1, .int v2] Z.2.2.1 Z.2.2.2 M (rvI r) Z.2.2.1 Z.2.2.2 M' :=
  CT.of (Z := (0, 0, Z.2.2.1, Z.2.2.2)) (Z' := (0, 0, Z.2.2.1, Z.2.2.2)) 0 (by decide) rfl ⟨rfl, rfl⟩ (by show 3 ≤ 3; decide) rfl h (fun X _ hG => by subst hG; exact t_PS_set hz)
set_option maxHeartbeats 4000000 in
set_option maxRecDepth 20000 in
theorem t_PS_told {X : KX} {Z : ZZ} {v1 : Int32} {M : Mm} (hz : FU Z) : GO X md_PS_told (QE X rvI Z) 0 [some (rf (kG X) 0), some (.int v1), none] [] Z M (f_PS_told v1 M) := by
  unfold f_PS_told
  refine g_aload_n e_PS_told_0 rfl ?_
  refine g_getRZ (kz := 1) e_PS_told_1 fl_PS_12 hz kq_0 (by decide) fj_9_0 rfl ?_
  refine g_getRZ (kz := 2) e_PS_told_4 fl_PS_50 hz kq_1 (by decide) fj_6_0 rfl ?_
  refine g_astore_n e_PS_told_7 (by decide) rfl ?_
  refine g_iload_n e_PS_told_8 rfl ?_
  refine g_ite (fun c1 => ?_) (fun c1 => ?_)
  · refine g_hav (pq := 64) (lsq := [some (rf (kG X) 0), some (.int v1), some (rf (kG X) 2)]) (stq := []) ?_ (fun hq => ?_)
    · refine g_aload_n e_PS_told_64 rfl ?_
      refine g_iload_n e_PS_told_65 rfl ?_
      refine g_callV (rv := rvI) (As := [.int v1]) (st := []) e_PS_told_66 mv_PS_53 my_Job_value (by decide) rfl rfl kq_2 (hz.lt kq_2) rfl (Nat.le_of_ble_eq_true rfl) rfl (fun r M1 h => c_Job_value hz kq_2 h) (fun r3 M2 h4 => ?_)
      exact g_iret e_PS_told_69 rfl
    · rcases c1 with c1 | c1 | c1 | c1 | c1
      · exact g_tswI e_PS_told_9.1 (0 : Int32) c1 (off := 55) (tgt := 64) (by decide) hq
      · exact g_tswI e_PS_told_9.1 (1 : Int32) c1 (off := 55) (tgt := 64) (by decide) hq
      · exact g_tswI e_PS_told_9.1 (2 : Int32) c1 (off := 55) (tgt := 64) (by decide) hq
      · exact g_tswI e_PS_told_9.1 (3 : Int32) c1 (off := 55) (tgt := 64) (by decide) hq
      · exact g_tswI e_PS_told_9.1 (4 : Int32) c1 (off := 55) (tgt := 64) (by decide) hq
  refine g_ite (fun c5 => ?_) (fun c5 => ?_)
  · refine g_tswI e_PS_told_9.1 (5 : Int32) c5 (off := 61) (tgt := 70) (by decide) ?_
    refine g_aload_n e_PS_told_70 rfl ?_
    refine g_callV (rv := rvI) (As := []) (st := []) e_PS_told_71 mv_PS_56 my_Job_word (by decide) rfl rfl kq_2 (hz.lt kq_2) rfl (Nat.le_of_ble_eq_true rfl) rfl (fun r M1 h => c_Job_word hz kq_2 h) (fun r7 M6 h8 => ?_)
    exact g_iret e_PS_told_74 rfl
  refine g_ite (fun c9 => ?_) (fun c9 => ?_)
  · refine g_tswI e_PS_told_9.1 (6 : Int32) c9 (off := 66) (tgt := 75) (by decide) ?_
    refine g_aload_n e_PS_told_75 rfl ?_
    refine g_getI e_PS_told_76 fl_PS_60 kq_2 (hz.lt kq_2) fj_0_2 ?_
    exact g_iret e_PS_told_79 rfl
  refine g_ite (fun c10 => ?_) (fun c10 => ?_)
  · refine g_tswI e_PS_told_9.1 (7 : Int32) c10 (off := 71) (tgt := 80) (by decide) ?_
    refine g_aload_n e_PS_told_80 rfl ?_
    refine g_getI e_PS_told_81 fl_PS_64 kq_2 (hz.lt kq_2) fj_0_3 ?_
    exact g_iret e_PS_told_84 rfl
  refine g_ite (fun c11 => ?_) (fun c11 => ?_)
  · refine g_tswI e_PS_told_9.1 (8 : Int32) c11 (off := 76) (tgt := 85) (by decide) ?_
    refine g_aload_n e_PS_told_85 rfl ?_
    refine g_callV (rv := rvI) (As := []) (st := []) e_PS_told_86 mv_PS_67 my_Job_sheets (by decide) rfl rfl kq_2 (hz.lt kq_2) rfl (Nat.le_of_ble_eq_true rfl) rfl (fun r M1 h => c_Job_sheets hz kq_2 h) (fun r13 M12 h14 => ?_)
    exact g_iret e_PS_told_89 rfl
  refine g_ite (fun c15 => ?_) (fun c15 => ?_)
  · refine g_tswI e_PS_told_9.1 (9 : Int32) c15 (off := 81) (tgt := 90) (by decide) ?_
    refine g_aload_n e_PS_told_90 rfl ?_
    refine g_callV (rv := rvI) (As := []) (st := []) e_PS_told_91 mv_PS_70 my_Job_empties (by decide) rfl rfl kq_2 (hz.lt kq_2) rfl (Nat.le_of_ble_eq_true rfl) rfl (fun r M1 h => c_Job_empties hz kq_2 h) (fun r17 M16 h18 => ?_)
    exact g_iret e_PS_told_94 rfl
  refine g_hav (pq := 95) (lsq := [some (rf (kG X) 0), some (.int v1), some (rf (kG X) 2)]) (stq := []) ?_ (fun hq => ?_)
  · refine g_iconst (x := (-1 : Int32)) e_PS_told_95 (by decide) ?_
    exact g_iret e_PS_told_96 rfl
  · refine g_tswO e_PS_told_9.1 (tgt := 95) (by decide) (sw_out (fun q h1 h2 => ?_)) hq
    rcases (show q = 0 ∨ q = 1 ∨ q = 2 ∨ q = 3 ∨ q = 4 ∨ q = 5 ∨ q = 6 ∨ q = 7 ∨ q = 8 ∨ q = 9 by omega) with rfl | rfl | rfl | rfl | rfl | rfl | rfl | rfl | rfl | rfl
    · exact (not_or.mp c1).1
    · exact (not_or.mp (not_or.mp c1).2).1
    · exact (not_or.mp (not_or.mp (not_or.mp c1).2).2).1
    · exact (not_or.mp (not_or.mp (not_or.mp (not_or.mp c1).2).2).2).1
    · exact (not_or.mp (not_or.mp (not_or.mp (not_or.mp c1).2).2).2).2
    · exact c5
    · exact c9
    · exact c10
    · exact c11
    · exact c15
set_option maxHeartbeats 4000000 in
set_option maxRecDepth 20000 in
theorem c_PS_told {l : Launch} {G : KG} {Z : ZZ} {v1 : Int32} {M M' : Mm} {r : Int32} (hz : FU Z) (h : f_PS_told v1 M = some (r, M')) : CT l G y_PS_told md_PS_told 0 0 [rf G 0, .int v1] Z.2.2.1 Z.2.2.2 M (rvI r) Z.2.2.1 Z.2.2.2 M' :=
  CT.of (Z := (0, 0, Z.2.2.1, Z.2.2.2)) (Z' := (0, 0, Z.2.2.1, Z.2.2.2)) 1 (by decide) rfl ⟨rfl, rfl⟩ (by show 2 ≤ 3; decide) rfl h (fun X _ hG => by subst hG; exact t_PS_told hz)
set_option maxHeartbeats 4000000 in
set_option maxRecDepth 20000 in
theorem t_PS_run {X : KX} {Z : ZZ} {v1 : Int32} {v2 : Int32} {M : Mm} (hz : FU Z) : GO X md_PS_run (QE X rvI Z) 0 [some (rf (kG X) 0), some (.int v1), some (.int v2), none, none] [] Z M (f_PS_run v1 v2 M) := by
  unfold f_PS_run
  refine g_aload_n e_PS_run_0 rfl ?_
  refine g_getRZ (kz := 1) e_PS_run_1 fl_PS_12 hz kq_0 (by decide) fj_9_0 rfl ?_
  refine g_getRZ (kz := 2) e_PS_run_4 fl_PS_50 hz kq_1 (by decide) fj_6_0 rfl ?_
  refine g_astore_n e_PS_run_7 (by decide) rfl ?_
  refine g_iload_n e_PS_run_8 rfl ?_
  refine g_if_lt e_PS_run_9 (fun c1 => ?_) (fun c1 => ?_)
  · refine g_iconst (x := (-1 : Int32)) e_PS_run_20 (by decide) ?_
    exact g_iret e_PS_run_21 rfl
  · refine g_iload_n e_PS_run_12 rfl ?_
    refine g_aload_n e_PS_run_13 rfl ?_
    refine g_callV (rv := rvI) (As := []) (st := [.int v1]) e_PS_run_14 mv_PS_73 my_Job_sides (by decide) rfl rfl kq_2 (hz.lt kq_2) rfl (Nat.le_of_ble_eq_true rfl) rfl (fun r M1 h => c_Job_sides hz kq_2 h) (fun r3 M2 h4 => ?_)
    refine g_icmp_lt e_PS_run_17 (fun c5 => ?_) (fun c5 => ?_)
    · refine g_aload_n e_PS_run_22 rfl ?_
      refine g_getRZ (kz := 3) e_PS_run_23 fl_PS_76 hz kq_2 (by decide) fj_0_9 rfl ?_
      refine g_astore e_PS_run_26 (by decide) rfl ?_
      refine g_aload e_PS_run_28 rfl ?_
      refine g_aload_n e_PS_run_30 rfl ?_
      refine g_iload_n e_PS_run_31 rfl ?_
      refine g_iconst (x := (2 : Int32)) e_PS_run_32 (by decide) ?_
      refine g_idiv e_PS_run_33 (by decide) ?_
      refine g_callV (rv := rvU) (As := [rf (kG X) 2, .int (v1 / (2 : Int32))]) (st := []) e_PS_run_34 mv_PS_80 my_Leaf_layOpen (by decide) rfl rfl kq_3 (hz.lt kq_3) rfl (Nat.le_of_ble_eq_true rfl) rfl (fun r M1 h => c_Leaf_layOpen hz kq_3 kq_2 h) (fun r7 M6 h8 => ?_)
      refine g_iload_n e_PS_run_37 rfl ?_
      refine g_ite (fun c9 => ?_) (fun c9 => ?_)
      · refine g_tswI e_PS_run_38.1 (0 : Int32) c9 (off := 30) (tgt := 68) (by decide) ?_
        refine g_aload e_PS_run_68 rfl ?_
        refine g_getI e_PS_run_70 fl_PS_86 kq_3 (hz.lt kq_3) fj_1_0 ?_
        exact g_iret e_PS_run_73 rfl
      refine g_ite (fun c10 => ?_) (fun c10 => ?_)
      · refine g_tswI e_PS_run_38.1 (1 : Int32) c10 (off := 36) (tgt := 74) (by decide) ?_
        refine g_aload e_PS_run_74 rfl ?_
        refine g_getI e_PS_run_76 fl_PS_89 kq_3 (hz.lt kq_3) fj_1_1 ?_
        exact g_iret e_PS_run_79 rfl
      refine g_ite (fun c11 => ?_) (fun c11 => ?_)
      · refine g_tswI e_PS_run_38.1 (2 : Int32) c11 (off := 42) (tgt := 80) (by decide) ?_
        refine g_aload e_PS_run_80 rfl ?_
        refine g_iload_n e_PS_run_82 rfl ?_
        refine g_callV (rv := rvI) (As := [.int v1]) (st := []) e_PS_run_83 mv_PS_92 my_Leaf_sideOf (by decide) rfl rfl kq_3 (hz.lt kq_3) rfl (Nat.le_of_ble_eq_true rfl) rfl (fun r M1 h => c_Leaf_sideOf hz kq_3 h) (fun r13 M12 h14 => ?_)
        exact g_iret e_PS_run_86 rfl
      refine g_ite (fun c15 => ?_) (fun c15 => ?_)
      · refine g_tswI e_PS_run_38.1 (3 : Int32) c15 (off := 49) (tgt := 87) (by decide) ?_
        refine g_aload e_PS_run_87 rfl ?_
        refine g_getI e_PS_run_89 fl_PS_95 kq_3 (hz.lt kq_3) fj_1_4 ?_
        exact g_iret e_PS_run_92 rfl
      refine g_hav (pq := 93) (lsq := [some (rf (kG X) 0), some (.int v1), some (.int v2), some (rf (kG X) 2), some (rf (kG X) 3)]) (stq := []) ?_ (fun hq => ?_)
      · refine g_iconst (x := (-1 : Int32)) e_PS_run_93 (by decide) ?_
        exact g_iret e_PS_run_94 rfl
      · refine g_tswO e_PS_run_38.1 (tgt := 93) (by decide) (sw_out (fun q h1 h2 => ?_)) hq
        rcases (show q = 0 ∨ q = 1 ∨ q = 2 ∨ q = 3 by omega) with rfl | rfl | rfl | rfl
        · exact c9
        · exact c10
        · exact c11
        · exact c15
    · refine g_iconst (x := (-1 : Int32)) e_PS_run_20 (by decide) ?_
      exact g_iret e_PS_run_21 rfl
set_option maxHeartbeats 4000000 in
set_option maxRecDepth 20000 in
theorem c_PS_run {l : Launch} {G : KG} {Z : ZZ} {v1 : Int32} {v2 : Int32} {M M' : Mm} {r : Int32} (hz : FU Z) (h : f_PS_run v1 v2 M = some (r, M')) : CT l G y_PS_run md_PS_run 0 0 [rf G 0, .int v1, .int v2] Z.2.2.1 Z.2.2.2 M (rvI r) Z.2.2.1 Z.2.2.2 M' :=
  CT.of (Z := (0, 0, Z.2.2.1, Z.2.2.2)) (Z' := (0, 0, Z.2.2.1, Z.2.2.2)) 2 (by decide) rfl ⟨rfl, rfl⟩ (by show 3 ≤ 5; decide) rfl h (fun X _ hG => by subst hG; exact t_PS_run hz)
set_option maxHeartbeats 4000000 in
set_option maxRecDepth 20000 in
theorem t_PS_stands {X : KX} {Z : ZZ} {v1 : Int32} {v2 : Int32} {M : Mm} (hz : FU Z) : GO X md_PS_stands (QE X rvI Z) 0 [some (rf (kG X) 0), some (.int v1), some (.int v2), none, none] [] Z M (f_PS_stands v1 v2 M) := by
  unfold f_PS_stands
  refine g_aload_n e_PS_stands_0 rfl ?_
  refine g_getRZ (kz := 1) e_PS_stands_1 fl_PS_12 hz kq_0 (by decide) fj_9_0 rfl ?_
  refine g_getRZ (kz := 2) e_PS_stands_4 fl_PS_50 hz kq_1 (by decide) fj_6_0 rfl ?_
  refine g_astore_n e_PS_stands_7 (by decide) rfl ?_
  refine g_aload_n e_PS_stands_8 rfl ?_
  refine g_iload_n e_PS_stands_9 rfl ?_
  refine g_callV (rv := rvI) (As := [.int v1]) (st := []) e_PS_stands_10 mv_PS_98 my_Job_hasPlaceOf (by decide) rfl rfl kq_2 (hz.lt kq_2) rfl (Nat.le_of_ble_eq_true rfl) rfl (fun r M1 h => c_Job_hasPlaceOf hz kq_2 h) (fun r2 M1 h3 => ?_)
  refine g_if_ne e_PS_stands_13 (fun c4 => ?_) (fun c4 => ?_)
  · refine g_aload_n e_PS_stands_18 rfl ?_
    refine g_getRZ (kz := 4) e_PS_stands_19 fl_PS_102 hz kq_2 (by decide) fj_0_10 rfl ?_
    refine g_astore e_PS_stands_22 (by decide) rfl ?_
    refine g_aload e_PS_stands_24 rfl ?_
    refine g_aload_n e_PS_stands_26 rfl ?_
    refine g_iload_n e_PS_stands_27 rfl ?_
    refine g_callV (rv := rvU) (As := [rf (kG X) 2, .int v1]) (st := []) e_PS_stands_28 mv_PS_106 my_Spot_find (by decide) rfl rfl kq_4 (hz.lt kq_4) rfl (Nat.le_of_ble_eq_true rfl) rfl (fun r M1 h => c_Spot_find hz kq_4 kq_2 h) (fun r6 M5 h7 => ?_)
    refine g_iload_n e_PS_stands_31 rfl ?_
    refine g_ite (fun c8 => ?_) (fun c8 => ?_)
    · refine g_tswI e_PS_stands_32.1 (0 : Int32) c8 (off := 44) (tgt := 76) (by decide) ?_
      refine g_aload e_PS_stands_76 rfl ?_
      refine g_getI e_PS_stands_78 fl_PS_111 kq_4 (hz.lt kq_4) fj_5_0 ?_
      exact g_iret e_PS_stands_81 rfl
    refine g_ite (fun c9 => ?_) (fun c9 => ?_)
    · refine g_tswI e_PS_stands_32.1 (1 : Int32) c9 (off := 50) (tgt := 82) (by decide) ?_
      refine g_aload e_PS_stands_82 rfl ?_
      refine g_getI e_PS_stands_84 fl_PS_114 kq_4 (hz.lt kq_4) fj_5_2 ?_
      exact g_iret e_PS_stands_87 rfl
    refine g_ite (fun c10 => ?_) (fun c10 => ?_)
    · refine g_tswI e_PS_stands_32.1 (2 : Int32) c10 (off := 56) (tgt := 88) (by decide) ?_
      refine g_aload e_PS_stands_88 rfl ?_
      refine g_getI e_PS_stands_90 fl_PS_117 kq_4 (hz.lt kq_4) fj_5_3 ?_
      exact g_iret e_PS_stands_93 rfl
    refine g_ite (fun c11 => ?_) (fun c11 => ?_)
    · refine g_tswI e_PS_stands_32.1 (3 : Int32) c11 (off := 62) (tgt := 94) (by decide) ?_
      refine g_aload e_PS_stands_94 rfl ?_
      refine g_getI e_PS_stands_96 fl_PS_118 kq_4 (hz.lt kq_4) fj_5_4 ?_
      exact g_iret e_PS_stands_99 rfl
    refine g_ite (fun c12 => ?_) (fun c12 => ?_)
    · refine g_tswI e_PS_stands_32.1 (4 : Int32) c12 (off := 68) (tgt := 100) (by decide) ?_
      refine g_aload e_PS_stands_100 rfl ?_
      refine g_getI e_PS_stands_102 fl_PS_119 kq_4 (hz.lt kq_4) fj_5_5 ?_
      exact g_iret e_PS_stands_105 rfl
    refine g_ite (fun c13 => ?_) (fun c13 => ?_)
    · refine g_tswI e_PS_stands_32.1 (5 : Int32) c13 (off := 74) (tgt := 106) (by decide) ?_
      refine g_aload e_PS_stands_106 rfl ?_
      refine g_callV (rv := rvI) (As := []) (st := []) e_PS_stands_108 mv_PS_120 my_Spot_cell (by decide) rfl rfl kq_4 (hz.lt kq_4) rfl (Nat.le_of_ble_eq_true rfl) rfl (fun r M1 h => c_Spot_cell hz kq_4 h) (fun r15 M14 h16 => ?_)
      exact g_iret e_PS_stands_111 rfl
    refine g_ite (fun c17 => ?_) (fun c17 => ?_)
    · refine g_tswI e_PS_stands_32.1 (6 : Int32) c17 (off := 80) (tgt := 112) (by decide) ?_
      refine g_aload_n e_PS_stands_112 rfl ?_
      refine g_aload e_PS_stands_113 rfl ?_
      refine g_getI e_PS_stands_115 fl_PS_111 kq_4 (hz.lt kq_4) fj_5_0 ?_
      refine g_aload e_PS_stands_118 rfl ?_
      refine g_getI e_PS_stands_120 fl_PS_123 kq_4 (hz.lt kq_4) fj_5_1 ?_
      refine g_iconst (x := (1 : Int32)) e_PS_stands_123 (by decide) ?_
      refine g_ixor e_PS_stands_124 ?_
      refine g_callV (rv := rvI) (As := [.int (M5.1 4 0), .int ((M5.1 4 1) ^^^ (1 : Int32))]) (st := []) e_PS_stands_125 mv_PS_126 my_Job_pageInRun (by decide) rfl rfl kq_2 (hz.lt kq_2) rfl (Nat.le_of_ble_eq_true rfl) rfl (fun r M1 h => c_Job_pageInRun hz kq_2 h) (fun r19 M18 h20 => ?_)
      exact g_iret e_PS_stands_128 rfl
    refine g_hav (pq := 129) (lsq := [some (rf (kG X) 0), some (.int v1), some (.int v2), some (rf (kG X) 2), some (rf (kG X) 4)]) (stq := []) ?_ (fun hq => ?_)
    · refine g_iconst (x := (-1 : Int32)) e_PS_stands_129 (by decide) ?_
      exact g_iret e_PS_stands_130 rfl
    · refine g_tswO e_PS_stands_32.1 (tgt := 129) (by decide) (sw_out (fun q h1 h2 => ?_)) hq
      rcases (show q = 0 ∨ q = 1 ∨ q = 2 ∨ q = 3 ∨ q = 4 ∨ q = 5 ∨ q = 6 by omega) with rfl | rfl | rfl | rfl | rfl | rfl | rfl
      · exact c8
      · exact c9
      · exact c10
      · exact c11
      · exact c12
      · exact c13
      · exact c17
  · refine g_iconst (x := (-1 : Int32)) e_PS_stands_16 (by decide) ?_
    exact g_iret e_PS_stands_17 rfl
set_option maxHeartbeats 4000000 in
set_option maxRecDepth 20000 in
theorem c_PS_stands {l : Launch} {G : KG} {Z : ZZ} {v1 : Int32} {v2 : Int32} {M M' : Mm} {r : Int32} (hz : FU Z) (h : f_PS_stands v1 v2 M = some (r, M')) : CT l G y_PS_stands md_PS_stands 0 0 [rf G 0, .int v1, .int v2] Z.2.2.1 Z.2.2.2 M (rvI r) Z.2.2.1 Z.2.2.2 M' :=
  CT.of (Z := (0, 0, Z.2.2.1, Z.2.2.2)) (Z' := (0, 0, Z.2.2.1, Z.2.2.2)) 2 (by decide) rfl ⟨rfl, rfl⟩ (by show 3 ≤ 5; decide) rfl h (fun X _ hG => by subst hG; exact t_PS_stands hz)
set_option maxHeartbeats 4000000 in
set_option maxRecDepth 20000 in
theorem t_PS_page {X : KX} {Z : ZZ} {v1 : Int32} {v2 : Int32} {v3 : Int32} {M : Mm} (hz : FU Z) : GO X md_PS_page (QE X rvI Z) 0 [some (rf (kG X) 0), some (.int v1), some (.int v2), some (.int v3), none] [] Z M (f_PS_page v1 v2 v3 M) := by
  unfold f_PS_page
  refine g_aload_n e_PS_page_0 rfl ?_
  refine g_getRZ (kz := 1) e_PS_page_1 fl_PS_12 hz kq_0 (by decide) fj_9_0 rfl ?_
  refine g_getRZ (kz := 2) e_PS_page_4 fl_PS_50 hz kq_1 (by decide) fj_6_0 rfl ?_
  refine g_astore e_PS_page_7 (by decide) rfl ?_
  refine g_aload e_PS_page_9 rfl ?_
  refine g_iload_n e_PS_page_11 rfl ?_
  refine g_iload_n e_PS_page_12 rfl ?_
  refine g_iload_n e_PS_page_13 rfl ?_
  refine g_callV (rv := rvI) (As := [.int v1, .int v2, .int v3]) (st := []) e_PS_page_14 mv_PS_129 my_Job_hasCell (by decide) rfl rfl kq_2 (hz.lt kq_2) rfl (Nat.le_of_ble_eq_true rfl) rfl (fun r M1 h => c_Job_hasCell hz kq_2 h) (fun r2 M1 h3 => ?_)
  refine g_if_eq e_PS_page_17 (fun c4 => ?_) (fun c4 => ?_)
  · refine g_iconst (x := (-1 : Int32)) e_PS_page_38 (by decide) ?_
    exact g_iret e_PS_page_39 rfl
  · refine g_aload e_PS_page_20 rfl ?_
    refine g_iload_n e_PS_page_22 rfl ?_
    refine g_bipush (x := (10 : Int32)) e_PS_page_23 (by decide) ?_
    refine g_idiv e_PS_page_25 (by decide) ?_
    refine g_iload_n e_PS_page_26 rfl ?_
    refine g_bipush (x := (10 : Int32)) e_PS_page_27 (by decide) ?_
    refine g_irem e_PS_page_29 (by decide) ?_
    refine g_iload_n e_PS_page_30 rfl ?_
    refine g_iload_n e_PS_page_31 rfl ?_
    refine g_callV (rv := rvI) (As := [.int (v1 / (10 : Int32)), .int (v1 % (10 : Int32)), .int v2, .int v3]) (st := []) e_PS_page_32 mv_PS_133 my_Job_pageSeen (by decide) rfl rfl kq_2 (hz.lt kq_2) rfl (Nat.le_of_ble_eq_true rfl) rfl (fun r M1 h => c_Job_pageSeen hz kq_2 h) (fun r6 M5 h7 => ?_)
    refine g_goto e_PS_page_35 ?_
    exact g_iret e_PS_page_39 rfl
set_option maxHeartbeats 4000000 in
set_option maxRecDepth 20000 in
theorem c_PS_page {l : Launch} {G : KG} {Z : ZZ} {v1 : Int32} {v2 : Int32} {v3 : Int32} {M M' : Mm} {r : Int32} (hz : FU Z) (h : f_PS_page v1 v2 v3 M = some (r, M')) : CT l G y_PS_page md_PS_page 0 0 [rf G 0, .int v1, .int v2, .int v3] Z.2.2.1 Z.2.2.2 M (rvI r) Z.2.2.1 Z.2.2.2 M' :=
  CT.of (Z := (0, 0, Z.2.2.1, Z.2.2.2)) (Z' := (0, 0, Z.2.2.1, Z.2.2.2)) 1 (by decide) rfl ⟨rfl, rfl⟩ (by show 4 ≤ 5; decide) rfl h (fun X _ hG => by subst hG; exact t_PS_page hz)
set_option maxHeartbeats 4000000 in
set_option maxRecDepth 20000 in
theorem t_PS_turned_106 {X : KX} {Z : ZZ} (hz : FU Z) : ∀ (v1 : Int32) (v2 : Int32) (v3 : Int32) (M : Mm), GO X md_PS_turned (QE X rvI Z) 106 [some (rf (kG X) 0), some (.int v1), some (.int v2), some (.int v3), none, none] [] Z M (f_PS_turned_106 v1 v2 v3 M) := by
  intro v1 v2 v3 M
  unfold f_PS_turned_106
  refine g_aload_n e_PS_turned_106 rfl ?_
  refine g_bipush (x := (10 : Int32)) e_PS_turned_107 (by decide) ?_
  refine g_iload_n e_PS_turned_109 rfl ?_
  refine g_imul e_PS_turned_110 ?_
  refine g_iconst (x := (0 : Int32)) e_PS_turned_111 (by decide) ?_
  refine g_iadd e_PS_turned_112 ?_
  refine g_iload_n e_PS_turned_113 rfl ?_
  refine g_iload_n e_PS_turned_114 rfl ?_
  refine g_callV (rv := rvI) (As := [.int (((10 : Int32) * v1) + (0 : Int32)), .int v2, .int v3]) (st := []) e_PS_turned_115 mv_PS_140 my_PS_page (by decide) rfl rfl kq_0 (hz.lt kq_0) rfl (Nat.le_of_ble_eq_true rfl) rfl (fun r M1 h => c_PS_page hz  h) (fun r11 M10 h12 => ?_)
  exact g_iret e_PS_turned_118 rfl
set_option maxHeartbeats 4000000 in
set_option maxRecDepth 20000 in
theorem t_PS_turned_73 {X : KX} {Z : ZZ} (hz : FU Z) : ∀ (v1 : Int32) (v2 : Int32) (v3 : Int32) (v5 : Int32) (M : Mm), GO X md_PS_turned (QE X rvI Z) 73 [some (rf (kG X) 0), some (.int v1), some (.int v2), some (.int v3), some (rf (kG X) 2), some (.int v5)] [] Z M (f_PS_turned_73 v1 v2 v3 v5 M) := by
  intro v1 v2 v3 v5 M
  unfold f_PS_turned_73
  refine g_iload e_PS_turned_73 rfl ?_
  refine g_if_ne e_PS_turned_75 (fun c9 => ?_) (fun c9 => ?_)
  · exact g_wq (t_PS_turned_106 hz v1 v2 v3 M) ⟨rfl, rfl, rfl, rfl, trivial⟩
  · refine g_iload_n e_PS_turned_78 rfl ?_
    refine g_aload e_PS_turned_79 rfl ?_
    refine g_getI e_PS_turned_81 fl_PS_60 kq_2 (hz.lt kq_2) fj_0_2 ?_
    refine g_icmp_lt e_PS_turned_84 (fun c13 => ?_) (fun c13 => ?_)
    · exact g_wq (t_PS_turned_106 hz v1 v2 v3 M) ⟨rfl, rfl, rfl, rfl, trivial⟩
    · refine g_aload_n e_PS_turned_87 rfl ?_
      refine g_bipush (x := (10 : Int32)) e_PS_turned_88 (by decide) ?_
      refine g_iload_n e_PS_turned_90 rfl ?_
      refine g_imul e_PS_turned_91 ?_
      refine g_iconst (x := (1 : Int32)) e_PS_turned_92 (by decide) ?_
      refine g_iadd e_PS_turned_93 ?_
      refine g_iload_n e_PS_turned_94 rfl ?_
      refine g_iload_n e_PS_turned_95 rfl ?_
      refine g_aload e_PS_turned_96 rfl ?_
      refine g_getI e_PS_turned_98 fl_PS_60 kq_2 (hz.lt kq_2) fj_0_2 ?_
      refine g_isub e_PS_turned_101 ?_
      refine g_callV (rv := rvI) (As := [.int (((10 : Int32) * v1) + (1 : Int32)), .int v2, .int (v3 - (M.1 2 2))]) (st := []) e_PS_turned_102 mv_PS_140 my_PS_page (by decide) rfl rfl kq_0 (hz.lt kq_0) rfl (Nat.le_of_ble_eq_true rfl) rfl (fun r M1 h => c_PS_page hz  h) (fun r15 M14 h16 => ?_)
      exact g_iret e_PS_turned_105 rfl
set_option maxHeartbeats 4000000 in
set_option maxRecDepth 20000 in
theorem t_PS_turned {X : KX} {Z : ZZ} {v1 : Int32} {v2 : Int32} {v3 : Int32} {M : Mm} (hz : FU Z) : GO X md_PS_turned (QE X rvI Z) 0 [some (rf (kG X) 0), some (.int v1), some (.int v2), some (.int v3), none, none] [] Z M (f_PS_turned v1 v2 v3 M) := by
  unfold f_PS_turned
  refine g_aload_n e_PS_turned_0 rfl ?_
  refine g_getRZ (kz := 1) e_PS_turned_1 fl_PS_12 hz kq_0 (by decide) fj_9_0 rfl ?_
  refine g_getRZ (kz := 2) e_PS_turned_4 fl_PS_50 hz kq_1 (by decide) fj_6_0 rfl ?_
  refine g_astore e_PS_turned_7 (by decide) rfl ?_
  refine g_iload_n e_PS_turned_9 rfl ?_
  refine g_if_lt e_PS_turned_10 (fun c1 => ?_) (fun c1 => ?_)
  · refine g_iconst (x := (-1 : Int32)) e_PS_turned_22 (by decide) ?_
    exact g_iret e_PS_turned_23 rfl
  · refine g_iload_n e_PS_turned_13 rfl ?_
    refine g_aload e_PS_turned_14 rfl ?_
    refine g_callV (rv := rvI) (As := []) (st := [.int v1]) e_PS_turned_16 mv_PS_67 my_Job_sheets (by decide) rfl rfl kq_2 (hz.lt kq_2) rfl (Nat.le_of_ble_eq_true rfl) rfl (fun r M1 h => c_Job_sheets hz kq_2 h) (fun r3 M2 h4 => ?_)
    refine g_icmp_lt e_PS_turned_19 (fun c5 => ?_) (fun c5 => ?_)
    · refine g_aload e_PS_turned_24 rfl ?_
      refine g_getI e_PS_turned_26 fl_PS_137 kq_2 (hz.lt kq_2) fj_0_6 ?_
      refine g_iconst (x := (1 : Int32)) e_PS_turned_29 (by decide) ?_
      refine g_phi1 38 (fun x7 => [some (rf (kG X) 0), some (.int v1), some (.int v2), some (.int v3), some (rf (kG X) 2), none]) (fun x7 => [.int x7]) (fun x7 => ?_) (fun hj21 => ?_)
      · show GO X _ _ 38 [some (rf (kG X) 0), some (.int v1), some (.int v2), some (.int v3), some (rf (kG X) 2), none] [.int x7] Z M2 _
        refine g_istore e_PS_turned_38 (by decide) rfl ?_
        refine g_iload e_PS_turned_40 rfl ?_
        refine g_if_eq e_PS_turned_42 (fun c8 => ?_) (fun c8 => ?_)
        · exact g_wq (t_PS_turned_73 hz v1 v2 v3 x7 M2) ⟨rfl, rfl, rfl, rfl, rfl, rfl, trivial⟩
        · refine g_iload_n e_PS_turned_45 rfl ?_
          refine g_aload e_PS_turned_46 rfl ?_
          refine g_getI e_PS_turned_48 fl_PS_64 kq_2 (hz.lt kq_2) fj_0_3 ?_
          refine g_icmp_lt e_PS_turned_51 (fun c17 => ?_) (fun c17 => ?_)
          · exact g_wq (t_PS_turned_73 hz v1 v2 v3 x7 M2) ⟨rfl, rfl, rfl, rfl, rfl, rfl, trivial⟩
          · refine g_aload_n e_PS_turned_54 rfl ?_
            refine g_bipush (x := (10 : Int32)) e_PS_turned_55 (by decide) ?_
            refine g_iload_n e_PS_turned_57 rfl ?_
            refine g_imul e_PS_turned_58 ?_
            refine g_iconst (x := (1 : Int32)) e_PS_turned_59 (by decide) ?_
            refine g_iadd e_PS_turned_60 ?_
            refine g_iload_n e_PS_turned_61 rfl ?_
            refine g_aload e_PS_turned_62 rfl ?_
            refine g_getI e_PS_turned_64 fl_PS_64 kq_2 (hz.lt kq_2) fj_0_3 ?_
            refine g_isub e_PS_turned_67 ?_
            refine g_iload_n e_PS_turned_68 rfl ?_
            refine g_callV (rv := rvI) (As := [.int (((10 : Int32) * v1) + (1 : Int32)), .int (v2 - (M2.1 2 3)), .int v3]) (st := []) e_PS_turned_69 mv_PS_140 my_PS_page (by decide) rfl rfl kq_0 (hz.lt kq_0) rfl (Nat.le_of_ble_eq_true rfl) rfl (fun r M1 h => c_PS_page hz  h) (fun r19 M18 h20 => ?_)
            exact g_iret e_PS_turned_72 rfl
      · refine g_icmp_ne' e_PS_turned_30 (fun c6 => ?_) (fun c6 => ?_)
        · refine g_iconst (x := (0 : Int32)) e_PS_turned_37 (by decide) ?_
          exact (g_pf c6 (g_lt (g_wq (hj21 (0 : Int32)) ⟨rfl, rfl, rfl, rfl, rfl, trivial⟩)))
        · refine g_iconst (x := (1 : Int32)) e_PS_turned_33 (by decide) ?_
          refine g_goto e_PS_turned_34 ?_
          exact (g_pt c6 (g_lt (g_wq (hj21 (1 : Int32)) ⟨rfl, rfl, rfl, rfl, rfl, trivial⟩)))
    · refine g_iconst (x := (-1 : Int32)) e_PS_turned_22 (by decide) ?_
      exact g_iret e_PS_turned_23 rfl
set_option maxHeartbeats 4000000 in
set_option maxRecDepth 20000 in
theorem c_PS_turned {l : Launch} {G : KG} {Z : ZZ} {v1 : Int32} {v2 : Int32} {v3 : Int32} {M M' : Mm} {r : Int32} (hz : FU Z) (h : f_PS_turned v1 v2 v3 M = some (r, M')) : CT l G y_PS_turned md_PS_turned 0 0 [rf G 0, .int v1, .int v2, .int v3] Z.2.2.1 Z.2.2.2 M (rvI r) Z.2.2.1 Z.2.2.2 M' :=
  CT.of (Z := (0, 0, Z.2.2.1, Z.2.2.2)) (Z' := (0, 0, Z.2.2.1, Z.2.2.2)) 2 (by decide) rfl ⟨rfl, rfl⟩ (by show 4 ≤ 6; decide) rfl h (fun X _ hG => by subst hG; exact t_PS_turned hz)
set_option maxHeartbeats 4000000 in
set_option maxRecDepth 20000 in
theorem t_PS_creep {X : KX} {Z : ZZ} {v1 : Int32} {v2 : Int32} {M : Mm} (hz : FU Z) : GO X md_PS_creep (QE X rvI Z) 0 [some (rf (kG X) 0), some (.int v1), some (.int v2), none, none, none, none] [] Z M (f_PS_creep v1 v2 M) := by
  unfold f_PS_creep
  refine g_aload_n e_PS_creep_0 rfl ?_
  refine g_getRZ (kz := 1) e_PS_creep_1 fl_PS_12 hz kq_0 (by decide) fj_9_0 rfl ?_
  refine g_getRZ (kz := 2) e_PS_creep_4 fl_PS_50 hz kq_1 (by decide) fj_6_0 rfl ?_
  refine g_astore_n e_PS_creep_7 (by decide) rfl ?_
  refine g_aload_n e_PS_creep_8 rfl ?_
  refine g_iload_n e_PS_creep_9 rfl ?_
  refine g_callV (rv := rvI) (As := [.int v1]) (st := []) e_PS_creep_10 mv_PS_98 my_Job_hasPlaceOf (by decide) rfl rfl kq_2 (hz.lt kq_2) rfl (Nat.le_of_ble_eq_true rfl) rfl (fun r M1 h => c_Job_hasPlaceOf hz kq_2 h) (fun r2 M1 h3 => ?_)
  refine g_if_eq e_PS_creep_13 (fun c4 => ?_) (fun c4 => ?_)
  · refine g_iconst (x := (-1 : Int32)) e_PS_creep_25 (by decide) ?_
    exact g_iret e_PS_creep_26 rfl
  · refine g_iload_n e_PS_creep_16 rfl ?_
    refine g_if_lt e_PS_creep_17 (fun c5 => ?_) (fun c5 => ?_)
    · refine g_iconst (x := (-1 : Int32)) e_PS_creep_25 (by decide) ?_
      exact g_iret e_PS_creep_26 rfl
    · refine g_iload_n e_PS_creep_20 rfl ?_
      refine g_iconst (x := (1 : Int32)) e_PS_creep_21 (by decide) ?_
      refine g_icmp_le e_PS_creep_22 (fun c6 => ?_) (fun c6 => ?_)
      · refine g_aload_n e_PS_creep_27 rfl ?_
        refine g_iload_n e_PS_creep_28 rfl ?_
        refine g_callV (rv := rvI) (As := [.int v1]) (st := []) e_PS_creep_29 mv_PS_144 my_Job_creepOf (by decide) rfl rfl kq_2 (hz.lt kq_2) rfl (Nat.le_of_ble_eq_true rfl) rfl (fun r M1 h => c_Job_creepOf hz kq_2 h) (fun r8 M7 h9 => ?_)
        refine g_istore e_PS_creep_32 (by decide) rfl ?_
        refine g_iload_n e_PS_creep_34 rfl ?_
        refine g_if_ne e_PS_creep_35 (fun c10 => ?_) (fun c10 => ?_)
        · refine g_iload e_PS_creep_41 rfl ?_
          refine g_i2l e_PS_creep_43 ?_
          refine g_aload_n e_PS_creep_44 rfl ?_
          refine g_getI e_PS_creep_45 fl_PS_147 kq_2 (hz.lt kq_2) fj_0_8 ?_
          refine g_i2l e_PS_creep_48 ?_
          refine g_lmul e_PS_creep_49 ?_
          refine g_lstoreL e_PS_creep_50 (by decide) rfl (fun u11 => ?_)
          refine g_lload e_PS_creep_52 rfl ?_
          refine g_lload e_PS_creep_54 rfl ?_
          refine g_l2i e_PS_creep_56 ?_
          refine g_i2l e_PS_creep_57 ?_
          refine g_lcmp e_PS_creep_58 ?_
          refine g_phi1 70 (fun x13 => [none, none, none, none, none, none, none]) (fun x13 => [.int x13]) (fun x13 => ?_) (fun hj14 => ?_)
          · show GO X _ _ 70 [none, none, none, none, none, none, none] [.int x13] Z M7 _
            exact g_iret e_PS_creep_70 rfl
          · refine g_if_ne' e_PS_creep_59 (fun c12 => ?_) (fun c12 => ?_)
            · refine g_bipush (x := (-15 : Int32)) e_PS_creep_68 (by decide) ?_
              exact (g_pf c12 (g_lt (g_wq (hj14 (-15 : Int32)) trivial)))
            · refine g_lload e_PS_creep_62 rfl ?_
              refine g_l2i e_PS_creep_64 ?_
              refine g_goto e_PS_creep_65 ?_
              exact (g_pt c12 (g_lt (g_wq (hj14 (Int64.toInt32 u11)) trivial)))
        · refine g_iload e_PS_creep_38 rfl ?_
          exact g_iret e_PS_creep_40 rfl
      · refine g_iconst (x := (-1 : Int32)) e_PS_creep_25 (by decide) ?_
        exact g_iret e_PS_creep_26 rfl
set_option maxHeartbeats 4000000 in
set_option maxRecDepth 20000 in
theorem c_PS_creep {l : Launch} {G : KG} {Z : ZZ} {v1 : Int32} {v2 : Int32} {M M' : Mm} {r : Int32} (hz : FU Z) (h : f_PS_creep v1 v2 M = some (r, M')) : CT l G y_PS_creep md_PS_creep 0 0 [rf G 0, .int v1, .int v2] Z.2.2.1 Z.2.2.2 M (rvI r) Z.2.2.1 Z.2.2.2 M' :=
  CT.of (Z := (0, 0, Z.2.2.1, Z.2.2.2)) (Z' := (0, 0, Z.2.2.1, Z.2.2.2)) 4 (by decide) rfl ⟨rfl, rfl⟩ (by show 3 ≤ 7; decide) rfl h (fun X _ hG => by subst hG; exact t_PS_creep hz)
set_option maxHeartbeats 4000000 in
set_option maxRecDepth 20000 in
theorem t_PS_commonDivisor_2 {X : KX} {Z : ZZ} (hz : FU Z) : ∀ (n : Nat) (v0 : Int32) (v1 : Int32) (v2 : Int32) (M : Mm), GO X md_PS_commonDivisor (QE X rvI Z) 2 [some (.int v0), some (.int v1), some (.int v2), none] [] Z M (f_PS_commonDivisor_2 n v0 v1 v2 M) := by
  intro n
  induction n with
  | zero =>
    intro v0 v1 v2 M
    exact g_none
  | succ n ih =>
    intro v0 v1 v2 M
    rw [f_PS_commonDivisor_2_s]
    refine g_iload_n e_PS_commonDivisor_2 rfl ?_
    refine g_bipush (x := (100 : Int32)) e_PS_commonDivisor_3 (by decide) ?_
    refine g_icmp_ge e_PS_commonDivisor_5 (fun c1 => ?_) (fun c1 => ?_)
    · refine g_iload_n e_PS_commonDivisor_26 rfl ?_
      exact g_iret e_PS_commonDivisor_27 rfl
    · refine g_iload_n e_PS_commonDivisor_8 rfl ?_
      refine g_if_eq e_PS_commonDivisor_9 (fun c2 => ?_) (fun c2 => ?_)
      · refine g_iload_n e_PS_commonDivisor_26 rfl ?_
        exact g_iret e_PS_commonDivisor_27 rfl
      · refine g_iload_n e_PS_commonDivisor_12 rfl ?_
        refine g_iload_n e_PS_commonDivisor_13 rfl ?_
        refine g_iremG e_PS_commonDivisor_14 ?_
        refine g_istoreL_n e_PS_commonDivisor_15 (by decide) rfl (fun x3 => ?_)
        refine g_iload_n e_PS_commonDivisor_16 rfl ?_
        refine g_istore_n e_PS_commonDivisor_17 (by decide) rfl ?_
        refine g_iload_n e_PS_commonDivisor_18 rfl ?_
        refine g_istore_n e_PS_commonDivisor_19 (by decide) rfl ?_
        refine g_iincL (c := (1 : Int32)) e_PS_commonDivisor_20 rfl (by decide) (by decide) rfl (fun x4 => ?_)
        refine g_goto e_PS_commonDivisor_23 ?_
        exact g_wq (ih v1 x3 x4 M) ⟨rfl, rfl, rfl, trivial⟩
set_option maxHeartbeats 4000000 in
set_option maxRecDepth 20000 in
theorem t_PS_commonDivisor {X : KX} {Z : ZZ} {v0 : Int32} {v1 : Int32} {M : Mm} (hz : FU Z) : GO X md_PS_commonDivisor (QE X rvI Z) 0 [some (.int v0), some (.int v1), none, none] [] Z M (f_PS_commonDivisor v0 v1 M) := by
  unfold f_PS_commonDivisor
  refine g_iconst (x := (0 : Int32)) e_PS_commonDivisor_0 (by decide) ?_
  refine g_istore_n e_PS_commonDivisor_1 (by decide) rfl ?_
  exact g_wq (t_PS_commonDivisor_2 hz fuel v0 v1 (0 : Int32) M) ⟨rfl, rfl, rfl, trivial⟩
set_option maxHeartbeats 4000000 in
set_option maxRecDepth 20000 in
theorem c_PS_commonDivisor {l : Launch} {G : KG} {Z : ZZ} {v0 : Int32} {v1 : Int32} {M M' : Mm} {r : Int32} (hz : FU Z) (h : f_PS_commonDivisor v0 v1 M = some (r, M')) : CT l G y_PS_commonDivisor md_PS_commonDivisor 0 0 [.int v0, .int v1] Z.2.2.1 Z.2.2.2 M (rvI r) Z.2.2.1 Z.2.2.2 M' :=
  CT.of (Z := (0, 0, Z.2.2.1, Z.2.2.2)) (Z' := (0, 0, Z.2.2.1, Z.2.2.2)) 2 (by decide) rfl ⟨rfl, rfl⟩ (by show 2 ≤ 4; decide) rfl h (fun X _ hG => by subst hG; exact t_PS_commonDivisor hz)
set_option maxHeartbeats 4000000 in
set_option maxRecDepth 20000 in
theorem t_PS_share {X : KX} {Z : ZZ} {v1 : Int32} {v2 : Int32} {M : Mm} (hz : FU Z) : GO X md_PS_share (QE X rvJ Z) 0 [some (rf (kG X) 0), some (.int v1), some (.int v2), none, none, none, none] [] Z M (f_PS_share v1 v2 M) := by
  unfold f_PS_share
  refine g_aload_n e_PS_share_0 rfl ?_
  refine g_getRZ (kz := 1) e_PS_share_1 fl_PS_12 hz kq_0 (by decide) fj_9_0 rfl ?_
  refine g_getRZ (kz := 2) e_PS_share_4 fl_PS_50 hz kq_1 (by decide) fj_6_0 rfl ?_
  refine g_astore_n e_PS_share_7 (by decide) rfl ?_
  refine g_aload_n e_PS_share_8 rfl ?_
  refine g_iload_n e_PS_share_9 rfl ?_
  refine g_callV (rv := rvI) (As := [.int v1]) (st := []) e_PS_share_10 mv_PS_98 my_Job_hasPlaceOf (by decide) rfl rfl kq_2 (hz.lt kq_2) rfl (Nat.le_of_ble_eq_true rfl) rfl (fun r M1 h => c_Job_hasPlaceOf hz kq_2 h) (fun r2 M1 h3 => ?_)
  refine g_if_eq e_PS_share_13 (fun c4 => ?_) (fun c4 => ?_)
  · refine g_ldc2 (u := (-9223372036854775808 : Int64)) e_PS_share_25 w_510 ?_
    exact g_lret e_PS_share_28 rfl
  · refine g_iload_n e_PS_share_16 rfl ?_
    refine g_if_lt e_PS_share_17 (fun c5 => ?_) (fun c5 => ?_)
    · refine g_ldc2 (u := (-9223372036854775808 : Int64)) e_PS_share_25 w_510 ?_
      exact g_lret e_PS_share_28 rfl
    · refine g_iload_n e_PS_share_20 rfl ?_
      refine g_iconst (x := (1 : Int32)) e_PS_share_21 (by decide) ?_
      refine g_icmp_le e_PS_share_22 (fun c6 => ?_) (fun c6 => ?_)
      · refine g_aload_n e_PS_share_29 rfl ?_
        refine g_callV (rv := rvI) (As := []) (st := []) e_PS_share_30 mv_PS_152 my_Job_greatestCreep (by decide) rfl rfl kq_2 (hz.lt kq_2) rfl (Nat.le_of_ble_eq_true rfl) rfl (fun r M1 h => c_Job_greatestCreep hz kq_2 h) (fun r8 M7 h9 => ?_)
        refine g_istore e_PS_share_33 (by decide) rfl ?_
        refine g_iload e_PS_share_35 rfl ?_
        refine g_if_ne e_PS_share_37 (fun c10 => ?_) (fun c10 => ?_)
        · refine g_aload_n e_PS_share_43 rfl ?_
          refine g_iload_n e_PS_share_44 rfl ?_
          refine g_callV (rv := rvI) (As := [.int v1]) (st := []) e_PS_share_45 mv_PS_144 my_Job_creepOf (by decide) rfl rfl kq_2 (hz.lt kq_2) rfl (Nat.le_of_ble_eq_true rfl) rfl (fun r M1 h => c_Job_creepOf hz kq_2 h) (fun r12 M11 h13 => ?_)
          refine g_istore e_PS_share_48 (by decide) rfl ?_
          refine g_iload e_PS_share_50 rfl ?_
          refine g_iload e_PS_share_52 rfl ?_
          refine g_callS (rv := rvI) (As := [.int r8, .int r12]) (st := []) e_PS_share_54 ms_PS_155 my_PS_commonDivisor (by decide) rfl rfl (Nat.le_of_ble_eq_true rfl) (fun r M1 h => c_PS_commonDivisor hz  h) (fun r15 M14 h16 => ?_)
          refine g_istore e_PS_share_57 (by decide) rfl ?_
          refine g_iload e_PS_share_59 rfl ?_
          refine g_if_ne e_PS_share_61 (fun c17 => ?_) (fun c17 => ?_)
          · refine g_iload_n e_PS_share_68 rfl ?_
            refine g_phi1 79 (fun x19 => [none, none, none, none, none, none, some (.int r15)]) (fun x19 => [.int x19]) (fun x19 => ?_) (fun hj20 => ?_)
            · show GO X _ _ 79 [none, none, none, none, none, none, some (.int r15)] [.int x19] Z M14 _
              refine g_iload e_PS_share_79 rfl ?_
              refine g_idivG e_PS_share_81 ?_
              refine g_i2l e_PS_share_82 ?_
              exact g_lret e_PS_share_83 rfl
            · refine g_if_ne' e_PS_share_69 (fun c18 => ?_) (fun c18 => ?_)
              · refine g_iload e_PS_share_77 rfl ?_
                exact (g_pf c18 (g_lt (g_wq (hj20 r8) ⟨rfl, trivial⟩)))
              · refine g_iload e_PS_share_72 rfl ?_
                refine g_goto e_PS_share_74 ?_
                exact (g_pt c18 (g_lt (g_wq (hj20 r12) ⟨rfl, trivial⟩)))
          · refine g_ldc2 (u := (-9223372036854775808 : Int64)) e_PS_share_64 w_510 ?_
            exact g_lret e_PS_share_67 rfl
        · refine g_iload_n e_PS_share_40 rfl ?_
          refine g_i2l e_PS_share_41 ?_
          exact g_lret e_PS_share_42 rfl
      · refine g_ldc2 (u := (-9223372036854775808 : Int64)) e_PS_share_25 w_510 ?_
        exact g_lret e_PS_share_28 rfl
set_option maxHeartbeats 4000000 in
set_option maxRecDepth 20000 in
theorem c_PS_share {l : Launch} {G : KG} {Z : ZZ} {v1 : Int32} {v2 : Int32} {M M' : Mm} {r : Int64} (hz : FU Z) (h : f_PS_share v1 v2 M = some (r, M')) : CT l G y_PS_share md_PS_share 0 0 [rf G 0, .int v1, .int v2] Z.2.2.1 Z.2.2.2 M (rvJ r) Z.2.2.1 Z.2.2.2 M' :=
  CT.of (Z := (0, 0, Z.2.2.1, Z.2.2.2)) (Z' := (0, 0, Z.2.2.1, Z.2.2.2)) 4 (by decide) rfl ⟨rfl, rfl⟩ (by show 3 ≤ 7; decide) rfl h (fun X _ hG => by subst hG; exact t_PS_share hz)
set_option maxHeartbeats 4000000 in
set_option maxRecDepth 20000 in
theorem t_PS_waits {X : KX} {Z : ZZ} {v1 : Int32} {M : Mm} (hz : FU Z) : GO X md_PS_waits (QE X rvI Z) 0 [some (rf (kG X) 0), some (.int v1)] [] Z M (f_PS_waits v1 M) := by
  unfold f_PS_waits
  refine g_aload_n e_PS_waits_0 rfl ?_
  refine g_getRZ (kz := 1) e_PS_waits_1 fl_PS_12 hz kq_0 (by decide) fj_9_0 rfl ?_
  refine g_iload_n e_PS_waits_4 rfl ?_
  refine g_callV (rv := rvI) (As := [.int v1]) (st := []) e_PS_waits_5 mv_PS_158 my_State_queue (by decide) rfl rfl kq_1 (hz.lt kq_1) rfl (Nat.le_of_ble_eq_true rfl) rfl (fun r M1 h => c_State_queue hz kq_1 h) (fun r2 M1 h3 => ?_)
  exact g_iret e_PS_waits_8 rfl
set_option maxHeartbeats 4000000 in
set_option maxRecDepth 20000 in
theorem c_PS_waits {l : Launch} {G : KG} {Z : ZZ} {v1 : Int32} {M M' : Mm} {r : Int32} (hz : FU Z) (h : f_PS_waits v1 M = some (r, M')) : CT l G y_PS_waits md_PS_waits 0 0 [rf G 0, .int v1] Z.2.2.1 Z.2.2.2 M (rvI r) Z.2.2.1 Z.2.2.2 M' :=
  CT.of (Z := (0, 0, Z.2.2.1, Z.2.2.2)) (Z' := (0, 0, Z.2.2.1, Z.2.2.2)) 0 (by decide) rfl ⟨rfl, rfl⟩ (by show 2 ≤ 2; decide) rfl h (fun X _ hG => by subst hG; exact t_PS_waits hz)
set_option maxHeartbeats 4000000 in
set_option maxRecDepth 20000 in
theorem t_PS_press {X : KX} {Z : ZZ} {v1 : Int32} {M : Mm} (hz : FU Z) : GO X md_PS_press (QE X rvI Z) 0 [some (rf (kG X) 0), some (.int v1)] [] Z M (f_PS_press v1 M) := by
  unfold f_PS_press
  refine g_iload_n e_PS_press_0 rfl ?_
  refine g_iconst (x := (1 : Int32)) e_PS_press_1 (by decide) ?_
  refine g_icmp_lt e_PS_press_2 (fun c1 => ?_) (fun c1 => ?_)
  · refine g_bipush (x := (-2 : Int32)) e_PS_press_11 (by decide) ?_
    refine g_goto e_PS_press_13 ?_
    exact g_iret e_PS_press_27 rfl
  · refine g_iload_n e_PS_press_5 rfl ?_
    refine g_bipush (x := (99 : Int32)) e_PS_press_6 (by decide) ?_
    refine g_icmp_le e_PS_press_8 (fun c2 => ?_) (fun c2 => ?_)
    · refine g_aload_n e_PS_press_16 rfl ?_
      refine g_getRZ (kz := 1) e_PS_press_17 fl_PS_12 hz kq_0 (by decide) fj_9_0 rfl ?_
      refine g_getRZ (kz := 5) e_PS_press_20 fl_PS_161 hz kq_1 (by decide) fj_6_1 rfl ?_
      refine g_iload_n e_PS_press_23 rfl ?_
      refine g_callV (rv := rvI) (As := [.int v1]) (st := []) e_PS_press_24 mv_PS_165 my_Press_strokes (by decide) rfl rfl kq_5 (hz.lt kq_5) rfl (Nat.le_of_ble_eq_true rfl) rfl (fun r M1 h => c_Press_strokes hz kq_5 h) (fun r4 M3 h5 => ?_)
      exact g_iret e_PS_press_27 rfl
    · refine g_bipush (x := (-2 : Int32)) e_PS_press_11 (by decide) ?_
      refine g_goto e_PS_press_13 ?_
      exact g_iret e_PS_press_27 rfl
set_option maxHeartbeats 4000000 in
set_option maxRecDepth 20000 in
theorem c_PS_press {l : Launch} {G : KG} {Z : ZZ} {v1 : Int32} {M M' : Mm} {r : Int32} (hz : FU Z) (h : f_PS_press v1 M = some (r, M')) : CT l G y_PS_press md_PS_press 0 0 [rf G 0, .int v1] Z.2.2.1 Z.2.2.2 M (rvI r) Z.2.2.1 Z.2.2.2 M' :=
  CT.of (Z := (0, 0, Z.2.2.1, Z.2.2.2)) (Z' := (0, 0, Z.2.2.1, Z.2.2.2)) 0 (by decide) rfl ⟨rfl, rfl⟩ (by show 2 ≤ 2; decide) rfl h (fun X _ hG => by subst hG; exact t_PS_press hz)
set_option maxHeartbeats 4000000 in
set_option maxRecDepth 20000 in
theorem t_PS_clears {X : KX} {Z : ZZ} {v1 : Int32} {M : Mm} (hz : FU Z) : GO X md_PS_clears (QE X rvI Z) 0 [some (rf (kG X) 0), some (.int v1)] [] Z M (f_PS_clears v1 M) := by
  unfold f_PS_clears
  refine g_iload_n e_PS_clears_0 rfl ?_
  refine g_if_lt e_PS_clears_1 (fun c1 => ?_) (fun c1 => ?_)
  · refine g_iconst (x := (-1 : Int32)) e_PS_clears_18 (by decide) ?_
    exact g_iret e_PS_clears_19 rfl
  · refine g_iload_n e_PS_clears_4 rfl ?_
    refine g_aload_n e_PS_clears_5 rfl ?_
    refine g_getRZ (kz := 1) e_PS_clears_6 fl_PS_12 hz kq_0 (by decide) fj_9_0 rfl ?_
    refine g_getRZ (kz := 2) e_PS_clears_9 fl_PS_50 hz kq_1 (by decide) fj_6_0 rfl ?_
    refine g_callV (rv := rvI) (As := []) (st := [.int v1]) e_PS_clears_12 mv_PS_67 my_Job_sheets (by decide) rfl rfl kq_2 (hz.lt kq_2) rfl (Nat.le_of_ble_eq_true rfl) rfl (fun r M1 h => c_Job_sheets hz kq_2 h) (fun r3 M2 h4 => ?_)
    refine g_icmp_lt e_PS_clears_15 (fun c5 => ?_) (fun c5 => ?_)
    · refine g_aload_n e_PS_clears_20 rfl ?_
      refine g_getRZ (kz := 1) e_PS_clears_21 fl_PS_12 hz kq_0 (by decide) fj_9_0 rfl ?_
      refine g_getRZ (kz := 5) e_PS_clears_24 fl_PS_161 hz kq_1 (by decide) fj_6_1 rfl ?_
      refine g_iload_n e_PS_clears_27 rfl ?_
      refine g_callV (rv := rvI) (As := [.int v1]) (st := []) e_PS_clears_28 mv_PS_170 my_Press_dropSheet (by decide) rfl rfl kq_5 (hz.lt kq_5) rfl (Nat.le_of_ble_eq_true rfl) rfl (fun r M1 h => c_Press_dropSheet hz kq_5 h) (fun r7 M6 h8 => ?_)
      exact g_iret e_PS_clears_31 rfl
    · refine g_iconst (x := (-1 : Int32)) e_PS_clears_18 (by decide) ?_
      exact g_iret e_PS_clears_19 rfl
set_option maxHeartbeats 4000000 in
set_option maxRecDepth 20000 in
theorem c_PS_clears {l : Launch} {G : KG} {Z : ZZ} {v1 : Int32} {M M' : Mm} {r : Int32} (hz : FU Z) (h : f_PS_clears v1 M = some (r, M')) : CT l G y_PS_clears md_PS_clears 0 0 [rf G 0, .int v1] Z.2.2.1 Z.2.2.2 M (rvI r) Z.2.2.1 Z.2.2.2 M' :=
  CT.of (Z := (0, 0, Z.2.2.1, Z.2.2.2)) (Z' := (0, 0, Z.2.2.1, Z.2.2.2)) 0 (by decide) rfl ⟨rfl, rfl⟩ (by show 2 ≤ 2; decide) rfl h (fun X _ hG => by subst hG; exact t_PS_clears hz)
set_option maxHeartbeats 4000000 in
set_option maxRecDepth 20000 in
theorem t_PS_kth {X : KX} {Z : ZZ} {a0 : Nat} {v1 : Int32} {M : Mm} (hz : FU Z) (ha0 : kD a0 = 4) : GO X md_PS_kth (QE X rvI Z) 0 [some (rf (kG X) a0), some (.int v1)] [] Z M (f_PS_kth a0 v1 M) := by
  unfold f_PS_kth
  refine g_iload_n e_PS_kth_0 rfl ?_
  refine g_if_ge e_PS_kth_1 (fun c1 => ?_) (fun c1 => ?_)
  · refine g_aload_n e_PS_kth_6 rfl ?_
    refine g_iload_n e_PS_kth_7 rfl ?_
    refine g_callV (rv := rvI) (As := [.int v1]) (st := []) e_PS_kth_8 mv_PS_213 my_Row_has (by decide) rfl rfl ha0 (hz.lt ha0) rfl (Nat.le_of_ble_eq_true rfl) rfl (fun r M1 h => c_Row_has hz ha0 h) (fun r3 M2 h4 => ?_)
    refine g_if_eq e_PS_kth_11 (fun c5 => ?_) (fun c5 => ?_)
    · refine g_bipush (x := (-5 : Int32)) e_PS_kth_22 (by decide) ?_
      exact g_iret e_PS_kth_24 rfl
    · refine g_aload_n e_PS_kth_14 rfl ?_
      refine g_iload_n e_PS_kth_15 rfl ?_
      refine g_callV (rv := rvI) (As := [.int v1]) (st := []) e_PS_kth_16 mv_PS_216 my_Row_get (by decide) rfl rfl ha0 (hz.lt ha0) rfl (Nat.le_of_ble_eq_true rfl) rfl (fun r M1 h => c_Row_get hz ha0 h) (fun r7 M6 h8 => ?_)
      refine g_goto e_PS_kth_19 ?_
      exact g_iret e_PS_kth_24 rfl
  · refine g_iconst (x := (-1 : Int32)) e_PS_kth_4 (by decide) ?_
    exact g_iret e_PS_kth_5 rfl
set_option maxHeartbeats 4000000 in
set_option maxRecDepth 20000 in
theorem c_PS_kth {l : Launch} {G : KG} {Z : ZZ} {a0 : Nat} {v1 : Int32} {M M' : Mm} {r : Int32} (hz : FU Z) (ha0 : kD a0 = 4) (h : f_PS_kth a0 v1 M = some (r, M')) : CT l G y_PS_kth md_PS_kth 0 0 [rf G a0, .int v1] Z.2.2.1 Z.2.2.2 M (rvI r) Z.2.2.1 Z.2.2.2 M' :=
  CT.of (Z := (0, 0, Z.2.2.1, Z.2.2.2)) (Z' := (0, 0, Z.2.2.1, Z.2.2.2)) 0 (by decide) rfl ⟨rfl, rfl⟩ (by show 2 ≤ 2; decide) rfl h (fun X _ hG => by subst hG; exact t_PS_kth hz ha0)
set_option maxHeartbeats 4000000 in
set_option maxRecDepth 20000 in
theorem t_PS_line {X : KX} {Z : ZZ} {v1 : Int32} {M : Mm} (hz : FU Z) : GO X md_PS_line (QE X rvI Z) 0 [some (rf (kG X) 0), some (.int v1)] [] Z M (f_PS_line v1 M) := by
  unfold f_PS_line
  refine g_aload_n e_PS_line_0 rfl ?_
  refine g_getRZ (kz := 1) e_PS_line_1 fl_PS_12 hz kq_0 (by decide) fj_9_0 rfl ?_
  refine g_getRZ (kz := 5) e_PS_line_4 fl_PS_161 hz kq_1 (by decide) fj_6_1 rfl ?_
  refine g_getRZ (kz := 6) e_PS_line_7 fl_PS_173 hz kq_5 (by decide) fj_3_0 rfl ?_
  refine g_iload_n e_PS_line_10 rfl ?_
  refine g_callS (rv := rvI) (As := [rf (kG X) 6, .int v1]) (st := []) e_PS_line_11 ms_PS_177 my_PS_kth (by decide) rfl rfl (Nat.le_of_ble_eq_true rfl) (fun r M1 h => c_PS_kth hz kq_6 h) (fun r2 M1 h3 => ?_)
  exact g_iret e_PS_line_14 rfl
set_option maxHeartbeats 4000000 in
set_option maxRecDepth 20000 in
theorem c_PS_line {l : Launch} {G : KG} {Z : ZZ} {v1 : Int32} {M M' : Mm} {r : Int32} (hz : FU Z) (h : f_PS_line v1 M = some (r, M')) : CT l G y_PS_line md_PS_line 0 0 [rf G 0, .int v1] Z.2.2.1 Z.2.2.2 M (rvI r) Z.2.2.1 Z.2.2.2 M' :=
  CT.of (Z := (0, 0, Z.2.2.1, Z.2.2.2)) (Z' := (0, 0, Z.2.2.1, Z.2.2.2)) 0 (by decide) rfl ⟨rfl, rfl⟩ (by show 2 ≤ 2; decide) rfl h (fun X _ hG => by subst hG; exact t_PS_line hz)
set_option maxHeartbeats 4000000 in
set_option maxRecDepth 20000 in
theorem t_PS_missing_76 {X : KX} {Z : ZZ} {rec32 : Int32 → Int32 → Int32 → Int32 → Int32 → Mm → Option (Int32 × Mm)} (hz : FU Z) (hr32 : ∀ (v1 : Int32) (v3 : Int32) (v4 : Int32) (v5 : Int32) (v6 : Int32) (M : Mm), GO X md_PS_missing (QE X rvI Z) 32 [some (rf (kG X) 0), some (.int v1), some (rf (kG X) 2), some (.int v3), some (.int v4), some (.int v5), some (.int v6)] [] Z M (rec32 v1 v3 v4 v5 v6 M)) : ∀ (v1 : Int32) (v3 : Int32) (v4 : Int32) (v5 : Int32) (v6 : Int32) (M : Mm), GO X md_PS_missing (QE X rvI Z) 76 [some (rf (kG X) 0), some (.int v1), some (rf (kG X) 2), some (.int v3), some (.int v4), some (.int v5), some (.int v6)] [] Z M (f_PS_missing_76 rec32 v1 v3 v4 v5 v6 M) := by
  intro v1 v3 v4 v5 v6 M
  unfold f_PS_missing_76
  refine g_iincL (c := (1 : Int32)) e_PS_missing_76 rfl (by decide) (by decide) rfl (fun x12 => ?_)
  refine g_goto e_PS_missing_79 ?_
  exact g_wq (hr32 v1 v3 v4 v5 x12 M) ⟨rfl, rfl, rfl, rfl, rfl, rfl, rfl, trivial⟩
set_option maxHeartbeats 4000000 in
set_option maxRecDepth 20000 in
theorem t_PS_missing_32 {X : KX} {Z : ZZ} (hz : FU Z) : ∀ (n : Nat) (v1 : Int32) (v3 : Int32) (v4 : Int32) (v5 : Int32) (v6 : Int32) (M : Mm), GO X md_PS_missing (QE X rvI Z) 32 [some (rf (kG X) 0), some (.int v1), some (rf (kG X) 2), some (.int v3), some (.int v4), some (.int v5), some (.int v6)] [] Z M (f_PS_missing_32 n v1 v3 v4 v5 v6 M) := by
  intro n
  induction n with
  | zero =>
    intro v1 v3 v4 v5 v6 M
    exact g_none
  | succ n ih =>
    intro v1 v3 v4 v5 v6 M
    rw [f_PS_missing_32_s]
    refine g_iload e_PS_missing_32 rfl ?_
    refine g_aload_n e_PS_missing_34 rfl ?_
    refine g_getI e_PS_missing_35 fl_PS_181 kq_2 (hz.lt kq_2) fj_0_4 ?_
    refine g_icmp_gt e_PS_missing_38 (fun c3 => ?_) (fun c3 => ?_)
    · refine g_iload_n e_PS_missing_82 rfl ?_
      refine g_phi1 102 (fun x6 => [none, none, none, none, none, none, none]) (fun x6 => [.int x6]) (fun x6 => ?_) (fun hj7 => ?_)
      · show GO X _ _ 102 [none, none, none, none, none, none, none] [.int x6] Z M _
        exact g_iret e_PS_missing_102 rfl
      · refine g_if_ne' e_PS_missing_83 (fun c4 => ?_) (fun c4 => ?_)
        · refine g_iload_n e_PS_missing_90 rfl ?_
          refine g_iconst (x := (1 : Int32)) e_PS_missing_91 (by decide) ?_
          refine g_icmp_ne' e_PS_missing_92 (fun c5 => ?_) (fun c5 => ?_)
          · refine g_iload e_PS_missing_100 rfl ?_
            exact (g_pf c4 (g_pf c5 (g_lt (g_wq (hj7 v5) trivial))))
          · refine g_iload e_PS_missing_95 rfl ?_
            refine g_goto e_PS_missing_97 ?_
            exact (g_pf c4 (g_pt c5 (g_lt (g_wq (hj7 v4) trivial))))
        · refine g_iload_n e_PS_missing_86 rfl ?_
          refine g_goto e_PS_missing_87 ?_
          exact (g_pt c4 (g_lt (g_wq (hj7 v3) trivial)))
    · refine g_aload_n e_PS_missing_41 rfl ?_
      refine g_getRZ (kz := 1) e_PS_missing_42 fl_PS_12 hz kq_0 (by decide) fj_9_0 rfl ?_
      refine g_iload e_PS_missing_45 rfl ?_
      refine g_callV (rv := rvI) (As := [.int v6]) (st := []) e_PS_missing_47 mv_PS_184 my_State_hasPrinted (by decide) rfl rfl kq_1 (hz.lt kq_1) rfl (Nat.le_of_ble_eq_true rfl) rfl (fun r M1 h => c_State_hasPrinted hz kq_1 h) (fun r9 M8 h10 => ?_)
      refine g_if_ne e_PS_missing_50 (fun c11 => ?_) (fun c11 => ?_)
      · exact g_wq (t_PS_missing_76 hz (ih) v1 v3 v4 v5 v6 M8) ⟨rfl, rfl, rfl, rfl, rfl, rfl, rfl, trivial⟩
      · refine g_iincL (c := (1 : Int32)) e_PS_missing_53 rfl (by decide) (by decide) rfl (fun x13 => ?_)
        refine g_iload e_PS_missing_56 rfl ?_
        refine g_bipush (x := (-5 : Int32)) e_PS_missing_58 (by decide) ?_
        refine g_phi1 70 (fun x15 => [some (rf (kG X) 0), some (.int v1), some (rf (kG X) 2), some (.int x13), none, none, some (.int v6)]) (fun x15 => [.int x15]) (fun x15 => ?_) (fun hj16 => ?_)
        · show GO X _ _ 70 [some (rf (kG X) 0), some (.int v1), some (rf (kG X) 2), some (.int x13), none, none, some (.int v6)] [.int x15] Z M8 _
          refine g_istore e_PS_missing_70 (by decide) rfl ?_
          refine g_iload e_PS_missing_72 rfl ?_
          refine g_istore e_PS_missing_74 (by decide) rfl ?_
          exact g_wq (t_PS_missing_76 hz (ih) v1 x13 x15 v6 v6 M8) ⟨rfl, rfl, rfl, rfl, rfl, rfl, rfl, trivial⟩
        · refine g_icmp_ne' e_PS_missing_60 (fun c14 => ?_) (fun c14 => ?_)
          · refine g_iload e_PS_missing_68 rfl ?_
            exact (g_pf c14 (g_lt (g_wq (hj16 v4) ⟨rfl, rfl, rfl, rfl, rfl, trivial⟩)))
          · refine g_iload e_PS_missing_63 rfl ?_
            refine g_goto e_PS_missing_65 ?_
            exact (g_pt c14 (g_lt (g_wq (hj16 v6) ⟨rfl, rfl, rfl, rfl, rfl, trivial⟩)))
set_option maxHeartbeats 4000000 in
set_option maxRecDepth 20000 in
theorem t_PS_missing {X : KX} {Z : ZZ} {v1 : Int32} {M : Mm} (hz : FU Z) : GO X md_PS_missing (QE X rvI Z) 0 [some (rf (kG X) 0), some (.int v1), none, none, none, none, none] [] Z M (f_PS_missing v1 M) := by
  unfold f_PS_missing
  refine g_iload_n e_PS_missing_0 rfl ?_
  refine g_if_lt e_PS_missing_1 (fun c1 => ?_) (fun c1 => ?_)
  · refine g_iconst (x := (-1 : Int32)) e_PS_missing_9 (by decide) ?_
    exact g_iret e_PS_missing_10 rfl
  · refine g_iload_n e_PS_missing_4 rfl ?_
    refine g_iconst (x := (2 : Int32)) e_PS_missing_5 (by decide) ?_
    refine g_icmp_le e_PS_missing_6 (fun c2 => ?_) (fun c2 => ?_)
    · refine g_aload_n e_PS_missing_11 rfl ?_
      refine g_getRZ (kz := 1) e_PS_missing_12 fl_PS_12 hz kq_0 (by decide) fj_9_0 rfl ?_
      refine g_getRZ (kz := 2) e_PS_missing_15 fl_PS_50 hz kq_1 (by decide) fj_6_0 rfl ?_
      refine g_astore_n e_PS_missing_18 (by decide) rfl ?_
      refine g_iconst (x := (0 : Int32)) e_PS_missing_19 (by decide) ?_
      refine g_istore_n e_PS_missing_20 (by decide) rfl ?_
      refine g_bipush (x := (-5 : Int32)) e_PS_missing_21 (by decide) ?_
      refine g_istore e_PS_missing_23 (by decide) rfl ?_
      refine g_bipush (x := (-5 : Int32)) e_PS_missing_25 (by decide) ?_
      refine g_istore e_PS_missing_27 (by decide) rfl ?_
      refine g_iconst (x := (1 : Int32)) e_PS_missing_29 (by decide) ?_
      refine g_istore e_PS_missing_30 (by decide) rfl ?_
      exact g_wq (t_PS_missing_32 hz fuel v1 (0 : Int32) (-5 : Int32) (-5 : Int32) (1 : Int32) M) ⟨rfl, rfl, rfl, rfl, rfl, rfl, rfl, trivial⟩
    · refine g_iconst (x := (-1 : Int32)) e_PS_missing_9 (by decide) ?_
      exact g_iret e_PS_missing_10 rfl
set_option maxHeartbeats 4000000 in
set_option maxRecDepth 20000 in
theorem c_PS_missing {l : Launch} {G : KG} {Z : ZZ} {v1 : Int32} {M M' : Mm} {r : Int32} (hz : FU Z) (h : f_PS_missing v1 M = some (r, M')) : CT l G y_PS_missing md_PS_missing 0 0 [rf G 0, .int v1] Z.2.2.1 Z.2.2.2 M (rvI r) Z.2.2.1 Z.2.2.2 M' :=
  CT.of (Z := (0, 0, Z.2.2.1, Z.2.2.2)) (Z' := (0, 0, Z.2.2.1, Z.2.2.2)) 5 (by decide) rfl ⟨rfl, rfl⟩ (by show 2 ≤ 7; decide) rfl h (fun X _ hG => by subst hG; exact t_PS_missing hz)
set_option maxHeartbeats 4000000 in
set_option maxRecDepth 20000 in
theorem t_PS_printed {X : KX} {Z : ZZ} {v1 : Int32} {M : Mm} (hz : FU Z) : GO X md_PS_printed (QE X rvI Z) 0 [some (rf (kG X) 0), some (.int v1)] [] Z M (f_PS_printed v1 M) := by
  unfold f_PS_printed
  refine g_aload_n e_PS_printed_0 rfl ?_
  refine g_getRZ (kz := 1) e_PS_printed_1 fl_PS_12 hz kq_0 (by decide) fj_9_0 rfl ?_
  refine g_getRZ (kz := 5) e_PS_printed_4 fl_PS_161 hz kq_1 (by decide) fj_6_1 rfl ?_
  refine g_getRZ (kz := 8) e_PS_printed_7 fl_PS_187 hz kq_5 (by decide) fj_3_1 rfl ?_
  refine g_iload_n e_PS_printed_10 rfl ?_
  refine g_callS (rv := rvI) (As := [rf (kG X) 8, .int v1]) (st := []) e_PS_printed_11 ms_PS_177 my_PS_kth (by decide) rfl rfl (Nat.le_of_ble_eq_true rfl) (fun r M1 h => c_PS_kth hz kq_8 h) (fun r2 M1 h3 => ?_)
  exact g_iret e_PS_printed_14 rfl
set_option maxHeartbeats 4000000 in
set_option maxRecDepth 20000 in
theorem c_PS_printed {l : Launch} {G : KG} {Z : ZZ} {v1 : Int32} {M M' : Mm} {r : Int32} (hz : FU Z) (h : f_PS_printed v1 M = some (r, M')) : CT l G y_PS_printed md_PS_printed 0 0 [rf G 0, .int v1] Z.2.2.1 Z.2.2.2 M (rvI r) Z.2.2.1 Z.2.2.2 M' :=
  CT.of (Z := (0, 0, Z.2.2.1, Z.2.2.2)) (Z' := (0, 0, Z.2.2.1, Z.2.2.2)) 0 (by decide) rfl ⟨rfl, rfl⟩ (by show 2 ≤ 2; decide) rfl h (fun X _ hG => by subst hG; exact t_PS_printed hz)
set_option maxHeartbeats 4000000 in
set_option maxRecDepth 20000 in
theorem t_PS_plan {X : KX} {Z : ZZ} {v1 : Int32} {v2 : Int32} {v3 : Int32} {v4 : Int32} {v5 : Int32} {M : Mm} (hz : FU Z) : GO X md_PS_plan (QE X rvI Z) 0 [some (rf (kG X) 0), some (.int v1), some (.int v2), some (.int v3), some (.int v4), some (.int v5), none, none, none] [] Z M (f_PS_plan v1 v2 v3 v4 v5 M) := by
  unfold f_PS_plan
  refine g_aload_n e_PS_plan_0 rfl ?_
  refine g_getRZ (kz := 1) e_PS_plan_1 fl_PS_12 hz kq_0 (by decide) fj_9_0 rfl ?_
  refine g_getRZ (kz := 2) e_PS_plan_4 fl_PS_50 hz kq_1 (by decide) fj_6_0 rfl ?_
  refine g_astore e_PS_plan_7 (by decide) rfl ?_
  refine g_aload e_PS_plan_9 rfl ?_
  refine g_iload_n e_PS_plan_11 rfl ?_
  refine g_iload_n e_PS_plan_12 rfl ?_
  refine g_iload_n e_PS_plan_13 rfl ?_
  refine g_callV (rv := rvI) (As := [.int v1, .int v2, .int v3]) (st := []) e_PS_plan_14 mv_PS_129 my_Job_hasCell (by decide) rfl rfl kq_2 (hz.lt kq_2) rfl (Nat.le_of_ble_eq_true rfl) rfl (fun r M1 h => c_Job_hasCell hz kq_2 h) (fun r2 M1 h3 => ?_)
  refine g_if_ne e_PS_plan_17 (fun c4 => ?_) (fun c4 => ?_)
  · refine g_iload e_PS_plan_22 rfl ?_
    refine g_iconst (x := (1 : Int32)) e_PS_plan_24 (by decide) ?_
    refine g_icmp_lt e_PS_plan_25 (fun c5 => ?_) (fun c5 => ?_)
    · refine g_bipush (x := (-2 : Int32)) e_PS_plan_49 (by decide) ?_
      exact g_iret e_PS_plan_51 rfl
    · refine g_iload e_PS_plan_28 rfl ?_
      refine g_aload e_PS_plan_30 rfl ?_
      refine g_getI e_PS_plan_32 fl_PS_181 kq_2 (hz.lt kq_2) fj_0_4 ?_
      refine g_icmp_gt e_PS_plan_35 (fun c6 => ?_) (fun c6 => ?_)
      · refine g_bipush (x := (-2 : Int32)) e_PS_plan_49 (by decide) ?_
        exact g_iret e_PS_plan_51 rfl
      · refine g_iload e_PS_plan_38 rfl ?_
        refine g_if_lt e_PS_plan_40 (fun c7 => ?_) (fun c7 => ?_)
        · refine g_bipush (x := (-2 : Int32)) e_PS_plan_49 (by decide) ?_
          exact g_iret e_PS_plan_51 rfl
        · refine g_iload e_PS_plan_43 rfl ?_
          refine g_iconst (x := (1 : Int32)) e_PS_plan_45 (by decide) ?_
          refine g_icmp_le e_PS_plan_46 (fun c8 => ?_) (fun c8 => ?_)
          · refine g_aload_n e_PS_plan_52 rfl ?_
            refine g_getRZ (kz := 1) e_PS_plan_53 fl_PS_12 hz kq_0 (by decide) fj_9_0 rfl ?_
            refine g_getRZ (kz := 10) e_PS_plan_56 fl_PS_190 hz kq_1 (by decide) fj_6_2 rfl ?_
            refine g_astore e_PS_plan_59 (by decide) rfl ?_
            refine g_aload e_PS_plan_61 rfl ?_
            refine g_iload_n e_PS_plan_63 rfl ?_
            refine g_bipush (x := (10 : Int32)) e_PS_plan_64 (by decide) ?_
            refine g_idiv e_PS_plan_66 (by decide) ?_
            refine g_iload_n e_PS_plan_67 rfl ?_
            refine g_bipush (x := (10 : Int32)) e_PS_plan_68 (by decide) ?_
            refine g_irem e_PS_plan_70 (by decide) ?_
            refine g_iload_n e_PS_plan_71 rfl ?_
            refine g_iload_n e_PS_plan_72 rfl ?_
            refine g_callS (rv := rvI) (As := [.int (v1 / (10 : Int32)), .int (v1 % (10 : Int32)), .int v2, .int v3]) (st := [rf (kG X) 10]) e_PS_plan_73 ms_PS_194 my_PS_cellOf (by decide) rfl rfl (Nat.le_of_ble_eq_true rfl) (fun r M1 h => c_PS_cellOf hz  h) (fun r10 M9 h11 => ?_)
            refine g_iload e_PS_plan_76 rfl ?_
            refine g_iload e_PS_plan_78 rfl ?_
            refine g_callV (rv := rvI) (As := [.int r10, .int v4, .int v5]) (st := []) e_PS_plan_80 mv_PS_197 my_Plan_tell (by decide) rfl rfl kq_10 (hz.lt kq_10) rfl (Nat.le_of_ble_eq_true rfl) rfl (fun r M1 h => c_Plan_tell hz kq_10 h) (fun r13 M12 h14 => ?_)
            refine g_istore e_PS_plan_83 (by decide) rfl ?_
            refine g_iload e_PS_plan_85 rfl ?_
            refine g_phi1 103 (fun x16 => [none, none, none, none, none, none, none, none, none]) (fun x16 => [.int x16]) (fun x16 => ?_) (fun hj17 => ?_)
            · show GO X _ _ 103 [none, none, none, none, none, none, none, none, none] [.int x16] Z M12 _
              exact g_iret e_PS_plan_103 rfl
            · refine g_if_eq' e_PS_plan_87 (fun c15 => ?_) (fun c15 => ?_)
              · refine g_bipush (x := (-4 : Int32)) e_PS_plan_101 (by decide) ?_
                exact (g_pt c15 (g_lt (g_wq (hj17 (-4 : Int32)) trivial)))
              · refine g_aload e_PS_plan_90 rfl ?_
                refine g_getRZ (kz := 11) e_PS_plan_92 fl_PS_202 hz kq_10 (by decide) fj_2_0 rfl ?_
                refine g_getI e_PS_plan_95 fl_PS_205 kq_11 (hz.lt kq_11) fj_4_1 ?_
                refine g_goto e_PS_plan_98 ?_
                exact (g_pf c15 (g_lt (g_wq (hj17 (M12.1 11 1)) trivial)))
          · refine g_bipush (x := (-2 : Int32)) e_PS_plan_49 (by decide) ?_
            exact g_iret e_PS_plan_51 rfl
  · refine g_iconst (x := (-1 : Int32)) e_PS_plan_20 (by decide) ?_
    exact g_iret e_PS_plan_21 rfl
set_option maxHeartbeats 4000000 in
set_option maxRecDepth 20000 in
theorem c_PS_plan {l : Launch} {G : KG} {Z : ZZ} {v1 : Int32} {v2 : Int32} {v3 : Int32} {v4 : Int32} {v5 : Int32} {M M' : Mm} {r : Int32} (hz : FU Z) (h : f_PS_plan v1 v2 v3 v4 v5 M = some (r, M')) : CT l G y_PS_plan md_PS_plan 0 0 [rf G 0, .int v1, .int v2, .int v3, .int v4, .int v5] Z.2.2.1 Z.2.2.2 M (rvI r) Z.2.2.1 Z.2.2.2 M' :=
  CT.of (Z := (0, 0, Z.2.2.1, Z.2.2.2)) (Z' := (0, 0, Z.2.2.1, Z.2.2.2)) 3 (by decide) rfl ⟨rfl, rfl⟩ (by show 6 ≤ 9; decide) rfl h (fun X _ hG => by subst hG; exact t_PS_plan hz)
set_option maxHeartbeats 4000000 in
set_option maxRecDepth 20000 in
theorem t_PS_unplan {X : KX} {Z : ZZ} {v1 : Int32} {M : Mm} (hz : FU Z) : GO X md_PS_unplan (QE X rvI Z) 0 [some (rf (kG X) 0), some (.int v1)] [] Z M (f_PS_unplan v1 M) := by
  unfold f_PS_unplan
  refine g_iload_n e_PS_unplan_0 rfl ?_
  refine g_iconst (x := (1 : Int32)) e_PS_unplan_1 (by decide) ?_
  refine g_icmp_lt e_PS_unplan_2 (fun c1 => ?_) (fun c1 => ?_)
  · refine g_iconst (x := (-1 : Int32)) e_PS_unplan_19 (by decide) ?_
    refine g_goto e_PS_unplan_20 ?_
    exact g_iret e_PS_unplan_34 rfl
  · refine g_iload_n e_PS_unplan_5 rfl ?_
    refine g_aload_n e_PS_unplan_6 rfl ?_
    refine g_getRZ (kz := 1) e_PS_unplan_7 fl_PS_12 hz kq_0 (by decide) fj_9_0 rfl ?_
    refine g_getRZ (kz := 2) e_PS_unplan_10 fl_PS_50 hz kq_1 (by decide) fj_6_0 rfl ?_
    refine g_getI e_PS_unplan_13 fl_PS_181 kq_2 (hz.lt kq_2) fj_0_4 ?_
    refine g_icmp_le e_PS_unplan_16 (fun c2 => ?_) (fun c2 => ?_)
    · refine g_aload_n e_PS_unplan_23 rfl ?_
      refine g_getRZ (kz := 1) e_PS_unplan_24 fl_PS_12 hz kq_0 (by decide) fj_9_0 rfl ?_
      refine g_getRZ (kz := 10) e_PS_unplan_27 fl_PS_190 hz kq_1 (by decide) fj_6_2 rfl ?_
      refine g_iload_n e_PS_unplan_30 rfl ?_
      refine g_callV (rv := rvI) (As := [.int v1]) (st := []) e_PS_unplan_31 mv_PS_210 my_Plan_forget (by decide) rfl rfl kq_10 (hz.lt kq_10) rfl (Nat.le_of_ble_eq_true rfl) rfl (fun r M1 h => c_Plan_forget hz kq_10 h) (fun r4 M3 h5 => ?_)
      exact g_iret e_PS_unplan_34 rfl
    · refine g_iconst (x := (-1 : Int32)) e_PS_unplan_19 (by decide) ?_
      refine g_goto e_PS_unplan_20 ?_
      exact g_iret e_PS_unplan_34 rfl
set_option maxHeartbeats 4000000 in
set_option maxRecDepth 20000 in
theorem c_PS_unplan {l : Launch} {G : KG} {Z : ZZ} {v1 : Int32} {M M' : Mm} {r : Int32} (hz : FU Z) (h : f_PS_unplan v1 M = some (r, M')) : CT l G y_PS_unplan md_PS_unplan 0 0 [rf G 0, .int v1] Z.2.2.1 Z.2.2.2 M (rvI r) Z.2.2.1 Z.2.2.2 M' :=
  CT.of (Z := (0, 0, Z.2.2.1, Z.2.2.2)) (Z' := (0, 0, Z.2.2.1, Z.2.2.2)) 0 (by decide) rfl ⟨rfl, rfl⟩ (by show 2 ≤ 2; decide) rfl h (fun X _ hG => by subst hG; exact t_PS_unplan hz)
set_option maxHeartbeats 4000000 in
set_option maxRecDepth 20000 in
theorem t_PS_planned {X : KX} {Z : ZZ} {v1 : Int32} {v2 : Int32} {M : Mm} (hz : FU Z) : GO X md_PS_planned (QE X rvI Z) 0 [some (rf (kG X) 0), some (.int v1), some (.int v2), none] [] Z M (f_PS_planned v1 v2 M) := by
  unfold f_PS_planned
  refine g_aload_n e_PS_planned_0 rfl ?_
  refine g_getRZ (kz := 1) e_PS_planned_1 fl_PS_12 hz kq_0 (by decide) fj_9_0 rfl ?_
  refine g_getRZ (kz := 10) e_PS_planned_4 fl_PS_190 hz kq_1 (by decide) fj_6_2 rfl ?_
  refine g_astore_n e_PS_planned_7 (by decide) rfl ?_
  refine g_aload_n e_PS_planned_8 rfl ?_
  refine g_getRZ (kz := 11) e_PS_planned_9 fl_PS_202 hz kq_10 (by decide) fj_2_0 rfl ?_
  refine g_iload_n e_PS_planned_12 rfl ?_
  refine g_callV (rv := rvI) (As := [.int v1]) (st := []) e_PS_planned_13 mv_PS_213 my_Row_has (by decide) rfl rfl kq_11 (hz.lt kq_11) rfl (Nat.le_of_ble_eq_true rfl) rfl (fun r M1 h => c_Row_has hz kq_11 h) (fun r2 M1 h3 => ?_)
  refine g_if_ne e_PS_planned_16 (fun c4 => ?_) (fun c4 => ?_)
  · refine g_iload_n e_PS_planned_21 rfl ?_
    refine g_ite (fun c5 => ?_) (fun c5 => ?_)
    · refine g_tswI e_PS_planned_22.1 (0 : Int32) c5 (off := 26) (tgt := 48) (by decide) ?_
      refine g_aload_n e_PS_planned_48 rfl ?_
      refine g_getRZ (kz := 11) e_PS_planned_49 fl_PS_202 hz kq_10 (by decide) fj_2_0 rfl ?_
      refine g_iload_n e_PS_planned_52 rfl ?_
      refine g_callV (rv := rvI) (As := [.int v1]) (st := []) e_PS_planned_53 mv_PS_216 my_Row_get (by decide) rfl rfl kq_11 (hz.lt kq_11) rfl (Nat.le_of_ble_eq_true rfl) rfl (fun r M1 h => c_Row_get hz kq_11 h) (fun r7 M6 h8 => ?_)
      exact g_iret e_PS_planned_56 rfl
    refine g_ite (fun c9 => ?_) (fun c9 => ?_)
    · refine g_tswI e_PS_planned_22.1 (1 : Int32) c9 (off := 35) (tgt := 57) (by decide) ?_
      refine g_aload_n e_PS_planned_57 rfl ?_
      refine g_getRZ (kz := 13) e_PS_planned_58 fl_PS_219 hz kq_10 (by decide) fj_2_1 rfl ?_
      refine g_iload_n e_PS_planned_61 rfl ?_
      refine g_callV (rv := rvI) (As := [.int v1]) (st := []) e_PS_planned_62 mv_PS_216 my_Row_get (by decide) rfl rfl kq_13 (hz.lt kq_13) rfl (Nat.le_of_ble_eq_true rfl) rfl (fun r M1 h => c_Row_get hz kq_13 h) (fun r11 M10 h12 => ?_)
      exact g_iret e_PS_planned_65 rfl
    refine g_ite (fun c13 => ?_) (fun c13 => ?_)
    · refine g_tswI e_PS_planned_22.1 (2 : Int32) c13 (off := 44) (tgt := 66) (by decide) ?_
      refine g_aload_n e_PS_planned_66 rfl ?_
      refine g_getRZ (kz := 15) e_PS_planned_67 fl_PS_221 hz kq_10 (by decide) fj_2_2 rfl ?_
      refine g_iload_n e_PS_planned_70 rfl ?_
      refine g_callV (rv := rvI) (As := [.int v1]) (st := []) e_PS_planned_71 mv_PS_216 my_Row_get (by decide) rfl rfl kq_15 (hz.lt kq_15) rfl (Nat.le_of_ble_eq_true rfl) rfl (fun r M1 h => c_Row_get hz kq_15 h) (fun r15 M14 h16 => ?_)
      exact g_iret e_PS_planned_74 rfl
    refine g_hav (pq := 75) (lsq := [some (rf (kG X) 0), some (.int v1), some (.int v2), some (rf (kG X) 10)]) (stq := []) ?_ (fun hq => ?_)
    · refine g_iconst (x := (-1 : Int32)) e_PS_planned_75 (by decide) ?_
      exact g_iret e_PS_planned_76 rfl
    · refine g_tswO e_PS_planned_22.1 (tgt := 75) (by decide) (sw_out (fun q h1 h2 => ?_)) hq
      rcases (show q = 0 ∨ q = 1 ∨ q = 2 by omega) with rfl | rfl | rfl
      · exact c5
      · exact c9
      · exact c13
  · refine g_iconst (x := (-1 : Int32)) e_PS_planned_19 (by decide) ?_
    exact g_iret e_PS_planned_20 rfl
set_option maxHeartbeats 4000000 in
set_option maxRecDepth 20000 in
theorem c_PS_planned {l : Launch} {G : KG} {Z : ZZ} {v1 : Int32} {v2 : Int32} {M M' : Mm} {r : Int32} (hz : FU Z) (h : f_PS_planned v1 v2 M = some (r, M')) : CT l G y_PS_planned md_PS_planned 0 0 [rf G 0, .int v1, .int v2] Z.2.2.1 Z.2.2.2 M (rvI r) Z.2.2.1 Z.2.2.2 M' :=
  CT.of (Z := (0, 0, Z.2.2.1, Z.2.2.2)) (Z' := (0, 0, Z.2.2.1, Z.2.2.2)) 1 (by decide) rfl ⟨rfl, rfl⟩ (by show 3 ≤ 4; decide) rfl h (fun X _ hG => by subst hG; exact t_PS_planned hz)
set_option maxHeartbeats 4000000 in
set_option maxRecDepth 20000 in
theorem t_PS_plans {X : KX} {Z : ZZ} {M : Mm} (hz : FU Z) : GO X md_PS_plans (QE X rvI Z) 0 [some (rf (kG X) 0)] [] Z M (f_PS_plans M) := by
  unfold f_PS_plans
  refine g_aload_n e_PS_plans_0 rfl ?_
  refine g_getRZ (kz := 1) e_PS_plans_1 fl_PS_12 hz kq_0 (by decide) fj_9_0 rfl ?_
  refine g_getRZ (kz := 10) e_PS_plans_4 fl_PS_190 hz kq_1 (by decide) fj_6_2 rfl ?_
  refine g_aload_n e_PS_plans_7 rfl ?_
  refine g_getRZ (kz := 1) e_PS_plans_8 fl_PS_12 hz kq_0 (by decide) fj_9_0 rfl ?_
  refine g_getRZ (kz := 2) e_PS_plans_11 fl_PS_50 hz kq_1 (by decide) fj_6_0 rfl ?_
  refine g_callV (rv := rvU) (As := [rf (kG X) 2]) (st := []) e_PS_plans_14 mv_PS_224 my_Plan_tellAll (by decide) rfl rfl kq_10 (hz.lt kq_10) rfl (Nat.le_of_ble_eq_true rfl) rfl (fun r M1 h => c_Plan_tellAll hz kq_10 kq_2 h) (fun r2 M1 h3 => ?_)
  refine g_aload_n e_PS_plans_17 rfl ?_
  refine g_getRZ (kz := 1) e_PS_plans_18 fl_PS_12 hz kq_0 (by decide) fj_9_0 rfl ?_
  refine g_getRZ (kz := 10) e_PS_plans_21 fl_PS_190 hz kq_1 (by decide) fj_6_2 rfl ?_
  refine g_getRZ (kz := 11) e_PS_plans_24 fl_PS_202 hz kq_10 (by decide) fj_2_0 rfl ?_
  refine g_getI e_PS_plans_27 fl_PS_205 kq_11 (hz.lt kq_11) fj_4_1 ?_
  exact g_iret e_PS_plans_30 rfl
set_option maxHeartbeats 4000000 in
set_option maxRecDepth 20000 in
theorem c_PS_plans {l : Launch} {G : KG} {Z : ZZ} {M M' : Mm} {r : Int32} (hz : FU Z) (h : f_PS_plans M = some (r, M')) : CT l G y_PS_plans md_PS_plans 0 0 [rf G 0] Z.2.2.1 Z.2.2.2 M (rvI r) Z.2.2.1 Z.2.2.2 M' :=
  CT.of (Z := (0, 0, Z.2.2.1, Z.2.2.2)) (Z' := (0, 0, Z.2.2.1, Z.2.2.2)) 0 (by decide) rfl ⟨rfl, rfl⟩ (by show 1 ≤ 1; decide) rfl h (fun X _ hG => by subst hG; exact t_PS_plans hz)
set_option maxHeartbeats 4000000 in
set_option maxRecDepth 20000 in
theorem t_PS_proof {X : KX} {Z : ZZ} {v1 : Int32} {M : Mm} (hz : FU Z) : GO X md_PS_proof (QE X rvI Z) 0 [some (rf (kG X) 0), some (.int v1)] [] Z M (f_PS_proof v1 M) := by
  unfold f_PS_proof
  refine g_iload_n e_PS_proof_0 rfl ?_
  refine g_if_ge e_PS_proof_1 (fun c1 => ?_) (fun c1 => ?_)
  · refine g_aload_n e_PS_proof_6 rfl ?_
    refine g_getRZ (kz := 1) e_PS_proof_7 fl_PS_12 hz kq_0 (by decide) fj_9_0 rfl ?_
    refine g_getRZ (kz := 10) e_PS_proof_10 fl_PS_190 hz kq_1 (by decide) fj_6_2 rfl ?_
    refine g_aload_n e_PS_proof_13 rfl ?_
    refine g_getRZ (kz := 1) e_PS_proof_14 fl_PS_12 hz kq_0 (by decide) fj_9_0 rfl ?_
    refine g_getRZ (kz := 2) e_PS_proof_17 fl_PS_50 hz kq_1 (by decide) fj_6_0 rfl ?_
    refine g_callV (rv := rvU) (As := [rf (kG X) 2]) (st := []) e_PS_proof_20 mv_PS_228 my_Plan_prove (by decide) rfl rfl kq_10 (hz.lt kq_10) rfl (Nat.le_of_ble_eq_true rfl) rfl (fun r M1 h => c_Plan_prove hz kq_10 kq_2 h) (fun r3 M2 h4 => ?_)
    refine g_aload_n e_PS_proof_23 rfl ?_
    refine g_getRZ (kz := 1) e_PS_proof_24 fl_PS_12 hz kq_0 (by decide) fj_9_0 rfl ?_
    refine g_getRZ (kz := 10) e_PS_proof_27 fl_PS_190 hz kq_1 (by decide) fj_6_2 rfl ?_
    refine g_getRZ (kz := 17) e_PS_proof_30 fl_PS_231 hz kq_10 (by decide) fj_2_3 rfl ?_
    refine g_iload_n e_PS_proof_33 rfl ?_
    refine g_callS (rv := rvI) (As := [rf (kG X) 17, .int v1]) (st := []) e_PS_proof_34 ms_PS_177 my_PS_kth (by decide) rfl rfl (Nat.le_of_ble_eq_true rfl) (fun r M1 h => c_PS_kth hz kq_17 h) (fun r6 M5 h7 => ?_)
    exact g_iret e_PS_proof_37 rfl
  · refine g_iconst (x := (-1 : Int32)) e_PS_proof_4 (by decide) ?_
    exact g_iret e_PS_proof_5 rfl
set_option maxHeartbeats 4000000 in
set_option maxRecDepth 20000 in
theorem c_PS_proof {l : Launch} {G : KG} {Z : ZZ} {v1 : Int32} {M M' : Mm} {r : Int32} (hz : FU Z) (h : f_PS_proof v1 M = some (r, M')) : CT l G y_PS_proof md_PS_proof 0 0 [rf G 0, .int v1] Z.2.2.1 Z.2.2.2 M (rvI r) Z.2.2.1 Z.2.2.2 M' :=
  CT.of (Z := (0, 0, Z.2.2.1, Z.2.2.2)) (Z' := (0, 0, Z.2.2.1, Z.2.2.2)) 0 (by decide) rfl ⟨rfl, rfl⟩ (by show 2 ≤ 2; decide) rfl h (fun X _ hG => by subst hG; exact t_PS_proof hz)
set_option maxHeartbeats 4000000 in
set_option maxRecDepth 20000 in
theorem t_PS_see {X : KX} {Z : ZZ} {v1 : Int32} {v2 : Int32} {v3 : Int32} {v4 : Int32} {M : Mm} (hz : FU Z) : GO X md_PS_see (QE X rvI Z) 0 [some (rf (kG X) 0), some (.int v1), some (.int v2), some (.int v3), some (.int v4)] [] Z M (f_PS_see v1 v2 v3 v4 M) := by
  unfold f_PS_see
  refine g_iload_n e_PS_see_0 rfl ?_
  refine g_iconst (x := (-1 : Int32)) e_PS_see_1 (by decide) ?_
  refine g_icmp_ne e_PS_see_2 (fun c1 => ?_) (fun c1 => ?_)
  · refine g_iload_n e_PS_see_27 rfl ?_
    refine g_if_lt e_PS_see_28 (fun c2 => ?_) (fun c2 => ?_)
    · refine g_bipush (x := (-2 : Int32)) e_PS_see_60 (by decide) ?_
      exact g_iret e_PS_see_62 rfl
    · refine g_iload_n e_PS_see_31 rfl ?_
      refine g_sipush (x := (319 : Int32)) e_PS_see_32 (by decide) ?_
      refine g_icmp_gt e_PS_see_35 (fun c3 => ?_) (fun c3 => ?_)
      · refine g_bipush (x := (-2 : Int32)) e_PS_see_60 (by decide) ?_
        exact g_iret e_PS_see_62 rfl
      · refine g_iload_n e_PS_see_38 rfl ?_
        refine g_bipush (x := (10 : Int32)) e_PS_see_39 (by decide) ?_
        refine g_irem e_PS_see_41 (by decide) ?_
        refine g_iconst (x := (1 : Int32)) e_PS_see_42 (by decide) ?_
        refine g_icmp_gt e_PS_see_43 (fun c4 => ?_) (fun c4 => ?_)
        · refine g_bipush (x := (-2 : Int32)) e_PS_see_60 (by decide) ?_
          exact g_iret e_PS_see_62 rfl
        · refine g_iload e_PS_see_46 rfl ?_
          refine g_iconst (x := (1 : Int32)) e_PS_see_48 (by decide) ?_
          refine g_icmp_lt e_PS_see_49 (fun c5 => ?_) (fun c5 => ?_)
          · refine g_bipush (x := (-2 : Int32)) e_PS_see_60 (by decide) ?_
            exact g_iret e_PS_see_62 rfl
          · refine g_iload e_PS_see_52 rfl ?_
            refine g_sipush (x := (128 : Int32)) e_PS_see_54 (by decide) ?_
            refine g_icmp_le e_PS_see_57 (fun c6 => ?_) (fun c6 => ?_)
            · refine g_iload_n e_PS_see_63 rfl ?_
              refine g_if_lt e_PS_see_64 (fun c7 => ?_) (fun c7 => ?_)
              · refine g_bipush (x := (-2 : Int32)) e_PS_see_83 (by decide) ?_
                exact g_iret e_PS_see_85 rfl
              · refine g_iload_n e_PS_see_67 rfl ?_
                refine g_bipush (x := (15 : Int32)) e_PS_see_68 (by decide) ?_
                refine g_icmp_gt e_PS_see_70 (fun c8 => ?_) (fun c8 => ?_)
                · refine g_bipush (x := (-2 : Int32)) e_PS_see_83 (by decide) ?_
                  exact g_iret e_PS_see_85 rfl
                · refine g_iload_n e_PS_see_73 rfl ?_
                  refine g_if_lt e_PS_see_74 (fun c9 => ?_) (fun c9 => ?_)
                  · refine g_bipush (x := (-2 : Int32)) e_PS_see_83 (by decide) ?_
                    exact g_iret e_PS_see_85 rfl
                  · refine g_iload_n e_PS_see_77 rfl ?_
                    refine g_bipush (x := (15 : Int32)) e_PS_see_78 (by decide) ?_
                    refine g_icmp_le e_PS_see_80 (fun c10 => ?_) (fun c10 => ?_)
                    · refine g_aload_n e_PS_see_86 rfl ?_
                      refine g_getRZ (kz := 1) e_PS_see_87 fl_PS_12 hz kq_0 (by decide) fj_9_0 rfl ?_
                      refine g_getRZ (kz := 19) e_PS_see_90 fl_PS_234 hz kq_1 (by decide) fj_6_3 rfl ?_
                      refine g_iload_n e_PS_see_93 rfl ?_
                      refine g_bipush (x := (10 : Int32)) e_PS_see_94 (by decide) ?_
                      refine g_idiv e_PS_see_96 (by decide) ?_
                      refine g_iload_n e_PS_see_97 rfl ?_
                      refine g_bipush (x := (10 : Int32)) e_PS_see_98 (by decide) ?_
                      refine g_irem e_PS_see_100 (by decide) ?_
                      refine g_iload_n e_PS_see_101 rfl ?_
                      refine g_iload_n e_PS_see_102 rfl ?_
                      refine g_callS (rv := rvI) (As := [.int (v1 / (10 : Int32)), .int (v1 % (10 : Int32)), .int v2, .int v3]) (st := [rf (kG X) 19]) e_PS_see_103 ms_PS_194 my_PS_cellOf (by decide) rfl rfl (Nat.le_of_ble_eq_true rfl) (fun r M1 h => c_PS_cellOf hz  h) (fun r12 M11 h13 => ?_)
                      refine g_callV (rv := rvI) (As := [.int r12]) (st := []) e_PS_see_106 mv_PS_243 my_Row_add (by decide) rfl rfl kq_19 (hz.lt kq_19) rfl (Nat.le_of_ble_eq_true rfl) rfl (fun r M1 h => c_Row_add hz kq_19 h) (fun r15 M14 h16 => ?_)
                      refine g_if_ne e_PS_see_109 (fun c17 => ?_) (fun c17 => ?_)
                      · refine g_aload_n e_PS_see_115 rfl ?_
                        refine g_getRZ (kz := 1) e_PS_see_116 fl_PS_12 hz kq_0 (by decide) fj_9_0 rfl ?_
                        refine g_getRZ (kz := 21) e_PS_see_119 fl_PS_240 hz kq_1 (by decide) fj_6_4 rfl ?_
                        refine g_iload e_PS_see_122 rfl ?_
                        refine g_callV (rv := rvI) (As := [.int v4]) (st := []) e_PS_see_124 mv_PS_243 my_Row_add (by decide) rfl rfl kq_21 (hz.lt kq_21) rfl (Nat.le_of_ble_eq_true rfl) rfl (fun r M1 h => c_Row_add hz kq_21 h) (fun r19 M18 h20 => ?_)
                        refine g_pop e_PS_see_127 rfl ?_
                        refine g_aload_n e_PS_see_128 rfl ?_
                        refine g_getRZ (kz := 1) e_PS_see_129 fl_PS_12 hz kq_0 (by decide) fj_9_0 rfl ?_
                        refine g_getRZ (kz := 19) e_PS_see_132 fl_PS_234 hz kq_1 (by decide) fj_6_3 rfl ?_
                        refine g_getI e_PS_see_135 fl_PS_205 kq_19 (hz.lt kq_19) fj_4_1 ?_
                        exact g_iret e_PS_see_138 rfl
                      · refine g_bipush (x := (-4 : Int32)) e_PS_see_112 (by decide) ?_
                        exact g_iret e_PS_see_114 rfl
                    · refine g_bipush (x := (-2 : Int32)) e_PS_see_83 (by decide) ?_
                      exact g_iret e_PS_see_85 rfl
            · refine g_bipush (x := (-2 : Int32)) e_PS_see_60 (by decide) ?_
              exact g_iret e_PS_see_62 rfl
  · refine g_aload_n e_PS_see_5 rfl ?_
    refine g_getRZ (kz := 1) e_PS_see_6 fl_PS_12 hz kq_0 (by decide) fj_9_0 rfl ?_
    refine g_getRZ (kz := 19) e_PS_see_9 fl_PS_234 hz kq_1 (by decide) fj_6_3 rfl ?_
    refine g_callV (rv := rvU) (As := []) (st := []) e_PS_see_12 mv_PS_237 my_Row_clear (by decide) rfl rfl kq_19 (hz.lt kq_19) rfl (Nat.le_of_ble_eq_true rfl) rfl (fun r M1 h => c_Row_clear hz kq_19 h) (fun r22 M21 h23 => ?_)
    refine g_aload_n e_PS_see_15 rfl ?_
    refine g_getRZ (kz := 1) e_PS_see_16 fl_PS_12 hz kq_0 (by decide) fj_9_0 rfl ?_
    refine g_getRZ (kz := 21) e_PS_see_19 fl_PS_240 hz kq_1 (by decide) fj_6_4 rfl ?_
    refine g_callV (rv := rvU) (As := []) (st := []) e_PS_see_22 mv_PS_237 my_Row_clear (by decide) rfl rfl kq_21 (hz.lt kq_21) rfl (Nat.le_of_ble_eq_true rfl) rfl (fun r M1 h => c_Row_clear hz kq_21 h) (fun r25 M24 h26 => ?_)
    refine g_iconst (x := (0 : Int32)) e_PS_see_25 (by decide) ?_
    exact g_iret e_PS_see_26 rfl
set_option maxHeartbeats 4000000 in
set_option maxRecDepth 20000 in
theorem c_PS_see {l : Launch} {G : KG} {Z : ZZ} {v1 : Int32} {v2 : Int32} {v3 : Int32} {v4 : Int32} {M M' : Mm} {r : Int32} (hz : FU Z) (h : f_PS_see v1 v2 v3 v4 M = some (r, M')) : CT l G y_PS_see md_PS_see 0 0 [rf G 0, .int v1, .int v2, .int v3, .int v4] Z.2.2.1 Z.2.2.2 M (rvI r) Z.2.2.1 Z.2.2.2 M' :=
  CT.of (Z := (0, 0, Z.2.2.1, Z.2.2.2)) (Z' := (0, 0, Z.2.2.1, Z.2.2.2)) 0 (by decide) rfl ⟨rfl, rfl⟩ (by show 5 ≤ 5; decide) rfl h (fun X _ hG => by subst hG; exact t_PS_see hz)
set_option maxHeartbeats 4000000 in
set_option maxRecDepth 20000 in
theorem t_PS_fits_103 {X : KX} {Z : ZZ} {rec49 : Int32 → Int32 → Int32 → Int32 → Int32 → Int32 → Mm → Option (Int32 × Mm)} (hz : FU Z) (hr49 : ∀ (v1 : Int32) (v2 : Int32) (v3 : Int32) (v4 : Int32) (v5 : Int32) (v6 : Int32) (M : Mm), GO X md_PS_fits (QE X rvI Z) 49 [some (rf (kG X) 0), some (.int v1), some (.int v2), some (.int v3), some (.int v4), some (.int v5), some (.int v6)] [] Z M (rec49 v1 v2 v3 v4 v5 v6 M)) : ∀ (v1 : Int32) (v2 : Int32) (v3 : Int32) (v4 : Int32) (v5 : Int32) (v6 : Int32) (M : Mm), GO X md_PS_fits (QE X rvI Z) 103 [some (rf (kG X) 0), some (.int v1), some (.int v2), some (.int v3), some (.int v4), some (.int v5), some (.int v6)] [] Z M (f_PS_fits_103 rec49 v1 v2 v3 v4 v5 v6 M) := by
  intro v1 v2 v3 v4 v5 v6 M
  unfold f_PS_fits_103
  refine g_iincL (c := (1 : Int32)) e_PS_fits_103 rfl (by decide) (by decide) rfl (fun x19 => ?_)
  refine g_goto e_PS_fits_106 ?_
  exact g_wq (hr49 v1 v2 v3 v4 v5 x19 M) ⟨rfl, rfl, rfl, rfl, rfl, rfl, rfl, trivial⟩
set_option maxHeartbeats 4000000 in
set_option maxRecDepth 20000 in
theorem t_PS_fits_101 {X : KX} {Z : ZZ} {rec49 : Int32 → Int32 → Int32 → Int32 → Int32 → Int32 → Mm → Option (Int32 × Mm)} (hz : FU Z) (hr49 : ∀ (v1 : Int32) (v2 : Int32) (v3 : Int32) (v4 : Int32) (v5 : Int32) (v6 : Int32) (M : Mm), GO X md_PS_fits (QE X rvI Z) 49 [some (rf (kG X) 0), some (.int v1), some (.int v2), some (.int v3), some (.int v4), some (.int v5), some (.int v6)] [] Z M (rec49 v1 v2 v3 v4 v5 v6 M)) : ∀ (v1 : Int32) (v2 : Int32) (v3 : Int32) (v4 : Int32) (v6 : Int32) (s0 : Int32) (M : Mm), GO X md_PS_fits (QE X rvI Z) 101 [some (rf (kG X) 0), some (.int v1), some (.int v2), some (.int v3), some (.int v4), none, some (.int v6)] [.int s0] Z M (f_PS_fits_101 rec49 v1 v2 v3 v4 v6 s0 M) := by
  intro v1 v2 v3 v4 v6 s0 M
  unfold f_PS_fits_101
  refine g_istore e_PS_fits_101 (by decide) rfl ?_
  exact g_wq (t_PS_fits_103 hz (hr49) v1 v2 v3 v4 s0 v6 M) ⟨rfl, rfl, rfl, rfl, rfl, rfl, rfl, trivial⟩
set_option maxHeartbeats 4000000 in
set_option maxRecDepth 20000 in
theorem t_PS_fits_49 {X : KX} {Z : ZZ} (hz : FU Z) : ∀ (n : Nat) (v1 : Int32) (v2 : Int32) (v3 : Int32) (v4 : Int32) (v5 : Int32) (v6 : Int32) (M : Mm), GO X md_PS_fits (QE X rvI Z) 49 [some (rf (kG X) 0), some (.int v1), some (.int v2), some (.int v3), some (.int v4), some (.int v5), some (.int v6)] [] Z M (f_PS_fits_49 n v1 v2 v3 v4 v5 v6 M) := by
  intro n
  induction n with
  | zero =>
    intro v1 v2 v3 v4 v5 v6 M
    exact g_none
  | succ n ih =>
    intro v1 v2 v3 v4 v5 v6 M
    rw [f_PS_fits_49_s]
    refine g_iload e_PS_fits_49 rfl ?_
    refine g_iload_n e_PS_fits_51 rfl ?_
    refine g_icmp_ge e_PS_fits_52 (fun c8 => ?_) (fun c8 => ?_)
    · refine g_iload_n e_PS_fits_109 rfl ?_
      refine g_phi1 120 (fun x10 => [none, none, none, none, none, none, none]) (fun x10 => [.int x10]) (fun x10 => ?_) (fun hj11 => ?_)
      · show GO X _ _ 120 [none, none, none, none, none, none, none] [.int x10] Z M _
        exact g_iret e_PS_fits_120 rfl
      · refine g_if_ne' e_PS_fits_110 (fun c9 => ?_) (fun c9 => ?_)
        · refine g_iload e_PS_fits_118 rfl ?_
          exact (g_pf c9 (g_lt (g_wq (hj11 v5) trivial)))
        · refine g_iload e_PS_fits_113 rfl ?_
          refine g_goto e_PS_fits_115 ?_
          exact (g_pt c9 (g_lt (g_wq (hj11 v4) trivial)))
    · refine g_aload_n e_PS_fits_55 rfl ?_
      refine g_getRZ (kz := 53) e_PS_fits_56 fl_PS_24 hz kq_0 (by decide) fj_9_3 rfl ?_
      refine g_iload_n e_PS_fits_59 rfl ?_
      refine g_iload e_PS_fits_60 rfl ?_
      refine g_callV (rv := rvU) (As := [.int v2, .int v6]) (st := []) e_PS_fits_62 mv_PS_252 my_Job_foldBy (by decide) rfl rfl kq_53 (hz.lt kq_53) rfl (Nat.le_of_ble_eq_true rfl) rfl (fun r M1 h => c_Job_foldBy (hz.lt kq_53) kq_53 h) (fun r13 M12 h14 => ?_)
      refine g_aload_n e_PS_fits_65 rfl ?_
      refine g_getRZ (kz := 1) e_PS_fits_66 fl_PS_12 hz kq_0 (by decide) fj_9_0 rfl ?_
      refine g_aload_n e_PS_fits_69 rfl ?_
      refine g_getRZ (kz := 53) e_PS_fits_70 fl_PS_24 hz kq_0 (by decide) fj_9_3 rfl ?_
      refine g_callV (rv := rvI) (As := [rf (kG X) 53]) (st := []) e_PS_fits_73 mv_PS_256 my_State_allSeenStand (by decide) rfl rfl kq_1 (hz.lt kq_1) rfl (Nat.le_of_ble_eq_true rfl) rfl (fun r M1 h => c_State_allSeenStand hz kq_1 kq_53 h) (fun r16 M15 h17 => ?_)
      refine g_if_eq e_PS_fits_76 (fun c18 => ?_) (fun c18 => ?_)
      · exact g_wq (t_PS_fits_103 hz (ih) v1 v2 v3 v4 v5 v6 M15) ⟨rfl, rfl, rfl, rfl, rfl, rfl, rfl, trivial⟩
      · refine g_iincL (c := (1 : Int32)) e_PS_fits_79 rfl (by decide) (by decide) rfl (fun x20 => ?_)
        refine g_iload e_PS_fits_82 rfl ?_
        refine g_bipush (x := (-5 : Int32)) e_PS_fits_84 (by decide) ?_
        refine g_icmp_ne e_PS_fits_86 (fun c21 => ?_) (fun c21 => ?_)
        · refine g_iload e_PS_fits_99 rfl ?_
          exact g_wq (t_PS_fits_101 hz (ih) v1 v2 v3 x20 v6 v5 M15) ⟨rfl, rfl, rfl, rfl, rfl, rfl, trivial⟩
        · refine g_aload_n e_PS_fits_89 rfl ?_
          refine g_getRZ (kz := 53) e_PS_fits_90 fl_PS_24 hz kq_0 (by decide) fj_9_3 rfl ?_
          refine g_callV (rv := rvI) (As := []) (st := []) e_PS_fits_93 mv_PS_56 my_Job_word (by decide) rfl rfl kq_53 (hz.lt kq_53) rfl (Nat.le_of_ble_eq_true rfl) rfl (fun r M1 h => c_Job_word hz kq_53 h) (fun r23 M22 h24 => ?_)
          refine g_goto e_PS_fits_96 ?_
          exact g_wq (t_PS_fits_101 hz (ih) v1 v2 v3 x20 v6 r23 M22) ⟨rfl, rfl, rfl, rfl, rfl, rfl, trivial⟩
set_option maxHeartbeats 4000000 in
set_option maxRecDepth 20000 in
theorem t_PS_fits {X : KX} {Z : ZZ} {v1 : Int32} {M : Mm} (hz : FU Z) : GO X md_PS_fits (QE X rvI Z) 0 [some (rf (kG X) 0), some (.int v1), none, none, none, none, none] [] Z M (f_PS_fits v1 M) := by
  unfold f_PS_fits
  refine g_iload_n e_PS_fits_0 rfl ?_
  refine g_if_lt e_PS_fits_1 (fun c1 => ?_) (fun c1 => ?_)
  · refine g_iconst (x := (-1 : Int32)) e_PS_fits_9 (by decide) ?_
    exact g_iret e_PS_fits_10 rfl
  · refine g_iload_n e_PS_fits_4 rfl ?_
    refine g_iconst (x := (1 : Int32)) e_PS_fits_5 (by decide) ?_
    refine g_icmp_le e_PS_fits_6 (fun c2 => ?_) (fun c2 => ?_)
    · refine g_aload_n e_PS_fits_11 rfl ?_
      refine g_getRZ (kz := 53) e_PS_fits_12 fl_PS_24 hz kq_0 (by decide) fj_9_3 rfl ?_
      refine g_aload_n e_PS_fits_15 rfl ?_
      refine g_getRZ (kz := 1) e_PS_fits_16 fl_PS_12 hz kq_0 (by decide) fj_9_0 rfl ?_
      refine g_getRZ (kz := 2) e_PS_fits_19 fl_PS_50 hz kq_1 (by decide) fj_6_0 rfl ?_
      refine g_callV (rv := rvU) (As := [rf (kG X) 2]) (st := []) e_PS_fits_22 mv_PS_246 my_Job_copy (by decide) rfl rfl kq_53 (hz.lt kq_53) rfl (Nat.le_of_ble_eq_true rfl) rfl (fun r M1 h => c_Job_copy hz kq_53 kq_2 h) (fun r4 M3 h5 => ?_)
      refine g_aload_n e_PS_fits_25 rfl ?_
      refine g_getRZ (kz := 53) e_PS_fits_26 fl_PS_24 hz kq_0 (by decide) fj_9_3 rfl ?_
      refine g_getI e_PS_fits_29 fl_PS_249 kq_53 (hz.lt kq_53) fj_0_0 ?_
      refine g_istoreL_n e_PS_fits_32 (by decide) rfl (fun x6 => ?_)
      refine g_iconst (x := (1 : Int32)) e_PS_fits_33 (by decide) ?_
      refine g_iconst (x := (2 : Int32)) e_PS_fits_34 (by decide) ?_
      refine g_iload_n e_PS_fits_35 rfl ?_
      refine g_imul e_PS_fits_36 ?_
      refine g_ishl e_PS_fits_37 ?_
      refine g_istoreL_n e_PS_fits_38 (by decide) rfl (fun x7 => ?_)
      refine g_iconst (x := (0 : Int32)) e_PS_fits_39 (by decide) ?_
      refine g_istore e_PS_fits_40 (by decide) rfl ?_
      refine g_bipush (x := (-5 : Int32)) e_PS_fits_42 (by decide) ?_
      refine g_istore e_PS_fits_44 (by decide) rfl ?_
      refine g_iconst (x := (0 : Int32)) e_PS_fits_46 (by decide) ?_
      refine g_istore e_PS_fits_47 (by decide) rfl ?_
      exact g_wq (t_PS_fits_49 hz fuel v1 x6 x7 (0 : Int32) (-5 : Int32) (0 : Int32) M3) ⟨rfl, rfl, rfl, rfl, rfl, rfl, rfl, trivial⟩
    · refine g_iconst (x := (-1 : Int32)) e_PS_fits_9 (by decide) ?_
      exact g_iret e_PS_fits_10 rfl
set_option maxHeartbeats 4000000 in
set_option maxRecDepth 20000 in
theorem c_PS_fits {l : Launch} {G : KG} {Z : ZZ} {v1 : Int32} {M M' : Mm} {r : Int32} (hz : FU Z) (h : f_PS_fits v1 M = some (r, M')) : CT l G y_PS_fits md_PS_fits 0 0 [rf G 0, .int v1] Z.2.2.1 Z.2.2.2 M (rvI r) Z.2.2.1 Z.2.2.2 M' :=
  CT.of (Z := (0, 0, Z.2.2.1, Z.2.2.2)) (Z' := (0, 0, Z.2.2.1, Z.2.2.2)) 5 (by decide) rfl ⟨rfl, rfl⟩ (by show 2 ≤ 7; decide) rfl h (fun X _ hG => by subst hG; exact t_PS_fits hz)
set_option maxHeartbeats 4000000 in
set_option maxRecDepth 20000 in
theorem t_PS_event_66 {X : KX} {Z : ZZ} (hz : FU Z) : ∀ (v1 : Int32) (v2 : Int32) (s0 : Int32) (M : Mm), GO X md_PS_event (QE X rvI Z) 66 [some (rf (kG X) 0), some (.int v1), some (.int v2), none] [.int s0] Z M (f_PS_event_66 v1 v2 s0 M) := by
  intro v1 v2 s0 M
  unfold f_PS_event_66
  refine g_istore_n e_PS_event_66 (by decide) rfl ?_
  refine g_iload_n e_PS_event_67 rfl ?_
  refine g_if_ne e_PS_event_68 (fun c8 => ?_) (fun c8 => ?_)
  · refine g_aload_n e_PS_event_74 rfl ?_
    refine g_getRZ (kz := 1) e_PS_event_75 fl_PS_12 hz kq_0 (by decide) fj_9_0 rfl ?_
    refine g_getRZ (kz := 23) e_PS_event_78 fl_PS_260 hz kq_1 (by decide) fj_6_5 rfl ?_
    refine g_iload_n e_PS_event_81 rfl ?_
    refine g_callV (rv := rvI) (As := [.int v1]) (st := []) e_PS_event_82 mv_PS_243 my_Row_add (by decide) rfl rfl kq_23 (hz.lt kq_23) rfl (Nat.le_of_ble_eq_true rfl) rfl (fun r M1 h => c_Row_add hz kq_23 h) (fun r10 M9 h11 => ?_)
    refine g_if_ne e_PS_event_85 (fun c12 => ?_) (fun c12 => ?_)
    · refine g_aload_n e_PS_event_91 rfl ?_
      refine g_getRZ (kz := 1) e_PS_event_92 fl_PS_12 hz kq_0 (by decide) fj_9_0 rfl ?_
      refine g_getRZ (kz := 25) e_PS_event_95 fl_PS_263 hz kq_1 (by decide) fj_6_6 rfl ?_
      refine g_iload_n e_PS_event_98 rfl ?_
      refine g_callV (rv := rvI) (As := [.int v2]) (st := []) e_PS_event_99 mv_PS_243 my_Row_add (by decide) rfl rfl kq_25 (hz.lt kq_25) rfl (Nat.le_of_ble_eq_true rfl) rfl (fun r M1 h => c_Row_add hz kq_25 h) (fun r14 M13 h15 => ?_)
      refine g_pop e_PS_event_102 rfl ?_
      refine g_aload_n e_PS_event_103 rfl ?_
      refine g_getRZ (kz := 1) e_PS_event_104 fl_PS_12 hz kq_0 (by decide) fj_9_0 rfl ?_
      refine g_getRZ (kz := 23) e_PS_event_107 fl_PS_260 hz kq_1 (by decide) fj_6_5 rfl ?_
      refine g_getI e_PS_event_110 fl_PS_205 kq_23 (hz.lt kq_23) fj_4_1 ?_
      exact g_iret e_PS_event_113 rfl
    · refine g_bipush (x := (-4 : Int32)) e_PS_event_88 (by decide) ?_
      exact g_iret e_PS_event_90 rfl
  · refine g_bipush (x := (-2 : Int32)) e_PS_event_71 (by decide) ?_
    exact g_iret e_PS_event_73 rfl
set_option maxHeartbeats 4000000 in
set_option maxRecDepth 20000 in
theorem t_PS_event {X : KX} {Z : ZZ} {v1 : Int32} {v2 : Int32} {M : Mm} (hz : FU Z) : GO X md_PS_event (QE X rvI Z) 0 [some (rf (kG X) 0), some (.int v1), some (.int v2), none] [] Z M (f_PS_event v1 v2 M) := by
  unfold f_PS_event
  refine g_iload_n e_PS_event_0 rfl ?_
  refine g_iconst (x := (-1 : Int32)) e_PS_event_1 (by decide) ?_
  refine g_icmp_ne e_PS_event_2 (fun c1 => ?_) (fun c1 => ?_)
  · refine g_iload_n e_PS_event_27 rfl ?_
    refine g_if_lt e_PS_event_28 (fun c2 => ?_) (fun c2 => ?_)
    · refine g_iconst (x := (-1 : Int32)) e_PS_event_36 (by decide) ?_
      exact g_iret e_PS_event_37 rfl
    · refine g_iload_n e_PS_event_31 rfl ?_
      refine g_iconst (x := (3 : Int32)) e_PS_event_32 (by decide) ?_
      refine g_icmp_le e_PS_event_33 (fun c3 => ?_) (fun c3 => ?_)
      · refine g_iload_n e_PS_event_38 rfl ?_
        refine g_iconst (x := (3 : Int32)) e_PS_event_39 (by decide) ?_
        refine g_icmp_ne e_PS_event_40 (fun c4 => ?_) (fun c4 => ?_)
        · refine g_iload_n e_PS_event_61 rfl ?_
          refine g_iload_n e_PS_event_62 rfl ?_
          refine g_callS (rv := rvI) (As := [.int v1, .int v2]) (st := []) e_PS_event_63 ms_PS_266 my_Job_allows (by decide) rfl rfl (Nat.le_of_ble_eq_true rfl) (fun r M1 h => c_Job_allows hz  h) (fun r6 M5 h7 => ?_)
          exact g_wq (t_PS_event_66 hz v1 v2 r6 M5) ⟨rfl, rfl, rfl, trivial⟩
        · refine g_iload_n e_PS_event_43 rfl ?_
          refine g_iconst (x := (1 : Int32)) e_PS_event_44 (by decide) ?_
          refine g_phi1 66 (fun x18 => [some (rf (kG X) 0), some (.int v1), some (.int v2), none]) (fun x18 => [.int x18]) (fun x18 => ?_) (fun hj27 => ?_)
          · show GO X _ _ 66 [some (rf (kG X) 0), some (.int v1), some (.int v2), none] [.int x18] Z M _
            refine g_istore_n e_PS_event_66 (by decide) rfl ?_
            refine g_iload_n e_PS_event_67 rfl ?_
            refine g_if_ne e_PS_event_68 (fun c19 => ?_) (fun c19 => ?_)
            · refine g_aload_n e_PS_event_74 rfl ?_
              refine g_getRZ (kz := 1) e_PS_event_75 fl_PS_12 hz kq_0 (by decide) fj_9_0 rfl ?_
              refine g_getRZ (kz := 23) e_PS_event_78 fl_PS_260 hz kq_1 (by decide) fj_6_5 rfl ?_
              refine g_iload_n e_PS_event_81 rfl ?_
              refine g_callV (rv := rvI) (As := [.int v1]) (st := []) e_PS_event_82 mv_PS_243 my_Row_add (by decide) rfl rfl kq_23 (hz.lt kq_23) rfl (Nat.le_of_ble_eq_true rfl) rfl (fun r M1 h => c_Row_add hz kq_23 h) (fun r21 M20 h22 => ?_)
              refine g_if_ne e_PS_event_85 (fun c23 => ?_) (fun c23 => ?_)
              · refine g_aload_n e_PS_event_91 rfl ?_
                refine g_getRZ (kz := 1) e_PS_event_92 fl_PS_12 hz kq_0 (by decide) fj_9_0 rfl ?_
                refine g_getRZ (kz := 25) e_PS_event_95 fl_PS_263 hz kq_1 (by decide) fj_6_6 rfl ?_
                refine g_iload_n e_PS_event_98 rfl ?_
                refine g_callV (rv := rvI) (As := [.int v2]) (st := []) e_PS_event_99 mv_PS_243 my_Row_add (by decide) rfl rfl kq_25 (hz.lt kq_25) rfl (Nat.le_of_ble_eq_true rfl) rfl (fun r M1 h => c_Row_add hz kq_25 h) (fun r25 M24 h26 => ?_)
                refine g_pop e_PS_event_102 rfl ?_
                refine g_aload_n e_PS_event_103 rfl ?_
                refine g_getRZ (kz := 1) e_PS_event_104 fl_PS_12 hz kq_0 (by decide) fj_9_0 rfl ?_
                refine g_getRZ (kz := 23) e_PS_event_107 fl_PS_260 hz kq_1 (by decide) fj_6_5 rfl ?_
                refine g_getI e_PS_event_110 fl_PS_205 kq_23 (hz.lt kq_23) fj_4_1 ?_
                exact g_iret e_PS_event_113 rfl
              · refine g_bipush (x := (-4 : Int32)) e_PS_event_88 (by decide) ?_
                exact g_iret e_PS_event_90 rfl
            · refine g_bipush (x := (-2 : Int32)) e_PS_event_71 (by decide) ?_
              exact g_iret e_PS_event_73 rfl
          · refine g_icmp_lt' e_PS_event_45 (fun c16 => ?_) (fun c16 => ?_)
            · refine g_iconst (x := (0 : Int32)) e_PS_event_57 (by decide) ?_
              refine g_goto e_PS_event_58 ?_
              exact (g_pt c16 (g_lt (g_wq (hj27 (0 : Int32)) ⟨rfl, rfl, rfl, trivial⟩)))
            · refine g_iload_n e_PS_event_48 rfl ?_
              refine g_iconst (x := (4 : Int32)) e_PS_event_49 (by decide) ?_
              refine g_icmp_gt' e_PS_event_50 (fun c17 => ?_) (fun c17 => ?_)
              · refine g_iconst (x := (0 : Int32)) e_PS_event_57 (by decide) ?_
                refine g_goto e_PS_event_58 ?_
                exact (g_pf c16 (g_pt c17 (g_lt (g_wq (hj27 (0 : Int32)) ⟨rfl, rfl, rfl, trivial⟩))))
              · refine g_iconst (x := (1 : Int32)) e_PS_event_53 (by decide) ?_
                refine g_goto e_PS_event_54 ?_
                exact (g_pf c16 (g_pf c17 (g_lt (g_wq (hj27 (1 : Int32)) ⟨rfl, rfl, rfl, trivial⟩))))
      · refine g_iconst (x := (-1 : Int32)) e_PS_event_36 (by decide) ?_
        exact g_iret e_PS_event_37 rfl
  · refine g_aload_n e_PS_event_5 rfl ?_
    refine g_getRZ (kz := 1) e_PS_event_6 fl_PS_12 hz kq_0 (by decide) fj_9_0 rfl ?_
    refine g_getRZ (kz := 23) e_PS_event_9 fl_PS_260 hz kq_1 (by decide) fj_6_5 rfl ?_
    refine g_callV (rv := rvU) (As := []) (st := []) e_PS_event_12 mv_PS_237 my_Row_clear (by decide) rfl rfl kq_23 (hz.lt kq_23) rfl (Nat.le_of_ble_eq_true rfl) rfl (fun r M1 h => c_Row_clear hz kq_23 h) (fun r29 M28 h30 => ?_)
    refine g_aload_n e_PS_event_15 rfl ?_
    refine g_getRZ (kz := 1) e_PS_event_16 fl_PS_12 hz kq_0 (by decide) fj_9_0 rfl ?_
    refine g_getRZ (kz := 25) e_PS_event_19 fl_PS_263 hz kq_1 (by decide) fj_6_6 rfl ?_
    refine g_callV (rv := rvU) (As := []) (st := []) e_PS_event_22 mv_PS_237 my_Row_clear (by decide) rfl rfl kq_25 (hz.lt kq_25) rfl (Nat.le_of_ble_eq_true rfl) rfl (fun r M1 h => c_Row_clear hz kq_25 h) (fun r32 M31 h33 => ?_)
    refine g_iconst (x := (0 : Int32)) e_PS_event_25 (by decide) ?_
    exact g_iret e_PS_event_26 rfl
set_option maxHeartbeats 4000000 in
set_option maxRecDepth 20000 in
theorem c_PS_event {l : Launch} {G : KG} {Z : ZZ} {v1 : Int32} {v2 : Int32} {M M' : Mm} {r : Int32} (hz : FU Z) (h : f_PS_event v1 v2 M = some (r, M')) : CT l G y_PS_event md_PS_event 0 0 [rf G 0, .int v1, .int v2] Z.2.2.1 Z.2.2.2 M (rvI r) Z.2.2.1 Z.2.2.2 M' :=
  CT.of (Z := (0, 0, Z.2.2.1, Z.2.2.2)) (Z' := (0, 0, Z.2.2.1, Z.2.2.2)) 1 (by decide) rfl ⟨rfl, rfl⟩ (by show 3 ≤ 4; decide) rfl h (fun X _ hG => by subst hG; exact t_PS_event hz)
set_option maxHeartbeats 4000000 in
set_option maxRecDepth 20000 in
theorem t_PS_after_27 {X : KX} {Z : ZZ} (hz : FU Z) : ∀ (n : Nat) (v1 : Int32) (v2 : Int32) (M : Mm), GO X md_PS_after (QE X rvI Z) 27 [some (rf (kG X) 0), some (.int v1), some (.int v2)] [] Z M (f_PS_after_27 n v1 v2 M) := by
  intro n
  induction n with
  | zero =>
    intro v1 v2 M
    exact g_none
  | succ n ih =>
    intro v1 v2 M
    rw [f_PS_after_27_s]
    refine g_iload_n e_PS_after_27 rfl ?_
    refine g_aload_n e_PS_after_28 rfl ?_
    refine g_getRZ (kz := 1) e_PS_after_29 fl_PS_12 hz kq_0 (by decide) fj_9_0 rfl ?_
    refine g_getRZ (kz := 23) e_PS_after_32 fl_PS_260 hz kq_1 (by decide) fj_6_5 rfl ?_
    refine g_getI e_PS_after_35 fl_PS_205 kq_23 (hz.lt kq_23) fj_4_1 ?_
    refine g_icmp_ge e_PS_after_38 (fun c6 => ?_) (fun c6 => ?_)
    · refine g_iload_n e_PS_after_76 rfl ?_
      refine g_if_ne e_PS_after_77 (fun c7 => ?_) (fun c7 => ?_)
      · refine g_iload_n e_PS_after_88 rfl ?_
        refine g_iconst (x := (2 : Int32)) e_PS_after_89 (by decide) ?_
        refine g_icmp_ne e_PS_after_90 (fun c8 => ?_) (fun c8 => ?_)
        · refine g_aload_n e_PS_after_101 rfl ?_
          refine g_getRZ (kz := 53) e_PS_after_102 fl_PS_24 hz kq_0 (by decide) fj_9_3 rfl ?_
          refine g_getRZ (kz := 55) e_PS_after_105 fl_PS_102 hz kq_53 (by decide) fj_0_10 rfl ?_
          refine g_aload_n e_PS_after_108 rfl ?_
          refine g_getRZ (kz := 53) e_PS_after_109 fl_PS_24 hz kq_0 (by decide) fj_9_3 rfl ?_
          refine g_iconst (x := (1 : Int32)) e_PS_after_112 (by decide) ?_
          refine g_callV (rv := rvU) (As := [rf (kG X) 53, .int (1 : Int32)]) (st := []) e_PS_after_113 mv_PS_106 my_Spot_find (by decide) rfl rfl kq_55 (hz.lt kq_55) rfl (Nat.le_of_ble_eq_true rfl) rfl (fun r M1 h => c_Spot_find hz kq_55 kq_53 h) (fun r10 M9 h11 => ?_)
          refine g_aload_n e_PS_after_116 rfl ?_
          refine g_getRZ (kz := 53) e_PS_after_117 fl_PS_24 hz kq_0 (by decide) fj_9_3 rfl ?_
          refine g_getRZ (kz := 55) e_PS_after_120 fl_PS_102 hz kq_53 (by decide) fj_0_10 rfl ?_
          refine g_callV (rv := rvI) (As := []) (st := []) e_PS_after_123 mv_PS_120 my_Spot_cell (by decide) rfl rfl kq_55 (hz.lt kq_55) rfl (Nat.le_of_ble_eq_true rfl) rfl (fun r M1 h => c_Spot_cell hz kq_55 h) (fun r13 M12 h14 => ?_)
          exact g_iret e_PS_after_126 rfl
        · refine g_aload_n e_PS_after_93 rfl ?_
          refine g_getRZ (kz := 53) e_PS_after_94 fl_PS_24 hz kq_0 (by decide) fj_9_3 rfl ?_
          refine g_callV (rv := rvI) (As := []) (st := []) e_PS_after_97 mv_PS_70 my_Job_empties (by decide) rfl rfl kq_53 (hz.lt kq_53) rfl (Nat.le_of_ble_eq_true rfl) rfl (fun r M1 h => c_Job_empties hz kq_53 h) (fun r16 M15 h17 => ?_)
          exact g_iret e_PS_after_100 rfl
      · refine g_aload_n e_PS_after_80 rfl ?_
        refine g_getRZ (kz := 53) e_PS_after_81 fl_PS_24 hz kq_0 (by decide) fj_9_3 rfl ?_
        refine g_callV (rv := rvI) (As := []) (st := []) e_PS_after_84 mv_PS_67 my_Job_sheets (by decide) rfl rfl kq_53 (hz.lt kq_53) rfl (Nat.le_of_ble_eq_true rfl) rfl (fun r M1 h => c_Job_sheets hz kq_53 h) (fun r19 M18 h20 => ?_)
        exact g_iret e_PS_after_87 rfl
    · refine g_aload_n e_PS_after_41 rfl ?_
      refine g_getRZ (kz := 53) e_PS_after_42 fl_PS_24 hz kq_0 (by decide) fj_9_3 rfl ?_
      refine g_aload_n e_PS_after_45 rfl ?_
      refine g_getRZ (kz := 1) e_PS_after_46 fl_PS_12 hz kq_0 (by decide) fj_9_0 rfl ?_
      refine g_getRZ (kz := 23) e_PS_after_49 fl_PS_260 hz kq_1 (by decide) fj_6_5 rfl ?_
      refine g_iload_n e_PS_after_52 rfl ?_
      refine g_callV (rv := rvI) (As := [.int v2]) (st := [rf (kG X) 53]) e_PS_after_53 mv_PS_216 my_Row_get (by decide) rfl rfl kq_23 (hz.lt kq_23) rfl (Nat.le_of_ble_eq_true rfl) rfl (fun r M1 h => c_Row_get hz kq_23 h) (fun r22 M21 h23 => ?_)
      refine g_aload_n e_PS_after_56 rfl ?_
      refine g_getRZ (kz := 1) e_PS_after_57 fl_PS_12 hz kq_0 (by decide) fj_9_0 rfl ?_
      refine g_getRZ (kz := 25) e_PS_after_60 fl_PS_263 hz kq_1 (by decide) fj_6_6 rfl ?_
      refine g_iload_n e_PS_after_63 rfl ?_
      refine g_callV (rv := rvI) (As := [.int v2]) (st := [.int r22, rf (kG X) 53]) e_PS_after_64 mv_PS_216 my_Row_get (by decide) rfl rfl kq_25 (hz.lt kq_25) rfl (Nat.le_of_ble_eq_true rfl) rfl (fun r M1 h => c_Row_get hz kq_25 h) (fun r25 M24 h26 => ?_)
      refine g_callV (rv := rvU) (As := [.int r22, .int r25]) (st := []) e_PS_after_67 mv_PS_270 my_Job_undergo (by decide) rfl rfl kq_53 (hz.lt kq_53) rfl (Nat.le_of_ble_eq_true rfl) rfl (fun r M1 h => c_Job_undergo hz kq_53 h) (fun r28 M27 h29 => ?_)
      refine g_iincL (c := (1 : Int32)) e_PS_after_70 rfl (by decide) (by decide) rfl (fun x30 => ?_)
      refine g_goto e_PS_after_73 ?_
      exact g_wq (ih v1 x30 M27) ⟨rfl, rfl, rfl, trivial⟩
set_option maxHeartbeats 4000000 in
set_option maxRecDepth 20000 in
theorem t_PS_after {X : KX} {Z : ZZ} {v1 : Int32} {M : Mm} (hz : FU Z) : GO X md_PS_after (QE X rvI Z) 0 [some (rf (kG X) 0), some (.int v1), none] [] Z M (f_PS_after v1 M) := by
  unfold f_PS_after
  refine g_iload_n e_PS_after_0 rfl ?_
  refine g_if_lt e_PS_after_1 (fun c1 => ?_) (fun c1 => ?_)
  · refine g_iconst (x := (-1 : Int32)) e_PS_after_9 (by decide) ?_
    exact g_iret e_PS_after_10 rfl
  · refine g_iload_n e_PS_after_4 rfl ?_
    refine g_iconst (x := (2 : Int32)) e_PS_after_5 (by decide) ?_
    refine g_icmp_le e_PS_after_6 (fun c2 => ?_) (fun c2 => ?_)
    · refine g_aload_n e_PS_after_11 rfl ?_
      refine g_getRZ (kz := 53) e_PS_after_12 fl_PS_24 hz kq_0 (by decide) fj_9_3 rfl ?_
      refine g_aload_n e_PS_after_15 rfl ?_
      refine g_getRZ (kz := 1) e_PS_after_16 fl_PS_12 hz kq_0 (by decide) fj_9_0 rfl ?_
      refine g_getRZ (kz := 2) e_PS_after_19 fl_PS_50 hz kq_1 (by decide) fj_6_0 rfl ?_
      refine g_callV (rv := rvU) (As := [rf (kG X) 2]) (st := []) e_PS_after_22 mv_PS_246 my_Job_copy (by decide) rfl rfl kq_53 (hz.lt kq_53) rfl (Nat.le_of_ble_eq_true rfl) rfl (fun r M1 h => c_Job_copy hz kq_53 kq_2 h) (fun r4 M3 h5 => ?_)
      refine g_iconst (x := (0 : Int32)) e_PS_after_25 (by decide) ?_
      refine g_istore_n e_PS_after_26 (by decide) rfl ?_
      exact g_wq (t_PS_after_27 hz fuel v1 (0 : Int32) M3) ⟨rfl, rfl, rfl, trivial⟩
    · refine g_iconst (x := (-1 : Int32)) e_PS_after_9 (by decide) ?_
      exact g_iret e_PS_after_10 rfl
set_option maxHeartbeats 4000000 in
set_option maxRecDepth 20000 in
theorem c_PS_after {l : Launch} {G : KG} {Z : ZZ} {v1 : Int32} {M M' : Mm} {r : Int32} (hz : FU Z) (h : f_PS_after v1 M = some (r, M')) : CT l G y_PS_after md_PS_after 0 0 [rf G 0, .int v1] Z.2.2.1 Z.2.2.2 M (rvI r) Z.2.2.1 Z.2.2.2 M' :=
  CT.of (Z := (0, 0, Z.2.2.1, Z.2.2.2)) (Z' := (0, 0, Z.2.2.1, Z.2.2.2)) 1 (by decide) rfl ⟨rfl, rfl⟩ (by show 2 ≤ 3; decide) rfl h (fun X _ hG => by subst hG; exact t_PS_after hz)
set_option maxHeartbeats 4000000 in
set_option maxRecDepth 20000 in
theorem t_PS_feed {X : KX} {Z : ZZ} {v1 : Int32} {M : Mm} (hz : FU Z) : GO X md_PS_feed (QE X rvI Z) 0 [some (rf (kG X) 0), some (.int v1)] [] Z M (f_PS_feed v1 M) := by
  unfold f_PS_feed
  refine g_iload_n e_PS_feed_0 rfl ?_
  refine g_if_lt e_PS_feed_1 (fun c1 => ?_) (fun c1 => ?_)
  · refine g_bipush (x := (-2 : Int32)) e_PS_feed_10 (by decide) ?_
    exact g_iret e_PS_feed_12 rfl
  · refine g_iload_n e_PS_feed_4 rfl ?_
    refine g_bipush (x := (127 : Int32)) e_PS_feed_5 (by decide) ?_
    refine g_icmp_le e_PS_feed_7 (fun c2 => ?_) (fun c2 => ?_)
    · refine g_aload_n e_PS_feed_13 rfl ?_
      refine g_getRZ (kz := 56) e_PS_feed_14 fl_PS_31 hz kq_0 (by decide) fj_9_4 rfl ?_
      refine g_getRZ (kz := 57) e_PS_feed_17 fl_PS_273 hz kq_56 (by decide) fj_8_0 rfl ?_
      refine g_iload_n e_PS_feed_20 rfl ?_
      refine g_callV (rv := rvI) (As := [.int v1]) (st := []) e_PS_feed_21 mv_PS_243 my_Row_add (by decide) rfl rfl kq_57 (hz.lt kq_57) rfl (Nat.le_of_ble_eq_true rfl) rfl (fun r M1 h => c_Row_add hz kq_57 h) (fun r4 M3 h5 => ?_)
      refine g_phi1 42 (fun x7 => [none, none]) (fun x7 => [.int x7]) (fun x7 => ?_) (fun hj8 => ?_)
      · show GO X _ _ 42 [none, none] [.int x7] Z M3 _
        exact g_iret e_PS_feed_42 rfl
      · refine g_if_eq' e_PS_feed_24 (fun c6 => ?_) (fun c6 => ?_)
        · refine g_bipush (x := (-4 : Int32)) e_PS_feed_40 (by decide) ?_
          exact (g_pt c6 (g_lt (g_wq (hj8 (-4 : Int32)) trivial)))
        · refine g_aload_n e_PS_feed_27 rfl ?_
          refine g_getRZ (kz := 56) e_PS_feed_28 fl_PS_31 hz kq_0 (by decide) fj_9_4 rfl ?_
          refine g_getRZ (kz := 57) e_PS_feed_31 fl_PS_273 hz kq_56 (by decide) fj_8_0 rfl ?_
          refine g_getI e_PS_feed_34 fl_PS_205 kq_57 (hz.lt kq_57) fj_4_1 ?_
          refine g_goto e_PS_feed_37 ?_
          exact (g_pf c6 (g_lt (g_wq (hj8 (M3.1 57 1)) trivial)))
    · refine g_bipush (x := (-2 : Int32)) e_PS_feed_10 (by decide) ?_
      exact g_iret e_PS_feed_12 rfl
set_option maxHeartbeats 4000000 in
set_option maxRecDepth 20000 in
theorem c_PS_feed {l : Launch} {G : KG} {Z : ZZ} {v1 : Int32} {M M' : Mm} {r : Int32} (hz : FU Z) (h : f_PS_feed v1 M = some (r, M')) : CT l G y_PS_feed md_PS_feed 0 0 [rf G 0, .int v1] Z.2.2.1 Z.2.2.2 M (rvI r) Z.2.2.1 Z.2.2.2 M' :=
  CT.of (Z := (0, 0, Z.2.2.1, Z.2.2.2)) (Z' := (0, 0, Z.2.2.1, Z.2.2.2)) 0 (by decide) rfl ⟨rfl, rfl⟩ (by show 2 ≤ 2; decide) rfl h (fun X _ hG => by subst hG; exact t_PS_feed hz)
set_option maxHeartbeats 4000000 in
set_option maxRecDepth 20000 in
theorem t_PS_read_92 {X : KX} {Z : ZZ} {rec32 : Int32 → Int32 → Mm → Option (Int32 × Mm)} (hz : FU Z) (hr32 : ∀ (v2 : Int32) (v3 : Int32) (M : Mm), GO X md_PS_read (QE X rvI Z) 32 [some (rf (kG X) 0), none, some (.int v2), some (.int v3)] [] Z M (rec32 v2 v3 M)) : ∀ (v2 : Int32) (v3 : Int32) (M : Mm), GO X md_PS_read (QE X rvI Z) 92 [some (rf (kG X) 0), none, some (.int v2), some (.int v3)] [] Z M (f_PS_read_92 rec32 v2 v3 M) := by
  intro v2 v3 M
  unfold f_PS_read_92
  refine g_iincL (c := (1 : Int32)) e_PS_read_92 rfl (by decide) (by decide) rfl (fun x22 => ?_)
  refine g_goto e_PS_read_95 ?_
  exact g_wq (hr32 v2 x22 M) ⟨rfl, rfl, rfl, trivial⟩
set_option maxHeartbeats 4000000 in
set_option maxRecDepth 20000 in
theorem t_PS_read_32 {X : KX} {Z : ZZ} (hz : FU Z) : ∀ (n : Nat) (v2 : Int32) (v3 : Int32) (M : Mm), GO X md_PS_read (QE X rvI Z) 32 [some (rf (kG X) 0), none, some (.int v2), some (.int v3)] [] Z M (f_PS_read_32 n v2 v3 M) := by
  intro n
  induction n with
  | zero =>
    intro v2 v3 M
    exact g_none
  | succ n ih =>
    intro v2 v3 M
    rw [f_PS_read_32_s]
    refine g_iload_n e_PS_read_32 rfl ?_
    refine g_aload_n e_PS_read_33 rfl ?_
    refine g_getRZ (kz := 56) e_PS_read_34 fl_PS_31 hz kq_0 (by decide) fj_9_4 rfl ?_
    refine g_getRZ (kz := 59) e_PS_read_37 fl_PS_279 hz kq_56 (by decide) fj_8_1 rfl ?_
    refine g_getI e_PS_read_40 fl_PS_205 kq_59 (hz.lt kq_59) fj_4_1 ?_
    refine g_icmp_ge e_PS_read_43 (fun c8 => ?_) (fun c8 => ?_)
    · refine g_iload_n e_PS_read_98 rfl ?_
      exact g_iret e_PS_read_99 rfl
    · refine g_aload_n e_PS_read_46 rfl ?_
      refine g_getRZ (kz := 1) e_PS_read_47 fl_PS_12 hz kq_0 (by decide) fj_9_0 rfl ?_
      refine g_aload_n e_PS_read_50 rfl ?_
      refine g_getRZ (kz := 56) e_PS_read_51 fl_PS_31 hz kq_0 (by decide) fj_9_4 rfl ?_
      refine g_getRZ (kz := 59) e_PS_read_54 fl_PS_279 hz kq_56 (by decide) fj_8_1 rfl ?_
      refine g_iload_n e_PS_read_57 rfl ?_
      refine g_callV (rv := rvI) (As := [.int v3]) (st := [rf (kG X) 1]) e_PS_read_58 mv_PS_216 my_Row_get (by decide) rfl rfl kq_59 (hz.lt kq_59) rfl (Nat.le_of_ble_eq_true rfl) rfl (fun r M1 h => c_Row_get hz kq_59 h) (fun r10 M9 h11 => ?_)
      refine g_aload_n e_PS_read_61 rfl ?_
      refine g_getRZ (kz := 56) e_PS_read_62 fl_PS_31 hz kq_0 (by decide) fj_9_4 rfl ?_
      refine g_getRZ (kz := 61) e_PS_read_65 fl_PS_282 hz kq_56 (by decide) fj_8_2 rfl ?_
      refine g_iload_n e_PS_read_68 rfl ?_
      refine g_callV (rv := rvI) (As := [.int v3]) (st := [.int r10, rf (kG X) 1]) e_PS_read_69 mv_PS_216 my_Row_get (by decide) rfl rfl kq_61 (hz.lt kq_61) rfl (Nat.le_of_ble_eq_true rfl) rfl (fun r M1 h => c_Row_get hz kq_61 h) (fun r13 M12 h14 => ?_)
      refine g_aload_n e_PS_read_72 rfl ?_
      refine g_getRZ (kz := 56) e_PS_read_73 fl_PS_31 hz kq_0 (by decide) fj_9_4 rfl ?_
      refine g_getRZ (kz := 63) e_PS_read_76 fl_PS_285 hz kq_56 (by decide) fj_8_3 rfl ?_
      refine g_iload_n e_PS_read_79 rfl ?_
      refine g_callV (rv := rvI) (As := [.int v3]) (st := [.int r13, .int r10, rf (kG X) 1]) e_PS_read_80 mv_PS_216 my_Row_get (by decide) rfl rfl kq_63 (hz.lt kq_63) rfl (Nat.le_of_ble_eq_true rfl) rfl (fun r M1 h => c_Row_get hz kq_63 h) (fun r16 M15 h17 => ?_)
      refine g_callV (rv := rvI) (As := [.int r10, .int r13, .int r16]) (st := []) e_PS_read_83 mv_PS_288 my_State_follows (by decide) rfl rfl kq_1 (hz.lt kq_1) rfl (Nat.le_of_ble_eq_true rfl) rfl (fun r M1 h => c_State_follows hz kq_1 h) (fun r19 M18 h20 => ?_)
      refine g_if_eq e_PS_read_86 (fun c21 => ?_) (fun c21 => ?_)
      · exact g_wq (t_PS_read_92 hz (ih) v2 v3 M18) ⟨rfl, rfl, rfl, trivial⟩
      · refine g_iincL (c := (1 : Int32)) e_PS_read_89 rfl (by decide) (by decide) rfl (fun x23 => ?_)
        exact g_wq (t_PS_read_92 hz (ih) x23 v3 M18) ⟨rfl, rfl, rfl, trivial⟩
set_option maxHeartbeats 4000000 in
set_option maxRecDepth 20000 in
theorem t_PS_read {X : KX} {Z : ZZ} {M : Mm} (hz : FU Z) : GO X md_PS_read (QE X rvI Z) 0 [some (rf (kG X) 0), none, none, none] [] Z M (f_PS_read M) := by
  unfold f_PS_read
  refine g_aload_n e_PS_read_0 rfl ?_
  refine g_getRZ (kz := 56) e_PS_read_1 fl_PS_31 hz kq_0 (by decide) fj_9_4 rfl ?_
  refine g_callV (rv := rvI) (As := []) (st := []) e_PS_read_4 mv_PS_276 my_Text_parse (by decide) rfl rfl kq_56 (hz.lt kq_56) rfl (Nat.le_of_ble_eq_true rfl) rfl (fun r M1 h => c_Text_parse hz  h) (fun r2 M1 h3 => ?_)
  refine g_istore_n e_PS_read_7 (by decide) rfl ?_
  refine g_aload_n e_PS_read_8 rfl ?_
  refine g_getRZ (kz := 56) e_PS_read_9 fl_PS_31 hz kq_0 (by decide) fj_9_4 rfl ?_
  refine g_getRZ (kz := 57) e_PS_read_12 fl_PS_273 hz kq_56 (by decide) fj_8_0 rfl ?_
  refine g_callV (rv := rvU) (As := []) (st := []) e_PS_read_15 mv_PS_237 my_Row_clear (by decide) rfl rfl kq_57 (hz.lt kq_57) rfl (Nat.le_of_ble_eq_true rfl) rfl (fun r M1 h => c_Row_clear hz kq_57 h) (fun r5 M4 h6 => ?_)
  refine g_iload_n e_PS_read_18 rfl ?_
  refine g_iconst (x := (-1 : Int32)) e_PS_read_19 (by decide) ?_
  refine g_icmp_eq e_PS_read_20 (fun c7 => ?_) (fun c7 => ?_)
  · refine g_iconst (x := (0 : Int32)) e_PS_read_28 (by decide) ?_
    refine g_istore_n e_PS_read_29 (by decide) rfl ?_
    refine g_iconst (x := (0 : Int32)) e_PS_read_30 (by decide) ?_
    refine g_istore_n e_PS_read_31 (by decide) rfl ?_
    exact g_wq (t_PS_read_32 hz fuel (0 : Int32) (0 : Int32) M4) ⟨rfl, rfl, rfl, trivial⟩
  · refine g_bipush (x := (-10 : Int32)) e_PS_read_23 (by decide) ?_
    refine g_iload_n e_PS_read_25 rfl ?_
    refine g_isub e_PS_read_26 ?_
    exact g_iret e_PS_read_27 rfl
set_option maxHeartbeats 4000000 in
set_option maxRecDepth 20000 in
theorem c_PS_read {l : Launch} {G : KG} {Z : ZZ} {M M' : Mm} {r : Int32} (hz : FU Z) (h : f_PS_read M = some (r, M')) : CT l G y_PS_read md_PS_read 0 0 [rf G 0] Z.2.2.1 Z.2.2.2 M (rvI r) Z.2.2.1 Z.2.2.2 M' :=
  CT.of (Z := (0, 0, Z.2.2.1, Z.2.2.2)) (Z' := (0, 0, Z.2.2.1, Z.2.2.2)) 3 (by decide) rfl ⟨rfl, rfl⟩ (by show 1 ≤ 4; decide) rfl h (fun X _ hG => by subst hG; exact t_PS_read hz)
set_option maxHeartbeats 4000000 in
set_option maxRecDepth 20000 in
theorem t_PS_tapeAt {X : KX} {Z : ZZ} {v1 : Int32} {M : Mm} (hz : FU Z) : GO X md_PS_tapeAt (QE X (rvO (kG X)) Z) 0 [some (rf (kG X) 0), some (.int v1)] [] Z M (f_PS_tapeAt v1 M) := by
  unfold f_PS_tapeAt
  refine g_iload_n e_PS_tapeAt_0 rfl ?_
  refine g_if_lt e_PS_tapeAt_1 (fun c1 => ?_) (fun c1 => ?_)
  · refine g_null e_PS_tapeAt_13 ?_
    refine g_goto e_PS_tapeAt_14 ?_
    exact g_aret (k := none) e_PS_tapeAt_23 rfl rfl
  · refine g_iload_n e_PS_tapeAt_4 rfl ?_
    refine g_aload_n e_PS_tapeAt_5 rfl ?_
    refine g_getRZ (kz := 65) e_PS_tapeAt_6 fl_PS_38 hz kq_0 (by decide) fj_9_5 rfl ?_
    refine g_alenT e_PS_tapeAt_9 kq_65 (hz.lt kq_65) ?_
    refine g_icmp_lt e_PS_tapeAt_10 (fun c2 => ?_) (fun c2 => ?_)
    · refine g_aload_n e_PS_tapeAt_17 rfl ?_
      refine g_getRZ (kz := 65) e_PS_tapeAt_18 fl_PS_38 hz kq_0 (by decide) fj_9_5 rfl ?_
      refine g_iload_n e_PS_tapeAt_21 rfl ?_
      refine g_aaldG e_PS_tapeAt_22 hz kq_65 ?_
      exact g_aret (k := some (66 + 2 * Int32.toNatClampNeg v1)) e_PS_tapeAt_23 rfl rfl
    · refine g_null e_PS_tapeAt_13 ?_
      refine g_goto e_PS_tapeAt_14 ?_
      exact g_aret (k := none) e_PS_tapeAt_23 rfl rfl
set_option maxHeartbeats 4000000 in
set_option maxRecDepth 20000 in
theorem c_PS_tapeAt {l : Launch} {G : KG} {Z : ZZ} {v1 : Int32} {M M' : Mm} {r : Option Nat} (hz : FU Z) (h : f_PS_tapeAt v1 M = some (r, M')) : CT l G y_PS_tapeAt md_PS_tapeAt 0 0 [rf G 0, .int v1] Z.2.2.1 Z.2.2.2 M (rvO G r) Z.2.2.1 Z.2.2.2 M' :=
  CT.of (Z := (0, 0, Z.2.2.1, Z.2.2.2)) (Z' := (0, 0, Z.2.2.1, Z.2.2.2)) 0 (by decide) rfl ⟨rfl, rfl⟩ (by show 2 ≤ 2; decide) rfl h (fun X _ hG => by subst hG; exact t_PS_tapeAt hz)
set_option maxHeartbeats 4000000 in
set_option maxRecDepth 20000 in
theorem t_PS_judge_72 {X : KX} {Z : ZZ} {a4 : Nat} {rec59 : Int32 → Int32 → Int32 → Int32 → Mm → Option (Int32 × Mm)} (hz : FU Z) (ha4 : kD a4 = 7) (hr59 : ∀ (v1 : Int32) (v3 : Int32) (v6 : Int32) (v7 : Int32) (M : Mm), GO X md_PS_judge (QE X rvI Z) 59 [none, some (.int v1), none, some (.int v3), some (rf (kG X) 2), some (rf (kG X) a4), some (.int v6), some (.int v7), none, none] [] Z M (rec59 v1 v3 v6 v7 M)) : ∀ (n : Nat) (v1 : Int32) (v3 : Int32) (v6 : Int32) (v7 : Int32) (v8 : Int32) (M : Mm), GO X md_PS_judge (QE X rvI Z) 72 [none, some (.int v1), none, some (.int v3), some (rf (kG X) 2), some (rf (kG X) a4), some (.int v6), some (.int v7), some (.int v8), none] [] Z M (f_PS_judge_72 a4 rec59 n v1 v3 v6 v7 v8 M) := by
  intro n
  induction n with
  | zero =>
    intro v1 v3 v6 v7 v8 M
    exact g_none
  | succ n ih =>
    intro v1 v3 v6 v7 v8 M
    rw [f_PS_judge_72_s]
    refine g_iload e_PS_judge_72 rfl ?_
    refine g_aload e_PS_judge_74 rfl ?_
    refine g_getI e_PS_judge_76 fl_PS_60 kq_2 (hz.lt kq_2) fj_0_2 ?_
    refine g_icmp_ge e_PS_judge_79 (fun c16 => ?_) (fun c16 => ?_)
    · refine g_iincL (c := (1 : Int32)) e_PS_judge_170 rfl (by decide) (by decide) rfl (fun x17 => ?_)
      refine g_goto e_PS_judge_173 ?_
      exact g_wq (hr59 v1 v3 v6 x17 M) ⟨rfl, rfl, rfl, rfl, rfl, rfl, trivial⟩
    · refine g_aload e_PS_judge_82 rfl ?_
      refine g_iload_n e_PS_judge_84 rfl ?_
      refine g_callV (rv := rvI) (As := [.int v3]) (st := []) e_PS_judge_85 mv_PS_301 my_Tape_has (by decide) rfl rfl ha4 (hz.lt ha4) rfl (Nat.le_of_ble_eq_true rfl) rfl (fun r M1 h => c_Tape_has hz ha4 h) (fun r19 M18 h20 => ?_)
      refine g_if_eq e_PS_judge_88 (fun c21 => ?_) (fun c21 => ?_)
      · refine g_bipush (x := (100 : Int32)) e_PS_judge_103 (by decide) ?_
        refine g_iload e_PS_judge_105 rfl ?_
        refine g_iadd e_PS_judge_107 ?_
        exact g_iret e_PS_judge_108 rfl
      · refine g_aload e_PS_judge_91 rfl ?_
        refine g_iload_n e_PS_judge_93 rfl ?_
        refine g_iload e_PS_judge_94 rfl ?_
        refine g_iadd e_PS_judge_96 ?_
        refine g_callV (rv := rvI) (As := [.int (v3 + v6)]) (st := []) e_PS_judge_97 mv_PS_301 my_Tape_has (by decide) rfl rfl ha4 (hz.lt ha4) rfl (Nat.le_of_ble_eq_true rfl) rfl (fun r M1 h => c_Tape_has hz ha4 h) (fun r23 M22 h24 => ?_)
        refine g_if_ne e_PS_judge_100 (fun c25 => ?_) (fun c25 => ?_)
        · refine g_aload e_PS_judge_109 rfl ?_
          refine g_iload_n e_PS_judge_111 rfl ?_
          refine g_bipush (x := (10 : Int32)) e_PS_judge_112 (by decide) ?_
          refine g_idiv e_PS_judge_114 (by decide) ?_
          refine g_iload_n e_PS_judge_115 rfl ?_
          refine g_bipush (x := (10 : Int32)) e_PS_judge_116 (by decide) ?_
          refine g_irem e_PS_judge_118 (by decide) ?_
          refine g_iload e_PS_judge_119 rfl ?_
          refine g_iload e_PS_judge_121 rfl ?_
          refine g_callV (rv := rvI) (As := [.int (v1 / (10 : Int32)), .int (v1 % (10 : Int32)), .int v7, .int v8]) (st := []) e_PS_judge_123 mv_PS_133 my_Job_pageSeen (by decide) rfl rfl kq_2 (hz.lt kq_2) rfl (Nat.le_of_ble_eq_true rfl) rfl (fun r M1 h => c_Job_pageSeen hz kq_2 h) (fun r27 M26 h28 => ?_)
          refine g_istore e_PS_judge_126 (by decide) rfl ?_
          refine g_aload e_PS_judge_128 rfl ?_
          refine g_iload_n e_PS_judge_130 rfl ?_
          refine g_iload e_PS_judge_131 rfl ?_
          refine g_iadd e_PS_judge_133 ?_
          refine g_callV (rv := rvJ) (As := [.int (v3 + v6)]) (st := []) e_PS_judge_134 mv_PS_302 my_Tape_get (by decide) rfl rfl ha4 (hz.lt ha4) rfl (Nat.le_of_ble_eq_true rfl) rfl (fun r M1 h => c_Tape_get hz ha4 h) (fun r30 M29 h31 => ?_)
          refine g_iload e_PS_judge_137 rfl ?_
          refine g_aload e_PS_judge_139 rfl ?_
          refine g_getI e_PS_judge_141 fl_PS_181 kq_2 (hz.lt kq_2) fj_0_4 ?_
          refine g_phi1 153 (fun x33 => [none, some (.int v1), none, some (.int v3), some (rf (kG X) 2), some (rf (kG X) a4), some (.int v6), some (.int v7), some (.int v8), none]) (fun x33 => [.int x33, .long r30]) (fun x33 => ?_) (fun hj37 => ?_)
          · show GO X _ _ 153 [none, some (.int v1), none, some (.int v3), some (rf (kG X) 2), some (rf (kG X) a4), some (.int v6), some (.int v7), some (.int v8), none] [.int x33, .long r30] Z M29 _
            refine g_i2l e_PS_judge_153 ?_
            refine g_lcmp e_PS_judge_154 ?_
            refine g_if_eq e_PS_judge_155 (fun c34 => ?_) (fun c34 => ?_)
            · refine g_iincL (c := (1 : Int32)) e_PS_judge_161 rfl (by decide) (by decide) rfl (fun x35 => ?_)
              refine g_iincL (c := (1 : Int32)) e_PS_judge_164 rfl (by decide) (by decide) rfl (fun x36 => ?_)
              refine g_goto e_PS_judge_167 ?_
              exact g_wq (ih v1 v3 x35 v7 x36 M29) ⟨rfl, rfl, rfl, rfl, rfl, rfl, rfl, trivial⟩
            · refine g_iload e_PS_judge_158 rfl ?_
              exact g_iret e_PS_judge_160 rfl
          · refine g_icmp_le' e_PS_judge_144 (fun c32 => ?_) (fun c32 => ?_)
            · refine g_iload e_PS_judge_151 rfl ?_
              exact (g_pt c32 (g_lt (g_wq (hj37 r27) ⟨rfl, rfl, rfl, rfl, rfl, rfl, rfl, trivial⟩)))
            · refine g_iconst (x := (0 : Int32)) e_PS_judge_147 (by decide) ?_
              refine g_goto e_PS_judge_148 ?_
              exact (g_pf c32 (g_lt (g_wq (hj37 (0 : Int32)) ⟨rfl, rfl, rfl, rfl, rfl, rfl, rfl, trivial⟩)))
        · refine g_bipush (x := (100 : Int32)) e_PS_judge_103 (by decide) ?_
          refine g_iload e_PS_judge_105 rfl ?_
          refine g_iadd e_PS_judge_107 ?_
          exact g_iret e_PS_judge_108 rfl
set_option maxHeartbeats 4000000 in
set_option maxRecDepth 20000 in
theorem t_PS_judge_59 {X : KX} {Z : ZZ} {a4 : Nat} (hz : FU Z) (ha4 : kD a4 = 7) : ∀ (n : Nat) (v1 : Int32) (v3 : Int32) (v6 : Int32) (v7 : Int32) (M : Mm), GO X md_PS_judge (QE X rvI Z) 59 [none, some (.int v1), none, some (.int v3), some (rf (kG X) 2), some (rf (kG X) a4), some (.int v6), some (.int v7), none, none] [] Z M (f_PS_judge_59 a4 n v1 v3 v6 v7 M) := by
  intro n
  induction n with
  | zero =>
    intro v1 v3 v6 v7 M
    exact g_none
  | succ n ih =>
    intro v1 v3 v6 v7 M
    rw [f_PS_judge_59_s]
    refine g_iload e_PS_judge_59 rfl ?_
    refine g_aload e_PS_judge_61 rfl ?_
    refine g_getI e_PS_judge_63 fl_PS_64 kq_2 (hz.lt kq_2) fj_0_3 ?_
    refine g_icmp_ge e_PS_judge_66 (fun c15 => ?_) (fun c15 => ?_)
    · refine g_bipush (x := (-5 : Int32)) e_PS_judge_176 (by decide) ?_
      exact g_iret e_PS_judge_178 rfl
    · refine g_iconst (x := (0 : Int32)) e_PS_judge_69 (by decide) ?_
      refine g_istore e_PS_judge_70 (by decide) rfl ?_
      exact g_wq (t_PS_judge_72 hz ha4 (ih) fuel v1 v3 v6 v7 (0 : Int32) M) ⟨rfl, rfl, rfl, rfl, rfl, rfl, rfl, trivial⟩
set_option maxHeartbeats 4000000 in
set_option maxRecDepth 20000 in
theorem t_PS_judge_53 {X : KX} {Z : ZZ} {a4 : Nat} (hz : FU Z) (ha4 : kD a4 = 7) : ∀ (v1 : Int32) (v3 : Int32) (M : Mm), GO X md_PS_judge (QE X rvI Z) 53 [none, some (.int v1), none, some (.int v3), some (rf (kG X) 2), some (rf (kG X) a4), none, none, none, none] [] Z M (f_PS_judge_53 a4 v1 v3 M) := by
  intro v1 v3 M
  unfold f_PS_judge_53
  refine g_iconst (x := (0 : Int32)) e_PS_judge_53 (by decide) ?_
  refine g_istore e_PS_judge_54 (by decide) rfl ?_
  refine g_iconst (x := (0 : Int32)) e_PS_judge_56 (by decide) ?_
  refine g_istore e_PS_judge_57 (by decide) rfl ?_
  exact g_wq (t_PS_judge_59 hz ha4 fuel v1 v3 (0 : Int32) (0 : Int32) M) ⟨rfl, rfl, rfl, rfl, rfl, rfl, trivial⟩
set_option maxHeartbeats 4000000 in
set_option maxRecDepth 20000 in
theorem t_PS_judge {X : KX} {Z : ZZ} {v1 : Int32} {v2 : Int32} {v3 : Int32} {M : Mm} (hz : FU Z) : GO X md_PS_judge (QE X rvI Z) 0 [some (rf (kG X) 0), some (.int v1), some (.int v2), some (.int v3), none, none, none, none, none, none] [] Z M (f_PS_judge v1 v2 v3 M) := by
  unfold f_PS_judge
  refine g_aload_n e_PS_judge_0 rfl ?_
  refine g_getRZ (kz := 1) e_PS_judge_1 fl_PS_12 hz kq_0 (by decide) fj_9_0 rfl ?_
  refine g_getRZ (kz := 2) e_PS_judge_4 fl_PS_50 hz kq_1 (by decide) fj_6_0 rfl ?_
  refine g_astore e_PS_judge_7 (by decide) rfl ?_
  refine g_aload_n e_PS_judge_9 rfl ?_
  refine g_iload_n e_PS_judge_10 rfl ?_
  refine g_callV (rv := rvO (kG X)) (As := [.int v2]) (st := []) e_PS_judge_11 mv_PS_291 my_PS_tapeAt (by decide) rfl rfl kq_0 (hz.lt kq_0) rfl (Nat.le_of_ble_eq_true rfl) rfl (fun r M1 h => c_PS_tapeAt hz  h) (fun r2 M1 h3 => ?_)
  cases r2 with
  | none =>
    refine g_oN ?_
    refine g_astoreN e_PS_judge_14 (by decide) rfl ?_
    refine g_aload e_PS_judge_16 rfl ?_
    refine g_iload_n e_PS_judge_18 rfl ?_
    refine g_callV (rv := rvI) (As := [.int v1]) (st := []) e_PS_judge_19 mv_PS_295 my_Job_hasForme (by decide) rfl rfl kq_2 (hz.lt kq_2) rfl (Nat.le_of_ble_eq_true rfl) rfl (fun r M1 h => c_Job_hasForme hz kq_2 h) (fun r7 M6 h8 => ?_)
    refine g_if_eq e_PS_judge_22 (fun c9 => ?_) (fun c9 => ?_)
    · refine g_iconst (x := (-1 : Int32)) e_PS_judge_30 (by decide) ?_
      exact g_iret e_PS_judge_31 rfl
    · refine g_aloadN e_PS_judge_25 rfl ?_
      refine g_ifnonnullN e_PS_judge_27 ?_
      refine g_iconst (x := (-1 : Int32)) e_PS_judge_30 (by decide) ?_
      exact g_iret e_PS_judge_31 rfl
  | some a4 =>
    refine g_oS ?_
    refine g_grd (fun ha5 => ?_)
    refine g_astore e_PS_judge_14 (by decide) rfl ?_
    refine g_aload e_PS_judge_16 rfl ?_
    refine g_iload_n e_PS_judge_18 rfl ?_
    refine g_callV (rv := rvI) (As := [.int v1]) (st := []) e_PS_judge_19 mv_PS_295 my_Job_hasForme (by decide) rfl rfl kq_2 (hz.lt kq_2) rfl (Nat.le_of_ble_eq_true rfl) rfl (fun r M1 h => c_Job_hasForme hz kq_2 h) (fun r11 M10 h12 => ?_)
    refine g_if_eq e_PS_judge_22 (fun c13 => ?_) (fun c13 => ?_)
    · refine g_iconst (x := (-1 : Int32)) e_PS_judge_30 (by decide) ?_
      exact g_iret e_PS_judge_31 rfl
    · refine g_aload e_PS_judge_25 rfl ?_
      refine g_ifnonnull e_PS_judge_27 ?_
      refine g_aload e_PS_judge_32 rfl ?_
      refine g_getI e_PS_judge_34 fl_PS_298 ha5 (hz.lt ha5) fj_7_0 ?_
      refine g_iconst (x := (-1 : Int32)) e_PS_judge_37 (by decide) ?_
      refine g_icmp_eq e_PS_judge_38 (fun c14 => ?_) (fun c14 => ?_)
      · exact g_wq (t_PS_judge_53 hz ha5 v1 v3 M10) ⟨rfl, rfl, rfl, rfl, trivial⟩
      · refine g_aload e_PS_judge_41 rfl ?_
        refine g_getI e_PS_judge_43 fl_PS_298 ha5 (hz.lt ha5) fj_7_0 ?_
        refine g_iconst (x := (1 : Int32)) e_PS_judge_46 (by decide) ?_
        refine g_icmp_eq e_PS_judge_47 (fun c38 => ?_) (fun c38 => ?_)
        · exact g_wq (t_PS_judge_53 hz ha5 v1 v3 M10) ⟨rfl, rfl, rfl, rfl, trivial⟩
        · refine g_bipush (x := (-12 : Int32)) e_PS_judge_50 (by decide) ?_
          exact g_iret e_PS_judge_52 rfl
set_option maxHeartbeats 4000000 in
set_option maxRecDepth 20000 in
theorem c_PS_judge {l : Launch} {G : KG} {Z : ZZ} {v1 : Int32} {v2 : Int32} {v3 : Int32} {M M' : Mm} {r : Int32} (hz : FU Z) (h : f_PS_judge v1 v2 v3 M = some (r, M')) : CT l G y_PS_judge md_PS_judge 0 0 [rf G 0, .int v1, .int v2, .int v3] Z.2.2.1 Z.2.2.2 M (rvI r) Z.2.2.1 Z.2.2.2 M' :=
  CT.of (Z := (0, 0, Z.2.2.1, Z.2.2.2)) (Z' := (0, 0, Z.2.2.1, Z.2.2.2)) 6 (by decide) rfl ⟨rfl, rfl⟩ (by show 4 ≤ 10; decide) rfl h (fun X _ hG => by subst hG; exact t_PS_judge hz)
set_option maxHeartbeats 4000000 in
set_option maxRecDepth 20000 in
theorem t_PS_image {X : KX} {Z : ZZ} {M : Mm} (hz : FU Z) : GO X md_PS_image (QE X rvI Z) 0 [some (rf (kG X) 0)] [] Z M (f_PS_image M) := by
  unfold f_PS_image
  refine g_aload_n e_PS_image_0 rfl ?_
  refine g_getRZ (kz := 27) e_PS_image_1 fl_PS_18 hz kq_0 (by decide) fj_9_1 rfl ?_
  refine g_aload_n e_PS_image_4 rfl ?_
  refine g_getRZ (kz := 1) e_PS_image_5 fl_PS_12 hz kq_0 (by decide) fj_9_0 rfl ?_
  refine g_callV (rv := rvU) (As := [rf (kG X) 1]) (st := []) e_PS_image_8 mv_PS_305 my_State_copy (by decide) rfl rfl kq_27 (hz.lt kq_27) rfl (Nat.le_of_ble_eq_true rfl) rfl (fun r M1 h => c_State_copy hz kq_27 kq_1 h) (fun r2 M1 h3 => ?_)
  refine g_aload_n e_PS_image_11 rfl ?_
  refine g_iconst (x := (1 : Int32)) e_PS_image_12 (by decide) ?_
  refine g_putL e_PS_image_13 fp_PS_308 kq_0 (hz.lt kq_0) fj_9_2 rfl rfl (fun M4 => ?_)
  refine g_aload_n e_PS_image_16 rfl ?_
  refine g_getRZ (kz := 1) e_PS_image_17 fl_PS_12 hz kq_0 (by decide) fj_9_0 rfl ?_
  refine g_getRZ (kz := 2) e_PS_image_20 fl_PS_50 hz kq_1 (by decide) fj_6_0 rfl ?_
  refine g_callV (rv := rvI) (As := []) (st := []) e_PS_image_23 mv_PS_67 my_Job_sheets (by decide) rfl rfl kq_2 (hz.lt kq_2) rfl (Nat.le_of_ble_eq_true rfl) rfl (fun r M1 h => c_Job_sheets hz kq_2 h) (fun r6 M5 h7 => ?_)
  exact g_iret e_PS_image_26 rfl
set_option maxHeartbeats 4000000 in
set_option maxRecDepth 20000 in
theorem c_PS_image {l : Launch} {G : KG} {Z : ZZ} {M M' : Mm} {r : Int32} (hz : FU Z) (h : f_PS_image M = some (r, M')) : CT l G y_PS_image md_PS_image 0 0 [rf G 0] Z.2.2.1 Z.2.2.2 M (rvI r) Z.2.2.1 Z.2.2.2 M' :=
  CT.of (Z := (0, 0, Z.2.2.1, Z.2.2.2)) (Z' := (0, 0, Z.2.2.1, Z.2.2.2)) 0 (by decide) rfl ⟨rfl, rfl⟩ (by show 1 ≤ 1; decide) rfl h (fun X _ hG => by subst hG; exact t_PS_image hz)
set_option maxHeartbeats 4000000 in
set_option maxRecDepth 20000 in
theorem t_PS_undo {X : KX} {Z : ZZ} {M : Mm} (hz : FU Z) : GO X md_PS_undo (QE X rvI Z) 0 [some (rf (kG X) 0)] [] Z M (f_PS_undo M) := by
  unfold f_PS_undo
  refine g_aload_n e_PS_undo_0 rfl ?_
  refine g_getI e_PS_undo_1 fl_PS_308 kq_0 (hz.lt kq_0) fj_9_2 ?_
  refine g_if_ne e_PS_undo_4 (fun c1 => ?_) (fun c1 => ?_)
  · refine g_aload_n e_PS_undo_10 rfl ?_
    refine g_getRZ (kz := 1) e_PS_undo_11 fl_PS_12 hz kq_0 (by decide) fj_9_0 rfl ?_
    refine g_aload_n e_PS_undo_14 rfl ?_
    refine g_getRZ (kz := 27) e_PS_undo_15 fl_PS_18 hz kq_0 (by decide) fj_9_1 rfl ?_
    refine g_callV (rv := rvU) (As := [rf (kG X) 27]) (st := []) e_PS_undo_18 mv_PS_305 my_State_copy (by decide) rfl rfl kq_1 (hz.lt kq_1) rfl (Nat.le_of_ble_eq_true rfl) rfl (fun r M1 h => c_State_copy hz kq_1 kq_27 h) (fun r3 M2 h4 => ?_)
    refine g_aload_n e_PS_undo_21 rfl ?_
    refine g_getRZ (kz := 1) e_PS_undo_22 fl_PS_12 hz kq_0 (by decide) fj_9_0 rfl ?_
    refine g_getRZ (kz := 2) e_PS_undo_25 fl_PS_50 hz kq_1 (by decide) fj_6_0 rfl ?_
    refine g_callV (rv := rvI) (As := []) (st := []) e_PS_undo_28 mv_PS_67 my_Job_sheets (by decide) rfl rfl kq_2 (hz.lt kq_2) rfl (Nat.le_of_ble_eq_true rfl) rfl (fun r M1 h => c_Job_sheets hz kq_2 h) (fun r6 M5 h7 => ?_)
    exact g_iret e_PS_undo_31 rfl
  · refine g_bipush (x := (-3 : Int32)) e_PS_undo_7 (by decide) ?_
    exact g_iret e_PS_undo_9 rfl
set_option maxHeartbeats 4000000 in
set_option maxRecDepth 20000 in
theorem c_PS_undo {l : Launch} {G : KG} {Z : ZZ} {M M' : Mm} {r : Int32} (hz : FU Z) (h : f_PS_undo M = some (r, M')) : CT l G y_PS_undo md_PS_undo 0 0 [rf G 0] Z.2.2.1 Z.2.2.2 M (rvI r) Z.2.2.1 Z.2.2.2 M' :=
  CT.of (Z := (0, 0, Z.2.2.1, Z.2.2.2)) (Z' := (0, 0, Z.2.2.1, Z.2.2.2)) 0 (by decide) rfl ⟨rfl, rfl⟩ (by show 1 ≤ 1; decide) rfl h (fun X _ hG => by subst hG; exact t_PS_undo hz)
set_option maxHeartbeats 4000000 in
set_option maxRecDepth 20000 in
theorem t_PS_count {X : KX} {Z : ZZ} {v1 : Int32} {M : Mm} (hz : FU Z) : GO X md_PS_count (QE X rvI Z) 0 [some (rf (kG X) 0), some (.int v1)] [] Z M (f_PS_count v1 M) := by
  unfold f_PS_count
  refine g_iload_n e_PS_count_0 rfl ?_
  refine g_ite (fun c1 => ?_) (fun c1 => ?_)
  · refine g_tswI e_PS_count_1.1 (0 : Int32) c1 (off := 39) (tgt := 40) (by decide) ?_
    refine g_aload_n e_PS_count_40 rfl ?_
    refine g_getRZ (kz := 1) e_PS_count_41 fl_PS_12 hz kq_0 (by decide) fj_9_0 rfl ?_
    refine g_getRZ (kz := 19) e_PS_count_44 fl_PS_234 hz kq_1 (by decide) fj_6_3 rfl ?_
    refine g_getI e_PS_count_47 fl_PS_205 kq_19 (hz.lt kq_19) fj_4_1 ?_
    exact g_iret e_PS_count_50 rfl
  refine g_ite (fun c2 => ?_) (fun c2 => ?_)
  · refine g_tswI e_PS_count_1.1 (1 : Int32) c2 (off := 50) (tgt := 51) (by decide) ?_
    refine g_aload_n e_PS_count_51 rfl ?_
    refine g_getRZ (kz := 1) e_PS_count_52 fl_PS_12 hz kq_0 (by decide) fj_9_0 rfl ?_
    refine g_getRZ (kz := 23) e_PS_count_55 fl_PS_260 hz kq_1 (by decide) fj_6_5 rfl ?_
    refine g_getI e_PS_count_58 fl_PS_205 kq_23 (hz.lt kq_23) fj_4_1 ?_
    exact g_iret e_PS_count_61 rfl
  refine g_ite (fun c3 => ?_) (fun c3 => ?_)
  · refine g_tswI e_PS_count_1.1 (2 : Int32) c3 (off := 61) (tgt := 62) (by decide) ?_
    refine g_aload_n e_PS_count_62 rfl ?_
    refine g_getRZ (kz := 56) e_PS_count_63 fl_PS_31 hz kq_0 (by decide) fj_9_4 rfl ?_
    refine g_getRZ (kz := 57) e_PS_count_66 fl_PS_273 hz kq_56 (by decide) fj_8_0 rfl ?_
    refine g_getI e_PS_count_69 fl_PS_205 kq_57 (hz.lt kq_57) fj_4_1 ?_
    exact g_iret e_PS_count_72 rfl
  refine g_ite (fun c4 => ?_) (fun c4 => ?_)
  · refine g_tswI e_PS_count_1.1 (3 : Int32) c4 (off := 72) (tgt := 73) (by decide) ?_
    refine g_aload_n e_PS_count_73 rfl ?_
    refine g_getRZ (kz := 1) e_PS_count_74 fl_PS_12 hz kq_0 (by decide) fj_9_0 rfl ?_
    refine g_getRZ (kz := 5) e_PS_count_77 fl_PS_161 hz kq_1 (by decide) fj_6_1 rfl ?_
    refine g_getRZ (kz := 6) e_PS_count_80 fl_PS_173 hz kq_5 (by decide) fj_3_0 rfl ?_
    refine g_getI e_PS_count_83 fl_PS_205 kq_6 (hz.lt kq_6) fj_4_1 ?_
    exact g_iret e_PS_count_86 rfl
  refine g_ite (fun c5 => ?_) (fun c5 => ?_)
  · refine g_tswI e_PS_count_1.1 (4 : Int32) c5 (off := 86) (tgt := 87) (by decide) ?_
    refine g_aload_n e_PS_count_87 rfl ?_
    refine g_getRZ (kz := 1) e_PS_count_88 fl_PS_12 hz kq_0 (by decide) fj_9_0 rfl ?_
    refine g_getRZ (kz := 5) e_PS_count_91 fl_PS_161 hz kq_1 (by decide) fj_6_1 rfl ?_
    refine g_getRZ (kz := 8) e_PS_count_94 fl_PS_187 hz kq_5 (by decide) fj_3_1 rfl ?_
    refine g_getI e_PS_count_97 fl_PS_205 kq_8 (hz.lt kq_8) fj_4_1 ?_
    exact g_iret e_PS_count_100 rfl
  refine g_ite (fun c6 => ?_) (fun c6 => ?_)
  · refine g_tswI e_PS_count_1.1 (5 : Int32) c6 (off := 100) (tgt := 101) (by decide) ?_
    refine g_aload_n e_PS_count_101 rfl ?_
    refine g_getRZ (kz := 1) e_PS_count_102 fl_PS_12 hz kq_0 (by decide) fj_9_0 rfl ?_
    refine g_getRZ (kz := 10) e_PS_count_105 fl_PS_190 hz kq_1 (by decide) fj_6_2 rfl ?_
    refine g_getRZ (kz := 11) e_PS_count_108 fl_PS_202 hz kq_10 (by decide) fj_2_0 rfl ?_
    refine g_getI e_PS_count_111 fl_PS_205 kq_11 (hz.lt kq_11) fj_4_1 ?_
    exact g_iret e_PS_count_114 rfl
  refine g_hav (pq := 115) (lsq := [some (rf (kG X) 0), some (.int v1)]) (stq := []) ?_ (fun hq => ?_)
  · refine g_bipush (x := (-2 : Int32)) e_PS_count_115 (by decide) ?_
    exact g_iret e_PS_count_117 rfl
  · refine g_tswO e_PS_count_1.1 (tgt := 115) (by decide) (sw_out (fun q h1 h2 => ?_)) hq
    rcases (show q = 0 ∨ q = 1 ∨ q = 2 ∨ q = 3 ∨ q = 4 ∨ q = 5 by omega) with rfl | rfl | rfl | rfl | rfl | rfl
    · exact c1
    · exact c2
    · exact c3
    · exact c4
    · exact c5
    · exact c6
set_option maxHeartbeats 4000000 in
set_option maxRecDepth 20000 in
theorem c_PS_count {l : Launch} {G : KG} {Z : ZZ} {v1 : Int32} {M M' : Mm} {r : Int32} (hz : FU Z) (h : f_PS_count v1 M = some (r, M')) : CT l G y_PS_count md_PS_count 0 0 [rf G 0, .int v1] Z.2.2.1 Z.2.2.2 M (rvI r) Z.2.2.1 Z.2.2.2 M' :=
  CT.of (Z := (0, 0, Z.2.2.1, Z.2.2.2)) (Z' := (0, 0, Z.2.2.1, Z.2.2.2)) 0 (by decide) rfl ⟨rfl, rfl⟩ (by show 2 ≤ 2; decide) rfl h (fun X _ hG => by subst hG; exact t_PS_count hz)
set_option maxHeartbeats 4000000 in
set_option maxRecDepth 20000 in
theorem t_PS_tape {X : KX} {Z : ZZ} {v1 : Int32} {v2 : Int32} {v3 : Int32} {M : Mm} (hz : FU Z) : GO X md_PS_tape (QE X rvI Z) 0 [some (rf (kG X) 0), some (.int v1), some (.int v2), some (.int v3), none] [] Z M (f_PS_tape v1 v2 v3 M) := by
  unfold f_PS_tape
  refine g_aload_n e_PS_tape_0 rfl ?_
  refine g_iload_n e_PS_tape_1 rfl ?_
  refine g_callV (rv := rvO (kG X)) (As := [.int v1]) (st := []) e_PS_tape_2 mv_PS_291 my_PS_tapeAt (by decide) rfl rfl kq_0 (hz.lt kq_0) rfl (Nat.le_of_ble_eq_true rfl) rfl (fun r M1 h => c_PS_tapeAt hz  h) (fun r2 M1 h3 => ?_)
  cases r2 with
  | none =>
    refine g_oN ?_
    refine g_astoreN e_PS_tape_5 (by decide) rfl ?_
    refine g_aloadN e_PS_tape_7 rfl ?_
    refine g_ifnonnullN e_PS_tape_9 ?_
    refine g_iconst (x := (-1 : Int32)) e_PS_tape_12 (by decide) ?_
    exact g_iret e_PS_tape_13 rfl
  | some a4 =>
    refine g_oS ?_
    refine g_grd (fun ha5 => ?_)
    refine g_astore e_PS_tape_5 (by decide) rfl ?_
    refine g_aload e_PS_tape_7 rfl ?_
    refine g_ifnonnull e_PS_tape_9 ?_
    refine g_iload_n e_PS_tape_14 rfl ?_
    refine g_iconst (x := (-1 : Int32)) e_PS_tape_15 (by decide) ?_
    refine g_icmp_ne e_PS_tape_16 (fun c6 => ?_) (fun c6 => ?_)
    · refine g_iload_n e_PS_tape_28 rfl ?_
      refine g_if_lt e_PS_tape_29 (fun c7 => ?_) (fun c7 => ?_)
      · refine g_bipush (x := (-2 : Int32)) e_PS_tape_43 (by decide) ?_
        exact g_iret e_PS_tape_45 rfl
      · refine g_iload_n e_PS_tape_32 rfl ?_
        refine g_iconst (x := (4 : Int32)) e_PS_tape_33 (by decide) ?_
        refine g_icmp_gt e_PS_tape_34 (fun c8 => ?_) (fun c8 => ?_)
        · refine g_bipush (x := (-2 : Int32)) e_PS_tape_43 (by decide) ?_
          exact g_iret e_PS_tape_45 rfl
        · refine g_iload_n e_PS_tape_37 rfl ?_
          refine g_bipush (x := (60 : Int32)) e_PS_tape_38 (by decide) ?_
          refine g_icmp_le e_PS_tape_40 (fun c9 => ?_) (fun c9 => ?_)
          · refine g_iload_n e_PS_tape_46 rfl ?_
            refine g_if_ge e_PS_tape_47 (fun c10 => ?_) (fun c10 => ?_)
            · refine g_aload e_PS_tape_53 rfl ?_
              refine g_iload_n e_PS_tape_55 rfl ?_
              refine g_iload_n e_PS_tape_56 rfl ?_
              refine g_callV (rv := rvU) (As := [.int v2, .int v3]) (st := []) e_PS_tape_57 mv_PS_312 my_Tape_become (by decide) rfl rfl ha5 (hz.lt ha5) rfl (Nat.le_of_ble_eq_true rfl) rfl (fun r M1 h => c_Tape_become hz ha5 h) (fun r12 M11 h13 => ?_)
              refine g_iconst (x := (1 : Int32)) e_PS_tape_60 (by decide) ?_
              exact g_iret e_PS_tape_61 rfl
            · refine g_bipush (x := (-14 : Int32)) e_PS_tape_50 (by decide) ?_
              exact g_iret e_PS_tape_52 rfl
          · refine g_bipush (x := (-2 : Int32)) e_PS_tape_43 (by decide) ?_
            exact g_iret e_PS_tape_45 rfl
    · refine g_aload e_PS_tape_19 rfl ?_
      refine g_iconst (x := (-1 : Int32)) e_PS_tape_21 (by decide) ?_
      refine g_iconst (x := (0 : Int32)) e_PS_tape_22 (by decide) ?_
      refine g_callV (rv := rvU) (As := [.int (-1 : Int32), .int (0 : Int32)]) (st := []) e_PS_tape_23 mv_PS_312 my_Tape_become (by decide) rfl rfl ha5 (hz.lt ha5) rfl (Nat.le_of_ble_eq_true rfl) rfl (fun r M1 h => c_Tape_become hz ha5 h) (fun r15 M14 h16 => ?_)
      refine g_iconst (x := (1 : Int32)) e_PS_tape_26 (by decide) ?_
      exact g_iret e_PS_tape_27 rfl
set_option maxHeartbeats 4000000 in
set_option maxRecDepth 20000 in
theorem c_PS_tape {l : Launch} {G : KG} {Z : ZZ} {v1 : Int32} {v2 : Int32} {v3 : Int32} {M M' : Mm} {r : Int32} (hz : FU Z) (h : f_PS_tape v1 v2 v3 M = some (r, M')) : CT l G y_PS_tape md_PS_tape 0 0 [rf G 0, .int v1, .int v2, .int v3] Z.2.2.1 Z.2.2.2 M (rvI r) Z.2.2.1 Z.2.2.2 M' :=
  CT.of (Z := (0, 0, Z.2.2.1, Z.2.2.2)) (Z' := (0, 0, Z.2.2.1, Z.2.2.2)) 1 (by decide) rfl ⟨rfl, rfl⟩ (by show 4 ≤ 5; decide) rfl h (fun X _ hG => by subst hG; exact t_PS_tape hz)
set_option maxHeartbeats 4000000 in
set_option maxRecDepth 20000 in
theorem t_PS_item {X : KX} {Z : ZZ} {v1 : Int32} {v2 : Int32} {v3 : Int64} {M : Mm} (hz : FU Z) : GO X md_PS_item (QE X rvI Z) 0 [some (rf (kG X) 0), some (.int v1), some (.int v2), some (.long v3), none, none] [] Z M (f_PS_item v1 v2 v3 M) := by
  unfold f_PS_item
  refine g_aload_n e_PS_item_0 rfl ?_
  refine g_iload_n e_PS_item_1 rfl ?_
  refine g_callV (rv := rvO (kG X)) (As := [.int v1]) (st := []) e_PS_item_2 mv_PS_291 my_PS_tapeAt (by decide) rfl rfl kq_0 (hz.lt kq_0) rfl (Nat.le_of_ble_eq_true rfl) rfl (fun r M1 h => c_PS_tapeAt hz  h) (fun r2 M1 h3 => ?_)
  cases r2 with
  | none =>
    refine g_oN ?_
    refine g_astoreN e_PS_item_5 (by decide) rfl ?_
    refine g_aloadN e_PS_item_7 rfl ?_
    refine g_ifnonnullN e_PS_item_9 ?_
    refine g_iconst (x := (-1 : Int32)) e_PS_item_12 (by decide) ?_
    exact g_iret e_PS_item_13 rfl
  | some a4 =>
    refine g_oS ?_
    refine g_grd (fun ha5 => ?_)
    refine g_astore e_PS_item_5 (by decide) rfl ?_
    refine g_aload e_PS_item_7 rfl ?_
    refine g_ifnonnull e_PS_item_9 ?_
    refine g_aload e_PS_item_14 rfl ?_
    refine g_getI e_PS_item_16 fl_PS_298 ha5 (hz.lt ha5) fj_7_0 ?_
    refine g_iconst (x := (-1 : Int32)) e_PS_item_19 (by decide) ?_
    refine g_icmp_ne e_PS_item_20 (fun c6 => ?_) (fun c6 => ?_)
    · refine g_aload e_PS_item_26 rfl ?_
      refine g_iload_n e_PS_item_28 rfl ?_
      refine g_lload_n e_PS_item_29 rfl ?_
      refine g_callV (rv := rvI) (As := [.int v2, .long v3]) (st := []) e_PS_item_30 mv_PS_315 my_Tape_put (by decide) rfl rfl ha5 (hz.lt ha5) rfl (Nat.le_of_ble_eq_true rfl) rfl (fun r M1 h => c_Tape_put hz ha5 h) (fun r8 M7 h9 => ?_)
      refine g_phi1 42 (fun x11 => [none, none, none, none, none, none]) (fun x11 => [.int x11]) (fun x11 => ?_) (fun hj12 => ?_)
      · show GO X _ _ 42 [none, none, none, none, none, none] [.int x11] Z M7 _
        exact g_iret e_PS_item_42 rfl
      · refine g_if_eq' e_PS_item_33 (fun c10 => ?_) (fun c10 => ?_)
        · refine g_bipush (x := (-13 : Int32)) e_PS_item_40 (by decide) ?_
          exact (g_pt c10 (g_lt (g_wq (hj12 (-13 : Int32)) trivial)))
        · refine g_iconst (x := (1 : Int32)) e_PS_item_36 (by decide) ?_
          refine g_goto e_PS_item_37 ?_
          exact (g_pf c10 (g_lt (g_wq (hj12 (1 : Int32)) trivial)))
    · refine g_bipush (x := (-11 : Int32)) e_PS_item_23 (by decide) ?_
      exact g_iret e_PS_item_25 rfl
set_option maxHeartbeats 4000000 in
set_option maxRecDepth 20000 in
theorem c_PS_item {l : Launch} {G : KG} {Z : ZZ} {v1 : Int32} {v2 : Int32} {v3 : Int64} {M M' : Mm} {r : Int32} (hz : FU Z) (h : f_PS_item v1 v2 v3 M = some (r, M')) : CT l G y_PS_item md_PS_item 0 0 [rf G 0, .int v1, .int v2, .long v3] Z.2.2.1 Z.2.2.2 M (rvI r) Z.2.2.1 Z.2.2.2 M' :=
  CT.of (Z := (0, 0, Z.2.2.1, Z.2.2.2)) (Z' := (0, 0, Z.2.2.1, Z.2.2.2)) 1 (by decide) rfl ⟨rfl, rfl⟩ (by show 5 ≤ 6; decide) rfl h (fun X _ hG => by subst hG; exact t_PS_item hz)
set_option maxHeartbeats 4000000 in
set_option maxRecDepth 20000 in
theorem t_PS_peek {X : KX} {Z : ZZ} {v1 : Int32} {v2 : Int32} {M : Mm} (hz : FU Z) : GO X md_PS_peek (QE X rvJ Z) 0 [some (rf (kG X) 0), some (.int v1), some (.int v2), none] [] Z M (f_PS_peek v1 v2 M) := by
  unfold f_PS_peek
  refine g_aload_n e_PS_peek_0 rfl ?_
  refine g_iload_n e_PS_peek_1 rfl ?_
  refine g_callV (rv := rvO (kG X)) (As := [.int v1]) (st := []) e_PS_peek_2 mv_PS_291 my_PS_tapeAt (by decide) rfl rfl kq_0 (hz.lt kq_0) rfl (Nat.le_of_ble_eq_true rfl) rfl (fun r M1 h => c_PS_tapeAt hz  h) (fun r2 M1 h3 => ?_)
  cases r2 with
  | none =>
    refine g_oN ?_
    refine g_astoreN_n e_PS_peek_5 (by decide) rfl ?_
    refine g_aloadN_n e_PS_peek_6 rfl ?_
    refine g_ifnonnullN e_PS_peek_7 ?_
    refine g_ldc2 (u := (-9223372036854775808 : Int64)) e_PS_peek_10 w_510 ?_
    refine g_goto e_PS_peek_13 ?_
    exact g_lret e_PS_peek_21 rfl
  | some a4 =>
    refine g_oS ?_
    refine g_grd (fun ha5 => ?_)
    refine g_astore_n e_PS_peek_5 (by decide) rfl ?_
    refine g_aload_n e_PS_peek_6 rfl ?_
    refine g_ifnonnull e_PS_peek_7 ?_
    refine g_aload_n e_PS_peek_16 rfl ?_
    refine g_iload_n e_PS_peek_17 rfl ?_
    refine g_callV (rv := rvJ) (As := [.int v2]) (st := []) e_PS_peek_18 mv_PS_302 my_Tape_get (by decide) rfl rfl ha5 (hz.lt ha5) rfl (Nat.le_of_ble_eq_true rfl) rfl (fun r M1 h => c_Tape_get hz ha5 h) (fun r7 M6 h8 => ?_)
    exact g_lret e_PS_peek_21 rfl
set_option maxHeartbeats 4000000 in
set_option maxRecDepth 20000 in
theorem c_PS_peek {l : Launch} {G : KG} {Z : ZZ} {v1 : Int32} {v2 : Int32} {M M' : Mm} {r : Int64} (hz : FU Z) (h : f_PS_peek v1 v2 M = some (r, M')) : CT l G y_PS_peek md_PS_peek 0 0 [rf G 0, .int v1, .int v2] Z.2.2.1 Z.2.2.2 M (rvJ r) Z.2.2.1 Z.2.2.2 M' :=
  CT.of (Z := (0, 0, Z.2.2.1, Z.2.2.2)) (Z' := (0, 0, Z.2.2.1, Z.2.2.2)) 1 (by decide) rfl ⟨rfl, rfl⟩ (by show 3 ≤ 4; decide) rfl h (fun X _ hG => by subst hG; exact t_PS_peek hz)
set_option maxHeartbeats 4000000 in
set_option maxRecDepth 20000 in
theorem t_PS_shift {X : KX} {Z : ZZ} {v1 : Int32} {v2 : Int32} {v3 : Int32} {v4 : Int32} {v5 : Int32} {M : Mm} (hz : FU Z) : GO X md_PS_shift (QE X rvI Z) 0 [some (rf (kG X) 0), some (.int v1), some (.int v2), some (.int v3), some (.int v4), some (.int v5), none, none] [] Z M (f_PS_shift v1 v2 v3 v4 v5 M) := by
  unfold f_PS_shift
  refine g_aload_n e_PS_shift_0 rfl ?_
  refine g_iload_n e_PS_shift_1 rfl ?_
  refine g_callV (rv := rvO (kG X)) (As := [.int v1]) (st := []) e_PS_shift_2 mv_PS_291 my_PS_tapeAt (by decide) rfl rfl kq_0 (hz.lt kq_0) rfl (Nat.le_of_ble_eq_true rfl) rfl (fun r M1 h => c_PS_tapeAt hz  h) (fun r2 M1 h3 => ?_)
  cases r2 with
  | none =>
    refine g_oN ?_
    refine g_astoreN e_PS_shift_5 (by decide) rfl ?_
    refine g_aload_n e_PS_shift_7 rfl ?_
    refine g_iload_n e_PS_shift_8 rfl ?_
    refine g_callV (rv := rvO (kG X)) (As := [.int v3]) (st := []) e_PS_shift_9 mv_PS_291 my_PS_tapeAt (by decide) rfl rfl kq_0 (hz.lt kq_0) rfl (Nat.le_of_ble_eq_true rfl) rfl (fun r M1 h => c_PS_tapeAt hz  h) (fun r7 M6 h8 => ?_)
    cases r7 with
    | none =>
      refine g_oN ?_
      refine g_astoreN e_PS_shift_12 (by decide) rfl ?_
      refine g_aloadN e_PS_shift_14 rfl ?_
      refine g_ifnullN e_PS_shift_16 ?_
      refine g_iconst (x := (-1 : Int32)) e_PS_shift_24 (by decide) ?_
      exact g_iret e_PS_shift_25 rfl
    | some a9 =>
      refine g_oS ?_
      refine g_grd (fun ha10 => ?_)
      refine g_astore e_PS_shift_12 (by decide) rfl ?_
      refine g_aloadN e_PS_shift_14 rfl ?_
      refine g_ifnullN e_PS_shift_16 ?_
      refine g_iconst (x := (-1 : Int32)) e_PS_shift_24 (by decide) ?_
      exact g_iret e_PS_shift_25 rfl
  | some a4 =>
    refine g_oS ?_
    refine g_grd (fun ha5 => ?_)
    refine g_astore e_PS_shift_5 (by decide) rfl ?_
    refine g_aload_n e_PS_shift_7 rfl ?_
    refine g_iload_n e_PS_shift_8 rfl ?_
    refine g_callV (rv := rvO (kG X)) (As := [.int v3]) (st := []) e_PS_shift_9 mv_PS_291 my_PS_tapeAt (by decide) rfl rfl kq_0 (hz.lt kq_0) rfl (Nat.le_of_ble_eq_true rfl) rfl (fun r M1 h => c_PS_tapeAt hz  h) (fun r12 M11 h13 => ?_)
    cases r12 with
    | none =>
      refine g_oN ?_
      refine g_astoreN e_PS_shift_12 (by decide) rfl ?_
      refine g_aload e_PS_shift_14 rfl ?_
      refine g_ifnull e_PS_shift_16 ?_
      refine g_aloadN e_PS_shift_19 rfl ?_
      refine g_ifnonnullN e_PS_shift_21 ?_
      refine g_iconst (x := (-1 : Int32)) e_PS_shift_24 (by decide) ?_
      exact g_iret e_PS_shift_25 rfl
    | some a14 =>
      refine g_oS ?_
      refine g_grd (fun ha15 => ?_)
      refine g_astore e_PS_shift_12 (by decide) rfl ?_
      refine g_aload e_PS_shift_14 rfl ?_
      refine g_ifnull e_PS_shift_16 ?_
      refine g_aload e_PS_shift_19 rfl ?_
      refine g_ifnonnull e_PS_shift_21 ?_
      refine g_aload e_PS_shift_26 rfl ?_
      refine g_getI e_PS_shift_28 fl_PS_298 ha5 (hz.lt ha5) fj_7_0 ?_
      refine g_iconst (x := (-1 : Int32)) e_PS_shift_31 (by decide) ?_
      refine g_icmp_eq e_PS_shift_32 (fun c16 => ?_) (fun c16 => ?_)
      · refine g_bipush (x := (-11 : Int32)) e_PS_shift_44 (by decide) ?_
        exact g_iret e_PS_shift_46 rfl
      · refine g_aload e_PS_shift_35 rfl ?_
        refine g_getI e_PS_shift_37 fl_PS_298 ha15 (hz.lt ha15) fj_7_0 ?_
        refine g_iconst (x := (-1 : Int32)) e_PS_shift_40 (by decide) ?_
        refine g_icmp_ne e_PS_shift_41 (fun c17 => ?_) (fun c17 => ?_)
        · refine g_aload e_PS_shift_47 rfl ?_
          refine g_getI e_PS_shift_49 fl_PS_298 ha5 (hz.lt ha5) fj_7_0 ?_
          refine g_aload e_PS_shift_52 rfl ?_
          refine g_getI e_PS_shift_54 fl_PS_298 ha15 (hz.lt ha15) fj_7_0 ?_
          refine g_icmp_eq e_PS_shift_57 (fun c18 => ?_) (fun c18 => ?_)
          · refine g_aload e_PS_shift_63 rfl ?_
            refine g_iload_n e_PS_shift_65 rfl ?_
            refine g_iload e_PS_shift_66 rfl ?_
            refine g_callV (rv := rvI) (As := [.int v2, .int v5]) (st := []) e_PS_shift_68 mv_PS_319 my_Tape_hasStretch (by decide) rfl rfl ha5 (hz.lt ha5) rfl (Nat.le_of_ble_eq_true rfl) rfl (fun r M1 h => c_Tape_hasStretch hz ha5 h) (fun r20 M19 h21 => ?_)
            refine g_if_eq e_PS_shift_71 (fun c22 => ?_) (fun c22 => ?_)
            · refine g_bipush (x := (-13 : Int32)) e_PS_shift_86 (by decide) ?_
              exact g_iret e_PS_shift_88 rfl
            · refine g_aload e_PS_shift_74 rfl ?_
              refine g_iload e_PS_shift_76 rfl ?_
              refine g_iload e_PS_shift_78 rfl ?_
              refine g_callV (rv := rvI) (As := [.int v4, .int v5]) (st := []) e_PS_shift_80 mv_PS_319 my_Tape_hasStretch (by decide) rfl rfl ha15 (hz.lt ha15) rfl (Nat.le_of_ble_eq_true rfl) rfl (fun r M1 h => c_Tape_hasStretch hz ha15 h) (fun r24 M23 h25 => ?_)
              refine g_if_ne e_PS_shift_83 (fun c26 => ?_) (fun c26 => ?_)
              · refine g_aload e_PS_shift_89 rfl ?_
                refine g_getRZ (kz := (a4 + 1)) e_PS_shift_91 fl_PS_322 hz ha5 (by decide) fj_7_2 rfl ?_
                refine g_iload_n e_PS_shift_94 rfl ?_
                refine g_aload e_PS_shift_95 rfl ?_
                refine g_getRZ (kz := (a14 + 1)) e_PS_shift_97 fl_PS_322 hz ha15 (by decide) fj_7_2 rfl ?_
                refine g_iload e_PS_shift_100 rfl ?_
                refine g_iload e_PS_shift_102 rfl ?_
                refine g_copyG e_PS_shift_104 ⟨w_818, w_820, w_819, w_13⟩ (kk_7_1 ha5) (kk_7_1 ha15) (hz.lt (kk_7_1 ha5) (by decide)) (hz.lt (kk_7_1 ha15) (by decide)) ⟨by decide, Nat.le_of_ble_eq_true rfl⟩ (fun M27 => ?_)
                refine g_iload e_PS_shift_107 rfl ?_
                exact g_iret e_PS_shift_109 rfl
              · refine g_bipush (x := (-13 : Int32)) e_PS_shift_86 (by decide) ?_
                exact g_iret e_PS_shift_88 rfl
          · refine g_bipush (x := (-12 : Int32)) e_PS_shift_60 (by decide) ?_
            exact g_iret e_PS_shift_62 rfl
        · refine g_bipush (x := (-11 : Int32)) e_PS_shift_44 (by decide) ?_
          exact g_iret e_PS_shift_46 rfl
set_option maxHeartbeats 4000000 in
set_option maxRecDepth 20000 in
theorem c_PS_shift {l : Launch} {G : KG} {Z : ZZ} {v1 : Int32} {v2 : Int32} {v3 : Int32} {v4 : Int32} {v5 : Int32} {M M' : Mm} {r : Int32} (hz : FU Z) (h : f_PS_shift v1 v2 v3 v4 v5 M = some (r, M')) : CT l G y_PS_shift md_PS_shift 0 0 [rf G 0, .int v1, .int v2, .int v3, .int v4, .int v5] Z.2.2.1 Z.2.2.2 M (rvI r) Z.2.2.1 Z.2.2.2 M' :=
  CT.of (Z := (0, 0, Z.2.2.1, Z.2.2.2)) (Z' := (0, 0, Z.2.2.1, Z.2.2.2)) 2 (by decide) rfl ⟨rfl, rfl⟩ (by show 6 ≤ 8; decide) rfl h (fun X _ hG => by subst hG; exact t_PS_shift hz)
