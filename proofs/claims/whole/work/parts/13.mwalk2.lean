set_option maxHeartbeats 4000000 in
set_option maxRecDepth 20000 in
theorem t_MD_plan {X : KX} {Z : ZZ} {v1 : Int32} {v2 : Int32} {v3 : Int32} {v4 : Int32} {v5 : Int32} {M : Mm} (hz : FU Z) : GO X md_MD_plan (QE X rvI Z) 0 [some (rf (kG X) 78), some (.int v1), some (.int v2), some (.int v3), some (.int v4), some (.int v5)] [] Z M (f_MD_plan v1 v2 v3 v4 v5 M) := by
  unfold f_MD_plan
  refine g_aload_n e_MD_plan_0 rfl ?_
  refine g_iload_n e_MD_plan_1 rfl ?_
  refine g_callV (rv := rvI) (As := [.int v1]) (st := []) e_MD_plan_2 mv_MD_193 my_MD_isForme (by decide) rfl rfl kq_78 (hz.lt kq_78) rfl (Nat.le_of_ble_eq_true rfl) rfl (fun r M1 h => c_MD_isForme hz  h) (fun r2 M1 h3 => ?_)
  refine g_if_eq e_MD_plan_5 (fun c4 => ?_) (fun c4 => ?_)
  · refine g_iconst (x := (-1 : Int32)) e_MD_plan_17 (by decide) ?_
    exact g_iret e_MD_plan_18 rfl
  · refine g_aload_n e_MD_plan_8 rfl ?_
    refine g_iload_n e_MD_plan_9 rfl ?_
    refine g_iload_n e_MD_plan_10 rfl ?_
    refine g_callV (rv := rvI) (As := [.int v2, .int v3]) (st := []) e_MD_plan_11 mv_MD_196 my_MD_isCell (by decide) rfl rfl kq_78 (hz.lt kq_78) rfl (Nat.le_of_ble_eq_true rfl) rfl (fun r M1 h => c_MD_isCell hz  h) (fun r6 M5 h7 => ?_)
    refine g_if_ne e_MD_plan_14 (fun c8 => ?_) (fun c8 => ?_)
    · refine g_iload e_MD_plan_19 rfl ?_
      refine g_iconst (x := (1 : Int32)) e_MD_plan_21 (by decide) ?_
      refine g_aload_n e_MD_plan_22 rfl ?_
      refine g_getI e_MD_plan_23 fl_MD_15 kq_78 (hz.lt kq_78) fj_10_2 ?_
      refine g_callS (rv := rvI) (As := [.int v4, .int (1 : Int32), .int (M5.1 78 2)]) (st := []) e_MD_plan_26 ms_MD_92 my_MD_in (by decide) rfl rfl (Nat.le_of_ble_eq_true rfl) (fun r M1 h => c_MD_in hz  h) (fun r10 M9 h11 => ?_)
      refine g_if_eq e_MD_plan_29 (fun c12 => ?_) (fun c12 => ?_)
      · refine g_bipush (x := (-2 : Int32)) e_MD_plan_42 (by decide) ?_
        exact g_iret e_MD_plan_44 rfl
      · refine g_iload e_MD_plan_32 rfl ?_
        refine g_iconst (x := (0 : Int32)) e_MD_plan_34 (by decide) ?_
        refine g_iconst (x := (1 : Int32)) e_MD_plan_35 (by decide) ?_
        refine g_callS (rv := rvI) (As := [.int v5, .int (0 : Int32), .int (1 : Int32)]) (st := []) e_MD_plan_36 ms_MD_92 my_MD_in (by decide) rfl rfl (Nat.le_of_ble_eq_true rfl) (fun r M1 h => c_MD_in hz  h) (fun r14 M13 h15 => ?_)
        refine g_if_ne e_MD_plan_39 (fun c16 => ?_) (fun c16 => ?_)
        · refine g_aload_n e_MD_plan_45 rfl ?_
          refine g_iload_n e_MD_plan_46 rfl ?_
          refine g_iload_n e_MD_plan_47 rfl ?_
          refine g_iload_n e_MD_plan_48 rfl ?_
          refine g_callS (rv := rvI) (As := [.int v1, .int v2, .int v3]) (st := [rf (kG X) 78]) e_MD_plan_49 ms_MD_229 my_MD_cellOf (by decide) rfl rfl (Nat.le_of_ble_eq_true rfl) (fun r M1 h => c_MD_cellOf hz  h) (fun r18 M17 h19 => ?_)
          refine g_iload e_MD_plan_52 rfl ?_
          refine g_iload e_MD_plan_54 rfl ?_
          refine g_callV (rv := rvI) (As := [.int r18, .int v4, .int v5]) (st := []) e_MD_plan_56 mv_MD_232 my_MD_tells (by decide) rfl rfl kq_78 (hz.lt kq_78) rfl (Nat.le_of_ble_eq_true rfl) rfl (fun r M1 h => c_MD_tells hz  h) (fun r21 M20 h22 => ?_)
          refine g_phi1 71 (fun x24 => [none, none, none, none, none, none]) (fun x24 => [.int x24]) (fun x24 => ?_) (fun hj25 => ?_)
          · show GO X _ _ 71 [none, none, none, none, none, none] [.int x24] Z M20 _
            exact g_iret e_MD_plan_71 rfl
          · refine g_if_eq' e_MD_plan_59 (fun c23 => ?_) (fun c23 => ?_)
            · refine g_bipush (x := (-4 : Int32)) e_MD_plan_69 (by decide) ?_
              exact (g_pt c23 (g_lt (g_wq (hj25 (-4 : Int32)) trivial)))
            · refine g_aload_n e_MD_plan_62 rfl ?_
              refine g_getI e_MD_plan_63 fl_MD_133 kq_78 (hz.lt kq_78) fj_10_22 ?_
              refine g_goto e_MD_plan_66 ?_
              exact (g_pf c23 (g_lt (g_wq (hj25 (M20.1 78 22)) trivial)))
        · refine g_bipush (x := (-2 : Int32)) e_MD_plan_42 (by decide) ?_
          exact g_iret e_MD_plan_44 rfl
    · refine g_iconst (x := (-1 : Int32)) e_MD_plan_17 (by decide) ?_
      exact g_iret e_MD_plan_18 rfl
set_option maxHeartbeats 4000000 in
set_option maxRecDepth 20000 in
theorem c_MD_plan {l : Launch} {G : KG} {Z : ZZ} {v1 : Int32} {v2 : Int32} {v3 : Int32} {v4 : Int32} {v5 : Int32} {M M' : Mm} {r : Int32} (hz : FU Z) (h : f_MD_plan v1 v2 v3 v4 v5 M = some (r, M')) : CT l G y_MD_plan md_MD_plan 0 0 [rf G 78, .int v1, .int v2, .int v3, .int v4, .int v5] Z.2.2.1 Z.2.2.2 M (rvI r) Z.2.2.1 Z.2.2.2 M' :=
  CT.of (Z := (0, 0, Z.2.2.1, Z.2.2.2)) (Z' := (0, 0, Z.2.2.1, Z.2.2.2)) 0 (by decide) rfl ⟨rfl, rfl⟩ (by show 6 ≤ 6; decide) rfl h (fun X _ hG => by subst hG; exact t_MD_plan hz)
set_option maxHeartbeats 4000000 in
set_option maxRecDepth 20000 in
theorem t_MD_unplan_84 {X : KX} {Z : ZZ} {rec18 : Int32 → Int32 → Int32 → Mm → Option (Int32 × Mm)} (hz : FU Z) (hr18 : ∀ (v1 : Int32) (v2 : Int32) (v3 : Int32) (M : Mm), GO X md_MD_unplan (QE X rvI Z) 18 [some (rf (kG X) 78), some (.int v1), some (.int v2), some (.int v3)] [] Z M (rec18 v1 v2 v3 M)) : ∀ (v1 : Int32) (v2 : Int32) (v3 : Int32) (M : Mm), GO X md_MD_unplan (QE X rvI Z) 84 [some (rf (kG X) 78), some (.int v1), some (.int v2), some (.int v3)] [] Z M (f_MD_unplan_84 rec18 v1 v2 v3 M) := by
  intro v1 v2 v3 M
  unfold f_MD_unplan_84
  refine g_iincL (c := (1 : Int32)) e_MD_unplan_84 rfl (by decide) (by decide) rfl (fun x11 => ?_)
  refine g_goto e_MD_unplan_87 ?_
  exact g_wq (hr18 v1 v2 x11 M) ⟨rfl, rfl, rfl, rfl, trivial⟩
set_option maxHeartbeats 4000000 in
set_option maxRecDepth 20000 in
theorem t_MD_unplan_18 {X : KX} {Z : ZZ} (hz : FU Z) : ∀ (n : Nat) (v1 : Int32) (v2 : Int32) (v3 : Int32) (M : Mm), GO X md_MD_unplan (QE X rvI Z) 18 [some (rf (kG X) 78), some (.int v1), some (.int v2), some (.int v3)] [] Z M (f_MD_unplan_18 n v1 v2 v3 M) := by
  intro n
  induction n with
  | zero =>
    intro v1 v2 v3 M
    exact g_none
  | succ n ih =>
    intro v1 v2 v3 M
    rw [f_MD_unplan_18_s]
    refine g_iload_n e_MD_unplan_18 rfl ?_
    refine g_aload_n e_MD_unplan_19 rfl ?_
    refine g_getI e_MD_unplan_20 fl_MD_133 kq_78 (hz.lt kq_78) fj_10_22 ?_
    refine g_icmp_ge e_MD_unplan_23 (fun c5 => ?_) (fun c5 => ?_)
    · refine g_aload_n e_MD_unplan_90 rfl ?_
      refine g_dup e_MD_unplan_91 rfl ?_
      refine g_getI e_MD_unplan_92 fl_MD_133 kq_78 (hz.lt kq_78) fj_10_22 ?_
      refine g_iload_n e_MD_unplan_95 rfl ?_
      refine g_isub e_MD_unplan_96 ?_
      refine g_putL e_MD_unplan_97 fp_MD_133 kq_78 (hz.lt kq_78) fj_10_22 rfl rfl (fun M6 => ?_)
      refine g_iload_n e_MD_unplan_100 rfl ?_
      exact g_iret e_MD_unplan_101 rfl
    · refine g_aload_n e_MD_unplan_26 rfl ?_
      refine g_getRZ (kz := 88) e_MD_unplan_27 fl_MD_52 hz kq_78 (by decide) fj_10_20 rfl ?_
      refine g_iload_n e_MD_unplan_30 rfl ?_
      refine g_ialdG (n := 60) e_MD_unplan_31 ⟨kq_88, by decide⟩ (hz.lt kq_88 (by decide)) ?_
      refine g_iload_n e_MD_unplan_32 rfl ?_
      refine g_icmp_ne e_MD_unplan_33 (fun c7 => ?_) (fun c7 => ?_)
      · refine g_aload_n e_MD_unplan_42 rfl ?_
        refine g_getRZ (kz := 87) e_MD_unplan_43 fl_MD_49 hz kq_78 (by decide) fj_10_19 rfl ?_
        refine g_iload_n e_MD_unplan_46 rfl ?_
        refine g_iload_n e_MD_unplan_47 rfl ?_
        refine g_isub e_MD_unplan_48 ?_
        refine g_aload_n e_MD_unplan_49 rfl ?_
        refine g_getRZ (kz := 87) e_MD_unplan_50 fl_MD_49 hz kq_78 (by decide) fj_10_19 rfl ?_
        refine g_iload_n e_MD_unplan_53 rfl ?_
        refine g_ialdG (n := 60) e_MD_unplan_54 ⟨kq_87, by decide⟩ (hz.lt kq_87 (by decide)) ?_
        refine g_iastG (n := 60) e_MD_unplan_55 ⟨kq_87, by decide⟩ (hz.lt kq_87 (by decide)) (fun M8 => ?_)
        refine g_aload_n e_MD_unplan_56 rfl ?_
        refine g_getRZ (kz := 88) e_MD_unplan_57 fl_MD_52 hz kq_78 (by decide) fj_10_20 rfl ?_
        refine g_iload_n e_MD_unplan_60 rfl ?_
        refine g_iload_n e_MD_unplan_61 rfl ?_
        refine g_isub e_MD_unplan_62 ?_
        refine g_aload_n e_MD_unplan_63 rfl ?_
        refine g_getRZ (kz := 88) e_MD_unplan_64 fl_MD_52 hz kq_78 (by decide) fj_10_20 rfl ?_
        refine g_iload_n e_MD_unplan_67 rfl ?_
        refine g_ialdG (n := 60) e_MD_unplan_68 ⟨kq_88, by decide⟩ (hz.lt kq_88 (by decide)) ?_
        refine g_iastG (n := 60) e_MD_unplan_69 ⟨kq_88, by decide⟩ (hz.lt kq_88 (by decide)) (fun M9 => ?_)
        refine g_aload_n e_MD_unplan_70 rfl ?_
        refine g_getRZ (kz := 89) e_MD_unplan_71 fl_MD_55 hz kq_78 (by decide) fj_10_21 rfl ?_
        refine g_iload_n e_MD_unplan_74 rfl ?_
        refine g_iload_n e_MD_unplan_75 rfl ?_
        refine g_isub e_MD_unplan_76 ?_
        refine g_aload_n e_MD_unplan_77 rfl ?_
        refine g_getRZ (kz := 89) e_MD_unplan_78 fl_MD_55 hz kq_78 (by decide) fj_10_21 rfl ?_
        refine g_iload_n e_MD_unplan_81 rfl ?_
        refine g_ialdG (n := 60) e_MD_unplan_82 ⟨kq_89, by decide⟩ (hz.lt kq_89 (by decide)) ?_
        refine g_iastG (n := 60) e_MD_unplan_83 ⟨kq_89, by decide⟩ (hz.lt kq_89 (by decide)) (fun M10 => ?_)
        exact g_wq (t_MD_unplan_84 hz (ih) v1 v2 v3 M10) ⟨rfl, rfl, rfl, rfl, trivial⟩
      · refine g_iincL (c := (1 : Int32)) e_MD_unplan_36 rfl (by decide) (by decide) rfl (fun x12 => ?_)
        refine g_goto e_MD_unplan_39 ?_
        exact g_wq (t_MD_unplan_84 hz (ih) v1 x12 v3 M) ⟨rfl, rfl, rfl, rfl, trivial⟩
set_option maxHeartbeats 4000000 in
set_option maxRecDepth 20000 in
theorem t_MD_unplan {X : KX} {Z : ZZ} {v1 : Int32} {M : Mm} (hz : FU Z) : GO X md_MD_unplan (QE X rvI Z) 0 [some (rf (kG X) 78), some (.int v1), none, none] [] Z M (f_MD_unplan v1 M) := by
  unfold f_MD_unplan
  refine g_iload_n e_MD_unplan_0 rfl ?_
  refine g_iconst (x := (1 : Int32)) e_MD_unplan_1 (by decide) ?_
  refine g_aload_n e_MD_unplan_2 rfl ?_
  refine g_getI e_MD_unplan_3 fl_MD_15 kq_78 (hz.lt kq_78) fj_10_2 ?_
  refine g_callS (rv := rvI) (As := [.int v1, .int (1 : Int32), .int (M.1 78 2)]) (st := []) e_MD_unplan_6 ms_MD_92 my_MD_in (by decide) rfl rfl (Nat.le_of_ble_eq_true rfl) (fun r M1 h => c_MD_in hz  h) (fun r2 M1 h3 => ?_)
  refine g_if_ne e_MD_unplan_9 (fun c4 => ?_) (fun c4 => ?_)
  · refine g_iconst (x := (0 : Int32)) e_MD_unplan_14 (by decide) ?_
    refine g_istore_n e_MD_unplan_15 (by decide) rfl ?_
    refine g_iconst (x := (0 : Int32)) e_MD_unplan_16 (by decide) ?_
    refine g_istore_n e_MD_unplan_17 (by decide) rfl ?_
    exact g_wq (t_MD_unplan_18 hz fuel v1 (0 : Int32) (0 : Int32) M1) ⟨rfl, rfl, rfl, rfl, trivial⟩
  · refine g_iconst (x := (-1 : Int32)) e_MD_unplan_12 (by decide) ?_
    exact g_iret e_MD_unplan_13 rfl
set_option maxHeartbeats 4000000 in
set_option maxRecDepth 20000 in
theorem c_MD_unplan {l : Launch} {G : KG} {Z : ZZ} {v1 : Int32} {M M' : Mm} {r : Int32} (hz : FU Z) (h : f_MD_unplan v1 M = some (r, M')) : CT l G y_MD_unplan md_MD_unplan 0 0 [rf G 78, .int v1] Z.2.2.1 Z.2.2.2 M (rvI r) Z.2.2.1 Z.2.2.2 M' :=
  CT.of (Z := (0, 0, Z.2.2.1, Z.2.2.2)) (Z' := (0, 0, Z.2.2.1, Z.2.2.2)) 2 (by decide) rfl ⟨rfl, rfl⟩ (by show 2 ≤ 4; decide) rfl h (fun X _ hG => by subst hG; exact t_MD_unplan hz)
set_option maxHeartbeats 4000000 in
set_option maxRecDepth 20000 in
theorem t_MD_planned {X : KX} {Z : ZZ} {v1 : Int32} {v2 : Int32} {M : Mm} (hz : FU Z) : GO X md_MD_planned (QE X rvI Z) 0 [some (rf (kG X) 78), some (.int v1), some (.int v2)] [] Z M (f_MD_planned v1 v2 M) := by
  unfold f_MD_planned
  refine g_iload_n e_MD_planned_0 rfl ?_
  refine g_iconst (x := (0 : Int32)) e_MD_planned_1 (by decide) ?_
  refine g_aload_n e_MD_planned_2 rfl ?_
  refine g_getI e_MD_planned_3 fl_MD_133 kq_78 (hz.lt kq_78) fj_10_22 ?_
  refine g_iconst (x := (1 : Int32)) e_MD_planned_6 (by decide) ?_
  refine g_isub e_MD_planned_7 ?_
  refine g_callS (rv := rvI) (As := [.int v1, .int (0 : Int32), .int ((M.1 78 22) - (1 : Int32))]) (st := []) e_MD_planned_8 ms_MD_92 my_MD_in (by decide) rfl rfl (Nat.le_of_ble_eq_true rfl) (fun r M1 h => c_MD_in hz  h) (fun r2 M1 h3 => ?_)
  refine g_if_ne e_MD_planned_11 (fun c4 => ?_) (fun c4 => ?_)
  · refine g_iload_n e_MD_planned_16 rfl ?_
    refine g_ite (fun c5 => ?_) (fun c5 => ?_)
    · refine g_tswI e_MD_planned_17.1 (0 : Int32) c5 (off := 27) (tgt := 44) (by decide) ?_
      refine g_aload_n e_MD_planned_44 rfl ?_
      refine g_getRZ (kz := 87) e_MD_planned_45 fl_MD_49 hz kq_78 (by decide) fj_10_19 rfl ?_
      refine g_iload_n e_MD_planned_48 rfl ?_
      refine g_ialdG (n := 60) e_MD_planned_49 ⟨kq_87, by decide⟩ (hz.lt kq_87 (by decide)) ?_
      exact g_iret e_MD_planned_50 rfl
    refine g_ite (fun c6 => ?_) (fun c6 => ?_)
    · refine g_tswI e_MD_planned_17.1 (1 : Int32) c6 (off := 34) (tgt := 51) (by decide) ?_
      refine g_aload_n e_MD_planned_51 rfl ?_
      refine g_getRZ (kz := 88) e_MD_planned_52 fl_MD_52 hz kq_78 (by decide) fj_10_20 rfl ?_
      refine g_iload_n e_MD_planned_55 rfl ?_
      refine g_ialdG (n := 60) e_MD_planned_56 ⟨kq_88, by decide⟩ (hz.lt kq_88 (by decide)) ?_
      exact g_iret e_MD_planned_57 rfl
    refine g_ite (fun c7 => ?_) (fun c7 => ?_)
    · refine g_tswI e_MD_planned_17.1 (2 : Int32) c7 (off := 41) (tgt := 58) (by decide) ?_
      refine g_aload_n e_MD_planned_58 rfl ?_
      refine g_getRZ (kz := 89) e_MD_planned_59 fl_MD_55 hz kq_78 (by decide) fj_10_21 rfl ?_
      refine g_iload_n e_MD_planned_62 rfl ?_
      refine g_ialdG (n := 60) e_MD_planned_63 ⟨kq_89, by decide⟩ (hz.lt kq_89 (by decide)) ?_
      exact g_iret e_MD_planned_64 rfl
    refine g_hav (pq := 65) (lsq := [some (rf (kG X) 78), some (.int v1), some (.int v2)]) (stq := []) ?_ (fun hq => ?_)
    · refine g_iconst (x := (-1 : Int32)) e_MD_planned_65 (by decide) ?_
      exact g_iret e_MD_planned_66 rfl
    · refine g_tswO e_MD_planned_17.1 (tgt := 65) (by decide) (sw_out (fun q h1 h2 => ?_)) hq
      rcases (show q = 0 ∨ q = 1 ∨ q = 2 by omega) with rfl | rfl | rfl
      · exact c5
      · exact c6
      · exact c7
  · refine g_iconst (x := (-1 : Int32)) e_MD_planned_14 (by decide) ?_
    exact g_iret e_MD_planned_15 rfl
set_option maxHeartbeats 4000000 in
set_option maxRecDepth 20000 in
theorem c_MD_planned {l : Launch} {G : KG} {Z : ZZ} {v1 : Int32} {v2 : Int32} {M M' : Mm} {r : Int32} (hz : FU Z) (h : f_MD_planned v1 v2 M = some (r, M')) : CT l G y_MD_planned md_MD_planned 0 0 [rf G 78, .int v1, .int v2] Z.2.2.1 Z.2.2.2 M (rvI r) Z.2.2.1 Z.2.2.2 M' :=
  CT.of (Z := (0, 0, Z.2.2.1, Z.2.2.2)) (Z' := (0, 0, Z.2.2.1, Z.2.2.2)) 0 (by decide) rfl ⟨rfl, rfl⟩ (by show 3 ≤ 3; decide) rfl h (fun X _ hG => by subst hG; exact t_MD_planned hz)
set_option maxHeartbeats 4000000 in
set_option maxRecDepth 20000 in
theorem t_MD_plans_95 {X : KX} {Z : ZZ} {rec6 : Int32 → Mm → Option (Int32 × Mm)} {rec29 : Int32 → Int32 → Int32 → Mm → Option (Int32 × Mm)} (hz : FU Z) (hr6 : ∀ (v1 : Int32) (M : Mm), GO X md_MD_plans (QE X rvI Z) 6 [some (rf (kG X) 78), some (.int v1), none, none, none] [] Z M (rec6 v1 M)) (hr29 : ∀ (v1 : Int32) (v2 : Int32) (v3 : Int32) (M : Mm), GO X md_MD_plans (QE X rvI Z) 29 [some (rf (kG X) 78), some (.int v1), some (.int v2), some (.int v3), none] [] Z M (rec29 v1 v2 v3 M)) : ∀ (v1 : Int32) (v2 : Int32) (v3 : Int32) (M : Mm), GO X md_MD_plans (QE X rvI Z) 95 [some (rf (kG X) 78), some (.int v1), some (.int v2), some (.int v3), none] [] Z M (f_MD_plans_95 rec6 rec29 v1 v2 v3 M) := by
  intro v1 v2 v3 M
  unfold f_MD_plans_95
  refine g_iincL (c := (1 : Int32)) e_MD_plans_95 rfl (by decide) (by decide) rfl (fun x24 => ?_)
  refine g_goto e_MD_plans_98 ?_
  exact g_wq (hr29 v1 v2 x24 M) ⟨rfl, rfl, rfl, rfl, trivial⟩
set_option maxHeartbeats 4000000 in
set_option maxRecDepth 20000 in
theorem t_MD_plans_29 {X : KX} {Z : ZZ} {rec6 : Int32 → Mm → Option (Int32 × Mm)} (hz : FU Z) (hr6 : ∀ (v1 : Int32) (M : Mm), GO X md_MD_plans (QE X rvI Z) 6 [some (rf (kG X) 78), some (.int v1), none, none, none] [] Z M (rec6 v1 M)) : ∀ (n : Nat) (v1 : Int32) (v2 : Int32) (v3 : Int32) (M : Mm), GO X md_MD_plans (QE X rvI Z) 29 [some (rf (kG X) 78), some (.int v1), some (.int v2), some (.int v3), none] [] Z M (f_MD_plans_29 rec6 n v1 v2 v3 M) := by
  intro n
  induction n with
  | zero =>
    intro v1 v2 v3 M
    exact g_none
  | succ n ih =>
    intro v1 v2 v3 M
    rw [f_MD_plans_29_s]
    refine g_iload_n e_MD_plans_29 rfl ?_
    refine g_aload_n e_MD_plans_30 rfl ?_
    refine g_callV (rv := rvI) (As := []) (st := [.int v3]) e_MD_plans_31 mv_MD_100 my_MD_leaves (by decide) rfl rfl kq_78 (hz.lt kq_78) rfl (Nat.le_of_ble_eq_true rfl) rfl (fun r M1 h => c_MD_leaves hz  h) (fun r10 M9 h11 => ?_)
    refine g_icmp_ge e_MD_plans_34 (fun c12 => ?_) (fun c12 => ?_)
    · refine g_iincL (c := (1 : Int32)) e_MD_plans_101 rfl (by decide) (by decide) rfl (fun x13 => ?_)
      refine g_goto e_MD_plans_104 ?_
      exact g_wq (hr6 x13 M9) ⟨rfl, rfl, trivial⟩
    · refine g_aload_n e_MD_plans_37 rfl ?_
      refine g_iload_n e_MD_plans_38 rfl ?_
      refine g_iload_n e_MD_plans_39 rfl ?_
      refine g_aload_n e_MD_plans_40 rfl ?_
      refine g_callV (rv := rvI) (As := []) (st := [.int v3, .int v2, rf (kG X) 78]) e_MD_plans_41 mv_MD_104 my_MD_w (by decide) rfl rfl kq_78 (hz.lt kq_78) rfl (Nat.le_of_ble_eq_true rfl) rfl (fun r M1 h => c_MD_w hz  h) (fun r15 M14 h16 => ?_)
      refine g_idivG e_MD_plans_44 ?_
      refine g_iload_n e_MD_plans_45 rfl ?_
      refine g_aload_n e_MD_plans_46 rfl ?_
      refine g_callV (rv := rvI) (As := []) (st := [.int v3, .int (v3 / r15), .int v2, rf (kG X) 78]) e_MD_plans_47 mv_MD_104 my_MD_w (by decide) rfl rfl kq_78 (hz.lt kq_78) rfl (Nat.le_of_ble_eq_true rfl) rfl (fun r M1 h => c_MD_w hz  h) (fun r18 M17 h19 => ?_)
      refine g_iremG e_MD_plans_50 ?_
      refine g_callV (rv := rvI) (As := [.int v2, .int (v3 / r15), .int (v3 % r18)]) (st := []) e_MD_plans_51 mv_MD_199 my_MD_pageOf (by decide) rfl rfl kq_78 (hz.lt kq_78) rfl (Nat.le_of_ble_eq_true rfl) rfl (fun r M1 h => c_MD_pageOf hz  h) (fun r21 M20 h22 => ?_)
      refine g_istore e_MD_plans_54 (by decide) rfl ?_
      refine g_iload e_MD_plans_56 rfl ?_
      refine g_aload_n e_MD_plans_58 rfl ?_
      refine g_getI e_MD_plans_59 fl_MD_15 kq_78 (hz.lt kq_78) fj_10_2 ?_
      refine g_icmp_gt e_MD_plans_62 (fun c23 => ?_) (fun c23 => ?_)
      · exact g_wq (t_MD_plans_95 hz (hr6) (ih) v1 v2 v3 M20) ⟨rfl, rfl, rfl, rfl, trivial⟩
      · refine g_aload_n e_MD_plans_65 rfl ?_
        refine g_iload_n e_MD_plans_66 rfl ?_
        refine g_iload_n e_MD_plans_67 rfl ?_
        refine g_aload_n e_MD_plans_68 rfl ?_
        refine g_callV (rv := rvI) (As := []) (st := [.int v3, .int v2, rf (kG X) 78]) e_MD_plans_69 mv_MD_104 my_MD_w (by decide) rfl rfl kq_78 (hz.lt kq_78) rfl (Nat.le_of_ble_eq_true rfl) rfl (fun r M1 h => c_MD_w hz  h) (fun r26 M25 h27 => ?_)
        refine g_idivG e_MD_plans_72 ?_
        refine g_iload_n e_MD_plans_73 rfl ?_
        refine g_aload_n e_MD_plans_74 rfl ?_
        refine g_callV (rv := rvI) (As := []) (st := [.int v3, .int (v3 / r26), .int v2, rf (kG X) 78]) e_MD_plans_75 mv_MD_104 my_MD_w (by decide) rfl rfl kq_78 (hz.lt kq_78) rfl (Nat.le_of_ble_eq_true rfl) rfl (fun r M1 h => c_MD_w hz  h) (fun r29 M28 h30 => ?_)
        refine g_iremG e_MD_plans_78 ?_
        refine g_callS (rv := rvI) (As := [.int v2, .int (v3 / r26), .int (v3 % r29)]) (st := [rf (kG X) 78]) e_MD_plans_79 ms_MD_229 my_MD_cellOf (by decide) rfl rfl (Nat.le_of_ble_eq_true rfl) (fun r M1 h => c_MD_cellOf hz  h) (fun r32 M31 h33 => ?_)
        refine g_iload e_MD_plans_82 rfl ?_
        refine g_aload_n e_MD_plans_84 rfl ?_
        refine g_iload e_MD_plans_85 rfl ?_
        refine g_iconst (x := (4 : Int32)) e_MD_plans_87 (by decide) ?_
        refine g_callV (rv := rvI) (As := [.int r21, .int (4 : Int32)]) (st := [.int r21, .int r32, rf (kG X) 78]) e_MD_plans_88 mv_MD_190 my_MD_standsAt (by decide) rfl rfl kq_78 (hz.lt kq_78) rfl (Nat.le_of_ble_eq_true rfl) rfl (fun r M1 h => c_MD_standsAt hz  h) (fun r35 M34 h36 => ?_)
        refine g_callV (rv := rvI) (As := [.int r32, .int r21, .int r35]) (st := []) e_MD_plans_91 mv_MD_232 my_MD_tells (by decide) rfl rfl kq_78 (hz.lt kq_78) rfl (Nat.le_of_ble_eq_true rfl) rfl (fun r M1 h => c_MD_tells hz  h) (fun r38 M37 h39 => ?_)
        refine g_pop e_MD_plans_94 rfl ?_
        exact g_wq (t_MD_plans_95 hz (hr6) (ih) v1 v2 v3 M37) ⟨rfl, rfl, rfl, rfl, trivial⟩
set_option maxHeartbeats 4000000 in
set_option maxRecDepth 20000 in
theorem t_MD_plans_6 {X : KX} {Z : ZZ} (hz : FU Z) : ∀ (n : Nat) (v1 : Int32) (M : Mm), GO X md_MD_plans (QE X rvI Z) 6 [some (rf (kG X) 78), some (.int v1), none, none, none] [] Z M (f_MD_plans_6 n v1 M) := by
  intro n
  induction n with
  | zero =>
    intro v1 M
    exact g_none
  | succ n ih =>
    intro v1 M
    rw [f_MD_plans_6_s]
    refine g_iload_n e_MD_plans_6 rfl ?_
    refine g_iconst (x := (2 : Int32)) e_MD_plans_7 (by decide) ?_
    refine g_aload_n e_MD_plans_8 rfl ?_
    refine g_callV (rv := rvI) (As := []) (st := [.int (2 : Int32), .int v1]) e_MD_plans_9 mv_MD_121 my_MD_sheets (by decide) rfl rfl kq_78 (hz.lt kq_78) rfl (Nat.le_of_ble_eq_true rfl) rfl (fun r M1 h => c_MD_sheets hz  h) (fun r5 M4 h6 => ?_)
    refine g_imul e_MD_plans_12 ?_
    refine g_icmp_ge e_MD_plans_13 (fun c7 => ?_) (fun c7 => ?_)
    · refine g_aload_n e_MD_plans_107 rfl ?_
      refine g_getI e_MD_plans_108 fl_MD_133 kq_78 (hz.lt kq_78) fj_10_22 ?_
      exact g_iret e_MD_plans_111 rfl
    · refine g_bipush (x := (10 : Int32)) e_MD_plans_16 (by decide) ?_
      refine g_iload_n e_MD_plans_18 rfl ?_
      refine g_iconst (x := (2 : Int32)) e_MD_plans_19 (by decide) ?_
      refine g_idiv e_MD_plans_20 (by decide) ?_
      refine g_imul e_MD_plans_21 ?_
      refine g_iload_n e_MD_plans_22 rfl ?_
      refine g_iconst (x := (2 : Int32)) e_MD_plans_23 (by decide) ?_
      refine g_irem e_MD_plans_24 (by decide) ?_
      refine g_iadd e_MD_plans_25 ?_
      refine g_istoreL_n e_MD_plans_26 (by decide) rfl (fun x8 => ?_)
      refine g_iconst (x := (0 : Int32)) e_MD_plans_27 (by decide) ?_
      refine g_istore_n e_MD_plans_28 (by decide) rfl ?_
      exact g_wq (t_MD_plans_29 hz (ih) fuel v1 x8 (0 : Int32) M4) ⟨rfl, rfl, rfl, rfl, trivial⟩
set_option maxHeartbeats 4000000 in
set_option maxRecDepth 20000 in
theorem t_MD_plans {X : KX} {Z : ZZ} {M : Mm} (hz : FU Z) : GO X md_MD_plans (QE X rvI Z) 0 [some (rf (kG X) 78), none, none, none, none] [] Z M (f_MD_plans M) := by
  unfold f_MD_plans
  refine g_aload_n e_MD_plans_0 rfl ?_
  refine g_callV (rv := rvU) (As := []) (st := []) e_MD_plans_1 mv_MD_162 my_MD_folds (by decide) rfl rfl kq_78 (hz.lt kq_78) rfl (Nat.le_of_ble_eq_true rfl) rfl (fun r M1 h => c_MD_folds hz  h) (fun r2 M1 h3 => ?_)
  refine g_iconst (x := (0 : Int32)) e_MD_plans_4 (by decide) ?_
  refine g_istore_n e_MD_plans_5 (by decide) rfl ?_
  exact g_wq (t_MD_plans_6 hz fuel (0 : Int32) M1) ⟨rfl, rfl, trivial⟩
set_option maxHeartbeats 4000000 in
set_option maxRecDepth 20000 in
theorem c_MD_plans {l : Launch} {G : KG} {Z : ZZ} {M M' : Mm} {r : Int32} (hz : FU Z) (h : f_MD_plans M = some (r, M')) : CT l G y_MD_plans md_MD_plans 0 0 [rf G 78] Z.2.2.1 Z.2.2.2 M (rvI r) Z.2.2.1 Z.2.2.2 M' :=
  CT.of (Z := (0, 0, Z.2.2.1, Z.2.2.2)) (Z' := (0, 0, Z.2.2.1, Z.2.2.2)) 4 (by decide) rfl ⟨rfl, rfl⟩ (by show 1 ≤ 5; decide) rfl h (fun X _ hG => by subst hG; exact t_MD_plans hz)
set_option maxHeartbeats 4000000 in
set_option maxRecDepth 20000 in
theorem t_MD_proves_122 {X : KX} {Z : ZZ} (hz : FU Z) : ∀ (v1 : Int32) (v2 : Int32) (M : Mm), GO X md_MD_proves (QE X rvU Z) 122 [some (rf (kG X) 78), some (.int v1), some (.int v2), none] [] Z M (f_MD_proves_122 v1 v2 M) := by
  intro v1 v2 M
  unfold f_MD_proves_122
  refine g_aload_n e_MD_proves_122 rfl ?_
  refine g_getI e_MD_proves_123 fl_MD_238 kq_78 (hz.lt kq_78) fj_10_24 ?_
  refine g_if_ne e_MD_proves_126 (fun c11 => ?_) (fun c11 => ?_)
  · exact g_vret e_MD_proves_159 rfl
  · refine g_aload_n e_MD_proves_129 rfl ?_
    refine g_iload_n e_MD_proves_130 rfl ?_
    refine g_iconst (x := (4 : Int32)) e_MD_proves_131 (by decide) ?_
    refine g_callV (rv := rvI) (As := [.int v1, .int (4 : Int32)]) (st := []) e_MD_proves_132 mv_MD_190 my_MD_standsAt (by decide) rfl rfl kq_78 (hz.lt kq_78) rfl (Nat.le_of_ble_eq_true rfl) rfl (fun r M1 h => c_MD_standsAt hz  h) (fun r13 M12 h14 => ?_)
    refine g_aload_n e_MD_proves_135 rfl ?_
    refine g_getRZ (kz := 89) e_MD_proves_136 fl_MD_55 hz kq_78 (by decide) fj_10_21 rfl ?_
    refine g_iload_n e_MD_proves_139 rfl ?_
    refine g_ialdG (n := 60) e_MD_proves_140 ⟨kq_89, by decide⟩ (hz.lt kq_89 (by decide)) ?_
    refine g_icmp_eq e_MD_proves_141 (fun c15 => ?_) (fun c15 => ?_)
    · exact g_vret e_MD_proves_159 rfl
    · refine g_aload_n e_MD_proves_144 rfl ?_
      refine g_iconst (x := (4 : Int32)) e_MD_proves_145 (by decide) ?_
      refine g_putL e_MD_proves_146 fp_MD_238 kq_78 (hz.lt kq_78) fj_10_24 rfl rfl (fun M16 => ?_)
      refine g_aload_n e_MD_proves_149 rfl ?_
      refine g_aload_n e_MD_proves_150 rfl ?_
      refine g_iload_n e_MD_proves_151 rfl ?_
      refine g_iconst (x := (4 : Int32)) e_MD_proves_152 (by decide) ?_
      refine g_callV (rv := rvI) (As := [.int v1, .int (4 : Int32)]) (st := [rf (kG X) 78]) e_MD_proves_153 mv_MD_190 my_MD_standsAt (by decide) rfl rfl kq_78 (hz.lt kq_78) rfl (Nat.le_of_ble_eq_true rfl) rfl (fun r M1 h => c_MD_standsAt hz  h) (fun r18 M17 h19 => ?_)
      refine g_putL e_MD_proves_156 fp_MD_244 kq_78 (hz.lt kq_78) fj_10_26 rfl rfl (fun M20 => ?_)
      exact g_vret e_MD_proves_159 rfl
set_option maxHeartbeats 4000000 in
set_option maxRecDepth 20000 in
theorem t_MD_proves_81 {X : KX} {Z : ZZ} {rec51 : Int32 → Int32 → Int32 → Mm → Option (Unit × Mm)} (hz : FU Z) (hr51 : ∀ (v1 : Int32) (v2 : Int32) (v3 : Int32) (M : Mm), GO X md_MD_proves (QE X rvU Z) 51 [some (rf (kG X) 78), some (.int v1), some (.int v2), some (.int v3)] [] Z M (rec51 v1 v2 v3 M)) : ∀ (v1 : Int32) (v2 : Int32) (v3 : Int32) (M : Mm), GO X md_MD_proves (QE X rvU Z) 81 [some (rf (kG X) 78), some (.int v1), some (.int v2), some (.int v3)] [] Z M (f_MD_proves_81 rec51 v1 v2 v3 M) := by
  intro v1 v2 v3 M
  unfold f_MD_proves_81
  refine g_iincL (c := (-1 : Int32)) e_MD_proves_81 rfl (by decide) (by decide) rfl (fun x31 => ?_)
  refine g_goto e_MD_proves_84 ?_
  exact g_wq (hr51 v1 v2 x31 M) ⟨rfl, rfl, rfl, rfl, trivial⟩
set_option maxHeartbeats 4000000 in
set_option maxRecDepth 20000 in
theorem t_MD_proves_51 {X : KX} {Z : ZZ} (hz : FU Z) : ∀ (n : Nat) (v1 : Int32) (v2 : Int32) (v3 : Int32) (M : Mm), GO X md_MD_proves (QE X rvU Z) 51 [some (rf (kG X) 78), some (.int v1), some (.int v2), some (.int v3)] [] Z M (f_MD_proves_51 n v1 v2 v3 M) := by
  intro n
  induction n with
  | zero =>
    intro v1 v2 v3 M
    exact g_none
  | succ n ih =>
    intro v1 v2 v3 M
    rw [f_MD_proves_51_s]
    refine g_iload_n e_MD_proves_51 rfl ?_
    refine g_iload_n e_MD_proves_52 rfl ?_
    refine g_icmp_le e_MD_proves_53 (fun c9 => ?_) (fun c9 => ?_)
    · refine g_aload_n e_MD_proves_87 rfl ?_
      refine g_getI e_MD_proves_88 fl_MD_238 kq_78 (hz.lt kq_78) fj_10_24 ?_
      refine g_if_ne e_MD_proves_91 (fun c10 => ?_) (fun c10 => ?_)
      · exact g_wq (t_MD_proves_122 hz v1 v2 M) ⟨rfl, rfl, rfl, trivial⟩
      · refine g_aload_n e_MD_proves_94 rfl ?_
        refine g_iload_n e_MD_proves_95 rfl ?_
        refine g_iconst (x := (5 : Int32)) e_MD_proves_96 (by decide) ?_
        refine g_callV (rv := rvI) (As := [.int v1, .int (5 : Int32)]) (st := []) e_MD_proves_97 mv_MD_190 my_MD_standsAt (by decide) rfl rfl kq_78 (hz.lt kq_78) rfl (Nat.le_of_ble_eq_true rfl) rfl (fun r M1 h => c_MD_standsAt hz  h) (fun r22 M21 h23 => ?_)
        refine g_aload_n e_MD_proves_100 rfl ?_
        refine g_getI e_MD_proves_101 fl_MD_241 kq_78 (hz.lt kq_78) fj_10_25 ?_
        refine g_icmp_eq e_MD_proves_104 (fun c24 => ?_) (fun c24 => ?_)
        · exact g_wq (t_MD_proves_122 hz v1 v2 M21) ⟨rfl, rfl, rfl, trivial⟩
        · refine g_aload_n e_MD_proves_107 rfl ?_
          refine g_iconst (x := (3 : Int32)) e_MD_proves_108 (by decide) ?_
          refine g_putL e_MD_proves_109 fp_MD_238 kq_78 (hz.lt kq_78) fj_10_24 rfl rfl (fun M25 => ?_)
          refine g_aload_n e_MD_proves_112 rfl ?_
          refine g_aload_n e_MD_proves_113 rfl ?_
          refine g_iload_n e_MD_proves_114 rfl ?_
          refine g_iconst (x := (5 : Int32)) e_MD_proves_115 (by decide) ?_
          refine g_callV (rv := rvI) (As := [.int v1, .int (5 : Int32)]) (st := [rf (kG X) 78]) e_MD_proves_116 mv_MD_190 my_MD_standsAt (by decide) rfl rfl kq_78 (hz.lt kq_78) rfl (Nat.le_of_ble_eq_true rfl) rfl (fun r M1 h => c_MD_standsAt hz  h) (fun r27 M26 h28 => ?_)
          refine g_putL e_MD_proves_119 fp_MD_244 kq_78 (hz.lt kq_78) fj_10_26 rfl rfl (fun M29 => ?_)
          exact g_wq (t_MD_proves_122 hz v1 v2 M29) ⟨rfl, rfl, rfl, trivial⟩
    · refine g_aload_n e_MD_proves_56 rfl ?_
      refine g_getRZ (kz := 88) e_MD_proves_57 fl_MD_52 hz kq_78 (by decide) fj_10_20 rfl ?_
      refine g_iload_n e_MD_proves_60 rfl ?_
      refine g_ialdG (n := 60) e_MD_proves_61 ⟨kq_88, by decide⟩ (hz.lt kq_88 (by decide)) ?_
      refine g_iload_n e_MD_proves_62 rfl ?_
      refine g_icmp_ne e_MD_proves_63 (fun c30 => ?_) (fun c30 => ?_)
      · exact g_wq (t_MD_proves_81 hz (ih) v1 v2 v3 M) ⟨rfl, rfl, rfl, rfl, trivial⟩
      · refine g_aload_n e_MD_proves_66 rfl ?_
        refine g_iconst (x := (2 : Int32)) e_MD_proves_67 (by decide) ?_
        refine g_putL e_MD_proves_68 fp_MD_238 kq_78 (hz.lt kq_78) fj_10_24 rfl rfl (fun M32 => ?_)
        refine g_aload_n e_MD_proves_71 rfl ?_
        refine g_aload_n e_MD_proves_72 rfl ?_
        refine g_getRZ (kz := 87) e_MD_proves_73 fl_MD_49 hz kq_78 (by decide) fj_10_19 rfl ?_
        refine g_iload_n e_MD_proves_76 rfl ?_
        refine g_ialdG (n := 60) e_MD_proves_77 ⟨kq_87, by decide⟩ (hz.lt kq_87 (by decide)) ?_
        refine g_putL e_MD_proves_78 fp_MD_244 kq_78 (hz.lt kq_78) fj_10_26 rfl rfl (fun M33 => ?_)
        exact g_wq (t_MD_proves_81 hz (ih) v1 v2 v3 M33) ⟨rfl, rfl, rfl, rfl, trivial⟩
set_option maxHeartbeats 4000000 in
set_option maxRecDepth 20000 in
theorem t_MD_proves {X : KX} {Z : ZZ} {v1 : Int32} {M : Mm} (hz : FU Z) : GO X md_MD_proves (QE X rvU Z) 0 [some (rf (kG X) 78), some (.int v1), none, none] [] Z M (f_MD_proves v1 M) := by
  unfold f_MD_proves
  refine g_aload_n e_MD_proves_0 rfl ?_
  refine g_getRZ (kz := 88) e_MD_proves_1 fl_MD_52 hz kq_78 (by decide) fj_10_20 rfl ?_
  refine g_aload_n e_MD_proves_4 rfl ?_
  refine g_getI e_MD_proves_5 fl_MD_133 kq_78 (hz.lt kq_78) fj_10_22 ?_
  refine g_iload_n e_MD_proves_8 rfl ?_
  refine g_callS (rv := rvI) (As := [rf (kG X) 88, .int (M.1 78 22), .int v1]) (st := []) e_MD_proves_9 ms_MD_216 my_MD_placeIn (by decide) rfl rfl (Nat.le_of_ble_eq_true rfl) (fun r M1 h => c_MD_placeIn hz ⟨kq_88, by decide⟩ h) (fun r2 M1 h3 => ?_)
  refine g_istore_n e_MD_proves_12 (by decide) rfl ?_
  refine g_aload_n e_MD_proves_13 rfl ?_
  refine g_iload_n e_MD_proves_14 rfl ?_
  refine g_putL e_MD_proves_15 fp_MD_235 kq_78 (hz.lt kq_78) fj_10_23 rfl rfl (fun M4 => ?_)
  refine g_aload_n e_MD_proves_18 rfl ?_
  refine g_iconst (x := (0 : Int32)) e_MD_proves_19 (by decide) ?_
  refine g_putL e_MD_proves_20 fp_MD_238 kq_78 (hz.lt kq_78) fj_10_24 rfl rfl (fun M5 => ?_)
  refine g_iload_n e_MD_proves_23 rfl ?_
  refine g_iconst (x := (-1 : Int32)) e_MD_proves_24 (by decide) ?_
  refine g_icmp_ne e_MD_proves_25 (fun c6 => ?_) (fun c6 => ?_)
  · refine g_aload_n e_MD_proves_34 rfl ?_
    refine g_aload_n e_MD_proves_35 rfl ?_
    refine g_getRZ (kz := 87) e_MD_proves_36 fl_MD_49 hz kq_78 (by decide) fj_10_19 rfl ?_
    refine g_iload_n e_MD_proves_39 rfl ?_
    refine g_ialdG (n := 60) e_MD_proves_40 ⟨kq_87, by decide⟩ (hz.lt kq_87 (by decide)) ?_
    refine g_putL e_MD_proves_41 fp_MD_241 kq_78 (hz.lt kq_78) fj_10_25 rfl rfl (fun M7 => ?_)
    refine g_aload_n e_MD_proves_44 rfl ?_
    refine g_getI e_MD_proves_45 fl_MD_133 kq_78 (hz.lt kq_78) fj_10_22 ?_
    refine g_iconst (x := (1 : Int32)) e_MD_proves_48 (by decide) ?_
    refine g_isub e_MD_proves_49 ?_
    refine g_istoreL_n e_MD_proves_50 (by decide) rfl (fun x8 => ?_)
    exact g_wq (t_MD_proves_51 hz fuel v1 r2 x8 M7) ⟨rfl, rfl, rfl, rfl, trivial⟩
  · refine g_aload_n e_MD_proves_28 rfl ?_
    refine g_iconst (x := (1 : Int32)) e_MD_proves_29 (by decide) ?_
    refine g_putL e_MD_proves_30 fp_MD_238 kq_78 (hz.lt kq_78) fj_10_24 rfl rfl (fun M34 => ?_)
    exact g_vret e_MD_proves_33 rfl
set_option maxHeartbeats 4000000 in
set_option maxRecDepth 20000 in
theorem c_MD_proves {l : Launch} {G : KG} {Z : ZZ} {v1 : Int32} {M M' : Mm} {r : Unit} (hz : FU Z) (h : f_MD_proves v1 M = some (r, M')) : CT l G y_MD_proves md_MD_proves 0 0 [rf G 78, .int v1] Z.2.2.1 Z.2.2.2 M (rvU r) Z.2.2.1 Z.2.2.2 M' :=
  CT.of (Z := (0, 0, Z.2.2.1, Z.2.2.2)) (Z' := (0, 0, Z.2.2.1, Z.2.2.2)) 2 (by decide) rfl ⟨rfl, rfl⟩ (by show 2 ≤ 4; decide) rfl h (fun X _ hG => by subst hG; exact t_MD_proves hz)
set_option maxHeartbeats 4000000 in
set_option maxRecDepth 20000 in
theorem t_MD_proof_80 {X : KX} {Z : ZZ} (hz : FU Z) : ∀ (v1 : Int32) (M : Mm), GO X md_MD_proof (QE X rvI Z) 80 [some (rf (kG X) 78), some (.int v1), none] [] Z M (f_MD_proof_80 v1 M) := by
  intro v1 M
  unfold f_MD_proof_80
  refine g_iload_n e_MD_proof_80 rfl ?_
  refine g_iconst (x := (1 : Int32)) e_MD_proof_81 (by decide) ?_
  refine g_phi1 108 (fun x13 => [none, none, none]) (fun x13 => [.int x13]) (fun x13 => ?_) (fun hj14 => ?_)
  · show GO X _ _ 108 [none, none, none] [.int x13] Z M _
    exact g_iret e_MD_proof_108 rfl
  · refine g_icmp_ne' e_MD_proof_82 (fun c11 => ?_) (fun c11 => ?_)
    · refine g_iload_n e_MD_proof_92 rfl ?_
      refine g_iconst (x := (2 : Int32)) e_MD_proof_93 (by decide) ?_
      refine g_icmp_ne' e_MD_proof_94 (fun c12 => ?_) (fun c12 => ?_)
      · refine g_aload_n e_MD_proof_104 rfl ?_
        refine g_getI e_MD_proof_105 fl_MD_244 kq_78 (hz.lt kq_78) fj_10_26 ?_
        exact (g_pf c11 (g_pf c12 (g_lt (g_wq (hj14 (M.1 78 26)) trivial))))
      · refine g_aload_n e_MD_proof_97 rfl ?_
        refine g_getI e_MD_proof_98 fl_MD_241 kq_78 (hz.lt kq_78) fj_10_25 ?_
        refine g_goto e_MD_proof_101 ?_
        exact (g_pf c11 (g_pt c12 (g_lt (g_wq (hj14 (M.1 78 25)) trivial))))
    · refine g_aload_n e_MD_proof_85 rfl ?_
      refine g_getI e_MD_proof_86 fl_MD_235 kq_78 (hz.lt kq_78) fj_10_23 ?_
      refine g_goto e_MD_proof_89 ?_
      exact (g_pt c11 (g_lt (g_wq (hj14 (M.1 78 23)) trivial)))
set_option maxHeartbeats 4000000 in
set_option maxRecDepth 20000 in
theorem t_MD_proof_43 {X : KX} {Z : ZZ} (hz : FU Z) : ∀ (v1 : Int32) (M : Mm), GO X md_MD_proof (QE X rvI Z) 43 [some (rf (kG X) 78), some (.int v1), none] [] Z M (f_MD_proof_43 v1 M) := by
  intro v1 M
  unfold f_MD_proof_43
  refine g_iload_n e_MD_proof_43 rfl ?_
  refine g_if_ne e_MD_proof_44 (fun c7 => ?_) (fun c7 => ?_)
  · refine g_aload_n e_MD_proof_52 rfl ?_
    refine g_getI e_MD_proof_53 fl_MD_238 kq_78 (hz.lt kq_78) fj_10_24 ?_
    refine g_if_eq e_MD_proof_56 (fun c8 => ?_) (fun c8 => ?_)
    · refine g_bipush (x := (-5 : Int32)) e_MD_proof_77 (by decide) ?_
      exact g_iret e_MD_proof_79 rfl
    · refine g_iload_n e_MD_proof_59 rfl ?_
      refine g_iconst (x := (3 : Int32)) e_MD_proof_60 (by decide) ?_
      refine g_icmp_gt e_MD_proof_61 (fun c9 => ?_) (fun c9 => ?_)
      · refine g_bipush (x := (-5 : Int32)) e_MD_proof_77 (by decide) ?_
        exact g_iret e_MD_proof_79 rfl
      · refine g_aload_n e_MD_proof_64 rfl ?_
        refine g_getI e_MD_proof_65 fl_MD_238 kq_78 (hz.lt kq_78) fj_10_24 ?_
        refine g_iconst (x := (1 : Int32)) e_MD_proof_68 (by decide) ?_
        refine g_icmp_ne e_MD_proof_69 (fun c10 => ?_) (fun c10 => ?_)
        · exact g_wq (t_MD_proof_80 hz v1 M) ⟨rfl, rfl, trivial⟩
        · refine g_iload_n e_MD_proof_72 rfl ?_
          refine g_iconst (x := (1 : Int32)) e_MD_proof_73 (by decide) ?_
          refine g_icmp_le e_MD_proof_74 (fun c15 => ?_) (fun c15 => ?_)
          · exact g_wq (t_MD_proof_80 hz v1 M) ⟨rfl, rfl, trivial⟩
          · refine g_bipush (x := (-5 : Int32)) e_MD_proof_77 (by decide) ?_
            exact g_iret e_MD_proof_79 rfl
  · refine g_aload_n e_MD_proof_47 rfl ?_
    refine g_getI e_MD_proof_48 fl_MD_238 kq_78 (hz.lt kq_78) fj_10_24 ?_
    exact g_iret e_MD_proof_51 rfl
set_option maxHeartbeats 4000000 in
set_option maxRecDepth 20000 in
theorem t_MD_proof_17 {X : KX} {Z : ZZ} (hz : FU Z) : ∀ (n : Nat) (v1 : Int32) (v2 : Int32) (M : Mm), GO X md_MD_proof (QE X rvI Z) 17 [some (rf (kG X) 78), some (.int v1), some (.int v2)] [] Z M (f_MD_proof_17 n v1 v2 M) := by
  intro n
  induction n with
  | zero =>
    intro v1 v2 M
    exact g_none
  | succ n ih =>
    intro v1 v2 M
    rw [f_MD_proof_17_s]
    refine g_iload_n e_MD_proof_17 rfl ?_
    refine g_aload_n e_MD_proof_18 rfl ?_
    refine g_getI e_MD_proof_19 fl_MD_15 kq_78 (hz.lt kq_78) fj_10_2 ?_
    refine g_icmp_gt e_MD_proof_22 (fun c6 => ?_) (fun c6 => ?_)
    · exact g_wq (t_MD_proof_43 hz v1 M) ⟨rfl, rfl, trivial⟩
    · refine g_aload_n e_MD_proof_25 rfl ?_
      refine g_getI e_MD_proof_26 fl_MD_238 kq_78 (hz.lt kq_78) fj_10_24 ?_
      refine g_if_ne e_MD_proof_29 (fun c16 => ?_) (fun c16 => ?_)
      · exact g_wq (t_MD_proof_43 hz v1 M) ⟨rfl, rfl, trivial⟩
      · refine g_aload_n e_MD_proof_32 rfl ?_
        refine g_iload_n e_MD_proof_33 rfl ?_
        refine g_callV (rv := rvU) (As := [.int v2]) (st := []) e_MD_proof_34 mv_MD_247 my_MD_proves (by decide) rfl rfl kq_78 (hz.lt kq_78) rfl (Nat.le_of_ble_eq_true rfl) rfl (fun r M1 h => c_MD_proves hz  h) (fun r18 M17 h19 => ?_)
        refine g_iincL (c := (1 : Int32)) e_MD_proof_37 rfl (by decide) (by decide) rfl (fun x20 => ?_)
        refine g_goto e_MD_proof_40 ?_
        exact g_wq (ih v1 x20 M17) ⟨rfl, rfl, rfl, trivial⟩
set_option maxHeartbeats 4000000 in
set_option maxRecDepth 20000 in
theorem t_MD_proof {X : KX} {Z : ZZ} {v1 : Int32} {M : Mm} (hz : FU Z) : GO X md_MD_proof (QE X rvI Z) 0 [some (rf (kG X) 78), some (.int v1), none] [] Z M (f_MD_proof v1 M) := by
  unfold f_MD_proof
  refine g_iload_n e_MD_proof_0 rfl ?_
  refine g_if_ge e_MD_proof_1 (fun c1 => ?_) (fun c1 => ?_)
  · refine g_aload_n e_MD_proof_6 rfl ?_
    refine g_callV (rv := rvU) (As := []) (st := []) e_MD_proof_7 mv_MD_162 my_MD_folds (by decide) rfl rfl kq_78 (hz.lt kq_78) rfl (Nat.le_of_ble_eq_true rfl) rfl (fun r M1 h => c_MD_folds hz  h) (fun r3 M2 h4 => ?_)
    refine g_aload_n e_MD_proof_10 rfl ?_
    refine g_iconst (x := (0 : Int32)) e_MD_proof_11 (by decide) ?_
    refine g_putL e_MD_proof_12 fp_MD_238 kq_78 (hz.lt kq_78) fj_10_24 rfl rfl (fun M5 => ?_)
    refine g_iconst (x := (1 : Int32)) e_MD_proof_15 (by decide) ?_
    refine g_istore_n e_MD_proof_16 (by decide) rfl ?_
    exact g_wq (t_MD_proof_17 hz fuel v1 (1 : Int32) M5) ⟨rfl, rfl, rfl, trivial⟩
  · refine g_iconst (x := (-1 : Int32)) e_MD_proof_4 (by decide) ?_
    exact g_iret e_MD_proof_5 rfl
set_option maxHeartbeats 4000000 in
set_option maxRecDepth 20000 in
theorem c_MD_proof {l : Launch} {G : KG} {Z : ZZ} {v1 : Int32} {M M' : Mm} {r : Int32} (hz : FU Z) (h : f_MD_proof v1 M = some (r, M')) : CT l G y_MD_proof md_MD_proof 0 0 [rf G 78, .int v1] Z.2.2.1 Z.2.2.2 M (rvI r) Z.2.2.1 Z.2.2.2 M' :=
  CT.of (Z := (0, 0, Z.2.2.1, Z.2.2.2)) (Z' := (0, 0, Z.2.2.1, Z.2.2.2)) 1 (by decide) rfl ⟨rfl, rfl⟩ (by show 2 ≤ 3; decide) rfl h (fun X _ hG => by subst hG; exact t_MD_proof hz)
set_option maxHeartbeats 4000000 in
set_option maxRecDepth 20000 in
theorem t_MD_see {X : KX} {Z : ZZ} {v1 : Int32} {v2 : Int32} {v3 : Int32} {v4 : Int32} {M : Mm} (hz : FU Z) : GO X md_MD_see (QE X rvI Z) 0 [some (rf (kG X) 78), some (.int v1), some (.int v2), some (.int v3), some (.int v4)] [] Z M (f_MD_see v1 v2 v3 v4 M) := by
  unfold f_MD_see
  refine g_iload_n e_MD_see_0 rfl ?_
  refine g_iconst (x := (-1 : Int32)) e_MD_see_1 (by decide) ?_
  refine g_icmp_ne e_MD_see_2 (fun c1 => ?_) (fun c1 => ?_)
  · refine g_iload_n e_MD_see_12 rfl ?_
    refine g_iconst (x := (0 : Int32)) e_MD_see_13 (by decide) ?_
    refine g_sipush (x := (319 : Int32)) e_MD_see_14 (by decide) ?_
    refine g_callS (rv := rvI) (As := [.int v1, .int (0 : Int32), .int (319 : Int32)]) (st := []) e_MD_see_17 ms_MD_92 my_MD_in (by decide) rfl rfl (Nat.le_of_ble_eq_true rfl) (fun r M1 h => c_MD_in hz  h) (fun r3 M2 h4 => ?_)
    refine g_if_eq e_MD_see_20 (fun c5 => ?_) (fun c5 => ?_)
    · refine g_bipush (x := (-2 : Int32)) e_MD_see_63 (by decide) ?_
      exact g_iret e_MD_see_65 rfl
    · refine g_iload_n e_MD_see_23 rfl ?_
      refine g_bipush (x := (10 : Int32)) e_MD_see_24 (by decide) ?_
      refine g_irem e_MD_see_26 (by decide) ?_
      refine g_iconst (x := (1 : Int32)) e_MD_see_27 (by decide) ?_
      refine g_icmp_gt e_MD_see_28 (fun c6 => ?_) (fun c6 => ?_)
      · refine g_bipush (x := (-2 : Int32)) e_MD_see_63 (by decide) ?_
        exact g_iret e_MD_see_65 rfl
      · refine g_iload_n e_MD_see_31 rfl ?_
        refine g_iconst (x := (0 : Int32)) e_MD_see_32 (by decide) ?_
        refine g_bipush (x := (15 : Int32)) e_MD_see_33 (by decide) ?_
        refine g_callS (rv := rvI) (As := [.int v2, .int (0 : Int32), .int (15 : Int32)]) (st := []) e_MD_see_35 ms_MD_92 my_MD_in (by decide) rfl rfl (Nat.le_of_ble_eq_true rfl) (fun r M1 h => c_MD_in hz  h) (fun r8 M7 h9 => ?_)
        refine g_if_eq e_MD_see_38 (fun c10 => ?_) (fun c10 => ?_)
        · refine g_bipush (x := (-2 : Int32)) e_MD_see_63 (by decide) ?_
          exact g_iret e_MD_see_65 rfl
        · refine g_iload_n e_MD_see_41 rfl ?_
          refine g_iconst (x := (0 : Int32)) e_MD_see_42 (by decide) ?_
          refine g_bipush (x := (15 : Int32)) e_MD_see_43 (by decide) ?_
          refine g_callS (rv := rvI) (As := [.int v3, .int (0 : Int32), .int (15 : Int32)]) (st := []) e_MD_see_45 ms_MD_92 my_MD_in (by decide) rfl rfl (Nat.le_of_ble_eq_true rfl) (fun r M1 h => c_MD_in hz  h) (fun r12 M11 h13 => ?_)
          refine g_if_eq e_MD_see_48 (fun c14 => ?_) (fun c14 => ?_)
          · refine g_bipush (x := (-2 : Int32)) e_MD_see_63 (by decide) ?_
            exact g_iret e_MD_see_65 rfl
          · refine g_iload e_MD_see_51 rfl ?_
            refine g_iconst (x := (1 : Int32)) e_MD_see_53 (by decide) ?_
            refine g_sipush (x := (128 : Int32)) e_MD_see_54 (by decide) ?_
            refine g_callS (rv := rvI) (As := [.int v4, .int (1 : Int32), .int (128 : Int32)]) (st := []) e_MD_see_57 ms_MD_92 my_MD_in (by decide) rfl rfl (Nat.le_of_ble_eq_true rfl) (fun r M1 h => c_MD_in hz  h) (fun r16 M15 h17 => ?_)
            refine g_if_ne e_MD_see_60 (fun c18 => ?_) (fun c18 => ?_)
            · refine g_aload_n e_MD_see_66 rfl ?_
              refine g_getI e_MD_see_67 fl_MD_250 kq_78 (hz.lt kq_78) fj_10_28 ?_
              refine g_iconst (x := (5 : Int32)) e_MD_see_70 (by decide) ?_
              refine g_icmp_ne e_MD_see_71 (fun c19 => ?_) (fun c19 => ?_)
              · refine g_aload_n e_MD_see_77 rfl ?_
                refine g_getRZ (kz := 90) e_MD_see_78 fl_MD_58 hz kq_78 (by decide) fj_10_27 rfl ?_
                refine g_iconst (x := (4 : Int32)) e_MD_see_81 (by decide) ?_
                refine g_aload_n e_MD_see_82 rfl ?_
                refine g_getI e_MD_see_83 fl_MD_250 kq_78 (hz.lt kq_78) fj_10_28 ?_
                refine g_imul e_MD_see_86 ?_
                refine g_iload_n e_MD_see_87 rfl ?_
                refine g_iastG (n := 20) e_MD_see_88 ⟨kq_90, by decide⟩ (hz.lt kq_90 (by decide)) (fun M20 => ?_)
                refine g_aload_n e_MD_see_89 rfl ?_
                refine g_getRZ (kz := 90) e_MD_see_90 fl_MD_58 hz kq_78 (by decide) fj_10_27 rfl ?_
                refine g_iconst (x := (4 : Int32)) e_MD_see_93 (by decide) ?_
                refine g_aload_n e_MD_see_94 rfl ?_
                refine g_getI e_MD_see_95 fl_MD_250 kq_78 (hz.lt kq_78) fj_10_28 ?_
                refine g_imul e_MD_see_98 ?_
                refine g_iconst (x := (1 : Int32)) e_MD_see_99 (by decide) ?_
                refine g_iadd e_MD_see_100 ?_
                refine g_iload_n e_MD_see_101 rfl ?_
                refine g_iastG (n := 20) e_MD_see_102 ⟨kq_90, by decide⟩ (hz.lt kq_90 (by decide)) (fun M21 => ?_)
                refine g_aload_n e_MD_see_103 rfl ?_
                refine g_getRZ (kz := 90) e_MD_see_104 fl_MD_58 hz kq_78 (by decide) fj_10_27 rfl ?_
                refine g_iconst (x := (4 : Int32)) e_MD_see_107 (by decide) ?_
                refine g_aload_n e_MD_see_108 rfl ?_
                refine g_getI e_MD_see_109 fl_MD_250 kq_78 (hz.lt kq_78) fj_10_28 ?_
                refine g_imul e_MD_see_112 ?_
                refine g_iconst (x := (2 : Int32)) e_MD_see_113 (by decide) ?_
                refine g_iadd e_MD_see_114 ?_
                refine g_iload_n e_MD_see_115 rfl ?_
                refine g_iastG (n := 20) e_MD_see_116 ⟨kq_90, by decide⟩ (hz.lt kq_90 (by decide)) (fun M22 => ?_)
                refine g_aload_n e_MD_see_117 rfl ?_
                refine g_getRZ (kz := 90) e_MD_see_118 fl_MD_58 hz kq_78 (by decide) fj_10_27 rfl ?_
                refine g_iconst (x := (4 : Int32)) e_MD_see_121 (by decide) ?_
                refine g_aload_n e_MD_see_122 rfl ?_
                refine g_getI e_MD_see_123 fl_MD_250 kq_78 (hz.lt kq_78) fj_10_28 ?_
                refine g_imul e_MD_see_126 ?_
                refine g_iconst (x := (3 : Int32)) e_MD_see_127 (by decide) ?_
                refine g_iadd e_MD_see_128 ?_
                refine g_iload e_MD_see_129 rfl ?_
                refine g_iastG (n := 20) e_MD_see_131 ⟨kq_90, by decide⟩ (hz.lt kq_90 (by decide)) (fun M23 => ?_)
                refine g_aload_n e_MD_see_132 rfl ?_
                refine g_dup e_MD_see_133 rfl ?_
                refine g_getI e_MD_see_134 fl_MD_250 kq_78 (hz.lt kq_78) fj_10_28 ?_
                refine g_iconst (x := (1 : Int32)) e_MD_see_137 (by decide) ?_
                refine g_iadd e_MD_see_138 ?_
                refine g_putL e_MD_see_139 fp_MD_250 kq_78 (hz.lt kq_78) fj_10_28 rfl rfl (fun M24 => ?_)
                refine g_aload_n e_MD_see_142 rfl ?_
                refine g_getI e_MD_see_143 fl_MD_250 kq_78 (hz.lt kq_78) fj_10_28 ?_
                exact g_iret e_MD_see_146 rfl
              · refine g_bipush (x := (-4 : Int32)) e_MD_see_74 (by decide) ?_
                exact g_iret e_MD_see_76 rfl
            · refine g_bipush (x := (-2 : Int32)) e_MD_see_63 (by decide) ?_
              exact g_iret e_MD_see_65 rfl
  · refine g_aload_n e_MD_see_5 rfl ?_
    refine g_iconst (x := (0 : Int32)) e_MD_see_6 (by decide) ?_
    refine g_putL e_MD_see_7 fp_MD_250 kq_78 (hz.lt kq_78) fj_10_28 rfl rfl (fun M25 => ?_)
    refine g_iconst (x := (0 : Int32)) e_MD_see_10 (by decide) ?_
    exact g_iret e_MD_see_11 rfl
set_option maxHeartbeats 4000000 in
set_option maxRecDepth 20000 in
theorem c_MD_see {l : Launch} {G : KG} {Z : ZZ} {v1 : Int32} {v2 : Int32} {v3 : Int32} {v4 : Int32} {M M' : Mm} {r : Int32} (hz : FU Z) (h : f_MD_see v1 v2 v3 v4 M = some (r, M')) : CT l G y_MD_see md_MD_see 0 0 [rf G 78, .int v1, .int v2, .int v3, .int v4] Z.2.2.1 Z.2.2.2 M (rvI r) Z.2.2.1 Z.2.2.2 M' :=
  CT.of (Z := (0, 0, Z.2.2.1, Z.2.2.2)) (Z' := (0, 0, Z.2.2.1, Z.2.2.2)) 0 (by decide) rfl ⟨rfl, rfl⟩ (by show 5 ≤ 5; decide) rfl h (fun X _ hG => by subst hG; exact t_MD_see hz)
set_option maxHeartbeats 4000000 in
set_option maxRecDepth 20000 in
theorem t_MD_areSo_117 {X : KX} {Z : ZZ} {rec8 : Int32 → Int32 → Mm → Option (Int32 × Mm)} (hz : FU Z) (hr8 : ∀ (v1 : Int32) (v2 : Int32) (M : Mm), GO X md_MD_areSo (QE X rvI Z) 8 [some (rf (kG X) 78), some (.int v1), some (.int v2), none] [] Z M (rec8 v1 v2 M)) : ∀ (v2 : Int32) (s0 : Int32) (M : Mm), GO X md_MD_areSo (QE X rvI Z) 117 [some (rf (kG X) 78), none, some (.int v2), none] [.int s0] Z M (f_MD_areSo_117 rec8 v2 s0 M) := by
  intro v2 s0 M
  unfold f_MD_areSo_117
  refine g_istore_n e_MD_areSo_117 (by decide) rfl ?_
  refine g_iincL (c := (1 : Int32)) e_MD_areSo_118 rfl (by decide) (by decide) rfl (fun x12 => ?_)
  refine g_goto e_MD_areSo_121 ?_
  exact g_wq (hr8 s0 x12 M) ⟨rfl, rfl, rfl, trivial⟩
set_option maxHeartbeats 4000000 in
set_option maxRecDepth 20000 in
theorem t_MD_areSo_116 {X : KX} {Z : ZZ} {rec8 : Int32 → Int32 → Mm → Option (Int32 × Mm)} (hz : FU Z) (hr8 : ∀ (v1 : Int32) (v2 : Int32) (M : Mm), GO X md_MD_areSo (QE X rvI Z) 8 [some (rf (kG X) 78), some (.int v1), some (.int v2), none] [] Z M (rec8 v1 v2 M)) : ∀ (v2 : Int32) (M : Mm), GO X md_MD_areSo (QE X rvI Z) 116 [some (rf (kG X) 78), none, some (.int v2), none] [] Z M (f_MD_areSo_116 rec8 v2 M) := by
  intro v2 M
  unfold f_MD_areSo_116
  refine g_iconst (x := (0 : Int32)) e_MD_areSo_116 (by decide) ?_
  exact g_wq (t_MD_areSo_117 hz (hr8) v2 (0 : Int32) M) ⟨rfl, rfl, trivial⟩
set_option maxHeartbeats 4000000 in
set_option maxRecDepth 20000 in
theorem t_MD_areSo_69 {X : KX} {Z : ZZ} {rec8 : Int32 → Int32 → Mm → Option (Int32 × Mm)} (hz : FU Z) (hr8 : ∀ (v1 : Int32) (v2 : Int32) (M : Mm), GO X md_MD_areSo (QE X rvI Z) 8 [some (rf (kG X) 78), some (.int v1), some (.int v2), none] [] Z M (rec8 v1 v2 M)) : ∀ (v2 : Int32) (v3 : Int32) (s0 : Int32) (M : Mm), GO X md_MD_areSo (QE X rvI Z) 69 [some (rf (kG X) 78), none, some (.int v2), some (.int v3)] [.int s0] Z M (f_MD_areSo_69 rec8 v2 v3 s0 M) := by
  intro v2 v3 s0 M
  unfold f_MD_areSo_69
  refine g_istore_n e_MD_areSo_69 (by decide) rfl ?_
  refine g_iload_n e_MD_areSo_70 rfl ?_
  refine g_if_eq e_MD_areSo_71 (fun c11 => ?_) (fun c11 => ?_)
  · exact g_wq (t_MD_areSo_116 hz (hr8) v2 M) ⟨rfl, rfl, trivial⟩
  · refine g_aload_n e_MD_areSo_74 rfl ?_
    refine g_iload_n e_MD_areSo_75 rfl ?_
    refine g_aload_n e_MD_areSo_76 rfl ?_
    refine g_getRZ (kz := 90) e_MD_areSo_77 fl_MD_58 hz kq_78 (by decide) fj_10_27 rfl ?_
    refine g_iconst (x := (4 : Int32)) e_MD_areSo_80 (by decide) ?_
    refine g_iload_n e_MD_areSo_81 rfl ?_
    refine g_imul e_MD_areSo_82 ?_
    refine g_iconst (x := (1 : Int32)) e_MD_areSo_83 (by decide) ?_
    refine g_iadd e_MD_areSo_84 ?_
    refine g_ialdG (n := 20) e_MD_areSo_85 ⟨kq_90, by decide⟩ (hz.lt kq_90 (by decide)) ?_
    refine g_aload_n e_MD_areSo_86 rfl ?_
    refine g_getRZ (kz := 90) e_MD_areSo_87 fl_MD_58 hz kq_78 (by decide) fj_10_27 rfl ?_
    refine g_iconst (x := (4 : Int32)) e_MD_areSo_90 (by decide) ?_
    refine g_iload_n e_MD_areSo_91 rfl ?_
    refine g_imul e_MD_areSo_92 ?_
    refine g_iconst (x := (2 : Int32)) e_MD_areSo_93 (by decide) ?_
    refine g_iadd e_MD_areSo_94 ?_
    refine g_ialdG (n := 20) e_MD_areSo_95 ⟨kq_90, by decide⟩ (hz.lt kq_90 (by decide)) ?_
    refine g_callV (rv := rvI) (As := [.int v3, .int (M.1 90 (Int32.toNatClampNeg (((4 : Int32) * v2) + (1 : Int32)))), .int (M.1 90 (Int32.toNatClampNeg (((4 : Int32) * v2) + (2 : Int32))))]) (st := []) e_MD_areSo_96 mv_MD_199 my_MD_pageOf (by decide) rfl rfl kq_78 (hz.lt kq_78) rfl (Nat.le_of_ble_eq_true rfl) rfl (fun r M1 h => c_MD_pageOf hz  h) (fun r14 M13 h15 => ?_)
    refine g_aload_n e_MD_areSo_99 rfl ?_
    refine g_getRZ (kz := 90) e_MD_areSo_100 fl_MD_58 hz kq_78 (by decide) fj_10_27 rfl ?_
    refine g_iconst (x := (4 : Int32)) e_MD_areSo_103 (by decide) ?_
    refine g_iload_n e_MD_areSo_104 rfl ?_
    refine g_imul e_MD_areSo_105 ?_
    refine g_iconst (x := (3 : Int32)) e_MD_areSo_106 (by decide) ?_
    refine g_iadd e_MD_areSo_107 ?_
    refine g_ialdG (n := 20) e_MD_areSo_108 ⟨kq_90, by decide⟩ (hz.lt kq_90 (by decide)) ?_
    refine g_phi1 117 (fun x17 => [some (rf (kG X) 78), none, some (.int v2), none]) (fun x17 => [.int x17]) (fun x17 => ?_) (fun hj19 => ?_)
    · show GO X _ _ 117 [some (rf (kG X) 78), none, some (.int v2), none] [.int x17] Z M13 _
      refine g_istore_n e_MD_areSo_117 (by decide) rfl ?_
      refine g_iincL (c := (1 : Int32)) e_MD_areSo_118 rfl (by decide) (by decide) rfl (fun x18 => ?_)
      refine g_goto e_MD_areSo_121 ?_
      exact g_wq (hr8 x17 x18 M13) ⟨rfl, rfl, rfl, trivial⟩
    · refine g_icmp_ne' e_MD_areSo_109 (fun c16 => ?_) (fun c16 => ?_)
      · refine g_iconst (x := (0 : Int32)) e_MD_areSo_116 (by decide) ?_
        exact (g_pf c16 (g_lt (g_wq (hj19 (0 : Int32)) ⟨rfl, rfl, trivial⟩)))
      · refine g_iconst (x := (1 : Int32)) e_MD_areSo_112 (by decide) ?_
        refine g_goto e_MD_areSo_113 ?_
        exact (g_pt c16 (g_lt (g_wq (hj19 (1 : Int32)) ⟨rfl, rfl, trivial⟩)))
set_option maxHeartbeats 4000000 in
set_option maxRecDepth 20000 in
theorem t_MD_areSo_68 {X : KX} {Z : ZZ} {rec8 : Int32 → Int32 → Mm → Option (Int32 × Mm)} (hz : FU Z) (hr8 : ∀ (v1 : Int32) (v2 : Int32) (M : Mm), GO X md_MD_areSo (QE X rvI Z) 8 [some (rf (kG X) 78), some (.int v1), some (.int v2), none] [] Z M (rec8 v1 v2 M)) : ∀ (v2 : Int32) (v3 : Int32) (M : Mm), GO X md_MD_areSo (QE X rvI Z) 68 [some (rf (kG X) 78), none, some (.int v2), some (.int v3)] [] Z M (f_MD_areSo_68 rec8 v2 v3 M) := by
  intro v2 v3 M
  unfold f_MD_areSo_68
  refine g_iconst (x := (0 : Int32)) e_MD_areSo_68 (by decide) ?_
  exact g_wq (t_MD_areSo_69 hz (hr8) v2 v3 (0 : Int32) M) ⟨rfl, rfl, rfl, trivial⟩
set_option maxHeartbeats 4000000 in
set_option maxRecDepth 20000 in
theorem t_MD_areSo_8 {X : KX} {Z : ZZ} (hz : FU Z) : ∀ (n : Nat) (v1 : Int32) (v2 : Int32) (M : Mm), GO X md_MD_areSo (QE X rvI Z) 8 [some (rf (kG X) 78), some (.int v1), some (.int v2), none] [] Z M (f_MD_areSo_8 n v1 v2 M) := by
  intro n
  induction n with
  | zero =>
    intro v1 v2 M
    exact g_none
  | succ n ih =>
    intro v1 v2 M
    rw [f_MD_areSo_8_s]
    refine g_iload_n e_MD_areSo_8 rfl ?_
    refine g_aload_n e_MD_areSo_9 rfl ?_
    refine g_getI e_MD_areSo_10 fl_MD_250 kq_78 (hz.lt kq_78) fj_10_28 ?_
    refine g_icmp_ge e_MD_areSo_13 (fun c4 => ?_) (fun c4 => ?_)
    · refine g_iload_n e_MD_areSo_124 rfl ?_
      exact g_zretG e_MD_areSo_125 rfl
    · refine g_iload_n e_MD_areSo_16 rfl ?_
      refine g_if_eq e_MD_areSo_17 (fun c5 => ?_) (fun c5 => ?_)
      · refine g_iload_n e_MD_areSo_124 rfl ?_
        exact g_zretG e_MD_areSo_125 rfl
      · refine g_aload_n e_MD_areSo_20 rfl ?_
        refine g_getRZ (kz := 90) e_MD_areSo_21 fl_MD_58 hz kq_78 (by decide) fj_10_27 rfl ?_
        refine g_iconst (x := (4 : Int32)) e_MD_areSo_24 (by decide) ?_
        refine g_iload_n e_MD_areSo_25 rfl ?_
        refine g_imul e_MD_areSo_26 ?_
        refine g_ialdG (n := 20) e_MD_areSo_27 ⟨kq_90, by decide⟩ (hz.lt kq_90 (by decide)) ?_
        refine g_istoreL_n e_MD_areSo_28 (by decide) rfl (fun x6 => ?_)
        refine g_aload_n e_MD_areSo_29 rfl ?_
        refine g_iload_n e_MD_areSo_30 rfl ?_
        refine g_callV (rv := rvI) (As := [.int x6]) (st := []) e_MD_areSo_31 mv_MD_193 my_MD_isForme (by decide) rfl rfl kq_78 (hz.lt kq_78) rfl (Nat.le_of_ble_eq_true rfl) rfl (fun r M1 h => c_MD_isForme hz  h) (fun r8 M7 h9 => ?_)
        refine g_if_eq e_MD_areSo_34 (fun c10 => ?_) (fun c10 => ?_)
        · exact g_wq (t_MD_areSo_68 hz (ih) v2 x6 M7) ⟨rfl, rfl, rfl, trivial⟩
        · refine g_aload_n e_MD_areSo_37 rfl ?_
          refine g_aload_n e_MD_areSo_38 rfl ?_
          refine g_getRZ (kz := 90) e_MD_areSo_39 fl_MD_58 hz kq_78 (by decide) fj_10_27 rfl ?_
          refine g_iconst (x := (4 : Int32)) e_MD_areSo_42 (by decide) ?_
          refine g_iload_n e_MD_areSo_43 rfl ?_
          refine g_imul e_MD_areSo_44 ?_
          refine g_iconst (x := (1 : Int32)) e_MD_areSo_45 (by decide) ?_
          refine g_iadd e_MD_areSo_46 ?_
          refine g_ialdG (n := 20) e_MD_areSo_47 ⟨kq_90, by decide⟩ (hz.lt kq_90 (by decide)) ?_
          refine g_aload_n e_MD_areSo_48 rfl ?_
          refine g_getRZ (kz := 90) e_MD_areSo_49 fl_MD_58 hz kq_78 (by decide) fj_10_27 rfl ?_
          refine g_iconst (x := (4 : Int32)) e_MD_areSo_52 (by decide) ?_
          refine g_iload_n e_MD_areSo_53 rfl ?_
          refine g_imul e_MD_areSo_54 ?_
          refine g_iconst (x := (2 : Int32)) e_MD_areSo_55 (by decide) ?_
          refine g_iadd e_MD_areSo_56 ?_
          refine g_ialdG (n := 20) e_MD_areSo_57 ⟨kq_90, by decide⟩ (hz.lt kq_90 (by decide)) ?_
          refine g_callV (rv := rvI) (As := [.int (M7.1 90 (Int32.toNatClampNeg (((4 : Int32) * v2) + (1 : Int32)))), .int (M7.1 90 (Int32.toNatClampNeg (((4 : Int32) * v2) + (2 : Int32))))]) (st := []) e_MD_areSo_58 mv_MD_196 my_MD_isCell (by decide) rfl rfl kq_78 (hz.lt kq_78) rfl (Nat.le_of_ble_eq_true rfl) rfl (fun r M1 h => c_MD_isCell hz  h) (fun r21 M20 h22 => ?_)
          refine g_phi1 69 (fun x24 => [some (rf (kG X) 78), none, some (.int v2), some (.int x6)]) (fun x24 => [.int x24]) (fun x24 => ?_) (fun hj33 => ?_)
          · show GO X _ _ 69 [some (rf (kG X) 78), none, some (.int v2), some (.int x6)] [.int x24] Z M20 _
            refine g_istore_n e_MD_areSo_69 (by decide) rfl ?_
            refine g_iload_n e_MD_areSo_70 rfl ?_
            refine g_if_eq e_MD_areSo_71 (fun c25 => ?_) (fun c25 => ?_)
            · exact g_wq (t_MD_areSo_116 hz (ih) v2 M20) ⟨rfl, rfl, trivial⟩
            · refine g_aload_n e_MD_areSo_74 rfl ?_
              refine g_iload_n e_MD_areSo_75 rfl ?_
              refine g_aload_n e_MD_areSo_76 rfl ?_
              refine g_getRZ (kz := 90) e_MD_areSo_77 fl_MD_58 hz kq_78 (by decide) fj_10_27 rfl ?_
              refine g_iconst (x := (4 : Int32)) e_MD_areSo_80 (by decide) ?_
              refine g_iload_n e_MD_areSo_81 rfl ?_
              refine g_imul e_MD_areSo_82 ?_
              refine g_iconst (x := (1 : Int32)) e_MD_areSo_83 (by decide) ?_
              refine g_iadd e_MD_areSo_84 ?_
              refine g_ialdG (n := 20) e_MD_areSo_85 ⟨kq_90, by decide⟩ (hz.lt kq_90 (by decide)) ?_
              refine g_aload_n e_MD_areSo_86 rfl ?_
              refine g_getRZ (kz := 90) e_MD_areSo_87 fl_MD_58 hz kq_78 (by decide) fj_10_27 rfl ?_
              refine g_iconst (x := (4 : Int32)) e_MD_areSo_90 (by decide) ?_
              refine g_iload_n e_MD_areSo_91 rfl ?_
              refine g_imul e_MD_areSo_92 ?_
              refine g_iconst (x := (2 : Int32)) e_MD_areSo_93 (by decide) ?_
              refine g_iadd e_MD_areSo_94 ?_
              refine g_ialdG (n := 20) e_MD_areSo_95 ⟨kq_90, by decide⟩ (hz.lt kq_90 (by decide)) ?_
              refine g_callV (rv := rvI) (As := [.int x6, .int (M20.1 90 (Int32.toNatClampNeg (((4 : Int32) * v2) + (1 : Int32)))), .int (M20.1 90 (Int32.toNatClampNeg (((4 : Int32) * v2) + (2 : Int32))))]) (st := []) e_MD_areSo_96 mv_MD_199 my_MD_pageOf (by decide) rfl rfl kq_78 (hz.lt kq_78) rfl (Nat.le_of_ble_eq_true rfl) rfl (fun r M1 h => c_MD_pageOf hz  h) (fun r27 M26 h28 => ?_)
              refine g_aload_n e_MD_areSo_99 rfl ?_
              refine g_getRZ (kz := 90) e_MD_areSo_100 fl_MD_58 hz kq_78 (by decide) fj_10_27 rfl ?_
              refine g_iconst (x := (4 : Int32)) e_MD_areSo_103 (by decide) ?_
              refine g_iload_n e_MD_areSo_104 rfl ?_
              refine g_imul e_MD_areSo_105 ?_
              refine g_iconst (x := (3 : Int32)) e_MD_areSo_106 (by decide) ?_
              refine g_iadd e_MD_areSo_107 ?_
              refine g_ialdG (n := 20) e_MD_areSo_108 ⟨kq_90, by decide⟩ (hz.lt kq_90 (by decide)) ?_
              refine g_phi1 117 (fun x30 => [some (rf (kG X) 78), none, some (.int v2), none]) (fun x30 => [.int x30]) (fun x30 => ?_) (fun hj32 => ?_)
              · show GO X _ _ 117 [some (rf (kG X) 78), none, some (.int v2), none] [.int x30] Z M26 _
                refine g_istore_n e_MD_areSo_117 (by decide) rfl ?_
                refine g_iincL (c := (1 : Int32)) e_MD_areSo_118 rfl (by decide) (by decide) rfl (fun x31 => ?_)
                refine g_goto e_MD_areSo_121 ?_
                exact g_wq (ih x30 x31 M26) ⟨rfl, rfl, rfl, trivial⟩
              · refine g_icmp_ne' e_MD_areSo_109 (fun c29 => ?_) (fun c29 => ?_)
                · refine g_iconst (x := (0 : Int32)) e_MD_areSo_116 (by decide) ?_
                  exact (g_pf c29 (g_lt (g_wq (hj32 (0 : Int32)) ⟨rfl, rfl, trivial⟩)))
                · refine g_iconst (x := (1 : Int32)) e_MD_areSo_112 (by decide) ?_
                  refine g_goto e_MD_areSo_113 ?_
                  exact (g_pt c29 (g_lt (g_wq (hj32 (1 : Int32)) ⟨rfl, rfl, trivial⟩)))
          · refine g_if_eq' e_MD_areSo_61 (fun c23 => ?_) (fun c23 => ?_)
            · refine g_iconst (x := (0 : Int32)) e_MD_areSo_68 (by decide) ?_
              exact (g_pt c23 (g_lt (g_wq (hj33 (0 : Int32)) ⟨rfl, rfl, rfl, trivial⟩)))
            · refine g_iconst (x := (1 : Int32)) e_MD_areSo_64 (by decide) ?_
              refine g_goto e_MD_areSo_65 ?_
              exact (g_pf c23 (g_lt (g_wq (hj33 (1 : Int32)) ⟨rfl, rfl, rfl, trivial⟩)))
set_option maxHeartbeats 4000000 in
set_option maxRecDepth 20000 in
theorem t_MD_areSo {X : KX} {Z : ZZ} {M : Mm} (hz : FU Z) : GO X md_MD_areSo (QE X rvI Z) 0 [some (rf (kG X) 78), none, none, none] [] Z M (f_MD_areSo M) := by
  unfold f_MD_areSo
  refine g_aload_n e_MD_areSo_0 rfl ?_
  refine g_callV (rv := rvU) (As := []) (st := []) e_MD_areSo_1 mv_MD_162 my_MD_folds (by decide) rfl rfl kq_78 (hz.lt kq_78) rfl (Nat.le_of_ble_eq_true rfl) rfl (fun r M1 h => c_MD_folds hz  h) (fun r2 M1 h3 => ?_)
  refine g_iconst (x := (1 : Int32)) e_MD_areSo_4 (by decide) ?_
  refine g_istore_n e_MD_areSo_5 (by decide) rfl ?_
  refine g_iconst (x := (0 : Int32)) e_MD_areSo_6 (by decide) ?_
  refine g_istore_n e_MD_areSo_7 (by decide) rfl ?_
  exact g_wq (t_MD_areSo_8 hz fuel (1 : Int32) (0 : Int32) M1) ⟨rfl, rfl, rfl, trivial⟩
set_option maxHeartbeats 4000000 in
set_option maxRecDepth 20000 in
theorem c_MD_areSo {l : Launch} {G : KG} {Z : ZZ} {M M' : Mm} {r : Int32} (hz : FU Z) (h : f_MD_areSo M = some (r, M')) : CT l G y_MD_areSo md_MD_areSo 0 0 [rf G 78] Z.2.2.1 Z.2.2.2 M (rvI r) Z.2.2.1 Z.2.2.2 M' :=
  CT.of (Z := (0, 0, Z.2.2.1, Z.2.2.2)) (Z' := (0, 0, Z.2.2.1, Z.2.2.2)) 3 (by decide) rfl ⟨rfl, rfl⟩ (by show 1 ≤ 4; decide) rfl h (fun X _ hG => by subst hG; exact t_MD_areSo hz)
set_option maxHeartbeats 4000000 in
set_option maxRecDepth 20000 in
theorem t_MD_fits_99 {X : KX} {Z : ZZ} {rec36 : Int32 → Int32 → Int32 → Int32 → Int32 → Int32 → Mm → Option (Int32 × Mm)} (hz : FU Z) (hr36 : ∀ (v1 : Int32) (v2 : Int32) (v3 : Int32) (v4 : Int32) (v5 : Int32) (v6 : Int32) (M : Mm), GO X md_MD_fits (QE X rvI Z) 36 [some (rf (kG X) 78), some (.int v1), some (.int v2), some (.int v3), some (.int v4), some (.int v5), some (.int v6), none] [] Z M (rec36 v1 v2 v3 v4 v5 v6 M)) : ∀ (v1 : Int32) (v2 : Int32) (v3 : Int32) (v4 : Int32) (v5 : Int32) (v6 : Int32) (M : Mm), GO X md_MD_fits (QE X rvI Z) 99 [some (rf (kG X) 78), some (.int v1), some (.int v2), some (.int v3), some (.int v4), some (.int v5), some (.int v6), none] [] Z M (f_MD_fits_99 rec36 v1 v2 v3 v4 v5 v6 M) := by
  intro v1 v2 v3 v4 v5 v6 M
  unfold f_MD_fits_99
  refine g_iincL (c := (-1 : Int32)) e_MD_fits_99 rfl (by decide) (by decide) rfl (fun x18 => ?_)
  refine g_goto e_MD_fits_102 ?_
  exact g_wq (hr36 v1 v2 v3 v4 v5 x18 M) ⟨rfl, rfl, rfl, rfl, rfl, rfl, rfl, trivial⟩
set_option maxHeartbeats 4000000 in
set_option maxRecDepth 20000 in
theorem t_MD_fits_36 {X : KX} {Z : ZZ} (hz : FU Z) : ∀ (n : Nat) (v1 : Int32) (v2 : Int32) (v3 : Int32) (v4 : Int32) (v5 : Int32) (v6 : Int32) (M : Mm), GO X md_MD_fits (QE X rvI Z) 36 [some (rf (kG X) 78), some (.int v1), some (.int v2), some (.int v3), some (.int v4), some (.int v5), some (.int v6), none] [] Z M (f_MD_fits_36 n v1 v2 v3 v4 v5 v6 M) := by
  intro n
  induction n with
  | zero =>
    intro v1 v2 v3 v4 v5 v6 M
    exact g_none
  | succ n ih =>
    intro v1 v2 v3 v4 v5 v6 M
    rw [f_MD_fits_36_s]
    refine g_iload e_MD_fits_36 rfl ?_
    refine g_if_le e_MD_fits_38 (fun c9 => ?_) (fun c9 => ?_)
    · refine g_aload_n e_MD_fits_105 rfl ?_
      refine g_iload_n e_MD_fits_106 rfl ?_
      refine g_putL e_MD_fits_107 fp_MD_9 kq_78 (hz.lt kq_78) fj_10_1 rfl rfl (fun M10 => ?_)
      refine g_iload_n e_MD_fits_110 rfl ?_
      refine g_phi1 121 (fun x12 => [none, none, none, none, none, none, none, none]) (fun x12 => [.int x12]) (fun x12 => ?_) (fun hj13 => ?_)
      · show GO X _ _ 121 [none, none, none, none, none, none, none, none] [.int x12] Z M10 _
        exact g_iret e_MD_fits_121 rfl
      · refine g_if_ne' e_MD_fits_111 (fun c11 => ?_) (fun c11 => ?_)
        · refine g_iload e_MD_fits_119 rfl ?_
          exact (g_pf c11 (g_lt (g_wq (hj13 v5) trivial)))
        · refine g_iload e_MD_fits_114 rfl ?_
          refine g_goto e_MD_fits_116 ?_
          exact (g_pt c11 (g_lt (g_wq (hj13 v4) trivial)))
    · refine g_iload e_MD_fits_41 rfl ?_
      refine g_callS (rv := rvI) (As := [.int v6]) (st := []) e_MD_fits_43 ms_MD_136 my_MD_isFold (by decide) rfl rfl (Nat.le_of_ble_eq_true rfl) (fun r M1 h => c_MD_isFold hz  h) (fun r15 M14 h16 => ?_)
      refine g_if_eq e_MD_fits_46 (fun c17 => ?_) (fun c17 => ?_)
      · exact g_wq (t_MD_fits_99 hz (ih) v1 v2 v3 v4 v5 v6 M14) ⟨rfl, rfl, rfl, rfl, rfl, rfl, rfl, trivial⟩
      · refine g_iload e_MD_fits_49 rfl ?_
        refine g_callS (rv := rvI) (As := [.int v6]) (st := []) e_MD_fits_51 ms_MD_96 my_MD_figuresOf (by decide) rfl rfl (Nat.le_of_ble_eq_true rfl) (fun r M1 h => c_MD_figuresOf hz  h) (fun r20 M19 h21 => ?_)
        refine g_iload_n e_MD_fits_54 rfl ?_
        refine g_icmp_ne e_MD_fits_55 (fun c22 => ?_) (fun c22 => ?_)
        · exact g_wq (t_MD_fits_99 hz (ih) v1 v2 v3 v4 v5 v6 M19) ⟨rfl, rfl, rfl, rfl, rfl, rfl, rfl, trivial⟩
        · refine g_aload_n e_MD_fits_58 rfl ?_
          refine g_iload e_MD_fits_59 rfl ?_
          refine g_putL e_MD_fits_61 fp_MD_9 kq_78 (hz.lt kq_78) fj_10_1 rfl rfl (fun M23 => ?_)
          refine g_aload_n e_MD_fits_64 rfl ?_
          refine g_callV (rv := rvI) (As := []) (st := []) e_MD_fits_65 mv_MD_253 my_MD_areSo (by decide) rfl rfl kq_78 (hz.lt kq_78) rfl (Nat.le_of_ble_eq_true rfl) rfl (fun r M1 h => c_MD_areSo hz  h) (fun r25 M24 h26 => ?_)
          refine g_istore e_MD_fits_68 (by decide) rfl ?_
          refine g_iload e_MD_fits_70 rfl ?_
          refine g_iload e_MD_fits_72 rfl ?_
          refine g_phi1 82 (fun x28 => [some (rf (kG X) 78), some (.int v1), some (.int v2), some (.int v3), none, some (.int v5), some (.int v6), some (.int r25)]) (fun x28 => [.int x28, .int v4]) (fun x28 => ?_) (fun hj33 => ?_)
          · show GO X _ _ 82 [some (rf (kG X) 78), some (.int v1), some (.int v2), some (.int v3), none, some (.int v5), some (.int v6), some (.int r25)] [.int x28, .int v4] Z M24 _
            refine g_iadd e_MD_fits_82 ?_
            refine g_istoreL e_MD_fits_83 (by decide) rfl (fun x29 => ?_)
            refine g_iload e_MD_fits_85 rfl ?_
            refine g_phi1 97 (fun x31 => [some (rf (kG X) 78), some (.int v1), some (.int v2), some (.int v3), some (.int x29), none, some (.int v6), none]) (fun x31 => [.int x31]) (fun x31 => ?_) (fun hj32 => ?_)
            · show GO X _ _ 97 [some (rf (kG X) 78), some (.int v1), some (.int v2), some (.int v3), some (.int x29), none, some (.int v6), none] [.int x31] Z M24 _
              refine g_istore e_MD_fits_97 (by decide) rfl ?_
              exact g_wq (t_MD_fits_99 hz (ih) v1 v2 v3 x29 x31 v6 M24) ⟨rfl, rfl, rfl, rfl, rfl, rfl, rfl, trivial⟩
            · refine g_if_eq' e_MD_fits_87 (fun c30 => ?_) (fun c30 => ?_)
              · refine g_iload e_MD_fits_95 rfl ?_
                exact (g_pt c30 (g_lt (g_wq (hj32 v5) ⟨rfl, rfl, rfl, rfl, rfl, rfl, trivial⟩)))
              · refine g_iload e_MD_fits_90 rfl ?_
                refine g_goto e_MD_fits_92 ?_
                exact (g_pf c30 (g_lt (g_wq (hj32 v6) ⟨rfl, rfl, rfl, rfl, rfl, rfl, trivial⟩)))
          · refine g_if_eq' e_MD_fits_74 (fun c27 => ?_) (fun c27 => ?_)
            · refine g_iconst (x := (0 : Int32)) e_MD_fits_81 (by decide) ?_
              exact (g_pt c27 (g_lt (g_wq (hj33 (0 : Int32)) ⟨rfl, rfl, rfl, rfl, rfl, rfl, rfl, trivial⟩)))
            · refine g_iconst (x := (1 : Int32)) e_MD_fits_77 (by decide) ?_
              refine g_goto e_MD_fits_78 ?_
              exact (g_pf c27 (g_lt (g_wq (hj33 (1 : Int32)) ⟨rfl, rfl, rfl, rfl, rfl, rfl, rfl, trivial⟩)))
set_option maxHeartbeats 4000000 in
set_option maxRecDepth 20000 in
theorem t_MD_fits {X : KX} {Z : ZZ} {v1 : Int32} {M : Mm} (hz : FU Z) : GO X md_MD_fits (QE X rvI Z) 0 [some (rf (kG X) 78), some (.int v1), none, none, none, none, none, none] [] Z M (f_MD_fits v1 M) := by
  unfold f_MD_fits
  refine g_iload_n e_MD_fits_0 rfl ?_
  refine g_iconst (x := (0 : Int32)) e_MD_fits_1 (by decide) ?_
  refine g_iconst (x := (1 : Int32)) e_MD_fits_2 (by decide) ?_
  refine g_callS (rv := rvI) (As := [.int v1, .int (0 : Int32), .int (1 : Int32)]) (st := []) e_MD_fits_3 ms_MD_92 my_MD_in (by decide) rfl rfl (Nat.le_of_ble_eq_true rfl) (fun r M1 h => c_MD_in hz  h) (fun r2 M1 h3 => ?_)
  refine g_if_ne e_MD_fits_6 (fun c4 => ?_) (fun c4 => ?_)
  · refine g_aload_n e_MD_fits_11 rfl ?_
    refine g_getI e_MD_fits_12 fl_MD_9 kq_78 (hz.lt kq_78) fj_10_1 ?_
    refine g_istoreL_n e_MD_fits_15 (by decide) rfl (fun x5 => ?_)
    refine g_aload_n e_MD_fits_16 rfl ?_
    refine g_getI e_MD_fits_17 fl_MD_9 kq_78 (hz.lt kq_78) fj_10_1 ?_
    refine g_callS (rv := rvI) (As := [.int (M1.1 78 1)]) (st := []) e_MD_fits_20 ms_MD_96 my_MD_figuresOf (by decide) rfl rfl (Nat.le_of_ble_eq_true rfl) (fun r M1 h => c_MD_figuresOf hz  h) (fun r7 M6 h8 => ?_)
    refine g_istore_n e_MD_fits_23 (by decide) rfl ?_
    refine g_iconst (x := (0 : Int32)) e_MD_fits_24 (by decide) ?_
    refine g_istore e_MD_fits_25 (by decide) rfl ?_
    refine g_bipush (x := (-5 : Int32)) e_MD_fits_27 (by decide) ?_
    refine g_istore e_MD_fits_29 (by decide) rfl ?_
    refine g_sipush (x := (4444 : Int32)) e_MD_fits_31 (by decide) ?_
    refine g_istore e_MD_fits_34 (by decide) rfl ?_
    exact g_wq (t_MD_fits_36 hz fuel v1 x5 r7 (0 : Int32) (-5 : Int32) (4444 : Int32) M6) ⟨rfl, rfl, rfl, rfl, rfl, rfl, rfl, trivial⟩
  · refine g_iconst (x := (-1 : Int32)) e_MD_fits_9 (by decide) ?_
    exact g_iret e_MD_fits_10 rfl
set_option maxHeartbeats 4000000 in
set_option maxRecDepth 20000 in
theorem c_MD_fits {l : Launch} {G : KG} {Z : ZZ} {v1 : Int32} {M M' : Mm} {r : Int32} (hz : FU Z) (h : f_MD_fits v1 M = some (r, M')) : CT l G y_MD_fits md_MD_fits 0 0 [rf G 78, .int v1] Z.2.2.1 Z.2.2.2 M (rvI r) Z.2.2.1 Z.2.2.2 M' :=
  CT.of (Z := (0, 0, Z.2.2.1, Z.2.2.2)) (Z' := (0, 0, Z.2.2.1, Z.2.2.2)) 6 (by decide) rfl ⟨rfl, rfl⟩ (by show 2 ≤ 8; decide) rfl h (fun X _ hG => by subst hG; exact t_MD_fits hz)
set_option maxHeartbeats 4000000 in
set_option maxRecDepth 20000 in
theorem t_MD_event_51 {X : KX} {Z : ZZ} (hz : FU Z) : ∀ (v1 : Int32) (v2 : Int32) (M : Mm), GO X md_MD_event (QE X rvI Z) 51 [some (rf (kG X) 78), some (.int v1), some (.int v2)] [] Z M (f_MD_event_51 v1 v2 M) := by
  intro v1 v2 M
  unfold f_MD_event_51
  refine g_aload_n e_MD_event_51 rfl ?_
  refine g_getI e_MD_event_52 fl_MD_256 kq_78 (hz.lt kq_78) fj_10_30 ?_
  refine g_bipush (x := (8 : Int32)) e_MD_event_55 (by decide) ?_
  refine g_icmp_ne e_MD_event_57 (fun c11 => ?_) (fun c11 => ?_)
  · refine g_aload_n e_MD_event_63 rfl ?_
    refine g_getRZ (kz := 91) e_MD_event_64 fl_MD_61 hz kq_78 (by decide) fj_10_29 rfl ?_
    refine g_iconst (x := (2 : Int32)) e_MD_event_67 (by decide) ?_
    refine g_aload_n e_MD_event_68 rfl ?_
    refine g_getI e_MD_event_69 fl_MD_256 kq_78 (hz.lt kq_78) fj_10_30 ?_
    refine g_imul e_MD_event_72 ?_
    refine g_iload_n e_MD_event_73 rfl ?_
    refine g_iastG (n := 16) e_MD_event_74 ⟨kq_91, by decide⟩ (hz.lt kq_91 (by decide)) (fun M12 => ?_)
    refine g_aload_n e_MD_event_75 rfl ?_
    refine g_getRZ (kz := 91) e_MD_event_76 fl_MD_61 hz kq_78 (by decide) fj_10_29 rfl ?_
    refine g_iconst (x := (2 : Int32)) e_MD_event_79 (by decide) ?_
    refine g_aload_n e_MD_event_80 rfl ?_
    refine g_getI e_MD_event_81 fl_MD_256 kq_78 (hz.lt kq_78) fj_10_30 ?_
    refine g_imul e_MD_event_84 ?_
    refine g_iconst (x := (1 : Int32)) e_MD_event_85 (by decide) ?_
    refine g_iadd e_MD_event_86 ?_
    refine g_iload_n e_MD_event_87 rfl ?_
    refine g_iastG (n := 16) e_MD_event_88 ⟨kq_91, by decide⟩ (hz.lt kq_91 (by decide)) (fun M13 => ?_)
    refine g_aload_n e_MD_event_89 rfl ?_
    refine g_dup e_MD_event_90 rfl ?_
    refine g_getI e_MD_event_91 fl_MD_256 kq_78 (hz.lt kq_78) fj_10_30 ?_
    refine g_iconst (x := (1 : Int32)) e_MD_event_94 (by decide) ?_
    refine g_iadd e_MD_event_95 ?_
    refine g_putL e_MD_event_96 fp_MD_256 kq_78 (hz.lt kq_78) fj_10_30 rfl rfl (fun M14 => ?_)
    refine g_aload_n e_MD_event_99 rfl ?_
    refine g_getI e_MD_event_100 fl_MD_256 kq_78 (hz.lt kq_78) fj_10_30 ?_
    exact g_iret e_MD_event_103 rfl
  · refine g_bipush (x := (-4 : Int32)) e_MD_event_60 (by decide) ?_
    exact g_iret e_MD_event_62 rfl
set_option maxHeartbeats 4000000 in
set_option maxRecDepth 20000 in
theorem t_MD_event {X : KX} {Z : ZZ} {v1 : Int32} {v2 : Int32} {M : Mm} (hz : FU Z) : GO X md_MD_event (QE X rvI Z) 0 [some (rf (kG X) 78), some (.int v1), some (.int v2)] [] Z M (f_MD_event v1 v2 M) := by
  unfold f_MD_event
  refine g_iload_n e_MD_event_0 rfl ?_
  refine g_iconst (x := (-1 : Int32)) e_MD_event_1 (by decide) ?_
  refine g_icmp_ne e_MD_event_2 (fun c1 => ?_) (fun c1 => ?_)
  · refine g_iload_n e_MD_event_12 rfl ?_
    refine g_iconst (x := (0 : Int32)) e_MD_event_13 (by decide) ?_
    refine g_iconst (x := (3 : Int32)) e_MD_event_14 (by decide) ?_
    refine g_callS (rv := rvI) (As := [.int v1, .int (0 : Int32), .int (3 : Int32)]) (st := []) e_MD_event_15 ms_MD_92 my_MD_in (by decide) rfl rfl (Nat.le_of_ble_eq_true rfl) (fun r M1 h => c_MD_in hz  h) (fun r3 M2 h4 => ?_)
    refine g_if_ne e_MD_event_18 (fun c5 => ?_) (fun c5 => ?_)
    · refine g_iload_n e_MD_event_23 rfl ?_
      refine g_iconst (x := (3 : Int32)) e_MD_event_24 (by decide) ?_
      refine g_icmp_ge e_MD_event_25 (fun c6 => ?_) (fun c6 => ?_)
      · refine g_iload_n e_MD_event_39 rfl ?_
        refine g_iconst (x := (1 : Int32)) e_MD_event_40 (by decide) ?_
        refine g_iconst (x := (4 : Int32)) e_MD_event_41 (by decide) ?_
        refine g_callS (rv := rvI) (As := [.int v2, .int (1 : Int32), .int (4 : Int32)]) (st := []) e_MD_event_42 ms_MD_92 my_MD_in (by decide) rfl rfl (Nat.le_of_ble_eq_true rfl) (fun r M1 h => c_MD_in hz  h) (fun r8 M7 h9 => ?_)
        refine g_if_ne e_MD_event_45 (fun c10 => ?_) (fun c10 => ?_)
        · exact g_wq (t_MD_event_51 hz v1 v2 M7) ⟨rfl, rfl, rfl, trivial⟩
        · refine g_bipush (x := (-2 : Int32)) e_MD_event_48 (by decide) ?_
          exact g_iret e_MD_event_50 rfl
      · refine g_iload_n e_MD_event_28 rfl ?_
        refine g_iload_n e_MD_event_29 rfl ?_
        refine g_callS (rv := rvI) (As := [.int v1, .int v2]) (st := []) e_MD_event_30 ms_MD_151 my_MD_isSet (by decide) rfl rfl (Nat.le_of_ble_eq_true rfl) (fun r M1 h => c_MD_isSet hz  h) (fun r16 M15 h17 => ?_)
        refine g_if_ne e_MD_event_33 (fun c18 => ?_) (fun c18 => ?_)
        · exact g_wq (t_MD_event_51 hz v1 v2 M15) ⟨rfl, rfl, rfl, trivial⟩
        · refine g_goto e_MD_event_36 ?_
          refine g_bipush (x := (-2 : Int32)) e_MD_event_48 (by decide) ?_
          exact g_iret e_MD_event_50 rfl
    · refine g_iconst (x := (-1 : Int32)) e_MD_event_21 (by decide) ?_
      exact g_iret e_MD_event_22 rfl
  · refine g_aload_n e_MD_event_5 rfl ?_
    refine g_iconst (x := (0 : Int32)) e_MD_event_6 (by decide) ?_
    refine g_putL e_MD_event_7 fp_MD_256 kq_78 (hz.lt kq_78) fj_10_30 rfl rfl (fun M19 => ?_)
    refine g_iconst (x := (0 : Int32)) e_MD_event_10 (by decide) ?_
    exact g_iret e_MD_event_11 rfl
set_option maxHeartbeats 4000000 in
set_option maxRecDepth 20000 in
theorem c_MD_event {l : Launch} {G : KG} {Z : ZZ} {v1 : Int32} {v2 : Int32} {M M' : Mm} {r : Int32} (hz : FU Z) (h : f_MD_event v1 v2 M = some (r, M')) : CT l G y_MD_event md_MD_event 0 0 [rf G 78, .int v1, .int v2] Z.2.2.1 Z.2.2.2 M (rvI r) Z.2.2.1 Z.2.2.2 M' :=
  CT.of (Z := (0, 0, Z.2.2.1, Z.2.2.2)) (Z' := (0, 0, Z.2.2.1, Z.2.2.2)) 0 (by decide) rfl ⟨rfl, rfl⟩ (by show 3 ≤ 3; decide) rfl h (fun X _ hG => by subst hG; exact t_MD_event hz)
set_option maxHeartbeats 4000000 in
set_option maxRecDepth 20000 in
theorem t_MD_after_165 {X : KX} {Z : ZZ} (hz : FU Z) : ∀ (v2 : Int32) (v3 : Int32) (v4 : Int32) (v5 : Int32) (s0 : Int32) (M : Mm), GO X md_MD_after (QE X rvI Z) 165 [some (rf (kG X) 78), none, some (.int v2), some (.int v3), some (.int v4), some (.int v5), none, none] [.int s0] Z M (f_MD_after_165 v2 v3 v4 v5 s0 M) := by
  intro v2 v3 v4 v5 s0 M
  unfold f_MD_after_165
  refine g_istore e_MD_after_165 (by decide) rfl ?_
  refine g_aload_n e_MD_after_167 rfl ?_
  refine g_iload_n e_MD_after_168 rfl ?_
  refine g_putL e_MD_after_169 fp_MD_9 kq_78 (hz.lt kq_78) fj_10_1 rfl rfl (fun M18 => ?_)
  refine g_aload_n e_MD_after_172 rfl ?_
  refine g_iload_n e_MD_after_173 rfl ?_
  refine g_putL e_MD_after_174 fp_MD_15 kq_78 (hz.lt kq_78) fj_10_2 rfl rfl (fun M19 => ?_)
  refine g_aload_n e_MD_after_177 rfl ?_
  refine g_iload e_MD_after_178 rfl ?_
  refine g_putL e_MD_after_180 fp_MD_145 kq_78 (hz.lt kq_78) fj_10_3 rfl rfl (fun M20 => ?_)
  refine g_aload_n e_MD_after_183 rfl ?_
  refine g_iload e_MD_after_184 rfl ?_
  refine g_putL e_MD_after_186 fp_MD_148 kq_78 (hz.lt kq_78) fj_10_4 rfl rfl (fun M21 => ?_)
  refine g_iload e_MD_after_189 rfl ?_
  exact g_iret e_MD_after_191 rfl
set_option maxHeartbeats 4000000 in
set_option maxRecDepth 20000 in
theorem t_MD_after_121 {X : KX} {Z : ZZ} {rec36 : Int32 → Int32 → Int32 → Int32 → Int32 → Int32 → Mm → Option (Int32 × Mm)} (hz : FU Z) (hr36 : ∀ (v1 : Int32) (v2 : Int32) (v3 : Int32) (v4 : Int32) (v5 : Int32) (v6 : Int32) (M : Mm), GO X md_MD_after (QE X rvI Z) 36 [some (rf (kG X) 78), some (.int v1), some (.int v2), some (.int v3), some (.int v4), some (.int v5), some (.int v6), none] [] Z M (rec36 v1 v2 v3 v4 v5 v6 M)) : ∀ (v1 : Int32) (v2 : Int32) (v3 : Int32) (v4 : Int32) (v5 : Int32) (v6 : Int32) (M : Mm), GO X md_MD_after (QE X rvI Z) 121 [some (rf (kG X) 78), some (.int v1), some (.int v2), some (.int v3), some (.int v4), some (.int v5), some (.int v6), none] [] Z M (f_MD_after_121 rec36 v1 v2 v3 v4 v5 v6 M) := by
  intro v1 v2 v3 v4 v5 v6 M
  unfold f_MD_after_121
  refine g_iincL (c := (1 : Int32)) e_MD_after_121 rfl (by decide) (by decide) rfl (fun x36 => ?_)
  refine g_goto e_MD_after_124 ?_
  exact g_wq (hr36 v1 v2 v3 v4 v5 x36 M) ⟨rfl, rfl, rfl, rfl, rfl, rfl, rfl, trivial⟩
set_option maxHeartbeats 4000000 in
set_option maxRecDepth 20000 in
theorem t_MD_after_36 {X : KX} {Z : ZZ} (hz : FU Z) : ∀ (n : Nat) (v1 : Int32) (v2 : Int32) (v3 : Int32) (v4 : Int32) (v5 : Int32) (v6 : Int32) (M : Mm), GO X md_MD_after (QE X rvI Z) 36 [some (rf (kG X) 78), some (.int v1), some (.int v2), some (.int v3), some (.int v4), some (.int v5), some (.int v6), none] [] Z M (f_MD_after_36 n v1 v2 v3 v4 v5 v6 M) := by
  intro n
  induction n with
  | zero =>
    intro v1 v2 v3 v4 v5 v6 M
    exact g_none
  | succ n ih =>
    intro v1 v2 v3 v4 v5 v6 M
    rw [f_MD_after_36_s]
    refine g_iload e_MD_after_36 rfl ?_
    refine g_aload_n e_MD_after_38 rfl ?_
    refine g_getI e_MD_after_39 fl_MD_256 kq_78 (hz.lt kq_78) fj_10_30 ?_
    refine g_icmp_ge e_MD_after_42 (fun c9 => ?_) (fun c9 => ?_)
    · refine g_aload_n e_MD_after_127 rfl ?_
      refine g_callV (rv := rvU) (As := []) (st := []) e_MD_after_128 mv_MD_162 my_MD_folds (by decide) rfl rfl kq_78 (hz.lt kq_78) rfl (Nat.le_of_ble_eq_true rfl) rfl (fun r M1 h => c_MD_folds hz  h) (fun r11 M10 h12 => ?_)
      refine g_iload_n e_MD_after_131 rfl ?_
      refine g_if_ne e_MD_after_132 (fun c13 => ?_) (fun c13 => ?_)
      · refine g_iload_n e_MD_after_142 rfl ?_
        refine g_iconst (x := (1 : Int32)) e_MD_after_143 (by decide) ?_
        refine g_icmp_ne e_MD_after_144 (fun c14 => ?_) (fun c14 => ?_)
        · refine g_aload_n e_MD_after_156 rfl ?_
          refine g_callV (rv := rvI) (As := []) (st := []) e_MD_after_157 mv_MD_124 my_MD_allPages (by decide) rfl rfl kq_78 (hz.lt kq_78) rfl (Nat.le_of_ble_eq_true rfl) rfl (fun r M1 h => c_MD_allPages hz  h) (fun r16 M15 h17 => ?_)
          refine g_aload_n e_MD_after_160 rfl ?_
          refine g_getI e_MD_after_161 fl_MD_15 kq_78 (hz.lt kq_78) fj_10_2 ?_
          refine g_isub e_MD_after_164 ?_
          exact g_wq (t_MD_after_165 hz v2 v3 v4 v5 (r16 - (M15.1 78 2)) M15) ⟨rfl, rfl, rfl, rfl, rfl, trivial⟩
        · refine g_aload_n e_MD_after_147 rfl ?_
          refine g_iconst (x := (1 : Int32)) e_MD_after_148 (by decide) ?_
          refine g_iconst (x := (5 : Int32)) e_MD_after_149 (by decide) ?_
          refine g_callV (rv := rvI) (As := [.int (1 : Int32), .int (5 : Int32)]) (st := []) e_MD_after_150 mv_MD_190 my_MD_standsAt (by decide) rfl rfl kq_78 (hz.lt kq_78) rfl (Nat.le_of_ble_eq_true rfl) rfl (fun r M1 h => c_MD_standsAt hz  h) (fun r23 M22 h24 => ?_)
          refine g_goto e_MD_after_153 ?_
          exact g_wq (t_MD_after_165 hz v2 v3 v4 v5 r23 M22) ⟨rfl, rfl, rfl, rfl, rfl, trivial⟩
      · refine g_aload_n e_MD_after_135 rfl ?_
        refine g_callV (rv := rvI) (As := []) (st := []) e_MD_after_136 mv_MD_121 my_MD_sheets (by decide) rfl rfl kq_78 (hz.lt kq_78) rfl (Nat.le_of_ble_eq_true rfl) rfl (fun r M1 h => c_MD_sheets hz  h) (fun r26 M25 h27 => ?_)
        refine g_goto e_MD_after_139 ?_
        exact g_wq (t_MD_after_165 hz v2 v3 v4 v5 r26 M25) ⟨rfl, rfl, rfl, rfl, rfl, trivial⟩
    · refine g_aload_n e_MD_after_45 rfl ?_
      refine g_getRZ (kz := 91) e_MD_after_46 fl_MD_61 hz kq_78 (by decide) fj_10_29 rfl ?_
      refine g_iconst (x := (2 : Int32)) e_MD_after_49 (by decide) ?_
      refine g_iload e_MD_after_50 rfl ?_
      refine g_imul e_MD_after_52 ?_
      refine g_iconst (x := (1 : Int32)) e_MD_after_53 (by decide) ?_
      refine g_iadd e_MD_after_54 ?_
      refine g_ialdG (n := 16) e_MD_after_55 ⟨kq_91, by decide⟩ (hz.lt kq_91 (by decide)) ?_
      refine g_istoreL e_MD_after_56 (by decide) rfl (fun x28 => ?_)
      refine g_aload_n e_MD_after_58 rfl ?_
      refine g_getRZ (kz := 91) e_MD_after_59 fl_MD_61 hz kq_78 (by decide) fj_10_29 rfl ?_
      refine g_iconst (x := (2 : Int32)) e_MD_after_62 (by decide) ?_
      refine g_iload e_MD_after_63 rfl ?_
      refine g_imul e_MD_after_65 ?_
      refine g_ialdG (n := 16) e_MD_after_66 ⟨kq_91, by decide⟩ (hz.lt kq_91 (by decide)) ?_
      refine g_iconst (x := (3 : Int32)) e_MD_after_67 (by decide) ?_
      refine g_icmp_ge e_MD_after_68 (fun c29 => ?_) (fun c29 => ?_)
      · refine g_aload_n e_MD_after_89 rfl ?_
        refine g_aload_n e_MD_after_90 rfl ?_
        refine g_getI e_MD_after_91 fl_MD_9 kq_78 (hz.lt kq_78) fj_10_1 ?_
        refine g_callS (rv := rvI) (As := [.int (M.1 78 1)]) (st := [rf (kG X) 78]) e_MD_after_94 ms_MD_96 my_MD_figuresOf (by decide) rfl rfl (Nat.le_of_ble_eq_true rfl) (fun r M1 h => c_MD_figuresOf hz  h) (fun r31 M30 h32 => ?_)
        refine g_iconst (x := (4 : Int32)) e_MD_after_97 (by decide) ?_
        refine g_phi1 118 (fun x34 => [some (rf (kG X) 78), some (.int v1), some (.int v2), some (.int v3), some (.int v4), some (.int v5), some (.int v6), none]) (fun x34 => [.int x34, rf (kG X) 78]) (fun x34 => ?_) (fun hj37 => ?_)
        · show GO X _ _ 118 [some (rf (kG X) 78), some (.int v1), some (.int v2), some (.int v3), some (.int v4), some (.int v5), some (.int v6), none] [.int x34, rf (kG X) 78] Z M30 _
          refine g_putL e_MD_after_118 fp_MD_9 kq_78 (hz.lt kq_78) fj_10_1 rfl rfl (fun M35 => ?_)
          exact g_wq (t_MD_after_121 hz (ih) v1 v2 v3 v4 v5 v6 M35) ⟨rfl, rfl, rfl, rfl, rfl, rfl, rfl, trivial⟩
        · refine g_icmp_ge' e_MD_after_98 (fun c33 => ?_) (fun c33 => ?_)
          · refine g_aload_n e_MD_after_114 rfl ?_
            refine g_getI e_MD_after_115 fl_MD_9 kq_78 (hz.lt kq_78) fj_10_1 ?_
            exact (g_pt c33 (g_lt (g_wq (hj37 (M30.1 78 1)) ⟨rfl, rfl, rfl, rfl, rfl, rfl, rfl, trivial⟩)))
          · refine g_bipush (x := (10 : Int32)) e_MD_after_101 (by decide) ?_
            refine g_aload_n e_MD_after_103 rfl ?_
            refine g_getI e_MD_after_104 fl_MD_9 kq_78 (hz.lt kq_78) fj_10_1 ?_
            refine g_imul e_MD_after_107 ?_
            refine g_iload e_MD_after_108 rfl ?_
            refine g_iadd e_MD_after_110 ?_
            refine g_goto e_MD_after_111 ?_
            exact (g_pf c33 (g_lt (g_wq (hj37 (((10 : Int32) * (M30.1 78 1)) + x28)) ⟨rfl, rfl, rfl, rfl, rfl, rfl, rfl, trivial⟩)))
      · refine g_aload_n e_MD_after_71 rfl ?_
        refine g_aload_n e_MD_after_72 rfl ?_
        refine g_getRZ (kz := 91) e_MD_after_73 fl_MD_61 hz kq_78 (by decide) fj_10_29 rfl ?_
        refine g_iconst (x := (2 : Int32)) e_MD_after_76 (by decide) ?_
        refine g_iload e_MD_after_77 rfl ?_
        refine g_imul e_MD_after_79 ?_
        refine g_ialdG (n := 16) e_MD_after_80 ⟨kq_91, by decide⟩ (hz.lt kq_91 (by decide)) ?_
        refine g_iload e_MD_after_81 rfl ?_
        refine g_callV (rv := rvU) (As := [.int (M.1 91 (Int32.toNatClampNeg ((2 : Int32) * v6))), .int x28]) (st := []) e_MD_after_83 mv_MD_158 my_MD_lays (by decide) rfl rfl kq_78 (hz.lt kq_78) rfl (Nat.le_of_ble_eq_true rfl) rfl (fun r M1 h => c_MD_lays hz  h) (fun r39 M38 h40 => ?_)
        refine g_goto e_MD_after_86 ?_
        exact g_wq (t_MD_after_121 hz (ih) v1 v2 v3 v4 v5 v6 M38) ⟨rfl, rfl, rfl, rfl, rfl, rfl, rfl, trivial⟩
set_option maxHeartbeats 4000000 in
set_option maxRecDepth 20000 in
theorem t_MD_after {X : KX} {Z : ZZ} {v1 : Int32} {M : Mm} (hz : FU Z) : GO X md_MD_after (QE X rvI Z) 0 [some (rf (kG X) 78), some (.int v1), none, none, none, none, none, none] [] Z M (f_MD_after v1 M) := by
  unfold f_MD_after
  refine g_iload_n e_MD_after_0 rfl ?_
  refine g_iconst (x := (0 : Int32)) e_MD_after_1 (by decide) ?_
  refine g_iconst (x := (2 : Int32)) e_MD_after_2 (by decide) ?_
  refine g_callS (rv := rvI) (As := [.int v1, .int (0 : Int32), .int (2 : Int32)]) (st := []) e_MD_after_3 ms_MD_92 my_MD_in (by decide) rfl rfl (Nat.le_of_ble_eq_true rfl) (fun r M1 h => c_MD_in hz  h) (fun r2 M1 h3 => ?_)
  refine g_if_ne e_MD_after_6 (fun c4 => ?_) (fun c4 => ?_)
  · refine g_aload_n e_MD_after_11 rfl ?_
    refine g_getI e_MD_after_12 fl_MD_9 kq_78 (hz.lt kq_78) fj_10_1 ?_
    refine g_istoreL_n e_MD_after_15 (by decide) rfl (fun x5 => ?_)
    refine g_aload_n e_MD_after_16 rfl ?_
    refine g_getI e_MD_after_17 fl_MD_15 kq_78 (hz.lt kq_78) fj_10_2 ?_
    refine g_istoreL_n e_MD_after_20 (by decide) rfl (fun x6 => ?_)
    refine g_aload_n e_MD_after_21 rfl ?_
    refine g_getI e_MD_after_22 fl_MD_145 kq_78 (hz.lt kq_78) fj_10_3 ?_
    refine g_istoreL e_MD_after_25 (by decide) rfl (fun x7 => ?_)
    refine g_aload_n e_MD_after_27 rfl ?_
    refine g_getI e_MD_after_28 fl_MD_148 kq_78 (hz.lt kq_78) fj_10_4 ?_
    refine g_istoreL e_MD_after_31 (by decide) rfl (fun x8 => ?_)
    refine g_iconst (x := (0 : Int32)) e_MD_after_33 (by decide) ?_
    refine g_istore e_MD_after_34 (by decide) rfl ?_
    exact g_wq (t_MD_after_36 hz fuel v1 x5 x6 x7 x8 (0 : Int32) M1) ⟨rfl, rfl, rfl, rfl, rfl, rfl, rfl, trivial⟩
  · refine g_iconst (x := (-1 : Int32)) e_MD_after_9 (by decide) ?_
    exact g_iret e_MD_after_10 rfl
set_option maxHeartbeats 4000000 in
set_option maxRecDepth 20000 in
theorem c_MD_after {l : Launch} {G : KG} {Z : ZZ} {v1 : Int32} {M M' : Mm} {r : Int32} (hz : FU Z) (h : f_MD_after v1 M = some (r, M')) : CT l G y_MD_after md_MD_after 0 0 [rf G 78, .int v1] Z.2.2.1 Z.2.2.2 M (rvI r) Z.2.2.1 Z.2.2.2 M' :=
  CT.of (Z := (0, 0, Z.2.2.1, Z.2.2.2)) (Z' := (0, 0, Z.2.2.1, Z.2.2.2)) 6 (by decide) rfl ⟨rfl, rfl⟩ (by show 2 ≤ 8; decide) rfl h (fun X _ hG => by subst hG; exact t_MD_after hz)
set_option maxHeartbeats 4000000 in
set_option maxRecDepth 20000 in
theorem t_MD_feed {X : KX} {Z : ZZ} {v1 : Int32} {M : Mm} (hz : FU Z) : GO X md_MD_feed (QE X rvI Z) 0 [some (rf (kG X) 78), some (.int v1)] [] Z M (f_MD_feed v1 M) := by
  unfold f_MD_feed
  refine g_iload_n e_MD_feed_0 rfl ?_
  refine g_iconst (x := (0 : Int32)) e_MD_feed_1 (by decide) ?_
  refine g_bipush (x := (127 : Int32)) e_MD_feed_2 (by decide) ?_
  refine g_callS (rv := rvI) (As := [.int v1, .int (0 : Int32), .int (127 : Int32)]) (st := []) e_MD_feed_4 ms_MD_92 my_MD_in (by decide) rfl rfl (Nat.le_of_ble_eq_true rfl) (fun r M1 h => c_MD_in hz  h) (fun r2 M1 h3 => ?_)
  refine g_if_ne e_MD_feed_7 (fun c4 => ?_) (fun c4 => ?_)
  · refine g_aload_n e_MD_feed_13 rfl ?_
    refine g_getI e_MD_feed_14 fl_MD_259 kq_78 (hz.lt kq_78) fj_10_32 ?_
    refine g_bipush (x := (100 : Int32)) e_MD_feed_17 (by decide) ?_
    refine g_icmp_ne e_MD_feed_19 (fun c5 => ?_) (fun c5 => ?_)
    · refine g_aload_n e_MD_feed_25 rfl ?_
      refine g_getRZ (kz := 92) e_MD_feed_26 fl_MD_64 hz kq_78 (by decide) fj_10_31 rfl ?_
      refine g_aload_n e_MD_feed_29 rfl ?_
      refine g_getI e_MD_feed_30 fl_MD_259 kq_78 (hz.lt kq_78) fj_10_32 ?_
      refine g_iload_n e_MD_feed_33 rfl ?_
      refine g_iastG (n := 100) e_MD_feed_34 ⟨kq_92, by decide⟩ (hz.lt kq_92 (by decide)) (fun M6 => ?_)
      refine g_aload_n e_MD_feed_35 rfl ?_
      refine g_dup e_MD_feed_36 rfl ?_
      refine g_getI e_MD_feed_37 fl_MD_259 kq_78 (hz.lt kq_78) fj_10_32 ?_
      refine g_iconst (x := (1 : Int32)) e_MD_feed_40 (by decide) ?_
      refine g_iadd e_MD_feed_41 ?_
      refine g_putL e_MD_feed_42 fp_MD_259 kq_78 (hz.lt kq_78) fj_10_32 rfl rfl (fun M7 => ?_)
      refine g_aload_n e_MD_feed_45 rfl ?_
      refine g_getI e_MD_feed_46 fl_MD_259 kq_78 (hz.lt kq_78) fj_10_32 ?_
      exact g_iret e_MD_feed_49 rfl
    · refine g_bipush (x := (-4 : Int32)) e_MD_feed_22 (by decide) ?_
      exact g_iret e_MD_feed_24 rfl
  · refine g_bipush (x := (-2 : Int32)) e_MD_feed_10 (by decide) ?_
    exact g_iret e_MD_feed_12 rfl
set_option maxHeartbeats 4000000 in
set_option maxRecDepth 20000 in
theorem c_MD_feed {l : Launch} {G : KG} {Z : ZZ} {v1 : Int32} {M M' : Mm} {r : Int32} (hz : FU Z) (h : f_MD_feed v1 M = some (r, M')) : CT l G y_MD_feed md_MD_feed 0 0 [rf G 78, .int v1] Z.2.2.1 Z.2.2.2 M (rvI r) Z.2.2.1 Z.2.2.2 M' :=
  CT.of (Z := (0, 0, Z.2.2.1, Z.2.2.2)) (Z' := (0, 0, Z.2.2.1, Z.2.2.2)) 0 (by decide) rfl ⟨rfl, rfl⟩ (by show 2 ≤ 2; decide) rfl h (fun X _ hG => by subst hG; exact t_MD_feed hz)
set_option maxHeartbeats 4000000 in
set_option maxRecDepth 20000 in
theorem t_MD_here {X : KX} {Z : ZZ} {v1 : Int32} {M : Mm} (hz : FU Z) : GO X md_MD_here (QE X rvI Z) 0 [some (rf (kG X) 78), some (.int v1)] [] Z M (f_MD_here v1 M) := by
  unfold f_MD_here
  refine g_aload_n e_MD_here_0 rfl ?_
  refine g_getI e_MD_here_1 fl_MD_262 kq_78 (hz.lt kq_78) fj_10_33 ?_
  refine g_iload_n e_MD_here_4 rfl ?_
  refine g_icmp_ge e_MD_here_5 (fun c1 => ?_) (fun c1 => ?_)
  · refine g_iconst (x := (-1 : Int32)) e_MD_here_20 (by decide) ?_
    exact g_iret e_MD_here_21 rfl
  · refine g_aload_n e_MD_here_8 rfl ?_
    refine g_getRZ (kz := 92) e_MD_here_9 fl_MD_64 hz kq_78 (by decide) fj_10_31 rfl ?_
    refine g_aload_n e_MD_here_12 rfl ?_
    refine g_getI e_MD_here_13 fl_MD_262 kq_78 (hz.lt kq_78) fj_10_33 ?_
    refine g_ialdG (n := 100) e_MD_here_16 ⟨kq_92, by decide⟩ (hz.lt kq_92 (by decide)) ?_
    refine g_goto e_MD_here_17 ?_
    exact g_iret e_MD_here_21 rfl
set_option maxHeartbeats 4000000 in
set_option maxRecDepth 20000 in
theorem c_MD_here {l : Launch} {G : KG} {Z : ZZ} {v1 : Int32} {M M' : Mm} {r : Int32} (hz : FU Z) (h : f_MD_here v1 M = some (r, M')) : CT l G y_MD_here md_MD_here 0 0 [rf G 78, .int v1] Z.2.2.1 Z.2.2.2 M (rvI r) Z.2.2.1 Z.2.2.2 M' :=
  CT.of (Z := (0, 0, Z.2.2.1, Z.2.2.2)) (Z' := (0, 0, Z.2.2.1, Z.2.2.2)) 0 (by decide) rfl ⟨rfl, rfl⟩ (by show 2 ≤ 2; decide) rfl h (fun X _ hG => by subst hG; exact t_MD_here hz)
set_option maxHeartbeats 4000000 in
set_option maxRecDepth 20000 in
theorem t_MD_number_64 {X : KX} {Z : ZZ} (hz : FU Z) : ∀ (v1 : Int32) (v2 : Int32) (v7 : Int32) (v8 : Int32) (M : Mm), GO X md_MD_number (QE X rvI Z) 64 [some (rf (kG X) 78), some (.int v1), some (.int v2), none, none, none, none, some (.int v7), some (.int v8)] [] Z M (f_MD_number_64 v1 v2 v7 v8 M) := by
  intro v1 v2 v7 v8 M
  unfold f_MD_number_64
  refine g_aload_n e_MD_number_64 rfl ?_
  refine g_getRZ (kz := 93) e_MD_number_65 fl_MD_67 hz kq_78 (by decide) fj_10_34 rfl ?_
  refine g_iconst (x := (3 : Int32)) e_MD_number_68 (by decide) ?_
  refine g_iload_n e_MD_number_69 rfl ?_
  refine g_imul e_MD_number_70 ?_
  refine g_iload_n e_MD_number_71 rfl ?_
  refine g_iadd e_MD_number_72 ?_
  refine g_iload e_MD_number_73 rfl ?_
  refine g_iastG (n := 30) e_MD_number_75 ⟨kq_93, by decide⟩ (hz.lt kq_93 (by decide)) (fun M2 => ?_)
  refine g_iload e_MD_number_76 rfl ?_
  refine g_if_le e_MD_number_78 (fun c3 => ?_) (fun c3 => ?_)
  · refine g_iconst (x := (0 : Int32)) e_MD_number_85 (by decide) ?_
    exact g_zret e_MD_number_86 rfl (by decide)
  · refine g_iconst (x := (1 : Int32)) e_MD_number_81 (by decide) ?_
    refine g_goto e_MD_number_82 ?_
    exact g_zret e_MD_number_86 rfl (by decide)
set_option maxHeartbeats 4000000 in
set_option maxRecDepth 20000 in
theorem t_MD_number_6 {X : KX} {Z : ZZ} (hz : FU Z) : ∀ (n : Nat) (v1 : Int32) (v2 : Int32) (v3 : Int32) (v4 : Int32) (v5 : Int32) (v6 : Int32) (v7 : Int32) (v8 : Int32) (M : Mm), GO X md_MD_number (QE X rvI Z) 6 [some (rf (kG X) 78), some (.int v1), some (.int v2), some (.int v3), some (.int v4), some (.int v5), some (.int v6), some (.int v7), some (.int v8)] [] Z M (f_MD_number_6 n v1 v2 v3 v4 v5 v6 v7 v8 M) := by
  intro n
  induction n with
  | zero =>
    intro v1 v2 v3 v4 v5 v6 v7 v8 M
    exact g_none
  | succ n ih =>
    intro v1 v2 v3 v4 v5 v6 v7 v8 M
    rw [f_MD_number_6_s]
    refine g_iload e_MD_number_6 rfl ?_
    refine g_iload e_MD_number_8 rfl ?_
    refine g_icmp_ge e_MD_number_10 (fun c1 => ?_) (fun c1 => ?_)
    · exact g_wq (t_MD_number_64 hz v1 v2 v7 v8 M) ⟨rfl, rfl, rfl, rfl, rfl, trivial⟩
    · refine g_aload_n e_MD_number_13 rfl ?_
      refine g_iload_n e_MD_number_14 rfl ?_
      refine g_callV (rv := rvI) (As := [.int v3]) (st := []) e_MD_number_15 mv_MD_265 my_MD_here (by decide) rfl rfl kq_78 (hz.lt kq_78) rfl (Nat.le_of_ble_eq_true rfl) rfl (fun r M1 h => c_MD_here hz  h) (fun r5 M4 h6 => ?_)
      refine g_iload e_MD_number_18 rfl ?_
      refine g_iload e_MD_number_20 rfl ?_
      refine g_callS (rv := rvI) (As := [.int r5, .int v5, .int v6]) (st := []) e_MD_number_22 ms_MD_92 my_MD_in (by decide) rfl rfl (Nat.le_of_ble_eq_true rfl) (fun r M1 h => c_MD_in hz  h) (fun r8 M7 h9 => ?_)
      refine g_if_eq e_MD_number_25 (fun c10 => ?_) (fun c10 => ?_)
      · exact g_wq (t_MD_number_64 hz v1 v2 v7 v8 M7) ⟨rfl, rfl, rfl, rfl, rfl, trivial⟩
      · refine g_bipush (x := (10 : Int32)) e_MD_number_28 (by decide) ?_
        refine g_iload e_MD_number_30 rfl ?_
        refine g_imul e_MD_number_32 ?_
        refine g_aload_n e_MD_number_33 rfl ?_
        refine g_getRZ (kz := 92) e_MD_number_34 fl_MD_64 hz kq_78 (by decide) fj_10_31 rfl ?_
        refine g_aload_n e_MD_number_37 rfl ?_
        refine g_getI e_MD_number_38 fl_MD_262 kq_78 (hz.lt kq_78) fj_10_33 ?_
        refine g_ialdG (n := 100) e_MD_number_41 ⟨kq_92, by decide⟩ (hz.lt kq_92 (by decide)) ?_
        refine g_iadd e_MD_number_42 ?_
        refine g_bipush (x := (48 : Int32)) e_MD_number_43 (by decide) ?_
        refine g_isub e_MD_number_45 ?_
        refine g_istoreL e_MD_number_46 (by decide) rfl (fun x11 => ?_)
        refine g_aload_n e_MD_number_48 rfl ?_
        refine g_dup e_MD_number_49 rfl ?_
        refine g_getI e_MD_number_50 fl_MD_262 kq_78 (hz.lt kq_78) fj_10_33 ?_
        refine g_iconst (x := (1 : Int32)) e_MD_number_53 (by decide) ?_
        refine g_iadd e_MD_number_54 ?_
        refine g_putL e_MD_number_55 fp_MD_262 kq_78 (hz.lt kq_78) fj_10_33 rfl rfl (fun M12 => ?_)
        refine g_iincL (c := (1 : Int32)) e_MD_number_58 rfl (by decide) (by decide) rfl (fun x13 => ?_)
        refine g_goto e_MD_number_61 ?_
        exact g_wq (ih v1 v2 v3 v4 v5 v6 x13 x11 M12) ⟨rfl, rfl, rfl, rfl, rfl, rfl, rfl, rfl, rfl, trivial⟩
set_option maxHeartbeats 4000000 in
set_option maxRecDepth 20000 in
theorem t_MD_number {X : KX} {Z : ZZ} {v1 : Int32} {v2 : Int32} {v3 : Int32} {v4 : Int32} {v5 : Int32} {v6 : Int32} {M : Mm} (hz : FU Z) : GO X md_MD_number (QE X rvI Z) 0 [some (rf (kG X) 78), some (.int v1), some (.int v2), some (.int v3), some (.int v4), some (.int v5), some (.int v6), none, none] [] Z M (f_MD_number v1 v2 v3 v4 v5 v6 M) := by
  unfold f_MD_number
  refine g_iconst (x := (0 : Int32)) e_MD_number_0 (by decide) ?_
  refine g_istore e_MD_number_1 (by decide) rfl ?_
  refine g_iconst (x := (0 : Int32)) e_MD_number_3 (by decide) ?_
  refine g_istore e_MD_number_4 (by decide) rfl ?_
  exact g_wq (t_MD_number_6 hz fuel v1 v2 v3 v4 v5 v6 (0 : Int32) (0 : Int32) M) ⟨rfl, rfl, rfl, rfl, rfl, rfl, rfl, rfl, rfl, trivial⟩
set_option maxHeartbeats 4000000 in
set_option maxRecDepth 20000 in
theorem c_MD_number {l : Launch} {G : KG} {Z : ZZ} {v1 : Int32} {v2 : Int32} {v3 : Int32} {v4 : Int32} {v5 : Int32} {v6 : Int32} {M M' : Mm} {r : Int32} (hz : FU Z) (h : f_MD_number v1 v2 v3 v4 v5 v6 M = some (r, M')) : CT l G y_MD_number md_MD_number 0 0 [rf G 78, .int v1, .int v2, .int v3, .int v4, .int v5, .int v6] Z.2.2.1 Z.2.2.2 M (rvI r) Z.2.2.1 Z.2.2.2 M' :=
  CT.of (Z := (0, 0, Z.2.2.1, Z.2.2.2)) (Z' := (0, 0, Z.2.2.1, Z.2.2.2)) 2 (by decide) rfl ⟨rfl, rfl⟩ (by show 7 ≤ 9; decide) rfl h (fun X _ hG => by subst hG; exact t_MD_number hz)
set_option maxHeartbeats 4000000 in
set_option maxRecDepth 20000 in
theorem t_MD_clause_53 {X : KX} {Z : ZZ} (hz : FU Z) : ∀ (v1 : Int32) (v2 : Int32) (v3 : Int32) (M : Mm), GO X md_MD_clause (QE X rvI Z) 53 [some (rf (kG X) 78), some (.int v1), some (.int v2), some (.int v3)] [] Z M (f_MD_clause_53 v1 v2 v3 M) := by
  intro v1 v2 v3 M
  unfold f_MD_clause_53
  refine g_aload_n e_MD_clause_53 rfl ?_
  refine g_dup e_MD_clause_54 rfl ?_
  refine g_getI e_MD_clause_55 fl_MD_262 kq_78 (hz.lt kq_78) fj_10_33 ?_
  refine g_iconst (x := (1 : Int32)) e_MD_clause_58 (by decide) ?_
  refine g_iadd e_MD_clause_59 ?_
  refine g_putL e_MD_clause_60 fp_MD_262 kq_78 (hz.lt kq_78) fj_10_33 rfl rfl (fun M6 => ?_)
  refine g_iload_n e_MD_clause_63 rfl ?_
  refine g_bipush (x := (102 : Int32)) e_MD_clause_64 (by decide) ?_
  refine g_icmp_ne e_MD_clause_66 (fun c7 => ?_) (fun c7 => ?_)
  · refine g_aload_n e_MD_clause_82 rfl ?_
    refine g_iload_n e_MD_clause_83 rfl ?_
    refine g_iconst (x := (1 : Int32)) e_MD_clause_84 (by decide) ?_
    refine g_iload_n e_MD_clause_85 rfl ?_
    refine g_bipush (x := (7 : Int32)) e_MD_clause_86 (by decide) ?_
    refine g_bipush (x := (48 : Int32)) e_MD_clause_88 (by decide) ?_
    refine g_bipush (x := (57 : Int32)) e_MD_clause_90 (by decide) ?_
    refine g_callV (rv := rvI) (As := [.int v1, .int (1 : Int32), .int v2, .int (7 : Int32), .int (48 : Int32), .int (57 : Int32)]) (st := []) e_MD_clause_92 mv_MD_268 my_MD_number (by decide) rfl rfl kq_78 (hz.lt kq_78) rfl (Nat.le_of_ble_eq_true rfl) rfl (fun r M1 h => c_MD_number hz  h) (fun r9 M8 h10 => ?_)
    refine g_if_ne e_MD_clause_95 (fun c11 => ?_) (fun c11 => ?_)
    · refine g_iload_n e_MD_clause_100 rfl ?_
      refine g_bipush (x := (99 : Int32)) e_MD_clause_101 (by decide) ?_
      refine g_icmp_eq e_MD_clause_103 (fun c12 => ?_) (fun c12 => ?_)
      · refine g_aload_n e_MD_clause_108 rfl ?_
        refine g_iload_n e_MD_clause_109 rfl ?_
        refine g_callV (rv := rvI) (As := [.int v2]) (st := []) e_MD_clause_110 mv_MD_265 my_MD_here (by decide) rfl rfl kq_78 (hz.lt kq_78) rfl (Nat.le_of_ble_eq_true rfl) rfl (fun r M1 h => c_MD_here hz  h) (fun r14 M13 h15 => ?_)
        refine g_bipush (x := (44 : Int32)) e_MD_clause_113 (by decide) ?_
        refine g_icmp_eq e_MD_clause_115 (fun c16 => ?_) (fun c16 => ?_)
        · refine g_aload_n e_MD_clause_120 rfl ?_
          refine g_dup e_MD_clause_121 rfl ?_
          refine g_getI e_MD_clause_122 fl_MD_262 kq_78 (hz.lt kq_78) fj_10_33 ?_
          refine g_iconst (x := (1 : Int32)) e_MD_clause_125 (by decide) ?_
          refine g_iadd e_MD_clause_126 ?_
          refine g_putL e_MD_clause_127 fp_MD_262 kq_78 (hz.lt kq_78) fj_10_33 rfl rfl (fun M17 => ?_)
          refine g_aload_n e_MD_clause_130 rfl ?_
          refine g_iload_n e_MD_clause_131 rfl ?_
          refine g_iconst (x := (2 : Int32)) e_MD_clause_132 (by decide) ?_
          refine g_iload_n e_MD_clause_133 rfl ?_
          refine g_bipush (x := (7 : Int32)) e_MD_clause_134 (by decide) ?_
          refine g_bipush (x := (48 : Int32)) e_MD_clause_136 (by decide) ?_
          refine g_bipush (x := (57 : Int32)) e_MD_clause_138 (by decide) ?_
          refine g_callV (rv := rvI) (As := [.int v1, .int (2 : Int32), .int v2, .int (7 : Int32), .int (48 : Int32), .int (57 : Int32)]) (st := []) e_MD_clause_140 mv_MD_268 my_MD_number (by decide) rfl rfl kq_78 (hz.lt kq_78) rfl (Nat.le_of_ble_eq_true rfl) rfl (fun r M1 h => c_MD_number hz  h) (fun r19 M18 h20 => ?_)
          exact g_zretG e_MD_clause_143 rfl
        · refine g_iconst (x := (0 : Int32)) e_MD_clause_118 (by decide) ?_
          exact g_zret e_MD_clause_119 rfl (by decide)
      · refine g_iconst (x := (1 : Int32)) e_MD_clause_106 (by decide) ?_
        exact g_zret e_MD_clause_107 rfl (by decide)
    · refine g_iconst (x := (0 : Int32)) e_MD_clause_98 (by decide) ?_
      exact g_zret e_MD_clause_99 rfl (by decide)
  · refine g_aload_n e_MD_clause_69 rfl ?_
    refine g_iload_n e_MD_clause_70 rfl ?_
    refine g_iconst (x := (1 : Int32)) e_MD_clause_71 (by decide) ?_
    refine g_iload_n e_MD_clause_72 rfl ?_
    refine g_iconst (x := (4 : Int32)) e_MD_clause_73 (by decide) ?_
    refine g_bipush (x := (49 : Int32)) e_MD_clause_74 (by decide) ?_
    refine g_bipush (x := (52 : Int32)) e_MD_clause_76 (by decide) ?_
    refine g_callV (rv := rvI) (As := [.int v1, .int (1 : Int32), .int v2, .int (4 : Int32), .int (49 : Int32), .int (52 : Int32)]) (st := []) e_MD_clause_78 mv_MD_268 my_MD_number (by decide) rfl rfl kq_78 (hz.lt kq_78) rfl (Nat.le_of_ble_eq_true rfl) rfl (fun r M1 h => c_MD_number hz  h) (fun r22 M21 h23 => ?_)
    exact g_zretG e_MD_clause_81 rfl
set_option maxHeartbeats 4000000 in
set_option maxRecDepth 20000 in
theorem t_MD_clause {X : KX} {Z : ZZ} {v1 : Int32} {v2 : Int32} {M : Mm} (hz : FU Z) : GO X md_MD_clause (QE X rvI Z) 0 [some (rf (kG X) 78), some (.int v1), some (.int v2), none] [] Z M (f_MD_clause v1 v2 M) := by
  unfold f_MD_clause
  refine g_aload_n e_MD_clause_0 rfl ?_
  refine g_iload_n e_MD_clause_1 rfl ?_
  refine g_callV (rv := rvI) (As := [.int v2]) (st := []) e_MD_clause_2 mv_MD_265 my_MD_here (by decide) rfl rfl kq_78 (hz.lt kq_78) rfl (Nat.le_of_ble_eq_true rfl) rfl (fun r M1 h => c_MD_here hz  h) (fun r2 M1 h3 => ?_)
  refine g_istore_n e_MD_clause_5 (by decide) rfl ?_
  refine g_aload_n e_MD_clause_6 rfl ?_
  refine g_getRZ (kz := 93) e_MD_clause_7 fl_MD_67 hz kq_78 (by decide) fj_10_34 rfl ?_
  refine g_iconst (x := (3 : Int32)) e_MD_clause_10 (by decide) ?_
  refine g_iload_n e_MD_clause_11 rfl ?_
  refine g_imul e_MD_clause_12 ?_
  refine g_iload_n e_MD_clause_13 rfl ?_
  refine g_iastG (n := 30) e_MD_clause_14 ⟨kq_93, by decide⟩ (hz.lt kq_93 (by decide)) (fun M4 => ?_)
  refine g_iload_n e_MD_clause_15 rfl ?_
  refine g_bipush (x := (102 : Int32)) e_MD_clause_16 (by decide) ?_
  refine g_icmp_eq e_MD_clause_18 (fun c5 => ?_) (fun c5 => ?_)
  · exact g_wq (t_MD_clause_53 hz v1 v2 r2 M4) ⟨rfl, rfl, rfl, rfl, trivial⟩
  · refine g_iload_n e_MD_clause_21 rfl ?_
    refine g_bipush (x := (110 : Int32)) e_MD_clause_22 (by decide) ?_
    refine g_icmp_eq e_MD_clause_24 (fun c24 => ?_) (fun c24 => ?_)
    · exact g_wq (t_MD_clause_53 hz v1 v2 r2 M4) ⟨rfl, rfl, rfl, rfl, trivial⟩
    · refine g_iload_n e_MD_clause_27 rfl ?_
      refine g_bipush (x := (103 : Int32)) e_MD_clause_28 (by decide) ?_
      refine g_icmp_eq e_MD_clause_30 (fun c25 => ?_) (fun c25 => ?_)
      · exact g_wq (t_MD_clause_53 hz v1 v2 r2 M4) ⟨rfl, rfl, rfl, rfl, trivial⟩
      · refine g_iload_n e_MD_clause_33 rfl ?_
        refine g_bipush (x := (116 : Int32)) e_MD_clause_34 (by decide) ?_
        refine g_icmp_eq e_MD_clause_36 (fun c26 => ?_) (fun c26 => ?_)
        · exact g_wq (t_MD_clause_53 hz v1 v2 r2 M4) ⟨rfl, rfl, rfl, rfl, trivial⟩
        · refine g_iload_n e_MD_clause_39 rfl ?_
          refine g_bipush (x := (99 : Int32)) e_MD_clause_40 (by decide) ?_
          refine g_icmp_eq e_MD_clause_42 (fun c27 => ?_) (fun c27 => ?_)
          · exact g_wq (t_MD_clause_53 hz v1 v2 r2 M4) ⟨rfl, rfl, rfl, rfl, trivial⟩
          · refine g_iload_n e_MD_clause_45 rfl ?_
            refine g_bipush (x := (119 : Int32)) e_MD_clause_46 (by decide) ?_
            refine g_icmp_eq e_MD_clause_48 (fun c28 => ?_) (fun c28 => ?_)
            · exact g_wq (t_MD_clause_53 hz v1 v2 r2 M4) ⟨rfl, rfl, rfl, rfl, trivial⟩
            · refine g_iconst (x := (0 : Int32)) e_MD_clause_51 (by decide) ?_
              exact g_zret e_MD_clause_52 rfl (by decide)
set_option maxHeartbeats 4000000 in
set_option maxRecDepth 20000 in
theorem c_MD_clause {l : Launch} {G : KG} {Z : ZZ} {v1 : Int32} {v2 : Int32} {M M' : Mm} {r : Int32} (hz : FU Z) (h : f_MD_clause v1 v2 M = some (r, M')) : CT l G y_MD_clause md_MD_clause 0 0 [rf G 78, .int v1, .int v2] Z.2.2.1 Z.2.2.2 M (rvI r) Z.2.2.1 Z.2.2.2 M' :=
  CT.of (Z := (0, 0, Z.2.2.1, Z.2.2.2)) (Z' := (0, 0, Z.2.2.1, Z.2.2.2)) 1 (by decide) rfl ⟨rfl, rfl⟩ (by show 3 ≤ 4; decide) rfl h (fun X _ hG => by subst hG; exact t_MD_clause hz)
set_option maxHeartbeats 4000000 in
set_option maxRecDepth 20000 in
theorem t_MD_does {X : KX} {Z : ZZ} {v1 : Int32} {M : Mm} (hz : FU Z) : GO X md_MD_does (QE X rvI Z) 0 [some (rf (kG X) 78), some (.int v1), none, none] [] Z M (f_MD_does v1 M) := by
  unfold f_MD_does
  refine g_aload_n e_MD_does_0 rfl ?_
  refine g_getRZ (kz := 93) e_MD_does_1 fl_MD_67 hz kq_78 (by decide) fj_10_34 rfl ?_
  refine g_iconst (x := (3 : Int32)) e_MD_does_4 (by decide) ?_
  refine g_iload_n e_MD_does_5 rfl ?_
  refine g_imul e_MD_does_6 ?_
  refine g_iconst (x := (1 : Int32)) e_MD_does_7 (by decide) ?_
  refine g_iadd e_MD_does_8 ?_
  refine g_ialdG (n := 30) e_MD_does_9 ⟨kq_93, by decide⟩ (hz.lt kq_93 (by decide)) ?_
  refine g_istoreL_n e_MD_does_10 (by decide) rfl (fun x1 => ?_)
  refine g_aload_n e_MD_does_11 rfl ?_
  refine g_getRZ (kz := 93) e_MD_does_12 fl_MD_67 hz kq_78 (by decide) fj_10_34 rfl ?_
  refine g_iconst (x := (3 : Int32)) e_MD_does_15 (by decide) ?_
  refine g_iload_n e_MD_does_16 rfl ?_
  refine g_imul e_MD_does_17 ?_
  refine g_iconst (x := (2 : Int32)) e_MD_does_18 (by decide) ?_
  refine g_iadd e_MD_does_19 ?_
  refine g_ialdG (n := 30) e_MD_does_20 ⟨kq_93, by decide⟩ (hz.lt kq_93 (by decide)) ?_
  refine g_istoreL_n e_MD_does_21 (by decide) rfl (fun x2 => ?_)
  refine g_aload_n e_MD_does_22 rfl ?_
  refine g_getRZ (kz := 93) e_MD_does_23 fl_MD_67 hz kq_78 (by decide) fj_10_34 rfl ?_
  refine g_iconst (x := (3 : Int32)) e_MD_does_26 (by decide) ?_
  refine g_iload_n e_MD_does_27 rfl ?_
  refine g_imul e_MD_does_28 ?_
  refine g_ialdG (n := 30) e_MD_does_29 ⟨kq_93, by decide⟩ (hz.lt kq_93 (by decide)) ?_
  refine g_ite (fun c3 => ?_) (fun c3 => ?_)
  · refine g_lsw e_MD_does_30.1 (by decide) (off := 50) (tgt := 80) (by rw [c3]; decide) (by decide) ?_
    refine g_aload_n e_MD_does_80 rfl ?_
    refine g_iload_n e_MD_does_81 rfl ?_
    refine g_callV (rv := rvI) (As := [.int x1]) (st := []) e_MD_does_82 mv_MD_272 my_MD_fold (by decide) rfl rfl kq_78 (hz.lt kq_78) rfl (Nat.le_of_ble_eq_true rfl) rfl (fun r M1 h => c_MD_fold hz  h) (fun r5 M4 h6 => ?_)
    exact g_iret e_MD_does_85 rfl
  refine g_ite (fun c7 => ?_) (fun c7 => ?_)
  · refine g_lsw e_MD_does_30.1 (by decide) (off := 63) (tgt := 93) (by rw [c7]; decide) (by decide) ?_
    refine g_aload_n e_MD_does_93 rfl ?_
    refine g_iconst (x := (1 : Int32)) e_MD_does_94 (by decide) ?_
    refine g_iload_n e_MD_does_95 rfl ?_
    refine g_callV (rv := rvI) (As := [.int (1 : Int32), .int x1]) (st := []) e_MD_does_96 mv_MD_274 my_MD_set (by decide) rfl rfl kq_78 (hz.lt kq_78) rfl (Nat.le_of_ble_eq_true rfl) rfl (fun r M1 h => c_MD_set hz  h) (fun r9 M8 h10 => ?_)
    exact g_iret e_MD_does_99 rfl
  refine g_ite (fun c11 => ?_) (fun c11 => ?_)
  · refine g_lsw e_MD_does_30.1 (by decide) (off := 56) (tgt := 86) (by rw [c11]; decide) (by decide) ?_
    refine g_aload_n e_MD_does_86 rfl ?_
    refine g_iconst (x := (0 : Int32)) e_MD_does_87 (by decide) ?_
    refine g_iload_n e_MD_does_88 rfl ?_
    refine g_callV (rv := rvI) (As := [.int (0 : Int32), .int x1]) (st := []) e_MD_does_89 mv_MD_274 my_MD_set (by decide) rfl rfl kq_78 (hz.lt kq_78) rfl (Nat.le_of_ble_eq_true rfl) rfl (fun r M1 h => c_MD_set hz  h) (fun r13 M12 h14 => ?_)
    exact g_iret e_MD_does_92 rfl
  refine g_ite (fun c15 => ?_) (fun c15 => ?_)
  · refine g_lsw e_MD_does_30.1 (by decide) (off := 70) (tgt := 100) (by rw [c15]; decide) (by decide) ?_
    refine g_aload_n e_MD_does_100 rfl ?_
    refine g_iconst (x := (2 : Int32)) e_MD_does_101 (by decide) ?_
    refine g_iload_n e_MD_does_102 rfl ?_
    refine g_callV (rv := rvI) (As := [.int (2 : Int32), .int x1]) (st := []) e_MD_does_103 mv_MD_274 my_MD_set (by decide) rfl rfl kq_78 (hz.lt kq_78) rfl (Nat.le_of_ble_eq_true rfl) rfl (fun r M1 h => c_MD_set hz  h) (fun r17 M16 h18 => ?_)
    exact g_iret e_MD_does_106 rfl
  refine g_ite (fun c19 => ?_) (fun c19 => ?_)
  · refine g_lsw e_MD_does_30.1 (by decide) (off := 77) (tgt := 107) (by rw [c19]; decide) (by decide) ?_
    refine g_aload_n e_MD_does_107 rfl ?_
    refine g_iload_n e_MD_does_108 rfl ?_
    refine g_callV (rv := rvI) (As := [.int x1]) (st := []) e_MD_does_109 mv_MD_277 my_MD_waits (by decide) rfl rfl kq_78 (hz.lt kq_78) rfl (Nat.le_of_ble_eq_true rfl) rfl (fun r M1 h => c_MD_waits hz  h) (fun r21 M20 h22 => ?_)
    exact g_iret e_MD_does_112 rfl
  refine g_lsw e_MD_does_30.1 (by decide) (off := 83) (tgt := 113) ((lv_osw c3 (by decide)).trans ((lv_osw c7 (by decide)).trans ((lv_osw c11 (by decide)).trans ((lv_osw c15 (by decide)).trans ((lv_osw c19 (by decide)).trans (rfl)))))) (by decide) ?_
  refine g_iconst (x := (3 : Int32)) e_MD_does_113 (by decide) ?_
  refine g_iload_n e_MD_does_114 rfl ?_
  refine g_callS (rv := rvI) (As := [.int (3 : Int32), .int x1]) (st := []) e_MD_does_115 ms_MD_151 my_MD_isSet (by decide) rfl rfl (Nat.le_of_ble_eq_true rfl) (fun r M1 h => c_MD_isSet hz  h) (fun r24 M23 h25 => ?_)
  refine g_if_eq e_MD_does_118 (fun c26 => ?_) (fun c26 => ?_)
  · refine g_bipush (x := (-2 : Int32)) e_MD_does_129 (by decide) ?_
    exact g_iret e_MD_does_131 rfl
  · refine g_iconst (x := (4 : Int32)) e_MD_does_121 (by decide) ?_
    refine g_iload_n e_MD_does_122 rfl ?_
    refine g_callS (rv := rvI) (As := [.int (4 : Int32), .int x2]) (st := []) e_MD_does_123 ms_MD_151 my_MD_isSet (by decide) rfl rfl (Nat.le_of_ble_eq_true rfl) (fun r M1 h => c_MD_isSet hz  h) (fun r28 M27 h29 => ?_)
    refine g_if_ne e_MD_does_126 (fun c30 => ?_) (fun c30 => ?_)
    · refine g_aload_n e_MD_does_132 rfl ?_
      refine g_iconst (x := (3 : Int32)) e_MD_does_133 (by decide) ?_
      refine g_iload_n e_MD_does_134 rfl ?_
      refine g_callV (rv := rvU) (As := [.int (3 : Int32), .int x1]) (st := []) e_MD_does_135 mv_MD_158 my_MD_lays (by decide) rfl rfl kq_78 (hz.lt kq_78) rfl (Nat.le_of_ble_eq_true rfl) rfl (fun r M1 h => c_MD_lays hz  h) (fun r32 M31 h33 => ?_)
      refine g_aload_n e_MD_does_138 rfl ?_
      refine g_iconst (x := (4 : Int32)) e_MD_does_139 (by decide) ?_
      refine g_iload_n e_MD_does_140 rfl ?_
      refine g_callV (rv := rvU) (As := [.int (4 : Int32), .int x2]) (st := []) e_MD_does_141 mv_MD_158 my_MD_lays (by decide) rfl rfl kq_78 (hz.lt kq_78) rfl (Nat.le_of_ble_eq_true rfl) rfl (fun r M1 h => c_MD_lays hz  h) (fun r35 M34 h36 => ?_)
      refine g_iconst (x := (0 : Int32)) e_MD_does_144 (by decide) ?_
      exact g_iret e_MD_does_145 rfl
    · refine g_bipush (x := (-2 : Int32)) e_MD_does_129 (by decide) ?_
      exact g_iret e_MD_does_131 rfl
set_option maxHeartbeats 4000000 in
set_option maxRecDepth 20000 in
theorem c_MD_does {l : Launch} {G : KG} {Z : ZZ} {v1 : Int32} {M M' : Mm} {r : Int32} (hz : FU Z) (h : f_MD_does v1 M = some (r, M')) : CT l G y_MD_does md_MD_does 0 0 [rf G 78, .int v1] Z.2.2.1 Z.2.2.2 M (rvI r) Z.2.2.1 Z.2.2.2 M' :=
  CT.of (Z := (0, 0, Z.2.2.1, Z.2.2.2)) (Z' := (0, 0, Z.2.2.1, Z.2.2.2)) 2 (by decide) rfl ⟨rfl, rfl⟩ (by show 2 ≤ 4; decide) rfl h (fun X _ hG => by subst hG; exact t_MD_does hz)
set_option maxHeartbeats 4000000 in
set_option maxRecDepth 20000 in
theorem t_MD_read_93 {X : KX} {Z : ZZ} (hz : FU Z) : ∀ (n : Nat) (v2 : Int32) (v4 : Int32) (v5 : Int32) (M : Mm), GO X md_MD_read (QE X rvI Z) 93 [some (rf (kG X) 78), none, some (.int v2), none, some (.int v4), some (.int v5)] [] Z M (f_MD_read_93 n v2 v4 v5 M) := by
  intro n
  induction n with
  | zero =>
    intro v2 v4 v5 M
    exact g_none
  | succ n ih =>
    intro v2 v4 v5 M
    rw [f_MD_read_93_s]
    refine g_iload e_MD_read_93 rfl ?_
    refine g_iload_n e_MD_read_95 rfl ?_
    refine g_icmp_ge e_MD_read_96 (fun c10 => ?_) (fun c10 => ?_)
    · refine g_iload e_MD_read_124 rfl ?_
      exact g_iret e_MD_read_126 rfl
    · refine g_iload e_MD_read_99 rfl ?_
      refine g_aload_n e_MD_read_101 rfl ?_
      refine g_iload e_MD_read_102 rfl ?_
      refine g_callV (rv := rvI) (As := [.int v5]) (st := [.int v4]) e_MD_read_104 mv_MD_283 my_MD_does (by decide) rfl rfl kq_78 (hz.lt kq_78) rfl (Nat.le_of_ble_eq_true rfl) rfl (fun r M1 h => c_MD_does hz  h) (fun r12 M11 h13 => ?_)
      refine g_phi1 115 (fun x15 => [some (rf (kG X) 78), none, some (.int v2), none, none, some (.int v5)]) (fun x15 => [.int x15, .int v4]) (fun x15 => ?_) (fun hj18 => ?_)
      · show GO X _ _ 115 [some (rf (kG X) 78), none, some (.int v2), none, none, some (.int v5)] [.int x15, .int v4] Z M11 _
        refine g_iadd e_MD_read_115 ?_
        refine g_istoreL e_MD_read_116 (by decide) rfl (fun x16 => ?_)
        refine g_iincL (c := (1 : Int32)) e_MD_read_118 rfl (by decide) (by decide) rfl (fun x17 => ?_)
        refine g_goto e_MD_read_121 ?_
        exact g_wq (ih v2 x16 x17 M11) ⟨rfl, rfl, rfl, rfl, trivial⟩
      · refine g_if_lt' e_MD_read_107 (fun c14 => ?_) (fun c14 => ?_)
        · refine g_iconst (x := (0 : Int32)) e_MD_read_114 (by decide) ?_
          exact (g_pt c14 (g_lt (g_wq (hj18 (0 : Int32)) ⟨rfl, rfl, rfl, trivial⟩)))
        · refine g_iconst (x := (1 : Int32)) e_MD_read_110 (by decide) ?_
          refine g_goto e_MD_read_111 ?_
          exact (g_pf c14 (g_lt (g_wq (hj18 (1 : Int32)) ⟨rfl, rfl, rfl, trivial⟩)))
set_option maxHeartbeats 4000000 in
set_option maxRecDepth 20000 in
theorem t_MD_read_67 {X : KX} {Z : ZZ} (hz : FU Z) : ∀ (v1 : Int32) (v2 : Int32) (v3 : Int32) (M : Mm), GO X md_MD_read (QE X rvI Z) 67 [some (rf (kG X) 78), some (.int v1), some (.int v2), some (.int v3), none, none] [] Z M (f_MD_read_67 v1 v2 v3 M) := by
  intro v1 v2 v3 M
  unfold f_MD_read_67
  refine g_iload_n e_MD_read_67 rfl ?_
  refine g_if_eq e_MD_read_68 (fun c8 => ?_) (fun c8 => ?_)
  · refine g_bipush (x := (-10 : Int32)) e_MD_read_79 (by decide) ?_
    refine g_aload_n e_MD_read_81 rfl ?_
    refine g_getI e_MD_read_82 fl_MD_262 kq_78 (hz.lt kq_78) fj_10_33 ?_
    refine g_isub e_MD_read_85 ?_
    exact g_iret e_MD_read_86 rfl
  · refine g_aload_n e_MD_read_71 rfl ?_
    refine g_getI e_MD_read_72 fl_MD_262 kq_78 (hz.lt kq_78) fj_10_33 ?_
    refine g_iload_n e_MD_read_75 rfl ?_
    refine g_icmp_ge e_MD_read_76 (fun c9 => ?_) (fun c9 => ?_)
    · refine g_iconst (x := (0 : Int32)) e_MD_read_87 (by decide) ?_
      refine g_istore e_MD_read_88 (by decide) rfl ?_
      refine g_iconst (x := (0 : Int32)) e_MD_read_90 (by decide) ?_
      refine g_istore e_MD_read_91 (by decide) rfl ?_
      exact g_wq (t_MD_read_93 hz fuel v2 (0 : Int32) (0 : Int32) M) ⟨rfl, rfl, rfl, rfl, trivial⟩
    · refine g_bipush (x := (-10 : Int32)) e_MD_read_79 (by decide) ?_
      refine g_aload_n e_MD_read_81 rfl ?_
      refine g_getI e_MD_read_82 fl_MD_262 kq_78 (hz.lt kq_78) fj_10_33 ?_
      refine g_isub e_MD_read_85 ?_
      exact g_iret e_MD_read_86 rfl
set_option maxHeartbeats 4000000 in
set_option maxRecDepth 20000 in
theorem t_MD_read_24 {X : KX} {Z : ZZ} (hz : FU Z) : ∀ (n : Nat) (v1 : Int32) (v2 : Int32) (v3 : Int32) (M : Mm), GO X md_MD_read (QE X rvI Z) 24 [some (rf (kG X) 78), some (.int v1), some (.int v2), some (.int v3), none, none] [] Z M (f_MD_read_24 n v1 v2 v3 M) := by
  intro n
  induction n with
  | zero =>
    intro v1 v2 v3 M
    exact g_none
  | succ n ih =>
    intro v1 v2 v3 M
    rw [f_MD_read_24_s]
    refine g_iload_n e_MD_read_24 rfl ?_
    refine g_if_eq e_MD_read_25 (fun c7 => ?_) (fun c7 => ?_)
    · exact g_wq (t_MD_read_67 hz v1 v2 v3 M) ⟨rfl, rfl, rfl, rfl, trivial⟩
    · refine g_iload_n e_MD_read_28 rfl ?_
      refine g_bipush (x := (10 : Int32)) e_MD_read_29 (by decide) ?_
      refine g_icmp_ge e_MD_read_31 (fun c19 => ?_) (fun c19 => ?_)
      · exact g_wq (t_MD_read_67 hz v1 v2 v3 M) ⟨rfl, rfl, rfl, rfl, trivial⟩
      · refine g_aload_n e_MD_read_34 rfl ?_
        refine g_iload_n e_MD_read_35 rfl ?_
        refine g_callV (rv := rvI) (As := [.int v1]) (st := []) e_MD_read_36 mv_MD_265 my_MD_here (by decide) rfl rfl kq_78 (hz.lt kq_78) rfl (Nat.le_of_ble_eq_true rfl) rfl (fun r M1 h => c_MD_here hz  h) (fun r21 M20 h22 => ?_)
        refine g_bipush (x := (59 : Int32)) e_MD_read_39 (by decide) ?_
        refine g_icmp_ne e_MD_read_41 (fun c23 => ?_) (fun c23 => ?_)
        · exact g_wq (t_MD_read_67 hz v1 v2 v3 M20) ⟨rfl, rfl, rfl, rfl, trivial⟩
        · refine g_aload_n e_MD_read_44 rfl ?_
          refine g_dup e_MD_read_45 rfl ?_
          refine g_getI e_MD_read_46 fl_MD_262 kq_78 (hz.lt kq_78) fj_10_33 ?_
          refine g_iconst (x := (1 : Int32)) e_MD_read_49 (by decide) ?_
          refine g_iadd e_MD_read_50 ?_
          refine g_putL e_MD_read_51 fp_MD_262 kq_78 (hz.lt kq_78) fj_10_33 rfl rfl (fun M24 => ?_)
          refine g_aload_n e_MD_read_54 rfl ?_
          refine g_iload_n e_MD_read_55 rfl ?_
          refine g_iload_n e_MD_read_56 rfl ?_
          refine g_callV (rv := rvI) (As := [.int v2, .int v1]) (st := []) e_MD_read_57 mv_MD_280 my_MD_clause (by decide) rfl rfl kq_78 (hz.lt kq_78) rfl (Nat.le_of_ble_eq_true rfl) rfl (fun r M1 h => c_MD_clause hz  h) (fun r26 M25 h27 => ?_)
          refine g_istore_n e_MD_read_60 (by decide) rfl ?_
          refine g_iincL (c := (1 : Int32)) e_MD_read_61 rfl (by decide) (by decide) rfl (fun x28 => ?_)
          refine g_goto e_MD_read_64 ?_
          exact g_wq (ih v1 x28 r26 M25) ⟨rfl, rfl, rfl, rfl, trivial⟩
set_option maxHeartbeats 4000000 in
set_option maxRecDepth 20000 in
theorem t_MD_read {X : KX} {Z : ZZ} {M : Mm} (hz : FU Z) : GO X md_MD_read (QE X rvI Z) 0 [some (rf (kG X) 78), none, none, none, none, none] [] Z M (f_MD_read M) := by
  unfold f_MD_read
  refine g_aload_n e_MD_read_0 rfl ?_
  refine g_getI e_MD_read_1 fl_MD_259 kq_78 (hz.lt kq_78) fj_10_32 ?_
  refine g_istoreL_n e_MD_read_4 (by decide) rfl (fun x1 => ?_)
  refine g_aload_n e_MD_read_5 rfl ?_
  refine g_iconst (x := (0 : Int32)) e_MD_read_6 (by decide) ?_
  refine g_putL e_MD_read_7 fp_MD_259 kq_78 (hz.lt kq_78) fj_10_32 rfl rfl (fun M2 => ?_)
  refine g_aload_n e_MD_read_10 rfl ?_
  refine g_iconst (x := (0 : Int32)) e_MD_read_11 (by decide) ?_
  refine g_putL e_MD_read_12 fp_MD_262 kq_78 (hz.lt kq_78) fj_10_33 rfl rfl (fun M3 => ?_)
  refine g_iconst (x := (1 : Int32)) e_MD_read_15 (by decide) ?_
  refine g_istore_n e_MD_read_16 (by decide) rfl ?_
  refine g_aload_n e_MD_read_17 rfl ?_
  refine g_iconst (x := (0 : Int32)) e_MD_read_18 (by decide) ?_
  refine g_iload_n e_MD_read_19 rfl ?_
  refine g_callV (rv := rvI) (As := [.int (0 : Int32), .int x1]) (st := []) e_MD_read_20 mv_MD_280 my_MD_clause (by decide) rfl rfl kq_78 (hz.lt kq_78) rfl (Nat.le_of_ble_eq_true rfl) rfl (fun r M1 h => c_MD_clause hz  h) (fun r5 M4 h6 => ?_)
  refine g_istore_n e_MD_read_23 (by decide) rfl ?_
  exact g_wq (t_MD_read_24 hz fuel x1 (1 : Int32) r5 M4) ⟨rfl, rfl, rfl, rfl, trivial⟩
set_option maxHeartbeats 4000000 in
set_option maxRecDepth 20000 in
theorem c_MD_read {l : Launch} {G : KG} {Z : ZZ} {M M' : Mm} {r : Int32} (hz : FU Z) (h : f_MD_read M = some (r, M')) : CT l G y_MD_read md_MD_read 0 0 [rf G 78] Z.2.2.1 Z.2.2.2 M (rvI r) Z.2.2.1 Z.2.2.2 M' :=
  CT.of (Z := (0, 0, Z.2.2.1, Z.2.2.2)) (Z' := (0, 0, Z.2.2.1, Z.2.2.2)) 5 (by decide) rfl ⟨rfl, rfl⟩ (by show 1 ≤ 6; decide) rfl h (fun X _ hG => by subst hG; exact t_MD_read hz)
set_option maxHeartbeats 4000000 in
set_option maxRecDepth 20000 in
theorem t_MD_isTape {X : KX} {Z : ZZ} {v0 : Int32} {M : Mm} (hz : FU Z) : GO X md_MD_isTape (QE X rvI Z) 0 [some (.int v0)] [] Z M (f_MD_isTape v0 M) := by
  unfold f_MD_isTape
  refine g_iload_n e_MD_isTape_0 rfl ?_
  refine g_iconst (x := (0 : Int32)) e_MD_isTape_1 (by decide) ?_
  refine g_iconst (x := (5 : Int32)) e_MD_isTape_2 (by decide) ?_
  refine g_callS (rv := rvI) (As := [.int v0, .int (0 : Int32), .int (5 : Int32)]) (st := []) e_MD_isTape_3 ms_MD_92 my_MD_in (by decide) rfl rfl (Nat.le_of_ble_eq_true rfl) (fun r M1 h => c_MD_in hz  h) (fun r2 M1 h3 => ?_)
  exact g_zretG e_MD_isTape_6 rfl
set_option maxHeartbeats 4000000 in
set_option maxRecDepth 20000 in
theorem c_MD_isTape {l : Launch} {G : KG} {Z : ZZ} {v0 : Int32} {M M' : Mm} {r : Int32} (hz : FU Z) (h : f_MD_isTape v0 M = some (r, M')) : CT l G y_MD_isTape md_MD_isTape 0 0 [.int v0] Z.2.2.1 Z.2.2.2 M (rvI r) Z.2.2.1 Z.2.2.2 M' :=
  CT.of (Z := (0, 0, Z.2.2.1, Z.2.2.2)) (Z' := (0, 0, Z.2.2.1, Z.2.2.2)) 0 (by decide) rfl ⟨rfl, rfl⟩ (by show 1 ≤ 1; decide) rfl h (fun X _ hG => by subst hG; exact t_MD_isTape hz)
set_option maxHeartbeats 4000000 in
set_option maxRecDepth 20000 in
theorem t_MD_judge_47 {X : KX} {Z : ZZ} (hz : FU Z) : ∀ (n : Nat) (v1 : Int32) (v2 : Int32) (v3 : Int32) (v4 : Int32) (M : Mm), GO X md_MD_judge (QE X rvI Z) 47 [some (rf (kG X) 78), some (.int v1), some (.int v2), some (.int v3), some (.int v4), none] [] Z M (f_MD_judge_47 n v1 v2 v3 v4 M) := by
  intro n
  induction n with
  | zero =>
    intro v1 v2 v3 v4 M
    exact g_none
  | succ n ih =>
    intro v1 v2 v3 v4 M
    rw [f_MD_judge_47_s]
    refine g_iload e_MD_judge_47 rfl ?_
    refine g_aload_n e_MD_judge_49 rfl ?_
    refine g_callV (rv := rvI) (As := []) (st := [.int v4]) e_MD_judge_50 mv_MD_100 my_MD_leaves (by decide) rfl rfl kq_78 (hz.lt kq_78) rfl (Nat.le_of_ble_eq_true rfl) rfl (fun r M1 h => c_MD_leaves hz  h) (fun r14 M13 h15 => ?_)
    refine g_icmp_ge e_MD_judge_53 (fun c16 => ?_) (fun c16 => ?_)
    · refine g_bipush (x := (-5 : Int32)) e_MD_judge_155 (by decide) ?_
      exact g_iret e_MD_judge_157 rfl
    · refine g_aload_n e_MD_judge_56 rfl ?_
      refine g_getRZ (kz := 96) e_MD_judge_57 fl_MD_76 hz kq_78 (by decide) fj_10_38 rfl ?_
      refine g_iload_n e_MD_judge_60 rfl ?_
      refine g_ialdG (n := 6) e_MD_judge_61 ⟨kq_96, by decide⟩ (hz.lt kq_96 (by decide)) ?_
      refine g_iconst (x := (-1 : Int32)) e_MD_judge_62 (by decide) ?_
      refine g_icmp_eq e_MD_judge_63 (fun c17 => ?_) (fun c17 => ?_)
      · refine g_bipush (x := (100 : Int32)) e_MD_judge_85 (by decide) ?_
        refine g_iload e_MD_judge_87 rfl ?_
        refine g_iadd e_MD_judge_89 ?_
        exact g_iret e_MD_judge_90 rfl
      · refine g_iload_n e_MD_judge_66 rfl ?_
        refine g_if_lt e_MD_judge_67 (fun c18 => ?_) (fun c18 => ?_)
        · refine g_bipush (x := (100 : Int32)) e_MD_judge_85 (by decide) ?_
          refine g_iload e_MD_judge_87 rfl ?_
          refine g_iadd e_MD_judge_89 ?_
          exact g_iret e_MD_judge_90 rfl
        · refine g_iload_n e_MD_judge_70 rfl ?_
          refine g_aload_n e_MD_judge_71 rfl ?_
          refine g_getRZ (kz := 97) e_MD_judge_72 fl_MD_79 hz kq_78 (by decide) fj_10_39 rfl ?_
          refine g_iload_n e_MD_judge_75 rfl ?_
          refine g_ialdG (n := 6) e_MD_judge_76 ⟨kq_97, by decide⟩ (hz.lt kq_97 (by decide)) ?_
          refine g_iconst (x := (1 : Int32)) e_MD_judge_77 (by decide) ?_
          refine g_isub e_MD_judge_78 ?_
          refine g_iload e_MD_judge_79 rfl ?_
          refine g_isub e_MD_judge_81 ?_
          refine g_icmp_le e_MD_judge_82 (fun c19 => ?_) (fun c19 => ?_)
          · refine g_aload_n e_MD_judge_91 rfl ?_
            refine g_iload_n e_MD_judge_92 rfl ?_
            refine g_iload e_MD_judge_93 rfl ?_
            refine g_aload_n e_MD_judge_95 rfl ?_
            refine g_callV (rv := rvI) (As := []) (st := [.int v4, .int v1, rf (kG X) 78]) e_MD_judge_96 mv_MD_104 my_MD_w (by decide) rfl rfl kq_78 (hz.lt kq_78) rfl (Nat.le_of_ble_eq_true rfl) rfl (fun r M1 h => c_MD_w hz  h) (fun r21 M20 h22 => ?_)
            refine g_idivG e_MD_judge_99 ?_
            refine g_iload e_MD_judge_100 rfl ?_
            refine g_aload_n e_MD_judge_102 rfl ?_
            refine g_callV (rv := rvI) (As := []) (st := [.int v4, .int (v4 / r21), .int v1, rf (kG X) 78]) e_MD_judge_103 mv_MD_104 my_MD_w (by decide) rfl rfl kq_78 (hz.lt kq_78) rfl (Nat.le_of_ble_eq_true rfl) rfl (fun r M1 h => c_MD_w hz  h) (fun r24 M23 h25 => ?_)
            refine g_iremG e_MD_judge_106 ?_
            refine g_callV (rv := rvI) (As := [.int v1, .int (v4 / r21), .int (v4 % r24)]) (st := []) e_MD_judge_107 mv_MD_199 my_MD_pageOf (by decide) rfl rfl kq_78 (hz.lt kq_78) rfl (Nat.le_of_ble_eq_true rfl) rfl (fun r M1 h => c_MD_pageOf hz  h) (fun r27 M26 h28 => ?_)
            refine g_istore e_MD_judge_110 (by decide) rfl ?_
            refine g_aload_n e_MD_judge_112 rfl ?_
            refine g_getRZ (kz := 98) e_MD_judge_113 fl_MD_82 hz kq_78 (by decide) fj_10_40 rfl ?_
            refine g_bipush (x := (60 : Int32)) e_MD_judge_116 (by decide) ?_
            refine g_iload_n e_MD_judge_118 rfl ?_
            refine g_imul e_MD_judge_119 ?_
            refine g_iload_n e_MD_judge_120 rfl ?_
            refine g_iadd e_MD_judge_121 ?_
            refine g_iload e_MD_judge_122 rfl ?_
            refine g_iadd e_MD_judge_124 ?_
            refine g_laldG (n := 360) e_MD_judge_125 kq_98 (hz.lt kq_98 (by decide)) ?_
            refine g_iload e_MD_judge_126 rfl ?_
            refine g_aload_n e_MD_judge_128 rfl ?_
            refine g_getI e_MD_judge_129 fl_MD_15 kq_78 (hz.lt kq_78) fj_10_2 ?_
            refine g_phi1 141 (fun x30 => [some (rf (kG X) 78), some (.int v1), some (.int v2), some (.int v3), some (.int v4), none]) (fun x30 => [.int x30, .long (M26.2 98 (Int32.toNatClampNeg ((((60 : Int32) * v2) + v3) + v4)))]) (fun x30 => ?_) (fun hj33 => ?_)
            · show GO X _ _ 141 [some (rf (kG X) 78), some (.int v1), some (.int v2), some (.int v3), some (.int v4), none] [.int x30, .long (M26.2 98 (Int32.toNatClampNeg ((((60 : Int32) * v2) + v3) + v4)))] Z M26 _
              refine g_i2l e_MD_judge_141 ?_
              refine g_lcmp e_MD_judge_142 ?_
              refine g_if_eq e_MD_judge_143 (fun c31 => ?_) (fun c31 => ?_)
              · refine g_iincL (c := (1 : Int32)) e_MD_judge_149 rfl (by decide) (by decide) rfl (fun x32 => ?_)
                refine g_goto e_MD_judge_152 ?_
                exact g_wq (ih v1 v2 v3 x32 M26) ⟨rfl, rfl, rfl, rfl, rfl, trivial⟩
              · refine g_iload e_MD_judge_146 rfl ?_
                exact g_iret e_MD_judge_148 rfl
            · refine g_icmp_le' e_MD_judge_132 (fun c29 => ?_) (fun c29 => ?_)
              · refine g_iload e_MD_judge_139 rfl ?_
                exact (g_pt c29 (g_lt (g_wq (hj33 r27) ⟨rfl, rfl, rfl, rfl, rfl, trivial⟩)))
              · refine g_iconst (x := (0 : Int32)) e_MD_judge_135 (by decide) ?_
                refine g_goto e_MD_judge_136 ?_
                exact (g_pf c29 (g_lt (g_wq (hj33 (0 : Int32)) ⟨rfl, rfl, rfl, rfl, rfl, trivial⟩)))
          · refine g_bipush (x := (100 : Int32)) e_MD_judge_85 (by decide) ?_
            refine g_iload e_MD_judge_87 rfl ?_
            refine g_iadd e_MD_judge_89 ?_
            exact g_iret e_MD_judge_90 rfl
set_option maxHeartbeats 4000000 in
set_option maxRecDepth 20000 in
theorem t_MD_judge_40 {X : KX} {Z : ZZ} (hz : FU Z) : ∀ (v1 : Int32) (v2 : Int32) (v3 : Int32) (M : Mm), GO X md_MD_judge (QE X rvI Z) 40 [some (rf (kG X) 78), some (.int v1), some (.int v2), some (.int v3), none, none] [] Z M (f_MD_judge_40 v1 v2 v3 M) := by
  intro v1 v2 v3 M
  unfold f_MD_judge_40
  refine g_aload_n e_MD_judge_40 rfl ?_
  refine g_callV (rv := rvU) (As := []) (st := []) e_MD_judge_41 mv_MD_162 my_MD_folds (by decide) rfl rfl kq_78 (hz.lt kq_78) rfl (Nat.le_of_ble_eq_true rfl) rfl (fun r M1 h => c_MD_folds hz  h) (fun r11 M10 h12 => ?_)
  refine g_iconst (x := (0 : Int32)) e_MD_judge_44 (by decide) ?_
  refine g_istore e_MD_judge_45 (by decide) rfl ?_
  exact g_wq (t_MD_judge_47 hz fuel v1 v2 v3 (0 : Int32) M10) ⟨rfl, rfl, rfl, rfl, rfl, trivial⟩
set_option maxHeartbeats 4000000 in
set_option maxRecDepth 20000 in
theorem t_MD_judge {X : KX} {Z : ZZ} {v1 : Int32} {v2 : Int32} {v3 : Int32} {M : Mm} (hz : FU Z) : GO X md_MD_judge (QE X rvI Z) 0 [some (rf (kG X) 78), some (.int v1), some (.int v2), some (.int v3), none, none] [] Z M (f_MD_judge v1 v2 v3 M) := by
  unfold f_MD_judge
  refine g_aload_n e_MD_judge_0 rfl ?_
  refine g_iload_n e_MD_judge_1 rfl ?_
  refine g_callV (rv := rvI) (As := [.int v1]) (st := []) e_MD_judge_2 mv_MD_193 my_MD_isForme (by decide) rfl rfl kq_78 (hz.lt kq_78) rfl (Nat.le_of_ble_eq_true rfl) rfl (fun r M1 h => c_MD_isForme hz  h) (fun r2 M1 h3 => ?_)
  refine g_if_eq e_MD_judge_5 (fun c4 => ?_) (fun c4 => ?_)
  · refine g_iconst (x := (-1 : Int32)) e_MD_judge_15 (by decide) ?_
    exact g_iret e_MD_judge_16 rfl
  · refine g_iload_n e_MD_judge_8 rfl ?_
    refine g_callS (rv := rvI) (As := [.int v2]) (st := []) e_MD_judge_9 ms_MD_286 my_MD_isTape (by decide) rfl rfl (Nat.le_of_ble_eq_true rfl) (fun r M1 h => c_MD_isTape hz  h) (fun r6 M5 h7 => ?_)
    refine g_if_ne e_MD_judge_12 (fun c8 => ?_) (fun c8 => ?_)
    · refine g_aload_n e_MD_judge_17 rfl ?_
      refine g_getRZ (kz := 96) e_MD_judge_18 fl_MD_76 hz kq_78 (by decide) fj_10_38 rfl ?_
      refine g_iload_n e_MD_judge_21 rfl ?_
      refine g_ialdG (n := 6) e_MD_judge_22 ⟨kq_96, by decide⟩ (hz.lt kq_96 (by decide)) ?_
      refine g_iconst (x := (-1 : Int32)) e_MD_judge_23 (by decide) ?_
      refine g_icmp_eq e_MD_judge_24 (fun c9 => ?_) (fun c9 => ?_)
      · exact g_wq (t_MD_judge_40 hz v1 v2 v3 M5) ⟨rfl, rfl, rfl, rfl, trivial⟩
      · refine g_aload_n e_MD_judge_27 rfl ?_
        refine g_getRZ (kz := 96) e_MD_judge_28 fl_MD_76 hz kq_78 (by decide) fj_10_38 rfl ?_
        refine g_iload_n e_MD_judge_31 rfl ?_
        refine g_ialdG (n := 6) e_MD_judge_32 ⟨kq_96, by decide⟩ (hz.lt kq_96 (by decide)) ?_
        refine g_iconst (x := (1 : Int32)) e_MD_judge_33 (by decide) ?_
        refine g_icmp_eq e_MD_judge_34 (fun c34 => ?_) (fun c34 => ?_)
        · exact g_wq (t_MD_judge_40 hz v1 v2 v3 M5) ⟨rfl, rfl, rfl, rfl, trivial⟩
        · refine g_bipush (x := (-12 : Int32)) e_MD_judge_37 (by decide) ?_
          exact g_iret e_MD_judge_39 rfl
    · refine g_iconst (x := (-1 : Int32)) e_MD_judge_15 (by decide) ?_
      exact g_iret e_MD_judge_16 rfl
set_option maxHeartbeats 4000000 in
set_option maxRecDepth 20000 in
theorem c_MD_judge {l : Launch} {G : KG} {Z : ZZ} {v1 : Int32} {v2 : Int32} {v3 : Int32} {M M' : Mm} {r : Int32} (hz : FU Z) (h : f_MD_judge v1 v2 v3 M = some (r, M')) : CT l G y_MD_judge md_MD_judge 0 0 [rf G 78, .int v1, .int v2, .int v3] Z.2.2.1 Z.2.2.2 M (rvI r) Z.2.2.1 Z.2.2.2 M' :=
  CT.of (Z := (0, 0, Z.2.2.1, Z.2.2.2)) (Z' := (0, 0, Z.2.2.1, Z.2.2.2)) 2 (by decide) rfl ⟨rfl, rfl⟩ (by show 4 ≤ 6; decide) rfl h (fun X _ hG => by subst hG; exact t_MD_judge hz)
set_option maxHeartbeats 4000000 in
set_option maxRecDepth 20000 in
theorem t_MD_carries_43 {X : KX} {Z : ZZ} {a1 : Nat} {rec3 : Int32 → Int32 → Int32 → Int32 → Mm → Option (Int32 × Mm)} (hz : FU Z) (ha1 : kD a1 = 100 + aL a1 ∧ aL a1 < 900) (hr3 : ∀ (v2 : Int32) (v3 : Int32) (v4 : Int32) (v5 : Int32) (M : Mm), GO X md_MD_carries (QE X rvI Z) 3 [some (rf (kG X) 78), some (rf (kG X) a1), some (.int v2), some (.int v3), some (.int v4), some (.int v5)] [] Z M (rec3 v2 v3 v4 v5 M)) : ∀ (v2 : Int32) (v3 : Int32) (v4 : Int32) (v5 : Int32) (M : Mm), GO X md_MD_carries (QE X rvI Z) 43 [some (rf (kG X) 78), some (rf (kG X) a1), some (.int v2), some (.int v3), some (.int v4), some (.int v5)] [] Z M (f_MD_carries_43 a1 rec3 v2 v3 v4 v5 M) := by
  intro v2 v3 v4 v5 M
  unfold f_MD_carries_43
  refine g_iincL (c := (1 : Int32)) e_MD_carries_43 rfl (by decide) (by decide) rfl (fun x4 => ?_)
  refine g_goto e_MD_carries_46 ?_
  exact g_wq (hr3 v2 v3 v4 x4 M) ⟨rfl, rfl, rfl, rfl, rfl, rfl, trivial⟩
set_option maxHeartbeats 4000000 in
set_option maxRecDepth 20000 in
theorem t_MD_carries_3 {X : KX} {Z : ZZ} {a1 : Nat} (hz : FU Z) (ha1 : kD a1 = 100 + aL a1 ∧ aL a1 < 900) : ∀ (n : Nat) (v2 : Int32) (v3 : Int32) (v4 : Int32) (v5 : Int32) (M : Mm), GO X md_MD_carries (QE X rvI Z) 3 [some (rf (kG X) 78), some (rf (kG X) a1), some (.int v2), some (.int v3), some (.int v4), some (.int v5)] [] Z M (f_MD_carries_3 a1 n v2 v3 v4 v5 M) := by
  intro n
  induction n with
  | zero =>
    intro v2 v3 v4 v5 M
    exact g_none
  | succ n ih =>
    intro v2 v3 v4 v5 M
    rw [f_MD_carries_3_s]
    refine g_iload e_MD_carries_3 rfl ?_
    refine g_iload_n e_MD_carries_5 rfl ?_
    refine g_icmp_ge e_MD_carries_6 (fun c1 => ?_) (fun c1 => ?_)
    · refine g_iload_n e_MD_carries_49 rfl ?_
      refine g_iload_n e_MD_carries_50 rfl ?_
      refine g_iadd e_MD_carries_51 ?_
      exact g_iret e_MD_carries_52 rfl
    · refine g_iload e_MD_carries_9 rfl ?_
      refine g_if_eq e_MD_carries_11 (fun c2 => ?_) (fun c2 => ?_)
      · refine g_aload_n e_MD_carries_30 rfl ?_
        refine g_getRZ (kz := 94) e_MD_carries_31 fl_MD_70 hz kq_78 (by decide) fj_10_35 rfl ?_
        refine g_iload_n e_MD_carries_34 rfl ?_
        refine g_iload e_MD_carries_35 rfl ?_
        refine g_iadd e_MD_carries_37 ?_
        refine g_aload_n e_MD_carries_38 rfl ?_
        refine g_iload e_MD_carries_39 rfl ?_
        refine g_ialdG (n := (aL a1)) e_MD_carries_41 ha1 (hz.lt (ha1).1 (by omega)) ?_
        refine g_iastG (n := 400) e_MD_carries_42 ⟨kq_94, by decide⟩ (hz.lt kq_94 (by decide)) (fun M3 => ?_)
        exact g_wq (t_MD_carries_43 hz ha1 (ih) v2 v3 v4 v5 M3) ⟨rfl, rfl, rfl, rfl, rfl, rfl, trivial⟩
      · refine g_aload_n e_MD_carries_14 rfl ?_
        refine g_iload e_MD_carries_15 rfl ?_
        refine g_aload_n e_MD_carries_17 rfl ?_
        refine g_getRZ (kz := 94) e_MD_carries_18 fl_MD_70 hz kq_78 (by decide) fj_10_35 rfl ?_
        refine g_iload_n e_MD_carries_21 rfl ?_
        refine g_iload e_MD_carries_22 rfl ?_
        refine g_iadd e_MD_carries_24 ?_
        refine g_ialdG (n := 400) e_MD_carries_25 ⟨kq_94, by decide⟩ (hz.lt kq_94 (by decide)) ?_
        refine g_iastG (n := (aL a1)) e_MD_carries_26 ha1 (hz.lt (ha1).1 (by omega)) (fun M5 => ?_)
        refine g_goto e_MD_carries_27 ?_
        exact g_wq (t_MD_carries_43 hz ha1 (ih) v2 v3 v4 v5 M5) ⟨rfl, rfl, rfl, rfl, rfl, rfl, trivial⟩
set_option maxHeartbeats 4000000 in
set_option maxRecDepth 20000 in
theorem t_MD_carries {X : KX} {Z : ZZ} {a1 : Nat} {v2 : Int32} {v3 : Int32} {v4 : Int32} {M : Mm} (hz : FU Z) (ha1 : kD a1 = 100 + aL a1 ∧ aL a1 < 900) : GO X md_MD_carries (QE X rvI Z) 0 [some (rf (kG X) 78), some (rf (kG X) a1), some (.int v2), some (.int v3), some (.int v4), none] [] Z M (f_MD_carries a1 v2 v3 v4 M) := by
  unfold f_MD_carries
  refine g_iconst (x := (0 : Int32)) e_MD_carries_0 (by decide) ?_
  refine g_istore e_MD_carries_1 (by decide) rfl ?_
  exact g_wq (t_MD_carries_3 hz ha1 fuel v2 v3 v4 (0 : Int32) M) ⟨rfl, rfl, rfl, rfl, rfl, rfl, trivial⟩
set_option maxHeartbeats 4000000 in
set_option maxRecDepth 20000 in
theorem c_MD_carries {l : Launch} {G : KG} {Z : ZZ} {a1 : Nat} {v2 : Int32} {v3 : Int32} {v4 : Int32} {M M' : Mm} {r : Int32} (hz : FU Z) (ha1 : kD a1 = 100 + aL a1 ∧ aL a1 < 900) (h : f_MD_carries a1 v2 v3 v4 M = some (r, M')) : CT l G y_MD_carries md_MD_carries 0 0 [rf G 78, rf G a1, .int v2, .int v3, .int v4] Z.2.2.1 Z.2.2.2 M (rvI r) Z.2.2.1 Z.2.2.2 M' :=
  CT.of (Z := (0, 0, Z.2.2.1, Z.2.2.2)) (Z' := (0, 0, Z.2.2.1, Z.2.2.2)) 1 (by decide) rfl ⟨rfl, rfl⟩ (by show 5 ≤ 6; decide) rfl h (fun X _ hG => by subst hG; exact t_MD_carries hz ha1)
set_option maxHeartbeats 4000000 in
set_option maxRecDepth 20000 in
theorem t_MD_carriesAll {X : KX} {Z : ZZ} {v1 : Int32} {M : Mm} (hz : FU Z) : GO X md_MD_carriesAll (QE X rvU Z) 0 [some (rf (kG X) 78), some (.int v1), none] [] Z M (f_MD_carriesAll v1 M) := by
  unfold f_MD_carriesAll
  refine g_aload_n e_MD_carriesAll_0 rfl ?_
  refine g_aload_n e_MD_carriesAll_1 rfl ?_
  refine g_getRZ (kz := 85) e_MD_carriesAll_2 fl_MD_43 hz kq_78 (by decide) fj_10_15 rfl ?_
  refine g_bipush (x := (40 : Int32)) e_MD_carriesAll_5 (by decide) ?_
  refine g_iconst (x := (0 : Int32)) e_MD_carriesAll_7 (by decide) ?_
  refine g_iload_n e_MD_carriesAll_8 rfl ?_
  refine g_callV (rv := rvI) (As := [rf (kG X) 85, .int (40 : Int32), .int (0 : Int32), .int v1]) (st := []) e_MD_carriesAll_9 mv_MD_289 my_MD_carries (by decide) rfl rfl kq_78 (hz.lt kq_78) rfl (Nat.le_of_ble_eq_true rfl) rfl (fun r M1 h => c_MD_carries hz ⟨kq_85, by decide⟩ h) (fun r2 M1 h3 => ?_)
  refine g_istore_n e_MD_carriesAll_12 (by decide) rfl ?_
  refine g_aload_n e_MD_carriesAll_13 rfl ?_
  refine g_aload_n e_MD_carriesAll_14 rfl ?_
  refine g_getRZ (kz := 86) e_MD_carriesAll_15 fl_MD_46 hz kq_78 (by decide) fj_10_17 rfl ?_
  refine g_bipush (x := (64 : Int32)) e_MD_carriesAll_18 (by decide) ?_
  refine g_iload_n e_MD_carriesAll_20 rfl ?_
  refine g_iload_n e_MD_carriesAll_21 rfl ?_
  refine g_callV (rv := rvI) (As := [rf (kG X) 86, .int (64 : Int32), .int r2, .int v1]) (st := []) e_MD_carriesAll_22 mv_MD_289 my_MD_carries (by decide) rfl rfl kq_78 (hz.lt kq_78) rfl (Nat.le_of_ble_eq_true rfl) rfl (fun r M1 h => c_MD_carries hz ⟨kq_86, by decide⟩ h) (fun r5 M4 h6 => ?_)
  refine g_istore_n e_MD_carriesAll_25 (by decide) rfl ?_
  refine g_aload_n e_MD_carriesAll_26 rfl ?_
  refine g_aload_n e_MD_carriesAll_27 rfl ?_
  refine g_getRZ (kz := 87) e_MD_carriesAll_28 fl_MD_49 hz kq_78 (by decide) fj_10_19 rfl ?_
  refine g_bipush (x := (60 : Int32)) e_MD_carriesAll_31 (by decide) ?_
  refine g_iload_n e_MD_carriesAll_33 rfl ?_
  refine g_iload_n e_MD_carriesAll_34 rfl ?_
  refine g_callV (rv := rvI) (As := [rf (kG X) 87, .int (60 : Int32), .int r5, .int v1]) (st := []) e_MD_carriesAll_35 mv_MD_289 my_MD_carries (by decide) rfl rfl kq_78 (hz.lt kq_78) rfl (Nat.le_of_ble_eq_true rfl) rfl (fun r M1 h => c_MD_carries hz ⟨kq_87, by decide⟩ h) (fun r8 M7 h9 => ?_)
  refine g_istore_n e_MD_carriesAll_38 (by decide) rfl ?_
  refine g_aload_n e_MD_carriesAll_39 rfl ?_
  refine g_aload_n e_MD_carriesAll_40 rfl ?_
  refine g_getRZ (kz := 88) e_MD_carriesAll_41 fl_MD_52 hz kq_78 (by decide) fj_10_20 rfl ?_
  refine g_bipush (x := (60 : Int32)) e_MD_carriesAll_44 (by decide) ?_
  refine g_iload_n e_MD_carriesAll_46 rfl ?_
  refine g_iload_n e_MD_carriesAll_47 rfl ?_
  refine g_callV (rv := rvI) (As := [rf (kG X) 88, .int (60 : Int32), .int r8, .int v1]) (st := []) e_MD_carriesAll_48 mv_MD_289 my_MD_carries (by decide) rfl rfl kq_78 (hz.lt kq_78) rfl (Nat.le_of_ble_eq_true rfl) rfl (fun r M1 h => c_MD_carries hz ⟨kq_88, by decide⟩ h) (fun r11 M10 h12 => ?_)
  refine g_istore_n e_MD_carriesAll_51 (by decide) rfl ?_
  refine g_aload_n e_MD_carriesAll_52 rfl ?_
  refine g_aload_n e_MD_carriesAll_53 rfl ?_
  refine g_getRZ (kz := 89) e_MD_carriesAll_54 fl_MD_55 hz kq_78 (by decide) fj_10_21 rfl ?_
  refine g_bipush (x := (60 : Int32)) e_MD_carriesAll_57 (by decide) ?_
  refine g_iload_n e_MD_carriesAll_59 rfl ?_
  refine g_iload_n e_MD_carriesAll_60 rfl ?_
  refine g_callV (rv := rvI) (As := [rf (kG X) 89, .int (60 : Int32), .int r11, .int v1]) (st := []) e_MD_carriesAll_61 mv_MD_289 my_MD_carries (by decide) rfl rfl kq_78 (hz.lt kq_78) rfl (Nat.le_of_ble_eq_true rfl) rfl (fun r M1 h => c_MD_carries hz ⟨kq_89, by decide⟩ h) (fun r14 M13 h15 => ?_)
  refine g_istore_n e_MD_carriesAll_64 (by decide) rfl ?_
  refine g_aload_n e_MD_carriesAll_65 rfl ?_
  refine g_aload_n e_MD_carriesAll_66 rfl ?_
  refine g_getRZ (kz := 90) e_MD_carriesAll_67 fl_MD_58 hz kq_78 (by decide) fj_10_27 rfl ?_
  refine g_bipush (x := (20 : Int32)) e_MD_carriesAll_70 (by decide) ?_
  refine g_iload_n e_MD_carriesAll_72 rfl ?_
  refine g_iload_n e_MD_carriesAll_73 rfl ?_
  refine g_callV (rv := rvI) (As := [rf (kG X) 90, .int (20 : Int32), .int r14, .int v1]) (st := []) e_MD_carriesAll_74 mv_MD_289 my_MD_carries (by decide) rfl rfl kq_78 (hz.lt kq_78) rfl (Nat.le_of_ble_eq_true rfl) rfl (fun r M1 h => c_MD_carries hz ⟨kq_90, by decide⟩ h) (fun r17 M16 h18 => ?_)
  refine g_istore_n e_MD_carriesAll_77 (by decide) rfl ?_
  refine g_aload_n e_MD_carriesAll_78 rfl ?_
  refine g_aload_n e_MD_carriesAll_79 rfl ?_
  refine g_getRZ (kz := 91) e_MD_carriesAll_80 fl_MD_61 hz kq_78 (by decide) fj_10_29 rfl ?_
  refine g_bipush (x := (16 : Int32)) e_MD_carriesAll_83 (by decide) ?_
  refine g_iload_n e_MD_carriesAll_85 rfl ?_
  refine g_iload_n e_MD_carriesAll_86 rfl ?_
  refine g_callV (rv := rvI) (As := [rf (kG X) 91, .int (16 : Int32), .int r17, .int v1]) (st := []) e_MD_carriesAll_87 mv_MD_289 my_MD_carries (by decide) rfl rfl kq_78 (hz.lt kq_78) rfl (Nat.le_of_ble_eq_true rfl) rfl (fun r M1 h => c_MD_carries hz ⟨kq_91, by decide⟩ h) (fun r20 M19 h21 => ?_)
  refine g_istore_n e_MD_carriesAll_90 (by decide) rfl ?_
  refine g_aload_n e_MD_carriesAll_91 rfl ?_
  refine g_aload_n e_MD_carriesAll_92 rfl ?_
  refine g_getRZ (kz := 95) e_MD_carriesAll_93 fl_MD_73 hz kq_78 (by decide) fj_10_37 rfl ?_
  refine g_bipush (x := (11 : Int32)) e_MD_carriesAll_96 (by decide) ?_
  refine g_iload_n e_MD_carriesAll_98 rfl ?_
  refine g_iload_n e_MD_carriesAll_99 rfl ?_
  refine g_callV (rv := rvI) (As := [rf (kG X) 95, .int (11 : Int32), .int r20, .int v1]) (st := []) e_MD_carriesAll_100 mv_MD_289 my_MD_carries (by decide) rfl rfl kq_78 (hz.lt kq_78) rfl (Nat.le_of_ble_eq_true rfl) rfl (fun r M1 h => c_MD_carries hz ⟨kq_95, by decide⟩ h) (fun r23 M22 h24 => ?_)
  refine g_pop e_MD_carriesAll_103 rfl ?_
  exact g_vret e_MD_carriesAll_104 rfl
set_option maxHeartbeats 4000000 in
set_option maxRecDepth 20000 in
theorem c_MD_carriesAll {l : Launch} {G : KG} {Z : ZZ} {v1 : Int32} {M M' : Mm} {r : Unit} (hz : FU Z) (h : f_MD_carriesAll v1 M = some (r, M')) : CT l G y_MD_carriesAll md_MD_carriesAll 0 0 [rf G 78, .int v1] Z.2.2.1 Z.2.2.2 M (rvU r) Z.2.2.1 Z.2.2.2 M' :=
  CT.of (Z := (0, 0, Z.2.2.1, Z.2.2.2)) (Z' := (0, 0, Z.2.2.1, Z.2.2.2)) 1 (by decide) rfl ⟨rfl, rfl⟩ (by show 2 ≤ 3; decide) rfl h (fun X _ hG => by subst hG; exact t_MD_carriesAll hz)
set_option maxHeartbeats 4000000 in
set_option maxRecDepth 20000 in
theorem t_MD_image {X : KX} {Z : ZZ} {M : Mm} (hz : FU Z) : GO X md_MD_image (QE X rvI Z) 0 [some (rf (kG X) 78)] [] Z M (f_MD_image M) := by
  unfold f_MD_image
  refine g_aload_n e_MD_image_0 rfl ?_
  refine g_iconst (x := (1 : Int32)) e_MD_image_1 (by decide) ?_
  refine g_putL e_MD_image_2 fp_MD_293 kq_78 (hz.lt kq_78) fj_10_36 rfl rfl (fun M1 => ?_)
  refine g_aload_n e_MD_image_5 rfl ?_
  refine g_getRZ (kz := 95) e_MD_image_6 fl_MD_73 hz kq_78 (by decide) fj_10_37 rfl ?_
  refine g_iconst (x := (0 : Int32)) e_MD_image_9 (by decide) ?_
  refine g_aload_n e_MD_image_10 rfl ?_
  refine g_getI e_MD_image_11 fl_MD_9 kq_78 (hz.lt kq_78) fj_10_1 ?_
  refine g_iastG (n := 11) e_MD_image_14 ⟨kq_95, by decide⟩ (hz.lt kq_95 (by decide)) (fun M2 => ?_)
  refine g_aload_n e_MD_image_15 rfl ?_
  refine g_getRZ (kz := 95) e_MD_image_16 fl_MD_73 hz kq_78 (by decide) fj_10_37 rfl ?_
  refine g_iconst (x := (1 : Int32)) e_MD_image_19 (by decide) ?_
  refine g_aload_n e_MD_image_20 rfl ?_
  refine g_getI e_MD_image_21 fl_MD_15 kq_78 (hz.lt kq_78) fj_10_2 ?_
  refine g_iastG (n := 11) e_MD_image_24 ⟨kq_95, by decide⟩ (hz.lt kq_95 (by decide)) (fun M3 => ?_)
  refine g_aload_n e_MD_image_25 rfl ?_
  refine g_getRZ (kz := 95) e_MD_image_26 fl_MD_73 hz kq_78 (by decide) fj_10_37 rfl ?_
  refine g_iconst (x := (2 : Int32)) e_MD_image_29 (by decide) ?_
  refine g_aload_n e_MD_image_30 rfl ?_
  refine g_getI e_MD_image_31 fl_MD_145 kq_78 (hz.lt kq_78) fj_10_3 ?_
  refine g_iastG (n := 11) e_MD_image_34 ⟨kq_95, by decide⟩ (hz.lt kq_95 (by decide)) (fun M4 => ?_)
  refine g_aload_n e_MD_image_35 rfl ?_
  refine g_getRZ (kz := 95) e_MD_image_36 fl_MD_73 hz kq_78 (by decide) fj_10_37 rfl ?_
  refine g_iconst (x := (3 : Int32)) e_MD_image_39 (by decide) ?_
  refine g_aload_n e_MD_image_40 rfl ?_
  refine g_getI e_MD_image_41 fl_MD_148 kq_78 (hz.lt kq_78) fj_10_4 ?_
  refine g_iastG (n := 11) e_MD_image_44 ⟨kq_95, by decide⟩ (hz.lt kq_95 (by decide)) (fun M5 => ?_)
  refine g_aload_n e_MD_image_45 rfl ?_
  refine g_getRZ (kz := 95) e_MD_image_46 fl_MD_73 hz kq_78 (by decide) fj_10_37 rfl ?_
  refine g_iconst (x := (4 : Int32)) e_MD_image_49 (by decide) ?_
  refine g_aload_n e_MD_image_50 rfl ?_
  refine g_getI e_MD_image_51 fl_MD_18 kq_78 (hz.lt kq_78) fj_10_5 ?_
  refine g_iastG (n := 11) e_MD_image_54 ⟨kq_95, by decide⟩ (hz.lt kq_95 (by decide)) (fun M6 => ?_)
  refine g_aload_n e_MD_image_55 rfl ?_
  refine g_getRZ (kz := 95) e_MD_image_56 fl_MD_73 hz kq_78 (by decide) fj_10_37 rfl ?_
  refine g_iconst (x := (5 : Int32)) e_MD_image_59 (by decide) ?_
  refine g_aload_n e_MD_image_60 rfl ?_
  refine g_getI e_MD_image_61 fl_MD_21 kq_78 (hz.lt kq_78) fj_10_6 ?_
  refine g_iastG (n := 11) e_MD_image_64 ⟨kq_95, by decide⟩ (hz.lt kq_95 (by decide)) (fun M7 => ?_)
  refine g_aload_n e_MD_image_65 rfl ?_
  refine g_getRZ (kz := 95) e_MD_image_66 fl_MD_73 hz kq_78 (by decide) fj_10_37 rfl ?_
  refine g_bipush (x := (6 : Int32)) e_MD_image_69 (by decide) ?_
  refine g_aload_n e_MD_image_71 rfl ?_
  refine g_getI e_MD_image_72 fl_MD_127 kq_78 (hz.lt kq_78) fj_10_16 ?_
  refine g_iastG (n := 11) e_MD_image_75 ⟨kq_95, by decide⟩ (hz.lt kq_95 (by decide)) (fun M8 => ?_)
  refine g_aload_n e_MD_image_76 rfl ?_
  refine g_getRZ (kz := 95) e_MD_image_77 fl_MD_73 hz kq_78 (by decide) fj_10_37 rfl ?_
  refine g_bipush (x := (7 : Int32)) e_MD_image_80 (by decide) ?_
  refine g_aload_n e_MD_image_82 rfl ?_
  refine g_getI e_MD_image_83 fl_MD_130 kq_78 (hz.lt kq_78) fj_10_18 ?_
  refine g_iastG (n := 11) e_MD_image_86 ⟨kq_95, by decide⟩ (hz.lt kq_95 (by decide)) (fun M9 => ?_)
  refine g_aload_n e_MD_image_87 rfl ?_
  refine g_getRZ (kz := 95) e_MD_image_88 fl_MD_73 hz kq_78 (by decide) fj_10_37 rfl ?_
  refine g_bipush (x := (8 : Int32)) e_MD_image_91 (by decide) ?_
  refine g_aload_n e_MD_image_93 rfl ?_
  refine g_getI e_MD_image_94 fl_MD_133 kq_78 (hz.lt kq_78) fj_10_22 ?_
  refine g_iastG (n := 11) e_MD_image_97 ⟨kq_95, by decide⟩ (hz.lt kq_95 (by decide)) (fun M10 => ?_)
  refine g_aload_n e_MD_image_98 rfl ?_
  refine g_getRZ (kz := 95) e_MD_image_99 fl_MD_73 hz kq_78 (by decide) fj_10_37 rfl ?_
  refine g_bipush (x := (9 : Int32)) e_MD_image_102 (by decide) ?_
  refine g_aload_n e_MD_image_104 rfl ?_
  refine g_getI e_MD_image_105 fl_MD_250 kq_78 (hz.lt kq_78) fj_10_28 ?_
  refine g_iastG (n := 11) e_MD_image_108 ⟨kq_95, by decide⟩ (hz.lt kq_95 (by decide)) (fun M11 => ?_)
  refine g_aload_n e_MD_image_109 rfl ?_
  refine g_getRZ (kz := 95) e_MD_image_110 fl_MD_73 hz kq_78 (by decide) fj_10_37 rfl ?_
  refine g_bipush (x := (10 : Int32)) e_MD_image_113 (by decide) ?_
  refine g_aload_n e_MD_image_115 rfl ?_
  refine g_getI e_MD_image_116 fl_MD_256 kq_78 (hz.lt kq_78) fj_10_30 ?_
  refine g_iastG (n := 11) e_MD_image_119 ⟨kq_95, by decide⟩ (hz.lt kq_95 (by decide)) (fun M12 => ?_)
  refine g_aload_n e_MD_image_120 rfl ?_
  refine g_iconst (x := (0 : Int32)) e_MD_image_121 (by decide) ?_
  refine g_callV (rv := rvU) (As := [.int (0 : Int32)]) (st := []) e_MD_image_122 mv_MD_297 my_MD_carriesAll (by decide) rfl rfl kq_78 (hz.lt kq_78) rfl (Nat.le_of_ble_eq_true rfl) rfl (fun r M1 h => c_MD_carriesAll hz  h) (fun r14 M13 h15 => ?_)
  refine g_aload_n e_MD_image_125 rfl ?_
  refine g_callV (rv := rvI) (As := []) (st := []) e_MD_image_126 mv_MD_121 my_MD_sheets (by decide) rfl rfl kq_78 (hz.lt kq_78) rfl (Nat.le_of_ble_eq_true rfl) rfl (fun r M1 h => c_MD_sheets hz  h) (fun r17 M16 h18 => ?_)
  exact g_iret e_MD_image_129 rfl
set_option maxHeartbeats 4000000 in
set_option maxRecDepth 20000 in
theorem c_MD_image {l : Launch} {G : KG} {Z : ZZ} {M M' : Mm} {r : Int32} (hz : FU Z) (h : f_MD_image M = some (r, M')) : CT l G y_MD_image md_MD_image 0 0 [rf G 78] Z.2.2.1 Z.2.2.2 M (rvI r) Z.2.2.1 Z.2.2.2 M' :=
  CT.of (Z := (0, 0, Z.2.2.1, Z.2.2.2)) (Z' := (0, 0, Z.2.2.1, Z.2.2.2)) 0 (by decide) rfl ⟨rfl, rfl⟩ (by show 1 ≤ 1; decide) rfl h (fun X _ hG => by subst hG; exact t_MD_image hz)
set_option maxHeartbeats 4000000 in
set_option maxRecDepth 20000 in
theorem t_MD_undo {X : KX} {Z : ZZ} {M : Mm} (hz : FU Z) : GO X md_MD_undo (QE X rvI Z) 0 [some (rf (kG X) 78)] [] Z M (f_MD_undo M) := by
  unfold f_MD_undo
  refine g_aload_n e_MD_undo_0 rfl ?_
  refine g_getI e_MD_undo_1 fl_MD_293 kq_78 (hz.lt kq_78) fj_10_36 ?_
  refine g_if_ne e_MD_undo_4 (fun c1 => ?_) (fun c1 => ?_)
  · refine g_aload_n e_MD_undo_10 rfl ?_
    refine g_iconst (x := (1 : Int32)) e_MD_undo_11 (by decide) ?_
    refine g_callV (rv := rvU) (As := [.int (1 : Int32)]) (st := []) e_MD_undo_12 mv_MD_297 my_MD_carriesAll (by decide) rfl rfl kq_78 (hz.lt kq_78) rfl (Nat.le_of_ble_eq_true rfl) rfl (fun r M1 h => c_MD_carriesAll hz  h) (fun r3 M2 h4 => ?_)
    refine g_aload_n e_MD_undo_15 rfl ?_
    refine g_aload_n e_MD_undo_16 rfl ?_
    refine g_getRZ (kz := 95) e_MD_undo_17 fl_MD_73 hz kq_78 (by decide) fj_10_37 rfl ?_
    refine g_iconst (x := (0 : Int32)) e_MD_undo_20 (by decide) ?_
    refine g_ialdG (n := 11) e_MD_undo_21 ⟨kq_95, by decide⟩ (hz.lt kq_95 (by decide)) ?_
    refine g_putL e_MD_undo_22 fp_MD_9 kq_78 (hz.lt kq_78) fj_10_1 rfl rfl (fun M5 => ?_)
    refine g_aload_n e_MD_undo_25 rfl ?_
    refine g_aload_n e_MD_undo_26 rfl ?_
    refine g_getRZ (kz := 95) e_MD_undo_27 fl_MD_73 hz kq_78 (by decide) fj_10_37 rfl ?_
    refine g_iconst (x := (1 : Int32)) e_MD_undo_30 (by decide) ?_
    refine g_ialdG (n := 11) e_MD_undo_31 ⟨kq_95, by decide⟩ (hz.lt kq_95 (by decide)) ?_
    refine g_putL e_MD_undo_32 fp_MD_15 kq_78 (hz.lt kq_78) fj_10_2 rfl rfl (fun M6 => ?_)
    refine g_aload_n e_MD_undo_35 rfl ?_
    refine g_aload_n e_MD_undo_36 rfl ?_
    refine g_getRZ (kz := 95) e_MD_undo_37 fl_MD_73 hz kq_78 (by decide) fj_10_37 rfl ?_
    refine g_iconst (x := (2 : Int32)) e_MD_undo_40 (by decide) ?_
    refine g_ialdG (n := 11) e_MD_undo_41 ⟨kq_95, by decide⟩ (hz.lt kq_95 (by decide)) ?_
    refine g_putL e_MD_undo_42 fp_MD_145 kq_78 (hz.lt kq_78) fj_10_3 rfl rfl (fun M7 => ?_)
    refine g_aload_n e_MD_undo_45 rfl ?_
    refine g_aload_n e_MD_undo_46 rfl ?_
    refine g_getRZ (kz := 95) e_MD_undo_47 fl_MD_73 hz kq_78 (by decide) fj_10_37 rfl ?_
    refine g_iconst (x := (3 : Int32)) e_MD_undo_50 (by decide) ?_
    refine g_ialdG (n := 11) e_MD_undo_51 ⟨kq_95, by decide⟩ (hz.lt kq_95 (by decide)) ?_
    refine g_putL e_MD_undo_52 fp_MD_148 kq_78 (hz.lt kq_78) fj_10_4 rfl rfl (fun M8 => ?_)
    refine g_aload_n e_MD_undo_55 rfl ?_
    refine g_aload_n e_MD_undo_56 rfl ?_
    refine g_getRZ (kz := 95) e_MD_undo_57 fl_MD_73 hz kq_78 (by decide) fj_10_37 rfl ?_
    refine g_iconst (x := (4 : Int32)) e_MD_undo_60 (by decide) ?_
    refine g_ialdG (n := 11) e_MD_undo_61 ⟨kq_95, by decide⟩ (hz.lt kq_95 (by decide)) ?_
    refine g_putL e_MD_undo_62 fp_MD_18 kq_78 (hz.lt kq_78) fj_10_5 rfl rfl (fun M9 => ?_)
    refine g_aload_n e_MD_undo_65 rfl ?_
    refine g_aload_n e_MD_undo_66 rfl ?_
    refine g_getRZ (kz := 95) e_MD_undo_67 fl_MD_73 hz kq_78 (by decide) fj_10_37 rfl ?_
    refine g_iconst (x := (5 : Int32)) e_MD_undo_70 (by decide) ?_
    refine g_ialdG (n := 11) e_MD_undo_71 ⟨kq_95, by decide⟩ (hz.lt kq_95 (by decide)) ?_
    refine g_putL e_MD_undo_72 fp_MD_21 kq_78 (hz.lt kq_78) fj_10_6 rfl rfl (fun M10 => ?_)
    refine g_aload_n e_MD_undo_75 rfl ?_
    refine g_aload_n e_MD_undo_76 rfl ?_
    refine g_getRZ (kz := 95) e_MD_undo_77 fl_MD_73 hz kq_78 (by decide) fj_10_37 rfl ?_
    refine g_bipush (x := (6 : Int32)) e_MD_undo_80 (by decide) ?_
    refine g_ialdG (n := 11) e_MD_undo_82 ⟨kq_95, by decide⟩ (hz.lt kq_95 (by decide)) ?_
    refine g_putL e_MD_undo_83 fp_MD_127 kq_78 (hz.lt kq_78) fj_10_16 rfl rfl (fun M11 => ?_)
    refine g_aload_n e_MD_undo_86 rfl ?_
    refine g_aload_n e_MD_undo_87 rfl ?_
    refine g_getRZ (kz := 95) e_MD_undo_88 fl_MD_73 hz kq_78 (by decide) fj_10_37 rfl ?_
    refine g_bipush (x := (7 : Int32)) e_MD_undo_91 (by decide) ?_
    refine g_ialdG (n := 11) e_MD_undo_93 ⟨kq_95, by decide⟩ (hz.lt kq_95 (by decide)) ?_
    refine g_putL e_MD_undo_94 fp_MD_130 kq_78 (hz.lt kq_78) fj_10_18 rfl rfl (fun M12 => ?_)
    refine g_aload_n e_MD_undo_97 rfl ?_
    refine g_aload_n e_MD_undo_98 rfl ?_
    refine g_getRZ (kz := 95) e_MD_undo_99 fl_MD_73 hz kq_78 (by decide) fj_10_37 rfl ?_
    refine g_bipush (x := (8 : Int32)) e_MD_undo_102 (by decide) ?_
    refine g_ialdG (n := 11) e_MD_undo_104 ⟨kq_95, by decide⟩ (hz.lt kq_95 (by decide)) ?_
    refine g_putL e_MD_undo_105 fp_MD_133 kq_78 (hz.lt kq_78) fj_10_22 rfl rfl (fun M13 => ?_)
    refine g_aload_n e_MD_undo_108 rfl ?_
    refine g_aload_n e_MD_undo_109 rfl ?_
    refine g_getRZ (kz := 95) e_MD_undo_110 fl_MD_73 hz kq_78 (by decide) fj_10_37 rfl ?_
    refine g_bipush (x := (9 : Int32)) e_MD_undo_113 (by decide) ?_
    refine g_ialdG (n := 11) e_MD_undo_115 ⟨kq_95, by decide⟩ (hz.lt kq_95 (by decide)) ?_
    refine g_putL e_MD_undo_116 fp_MD_250 kq_78 (hz.lt kq_78) fj_10_28 rfl rfl (fun M14 => ?_)
    refine g_aload_n e_MD_undo_119 rfl ?_
    refine g_aload_n e_MD_undo_120 rfl ?_
    refine g_getRZ (kz := 95) e_MD_undo_121 fl_MD_73 hz kq_78 (by decide) fj_10_37 rfl ?_
    refine g_bipush (x := (10 : Int32)) e_MD_undo_124 (by decide) ?_
    refine g_ialdG (n := 11) e_MD_undo_126 ⟨kq_95, by decide⟩ (hz.lt kq_95 (by decide)) ?_
    refine g_putL e_MD_undo_127 fp_MD_256 kq_78 (hz.lt kq_78) fj_10_30 rfl rfl (fun M15 => ?_)
    refine g_aload_n e_MD_undo_130 rfl ?_
    refine g_callV (rv := rvI) (As := []) (st := []) e_MD_undo_131 mv_MD_121 my_MD_sheets (by decide) rfl rfl kq_78 (hz.lt kq_78) rfl (Nat.le_of_ble_eq_true rfl) rfl (fun r M1 h => c_MD_sheets hz  h) (fun r17 M16 h18 => ?_)
    exact g_iret e_MD_undo_134 rfl
  · refine g_bipush (x := (-3 : Int32)) e_MD_undo_7 (by decide) ?_
    exact g_iret e_MD_undo_9 rfl
set_option maxHeartbeats 4000000 in
set_option maxRecDepth 20000 in
theorem c_MD_undo {l : Launch} {G : KG} {Z : ZZ} {M M' : Mm} {r : Int32} (hz : FU Z) (h : f_MD_undo M = some (r, M')) : CT l G y_MD_undo md_MD_undo 0 0 [rf G 78] Z.2.2.1 Z.2.2.2 M (rvI r) Z.2.2.1 Z.2.2.2 M' :=
  CT.of (Z := (0, 0, Z.2.2.1, Z.2.2.2)) (Z' := (0, 0, Z.2.2.1, Z.2.2.2)) 0 (by decide) rfl ⟨rfl, rfl⟩ (by show 1 ≤ 1; decide) rfl h (fun X _ hG => by subst hG; exact t_MD_undo hz)
set_option maxHeartbeats 4000000 in
set_option maxRecDepth 20000 in
theorem t_MD_count {X : KX} {Z : ZZ} {v1 : Int32} {M : Mm} (hz : FU Z) : GO X md_MD_count (QE X rvI Z) 0 [some (rf (kG X) 78), some (.int v1)] [] Z M (f_MD_count v1 M) := by
  unfold f_MD_count
  refine g_iload_n e_MD_count_0 rfl ?_
  refine g_ite (fun c1 => ?_) (fun c1 => ?_)
  · refine g_tswI e_MD_count_1.1 (0 : Int32) c1 (off := 39) (tgt := 40) (by decide) ?_
    refine g_aload_n e_MD_count_40 rfl ?_
    refine g_getI e_MD_count_41 fl_MD_250 kq_78 (hz.lt kq_78) fj_10_28 ?_
    exact g_iret e_MD_count_44 rfl
  refine g_ite (fun c2 => ?_) (fun c2 => ?_)
  · refine g_tswI e_MD_count_1.1 (1 : Int32) c2 (off := 44) (tgt := 45) (by decide) ?_
    refine g_aload_n e_MD_count_45 rfl ?_
    refine g_getI e_MD_count_46 fl_MD_256 kq_78 (hz.lt kq_78) fj_10_30 ?_
    exact g_iret e_MD_count_49 rfl
  refine g_ite (fun c3 => ?_) (fun c3 => ?_)
  · refine g_tswI e_MD_count_1.1 (2 : Int32) c3 (off := 49) (tgt := 50) (by decide) ?_
    refine g_aload_n e_MD_count_50 rfl ?_
    refine g_getI e_MD_count_51 fl_MD_259 kq_78 (hz.lt kq_78) fj_10_32 ?_
    exact g_iret e_MD_count_54 rfl
  refine g_ite (fun c4 => ?_) (fun c4 => ?_)
  · refine g_tswI e_MD_count_1.1 (3 : Int32) c4 (off := 54) (tgt := 55) (by decide) ?_
    refine g_aload_n e_MD_count_55 rfl ?_
    refine g_getI e_MD_count_56 fl_MD_127 kq_78 (hz.lt kq_78) fj_10_16 ?_
    exact g_iret e_MD_count_59 rfl
  refine g_ite (fun c5 => ?_) (fun c5 => ?_)
  · refine g_tswI e_MD_count_1.1 (4 : Int32) c5 (off := 59) (tgt := 60) (by decide) ?_
    refine g_aload_n e_MD_count_60 rfl ?_
    refine g_getI e_MD_count_61 fl_MD_130 kq_78 (hz.lt kq_78) fj_10_18 ?_
    exact g_iret e_MD_count_64 rfl
  refine g_ite (fun c6 => ?_) (fun c6 => ?_)
  · refine g_tswI e_MD_count_1.1 (5 : Int32) c6 (off := 64) (tgt := 65) (by decide) ?_
    refine g_aload_n e_MD_count_65 rfl ?_
    refine g_getI e_MD_count_66 fl_MD_133 kq_78 (hz.lt kq_78) fj_10_22 ?_
    exact g_iret e_MD_count_69 rfl
  refine g_hav (pq := 70) (lsq := [some (rf (kG X) 78), some (.int v1)]) (stq := []) ?_ (fun hq => ?_)
  · refine g_bipush (x := (-2 : Int32)) e_MD_count_70 (by decide) ?_
    exact g_iret e_MD_count_72 rfl
  · refine g_tswO e_MD_count_1.1 (tgt := 70) (by decide) (sw_out (fun q h1 h2 => ?_)) hq
    rcases (show q = 0 ∨ q = 1 ∨ q = 2 ∨ q = 3 ∨ q = 4 ∨ q = 5 by omega) with rfl | rfl | rfl | rfl | rfl | rfl
    · exact c1
    · exact c2
    · exact c3
    · exact c4
    · exact c5
    · exact c6
set_option maxHeartbeats 4000000 in
set_option maxRecDepth 20000 in
theorem c_MD_count {l : Launch} {G : KG} {Z : ZZ} {v1 : Int32} {M M' : Mm} {r : Int32} (hz : FU Z) (h : f_MD_count v1 M = some (r, M')) : CT l G y_MD_count md_MD_count 0 0 [rf G 78, .int v1] Z.2.2.1 Z.2.2.2 M (rvI r) Z.2.2.1 Z.2.2.2 M' :=
  CT.of (Z := (0, 0, Z.2.2.1, Z.2.2.2)) (Z' := (0, 0, Z.2.2.1, Z.2.2.2)) 0 (by decide) rfl ⟨rfl, rfl⟩ (by show 2 ≤ 2; decide) rfl h (fun X _ hG => by subst hG; exact t_MD_count hz)
set_option maxHeartbeats 4000000 in
set_option maxRecDepth 20000 in
theorem t_MD_tape_70 {X : KX} {Z : ZZ} (hz : FU Z) : ∀ (n : Nat) (v1 : Int32) (v4 : Int32) (M : Mm), GO X md_MD_tape (QE X rvI Z) 70 [some (rf (kG X) 78), some (.int v1), none, none, some (.int v4)] [] Z M (f_MD_tape_70 n v1 v4 M) := by
  intro n
  induction n with
  | zero =>
    intro v1 v4 M
    exact g_none
  | succ n ih =>
    intro v1 v4 M
    rw [f_MD_tape_70_s]
    refine g_iload e_MD_tape_70 rfl ?_
    refine g_bipush (x := (60 : Int32)) e_MD_tape_72 (by decide) ?_
    refine g_icmp_ge e_MD_tape_74 (fun c15 => ?_) (fun c15 => ?_)
    · refine g_iconst (x := (1 : Int32)) e_MD_tape_96 (by decide) ?_
      exact g_iret e_MD_tape_97 rfl
    · refine g_aload_n e_MD_tape_77 rfl ?_
      refine g_getRZ (kz := 98) e_MD_tape_78 fl_MD_82 hz kq_78 (by decide) fj_10_40 rfl ?_
      refine g_bipush (x := (60 : Int32)) e_MD_tape_81 (by decide) ?_
      refine g_iload_n e_MD_tape_83 rfl ?_
      refine g_imul e_MD_tape_84 ?_
      refine g_iload e_MD_tape_85 rfl ?_
      refine g_iadd e_MD_tape_87 ?_
      refine g_lconst (u := (0 : Int64)) e_MD_tape_88 (by decide) ?_
      refine g_lastG (n := 360) e_MD_tape_89 kq_98 (hz.lt kq_98 (by decide)) (fun M16 => ?_)
      refine g_iincL (c := (1 : Int32)) e_MD_tape_90 rfl (by decide) (by decide) rfl (fun x17 => ?_)
      refine g_goto e_MD_tape_93 ?_
      exact g_wq (ih v1 x17 M16) ⟨rfl, rfl, rfl, trivial⟩
set_option maxHeartbeats 4000000 in
set_option maxRecDepth 20000 in
theorem t_MD_tape_44 {X : KX} {Z : ZZ} (hz : FU Z) : ∀ (v1 : Int32) (v2 : Int32) (v3 : Int32) (M : Mm), GO X md_MD_tape (QE X rvI Z) 44 [some (rf (kG X) 78), some (.int v1), some (.int v2), some (.int v3), none] [] Z M (f_MD_tape_44 v1 v2 v3 M) := by
  intro v1 v2 v3 M
  unfold f_MD_tape_44
  refine g_aload_n e_MD_tape_44 rfl ?_
  refine g_getRZ (kz := 96) e_MD_tape_45 fl_MD_76 hz kq_78 (by decide) fj_10_38 rfl ?_
  refine g_iload_n e_MD_tape_48 rfl ?_
  refine g_iload_n e_MD_tape_49 rfl ?_
  refine g_iastG (n := 6) e_MD_tape_50 ⟨kq_96, by decide⟩ (hz.lt kq_96 (by decide)) (fun M11 => ?_)
  refine g_aload_n e_MD_tape_51 rfl ?_
  refine g_getRZ (kz := 97) e_MD_tape_52 fl_MD_79 hz kq_78 (by decide) fj_10_39 rfl ?_
  refine g_iload_n e_MD_tape_55 rfl ?_
  refine g_iload_n e_MD_tape_56 rfl ?_
  refine g_iconst (x := (-1 : Int32)) e_MD_tape_57 (by decide) ?_
  refine g_phi1 66 (fun x13 => [some (rf (kG X) 78), some (.int v1), none, none, none]) (fun x13 => [.int x13, .int v1, rf (kG X) 97]) (fun x13 => ?_) (fun hj18 => ?_)
  · show GO X _ _ 66 [some (rf (kG X) 78), some (.int v1), none, none, none] [.int x13, .int v1, rf (kG X) 97] Z M11 _
    refine g_iastG (n := 6) e_MD_tape_66 ⟨kq_97, by decide⟩ (hz.lt kq_97 (by decide)) (fun M14 => ?_)
    refine g_iconst (x := (0 : Int32)) e_MD_tape_67 (by decide) ?_
    refine g_istore e_MD_tape_68 (by decide) rfl ?_
    exact g_wq (t_MD_tape_70 hz fuel v1 (0 : Int32) M14) ⟨rfl, rfl, rfl, trivial⟩
  · refine g_icmp_ne' e_MD_tape_58 (fun c12 => ?_) (fun c12 => ?_)
    · refine g_iload_n e_MD_tape_65 rfl ?_
      exact (g_pf c12 (g_lt (g_wq (hj18 v3) ⟨rfl, rfl, trivial⟩)))
    · refine g_iconst (x := (0 : Int32)) e_MD_tape_61 (by decide) ?_
      refine g_goto e_MD_tape_62 ?_
      exact (g_pt c12 (g_lt (g_wq (hj18 (0 : Int32)) ⟨rfl, rfl, trivial⟩)))
set_option maxHeartbeats 4000000 in
set_option maxRecDepth 20000 in
theorem t_MD_tape_32 {X : KX} {Z : ZZ} (hz : FU Z) : ∀ (v1 : Int32) (v2 : Int32) (v3 : Int32) (M : Mm), GO X md_MD_tape (QE X rvI Z) 32 [some (rf (kG X) 78), some (.int v1), some (.int v2), some (.int v3), none] [] Z M (f_MD_tape_32 v1 v2 v3 M) := by
  intro v1 v2 v3 M
  unfold f_MD_tape_32
  refine g_iload_n e_MD_tape_32 rfl ?_
  refine g_iconst (x := (-1 : Int32)) e_MD_tape_33 (by decide) ?_
  refine g_icmp_eq e_MD_tape_34 (fun c10 => ?_) (fun c10 => ?_)
  · exact g_wq (t_MD_tape_44 hz v1 v2 v3 M) ⟨rfl, rfl, rfl, rfl, trivial⟩
  · refine g_iload_n e_MD_tape_37 rfl ?_
    refine g_if_ge e_MD_tape_38 (fun c19 => ?_) (fun c19 => ?_)
    · exact g_wq (t_MD_tape_44 hz v1 v2 v3 M) ⟨rfl, rfl, rfl, rfl, trivial⟩
    · refine g_bipush (x := (-14 : Int32)) e_MD_tape_41 (by decide) ?_
      exact g_iret e_MD_tape_43 rfl
set_option maxHeartbeats 4000000 in
set_option maxRecDepth 20000 in
theorem t_MD_tape {X : KX} {Z : ZZ} {v1 : Int32} {v2 : Int32} {v3 : Int32} {M : Mm} (hz : FU Z) : GO X md_MD_tape (QE X rvI Z) 0 [some (rf (kG X) 78), some (.int v1), some (.int v2), some (.int v3), none] [] Z M (f_MD_tape v1 v2 v3 M) := by
  unfold f_MD_tape
  refine g_iload_n e_MD_tape_0 rfl ?_
  refine g_callS (rv := rvI) (As := [.int v1]) (st := []) e_MD_tape_1 ms_MD_286 my_MD_isTape (by decide) rfl rfl (Nat.le_of_ble_eq_true rfl) (fun r M1 h => c_MD_isTape hz  h) (fun r2 M1 h3 => ?_)
  refine g_if_ne e_MD_tape_4 (fun c4 => ?_) (fun c4 => ?_)
  · refine g_iload_n e_MD_tape_9 rfl ?_
    refine g_iconst (x := (-1 : Int32)) e_MD_tape_10 (by decide) ?_
    refine g_iconst (x := (4 : Int32)) e_MD_tape_11 (by decide) ?_
    refine g_callS (rv := rvI) (As := [.int v2, .int (-1 : Int32), .int (4 : Int32)]) (st := []) e_MD_tape_12 ms_MD_92 my_MD_in (by decide) rfl rfl (Nat.le_of_ble_eq_true rfl) (fun r M1 h => c_MD_in hz  h) (fun r6 M5 h7 => ?_)
    refine g_if_eq e_MD_tape_15 (fun c8 => ?_) (fun c8 => ?_)
    · refine g_bipush (x := (-2 : Int32)) e_MD_tape_29 (by decide) ?_
      exact g_iret e_MD_tape_31 rfl
    · refine g_iload_n e_MD_tape_18 rfl ?_
      refine g_iconst (x := (-1 : Int32)) e_MD_tape_19 (by decide) ?_
      refine g_icmp_eq e_MD_tape_20 (fun c9 => ?_) (fun c9 => ?_)
      · exact g_wq (t_MD_tape_32 hz v1 v2 v3 M5) ⟨rfl, rfl, rfl, rfl, trivial⟩
      · refine g_iload_n e_MD_tape_23 rfl ?_
        refine g_bipush (x := (60 : Int32)) e_MD_tape_24 (by decide) ?_
        refine g_icmp_le e_MD_tape_26 (fun c20 => ?_) (fun c20 => ?_)
        · exact g_wq (t_MD_tape_32 hz v1 v2 v3 M5) ⟨rfl, rfl, rfl, rfl, trivial⟩
        · refine g_bipush (x := (-2 : Int32)) e_MD_tape_29 (by decide) ?_
          exact g_iret e_MD_tape_31 rfl
  · refine g_iconst (x := (-1 : Int32)) e_MD_tape_7 (by decide) ?_
    exact g_iret e_MD_tape_8 rfl
set_option maxHeartbeats 4000000 in
set_option maxRecDepth 20000 in
theorem c_MD_tape {l : Launch} {G : KG} {Z : ZZ} {v1 : Int32} {v2 : Int32} {v3 : Int32} {M M' : Mm} {r : Int32} (hz : FU Z) (h : f_MD_tape v1 v2 v3 M = some (r, M')) : CT l G y_MD_tape md_MD_tape 0 0 [rf G 78, .int v1, .int v2, .int v3] Z.2.2.1 Z.2.2.2 M (rvI r) Z.2.2.1 Z.2.2.2 M' :=
  CT.of (Z := (0, 0, Z.2.2.1, Z.2.2.2)) (Z' := (0, 0, Z.2.2.1, Z.2.2.2)) 1 (by decide) rfl ⟨rfl, rfl⟩ (by show 4 ≤ 5; decide) rfl h (fun X _ hG => by subst hG; exact t_MD_tape hz)
set_option maxHeartbeats 4000000 in
set_option maxRecDepth 20000 in
theorem t_MD_heldBy {X : KX} {Z : ZZ} {v0 : Int32} {v1 : Int64} {M : Mm} (hz : FU Z) : GO X md_MD_heldBy (QE X rvJ Z) 0 [some (.int v0), some (.long v1), none] [] Z M (f_MD_heldBy v0 v1 M) := by
  unfold f_MD_heldBy
  refine g_iload_n e_MD_heldBy_0 rfl ?_
  refine g_ite (fun c1 => ?_) (fun c1 => ?_)
  · refine g_tswI e_MD_heldBy_1.1 (0 : Int32) c1 (off := 31) (tgt := 32) (by decide) ?_
    refine g_lload_n e_MD_heldBy_32 rfl ?_
    refine g_l2i e_MD_heldBy_33 ?_
    refine g_i2b e_MD_heldBy_34 ?_
    refine g_i2l e_MD_heldBy_35 ?_
    exact g_lret e_MD_heldBy_36 rfl
  refine g_ite (fun c2 => ?_) (fun c2 => ?_)
  · refine g_tswI e_MD_heldBy_1.1 (1 : Int32) c2 (off := 36) (tgt := 37) (by decide) ?_
    refine g_lload_n e_MD_heldBy_37 rfl ?_
    refine g_l2i e_MD_heldBy_38 ?_
    refine g_i2s e_MD_heldBy_39 ?_
    refine g_i2l e_MD_heldBy_40 ?_
    exact g_lret e_MD_heldBy_41 rfl
  refine g_ite (fun c3 => ?_) (fun c3 => ?_)
  · refine g_tswI e_MD_heldBy_1.1 (2 : Int32) c3 (off := 41) (tgt := 42) (by decide) ?_
    refine g_lload_n e_MD_heldBy_42 rfl ?_
    refine g_l2i e_MD_heldBy_43 ?_
    refine g_i2l e_MD_heldBy_44 ?_
    exact g_lret e_MD_heldBy_45 rfl
  refine g_ite (fun c4 => ?_) (fun c4 => ?_)
  · refine g_tswI e_MD_heldBy_1.1 (3 : Int32) c4 (off := 45) (tgt := 46) (by decide) ?_
    refine g_lload_n e_MD_heldBy_46 rfl ?_
    exact g_lret e_MD_heldBy_47 rfl
  refine g_hav (pq := 48) (lsq := [some (.int v0), some (.long v1), none]) (stq := []) ?_ (fun hq => ?_)
  · refine g_lload_n e_MD_heldBy_48 rfl ?_
    refine g_lconst (u := (0 : Int64)) e_MD_heldBy_49 (by decide) ?_
    refine g_lcmp e_MD_heldBy_50 ?_
    refine g_if_eq e_MD_heldBy_51 (fun c5 => ?_) (fun c5 => ?_)
    · refine g_lconst (u := (0 : Int64)) e_MD_heldBy_58 (by decide) ?_
      exact g_lret e_MD_heldBy_59 rfl
    · refine g_lconst (u := (1 : Int64)) e_MD_heldBy_54 (by decide) ?_
      refine g_goto e_MD_heldBy_55 ?_
      exact g_lret e_MD_heldBy_59 rfl
  · refine g_tswO e_MD_heldBy_1.1 (tgt := 48) (by decide) (sw_out (fun q h1 h2 => ?_)) hq
    rcases (show q = 0 ∨ q = 1 ∨ q = 2 ∨ q = 3 by omega) with rfl | rfl | rfl | rfl
    · exact c1
    · exact c2
    · exact c3
    · exact c4
set_option maxHeartbeats 4000000 in
set_option maxRecDepth 20000 in
theorem c_MD_heldBy {l : Launch} {G : KG} {Z : ZZ} {v0 : Int32} {v1 : Int64} {M M' : Mm} {r : Int64} (hz : FU Z) (h : f_MD_heldBy v0 v1 M = some (r, M')) : CT l G y_MD_heldBy md_MD_heldBy 0 0 [.int v0, .long v1] Z.2.2.1 Z.2.2.2 M (rvJ r) Z.2.2.1 Z.2.2.2 M' :=
  CT.of (Z := (0, 0, Z.2.2.1, Z.2.2.2)) (Z' := (0, 0, Z.2.2.1, Z.2.2.2)) 0 (by decide) rfl ⟨rfl, rfl⟩ (by show 3 ≤ 3; decide) rfl h (fun X _ hG => by subst hG; exact t_MD_heldBy hz)
set_option maxHeartbeats 4000000 in
set_option maxRecDepth 20000 in
theorem t_MD_item {X : KX} {Z : ZZ} {v1 : Int32} {v2 : Int32} {v3 : Int64} {M : Mm} (hz : FU Z) : GO X md_MD_item (QE X rvI Z) 0 [some (rf (kG X) 78), some (.int v1), some (.int v2), some (.long v3), none] [] Z M (f_MD_item v1 v2 v3 M) := by
  unfold f_MD_item
  refine g_iload_n e_MD_item_0 rfl ?_
  refine g_callS (rv := rvI) (As := [.int v1]) (st := []) e_MD_item_1 ms_MD_286 my_MD_isTape (by decide) rfl rfl (Nat.le_of_ble_eq_true rfl) (fun r M1 h => c_MD_isTape hz  h) (fun r2 M1 h3 => ?_)
  refine g_if_ne e_MD_item_4 (fun c4 => ?_) (fun c4 => ?_)
  · refine g_aload_n e_MD_item_9 rfl ?_
    refine g_getRZ (kz := 96) e_MD_item_10 fl_MD_76 hz kq_78 (by decide) fj_10_38 rfl ?_
    refine g_iload_n e_MD_item_13 rfl ?_
    refine g_ialdG (n := 6) e_MD_item_14 ⟨kq_96, by decide⟩ (hz.lt kq_96 (by decide)) ?_
    refine g_iconst (x := (-1 : Int32)) e_MD_item_15 (by decide) ?_
    refine g_icmp_ne e_MD_item_16 (fun c5 => ?_) (fun c5 => ?_)
    · refine g_iload_n e_MD_item_22 rfl ?_
      refine g_iconst (x := (0 : Int32)) e_MD_item_23 (by decide) ?_
      refine g_aload_n e_MD_item_24 rfl ?_
      refine g_getRZ (kz := 97) e_MD_item_25 fl_MD_79 hz kq_78 (by decide) fj_10_39 rfl ?_
      refine g_iload_n e_MD_item_28 rfl ?_
      refine g_ialdG (n := 6) e_MD_item_29 ⟨kq_97, by decide⟩ (hz.lt kq_97 (by decide)) ?_
      refine g_iconst (x := (1 : Int32)) e_MD_item_30 (by decide) ?_
      refine g_isub e_MD_item_31 ?_
      refine g_callS (rv := rvI) (As := [.int v2, .int (0 : Int32), .int ((M1.1 97 (Int32.toNatClampNeg v1)) - (1 : Int32))]) (st := []) e_MD_item_32 ms_MD_92 my_MD_in (by decide) rfl rfl (Nat.le_of_ble_eq_true rfl) (fun r M1 h => c_MD_in hz  h) (fun r7 M6 h8 => ?_)
      refine g_if_ne e_MD_item_35 (fun c9 => ?_) (fun c9 => ?_)
      · refine g_aload_n e_MD_item_41 rfl ?_
        refine g_getRZ (kz := 98) e_MD_item_42 fl_MD_82 hz kq_78 (by decide) fj_10_40 rfl ?_
        refine g_bipush (x := (60 : Int32)) e_MD_item_45 (by decide) ?_
        refine g_iload_n e_MD_item_47 rfl ?_
        refine g_imul e_MD_item_48 ?_
        refine g_iload_n e_MD_item_49 rfl ?_
        refine g_iadd e_MD_item_50 ?_
        refine g_aload_n e_MD_item_51 rfl ?_
        refine g_getRZ (kz := 96) e_MD_item_52 fl_MD_76 hz kq_78 (by decide) fj_10_38 rfl ?_
        refine g_iload_n e_MD_item_55 rfl ?_
        refine g_ialdG (n := 6) e_MD_item_56 ⟨kq_96, by decide⟩ (hz.lt kq_96 (by decide)) ?_
        refine g_lload_n e_MD_item_57 rfl ?_
        refine g_callS (rv := rvJ) (As := [.int (M6.1 96 (Int32.toNatClampNeg v1)), .long v3]) (st := [.int (((60 : Int32) * v1) + v2), rf (kG X) 98]) e_MD_item_58 ms_MD_301 my_MD_heldBy (by decide) rfl rfl (Nat.le_of_ble_eq_true rfl) (fun r M1 h => c_MD_heldBy hz  h) (fun r11 M10 h12 => ?_)
        refine g_lastG (n := 360) e_MD_item_61 kq_98 (hz.lt kq_98 (by decide)) (fun M13 => ?_)
        refine g_iconst (x := (1 : Int32)) e_MD_item_62 (by decide) ?_
        exact g_iret e_MD_item_63 rfl
      · refine g_bipush (x := (-13 : Int32)) e_MD_item_38 (by decide) ?_
        exact g_iret e_MD_item_40 rfl
    · refine g_bipush (x := (-11 : Int32)) e_MD_item_19 (by decide) ?_
      exact g_iret e_MD_item_21 rfl
  · refine g_iconst (x := (-1 : Int32)) e_MD_item_7 (by decide) ?_
    exact g_iret e_MD_item_8 rfl
set_option maxHeartbeats 4000000 in
set_option maxRecDepth 20000 in
theorem c_MD_item {l : Launch} {G : KG} {Z : ZZ} {v1 : Int32} {v2 : Int32} {v3 : Int64} {M M' : Mm} {r : Int32} (hz : FU Z) (h : f_MD_item v1 v2 v3 M = some (r, M')) : CT l G y_MD_item md_MD_item 0 0 [rf G 78, .int v1, .int v2, .long v3] Z.2.2.1 Z.2.2.2 M (rvI r) Z.2.2.1 Z.2.2.2 M' :=
  CT.of (Z := (0, 0, Z.2.2.1, Z.2.2.2)) (Z' := (0, 0, Z.2.2.1, Z.2.2.2)) 0 (by decide) rfl ⟨rfl, rfl⟩ (by show 5 ≤ 5; decide) rfl h (fun X _ hG => by subst hG; exact t_MD_item hz)
set_option maxHeartbeats 4000000 in
set_option maxRecDepth 20000 in
theorem t_MD_peek {X : KX} {Z : ZZ} {v1 : Int32} {v2 : Int32} {M : Mm} (hz : FU Z) : GO X md_MD_peek (QE X rvJ Z) 0 [some (rf (kG X) 78), some (.int v1), some (.int v2)] [] Z M (f_MD_peek v1 v2 M) := by
  unfold f_MD_peek
  refine g_iload_n e_MD_peek_0 rfl ?_
  refine g_callS (rv := rvI) (As := [.int v1]) (st := []) e_MD_peek_1 ms_MD_286 my_MD_isTape (by decide) rfl rfl (Nat.le_of_ble_eq_true rfl) (fun r M1 h => c_MD_isTape hz  h) (fun r2 M1 h3 => ?_)
  refine g_if_eq e_MD_peek_4 (fun c4 => ?_) (fun c4 => ?_)
  · refine g_ldc2 (u := (-9223372036854775808 : Int64)) e_MD_peek_47 w_1095 ?_
    exact g_lret e_MD_peek_50 rfl
  · refine g_aload_n e_MD_peek_7 rfl ?_
    refine g_getRZ (kz := 96) e_MD_peek_8 fl_MD_76 hz kq_78 (by decide) fj_10_38 rfl ?_
    refine g_iload_n e_MD_peek_11 rfl ?_
    refine g_ialdG (n := 6) e_MD_peek_12 ⟨kq_96, by decide⟩ (hz.lt kq_96 (by decide)) ?_
    refine g_iconst (x := (-1 : Int32)) e_MD_peek_13 (by decide) ?_
    refine g_icmp_eq e_MD_peek_14 (fun c5 => ?_) (fun c5 => ?_)
    · refine g_ldc2 (u := (-9223372036854775808 : Int64)) e_MD_peek_47 w_1095 ?_
      exact g_lret e_MD_peek_50 rfl
    · refine g_iload_n e_MD_peek_17 rfl ?_
      refine g_iconst (x := (0 : Int32)) e_MD_peek_18 (by decide) ?_
      refine g_aload_n e_MD_peek_19 rfl ?_
      refine g_getRZ (kz := 97) e_MD_peek_20 fl_MD_79 hz kq_78 (by decide) fj_10_39 rfl ?_
      refine g_iload_n e_MD_peek_23 rfl ?_
      refine g_ialdG (n := 6) e_MD_peek_24 ⟨kq_97, by decide⟩ (hz.lt kq_97 (by decide)) ?_
      refine g_iconst (x := (1 : Int32)) e_MD_peek_25 (by decide) ?_
      refine g_isub e_MD_peek_26 ?_
      refine g_callS (rv := rvI) (As := [.int v2, .int (0 : Int32), .int ((M1.1 97 (Int32.toNatClampNeg v1)) - (1 : Int32))]) (st := []) e_MD_peek_27 ms_MD_92 my_MD_in (by decide) rfl rfl (Nat.le_of_ble_eq_true rfl) (fun r M1 h => c_MD_in hz  h) (fun r7 M6 h8 => ?_)
      refine g_if_eq e_MD_peek_30 (fun c9 => ?_) (fun c9 => ?_)
      · refine g_ldc2 (u := (-9223372036854775808 : Int64)) e_MD_peek_47 w_1095 ?_
        exact g_lret e_MD_peek_50 rfl
      · refine g_aload_n e_MD_peek_33 rfl ?_
        refine g_getRZ (kz := 98) e_MD_peek_34 fl_MD_82 hz kq_78 (by decide) fj_10_40 rfl ?_
        refine g_bipush (x := (60 : Int32)) e_MD_peek_37 (by decide) ?_
        refine g_iload_n e_MD_peek_39 rfl ?_
        refine g_imul e_MD_peek_40 ?_
        refine g_iload_n e_MD_peek_41 rfl ?_
        refine g_iadd e_MD_peek_42 ?_
        refine g_laldG (n := 360) e_MD_peek_43 kq_98 (hz.lt kq_98 (by decide)) ?_
        refine g_goto e_MD_peek_44 ?_
        exact g_lret e_MD_peek_50 rfl
set_option maxHeartbeats 4000000 in
set_option maxRecDepth 20000 in
theorem c_MD_peek {l : Launch} {G : KG} {Z : ZZ} {v1 : Int32} {v2 : Int32} {M M' : Mm} {r : Int64} (hz : FU Z) (h : f_MD_peek v1 v2 M = some (r, M')) : CT l G y_MD_peek md_MD_peek 0 0 [rf G 78, .int v1, .int v2] Z.2.2.1 Z.2.2.2 M (rvJ r) Z.2.2.1 Z.2.2.2 M' :=
  CT.of (Z := (0, 0, Z.2.2.1, Z.2.2.2)) (Z' := (0, 0, Z.2.2.1, Z.2.2.2)) 0 (by decide) rfl ⟨rfl, rfl⟩ (by show 3 ≤ 3; decide) rfl h (fun X _ hG => by subst hG; exact t_MD_peek hz)
set_option maxHeartbeats 4000000 in
set_option maxRecDepth 20000 in
theorem t_MD_shift_162 {X : KX} {Z : ZZ} (hz : FU Z) : ∀ (n : Nat) (v3 : Int32) (v4 : Int32) (v5 : Int32) (v6 : Int32) (M : Mm), GO X md_MD_shift (QE X rvI Z) 162 [some (rf (kG X) 78), none, none, some (.int v3), some (.int v4), some (.int v5), some (.int v6)] [] Z M (f_MD_shift_162 n v3 v4 v5 v6 M) := by
  intro n
  induction n with
  | zero =>
    intro v3 v4 v5 v6 M
    exact g_none
  | succ n ih =>
    intro v3 v4 v5 v6 M
    rw [f_MD_shift_162_s]
    refine g_iload e_MD_shift_162 rfl ?_
    refine g_iload e_MD_shift_164 rfl ?_
    refine g_icmp_ge e_MD_shift_166 (fun c20 => ?_) (fun c20 => ?_)
    · refine g_iload e_MD_shift_197 rfl ?_
      exact g_iret e_MD_shift_199 rfl
    · refine g_aload_n e_MD_shift_169 rfl ?_
      refine g_getRZ (kz := 98) e_MD_shift_170 fl_MD_82 hz kq_78 (by decide) fj_10_40 rfl ?_
      refine g_bipush (x := (60 : Int32)) e_MD_shift_173 (by decide) ?_
      refine g_iload_n e_MD_shift_175 rfl ?_
      refine g_imul e_MD_shift_176 ?_
      refine g_iload e_MD_shift_177 rfl ?_
      refine g_iadd e_MD_shift_179 ?_
      refine g_iload e_MD_shift_180 rfl ?_
      refine g_iadd e_MD_shift_182 ?_
      refine g_aload_n e_MD_shift_183 rfl ?_
      refine g_getRZ (kz := 99) e_MD_shift_184 fl_MD_86 hz kq_78 (by decide) fj_10_41 rfl ?_
      refine g_iload e_MD_shift_187 rfl ?_
      refine g_laldG (n := 60) e_MD_shift_189 kq_99 (hz.lt kq_99 (by decide)) ?_
      refine g_lastG (n := 360) e_MD_shift_190 kq_98 (hz.lt kq_98 (by decide)) (fun M21 => ?_)
      refine g_iincL (c := (1 : Int32)) e_MD_shift_191 rfl (by decide) (by decide) rfl (fun x22 => ?_)
      refine g_goto e_MD_shift_194 ?_
      exact g_wq (ih v3 v4 v5 x22 M21) ⟨rfl, rfl, rfl, rfl, rfl, trivial⟩
set_option maxHeartbeats 4000000 in
set_option maxRecDepth 20000 in
theorem t_MD_shift_125 {X : KX} {Z : ZZ} (hz : FU Z) : ∀ (n : Nat) (v1 : Int32) (v2 : Int32) (v3 : Int32) (v4 : Int32) (v5 : Int32) (v6 : Int32) (M : Mm), GO X md_MD_shift (QE X rvI Z) 125 [some (rf (kG X) 78), some (.int v1), some (.int v2), some (.int v3), some (.int v4), some (.int v5), some (.int v6)] [] Z M (f_MD_shift_125 n v1 v2 v3 v4 v5 v6 M) := by
  intro n
  induction n with
  | zero =>
    intro v1 v2 v3 v4 v5 v6 M
    exact g_none
  | succ n ih =>
    intro v1 v2 v3 v4 v5 v6 M
    rw [f_MD_shift_125_s]
    refine g_iload e_MD_shift_125 rfl ?_
    refine g_iload e_MD_shift_127 rfl ?_
    refine g_icmp_ge e_MD_shift_129 (fun c19 => ?_) (fun c19 => ?_)
    · refine g_iconst (x := (0 : Int32)) e_MD_shift_159 (by decide) ?_
      refine g_istore e_MD_shift_160 (by decide) rfl ?_
      exact g_wq (t_MD_shift_162 hz fuel v3 v4 v5 (0 : Int32) M) ⟨rfl, rfl, rfl, rfl, rfl, trivial⟩
    · refine g_aload_n e_MD_shift_132 rfl ?_
      refine g_getRZ (kz := 99) e_MD_shift_133 fl_MD_86 hz kq_78 (by decide) fj_10_41 rfl ?_
      refine g_iload e_MD_shift_136 rfl ?_
      refine g_aload_n e_MD_shift_138 rfl ?_
      refine g_getRZ (kz := 98) e_MD_shift_139 fl_MD_82 hz kq_78 (by decide) fj_10_40 rfl ?_
      refine g_bipush (x := (60 : Int32)) e_MD_shift_142 (by decide) ?_
      refine g_iload_n e_MD_shift_144 rfl ?_
      refine g_imul e_MD_shift_145 ?_
      refine g_iload_n e_MD_shift_146 rfl ?_
      refine g_iadd e_MD_shift_147 ?_
      refine g_iload e_MD_shift_148 rfl ?_
      refine g_iadd e_MD_shift_150 ?_
      refine g_laldG (n := 360) e_MD_shift_151 kq_98 (hz.lt kq_98 (by decide)) ?_
      refine g_lastG (n := 60) e_MD_shift_152 kq_99 (hz.lt kq_99 (by decide)) (fun M23 => ?_)
      refine g_iincL (c := (1 : Int32)) e_MD_shift_153 rfl (by decide) (by decide) rfl (fun x24 => ?_)
      refine g_goto e_MD_shift_156 ?_
      exact g_wq (ih v1 v2 v3 v4 v5 x24 M23) ⟨rfl, rfl, rfl, rfl, rfl, rfl, rfl, trivial⟩
set_option maxHeartbeats 4000000 in
set_option maxRecDepth 20000 in
theorem t_MD_shift {X : KX} {Z : ZZ} {v1 : Int32} {v2 : Int32} {v3 : Int32} {v4 : Int32} {v5 : Int32} {M : Mm} (hz : FU Z) : GO X md_MD_shift (QE X rvI Z) 0 [some (rf (kG X) 78), some (.int v1), some (.int v2), some (.int v3), some (.int v4), some (.int v5), none] [] Z M (f_MD_shift v1 v2 v3 v4 v5 M) := by
  unfold f_MD_shift
  refine g_iload_n e_MD_shift_0 rfl ?_
  refine g_callS (rv := rvI) (As := [.int v1]) (st := []) e_MD_shift_1 ms_MD_286 my_MD_isTape (by decide) rfl rfl (Nat.le_of_ble_eq_true rfl) (fun r M1 h => c_MD_isTape hz  h) (fun r2 M1 h3 => ?_)
  refine g_if_eq e_MD_shift_4 (fun c4 => ?_) (fun c4 => ?_)
  · refine g_iconst (x := (-1 : Int32)) e_MD_shift_14 (by decide) ?_
    exact g_iret e_MD_shift_15 rfl
  · refine g_iload_n e_MD_shift_7 rfl ?_
    refine g_callS (rv := rvI) (As := [.int v3]) (st := []) e_MD_shift_8 ms_MD_286 my_MD_isTape (by decide) rfl rfl (Nat.le_of_ble_eq_true rfl) (fun r M1 h => c_MD_isTape hz  h) (fun r6 M5 h7 => ?_)
    refine g_if_ne e_MD_shift_11 (fun c8 => ?_) (fun c8 => ?_)
    · refine g_aload_n e_MD_shift_16 rfl ?_
      refine g_getRZ (kz := 96) e_MD_shift_17 fl_MD_76 hz kq_78 (by decide) fj_10_38 rfl ?_
      refine g_iload_n e_MD_shift_20 rfl ?_
      refine g_ialdG (n := 6) e_MD_shift_21 ⟨kq_96, by decide⟩ (hz.lt kq_96 (by decide)) ?_
      refine g_iconst (x := (-1 : Int32)) e_MD_shift_22 (by decide) ?_
      refine g_icmp_eq e_MD_shift_23 (fun c9 => ?_) (fun c9 => ?_)
      · refine g_bipush (x := (-11 : Int32)) e_MD_shift_36 (by decide) ?_
        exact g_iret e_MD_shift_38 rfl
      · refine g_aload_n e_MD_shift_26 rfl ?_
        refine g_getRZ (kz := 96) e_MD_shift_27 fl_MD_76 hz kq_78 (by decide) fj_10_38 rfl ?_
        refine g_iload_n e_MD_shift_30 rfl ?_
        refine g_ialdG (n := 6) e_MD_shift_31 ⟨kq_96, by decide⟩ (hz.lt kq_96 (by decide)) ?_
        refine g_iconst (x := (-1 : Int32)) e_MD_shift_32 (by decide) ?_
        refine g_icmp_ne e_MD_shift_33 (fun c10 => ?_) (fun c10 => ?_)
        · refine g_aload_n e_MD_shift_39 rfl ?_
          refine g_getRZ (kz := 96) e_MD_shift_40 fl_MD_76 hz kq_78 (by decide) fj_10_38 rfl ?_
          refine g_iload_n e_MD_shift_43 rfl ?_
          refine g_ialdG (n := 6) e_MD_shift_44 ⟨kq_96, by decide⟩ (hz.lt kq_96 (by decide)) ?_
          refine g_aload_n e_MD_shift_45 rfl ?_
          refine g_getRZ (kz := 96) e_MD_shift_46 fl_MD_76 hz kq_78 (by decide) fj_10_38 rfl ?_
          refine g_iload_n e_MD_shift_49 rfl ?_
          refine g_ialdG (n := 6) e_MD_shift_50 ⟨kq_96, by decide⟩ (hz.lt kq_96 (by decide)) ?_
          refine g_icmp_eq e_MD_shift_51 (fun c11 => ?_) (fun c11 => ?_)
          · refine g_iload e_MD_shift_57 rfl ?_
            refine g_if_lt e_MD_shift_59 (fun c12 => ?_) (fun c12 => ?_)
            · refine g_bipush (x := (-13 : Int32)) e_MD_shift_119 (by decide) ?_
              exact g_iret e_MD_shift_121 rfl
            · refine g_iload_n e_MD_shift_62 rfl ?_
              refine g_if_lt e_MD_shift_63 (fun c13 => ?_) (fun c13 => ?_)
              · refine g_bipush (x := (-13 : Int32)) e_MD_shift_119 (by decide) ?_
                exact g_iret e_MD_shift_121 rfl
              · refine g_iload e_MD_shift_66 rfl ?_
                refine g_if_lt e_MD_shift_68 (fun c14 => ?_) (fun c14 => ?_)
                · refine g_bipush (x := (-13 : Int32)) e_MD_shift_119 (by decide) ?_
                  exact g_iret e_MD_shift_121 rfl
                · refine g_iload_n e_MD_shift_71 rfl ?_
                  refine g_aload_n e_MD_shift_72 rfl ?_
                  refine g_getRZ (kz := 97) e_MD_shift_73 fl_MD_79 hz kq_78 (by decide) fj_10_39 rfl ?_
                  refine g_iload_n e_MD_shift_76 rfl ?_
                  refine g_ialdG (n := 6) e_MD_shift_77 ⟨kq_97, by decide⟩ (hz.lt kq_97 (by decide)) ?_
                  refine g_icmp_gt e_MD_shift_78 (fun c15 => ?_) (fun c15 => ?_)
                  · refine g_bipush (x := (-13 : Int32)) e_MD_shift_119 (by decide) ?_
                    exact g_iret e_MD_shift_121 rfl
                  · refine g_iload e_MD_shift_81 rfl ?_
                    refine g_aload_n e_MD_shift_83 rfl ?_
                    refine g_getRZ (kz := 97) e_MD_shift_84 fl_MD_79 hz kq_78 (by decide) fj_10_39 rfl ?_
                    refine g_iload_n e_MD_shift_87 rfl ?_
                    refine g_ialdG (n := 6) e_MD_shift_88 ⟨kq_97, by decide⟩ (hz.lt kq_97 (by decide)) ?_
                    refine g_icmp_gt e_MD_shift_89 (fun c16 => ?_) (fun c16 => ?_)
                    · refine g_bipush (x := (-13 : Int32)) e_MD_shift_119 (by decide) ?_
                      exact g_iret e_MD_shift_121 rfl
                    · refine g_iload e_MD_shift_92 rfl ?_
                      refine g_aload_n e_MD_shift_94 rfl ?_
                      refine g_getRZ (kz := 97) e_MD_shift_95 fl_MD_79 hz kq_78 (by decide) fj_10_39 rfl ?_
                      refine g_iload_n e_MD_shift_98 rfl ?_
                      refine g_ialdG (n := 6) e_MD_shift_99 ⟨kq_97, by decide⟩ (hz.lt kq_97 (by decide)) ?_
                      refine g_iload_n e_MD_shift_100 rfl ?_
                      refine g_isub e_MD_shift_101 ?_
                      refine g_icmp_gt e_MD_shift_102 (fun c17 => ?_) (fun c17 => ?_)
                      · refine g_bipush (x := (-13 : Int32)) e_MD_shift_119 (by decide) ?_
                        exact g_iret e_MD_shift_121 rfl
                      · refine g_iload e_MD_shift_105 rfl ?_
                        refine g_aload_n e_MD_shift_107 rfl ?_
                        refine g_getRZ (kz := 97) e_MD_shift_108 fl_MD_79 hz kq_78 (by decide) fj_10_39 rfl ?_
                        refine g_iload_n e_MD_shift_111 rfl ?_
                        refine g_ialdG (n := 6) e_MD_shift_112 ⟨kq_97, by decide⟩ (hz.lt kq_97 (by decide)) ?_
                        refine g_iload e_MD_shift_113 rfl ?_
                        refine g_isub e_MD_shift_115 ?_
                        refine g_icmp_le e_MD_shift_116 (fun c18 => ?_) (fun c18 => ?_)
                        · refine g_iconst (x := (0 : Int32)) e_MD_shift_122 (by decide) ?_
                          refine g_istore e_MD_shift_123 (by decide) rfl ?_
                          exact g_wq (t_MD_shift_125 hz fuel v1 v2 v3 v4 v5 (0 : Int32) M5) ⟨rfl, rfl, rfl, rfl, rfl, rfl, rfl, trivial⟩
                        · refine g_bipush (x := (-13 : Int32)) e_MD_shift_119 (by decide) ?_
                          exact g_iret e_MD_shift_121 rfl
          · refine g_bipush (x := (-12 : Int32)) e_MD_shift_54 (by decide) ?_
            exact g_iret e_MD_shift_56 rfl
        · refine g_bipush (x := (-11 : Int32)) e_MD_shift_36 (by decide) ?_
          exact g_iret e_MD_shift_38 rfl
    · refine g_iconst (x := (-1 : Int32)) e_MD_shift_14 (by decide) ?_
      exact g_iret e_MD_shift_15 rfl
set_option maxHeartbeats 4000000 in
set_option maxRecDepth 20000 in
theorem c_MD_shift {l : Launch} {G : KG} {Z : ZZ} {v1 : Int32} {v2 : Int32} {v3 : Int32} {v4 : Int32} {v5 : Int32} {M M' : Mm} {r : Int32} (hz : FU Z) (h : f_MD_shift v1 v2 v3 v4 v5 M = some (r, M')) : CT l G y_MD_shift md_MD_shift 0 0 [rf G 78, .int v1, .int v2, .int v3, .int v4, .int v5] Z.2.2.1 Z.2.2.2 M (rvI r) Z.2.2.1 Z.2.2.2 M' :=
  CT.of (Z := (0, 0, Z.2.2.1, Z.2.2.2)) (Z' := (0, 0, Z.2.2.1, Z.2.2.2)) 1 (by decide) rfl ⟨rfl, rfl⟩ (by show 6 ≤ 7; decide) rfl h (fun X _ hG => by subst hG; exact t_MD_shift hz)
