set_option maxHeartbeats 4000000 in
set_option maxRecDepth 20000 in
theorem t_Job_figure {X : KX} {Z : ZZ} {a0 : Nat} {v1 : Int32} {M : Mm} (hn0 : a0 < Z.2.2.1) (ha0 : kD a0 = 0) : GO X md_Job_figure (QE X rvI Z) 0 [some (rf (kG X) a0), some (.int v1)] [] Z M (f_Job_figure a0 v1 M) := by
  unfold f_Job_figure
  refine g_aload_n e_Job_figure_0 rfl ?_
  refine g_getI e_Job_figure_1 fl_Job_42 ha0 hn0 fj_0_1 ?_
  refine g_iconst (x := (2 : Int32)) e_Job_figure_4 (by decide) ?_
  refine g_aload_n e_Job_figure_5 rfl ?_
  refine g_getI e_Job_figure_6 fl_Job_39 ha0 hn0 fj_0_0 ?_
  refine g_iconst (x := (1 : Int32)) e_Job_figure_9 (by decide) ?_
  refine g_isub e_Job_figure_10 ?_
  refine g_iload_n e_Job_figure_11 rfl ?_
  refine g_isub e_Job_figure_12 ?_
  refine g_imul e_Job_figure_13 ?_
  refine g_ishr e_Job_figure_14 ?_
  refine g_iconst (x := (3 : Int32)) e_Job_figure_15 (by decide) ?_
  refine g_iand e_Job_figure_16 ?_
  refine g_iconst (x := (1 : Int32)) e_Job_figure_17 (by decide) ?_
  refine g_iadd e_Job_figure_18 ?_
  exact g_iret e_Job_figure_19 rfl
set_option maxHeartbeats 4000000 in
set_option maxRecDepth 20000 in
theorem c_Job_figure {l : Launch} {G : KG} {Z : ZZ} {a0 : Nat} {v1 : Int32} {M M' : Mm} {r : Int32} (hn0 : a0 < Z.2.2.1) (ha0 : kD a0 = 0) (h : f_Job_figure a0 v1 M = some (r, M')) : CT l G y_Job_figure md_Job_figure 0 0 [rf G a0, .int v1] Z.2.2.1 Z.2.2.2 M (rvI r) Z.2.2.1 Z.2.2.2 M' :=
  CT.of (Z := (0, 0, Z.2.2.1, Z.2.2.2)) (Z' := (0, 0, Z.2.2.1, Z.2.2.2)) 0 (by decide) rfl ⟨rfl, rfl⟩ (by show 2 ≤ 2; decide) rfl h (fun X _ hG => by subst hG; exact t_Job_figure hn0 ha0)
set_option maxHeartbeats 4000000 in
set_option maxRecDepth 20000 in
theorem t_Job_isAcross {X : KX} {Z : ZZ} {v0 : Int32} {M : Mm} : GO X md_Job_isAcross (QE X rvI Z) 0 [some (.int v0)] [] Z M (f_Job_isAcross v0 M) := by
  unfold f_Job_isAcross
  refine g_iload_n e_Job_isAcross_0 rfl ?_
  refine g_iconst (x := (2 : Int32)) e_Job_isAcross_1 (by decide) ?_
  refine g_icmp_gt e_Job_isAcross_2 (fun c1 => ?_) (fun c1 => ?_)
  · refine g_iconst (x := (0 : Int32)) e_Job_isAcross_9 (by decide) ?_
    exact g_zret e_Job_isAcross_10 rfl (by decide)
  · refine g_iconst (x := (1 : Int32)) e_Job_isAcross_5 (by decide) ?_
    refine g_goto e_Job_isAcross_6 ?_
    exact g_zret e_Job_isAcross_10 rfl (by decide)
set_option maxHeartbeats 4000000 in
set_option maxRecDepth 20000 in
theorem c_Job_isAcross {l : Launch} {G : KG} {Z : ZZ} {v0 : Int32} {M M' : Mm} {r : Int32} (h : f_Job_isAcross v0 M = some (r, M')) : CT l G y_Job_isAcross md_Job_isAcross 0 0 [.int v0] Z.2.2.1 Z.2.2.2 M (rvI r) Z.2.2.1 Z.2.2.2 M' :=
  CT.of (Z := (0, 0, Z.2.2.1, Z.2.2.2)) (Z' := (0, 0, Z.2.2.1, Z.2.2.2)) 0 (by decide) rfl ⟨rfl, rfl⟩ (by show 1 ≤ 1; decide) rfl h (fun X _ hG => by subst hG; exact t_Job_isAcross )
set_option maxHeartbeats 4000000 in
set_option maxRecDepth 20000 in
theorem t_Job_foldBy_64 {X : KX} {Z : ZZ} {a0 : Nat} {rec22 : Int32 → Mm → Option (Unit × Mm)} (hn0 : a0 < Z.2.2.1) (ha0 : kD a0 = 0) (hr22 : ∀ (v3 : Int32) (M : Mm), GO X md_Job_foldBy (QE X rvU Z) 22 [some (rf (kG X) a0), none, none, some (.int v3)] [] Z M (rec22 v3 M)) : ∀ (v3 : Int32) (M : Mm), GO X md_Job_foldBy (QE X rvU Z) 64 [some (rf (kG X) a0), none, none, some (.int v3)] [] Z M (f_Job_foldBy_64 a0 rec22 v3 M) := by
  intro v3 M
  unfold f_Job_foldBy_64
  refine g_iincL (c := (1 : Int32)) e_Job_foldBy_64 rfl (by decide) (by decide) rfl (fun x14 => ?_)
  refine g_goto e_Job_foldBy_67 ?_
  exact g_wq (hr22 x14 M) ⟨rfl, rfl, trivial⟩
set_option maxHeartbeats 4000000 in
set_option maxRecDepth 20000 in
theorem t_Job_foldBy_22 {X : KX} {Z : ZZ} {a0 : Nat} (hn0 : a0 < Z.2.2.1) (ha0 : kD a0 = 0) : ∀ (n : Nat) (v3 : Int32) (M : Mm), GO X md_Job_foldBy (QE X rvU Z) 22 [some (rf (kG X) a0), none, none, some (.int v3)] [] Z M (f_Job_foldBy_22 a0 n v3 M) := by
  intro n
  induction n with
  | zero =>
    intro v3 M
    exact g_none
  | succ n ih =>
    intro v3 M
    rw [f_Job_foldBy_22_s]
    refine g_iload_n e_Job_foldBy_22 rfl ?_
    refine g_aload_n e_Job_foldBy_23 rfl ?_
    refine g_getI e_Job_foldBy_24 fl_Job_39 ha0 hn0 fj_0_0 ?_
    refine g_icmp_ge e_Job_foldBy_27 (fun c5 => ?_) (fun c5 => ?_)
    · exact g_vret e_Job_foldBy_70 rfl
    · refine g_aload_n e_Job_foldBy_30 rfl ?_
      refine g_iload_n e_Job_foldBy_31 rfl ?_
      refine g_callV (rv := rvI) (As := [.int v3]) (st := []) e_Job_foldBy_32 mv_Job_57 my_Job_figure (by decide) rfl rfl ha0 hn0 rfl (Nat.le_of_ble_eq_true rfl) rfl (fun r M1 h => c_Job_figure hn0 ha0 h) (fun r7 M6 h8 => ?_)
      refine g_callS (rv := rvI) (As := [.int r7]) (st := []) e_Job_foldBy_35 ms_Job_61 my_Job_isAcross (by decide) rfl rfl (Nat.le_of_ble_eq_true rfl) (fun r M1 h => c_Job_isAcross   h) (fun r10 M9 h11 => ?_)
      refine g_if_eq e_Job_foldBy_38 (fun c12 => ?_) (fun c12 => ?_)
      · refine g_aload_n e_Job_foldBy_54 rfl ?_
        refine g_dup e_Job_foldBy_55 rfl ?_
        refine g_getI e_Job_foldBy_56 fl_Job_54 ha0 hn0 fj_0_3 ?_
        refine g_iconst (x := (2 : Int32)) e_Job_foldBy_59 (by decide) ?_
        refine g_imul e_Job_foldBy_60 ?_
        refine g_putL e_Job_foldBy_61 fp_Job_54 ha0 hn0 fj_0_3 rfl rfl (fun M13 => ?_)
        exact g_wq (t_Job_foldBy_64 hn0 ha0 (ih) v3 M13) ⟨rfl, rfl, trivial⟩
      · refine g_aload_n e_Job_foldBy_41 rfl ?_
        refine g_dup e_Job_foldBy_42 rfl ?_
        refine g_getI e_Job_foldBy_43 fl_Job_51 ha0 hn0 fj_0_2 ?_
        refine g_iconst (x := (2 : Int32)) e_Job_foldBy_46 (by decide) ?_
        refine g_imul e_Job_foldBy_47 ?_
        refine g_putL e_Job_foldBy_48 fp_Job_51 ha0 hn0 fj_0_2 rfl rfl (fun M15 => ?_)
        refine g_goto e_Job_foldBy_51 ?_
        exact g_wq (t_Job_foldBy_64 hn0 ha0 (ih) v3 M15) ⟨rfl, rfl, trivial⟩
set_option maxHeartbeats 4000000 in
set_option maxRecDepth 20000 in
theorem t_Job_foldBy {X : KX} {Z : ZZ} {a0 : Nat} {v1 : Int32} {v2 : Int32} {M : Mm} (hn0 : a0 < Z.2.2.1) (ha0 : kD a0 = 0) : GO X md_Job_foldBy (QE X rvU Z) 0 [some (rf (kG X) a0), some (.int v1), some (.int v2), none] [] Z M (f_Job_foldBy a0 v1 v2 M) := by
  unfold f_Job_foldBy
  refine g_aload_n e_Job_foldBy_0 rfl ?_
  refine g_iload_n e_Job_foldBy_1 rfl ?_
  refine g_putL e_Job_foldBy_2 fp_Job_39 ha0 hn0 fj_0_0 rfl rfl (fun M1 => ?_)
  refine g_aload_n e_Job_foldBy_5 rfl ?_
  refine g_iload_n e_Job_foldBy_6 rfl ?_
  refine g_putL e_Job_foldBy_7 fp_Job_42 ha0 hn0 fj_0_1 rfl rfl (fun M2 => ?_)
  refine g_aload_n e_Job_foldBy_10 rfl ?_
  refine g_iconst (x := (1 : Int32)) e_Job_foldBy_11 (by decide) ?_
  refine g_putL e_Job_foldBy_12 fp_Job_51 ha0 hn0 fj_0_2 rfl rfl (fun M3 => ?_)
  refine g_aload_n e_Job_foldBy_15 rfl ?_
  refine g_iconst (x := (1 : Int32)) e_Job_foldBy_16 (by decide) ?_
  refine g_putL e_Job_foldBy_17 fp_Job_54 ha0 hn0 fj_0_3 rfl rfl (fun M4 => ?_)
  refine g_iconst (x := (0 : Int32)) e_Job_foldBy_20 (by decide) ?_
  refine g_istore_n e_Job_foldBy_21 (by decide) rfl ?_
  exact g_wq (t_Job_foldBy_22 hn0 ha0 fuel (0 : Int32) M4) ⟨rfl, rfl, trivial⟩
set_option maxHeartbeats 4000000 in
set_option maxRecDepth 20000 in
theorem c_Job_foldBy {l : Launch} {G : KG} {Z : ZZ} {a0 : Nat} {v1 : Int32} {v2 : Int32} {M M' : Mm} {r : Unit} (hn0 : a0 < Z.2.2.1) (ha0 : kD a0 = 0) (h : f_Job_foldBy a0 v1 v2 M = some (r, M')) : CT l G y_Job_foldBy md_Job_foldBy 0 0 [rf G a0, .int v1, .int v2] Z.2.2.1 Z.2.2.2 M (rvU r) Z.2.2.1 Z.2.2.2 M' :=
  CT.of (Z := (0, 0, Z.2.2.1, Z.2.2.2)) (Z' := (0, 0, Z.2.2.1, Z.2.2.2)) 1 (by decide) rfl ⟨rfl, rfl⟩ (by show 3 ≤ 4; decide) rfl h (fun X _ hG => by subst hG; exact t_Job_foldBy hn0 ha0)
set_option maxHeartbeats 4000000 in
set_option maxRecDepth 20000 in
theorem t_Job_copy {X : KX} {Z : ZZ} {a0 : Nat} {a1 : Nat} {M : Mm} (hz : FU Z) (ha0 : kD a0 = 0) (ha1 : kD a1 = 0) : GO X md_Job_copy (QE X rvU Z) 0 [some (rf (kG X) a0), some (rf (kG X) a1)] [] Z M (f_Job_copy a0 a1 M) := by
  unfold f_Job_copy
  refine g_aload_n e_Job_copy_0 rfl ?_
  refine g_aload_n e_Job_copy_1 rfl ?_
  refine g_getI e_Job_copy_2 fl_Job_39 ha1 (hz.lt ha1) fj_0_0 ?_
  refine g_aload_n e_Job_copy_5 rfl ?_
  refine g_getI e_Job_copy_6 fl_Job_42 ha1 (hz.lt ha1) fj_0_1 ?_
  refine g_callV (rv := rvU) (As := [.int (M.1 a1 0), .int (M.1 a1 1)]) (st := []) e_Job_copy_9 mv_Job_35 my_Job_foldBy (by decide) rfl rfl ha0 (hz.lt ha0) rfl (Nat.le_of_ble_eq_true rfl) rfl (fun r M1 h => c_Job_foldBy (hz.lt ha0) ha0 h) (fun r2 M1 h3 => ?_)
  refine g_aload_n e_Job_copy_12 rfl ?_
  refine g_aload_n e_Job_copy_13 rfl ?_
  refine g_getI e_Job_copy_14 fl_Job_9 ha1 (hz.lt ha1) fj_0_4 ?_
  refine g_putL e_Job_copy_17 fp_Job_9 ha0 (hz.lt ha0) fj_0_4 rfl rfl (fun M4 => ?_)
  refine g_aload_n e_Job_copy_20 rfl ?_
  refine g_aload_n e_Job_copy_21 rfl ?_
  refine g_getI e_Job_copy_22 fl_Job_45 ha1 (hz.lt ha1) fj_0_5 ?_
  refine g_putL e_Job_copy_25 fp_Job_45 ha0 (hz.lt ha0) fj_0_5 rfl rfl (fun M5 => ?_)
  refine g_aload_n e_Job_copy_28 rfl ?_
  refine g_aload_n e_Job_copy_29 rfl ?_
  refine g_getI e_Job_copy_30 fl_Job_48 ha1 (hz.lt ha1) fj_0_6 ?_
  refine g_putL e_Job_copy_33 fp_Job_48 ha0 (hz.lt ha0) fj_0_6 rfl rfl (fun M6 => ?_)
  refine g_aload_n e_Job_copy_36 rfl ?_
  refine g_aload_n e_Job_copy_37 rfl ?_
  refine g_getI e_Job_copy_38 fl_Job_15 ha1 (hz.lt ha1) fj_0_7 ?_
  refine g_putL e_Job_copy_41 fp_Job_15 ha0 (hz.lt ha0) fj_0_7 rfl rfl (fun M7 => ?_)
  refine g_aload_n e_Job_copy_44 rfl ?_
  refine g_aload_n e_Job_copy_45 rfl ?_
  refine g_getI e_Job_copy_46 fl_Job_18 ha1 (hz.lt ha1) fj_0_8 ?_
  refine g_putL e_Job_copy_49 fp_Job_18 ha0 (hz.lt ha0) fj_0_8 rfl rfl (fun M8 => ?_)
  exact g_vret e_Job_copy_52 rfl
set_option maxHeartbeats 4000000 in
set_option maxRecDepth 20000 in
theorem c_Job_copy {l : Launch} {G : KG} {Z : ZZ} {a0 : Nat} {a1 : Nat} {M M' : Mm} {r : Unit} (hz : FU Z) (ha0 : kD a0 = 0) (ha1 : kD a1 = 0) (h : f_Job_copy a0 a1 M = some (r, M')) : CT l G y_Job_copy md_Job_copy 0 0 [rf G a0, rf G a1] Z.2.2.1 Z.2.2.2 M (rvU r) Z.2.2.1 Z.2.2.2 M' :=
  CT.of (Z := (0, 0, Z.2.2.1, Z.2.2.2)) (Z' := (0, 0, Z.2.2.1, Z.2.2.2)) 0 (by decide) rfl ⟨rfl, rfl⟩ (by show 2 ≤ 2; decide) rfl h (fun X _ hG => by subst hG; exact t_Job_copy hz ha0 ha1)
set_option maxHeartbeats 4000000 in
set_option maxRecDepth 20000 in
theorem t_Job_figuresOf_41 {X : KX} {Z : ZZ} (hz : FU Z) : ∀ (v1 : Int32) (M : Mm), GO X md_Job_figuresOf (QE X rvI Z) 41 [none, some (.int v1), none, none] [] Z M (f_Job_figuresOf_41 v1 M) := by
  intro v1 M
  unfold f_Job_figuresOf_41
  refine g_iload_n e_Job_figuresOf_41 rfl ?_
  refine g_iconst (x := (4 : Int32)) e_Job_figuresOf_42 (by decide) ?_
  refine g_phi1 51 (fun x3 => [none, none, none, none]) (fun x3 => [.int x3]) (fun x3 => ?_) (fun hj4 => ?_)
  · show GO X _ _ 51 [none, none, none, none] [.int x3] Z M _
    exact g_iret e_Job_figuresOf_51 rfl
  · refine g_icmp_gt' e_Job_figuresOf_43 (fun c2 => ?_) (fun c2 => ?_)
    · refine g_iconst (x := (0 : Int32)) e_Job_figuresOf_50 (by decide) ?_
      exact (g_pt c2 (g_lt (g_wq (hj4 (0 : Int32)) trivial)))
    · refine g_iload_n e_Job_figuresOf_46 rfl ?_
      refine g_goto e_Job_figuresOf_47 ?_
      exact (g_pf c2 (g_lt (g_wq (hj4 v1) trivial)))
set_option maxHeartbeats 4000000 in
set_option maxRecDepth 20000 in
theorem t_Job_figuresOf_4 {X : KX} {Z : ZZ} (hz : FU Z) : ∀ (n : Nat) (v1 : Int32) (v2 : Int32) (M : Mm), GO X md_Job_figuresOf (QE X rvI Z) 4 [none, some (.int v1), some (.int v2), none] [] Z M (f_Job_figuresOf_4 n v1 v2 M) := by
  intro n
  induction n with
  | zero =>
    intro v1 v2 M
    exact g_none
  | succ n ih =>
    intro v1 v2 M
    rw [f_Job_figuresOf_4_s]
    refine g_iload_n e_Job_figuresOf_4 rfl ?_
    refine g_if_le e_Job_figuresOf_5 (fun c1 => ?_) (fun c1 => ?_)
    · exact g_wq (t_Job_figuresOf_41 hz v1 M) ⟨rfl, trivial⟩
    · refine g_iload_n e_Job_figuresOf_8 rfl ?_
      refine g_iconst (x := (4 : Int32)) e_Job_figuresOf_9 (by decide) ?_
      refine g_icmp_gt e_Job_figuresOf_10 (fun c5 => ?_) (fun c5 => ?_)
      · exact g_wq (t_Job_figuresOf_41 hz v1 M) ⟨rfl, trivial⟩
      · refine g_iload_n e_Job_figuresOf_13 rfl ?_
        refine g_bipush (x := (10 : Int32)) e_Job_figuresOf_14 (by decide) ?_
        refine g_irem e_Job_figuresOf_16 (by decide) ?_
        refine g_istoreL_n e_Job_figuresOf_17 (by decide) rfl (fun x6 => ?_)
        refine g_iload_n e_Job_figuresOf_18 rfl ?_
        refine g_iconst (x := (1 : Int32)) e_Job_figuresOf_19 (by decide) ?_
        refine g_icmp_lt e_Job_figuresOf_20 (fun c7 => ?_) (fun c7 => ?_)
        · refine g_iconst (x := (0 : Int32)) e_Job_figuresOf_28 (by decide) ?_
          exact g_iret e_Job_figuresOf_29 rfl
        · refine g_iload_n e_Job_figuresOf_23 rfl ?_
          refine g_iconst (x := (4 : Int32)) e_Job_figuresOf_24 (by decide) ?_
          refine g_icmp_le e_Job_figuresOf_25 (fun c8 => ?_) (fun c8 => ?_)
          · refine g_iincL (c := (1 : Int32)) e_Job_figuresOf_30 rfl (by decide) (by decide) rfl (fun x9 => ?_)
            refine g_iload_n e_Job_figuresOf_33 rfl ?_
            refine g_bipush (x := (10 : Int32)) e_Job_figuresOf_34 (by decide) ?_
            refine g_idiv e_Job_figuresOf_36 (by decide) ?_
            refine g_istoreL_n e_Job_figuresOf_37 (by decide) rfl (fun x10 => ?_)
            refine g_goto e_Job_figuresOf_38 ?_
            exact g_wq (ih x9 x10 M) ⟨rfl, rfl, trivial⟩
          · refine g_iconst (x := (0 : Int32)) e_Job_figuresOf_28 (by decide) ?_
            exact g_iret e_Job_figuresOf_29 rfl
set_option maxHeartbeats 4000000 in
set_option maxRecDepth 20000 in
theorem t_Job_figuresOf {X : KX} {Z : ZZ} {v0 : Int32} {M : Mm} (hz : FU Z) : GO X md_Job_figuresOf (QE X rvI Z) 0 [some (.int v0), none, none, none] [] Z M (f_Job_figuresOf v0 M) := by
  unfold f_Job_figuresOf
  refine g_iconst (x := (0 : Int32)) e_Job_figuresOf_0 (by decide) ?_
  refine g_istore_n e_Job_figuresOf_1 (by decide) rfl ?_
  refine g_iload_n e_Job_figuresOf_2 rfl ?_
  refine g_istore_n e_Job_figuresOf_3 (by decide) rfl ?_
  exact g_wq (t_Job_figuresOf_4 hz fuel (0 : Int32) v0 M) ⟨rfl, rfl, trivial⟩
set_option maxHeartbeats 4000000 in
set_option maxRecDepth 20000 in
theorem c_Job_figuresOf {l : Launch} {G : KG} {Z : ZZ} {v0 : Int32} {M M' : Mm} {r : Int32} (hz : FU Z) (h : f_Job_figuresOf v0 M = some (r, M')) : CT l G y_Job_figuresOf md_Job_figuresOf 0 0 [.int v0] Z.2.2.1 Z.2.2.2 M (rvI r) Z.2.2.1 Z.2.2.2 M' :=
  CT.of (Z := (0, 0, Z.2.2.1, Z.2.2.2)) (Z' := (0, 0, Z.2.2.1, Z.2.2.2)) 3 (by decide) rfl ⟨rfl, rfl⟩ (by show 1 ≤ 4; decide) rfl h (fun X _ hG => by subst hG; exact t_Job_figuresOf hz)
set_option maxHeartbeats 4000000 in
set_option maxRecDepth 20000 in
theorem t_Job_foldByWord_13 {X : KX} {Z : ZZ} {a0 : Nat} (hz : FU Z) (ha0 : kD a0 = 0) : ∀ (n : Nat) (v2 : Int32) (v3 : Int32) (v4 : Int32) (v5 : Int32) (M : Mm), GO X md_Job_foldByWord (QE X rvU Z) 13 [some (rf (kG X) a0), none, some (.int v2), some (.int v3), some (.int v4), some (.int v5)] [] Z M (f_Job_foldByWord_13 a0 n v2 v3 v4 v5 M) := by
  intro n
  induction n with
  | zero =>
    intro v2 v3 v4 v5 M
    exact g_none
  | succ n ih =>
    intro v2 v3 v4 v5 M
    rw [f_Job_foldByWord_13_s]
    refine g_iload e_Job_foldByWord_13 rfl ?_
    refine g_iload_n e_Job_foldByWord_15 rfl ?_
    refine g_icmp_ge e_Job_foldByWord_16 (fun c4 => ?_) (fun c4 => ?_)
    · refine g_aload_n e_Job_foldByWord_47 rfl ?_
      refine g_iload_n e_Job_foldByWord_48 rfl ?_
      refine g_iload_n e_Job_foldByWord_49 rfl ?_
      refine g_callV (rv := rvU) (As := [.int v2, .int v3]) (st := []) e_Job_foldByWord_50 mv_Job_35 my_Job_foldBy (by decide) rfl rfl ha0 (hz.lt ha0) rfl (Nat.le_of_ble_eq_true rfl) rfl (fun r M1 h => c_Job_foldBy (hz.lt ha0) ha0 h) (fun r6 M5 h7 => ?_)
      exact g_vret e_Job_foldByWord_53 rfl
    · refine g_iload_n e_Job_foldByWord_19 rfl ?_
      refine g_iload e_Job_foldByWord_20 rfl ?_
      refine g_bipush (x := (10 : Int32)) e_Job_foldByWord_22 (by decide) ?_
      refine g_irem e_Job_foldByWord_24 (by decide) ?_
      refine g_iconst (x := (1 : Int32)) e_Job_foldByWord_25 (by decide) ?_
      refine g_isub e_Job_foldByWord_26 ?_
      refine g_iconst (x := (2 : Int32)) e_Job_foldByWord_27 (by decide) ?_
      refine g_iload e_Job_foldByWord_28 rfl ?_
      refine g_imul e_Job_foldByWord_30 ?_
      refine g_ishl e_Job_foldByWord_31 ?_
      refine g_iadd e_Job_foldByWord_32 ?_
      refine g_istoreL_n e_Job_foldByWord_33 (by decide) rfl (fun x8 => ?_)
      refine g_iload e_Job_foldByWord_34 rfl ?_
      refine g_bipush (x := (10 : Int32)) e_Job_foldByWord_36 (by decide) ?_
      refine g_idiv e_Job_foldByWord_38 (by decide) ?_
      refine g_istoreL e_Job_foldByWord_39 (by decide) rfl (fun x9 => ?_)
      refine g_iincL (c := (1 : Int32)) e_Job_foldByWord_41 rfl (by decide) (by decide) rfl (fun x10 => ?_)
      refine g_goto e_Job_foldByWord_44 ?_
      exact g_wq (ih v2 x8 x9 x10 M) ⟨rfl, rfl, rfl, rfl, rfl, trivial⟩
set_option maxHeartbeats 4000000 in
set_option maxRecDepth 20000 in
theorem t_Job_foldByWord {X : KX} {Z : ZZ} {a0 : Nat} {v1 : Int32} {M : Mm} (hz : FU Z) (ha0 : kD a0 = 0) : GO X md_Job_foldByWord (QE X rvU Z) 0 [some (rf (kG X) a0), some (.int v1), none, none, none, none] [] Z M (f_Job_foldByWord a0 v1 M) := by
  unfold f_Job_foldByWord
  refine g_iload_n e_Job_foldByWord_0 rfl ?_
  refine g_callS (rv := rvI) (As := [.int v1]) (st := []) e_Job_foldByWord_1 ms_Job_65 my_Job_figuresOf (by decide) rfl rfl (Nat.le_of_ble_eq_true rfl) (fun r M1 h => c_Job_figuresOf hz  h) (fun r2 M1 h3 => ?_)
  refine g_istore_n e_Job_foldByWord_4 (by decide) rfl ?_
  refine g_iconst (x := (0 : Int32)) e_Job_foldByWord_5 (by decide) ?_
  refine g_istore_n e_Job_foldByWord_6 (by decide) rfl ?_
  refine g_iload_n e_Job_foldByWord_7 rfl ?_
  refine g_istore e_Job_foldByWord_8 (by decide) rfl ?_
  refine g_iconst (x := (0 : Int32)) e_Job_foldByWord_10 (by decide) ?_
  refine g_istore e_Job_foldByWord_11 (by decide) rfl ?_
  exact g_wq (t_Job_foldByWord_13 hz ha0 fuel r2 (0 : Int32) v1 (0 : Int32) M1) ⟨rfl, rfl, rfl, rfl, rfl, trivial⟩
set_option maxHeartbeats 4000000 in
set_option maxRecDepth 20000 in
theorem c_Job_foldByWord {l : Launch} {G : KG} {Z : ZZ} {a0 : Nat} {v1 : Int32} {M M' : Mm} {r : Unit} (hz : FU Z) (ha0 : kD a0 = 0) (h : f_Job_foldByWord a0 v1 M = some (r, M')) : CT l G y_Job_foldByWord md_Job_foldByWord 0 0 [rf G a0, .int v1] Z.2.2.1 Z.2.2.2 M (rvU r) Z.2.2.1 Z.2.2.2 M' :=
  CT.of (Z := (0, 0, Z.2.2.1, Z.2.2.2)) (Z' := (0, 0, Z.2.2.1, Z.2.2.2)) 4 (by decide) rfl ⟨rfl, rfl⟩ (by show 2 ≤ 6; decide) rfl h (fun X _ hG => by subst hG; exact t_Job_foldByWord hz ha0)
set_option maxHeartbeats 4000000 in
set_option maxRecDepth 20000 in
theorem t_Job_word_4 {X : KX} {Z : ZZ} {a0 : Nat} (hz : FU Z) (ha0 : kD a0 = 0) : ∀ (n : Nat) (v1 : Int32) (v2 : Int32) (M : Mm), GO X md_Job_word (QE X rvI Z) 4 [some (rf (kG X) a0), some (.int v1), some (.int v2)] [] Z M (f_Job_word_4 a0 n v1 v2 M) := by
  intro n
  induction n with
  | zero =>
    intro v1 v2 M
    exact g_none
  | succ n ih =>
    intro v1 v2 M
    rw [f_Job_word_4_s]
    refine g_iload_n e_Job_word_4 rfl ?_
    refine g_aload_n e_Job_word_5 rfl ?_
    refine g_getI e_Job_word_6 fl_Job_39 ha0 (hz.lt ha0) fj_0_0 ?_
    refine g_icmp_ge e_Job_word_9 (fun c1 => ?_) (fun c1 => ?_)
    · refine g_iload_n e_Job_word_29 rfl ?_
      exact g_iret e_Job_word_30 rfl
    · refine g_bipush (x := (10 : Int32)) e_Job_word_12 (by decide) ?_
      refine g_iload_n e_Job_word_14 rfl ?_
      refine g_imul e_Job_word_15 ?_
      refine g_aload_n e_Job_word_16 rfl ?_
      refine g_iload_n e_Job_word_17 rfl ?_
      refine g_callV (rv := rvI) (As := [.int v2]) (st := [.int ((10 : Int32) * v1)]) e_Job_word_18 mv_Job_57 my_Job_figure (by decide) rfl rfl ha0 (hz.lt ha0) rfl (Nat.le_of_ble_eq_true rfl) rfl (fun r M1 h => c_Job_figure (hz.lt ha0) ha0 h) (fun r3 M2 h4 => ?_)
      refine g_iadd e_Job_word_21 ?_
      refine g_istoreL_n e_Job_word_22 (by decide) rfl (fun x5 => ?_)
      refine g_iincL (c := (1 : Int32)) e_Job_word_23 rfl (by decide) (by decide) rfl (fun x6 => ?_)
      refine g_goto e_Job_word_26 ?_
      exact g_wq (ih x5 x6 M2) ⟨rfl, rfl, rfl, trivial⟩
set_option maxHeartbeats 4000000 in
set_option maxRecDepth 20000 in
theorem t_Job_word {X : KX} {Z : ZZ} {a0 : Nat} {M : Mm} (hz : FU Z) (ha0 : kD a0 = 0) : GO X md_Job_word (QE X rvI Z) 0 [some (rf (kG X) a0), none, none] [] Z M (f_Job_word a0 M) := by
  unfold f_Job_word
  refine g_iconst (x := (0 : Int32)) e_Job_word_0 (by decide) ?_
  refine g_istore_n e_Job_word_1 (by decide) rfl ?_
  refine g_iconst (x := (0 : Int32)) e_Job_word_2 (by decide) ?_
  refine g_istore_n e_Job_word_3 (by decide) rfl ?_
  exact g_wq (t_Job_word_4 hz ha0 fuel (0 : Int32) (0 : Int32) M) ⟨rfl, rfl, rfl, trivial⟩
set_option maxHeartbeats 4000000 in
set_option maxRecDepth 20000 in
theorem c_Job_word {l : Launch} {G : KG} {Z : ZZ} {a0 : Nat} {M M' : Mm} {r : Int32} (hz : FU Z) (ha0 : kD a0 = 0) (h : f_Job_word a0 M = some (r, M')) : CT l G y_Job_word md_Job_word 0 0 [rf G a0] Z.2.2.1 Z.2.2.2 M (rvI r) Z.2.2.1 Z.2.2.2 M' :=
  CT.of (Z := (0, 0, Z.2.2.1, Z.2.2.2)) (Z' := (0, 0, Z.2.2.1, Z.2.2.2)) 2 (by decide) rfl ⟨rfl, rfl⟩ (by show 1 ≤ 3; decide) rfl h (fun X _ hG => by subst hG; exact t_Job_word hz ha0)
set_option maxHeartbeats 4000000 in
set_option maxRecDepth 20000 in
theorem t_Job_allows_54 {X : KX} {Z : ZZ} (hz : FU Z) : ∀ (v1 : Int32) (M : Mm), GO X md_Job_allows (QE X rvI Z) 54 [none, some (.int v1)] [] Z M (f_Job_allows_54 v1 M) := by
  intro v1 M
  unfold f_Job_allows_54
  refine g_iload_n e_Job_allows_54 rfl ?_
  refine g_if_eq e_Job_allows_55 (fun c5 => ?_) (fun c5 => ?_)
  · refine g_iconst (x := (1 : Int32)) e_Job_allows_63 (by decide) ?_
    refine g_goto e_Job_allows_64 ?_
    exact g_zret e_Job_allows_68 rfl (by decide)
  · refine g_iload_n e_Job_allows_58 rfl ?_
    refine g_iconst (x := (1 : Int32)) e_Job_allows_59 (by decide) ?_
    refine g_icmp_ne e_Job_allows_60 (fun c6 => ?_) (fun c6 => ?_)
    · refine g_iconst (x := (0 : Int32)) e_Job_allows_67 (by decide) ?_
      exact g_zret e_Job_allows_68 rfl (by decide)
    · refine g_iconst (x := (1 : Int32)) e_Job_allows_63 (by decide) ?_
      refine g_goto e_Job_allows_64 ?_
      exact g_zret e_Job_allows_68 rfl (by decide)
set_option maxHeartbeats 4000000 in
set_option maxRecDepth 20000 in
theorem t_Job_allows {X : KX} {Z : ZZ} {v0 : Int32} {v1 : Int32} {M : Mm} (hz : FU Z) : GO X md_Job_allows (QE X rvI Z) 0 [some (.int v0), some (.int v1)] [] Z M (f_Job_allows v0 v1 M) := by
  unfold f_Job_allows
  refine g_iload_n e_Job_allows_0 rfl ?_
  refine g_ite (fun c1 => ?_) (fun c1 => ?_)
  · refine g_tswI e_Job_allows_1.1 (0 : Int32) c1 (off := 35) (tgt := 36) (by decide) ?_
    refine g_iload_n e_Job_allows_36 rfl ?_
    refine g_iconst (x := (1 : Int32)) e_Job_allows_37 (by decide) ?_
    refine g_icmp_lt e_Job_allows_38 (fun c2 => ?_) (fun c2 => ?_)
    · refine g_iconst (x := (0 : Int32)) e_Job_allows_52 (by decide) ?_
      exact g_zret e_Job_allows_53 rfl (by decide)
    · refine g_iload_n e_Job_allows_41 rfl ?_
      refine g_sipush (x := (128 : Int32)) e_Job_allows_42 (by decide) ?_
      refine g_icmp_gt e_Job_allows_45 (fun c3 => ?_) (fun c3 => ?_)
      · refine g_iconst (x := (0 : Int32)) e_Job_allows_52 (by decide) ?_
        exact g_zret e_Job_allows_53 rfl (by decide)
      · refine g_iconst (x := (1 : Int32)) e_Job_allows_48 (by decide) ?_
        refine g_goto e_Job_allows_49 ?_
        exact g_zret e_Job_allows_53 rfl (by decide)
  refine g_ite (fun c4 => ?_) (fun c4 => ?_)
  · refine g_hav (pq := 54) (lsq := [some (.int v0), some (.int v1)]) (stq := []) ?_ (fun hq => ?_)
    · exact g_wq (t_Job_allows_54 hz v1 M) ⟨rfl, trivial⟩
    · rcases c4 with c4 | c4
      · exact g_tswI e_Job_allows_1.1 (1 : Int32) c4 (off := 53) (tgt := 54) (by decide) hq
      · exact g_tswI e_Job_allows_1.1 (2 : Int32) c4 (off := 53) (tgt := 54) (by decide) hq
  refine g_ite (fun c7 => ?_) (fun c7 => ?_)
  · refine g_tswI e_Job_allows_1.1 (3 : Int32) c7 (off := 68) (tgt := 69) (by decide) ?_
    refine g_iload_n e_Job_allows_69 rfl ?_
    refine g_if_lt e_Job_allows_70 (fun c8 => ?_) (fun c8 => ?_)
    · refine g_iconst (x := (0 : Int32)) e_Job_allows_83 (by decide) ?_
      exact g_zret e_Job_allows_84 rfl (by decide)
    · refine g_iload_n e_Job_allows_73 rfl ?_
      refine g_ldc (x := (1000000 : Int32)) e_Job_allows_74 w_368 ?_
      refine g_icmp_gt e_Job_allows_76 (fun c9 => ?_) (fun c9 => ?_)
      · refine g_iconst (x := (0 : Int32)) e_Job_allows_83 (by decide) ?_
        exact g_zret e_Job_allows_84 rfl (by decide)
      · refine g_iconst (x := (1 : Int32)) e_Job_allows_79 (by decide) ?_
        refine g_goto e_Job_allows_80 ?_
        exact g_zret e_Job_allows_84 rfl (by decide)
  refine g_ite (fun c10 => ?_) (fun c10 => ?_)
  · refine g_tswI e_Job_allows_1.1 (4 : Int32) c10 (off := 84) (tgt := 85) (by decide) ?_
    refine g_iload_n e_Job_allows_85 rfl ?_
    refine g_iconst (x := (1 : Int32)) e_Job_allows_86 (by decide) ?_
    refine g_icmp_lt e_Job_allows_87 (fun c11 => ?_) (fun c11 => ?_)
    · refine g_iconst (x := (0 : Int32)) e_Job_allows_100 (by decide) ?_
      exact g_zret e_Job_allows_101 rfl (by decide)
    · refine g_iload_n e_Job_allows_90 rfl ?_
      refine g_ldc (x := (100000 : Int32)) e_Job_allows_91 w_369 ?_
      refine g_icmp_gt e_Job_allows_93 (fun c12 => ?_) (fun c12 => ?_)
      · refine g_iconst (x := (0 : Int32)) e_Job_allows_100 (by decide) ?_
        exact g_zret e_Job_allows_101 rfl (by decide)
      · refine g_iconst (x := (1 : Int32)) e_Job_allows_96 (by decide) ?_
        refine g_goto e_Job_allows_97 ?_
        exact g_zret e_Job_allows_101 rfl (by decide)
  refine g_hav (pq := 102) (lsq := [some (.int v0), some (.int v1)]) (stq := []) ?_ (fun hq => ?_)
  · refine g_iconst (x := (0 : Int32)) e_Job_allows_102 (by decide) ?_
    exact g_zret e_Job_allows_103 rfl (by decide)
  · refine g_tswO e_Job_allows_1.1 (tgt := 102) (by decide) (sw_out (fun q h1 h2 => ?_)) hq
    rcases (show q = 0 ∨ q = 1 ∨ q = 2 ∨ q = 3 ∨ q = 4 by omega) with rfl | rfl | rfl | rfl | rfl
    · exact c1
    · exact (not_or.mp c4).1
    · exact (not_or.mp c4).2
    · exact c7
    · exact c10
set_option maxHeartbeats 4000000 in
set_option maxRecDepth 20000 in
theorem c_Job_allows {l : Launch} {G : KG} {Z : ZZ} {v0 : Int32} {v1 : Int32} {M M' : Mm} {r : Int32} (hz : FU Z) (h : f_Job_allows v0 v1 M = some (r, M')) : CT l G y_Job_allows md_Job_allows 0 0 [.int v0, .int v1] Z.2.2.1 Z.2.2.2 M (rvI r) Z.2.2.1 Z.2.2.2 M' :=
  CT.of (Z := (0, 0, Z.2.2.1, Z.2.2.2)) (Z' := (0, 0, Z.2.2.1, Z.2.2.2)) 0 (by decide) rfl ⟨rfl, rfl⟩ (by show 2 ≤ 2; decide) rfl h (fun X _ hG => by subst hG; exact t_Job_allows hz)
set_option maxHeartbeats 4000000 in
set_option maxRecDepth 20000 in
theorem t_Job_value {X : KX} {Z : ZZ} {a0 : Nat} {v1 : Int32} {M : Mm} (hz : FU Z) (ha0 : kD a0 = 0) : GO X md_Job_value (QE X rvI Z) 0 [some (rf (kG X) a0), some (.int v1)] [] Z M (f_Job_value a0 v1 M) := by
  unfold f_Job_value
  refine g_iload_n e_Job_value_0 rfl ?_
  refine g_ite (fun c1 => ?_) (fun c1 => ?_)
  · refine g_tswI e_Job_value_1.1 (0 : Int32) c1 (off := 31) (tgt := 32) (by decide) ?_
    refine g_aload_n e_Job_value_32 rfl ?_
    refine g_getI e_Job_value_33 fl_Job_9 ha0 (hz.lt ha0) fj_0_4 ?_
    exact g_iret e_Job_value_36 rfl
  refine g_ite (fun c2 => ?_) (fun c2 => ?_)
  · refine g_tswI e_Job_value_1.1 (1 : Int32) c2 (off := 36) (tgt := 37) (by decide) ?_
    refine g_aload_n e_Job_value_37 rfl ?_
    refine g_getI e_Job_value_38 fl_Job_45 ha0 (hz.lt ha0) fj_0_5 ?_
    exact g_iret e_Job_value_41 rfl
  refine g_ite (fun c3 => ?_) (fun c3 => ?_)
  · refine g_tswI e_Job_value_1.1 (2 : Int32) c3 (off := 41) (tgt := 42) (by decide) ?_
    refine g_aload_n e_Job_value_42 rfl ?_
    refine g_getI e_Job_value_43 fl_Job_48 ha0 (hz.lt ha0) fj_0_6 ?_
    exact g_iret e_Job_value_46 rfl
  refine g_ite (fun c4 => ?_) (fun c4 => ?_)
  · refine g_tswI e_Job_value_1.1 (3 : Int32) c4 (off := 46) (tgt := 47) (by decide) ?_
    refine g_aload_n e_Job_value_47 rfl ?_
    refine g_getI e_Job_value_48 fl_Job_15 ha0 (hz.lt ha0) fj_0_7 ?_
    exact g_iret e_Job_value_51 rfl
  refine g_hav (pq := 52) (lsq := [some (rf (kG X) a0), some (.int v1)]) (stq := []) ?_ (fun hq => ?_)
  · refine g_aload_n e_Job_value_52 rfl ?_
    refine g_getI e_Job_value_53 fl_Job_18 ha0 (hz.lt ha0) fj_0_8 ?_
    exact g_iret e_Job_value_56 rfl
  · refine g_tswO e_Job_value_1.1 (tgt := 52) (by decide) (sw_out (fun q h1 h2 => ?_)) hq
    rcases (show q = 0 ∨ q = 1 ∨ q = 2 ∨ q = 3 by omega) with rfl | rfl | rfl | rfl
    · exact c1
    · exact c2
    · exact c3
    · exact c4
set_option maxHeartbeats 4000000 in
set_option maxRecDepth 20000 in
theorem c_Job_value {l : Launch} {G : KG} {Z : ZZ} {a0 : Nat} {v1 : Int32} {M M' : Mm} {r : Int32} (hz : FU Z) (ha0 : kD a0 = 0) (h : f_Job_value a0 v1 M = some (r, M')) : CT l G y_Job_value md_Job_value 0 0 [rf G a0, .int v1] Z.2.2.1 Z.2.2.2 M (rvI r) Z.2.2.1 Z.2.2.2 M' :=
  CT.of (Z := (0, 0, Z.2.2.1, Z.2.2.2)) (Z' := (0, 0, Z.2.2.1, Z.2.2.2)) 0 (by decide) rfl ⟨rfl, rfl⟩ (by show 2 ≤ 2; decide) rfl h (fun X _ hG => by subst hG; exact t_Job_value hz ha0)
set_option maxHeartbeats 4000000 in
set_option maxRecDepth 20000 in
theorem t_Job_putValue {X : KX} {Z : ZZ} {a0 : Nat} {v1 : Int32} {v2 : Int32} {M : Mm} (hz : FU Z) (ha0 : kD a0 = 0) : GO X md_Job_putValue (QE X rvU Z) 0 [some (rf (kG X) a0), some (.int v1), some (.int v2)] [] Z M (f_Job_putValue a0 v1 v2 M) := by
  unfold f_Job_putValue
  refine g_iload_n e_Job_putValue_0 rfl ?_
  refine g_ite (fun c1 => ?_) (fun c1 => ?_)
  · refine g_tswI e_Job_putValue_1.1 (0 : Int32) c1 (off := 31) (tgt := 32) (by decide) ?_
    refine g_aload_n e_Job_putValue_32 rfl ?_
    refine g_iload_n e_Job_putValue_33 rfl ?_
    refine g_putL e_Job_putValue_34 fp_Job_9 ha0 (hz.lt ha0) fj_0_4 rfl rfl (fun M2 => ?_)
    refine g_goto e_Job_putValue_37 ?_
    exact g_vret e_Job_putValue_69 rfl
  refine g_ite (fun c3 => ?_) (fun c3 => ?_)
  · refine g_tswI e_Job_putValue_1.1 (1 : Int32) c3 (off := 39) (tgt := 40) (by decide) ?_
    refine g_aload_n e_Job_putValue_40 rfl ?_
    refine g_iload_n e_Job_putValue_41 rfl ?_
    refine g_putL e_Job_putValue_42 fp_Job_45 ha0 (hz.lt ha0) fj_0_5 rfl rfl (fun M4 => ?_)
    refine g_goto e_Job_putValue_45 ?_
    exact g_vret e_Job_putValue_69 rfl
  refine g_ite (fun c5 => ?_) (fun c5 => ?_)
  · refine g_tswI e_Job_putValue_1.1 (2 : Int32) c5 (off := 47) (tgt := 48) (by decide) ?_
    refine g_aload_n e_Job_putValue_48 rfl ?_
    refine g_iload_n e_Job_putValue_49 rfl ?_
    refine g_putL e_Job_putValue_50 fp_Job_48 ha0 (hz.lt ha0) fj_0_6 rfl rfl (fun M6 => ?_)
    refine g_goto e_Job_putValue_53 ?_
    exact g_vret e_Job_putValue_69 rfl
  refine g_ite (fun c7 => ?_) (fun c7 => ?_)
  · refine g_tswI e_Job_putValue_1.1 (3 : Int32) c7 (off := 55) (tgt := 56) (by decide) ?_
    refine g_aload_n e_Job_putValue_56 rfl ?_
    refine g_iload_n e_Job_putValue_57 rfl ?_
    refine g_putL e_Job_putValue_58 fp_Job_15 ha0 (hz.lt ha0) fj_0_7 rfl rfl (fun M8 => ?_)
    refine g_goto e_Job_putValue_61 ?_
    exact g_vret e_Job_putValue_69 rfl
  refine g_hav (pq := 64) (lsq := [some (rf (kG X) a0), some (.int v1), some (.int v2)]) (stq := []) ?_ (fun hq => ?_)
  · refine g_aload_n e_Job_putValue_64 rfl ?_
    refine g_iload_n e_Job_putValue_65 rfl ?_
    refine g_putL e_Job_putValue_66 fp_Job_18 ha0 (hz.lt ha0) fj_0_8 rfl rfl (fun M9 => ?_)
    exact g_vret e_Job_putValue_69 rfl
  · refine g_tswO e_Job_putValue_1.1 (tgt := 64) (by decide) (sw_out (fun q h1 h2 => ?_)) hq
    rcases (show q = 0 ∨ q = 1 ∨ q = 2 ∨ q = 3 by omega) with rfl | rfl | rfl | rfl
    · exact c1
    · exact c3
    · exact c5
    · exact c7
set_option maxHeartbeats 4000000 in
set_option maxRecDepth 20000 in
theorem c_Job_putValue {l : Launch} {G : KG} {Z : ZZ} {a0 : Nat} {v1 : Int32} {v2 : Int32} {M M' : Mm} {r : Unit} (hz : FU Z) (ha0 : kD a0 = 0) (h : f_Job_putValue a0 v1 v2 M = some (r, M')) : CT l G y_Job_putValue md_Job_putValue 0 0 [rf G a0, .int v1, .int v2] Z.2.2.1 Z.2.2.2 M (rvU r) Z.2.2.1 Z.2.2.2 M' :=
  CT.of (Z := (0, 0, Z.2.2.1, Z.2.2.2)) (Z' := (0, 0, Z.2.2.1, Z.2.2.2)) 0 (by decide) rfl ⟨rfl, rfl⟩ (by show 3 ≤ 3; decide) rfl h (fun X _ hG => by subst hG; exact t_Job_putValue hz ha0)
set_option maxHeartbeats 4000000 in
set_option maxRecDepth 20000 in
theorem t_Job_undergo {X : KX} {Z : ZZ} {a0 : Nat} {v1 : Int32} {v2 : Int32} {M : Mm} (hz : FU Z) (ha0 : kD a0 = 0) : GO X md_Job_undergo (QE X rvU Z) 0 [some (rf (kG X) a0), some (.int v1), some (.int v2)] [] Z M (f_Job_undergo a0 v1 v2 M) := by
  unfold f_Job_undergo
  refine g_iload_n e_Job_undergo_0 rfl ?_
  refine g_iconst (x := (3 : Int32)) e_Job_undergo_1 (by decide) ?_
  refine g_icmp_eq e_Job_undergo_2 (fun c1 => ?_) (fun c1 => ?_)
  · refine g_aload_n e_Job_undergo_14 rfl ?_
    refine g_getI e_Job_undergo_15 fl_Job_39 ha0 (hz.lt ha0) fj_0_0 ?_
    refine g_iconst (x := (4 : Int32)) e_Job_undergo_18 (by decide) ?_
    refine g_icmp_ge e_Job_undergo_19 (fun c2 => ?_) (fun c2 => ?_)
    · exact g_vret e_Job_undergo_42 rfl
    · refine g_aload_n e_Job_undergo_22 rfl ?_
      refine g_aload_n e_Job_undergo_23 rfl ?_
      refine g_getI e_Job_undergo_24 fl_Job_39 ha0 (hz.lt ha0) fj_0_0 ?_
      refine g_iconst (x := (1 : Int32)) e_Job_undergo_27 (by decide) ?_
      refine g_iadd e_Job_undergo_28 ?_
      refine g_iconst (x := (4 : Int32)) e_Job_undergo_29 (by decide) ?_
      refine g_aload_n e_Job_undergo_30 rfl ?_
      refine g_getI e_Job_undergo_31 fl_Job_42 ha0 (hz.lt ha0) fj_0_1 ?_
      refine g_imul e_Job_undergo_34 ?_
      refine g_iload_n e_Job_undergo_35 rfl ?_
      refine g_iadd e_Job_undergo_36 ?_
      refine g_iconst (x := (1 : Int32)) e_Job_undergo_37 (by decide) ?_
      refine g_isub e_Job_undergo_38 ?_
      refine g_callV (rv := rvU) (As := [.int ((M.1 a0 0) + (1 : Int32)), .int ((((4 : Int32) * (M.1 a0 1)) + v2) - (1 : Int32))]) (st := []) e_Job_undergo_39 mv_Job_35 my_Job_foldBy (by decide) rfl rfl ha0 (hz.lt ha0) rfl (Nat.le_of_ble_eq_true rfl) rfl (fun r M1 h => c_Job_foldBy (hz.lt ha0) ha0 h) (fun r4 M3 h5 => ?_)
      exact g_vret e_Job_undergo_42 rfl
  · refine g_aload_n e_Job_undergo_5 rfl ?_
    refine g_iload_n e_Job_undergo_6 rfl ?_
    refine g_iload_n e_Job_undergo_7 rfl ?_
    refine g_callV (rv := rvU) (As := [.int v1, .int v2]) (st := []) e_Job_undergo_8 mv_Job_70 my_Job_putValue (by decide) rfl rfl ha0 (hz.lt ha0) rfl (Nat.le_of_ble_eq_true rfl) rfl (fun r M1 h => c_Job_putValue hz ha0 h) (fun r7 M6 h8 => ?_)
    refine g_goto e_Job_undergo_11 ?_
    exact g_vret e_Job_undergo_42 rfl
set_option maxHeartbeats 4000000 in
set_option maxRecDepth 20000 in
theorem c_Job_undergo {l : Launch} {G : KG} {Z : ZZ} {a0 : Nat} {v1 : Int32} {v2 : Int32} {M M' : Mm} {r : Unit} (hz : FU Z) (ha0 : kD a0 = 0) (h : f_Job_undergo a0 v1 v2 M = some (r, M')) : CT l G y_Job_undergo md_Job_undergo 0 0 [rf G a0, .int v1, .int v2] Z.2.2.1 Z.2.2.2 M (rvU r) Z.2.2.1 Z.2.2.2 M' :=
  CT.of (Z := (0, 0, Z.2.2.1, Z.2.2.2)) (Z' := (0, 0, Z.2.2.1, Z.2.2.2)) 0 (by decide) rfl ⟨rfl, rfl⟩ (by show 3 ≤ 3; decide) rfl h (fun X _ hG => by subst hG; exact t_Job_undergo hz ha0)
set_option maxHeartbeats 4000000 in
set_option maxRecDepth 20000 in
theorem t_Job_leaves {X : KX} {Z : ZZ} {a0 : Nat} {M : Mm} (hz : FU Z) (ha0 : kD a0 = 0) : GO X md_Job_leaves (QE X rvI Z) 0 [some (rf (kG X) a0)] [] Z M (f_Job_leaves a0 M) := by
  unfold f_Job_leaves
  refine g_iconst (x := (1 : Int32)) e_Job_leaves_0 (by decide) ?_
  refine g_aload_n e_Job_leaves_1 rfl ?_
  refine g_getI e_Job_leaves_2 fl_Job_39 ha0 (hz.lt ha0) fj_0_0 ?_
  refine g_ishl e_Job_leaves_5 ?_
  exact g_iret e_Job_leaves_6 rfl
set_option maxHeartbeats 4000000 in
set_option maxRecDepth 20000 in
theorem c_Job_leaves {l : Launch} {G : KG} {Z : ZZ} {a0 : Nat} {M M' : Mm} {r : Int32} (hz : FU Z) (ha0 : kD a0 = 0) (h : f_Job_leaves a0 M = some (r, M')) : CT l G y_Job_leaves md_Job_leaves 0 0 [rf G a0] Z.2.2.1 Z.2.2.2 M (rvI r) Z.2.2.1 Z.2.2.2 M' :=
  CT.of (Z := (0, 0, Z.2.2.1, Z.2.2.2)) (Z' := (0, 0, Z.2.2.1, Z.2.2.2)) 0 (by decide) rfl ⟨rfl, rfl⟩ (by show 1 ≤ 1; decide) rfl h (fun X _ hG => by subst hG; exact t_Job_leaves hz ha0)
set_option maxHeartbeats 4000000 in
set_option maxRecDepth 20000 in
theorem t_Job_sides {X : KX} {Z : ZZ} {a0 : Nat} {M : Mm} (hz : FU Z) (ha0 : kD a0 = 0) : GO X md_Job_sides (QE X rvI Z) 0 [some (rf (kG X) a0)] [] Z M (f_Job_sides a0 M) := by
  unfold f_Job_sides
  refine g_iconst (x := (2 : Int32)) e_Job_sides_0 (by decide) ?_
  refine g_aload_n e_Job_sides_1 rfl ?_
  refine g_getI e_Job_sides_2 fl_Job_39 ha0 (hz.lt ha0) fj_0_0 ?_
  refine g_ishl e_Job_sides_5 ?_
  exact g_iret e_Job_sides_6 rfl
set_option maxHeartbeats 4000000 in
set_option maxRecDepth 20000 in
theorem c_Job_sides {l : Launch} {G : KG} {Z : ZZ} {a0 : Nat} {M M' : Mm} {r : Int32} (hz : FU Z) (ha0 : kD a0 = 0) (h : f_Job_sides a0 M = some (r, M')) : CT l G y_Job_sides md_Job_sides 0 0 [rf G a0] Z.2.2.1 Z.2.2.2 M (rvI r) Z.2.2.1 Z.2.2.2 M' :=
  CT.of (Z := (0, 0, Z.2.2.1, Z.2.2.2)) (Z' := (0, 0, Z.2.2.1, Z.2.2.2)) 0 (by decide) rfl ⟨rfl, rfl⟩ (by show 1 ≤ 1; decide) rfl h (fun X _ hG => by subst hG; exact t_Job_sides hz ha0)
set_option maxHeartbeats 4000000 in
set_option maxRecDepth 20000 in
theorem t_Job_sheets {X : KX} {Z : ZZ} {a0 : Nat} {M : Mm} (hz : FU Z) (ha0 : kD a0 = 0) : GO X md_Job_sheets (QE X rvI Z) 0 [some (rf (kG X) a0)] [] Z M (f_Job_sheets a0 M) := by
  unfold f_Job_sheets
  refine g_aload_n e_Job_sheets_0 rfl ?_
  refine g_getI e_Job_sheets_1 fl_Job_9 ha0 (hz.lt ha0) fj_0_4 ?_
  refine g_iconst (x := (1 : Int32)) e_Job_sheets_4 (by decide) ?_
  refine g_isub e_Job_sheets_5 ?_
  refine g_aload_n e_Job_sheets_6 rfl ?_
  refine g_getI e_Job_sheets_7 fl_Job_39 ha0 (hz.lt ha0) fj_0_0 ?_
  refine g_iconst (x := (1 : Int32)) e_Job_sheets_10 (by decide) ?_
  refine g_iadd e_Job_sheets_11 ?_
  refine g_ishr e_Job_sheets_12 ?_
  refine g_iconst (x := (1 : Int32)) e_Job_sheets_13 (by decide) ?_
  refine g_iadd e_Job_sheets_14 ?_
  exact g_iret e_Job_sheets_15 rfl
set_option maxHeartbeats 4000000 in
set_option maxRecDepth 20000 in
theorem c_Job_sheets {l : Launch} {G : KG} {Z : ZZ} {a0 : Nat} {M M' : Mm} {r : Int32} (hz : FU Z) (ha0 : kD a0 = 0) (h : f_Job_sheets a0 M = some (r, M')) : CT l G y_Job_sheets md_Job_sheets 0 0 [rf G a0] Z.2.2.1 Z.2.2.2 M (rvI r) Z.2.2.1 Z.2.2.2 M' :=
  CT.of (Z := (0, 0, Z.2.2.1, Z.2.2.2)) (Z' := (0, 0, Z.2.2.1, Z.2.2.2)) 0 (by decide) rfl ⟨rfl, rfl⟩ (by show 1 ≤ 1; decide) rfl h (fun X _ hG => by subst hG; exact t_Job_sheets hz ha0)
set_option maxHeartbeats 4000000 in
set_option maxRecDepth 20000 in
theorem t_Job_places {X : KX} {Z : ZZ} {a0 : Nat} {M : Mm} (hz : FU Z) (ha0 : kD a0 = 0) : GO X md_Job_places (QE X rvI Z) 0 [some (rf (kG X) a0)] [] Z M (f_Job_places a0 M) := by
  unfold f_Job_places
  refine g_aload_n e_Job_places_0 rfl ?_
  refine g_callV (rv := rvI) (As := []) (st := []) e_Job_places_1 mv_Job_73 my_Job_sheets (by decide) rfl rfl ha0 (hz.lt ha0) rfl (Nat.le_of_ble_eq_true rfl) rfl (fun r M1 h => c_Job_sheets hz ha0 h) (fun r2 M1 h3 => ?_)
  refine g_aload_n e_Job_places_4 rfl ?_
  refine g_callV (rv := rvI) (As := []) (st := [.int r2]) e_Job_places_5 mv_Job_77 my_Job_sides (by decide) rfl rfl ha0 (hz.lt ha0) rfl (Nat.le_of_ble_eq_true rfl) rfl (fun r M1 h => c_Job_sides hz ha0 h) (fun r5 M4 h6 => ?_)
  refine g_imul e_Job_places_8 ?_
  exact g_iret e_Job_places_9 rfl
set_option maxHeartbeats 4000000 in
set_option maxRecDepth 20000 in
theorem c_Job_places {l : Launch} {G : KG} {Z : ZZ} {a0 : Nat} {M M' : Mm} {r : Int32} (hz : FU Z) (ha0 : kD a0 = 0) (h : f_Job_places a0 M = some (r, M')) : CT l G y_Job_places md_Job_places 0 0 [rf G a0] Z.2.2.1 Z.2.2.2 M (rvI r) Z.2.2.1 Z.2.2.2 M' :=
  CT.of (Z := (0, 0, Z.2.2.1, Z.2.2.2)) (Z' := (0, 0, Z.2.2.1, Z.2.2.2)) 0 (by decide) rfl ⟨rfl, rfl⟩ (by show 1 ≤ 1; decide) rfl h (fun X _ hG => by subst hG; exact t_Job_places hz ha0)
set_option maxHeartbeats 4000000 in
set_option maxRecDepth 20000 in
theorem t_Job_empties {X : KX} {Z : ZZ} {a0 : Nat} {M : Mm} (hz : FU Z) (ha0 : kD a0 = 0) : GO X md_Job_empties (QE X rvI Z) 0 [some (rf (kG X) a0)] [] Z M (f_Job_empties a0 M) := by
  unfold f_Job_empties
  refine g_aload_n e_Job_empties_0 rfl ?_
  refine g_callV (rv := rvI) (As := []) (st := []) e_Job_empties_1 mv_Job_80 my_Job_places (by decide) rfl rfl ha0 (hz.lt ha0) rfl (Nat.le_of_ble_eq_true rfl) rfl (fun r M1 h => c_Job_places hz ha0 h) (fun r2 M1 h3 => ?_)
  refine g_aload_n e_Job_empties_4 rfl ?_
  refine g_getI e_Job_empties_5 fl_Job_9 ha0 (hz.lt ha0) fj_0_4 ?_
  refine g_isub e_Job_empties_8 ?_
  exact g_iret e_Job_empties_9 rfl
set_option maxHeartbeats 4000000 in
set_option maxRecDepth 20000 in
theorem c_Job_empties {l : Launch} {G : KG} {Z : ZZ} {a0 : Nat} {M M' : Mm} {r : Int32} (hz : FU Z) (ha0 : kD a0 = 0) (h : f_Job_empties a0 M = some (r, M')) : CT l G y_Job_empties md_Job_empties 0 0 [rf G a0] Z.2.2.1 Z.2.2.2 M (rvI r) Z.2.2.1 Z.2.2.2 M' :=
  CT.of (Z := (0, 0, Z.2.2.1, Z.2.2.2)) (Z' := (0, 0, Z.2.2.1, Z.2.2.2)) 0 (by decide) rfl ⟨rfl, rfl⟩ (by show 1 ≤ 1; decide) rfl h (fun X _ hG => by subst hG; exact t_Job_empties hz ha0)
set_option maxHeartbeats 4000000 in
set_option maxRecDepth 20000 in
theorem t_Job_hasPlaceOf {X : KX} {Z : ZZ} {a0 : Nat} {v1 : Int32} {M : Mm} (hz : FU Z) (ha0 : kD a0 = 0) : GO X md_Job_hasPlaceOf (QE X rvI Z) 0 [some (rf (kG X) a0), some (.int v1)] [] Z M (f_Job_hasPlaceOf a0 v1 M) := by
  unfold f_Job_hasPlaceOf
  refine g_iload_n e_Job_hasPlaceOf_0 rfl ?_
  refine g_iconst (x := (1 : Int32)) e_Job_hasPlaceOf_1 (by decide) ?_
  refine g_icmp_lt e_Job_hasPlaceOf_2 (fun c1 => ?_) (fun c1 => ?_)
  · refine g_iconst (x := (0 : Int32)) e_Job_hasPlaceOf_17 (by decide) ?_
    exact g_zret e_Job_hasPlaceOf_18 rfl (by decide)
  · refine g_iload_n e_Job_hasPlaceOf_5 rfl ?_
    refine g_aload_n e_Job_hasPlaceOf_6 rfl ?_
    refine g_callV (rv := rvI) (As := []) (st := [.int v1]) e_Job_hasPlaceOf_7 mv_Job_80 my_Job_places (by decide) rfl rfl ha0 (hz.lt ha0) rfl (Nat.le_of_ble_eq_true rfl) rfl (fun r M1 h => c_Job_places hz ha0 h) (fun r3 M2 h4 => ?_)
    refine g_icmp_gt e_Job_hasPlaceOf_10 (fun c5 => ?_) (fun c5 => ?_)
    · refine g_iconst (x := (0 : Int32)) e_Job_hasPlaceOf_17 (by decide) ?_
      exact g_zret e_Job_hasPlaceOf_18 rfl (by decide)
    · refine g_iconst (x := (1 : Int32)) e_Job_hasPlaceOf_13 (by decide) ?_
      refine g_goto e_Job_hasPlaceOf_14 ?_
      exact g_zret e_Job_hasPlaceOf_18 rfl (by decide)
set_option maxHeartbeats 4000000 in
set_option maxRecDepth 20000 in
theorem c_Job_hasPlaceOf {l : Launch} {G : KG} {Z : ZZ} {a0 : Nat} {v1 : Int32} {M M' : Mm} {r : Int32} (hz : FU Z) (ha0 : kD a0 = 0) (h : f_Job_hasPlaceOf a0 v1 M = some (r, M')) : CT l G y_Job_hasPlaceOf md_Job_hasPlaceOf 0 0 [rf G a0, .int v1] Z.2.2.1 Z.2.2.2 M (rvI r) Z.2.2.1 Z.2.2.2 M' :=
  CT.of (Z := (0, 0, Z.2.2.1, Z.2.2.2)) (Z' := (0, 0, Z.2.2.1, Z.2.2.2)) 0 (by decide) rfl ⟨rfl, rfl⟩ (by show 2 ≤ 2; decide) rfl h (fun X _ hG => by subst hG; exact t_Job_hasPlaceOf hz ha0)
set_option maxHeartbeats 4000000 in
set_option maxRecDepth 20000 in
theorem t_Job_hasForme {X : KX} {Z : ZZ} {a0 : Nat} {v1 : Int32} {M : Mm} (hz : FU Z) (ha0 : kD a0 = 0) : GO X md_Job_hasForme (QE X rvI Z) 0 [some (rf (kG X) a0), some (.int v1)] [] Z M (f_Job_hasForme a0 v1 M) := by
  unfold f_Job_hasForme
  refine g_iload_n e_Job_hasForme_0 rfl ?_
  refine g_if_lt e_Job_hasForme_1 (fun c1 => ?_) (fun c1 => ?_)
  · refine g_iconst (x := (0 : Int32)) e_Job_hasForme_27 (by decide) ?_
    exact g_zret e_Job_hasForme_28 rfl (by decide)
  · refine g_iload_n e_Job_hasForme_4 rfl ?_
    refine g_bipush (x := (10 : Int32)) e_Job_hasForme_5 (by decide) ?_
    refine g_irem e_Job_hasForme_7 (by decide) ?_
    refine g_iconst (x := (1 : Int32)) e_Job_hasForme_8 (by decide) ?_
    refine g_icmp_gt e_Job_hasForme_9 (fun c2 => ?_) (fun c2 => ?_)
    · refine g_iconst (x := (0 : Int32)) e_Job_hasForme_27 (by decide) ?_
      exact g_zret e_Job_hasForme_28 rfl (by decide)
    · refine g_iload_n e_Job_hasForme_12 rfl ?_
      refine g_bipush (x := (10 : Int32)) e_Job_hasForme_13 (by decide) ?_
      refine g_idiv e_Job_hasForme_15 (by decide) ?_
      refine g_aload_n e_Job_hasForme_16 rfl ?_
      refine g_callV (rv := rvI) (As := []) (st := [.int (v1 / (10 : Int32))]) e_Job_hasForme_17 mv_Job_73 my_Job_sheets (by decide) rfl rfl ha0 (hz.lt ha0) rfl (Nat.le_of_ble_eq_true rfl) rfl (fun r M1 h => c_Job_sheets hz ha0 h) (fun r4 M3 h5 => ?_)
      refine g_icmp_ge e_Job_hasForme_20 (fun c6 => ?_) (fun c6 => ?_)
      · refine g_iconst (x := (0 : Int32)) e_Job_hasForme_27 (by decide) ?_
        exact g_zret e_Job_hasForme_28 rfl (by decide)
      · refine g_iconst (x := (1 : Int32)) e_Job_hasForme_23 (by decide) ?_
        refine g_goto e_Job_hasForme_24 ?_
        exact g_zret e_Job_hasForme_28 rfl (by decide)
set_option maxHeartbeats 4000000 in
set_option maxRecDepth 20000 in
theorem c_Job_hasForme {l : Launch} {G : KG} {Z : ZZ} {a0 : Nat} {v1 : Int32} {M M' : Mm} {r : Int32} (hz : FU Z) (ha0 : kD a0 = 0) (h : f_Job_hasForme a0 v1 M = some (r, M')) : CT l G y_Job_hasForme md_Job_hasForme 0 0 [rf G a0, .int v1] Z.2.2.1 Z.2.2.2 M (rvI r) Z.2.2.1 Z.2.2.2 M' :=
  CT.of (Z := (0, 0, Z.2.2.1, Z.2.2.2)) (Z' := (0, 0, Z.2.2.1, Z.2.2.2)) 0 (by decide) rfl ⟨rfl, rfl⟩ (by show 2 ≤ 2; decide) rfl h (fun X _ hG => by subst hG; exact t_Job_hasForme hz ha0)
set_option maxHeartbeats 4000000 in
set_option maxRecDepth 20000 in
theorem t_Job_hasCell {X : KX} {Z : ZZ} {a0 : Nat} {v1 : Int32} {v2 : Int32} {v3 : Int32} {M : Mm} (hz : FU Z) (ha0 : kD a0 = 0) : GO X md_Job_hasCell (QE X rvI Z) 0 [some (rf (kG X) a0), some (.int v1), some (.int v2), some (.int v3)] [] Z M (f_Job_hasCell a0 v1 v2 v3 M) := by
  unfold f_Job_hasCell
  refine g_aload_n e_Job_hasCell_0 rfl ?_
  refine g_iload_n e_Job_hasCell_1 rfl ?_
  refine g_callV (rv := rvI) (As := [.int v1]) (st := []) e_Job_hasCell_2 mv_Job_83 my_Job_hasForme (by decide) rfl rfl ha0 (hz.lt ha0) rfl (Nat.le_of_ble_eq_true rfl) rfl (fun r M1 h => c_Job_hasForme hz ha0 h) (fun r2 M1 h3 => ?_)
  refine g_if_eq e_Job_hasCell_5 (fun c4 => ?_) (fun c4 => ?_)
  · refine g_iconst (x := (0 : Int32)) e_Job_hasCell_36 (by decide) ?_
    exact g_zret e_Job_hasCell_37 rfl (by decide)
  · refine g_iload_n e_Job_hasCell_8 rfl ?_
    refine g_if_lt e_Job_hasCell_9 (fun c5 => ?_) (fun c5 => ?_)
    · refine g_iconst (x := (0 : Int32)) e_Job_hasCell_36 (by decide) ?_
      exact g_zret e_Job_hasCell_37 rfl (by decide)
    · refine g_iload_n e_Job_hasCell_12 rfl ?_
      refine g_aload_n e_Job_hasCell_13 rfl ?_
      refine g_getI e_Job_hasCell_14 fl_Job_54 ha0 (hz.lt ha0) fj_0_3 ?_
      refine g_icmp_ge e_Job_hasCell_17 (fun c6 => ?_) (fun c6 => ?_)
      · refine g_iconst (x := (0 : Int32)) e_Job_hasCell_36 (by decide) ?_
        exact g_zret e_Job_hasCell_37 rfl (by decide)
      · refine g_iload_n e_Job_hasCell_20 rfl ?_
        refine g_if_lt e_Job_hasCell_21 (fun c7 => ?_) (fun c7 => ?_)
        · refine g_iconst (x := (0 : Int32)) e_Job_hasCell_36 (by decide) ?_
          exact g_zret e_Job_hasCell_37 rfl (by decide)
        · refine g_iload_n e_Job_hasCell_24 rfl ?_
          refine g_aload_n e_Job_hasCell_25 rfl ?_
          refine g_getI e_Job_hasCell_26 fl_Job_51 ha0 (hz.lt ha0) fj_0_2 ?_
          refine g_icmp_ge e_Job_hasCell_29 (fun c8 => ?_) (fun c8 => ?_)
          · refine g_iconst (x := (0 : Int32)) e_Job_hasCell_36 (by decide) ?_
            exact g_zret e_Job_hasCell_37 rfl (by decide)
          · refine g_iconst (x := (1 : Int32)) e_Job_hasCell_32 (by decide) ?_
            refine g_goto e_Job_hasCell_33 ?_
            exact g_zret e_Job_hasCell_37 rfl (by decide)
set_option maxHeartbeats 4000000 in
set_option maxRecDepth 20000 in
theorem c_Job_hasCell {l : Launch} {G : KG} {Z : ZZ} {a0 : Nat} {v1 : Int32} {v2 : Int32} {v3 : Int32} {M M' : Mm} {r : Int32} (hz : FU Z) (ha0 : kD a0 = 0) (h : f_Job_hasCell a0 v1 v2 v3 M = some (r, M')) : CT l G y_Job_hasCell md_Job_hasCell 0 0 [rf G a0, .int v1, .int v2, .int v3] Z.2.2.1 Z.2.2.2 M (rvI r) Z.2.2.1 Z.2.2.2 M' :=
  CT.of (Z := (0, 0, Z.2.2.1, Z.2.2.2)) (Z' := (0, 0, Z.2.2.1, Z.2.2.2)) 0 (by decide) rfl ⟨rfl, rfl⟩ (by show 4 ≤ 4; decide) rfl h (fun X _ hG => by subst hG; exact t_Job_hasCell hz ha0)
set_option maxHeartbeats 4000000 in
set_option maxRecDepth 20000 in
theorem t_Job_sheetOf {X : KX} {Z : ZZ} {a0 : Nat} {v1 : Int32} {M : Mm} (hz : FU Z) (ha0 : kD a0 = 0) : GO X md_Job_sheetOf (QE X rvI Z) 0 [some (rf (kG X) a0), some (.int v1)] [] Z M (f_Job_sheetOf a0 v1 M) := by
  unfold f_Job_sheetOf
  refine g_aload_n e_Job_sheetOf_0 rfl ?_
  refine g_getI e_Job_sheetOf_1 fl_Job_45 ha0 (hz.lt ha0) fj_0_5 ?_
  refine g_if_ne e_Job_sheetOf_4 (fun c1 => ?_) (fun c1 => ?_)
  · refine g_iload_n e_Job_sheetOf_18 rfl ?_
    refine g_iconst (x := (1 : Int32)) e_Job_sheetOf_19 (by decide) ?_
    refine g_isub e_Job_sheetOf_20 ?_
    refine g_aload_n e_Job_sheetOf_21 rfl ?_
    refine g_callV (rv := rvI) (As := []) (st := [.int (v1 - (1 : Int32))]) e_Job_sheetOf_22 mv_Job_80 my_Job_places (by decide) rfl rfl ha0 (hz.lt ha0) rfl (Nat.le_of_ble_eq_true rfl) rfl (fun r M1 h => c_Job_places hz ha0 h) (fun r3 M2 h4 => ?_)
    refine g_iload_n e_Job_sheetOf_25 rfl ?_
    refine g_isub e_Job_sheetOf_26 ?_
    refine g_mmin e_Job_sheetOf_27 ⟨w_440, w_441, w_12, w_442⟩ ⟨by decide, Nat.le_of_ble_eq_true rfl⟩ ?_
    refine g_aload_n e_Job_sheetOf_30 rfl ?_
    refine g_getI e_Job_sheetOf_31 fl_Job_39 ha0 (hz.lt ha0) fj_0_0 ?_
    refine g_ishr e_Job_sheetOf_34 ?_
    exact g_iret e_Job_sheetOf_35 rfl
  · refine g_iload_n e_Job_sheetOf_7 rfl ?_
    refine g_iconst (x := (1 : Int32)) e_Job_sheetOf_8 (by decide) ?_
    refine g_isub e_Job_sheetOf_9 ?_
    refine g_aload_n e_Job_sheetOf_10 rfl ?_
    refine g_getI e_Job_sheetOf_11 fl_Job_39 ha0 (hz.lt ha0) fj_0_0 ?_
    refine g_iconst (x := (1 : Int32)) e_Job_sheetOf_14 (by decide) ?_
    refine g_iadd e_Job_sheetOf_15 ?_
    refine g_ishr e_Job_sheetOf_16 ?_
    exact g_iret e_Job_sheetOf_17 rfl
set_option maxHeartbeats 4000000 in
set_option maxRecDepth 20000 in
theorem c_Job_sheetOf {l : Launch} {G : KG} {Z : ZZ} {a0 : Nat} {v1 : Int32} {M M' : Mm} {r : Int32} (hz : FU Z) (ha0 : kD a0 = 0) (h : f_Job_sheetOf a0 v1 M = some (r, M')) : CT l G y_Job_sheetOf md_Job_sheetOf 0 0 [rf G a0, .int v1] Z.2.2.1 Z.2.2.2 M (rvI r) Z.2.2.1 Z.2.2.2 M' :=
  CT.of (Z := (0, 0, Z.2.2.1, Z.2.2.2)) (Z' := (0, 0, Z.2.2.1, Z.2.2.2)) 0 (by decide) rfl ⟨rfl, rfl⟩ (by show 2 ≤ 2; decide) rfl h (fun X _ hG => by subst hG; exact t_Job_sheetOf hz ha0)
set_option maxHeartbeats 4000000 in
set_option maxRecDepth 20000 in
theorem t_Job_numberOf {X : KX} {Z : ZZ} {a0 : Nat} {v1 : Int32} {M : Mm} (hz : FU Z) (ha0 : kD a0 = 0) : GO X md_Job_numberOf (QE X rvI Z) 0 [some (rf (kG X) a0), some (.int v1), none, none, none] [] Z M (f_Job_numberOf a0 v1 M) := by
  unfold f_Job_numberOf
  refine g_aload_n e_Job_numberOf_0 rfl ?_
  refine g_getI e_Job_numberOf_1 fl_Job_45 ha0 (hz.lt ha0) fj_0_5 ?_
  refine g_if_ne e_Job_numberOf_4 (fun c1 => ?_) (fun c1 => ?_)
  · refine g_iload_n e_Job_numberOf_18 rfl ?_
    refine g_iconst (x := (1 : Int32)) e_Job_numberOf_19 (by decide) ?_
    refine g_isub e_Job_numberOf_20 ?_
    refine g_istoreL_n e_Job_numberOf_21 (by decide) rfl (fun x2 => ?_)
    refine g_aload_n e_Job_numberOf_22 rfl ?_
    refine g_callV (rv := rvI) (As := []) (st := []) e_Job_numberOf_23 mv_Job_80 my_Job_places (by decide) rfl rfl ha0 (hz.lt ha0) rfl (Nat.le_of_ble_eq_true rfl) rfl (fun r M1 h => c_Job_places hz ha0 h) (fun r4 M3 h5 => ?_)
    refine g_iload_n e_Job_numberOf_26 rfl ?_
    refine g_isub e_Job_numberOf_27 ?_
    refine g_istoreL_n e_Job_numberOf_28 (by decide) rfl (fun x6 => ?_)
    refine g_iload_n e_Job_numberOf_29 rfl ?_
    refine g_iload_n e_Job_numberOf_30 rfl ?_
    refine g_mmin e_Job_numberOf_31 ⟨w_440, w_441, w_12, w_442⟩ ⟨by decide, Nat.le_of_ble_eq_true rfl⟩ ?_
    refine g_aload_n e_Job_numberOf_34 rfl ?_
    refine g_callV (rv := rvI) (As := []) (st := [.int (if x6 < x2 then x6 else x2)]) e_Job_numberOf_35 mv_Job_92 my_Job_leaves (by decide) rfl rfl ha0 (hz.lt ha0) rfl (Nat.le_of_ble_eq_true rfl) rfl (fun r M1 h => c_Job_leaves hz ha0 h) (fun r8 M7 h9 => ?_)
    refine g_iconst (x := (1 : Int32)) e_Job_numberOf_38 (by decide) ?_
    refine g_isub e_Job_numberOf_39 ?_
    refine g_iand e_Job_numberOf_40 ?_
    refine g_istoreL e_Job_numberOf_41 (by decide) rfl (fun x10 => ?_)
    refine g_iload_n e_Job_numberOf_43 rfl ?_
    refine g_iload_n e_Job_numberOf_44 rfl ?_
    refine g_icmp_ge e_Job_numberOf_45 (fun c11 => ?_) (fun c11 => ?_)
    · refine g_aload_n e_Job_numberOf_53 rfl ?_
      refine g_callV (rv := rvI) (As := []) (st := []) e_Job_numberOf_54 mv_Job_77 my_Job_sides (by decide) rfl rfl ha0 (hz.lt ha0) rfl (Nat.le_of_ble_eq_true rfl) rfl (fun r M1 h => c_Job_sides hz ha0 h) (fun r13 M12 h14 => ?_)
      refine g_iconst (x := (1 : Int32)) e_Job_numberOf_57 (by decide) ?_
      refine g_isub e_Job_numberOf_58 ?_
      refine g_iload e_Job_numberOf_59 rfl ?_
      refine g_isub e_Job_numberOf_61 ?_
      exact g_iret e_Job_numberOf_62 rfl
    · refine g_iload e_Job_numberOf_48 rfl ?_
      refine g_goto e_Job_numberOf_50 ?_
      exact g_iret e_Job_numberOf_62 rfl
  · refine g_iload_n e_Job_numberOf_7 rfl ?_
    refine g_iconst (x := (1 : Int32)) e_Job_numberOf_8 (by decide) ?_
    refine g_isub e_Job_numberOf_9 ?_
    refine g_aload_n e_Job_numberOf_10 rfl ?_
    refine g_callV (rv := rvI) (As := []) (st := [.int (v1 - (1 : Int32))]) e_Job_numberOf_11 mv_Job_77 my_Job_sides (by decide) rfl rfl ha0 (hz.lt ha0) rfl (Nat.le_of_ble_eq_true rfl) rfl (fun r M1 h => c_Job_sides hz ha0 h) (fun r16 M15 h17 => ?_)
    refine g_iconst (x := (1 : Int32)) e_Job_numberOf_14 (by decide) ?_
    refine g_isub e_Job_numberOf_15 ?_
    refine g_iand e_Job_numberOf_16 ?_
    exact g_iret e_Job_numberOf_17 rfl
set_option maxHeartbeats 4000000 in
set_option maxRecDepth 20000 in
theorem c_Job_numberOf {l : Launch} {G : KG} {Z : ZZ} {a0 : Nat} {v1 : Int32} {M M' : Mm} {r : Int32} (hz : FU Z) (ha0 : kD a0 = 0) (h : f_Job_numberOf a0 v1 M = some (r, M')) : CT l G y_Job_numberOf md_Job_numberOf 0 0 [rf G a0, .int v1] Z.2.2.1 Z.2.2.2 M (rvI r) Z.2.2.1 Z.2.2.2 M' :=
  CT.of (Z := (0, 0, Z.2.2.1, Z.2.2.2)) (Z' := (0, 0, Z.2.2.1, Z.2.2.2)) 3 (by decide) rfl ⟨rfl, rfl⟩ (by show 2 ≤ 5; decide) rfl h (fun X _ hG => by subst hG; exact t_Job_numberOf hz ha0)
set_option maxHeartbeats 4000000 in
set_option maxRecDepth 20000 in
theorem t_Job_pageInRun {X : KX} {Z : ZZ} {a0 : Nat} {v1 : Int32} {v2 : Int32} {M : Mm} (hz : FU Z) (ha0 : kD a0 = 0) : GO X md_Job_pageInRun (QE X rvI Z) 0 [some (rf (kG X) a0), some (.int v1), some (.int v2)] [] Z M (f_Job_pageInRun a0 v1 v2 M) := by
  unfold f_Job_pageInRun
  refine g_aload_n e_Job_pageInRun_0 rfl ?_
  refine g_getI e_Job_pageInRun_1 fl_Job_45 ha0 (hz.lt ha0) fj_0_5 ?_
  refine g_if_ne e_Job_pageInRun_4 (fun c1 => ?_) (fun c1 => ?_)
  · refine g_iload_n e_Job_pageInRun_18 rfl ?_
    refine g_aload_n e_Job_pageInRun_19 rfl ?_
    refine g_callV (rv := rvI) (As := []) (st := [.int v2]) e_Job_pageInRun_20 mv_Job_92 my_Job_leaves (by decide) rfl rfl ha0 (hz.lt ha0) rfl (Nat.le_of_ble_eq_true rfl) rfl (fun r M1 h => c_Job_leaves hz ha0 h) (fun r3 M2 h4 => ?_)
    refine g_icmp_ge e_Job_pageInRun_23 (fun c5 => ?_) (fun c5 => ?_)
    · refine g_aload_n e_Job_pageInRun_37 rfl ?_
      refine g_callV (rv := rvI) (As := []) (st := []) e_Job_pageInRun_38 mv_Job_80 my_Job_places (by decide) rfl rfl ha0 (hz.lt ha0) rfl (Nat.le_of_ble_eq_true rfl) rfl (fun r M1 h => c_Job_places hz ha0 h) (fun r7 M6 h8 => ?_)
      refine g_iload_n e_Job_pageInRun_41 rfl ?_
      refine g_aload_n e_Job_pageInRun_42 rfl ?_
      refine g_callV (rv := rvI) (As := []) (st := [.int v1, .int r7]) e_Job_pageInRun_43 mv_Job_92 my_Job_leaves (by decide) rfl rfl ha0 (hz.lt ha0) rfl (Nat.le_of_ble_eq_true rfl) rfl (fun r M1 h => c_Job_leaves hz ha0 h) (fun r10 M9 h11 => ?_)
      refine g_imul e_Job_pageInRun_46 ?_
      refine g_isub e_Job_pageInRun_47 ?_
      refine g_aload_n e_Job_pageInRun_48 rfl ?_
      refine g_callV (rv := rvI) (As := []) (st := [.int (r7 - (v1 * r10))]) e_Job_pageInRun_49 mv_Job_77 my_Job_sides (by decide) rfl rfl ha0 (hz.lt ha0) rfl (Nat.le_of_ble_eq_true rfl) rfl (fun r M1 h => c_Job_sides hz ha0 h) (fun r13 M12 h14 => ?_)
      refine g_iconst (x := (1 : Int32)) e_Job_pageInRun_52 (by decide) ?_
      refine g_isub e_Job_pageInRun_53 ?_
      refine g_iload_n e_Job_pageInRun_54 rfl ?_
      refine g_isub e_Job_pageInRun_55 ?_
      refine g_isub e_Job_pageInRun_56 ?_
      exact g_iret e_Job_pageInRun_57 rfl
    · refine g_iload_n e_Job_pageInRun_26 rfl ?_
      refine g_aload_n e_Job_pageInRun_27 rfl ?_
      refine g_callV (rv := rvI) (As := []) (st := [.int v1]) e_Job_pageInRun_28 mv_Job_92 my_Job_leaves (by decide) rfl rfl ha0 (hz.lt ha0) rfl (Nat.le_of_ble_eq_true rfl) rfl (fun r M1 h => c_Job_leaves hz ha0 h) (fun r16 M15 h17 => ?_)
      refine g_imul e_Job_pageInRun_31 ?_
      refine g_iload_n e_Job_pageInRun_32 rfl ?_
      refine g_iadd e_Job_pageInRun_33 ?_
      refine g_iconst (x := (1 : Int32)) e_Job_pageInRun_34 (by decide) ?_
      refine g_iadd e_Job_pageInRun_35 ?_
      exact g_iret e_Job_pageInRun_36 rfl
  · refine g_iload_n e_Job_pageInRun_7 rfl ?_
    refine g_aload_n e_Job_pageInRun_8 rfl ?_
    refine g_callV (rv := rvI) (As := []) (st := [.int v1]) e_Job_pageInRun_9 mv_Job_77 my_Job_sides (by decide) rfl rfl ha0 (hz.lt ha0) rfl (Nat.le_of_ble_eq_true rfl) rfl (fun r M1 h => c_Job_sides hz ha0 h) (fun r19 M18 h20 => ?_)
    refine g_imul e_Job_pageInRun_12 ?_
    refine g_iload_n e_Job_pageInRun_13 rfl ?_
    refine g_iadd e_Job_pageInRun_14 ?_
    refine g_iconst (x := (1 : Int32)) e_Job_pageInRun_15 (by decide) ?_
    refine g_iadd e_Job_pageInRun_16 ?_
    exact g_iret e_Job_pageInRun_17 rfl
set_option maxHeartbeats 4000000 in
set_option maxRecDepth 20000 in
theorem c_Job_pageInRun {l : Launch} {G : KG} {Z : ZZ} {a0 : Nat} {v1 : Int32} {v2 : Int32} {M M' : Mm} {r : Int32} (hz : FU Z) (ha0 : kD a0 = 0) (h : f_Job_pageInRun a0 v1 v2 M = some (r, M')) : CT l G y_Job_pageInRun md_Job_pageInRun 0 0 [rf G a0, .int v1, .int v2] Z.2.2.1 Z.2.2.2 M (rvI r) Z.2.2.1 Z.2.2.2 M' :=
  CT.of (Z := (0, 0, Z.2.2.1, Z.2.2.2)) (Z' := (0, 0, Z.2.2.1, Z.2.2.2)) 0 (by decide) rfl ⟨rfl, rfl⟩ (by show 3 ≤ 3; decide) rfl h (fun X _ hG => by subst hG; exact t_Job_pageInRun hz ha0)
set_option maxHeartbeats 4000000 in
set_option maxRecDepth 20000 in
theorem t_Job_mirroredRow {X : KX} {Z : ZZ} {a0 : Nat} {v1 : Int32} {v2 : Int32} {M : Mm} (hz : FU Z) (ha0 : kD a0 = 0) : GO X md_Job_mirroredRow (QE X rvI Z) 0 [some (rf (kG X) a0), some (.int v1), some (.int v2)] [] Z M (f_Job_mirroredRow a0 v1 v2 M) := by
  unfold f_Job_mirroredRow
  refine g_iload_n e_Job_mirroredRow_0 rfl ?_
  refine g_iconst (x := (1 : Int32)) e_Job_mirroredRow_1 (by decide) ?_
  refine g_phi1 25 (fun x3 => [none, none, none]) (fun x3 => [.int x3]) (fun x3 => ?_) (fun hj4 => ?_)
  · show GO X _ _ 25 [none, none, none] [.int x3] Z M _
    exact g_iret e_Job_mirroredRow_25 rfl
  · refine g_icmp_ne' e_Job_mirroredRow_2 (fun c1 => ?_) (fun c1 => ?_)
    · refine g_iload_n e_Job_mirroredRow_24 rfl ?_
      exact (g_pf c1 (g_lt (g_wq (hj4 v2) trivial)))
    · refine g_aload_n e_Job_mirroredRow_5 rfl ?_
      refine g_getI e_Job_mirroredRow_6 fl_Job_48 ha0 (hz.lt ha0) fj_0_6 ?_
      refine g_iconst (x := (1 : Int32)) e_Job_mirroredRow_9 (by decide) ?_
      refine g_icmp_ne' e_Job_mirroredRow_10 (fun c2 => ?_) (fun c2 => ?_)
      · refine g_iload_n e_Job_mirroredRow_24 rfl ?_
        exact (g_pt c1 (g_pf c2 (g_lt (g_wq (hj4 v2) trivial))))
      · refine g_aload_n e_Job_mirroredRow_13 rfl ?_
        refine g_getI e_Job_mirroredRow_14 fl_Job_54 ha0 (hz.lt ha0) fj_0_3 ?_
        refine g_iconst (x := (1 : Int32)) e_Job_mirroredRow_17 (by decide) ?_
        refine g_isub e_Job_mirroredRow_18 ?_
        refine g_iload_n e_Job_mirroredRow_19 rfl ?_
        refine g_isub e_Job_mirroredRow_20 ?_
        refine g_goto e_Job_mirroredRow_21 ?_
        exact (g_pt c1 (g_pt c2 (g_lt (g_wq (hj4 (((M.1 a0 3) - (1 : Int32)) - v2)) trivial))))
set_option maxHeartbeats 4000000 in
set_option maxRecDepth 20000 in
theorem c_Job_mirroredRow {l : Launch} {G : KG} {Z : ZZ} {a0 : Nat} {v1 : Int32} {v2 : Int32} {M M' : Mm} {r : Int32} (hz : FU Z) (ha0 : kD a0 = 0) (h : f_Job_mirroredRow a0 v1 v2 M = some (r, M')) : CT l G y_Job_mirroredRow md_Job_mirroredRow 0 0 [rf G a0, .int v1, .int v2] Z.2.2.1 Z.2.2.2 M (rvI r) Z.2.2.1 Z.2.2.2 M' :=
  CT.of (Z := (0, 0, Z.2.2.1, Z.2.2.2)) (Z' := (0, 0, Z.2.2.1, Z.2.2.2)) 0 (by decide) rfl ⟨rfl, rfl⟩ (by show 3 ≤ 3; decide) rfl h (fun X _ hG => by subst hG; exact t_Job_mirroredRow hz ha0)
set_option maxHeartbeats 4000000 in
set_option maxRecDepth 20000 in
theorem t_Job_mirroredColumn {X : KX} {Z : ZZ} {a0 : Nat} {v1 : Int32} {v2 : Int32} {M : Mm} (hz : FU Z) (ha0 : kD a0 = 0) : GO X md_Job_mirroredColumn (QE X rvI Z) 0 [some (rf (kG X) a0), some (.int v1), some (.int v2)] [] Z M (f_Job_mirroredColumn a0 v1 v2 M) := by
  unfold f_Job_mirroredColumn
  refine g_iload_n e_Job_mirroredColumn_0 rfl ?_
  refine g_iconst (x := (1 : Int32)) e_Job_mirroredColumn_1 (by decide) ?_
  refine g_phi1 24 (fun x3 => [none, none, none]) (fun x3 => [.int x3]) (fun x3 => ?_) (fun hj4 => ?_)
  · show GO X _ _ 24 [none, none, none] [.int x3] Z M _
    exact g_iret e_Job_mirroredColumn_24 rfl
  · refine g_icmp_ne' e_Job_mirroredColumn_2 (fun c1 => ?_) (fun c1 => ?_)
    · refine g_iload_n e_Job_mirroredColumn_23 rfl ?_
      exact (g_pf c1 (g_lt (g_wq (hj4 v2) trivial)))
    · refine g_aload_n e_Job_mirroredColumn_5 rfl ?_
      refine g_getI e_Job_mirroredColumn_6 fl_Job_48 ha0 (hz.lt ha0) fj_0_6 ?_
      refine g_if_ne' e_Job_mirroredColumn_9 (fun c2 => ?_) (fun c2 => ?_)
      · refine g_iload_n e_Job_mirroredColumn_23 rfl ?_
        exact (g_pt c1 (g_pf c2 (g_lt (g_wq (hj4 v2) trivial))))
      · refine g_aload_n e_Job_mirroredColumn_12 rfl ?_
        refine g_getI e_Job_mirroredColumn_13 fl_Job_51 ha0 (hz.lt ha0) fj_0_2 ?_
        refine g_iconst (x := (1 : Int32)) e_Job_mirroredColumn_16 (by decide) ?_
        refine g_isub e_Job_mirroredColumn_17 ?_
        refine g_iload_n e_Job_mirroredColumn_18 rfl ?_
        refine g_isub e_Job_mirroredColumn_19 ?_
        refine g_goto e_Job_mirroredColumn_20 ?_
        exact (g_pt c1 (g_pt c2 (g_lt (g_wq (hj4 (((M.1 a0 2) - (1 : Int32)) - v2)) trivial))))
set_option maxHeartbeats 4000000 in
set_option maxRecDepth 20000 in
theorem c_Job_mirroredColumn {l : Launch} {G : KG} {Z : ZZ} {a0 : Nat} {v1 : Int32} {v2 : Int32} {M M' : Mm} {r : Int32} (hz : FU Z) (ha0 : kD a0 = 0) (h : f_Job_mirroredColumn a0 v1 v2 M = some (r, M')) : CT l G y_Job_mirroredColumn md_Job_mirroredColumn 0 0 [rf G a0, .int v1, .int v2] Z.2.2.1 Z.2.2.2 M (rvI r) Z.2.2.1 Z.2.2.2 M' :=
  CT.of (Z := (0, 0, Z.2.2.1, Z.2.2.2)) (Z' := (0, 0, Z.2.2.1, Z.2.2.2)) 0 (by decide) rfl ⟨rfl, rfl⟩ (by show 3 ≤ 3; decide) rfl h (fun X _ hG => by subst hG; exact t_Job_mirroredColumn hz ha0)
set_option maxHeartbeats 4000000 in
set_option maxRecDepth 20000 in
theorem t_Leaf_turnOver {X : KX} {Z : ZZ} {a0 : Nat} {v1 : Int32} {v2 : Int32} {M : Mm} (hz : FU Z) (ha0 : kD a0 = 1) : GO X md_Leaf_turnOver (QE X rvU Z) 0 [some (rf (kG X) a0), some (.int v1), some (.int v2)] [] Z M (f_Leaf_turnOver a0 v1 v2 M) := by
  unfold f_Leaf_turnOver
  refine g_aload_n e_Leaf_turnOver_0 rfl ?_
  refine g_iload_n e_Leaf_turnOver_1 rfl ?_
  refine g_phi1 18 (fun x2 => [some (rf (kG X) a0), some (.int v1), some (.int v2)]) (fun x2 => [.int x2, rf (kG X) a0]) (fun x2 => ?_) (fun hj9 => ?_)
  · show GO X _ _ 18 [some (rf (kG X) a0), some (.int v1), some (.int v2)] [.int x2, rf (kG X) a0] Z M _
    refine g_putL e_Leaf_turnOver_18 fp_Leaf_9 ha0 (hz.lt ha0) fj_1_3 rfl rfl (fun M3 => ?_)
    refine g_aload_n e_Leaf_turnOver_21 rfl ?_
    refine g_iload_n e_Leaf_turnOver_22 rfl ?_
    refine g_phi1 43 (fun x6 => [none, none, none]) (fun x6 => [.int x6, rf (kG X) a0]) (fun x6 => ?_) (fun hj8 => ?_)
    · show GO X _ _ 43 [none, none, none] [.int x6, rf (kG X) a0] Z M3 _
      refine g_putL e_Leaf_turnOver_43 fp_Leaf_24 ha0 (hz.lt ha0) fj_1_4 rfl rfl (fun M7 => ?_)
      exact g_vret e_Leaf_turnOver_46 rfl
    · refine g_if_eq' e_Leaf_turnOver_23 (fun c4 => ?_) (fun c4 => ?_)
      · refine g_aload_n e_Leaf_turnOver_39 rfl ?_
        refine g_getI e_Leaf_turnOver_40 fl_Leaf_24 ha0 (hz.lt ha0) fj_1_4 ?_
        exact (g_pt c4 (g_lt (g_wq (hj8 (M3.1 a0 4)) trivial)))
      · refine g_iload_n e_Leaf_turnOver_26 rfl ?_
        refine g_if_ne' e_Leaf_turnOver_27 (fun c5 => ?_) (fun c5 => ?_)
        · refine g_aload_n e_Leaf_turnOver_39 rfl ?_
          refine g_getI e_Leaf_turnOver_40 fl_Leaf_24 ha0 (hz.lt ha0) fj_1_4 ?_
          exact (g_pf c4 (g_pf c5 (g_lt (g_wq (hj8 (M3.1 a0 4)) trivial))))
        · refine g_iconst (x := (1 : Int32)) e_Leaf_turnOver_30 (by decide) ?_
          refine g_aload_n e_Leaf_turnOver_31 rfl ?_
          refine g_getI e_Leaf_turnOver_32 fl_Leaf_24 ha0 (hz.lt ha0) fj_1_4 ?_
          refine g_isub e_Leaf_turnOver_35 ?_
          refine g_goto e_Leaf_turnOver_36 ?_
          exact (g_pf c4 (g_pt c5 (g_lt (g_wq (hj8 ((1 : Int32) - (M3.1 a0 4))) trivial))))
  · refine g_if_eq' e_Leaf_turnOver_2 (fun c1 => ?_) (fun c1 => ?_)
    · refine g_aload_n e_Leaf_turnOver_14 rfl ?_
      refine g_getI e_Leaf_turnOver_15 fl_Leaf_9 ha0 (hz.lt ha0) fj_1_3 ?_
      exact (g_pt c1 (g_lt (g_wq (hj9 (M.1 a0 3)) ⟨rfl, rfl, rfl, trivial⟩)))
    · refine g_iconst (x := (1 : Int32)) e_Leaf_turnOver_5 (by decide) ?_
      refine g_aload_n e_Leaf_turnOver_6 rfl ?_
      refine g_getI e_Leaf_turnOver_7 fl_Leaf_9 ha0 (hz.lt ha0) fj_1_3 ?_
      refine g_isub e_Leaf_turnOver_10 ?_
      refine g_goto e_Leaf_turnOver_11 ?_
      exact (g_pf c1 (g_lt (g_wq (hj9 ((1 : Int32) - (M.1 a0 3))) ⟨rfl, rfl, rfl, trivial⟩)))
set_option maxHeartbeats 4000000 in
set_option maxRecDepth 20000 in
theorem c_Leaf_turnOver {l : Launch} {G : KG} {Z : ZZ} {a0 : Nat} {v1 : Int32} {v2 : Int32} {M M' : Mm} {r : Unit} (hz : FU Z) (ha0 : kD a0 = 1) (h : f_Leaf_turnOver a0 v1 v2 M = some (r, M')) : CT l G y_Leaf_turnOver md_Leaf_turnOver 0 0 [rf G a0, .int v1, .int v2] Z.2.2.1 Z.2.2.2 M (rvU r) Z.2.2.1 Z.2.2.2 M' :=
  CT.of (Z := (0, 0, Z.2.2.1, Z.2.2.2)) (Z' := (0, 0, Z.2.2.1, Z.2.2.2)) 0 (by decide) rfl ⟨rfl, rfl⟩ (by show 3 ≤ 3; decide) rfl h (fun X _ hG => by subst hG; exact t_Leaf_turnOver hz ha0)
set_option maxHeartbeats 4000000 in
set_option maxRecDepth 20000 in
theorem t_Leaf_layFolded_55 {X : KX} {Z : ZZ} {a0 : Nat} {a1 : Nat} (hz : FU Z) (ha0 : kD a0 = 1) (ha1 : kD a1 = 0) : ∀ (n : Nat) (v4 : Int32) (v5 : Int32) (v6 : Int32) (v7 : Int32) (v8 : Int32) (v9 : Int32) (M : Mm), GO X md_Leaf_layFolded (QE X rvU Z) 55 [some (rf (kG X) a0), some (rf (kG X) a1), none, none, some (.int v4), some (.int v5), some (.int v6), some (.int v7), some (.int v8), some (.int v9), none, none, none, none, none, none] [] Z M (f_Leaf_layFolded_55 a0 a1 n v4 v5 v6 v7 v8 v9 M) := by
  intro n
  induction n with
  | zero =>
    intro v4 v5 v6 v7 v8 v9 M
    exact g_none
  | succ n ih =>
    intro v4 v5 v6 v7 v8 v9 M
    rw [f_Leaf_layFolded_55_s]
    refine g_iload e_Leaf_layFolded_55 rfl ?_
    refine g_aload_n e_Leaf_layFolded_57 rfl ?_
    refine g_getI e_Leaf_layFolded_58 fl_Leaf_35 ha1 (hz.lt ha1) fj_0_0 ?_
    refine g_icmp_ge e_Leaf_layFolded_61 (fun c10 => ?_) (fun c10 => ?_)
    · exact g_vret e_Leaf_layFolded_258 rfl
    · refine g_aload_n e_Leaf_layFolded_64 rfl ?_
      refine g_iload e_Leaf_layFolded_65 rfl ?_
      refine g_callV (rv := rvI) (As := [.int v9]) (st := []) e_Leaf_layFolded_67 mv_Leaf_38 my_Job_figure (by decide) rfl rfl ha1 (hz.lt ha1) rfl (Nat.le_of_ble_eq_true rfl) rfl (fun r M1 h => c_Job_figure (hz.lt ha1) ha1 h) (fun r12 M11 h13 => ?_)
      refine g_istore e_Leaf_layFolded_70 (by decide) rfl ?_
      refine g_iload e_Leaf_layFolded_72 rfl ?_
      refine g_callS (rv := rvI) (As := [.int r12]) (st := []) e_Leaf_layFolded_74 ms_Leaf_42 my_Job_isAcross (by decide) rfl rfl (Nat.le_of_ble_eq_true rfl) (fun r M1 h => c_Job_isAcross   h) (fun r15 M14 h16 => ?_)
      refine g_istore e_Leaf_layFolded_77 (by decide) rfl ?_
      refine g_iload e_Leaf_layFolded_79 rfl ?_
      refine g_iconst (x := (2 : Int32)) e_Leaf_layFolded_81 (by decide) ?_
      refine g_irem e_Leaf_layFolded_82 (by decide) ?_
      refine g_iconst (x := (1 : Int32)) e_Leaf_layFolded_83 (by decide) ?_
      refine g_phi1 92 (fun x18 => [some (rf (kG X) a0), some (rf (kG X) a1), none, none, some (.int v4), some (.int v5), some (.int v6), some (.int v7), some (.int v8), some (.int v9), none, some (.int r15), none, none, none, none]) (fun x18 => [.int x18]) (fun x18 => ?_) (fun hj53 => ?_)
      · show GO X _ _ 92 [some (rf (kG X) a0), some (rf (kG X) a1), none, none, some (.int v4), some (.int v5), some (.int v6), some (.int v7), some (.int v8), some (.int v9), none, some (.int r15), none, none, none, none] [.int x18] Z M14 _
        refine g_istore e_Leaf_layFolded_92 (by decide) rfl ?_
        refine g_iload e_Leaf_layFolded_94 rfl ?_
        refine g_phi1 106 (fun x20 => [some (rf (kG X) a0), some (rf (kG X) a1), none, none, some (.int v4), some (.int v5), some (.int v6), some (.int v7), some (.int v8), some (.int v9), none, some (.int r15), some (.int x18), none, none, none]) (fun x20 => [.int x20]) (fun x20 => ?_) (fun hj52 => ?_)
        · show GO X _ _ 106 [some (rf (kG X) a0), some (rf (kG X) a1), none, none, some (.int v4), some (.int v5), some (.int v6), some (.int v7), some (.int v8), some (.int v9), none, some (.int r15), some (.int x18), none, none, none] [.int x20] Z M14 _
          refine g_iconst (x := (2 : Int32)) e_Leaf_layFolded_106 (by decide) ?_
          refine g_idiv e_Leaf_layFolded_107 (by decide) ?_
          refine g_istoreL e_Leaf_layFolded_108 (by decide) rfl (fun x21 => ?_)
          refine g_iload e_Leaf_layFolded_110 rfl ?_
          refine g_phi1 122 (fun x23 => [some (rf (kG X) a0), some (rf (kG X) a1), none, none, some (.int v4), some (.int v5), some (.int v6), some (.int v7), some (.int v8), some (.int v9), none, some (.int r15), some (.int x18), some (.int x21), none, none]) (fun x23 => [.int x23]) (fun x23 => ?_) (fun hj51 => ?_)
          · show GO X _ _ 122 [some (rf (kG X) a0), some (rf (kG X) a1), none, none, some (.int v4), some (.int v5), some (.int v6), some (.int v7), some (.int v8), some (.int v9), none, some (.int r15), some (.int x18), some (.int x21), none, none] [.int x23] Z M14 _
            refine g_istore e_Leaf_layFolded_122 (by decide) rfl ?_
            refine g_iload e_Leaf_layFolded_124 rfl ?_
            refine g_iload e_Leaf_layFolded_126 rfl ?_
            refine g_phi1 136 (fun x25 => [some (rf (kG X) a0), some (rf (kG X) a1), none, none, some (.int v4), some (.int v5), some (.int v6), some (.int v7), some (.int v8), some (.int v9), none, some (.int r15), some (.int x18), some (.int x21), some (.int x23), none]) (fun x25 => [.int x25]) (fun x25 => ?_) (fun hj50 => ?_)
            · show GO X _ _ 136 [some (rf (kG X) a0), some (rf (kG X) a1), none, none, some (.int v4), some (.int v5), some (.int v6), some (.int v7), some (.int v8), some (.int v9), none, some (.int r15), some (.int x18), some (.int x21), some (.int x23), none] [.int x25] Z M14 _
              refine g_iload e_Leaf_layFolded_136 rfl ?_
              refine g_phi1 146 (fun x27 => [some (rf (kG X) a0), some (rf (kG X) a1), none, none, some (.int v4), some (.int v5), some (.int v6), some (.int v7), some (.int v8), some (.int v9), none, some (.int r15), some (.int x18), some (.int x21), some (.int x23), none]) (fun x27 => [.int x27]) (fun x27 => ?_) (fun hj49 => ?_)
              · show GO X _ _ 146 [some (rf (kG X) a0), some (rf (kG X) a1), none, none, some (.int v4), some (.int v5), some (.int v6), some (.int v7), some (.int v8), some (.int v9), none, some (.int r15), some (.int x18), some (.int x21), some (.int x23), none] [.int x27] Z M14 _
                refine g_istore e_Leaf_layFolded_146 (by decide) rfl ?_
                refine g_iload e_Leaf_layFolded_148 rfl ?_
                refine g_phi1 167 (fun x29 => [some (rf (kG X) a0), some (rf (kG X) a1), none, none, some (.int v4), some (.int v5), some (.int v6), some (.int v7), some (.int v8), some (.int v9), none, some (.int r15), some (.int x18), some (.int x21), none, some (.int x27)]) (fun x29 => [.int x29]) (fun x29 => ?_) (fun hj48 => ?_)
                · show GO X _ _ 167 [some (rf (kG X) a0), some (rf (kG X) a1), none, none, some (.int v4), some (.int v5), some (.int v6), some (.int v7), some (.int v8), some (.int v9), none, some (.int r15), some (.int x18), some (.int x21), none, some (.int x27)] [.int x29] Z M14 _
                  refine g_istore e_Leaf_layFolded_167 (by decide) rfl ?_
                  refine g_iload e_Leaf_layFolded_169 rfl ?_
                  refine g_phi1 184 (fun x31 => [some (rf (kG X) a0), some (rf (kG X) a1), none, none, some (.int v4), some (.int v5), some (.int v6), some (.int v7), some (.int v8), some (.int v9), none, some (.int r15), none, some (.int x21), none, some (.int x27)]) (fun x31 => [.int x31]) (fun x31 => ?_) (fun hj47 => ?_)
                  · show GO X _ _ 184 [some (rf (kG X) a0), some (rf (kG X) a1), none, none, some (.int v4), some (.int v5), some (.int v6), some (.int v7), some (.int v8), some (.int v9), none, some (.int r15), none, some (.int x21), none, some (.int x27)] [.int x31] Z M14 _
                    refine g_istore e_Leaf_layFolded_184 (by decide) rfl ?_
                    refine g_aload_n e_Leaf_layFolded_186 rfl ?_
                    refine g_iload e_Leaf_layFolded_187 rfl ?_
                    refine g_phi1 211 (fun x33 => [some (rf (kG X) a0), some (rf (kG X) a1), none, none, some (.int v4), some (.int v5), some (.int v6), some (.int v7), some (.int v8), some (.int v9), none, some (.int r15), none, some (.int x21), some (.int x31), some (.int x27)]) (fun x33 => [.int x33, rf (kG X) a0]) (fun x33 => ?_) (fun hj46 => ?_)
                    · show GO X _ _ 211 [some (rf (kG X) a0), some (rf (kG X) a1), none, none, some (.int v4), some (.int v5), some (.int v6), some (.int v7), some (.int v8), some (.int v9), none, some (.int r15), none, some (.int x21), some (.int x31), some (.int x27)] [.int x33, rf (kG X) a0] Z M14 _
                      refine g_putL e_Leaf_layFolded_211 fp_Leaf_21 ha0 (hz.lt ha0) fj_1_2 rfl rfl (fun M34 => ?_)
                      refine g_iload e_Leaf_layFolded_214 rfl ?_
                      refine g_iconst (x := (2 : Int32)) e_Leaf_layFolded_216 (by decide) ?_
                      refine g_imul e_Leaf_layFolded_217 ?_
                      refine g_istoreL e_Leaf_layFolded_218 (by decide) rfl (fun x35 => ?_)
                      refine g_aload_n e_Leaf_layFolded_220 rfl ?_
                      refine g_iload e_Leaf_layFolded_221 rfl ?_
                      refine g_iload e_Leaf_layFolded_223 rfl ?_
                      refine g_callV (rv := rvU) (As := [.int x27, .int r15]) (st := []) e_Leaf_layFolded_225 mv_Leaf_46 my_Leaf_turnOver (by decide) rfl rfl ha0 (hz.lt ha0) rfl (Nat.le_of_ble_eq_true rfl) rfl (fun r M1 h => c_Leaf_turnOver hz ha0 h) (fun r37 M36 h38 => ?_)
                      refine g_iload e_Leaf_layFolded_228 rfl ?_
                      refine g_phi4 252 (fun x40 x41 x42 x43 => [some (rf (kG X) a0), some (rf (kG X) a1), none, none, some (.int x40), some (.int x41), some (.int x42), some (.int x43), some (.int x35), some (.int v9), none, none, none, none, none, none]) (fun x40 x41 x42 x43 => []) (fun x40 x41 x42 x43 => ?_) (fun hj45 => ?_)
                      · show GO X _ _ 252 [some (rf (kG X) a0), some (rf (kG X) a1), none, none, some (.int x40), some (.int x41), some (.int x42), some (.int x43), some (.int x35), some (.int v9), none, none, none, none, none, none] [] Z M36 _
                        refine g_iincL (c := (1 : Int32)) e_Leaf_layFolded_252 rfl (by decide) (by decide) rfl (fun x44 => ?_)
                        refine g_goto e_Leaf_layFolded_255 ?_
                        exact g_wq (ih x40 x41 x42 x43 x35 x44 M36) ⟨rfl, rfl, rfl, rfl, rfl, rfl, rfl, rfl, trivial⟩
                      · refine g_if_eq' e_Leaf_layFolded_230 (fun c39 => ?_) (fun c39 => ?_)
                        · refine g_iload e_Leaf_layFolded_244 rfl ?_
                          refine g_istore e_Leaf_layFolded_246 (by decide) rfl ?_
                          refine g_iload e_Leaf_layFolded_248 rfl ?_
                          refine g_istore e_Leaf_layFolded_250 (by decide) rfl ?_
                          exact (g_pt c39 (g_lt (g_pt c39 (g_lt (g_pt c39 (g_lt (g_pt c39 (g_lt (g_wq (hj45 x31 v5 v6 x21) ⟨rfl, rfl, rfl, rfl, rfl, rfl, rfl, rfl, trivial⟩)))))))))
                        · refine g_iload e_Leaf_layFolded_233 rfl ?_
                          refine g_istore e_Leaf_layFolded_235 (by decide) rfl ?_
                          refine g_iload e_Leaf_layFolded_237 rfl ?_
                          refine g_istore e_Leaf_layFolded_239 (by decide) rfl ?_
                          refine g_goto e_Leaf_layFolded_241 ?_
                          exact (g_pf c39 (g_lt (g_pf c39 (g_lt (g_pf c39 (g_lt (g_pf c39 (g_lt (g_wq (hj45 v4 x31 x21 v7) ⟨rfl, rfl, rfl, rfl, rfl, rfl, rfl, rfl, trivial⟩)))))))))
                    · refine g_if_eq' e_Leaf_layFolded_189 (fun c32 => ?_) (fun c32 => ?_)
                      · refine g_iload e_Leaf_layFolded_204 rfl ?_
                        refine g_aload_n e_Leaf_layFolded_206 rfl ?_
                        refine g_getI e_Leaf_layFolded_207 fl_Leaf_21 ha0 (hz.lt ha0) fj_1_2 ?_
                        refine g_iadd e_Leaf_layFolded_210 ?_
                        exact (g_pt c32 (g_lt (g_wq (hj46 (v8 + (M14.1 a0 2))) ⟨rfl, rfl, rfl, rfl, rfl, rfl, rfl, rfl, rfl, rfl, rfl, rfl, trivial⟩)))
                      · refine g_iload e_Leaf_layFolded_192 rfl ?_
                        refine g_iconst (x := (1 : Int32)) e_Leaf_layFolded_194 (by decide) ?_
                        refine g_isub e_Leaf_layFolded_195 ?_
                        refine g_aload_n e_Leaf_layFolded_196 rfl ?_
                        refine g_getI e_Leaf_layFolded_197 fl_Leaf_21 ha0 (hz.lt ha0) fj_1_2 ?_
                        refine g_isub e_Leaf_layFolded_200 ?_
                        refine g_goto e_Leaf_layFolded_201 ?_
                        exact (g_pf c32 (g_lt (g_wq (hj46 ((v8 - (1 : Int32)) - (M14.1 a0 2))) ⟨rfl, rfl, rfl, rfl, rfl, rfl, rfl, rfl, rfl, rfl, rfl, rfl, trivial⟩)))
                  · refine g_if_eq' e_Leaf_layFolded_171 (fun c30 => ?_) (fun c30 => ?_)
                    · refine g_iload e_Leaf_layFolded_182 rfl ?_
                      exact (g_pt c30 (g_lt (g_wq (hj47 x29) ⟨rfl, rfl, rfl, rfl, rfl, rfl, rfl, rfl, rfl, rfl, rfl, trivial⟩)))
                    · refine g_iload e_Leaf_layFolded_174 rfl ?_
                      refine g_iload e_Leaf_layFolded_176 rfl ?_
                      refine g_isub e_Leaf_layFolded_178 ?_
                      refine g_goto e_Leaf_layFolded_179 ?_
                      exact (g_pf c30 (g_lt (g_wq (hj47 (x29 - x21)) ⟨rfl, rfl, rfl, rfl, rfl, rfl, rfl, rfl, rfl, rfl, rfl, trivial⟩)))
                · refine g_if_eq' e_Leaf_layFolded_150 (fun c28 => ?_) (fun c28 => ?_)
                  · refine g_iload e_Leaf_layFolded_165 rfl ?_
                    exact (g_pt c28 (g_lt (g_wq (hj48 x23) ⟨rfl, rfl, rfl, rfl, rfl, rfl, rfl, rfl, rfl, rfl, rfl, rfl, trivial⟩)))
                  · refine g_iconst (x := (2 : Int32)) e_Leaf_layFolded_153 (by decide) ?_
                    refine g_iload e_Leaf_layFolded_154 rfl ?_
                    refine g_imul e_Leaf_layFolded_156 ?_
                    refine g_iconst (x := (1 : Int32)) e_Leaf_layFolded_157 (by decide) ?_
                    refine g_isub e_Leaf_layFolded_158 ?_
                    refine g_iload e_Leaf_layFolded_159 rfl ?_
                    refine g_isub e_Leaf_layFolded_161 ?_
                    refine g_goto e_Leaf_layFolded_162 ?_
                    exact (g_pf c28 (g_lt (g_wq (hj48 ((((2 : Int32) * x21) - (1 : Int32)) - x23)) ⟨rfl, rfl, rfl, rfl, rfl, rfl, rfl, rfl, rfl, rfl, rfl, rfl, trivial⟩)))
              · refine g_icmp_ne' e_Leaf_layFolded_138 (fun c26 => ?_) (fun c26 => ?_)
                · refine g_iconst (x := (0 : Int32)) e_Leaf_layFolded_145 (by decide) ?_
                  exact (g_pf c26 (g_lt (g_wq (hj49 (0 : Int32)) ⟨rfl, rfl, rfl, rfl, rfl, rfl, rfl, rfl, rfl, rfl, rfl, rfl, trivial⟩)))
                · refine g_iconst (x := (1 : Int32)) e_Leaf_layFolded_141 (by decide) ?_
                  refine g_goto e_Leaf_layFolded_142 ?_
                  exact (g_pt c26 (g_lt (g_wq (hj49 (1 : Int32)) ⟨rfl, rfl, rfl, rfl, rfl, rfl, rfl, rfl, rfl, rfl, rfl, rfl, trivial⟩)))
            · refine g_icmp_ge' e_Leaf_layFolded_128 (fun c24 => ?_) (fun c24 => ?_)
              · refine g_iconst (x := (0 : Int32)) e_Leaf_layFolded_135 (by decide) ?_
                exact (g_pt c24 (g_lt (g_wq (hj50 (0 : Int32)) ⟨rfl, rfl, rfl, rfl, rfl, rfl, rfl, rfl, rfl, rfl, rfl, rfl, trivial⟩)))
              · refine g_iconst (x := (1 : Int32)) e_Leaf_layFolded_131 (by decide) ?_
                refine g_goto e_Leaf_layFolded_132 ?_
                exact (g_pf c24 (g_lt (g_wq (hj50 (1 : Int32)) ⟨rfl, rfl, rfl, rfl, rfl, rfl, rfl, rfl, rfl, rfl, rfl, rfl, trivial⟩)))
          · refine g_if_eq' e_Leaf_layFolded_112 (fun c22 => ?_) (fun c22 => ?_)
            · refine g_iload e_Leaf_layFolded_120 rfl ?_
              exact (g_pt c22 (g_lt (g_wq (hj51 v4) ⟨rfl, rfl, rfl, rfl, rfl, rfl, rfl, rfl, rfl, rfl, rfl, trivial⟩)))
            · refine g_iload e_Leaf_layFolded_115 rfl ?_
              refine g_goto e_Leaf_layFolded_117 ?_
              exact (g_pf c22 (g_lt (g_wq (hj51 v5) ⟨rfl, rfl, rfl, rfl, rfl, rfl, rfl, rfl, rfl, rfl, rfl, trivial⟩)))
        · refine g_if_eq' e_Leaf_layFolded_96 (fun c19 => ?_) (fun c19 => ?_)
          · refine g_iload e_Leaf_layFolded_104 rfl ?_
            exact (g_pt c19 (g_lt (g_wq (hj52 v7) ⟨rfl, rfl, rfl, rfl, rfl, rfl, rfl, rfl, rfl, rfl, trivial⟩)))
          · refine g_iload e_Leaf_layFolded_99 rfl ?_
            refine g_goto e_Leaf_layFolded_101 ?_
            exact (g_pf c19 (g_lt (g_wq (hj52 v6) ⟨rfl, rfl, rfl, rfl, rfl, rfl, rfl, rfl, rfl, rfl, trivial⟩)))
      · refine g_icmp_ne' e_Leaf_layFolded_84 (fun c17 => ?_) (fun c17 => ?_)
        · refine g_iconst (x := (0 : Int32)) e_Leaf_layFolded_91 (by decide) ?_
          exact (g_pf c17 (g_lt (g_wq (hj53 (0 : Int32)) ⟨rfl, rfl, rfl, rfl, rfl, rfl, rfl, rfl, rfl, trivial⟩)))
        · refine g_iconst (x := (1 : Int32)) e_Leaf_layFolded_87 (by decide) ?_
          refine g_goto e_Leaf_layFolded_88 ?_
          exact (g_pt c17 (g_lt (g_wq (hj53 (1 : Int32)) ⟨rfl, rfl, rfl, rfl, rfl, rfl, rfl, rfl, rfl, trivial⟩)))
set_option maxHeartbeats 4000000 in
set_option maxRecDepth 20000 in
theorem t_Leaf_layFolded {X : KX} {Z : ZZ} {a0 : Nat} {a1 : Nat} {v2 : Int32} {v3 : Int32} {M : Mm} (hz : FU Z) (ha0 : kD a0 = 1) (ha1 : kD a1 = 0) : GO X md_Leaf_layFolded (QE X rvU Z) 0 [some (rf (kG X) a0), some (rf (kG X) a1), some (.int v2), some (.int v3), none, none, none, none, none, none, none, none, none, none, none, none] [] Z M (f_Leaf_layFolded a0 a1 v2 v3 M) := by
  unfold f_Leaf_layFolded
  refine g_aload_n e_Leaf_layFolded_0 rfl ?_
  refine g_iload_n e_Leaf_layFolded_1 rfl ?_
  refine g_putL e_Leaf_layFolded_2 fp_Leaf_15 ha0 (hz.lt ha0) fj_1_0 rfl rfl (fun M1 => ?_)
  refine g_aload_n e_Leaf_layFolded_5 rfl ?_
  refine g_iload_n e_Leaf_layFolded_6 rfl ?_
  refine g_putL e_Leaf_layFolded_7 fp_Leaf_18 ha0 (hz.lt ha0) fj_1_1 rfl rfl (fun M2 => ?_)
  refine g_aload_n e_Leaf_layFolded_10 rfl ?_
  refine g_iconst (x := (0 : Int32)) e_Leaf_layFolded_11 (by decide) ?_
  refine g_putL e_Leaf_layFolded_12 fp_Leaf_21 ha0 (hz.lt ha0) fj_1_2 rfl rfl (fun M3 => ?_)
  refine g_aload_n e_Leaf_layFolded_15 rfl ?_
  refine g_iconst (x := (0 : Int32)) e_Leaf_layFolded_16 (by decide) ?_
  refine g_putL e_Leaf_layFolded_17 fp_Leaf_9 ha0 (hz.lt ha0) fj_1_3 rfl rfl (fun M4 => ?_)
  refine g_aload_n e_Leaf_layFolded_20 rfl ?_
  refine g_iconst (x := (0 : Int32)) e_Leaf_layFolded_21 (by decide) ?_
  refine g_putL e_Leaf_layFolded_22 fp_Leaf_24 ha0 (hz.lt ha0) fj_1_4 rfl rfl (fun M5 => ?_)
  refine g_aload_n e_Leaf_layFolded_25 rfl ?_
  refine g_getI e_Leaf_layFolded_26 fl_Leaf_15 ha0 (hz.lt ha0) fj_1_0 ?_
  refine g_istoreL e_Leaf_layFolded_29 (by decide) rfl (fun x6 => ?_)
  refine g_aload_n e_Leaf_layFolded_31 rfl ?_
  refine g_getI e_Leaf_layFolded_32 fl_Leaf_18 ha0 (hz.lt ha0) fj_1_1 ?_
  refine g_istoreL e_Leaf_layFolded_35 (by decide) rfl (fun x7 => ?_)
  refine g_aload_n e_Leaf_layFolded_37 rfl ?_
  refine g_getI e_Leaf_layFolded_38 fl_Leaf_27 ha1 (hz.lt ha1) fj_0_2 ?_
  refine g_istoreL e_Leaf_layFolded_41 (by decide) rfl (fun x8 => ?_)
  refine g_aload_n e_Leaf_layFolded_43 rfl ?_
  refine g_getI e_Leaf_layFolded_44 fl_Leaf_32 ha1 (hz.lt ha1) fj_0_3 ?_
  refine g_istoreL e_Leaf_layFolded_47 (by decide) rfl (fun x9 => ?_)
  refine g_iconst (x := (1 : Int32)) e_Leaf_layFolded_49 (by decide) ?_
  refine g_istore e_Leaf_layFolded_50 (by decide) rfl ?_
  refine g_iconst (x := (0 : Int32)) e_Leaf_layFolded_52 (by decide) ?_
  refine g_istore e_Leaf_layFolded_53 (by decide) rfl ?_
  exact g_wq (t_Leaf_layFolded_55 hz ha0 ha1 fuel x6 x7 x8 x9 (1 : Int32) (0 : Int32) M5) ⟨rfl, rfl, rfl, rfl, rfl, rfl, rfl, rfl, trivial⟩
set_option maxHeartbeats 4000000 in
set_option maxRecDepth 20000 in
theorem c_Leaf_layFolded {l : Launch} {G : KG} {Z : ZZ} {a0 : Nat} {a1 : Nat} {v2 : Int32} {v3 : Int32} {M M' : Mm} {r : Unit} (hz : FU Z) (ha0 : kD a0 = 1) (ha1 : kD a1 = 0) (h : f_Leaf_layFolded a0 a1 v2 v3 M = some (r, M')) : CT l G y_Leaf_layFolded md_Leaf_layFolded 0 0 [rf G a0, rf G a1, .int v2, .int v3] Z.2.2.1 Z.2.2.2 M (rvU r) Z.2.2.1 Z.2.2.2 M' :=
  CT.of (Z := (0, 0, Z.2.2.1, Z.2.2.2)) (Z' := (0, 0, Z.2.2.1, Z.2.2.2)) 12 (by decide) rfl ⟨rfl, rfl⟩ (by show 4 ≤ 16; decide) rfl h (fun X _ hG => by subst hG; exact t_Leaf_layFolded hz ha0 ha1)
set_option maxHeartbeats 4000000 in
set_option maxRecDepth 20000 in
theorem t_Job_pageSeen {X : KX} {Z : ZZ} {a0 : Nat} {v1 : Int32} {v2 : Int32} {v3 : Int32} {v4 : Int32} {M : Mm} (hz : FU Z) (ha0 : kD a0 = 0) : GO X md_Job_pageSeen (QE X rvI Z) 0 [some (rf (kG X) a0), some (.int v1), some (.int v2), some (.int v3), some (.int v4)] [] Z M (f_Job_pageSeen a0 v1 v2 v3 v4 M) := by
  unfold f_Job_pageSeen
  refine g_aload_n e_Job_pageSeen_0 rfl ?_
  refine g_getRZ (kz := (a0 + 1)) e_Job_pageSeen_1 fl_Job_24 hz ha0 (by decide) fj_0_9 rfl ?_
  refine g_aload_n e_Job_pageSeen_4 rfl ?_
  refine g_aload_n e_Job_pageSeen_5 rfl ?_
  refine g_iload_n e_Job_pageSeen_6 rfl ?_
  refine g_iload_n e_Job_pageSeen_7 rfl ?_
  refine g_callV (rv := rvI) (As := [.int v2, .int v3]) (st := [rf (kG X) a0, rf (kG X) (a0 + 1)]) e_Job_pageSeen_8 mv_Job_95 my_Job_mirroredRow (by decide) rfl rfl ha0 (hz.lt ha0) rfl (Nat.le_of_ble_eq_true rfl) rfl (fun r M1 h => c_Job_mirroredRow hz ha0 h) (fun r2 M1 h3 => ?_)
  refine g_aload_n e_Job_pageSeen_11 rfl ?_
  refine g_iload_n e_Job_pageSeen_12 rfl ?_
  refine g_iload e_Job_pageSeen_13 rfl ?_
  refine g_callV (rv := rvI) (As := [.int v2, .int v4]) (st := [.int r2, rf (kG X) a0, rf (kG X) (a0 + 1)]) e_Job_pageSeen_15 mv_Job_98 my_Job_mirroredColumn (by decide) rfl rfl ha0 (hz.lt ha0) rfl (Nat.le_of_ble_eq_true rfl) rfl (fun r M1 h => c_Job_mirroredColumn hz ha0 h) (fun r5 M4 h6 => ?_)
  refine g_callV (rv := rvU) (As := [rf (kG X) a0, .int r2, .int r5]) (st := []) e_Job_pageSeen_18 mv_Job_101 my_Leaf_layFolded (by decide) rfl rfl (kk_0_1 ha0) (hz.lt (kk_0_1 ha0)) rfl (Nat.le_of_ble_eq_true rfl) rfl (fun r M1 h => c_Leaf_layFolded hz (kk_0_1 ha0) ha0 h) (fun r8 M7 h9 => ?_)
  refine g_aload_n e_Job_pageSeen_21 rfl ?_
  refine g_iload_n e_Job_pageSeen_22 rfl ?_
  refine g_iconst (x := (2 : Int32)) e_Job_pageSeen_23 (by decide) ?_
  refine g_aload_n e_Job_pageSeen_24 rfl ?_
  refine g_getRZ (kz := (a0 + 1)) e_Job_pageSeen_25 fl_Job_24 hz ha0 (by decide) fj_0_9 rfl ?_
  refine g_getI e_Job_pageSeen_28 fl_Job_105 (kk_0_1 ha0) (hz.lt (kk_0_1 ha0)) fj_1_2 ?_
  refine g_imul e_Job_pageSeen_31 ?_
  refine g_iload_n e_Job_pageSeen_32 rfl ?_
  refine g_aload_n e_Job_pageSeen_33 rfl ?_
  refine g_getRZ (kz := (a0 + 1)) e_Job_pageSeen_34 fl_Job_24 hz ha0 (by decide) fj_0_9 rfl ?_
  refine g_getI e_Job_pageSeen_37 fl_Job_108 (kk_0_1 ha0) (hz.lt (kk_0_1 ha0)) fj_1_3 ?_
  refine g_phi1 48 (fun x11 => [none, none, none, none, none]) (fun x11 => [.int x11, .int ((2 : Int32) * (M7.1 (a0 + 1) 2)), .int v1, rf (kG X) a0]) (fun x11 => ?_) (fun hj15 => ?_)
  · show GO X _ _ 48 [none, none, none, none, none] [.int x11, .int ((2 : Int32) * (M7.1 (a0 + 1) 2)), .int v1, rf (kG X) a0] Z M7 _
    refine g_iadd e_Job_pageSeen_48 ?_
    refine g_callV (rv := rvI) (As := [.int v1, .int (((2 : Int32) * (M7.1 (a0 + 1) 2)) + x11)]) (st := []) e_Job_pageSeen_49 mv_Job_111 my_Job_pageInRun (by decide) rfl rfl ha0 (hz.lt ha0) rfl (Nat.le_of_ble_eq_true rfl) rfl (fun r M1 h => c_Job_pageInRun hz ha0 h) (fun r13 M12 h14 => ?_)
    exact g_iret e_Job_pageSeen_52 rfl
  · refine g_icmp_ne' e_Job_pageSeen_40 (fun c10 => ?_) (fun c10 => ?_)
    · refine g_iconst (x := (1 : Int32)) e_Job_pageSeen_47 (by decide) ?_
      exact (g_pf c10 (g_lt (g_wq (hj15 (1 : Int32)) trivial)))
    · refine g_iconst (x := (0 : Int32)) e_Job_pageSeen_43 (by decide) ?_
      refine g_goto e_Job_pageSeen_44 ?_
      exact (g_pt c10 (g_lt (g_wq (hj15 (0 : Int32)) trivial)))
set_option maxHeartbeats 4000000 in
set_option maxRecDepth 20000 in
theorem c_Job_pageSeen {l : Launch} {G : KG} {Z : ZZ} {a0 : Nat} {v1 : Int32} {v2 : Int32} {v3 : Int32} {v4 : Int32} {M M' : Mm} {r : Int32} (hz : FU Z) (ha0 : kD a0 = 0) (h : f_Job_pageSeen a0 v1 v2 v3 v4 M = some (r, M')) : CT l G y_Job_pageSeen md_Job_pageSeen 0 0 [rf G a0, .int v1, .int v2, .int v3, .int v4] Z.2.2.1 Z.2.2.2 M (rvI r) Z.2.2.1 Z.2.2.2 M' :=
  CT.of (Z := (0, 0, Z.2.2.1, Z.2.2.2)) (Z' := (0, 0, Z.2.2.1, Z.2.2.2)) 0 (by decide) rfl ⟨rfl, rfl⟩ (by show 5 ≤ 5; decide) rfl h (fun X _ hG => by subst hG; exact t_Job_pageSeen hz ha0)
set_option maxHeartbeats 4000000 in
set_option maxRecDepth 20000 in
theorem t_Job_creepOf_37 {X : KX} {Z : ZZ} {a0 : Nat} (hz : FU Z) (ha0 : kD a0 = 0) : ∀ (v2 : Int32) (s0 : Int32) (M : Mm), GO X md_Job_creepOf (QE X rvI Z) 37 [some (rf (kG X) a0), none, some (.int v2), none] [.int s0] Z M (f_Job_creepOf_37 a0 v2 s0 M) := by
  intro v2 s0 M
  unfold f_Job_creepOf_37
  refine g_iconst (x := (1 : Int32)) e_Job_creepOf_37 (by decide) ?_
  refine g_isub e_Job_creepOf_38 ?_
  refine g_iload_n e_Job_creepOf_39 rfl ?_
  refine g_isub e_Job_creepOf_40 ?_
  refine g_istoreL_n e_Job_creepOf_41 (by decide) rfl (fun x6 => ?_)
  refine g_aload_n e_Job_creepOf_42 rfl ?_
  refine g_getI e_Job_creepOf_43 fl_Job_15 ha0 (hz.lt ha0) fj_0_7 ?_
  refine g_iload_n e_Job_creepOf_46 rfl ?_
  refine g_iload_n e_Job_creepOf_47 rfl ?_
  refine g_mmin e_Job_creepOf_48 ⟨w_440, w_441, w_12, w_442⟩ ⟨by decide, Nat.le_of_ble_eq_true rfl⟩ ?_
  refine g_iconst (x := (2 : Int32)) e_Job_creepOf_51 (by decide) ?_
  refine g_idiv e_Job_creepOf_52 (by decide) ?_
  refine g_imul e_Job_creepOf_53 ?_
  exact g_iret e_Job_creepOf_54 rfl
set_option maxHeartbeats 4000000 in
set_option maxRecDepth 20000 in
theorem t_Job_creepOf_18 {X : KX} {Z : ZZ} {a0 : Nat} (hz : FU Z) (ha0 : kD a0 = 0) : ∀ (s0 : Int32) (M : Mm), GO X md_Job_creepOf (QE X rvI Z) 18 [some (rf (kG X) a0), none, none, none] [.int s0] Z M (f_Job_creepOf_18 a0 s0 M) := by
  intro s0 M
  unfold f_Job_creepOf_18
  refine g_istore_n e_Job_creepOf_18 (by decide) rfl ?_
  refine g_aload_n e_Job_creepOf_19 rfl ?_
  refine g_getI e_Job_creepOf_20 fl_Job_45 ha0 (hz.lt ha0) fj_0_5 ?_
  refine g_if_ne e_Job_creepOf_23 (fun c2 => ?_) (fun c2 => ?_)
  · refine g_aload_n e_Job_creepOf_33 rfl ?_
    refine g_callV (rv := rvI) (As := []) (st := []) e_Job_creepOf_34 mv_Job_80 my_Job_places (by decide) rfl rfl ha0 (hz.lt ha0) rfl (Nat.le_of_ble_eq_true rfl) rfl (fun r M1 h => c_Job_places hz ha0 h) (fun r4 M3 h5 => ?_)
    exact g_wq (t_Job_creepOf_37 hz ha0 s0 r4 M3) ⟨rfl, rfl, trivial⟩
  · refine g_aload_n e_Job_creepOf_26 rfl ?_
    refine g_callV (rv := rvI) (As := []) (st := []) e_Job_creepOf_27 mv_Job_77 my_Job_sides (by decide) rfl rfl ha0 (hz.lt ha0) rfl (Nat.le_of_ble_eq_true rfl) rfl (fun r M1 h => c_Job_sides hz ha0 h) (fun r8 M7 h9 => ?_)
    refine g_goto e_Job_creepOf_30 ?_
    exact g_wq (t_Job_creepOf_37 hz ha0 s0 r8 M7) ⟨rfl, rfl, trivial⟩
set_option maxHeartbeats 4000000 in
set_option maxRecDepth 20000 in
theorem t_Job_creepOf {X : KX} {Z : ZZ} {a0 : Nat} {v1 : Int32} {M : Mm} (hz : FU Z) (ha0 : kD a0 = 0) : GO X md_Job_creepOf (QE X rvI Z) 0 [some (rf (kG X) a0), some (.int v1), none, none] [] Z M (f_Job_creepOf a0 v1 M) := by
  unfold f_Job_creepOf
  refine g_aload_n e_Job_creepOf_0 rfl ?_
  refine g_getI e_Job_creepOf_1 fl_Job_45 ha0 (hz.lt ha0) fj_0_5 ?_
  refine g_if_ne e_Job_creepOf_4 (fun c1 => ?_) (fun c1 => ?_)
  · refine g_iload_n e_Job_creepOf_15 rfl ?_
    refine g_iconst (x := (1 : Int32)) e_Job_creepOf_16 (by decide) ?_
    refine g_isub e_Job_creepOf_17 ?_
    exact g_wq (t_Job_creepOf_18 hz ha0 (v1 - (1 : Int32)) M) ⟨rfl, trivial⟩
  · refine g_aload_n e_Job_creepOf_7 rfl ?_
    refine g_iload_n e_Job_creepOf_8 rfl ?_
    refine g_callV (rv := rvI) (As := [.int v1]) (st := []) e_Job_creepOf_9 mv_Job_114 my_Job_numberOf (by decide) rfl rfl ha0 (hz.lt ha0) rfl (Nat.le_of_ble_eq_true rfl) rfl (fun r M1 h => c_Job_numberOf hz ha0 h) (fun r11 M10 h12 => ?_)
    refine g_goto e_Job_creepOf_12 ?_
    exact g_wq (t_Job_creepOf_18 hz ha0 r11 M10) ⟨rfl, trivial⟩
set_option maxHeartbeats 4000000 in
set_option maxRecDepth 20000 in
theorem c_Job_creepOf {l : Launch} {G : KG} {Z : ZZ} {a0 : Nat} {v1 : Int32} {M M' : Mm} {r : Int32} (hz : FU Z) (ha0 : kD a0 = 0) (h : f_Job_creepOf a0 v1 M = some (r, M')) : CT l G y_Job_creepOf md_Job_creepOf 0 0 [rf G a0, .int v1] Z.2.2.1 Z.2.2.2 M (rvI r) Z.2.2.1 Z.2.2.2 M' :=
  CT.of (Z := (0, 0, Z.2.2.1, Z.2.2.2)) (Z' := (0, 0, Z.2.2.1, Z.2.2.2)) 2 (by decide) rfl ⟨rfl, rfl⟩ (by show 2 ≤ 4; decide) rfl h (fun X _ hG => by subst hG; exact t_Job_creepOf hz ha0)
set_option maxHeartbeats 4000000 in
set_option maxRecDepth 20000 in
theorem t_Job_greatestCreep_4 {X : KX} {Z : ZZ} {a0 : Nat} (hz : FU Z) (ha0 : kD a0 = 0) : ∀ (n : Nat) (v1 : Int32) (v2 : Int32) (M : Mm), GO X md_Job_greatestCreep (QE X rvI Z) 4 [some (rf (kG X) a0), some (.int v1), some (.int v2)] [] Z M (f_Job_greatestCreep_4 a0 n v1 v2 M) := by
  intro n
  induction n with
  | zero =>
    intro v1 v2 M
    exact g_none
  | succ n ih =>
    intro v1 v2 M
    rw [f_Job_greatestCreep_4_s]
    refine g_iload_n e_Job_greatestCreep_4 rfl ?_
    refine g_aload_n e_Job_greatestCreep_5 rfl ?_
    refine g_getI e_Job_greatestCreep_6 fl_Job_9 ha0 (hz.lt ha0) fj_0_4 ?_
    refine g_icmp_gt e_Job_greatestCreep_9 (fun c1 => ?_) (fun c1 => ?_)
    · refine g_iload_n e_Job_greatestCreep_28 rfl ?_
      exact g_iret e_Job_greatestCreep_29 rfl
    · refine g_iload_n e_Job_greatestCreep_12 rfl ?_
      refine g_aload_n e_Job_greatestCreep_13 rfl ?_
      refine g_iload_n e_Job_greatestCreep_14 rfl ?_
      refine g_callV (rv := rvI) (As := [.int v2]) (st := [.int v1]) e_Job_greatestCreep_15 mv_Job_117 my_Job_creepOf (by decide) rfl rfl ha0 (hz.lt ha0) rfl (Nat.le_of_ble_eq_true rfl) rfl (fun r M1 h => c_Job_creepOf hz ha0 h) (fun r3 M2 h4 => ?_)
      refine g_mmax e_Job_greatestCreep_18 ⟨w_516, w_517, w_12, w_518⟩ ⟨by decide, Nat.le_of_ble_eq_true rfl⟩ ?_
      refine g_istoreL_n e_Job_greatestCreep_21 (by decide) rfl (fun x5 => ?_)
      refine g_iincL (c := (1 : Int32)) e_Job_greatestCreep_22 rfl (by decide) (by decide) rfl (fun x6 => ?_)
      refine g_goto e_Job_greatestCreep_25 ?_
      exact g_wq (ih x5 x6 M2) ⟨rfl, rfl, rfl, trivial⟩
set_option maxHeartbeats 4000000 in
set_option maxRecDepth 20000 in
theorem t_Job_greatestCreep {X : KX} {Z : ZZ} {a0 : Nat} {M : Mm} (hz : FU Z) (ha0 : kD a0 = 0) : GO X md_Job_greatestCreep (QE X rvI Z) 0 [some (rf (kG X) a0), none, none] [] Z M (f_Job_greatestCreep a0 M) := by
  unfold f_Job_greatestCreep
  refine g_iconst (x := (0 : Int32)) e_Job_greatestCreep_0 (by decide) ?_
  refine g_istore_n e_Job_greatestCreep_1 (by decide) rfl ?_
  refine g_iconst (x := (1 : Int32)) e_Job_greatestCreep_2 (by decide) ?_
  refine g_istore_n e_Job_greatestCreep_3 (by decide) rfl ?_
  exact g_wq (t_Job_greatestCreep_4 hz ha0 fuel (0 : Int32) (1 : Int32) M) ⟨rfl, rfl, rfl, trivial⟩
set_option maxHeartbeats 4000000 in
set_option maxRecDepth 20000 in
theorem c_Job_greatestCreep {l : Launch} {G : KG} {Z : ZZ} {a0 : Nat} {M M' : Mm} {r : Int32} (hz : FU Z) (ha0 : kD a0 = 0) (h : f_Job_greatestCreep a0 M = some (r, M')) : CT l G y_Job_greatestCreep md_Job_greatestCreep 0 0 [rf G a0] Z.2.2.1 Z.2.2.2 M (rvI r) Z.2.2.1 Z.2.2.2 M' :=
  CT.of (Z := (0, 0, Z.2.2.1, Z.2.2.2)) (Z' := (0, 0, Z.2.2.1, Z.2.2.2)) 2 (by decide) rfl ⟨rfl, rfl⟩ (by show 1 ≤ 3; decide) rfl h (fun X _ hG => by subst hG; exact t_Job_greatestCreep hz ha0)
set_option maxHeartbeats 4000000 in
set_option maxRecDepth 20000 in
theorem t_Leaf_sideOf {X : KX} {Z : ZZ} {a0 : Nat} {v1 : Int32} {M : Mm} (hz : FU Z) (ha0 : kD a0 = 1) : GO X md_Leaf_sideOf (QE X rvI Z) 0 [some (rf (kG X) a0), some (.int v1)] [] Z M (f_Leaf_sideOf a0 v1 M) := by
  unfold f_Leaf_sideOf
  refine g_iload_n e_Leaf_sideOf_0 rfl ?_
  refine g_iconst (x := (2 : Int32)) e_Leaf_sideOf_1 (by decide) ?_
  refine g_irem e_Leaf_sideOf_2 (by decide) ?_
  refine g_phi1 19 (fun x2 => [none, none]) (fun x2 => [.int x2]) (fun x2 => ?_) (fun hj3 => ?_)
  · show GO X _ _ 19 [none, none] [.int x2] Z M _
    exact g_iret e_Leaf_sideOf_19 rfl
  · refine g_if_ne' e_Leaf_sideOf_3 (fun c1 => ?_) (fun c1 => ?_)
    · refine g_iconst (x := (1 : Int32)) e_Leaf_sideOf_13 (by decide) ?_
      refine g_aload_n e_Leaf_sideOf_14 rfl ?_
      refine g_getI e_Leaf_sideOf_15 fl_Leaf_9 ha0 (hz.lt ha0) fj_1_3 ?_
      refine g_isub e_Leaf_sideOf_18 ?_
      exact (g_pf c1 (g_lt (g_wq (hj3 ((1 : Int32) - (M.1 a0 3))) trivial)))
    · refine g_aload_n e_Leaf_sideOf_6 rfl ?_
      refine g_getI e_Leaf_sideOf_7 fl_Leaf_9 ha0 (hz.lt ha0) fj_1_3 ?_
      refine g_goto e_Leaf_sideOf_10 ?_
      exact (g_pt c1 (g_lt (g_wq (hj3 (M.1 a0 3)) trivial)))
set_option maxHeartbeats 4000000 in
set_option maxRecDepth 20000 in
theorem c_Leaf_sideOf {l : Launch} {G : KG} {Z : ZZ} {a0 : Nat} {v1 : Int32} {M M' : Mm} {r : Int32} (hz : FU Z) (ha0 : kD a0 = 1) (h : f_Leaf_sideOf a0 v1 M = some (r, M')) : CT l G y_Leaf_sideOf md_Leaf_sideOf 0 0 [rf G a0, .int v1] Z.2.2.1 Z.2.2.2 M (rvI r) Z.2.2.1 Z.2.2.2 M' :=
  CT.of (Z := (0, 0, Z.2.2.1, Z.2.2.2)) (Z' := (0, 0, Z.2.2.1, Z.2.2.2)) 0 (by decide) rfl ⟨rfl, rfl⟩ (by show 2 ≤ 2; decide) rfl h (fun X _ hG => by subst hG; exact t_Leaf_sideOf hz ha0)
set_option maxHeartbeats 4000000 in
set_option maxRecDepth 20000 in
theorem t_Leaf_layOpen_233 {X : KX} {Z : ZZ} {a0 : Nat} {a1 : Nat} {rec50 : Int32 → Int32 → Int32 → Int32 → Int32 → Mm → Option (Unit × Mm)} (hz : FU Z) (ha0 : kD a0 = 1) (ha1 : kD a1 = 0) (hr50 : ∀ (v3 : Int32) (v4 : Int32) (v5 : Int32) (v6 : Int32) (v7 : Int32) (M : Mm), GO X md_Leaf_layOpen (QE X rvU Z) 50 [some (rf (kG X) a0), some (rf (kG X) a1), none, some (.int v3), some (.int v4), some (.int v5), some (.int v6), some (.int v7), none, none, none, none, none, none] [] Z M (rec50 v3 v4 v5 v6 v7 M)) : ∀ (v3 : Int32) (v4 : Int32) (v5 : Int32) (v6 : Int32) (v7 : Int32) (M : Mm), GO X md_Leaf_layOpen (QE X rvU Z) 233 [some (rf (kG X) a0), some (rf (kG X) a1), none, some (.int v3), some (.int v4), some (.int v5), some (.int v6), some (.int v7), none, none, none, none, none, none] [] Z M (f_Leaf_layOpen_233 a0 a1 rec50 v3 v4 v5 v6 v7 M) := by
  intro v3 v4 v5 v6 v7 M
  unfold f_Leaf_layOpen_233
  refine g_iincL (c := (-1 : Int32)) e_Leaf_layOpen_233 rfl (by decide) (by decide) rfl (fun x39 => ?_)
  refine g_goto e_Leaf_layOpen_236 ?_
  exact g_wq (hr50 v3 v4 v5 v6 x39 M) ⟨rfl, rfl, rfl, rfl, rfl, rfl, rfl, trivial⟩
set_option maxHeartbeats 4000000 in
set_option maxRecDepth 20000 in
theorem t_Leaf_layOpen_50 {X : KX} {Z : ZZ} {a0 : Nat} {a1 : Nat} (hz : FU Z) (ha0 : kD a0 = 1) (ha1 : kD a1 = 0) : ∀ (n : Nat) (v3 : Int32) (v4 : Int32) (v5 : Int32) (v6 : Int32) (v7 : Int32) (M : Mm), GO X md_Leaf_layOpen (QE X rvU Z) 50 [some (rf (kG X) a0), some (rf (kG X) a1), none, some (.int v3), some (.int v4), some (.int v5), some (.int v6), some (.int v7), none, none, none, none, none, none] [] Z M (f_Leaf_layOpen_50 a0 a1 n v3 v4 v5 v6 v7 M) := by
  intro n
  induction n with
  | zero =>
    intro v3 v4 v5 v6 v7 M
    exact g_none
  | succ n ih =>
    intro v3 v4 v5 v6 v7 M
    rw [f_Leaf_layOpen_50_s]
    refine g_iload e_Leaf_layOpen_50 rfl ?_
    refine g_if_lt e_Leaf_layOpen_52 (fun c11 => ?_) (fun c11 => ?_)
    · exact g_vret e_Leaf_layOpen_239 rfl
    · refine g_aload_n e_Leaf_layOpen_55 rfl ?_
      refine g_iload e_Leaf_layOpen_56 rfl ?_
      refine g_callV (rv := rvI) (As := [.int v7]) (st := []) e_Leaf_layOpen_58 mv_Leaf_38 my_Job_figure (by decide) rfl rfl ha1 (hz.lt ha1) rfl (Nat.le_of_ble_eq_true rfl) rfl (fun r M1 h => c_Job_figure (hz.lt ha1) ha1 h) (fun r13 M12 h14 => ?_)
      refine g_istore e_Leaf_layOpen_61 (by decide) rfl ?_
      refine g_iload e_Leaf_layOpen_63 rfl ?_
      refine g_callS (rv := rvI) (As := [.int r13]) (st := []) e_Leaf_layOpen_65 ms_Leaf_42 my_Job_isAcross (by decide) rfl rfl (Nat.le_of_ble_eq_true rfl) (fun r M1 h => c_Job_isAcross   h) (fun r16 M15 h17 => ?_)
      refine g_istore e_Leaf_layOpen_68 (by decide) rfl ?_
      refine g_iload e_Leaf_layOpen_70 rfl ?_
      refine g_iconst (x := (2 : Int32)) e_Leaf_layOpen_72 (by decide) ?_
      refine g_irem e_Leaf_layOpen_73 (by decide) ?_
      refine g_iconst (x := (1 : Int32)) e_Leaf_layOpen_74 (by decide) ?_
      refine g_phi1 83 (fun x19 => [some (rf (kG X) a0), some (rf (kG X) a1), none, some (.int v3), some (.int v4), some (.int v5), some (.int v6), some (.int v7), none, some (.int r16), none, none, none, none]) (fun x19 => [.int x19]) (fun x19 => ?_) (fun hj48 => ?_)
      · show GO X _ _ 83 [some (rf (kG X) a0), some (rf (kG X) a1), none, some (.int v3), some (.int v4), some (.int v5), some (.int v6), some (.int v7), none, some (.int r16), none, none, none, none] [.int x19] Z M15 _
        refine g_istore e_Leaf_layOpen_83 (by decide) rfl ?_
        refine g_iload e_Leaf_layOpen_85 rfl ?_
        refine g_iconst (x := (2 : Int32)) e_Leaf_layOpen_87 (by decide) ?_
        refine g_idiv e_Leaf_layOpen_88 (by decide) ?_
        refine g_istoreL e_Leaf_layOpen_89 (by decide) rfl (fun x20 => ?_)
        refine g_iload_n e_Leaf_layOpen_91 rfl ?_
        refine g_iload e_Leaf_layOpen_92 rfl ?_
        refine g_phi1 102 (fun x22 => [some (rf (kG X) a0), some (rf (kG X) a1), none, some (.int v3), some (.int v4), some (.int v5), some (.int x20), some (.int v7), none, some (.int r16), some (.int x19), none, none, none]) (fun x22 => [.int x22]) (fun x22 => ?_) (fun hj47 => ?_)
        · show GO X _ _ 102 [some (rf (kG X) a0), some (rf (kG X) a1), none, some (.int v3), some (.int v4), some (.int v5), some (.int x20), some (.int v7), none, some (.int r16), some (.int x19), none, none, none] [.int x22] Z M15 _
          refine g_istore e_Leaf_layOpen_102 (by decide) rfl ?_
          refine g_iload e_Leaf_layOpen_104 rfl ?_
          refine g_phi1 122 (fun x24 => [some (rf (kG X) a0), some (rf (kG X) a1), none, none, some (.int v4), some (.int v5), some (.int x20), some (.int v7), none, some (.int r16), some (.int x19), some (.int x22), none, none]) (fun x24 => [.int x24]) (fun x24 => ?_) (fun hj46 => ?_)
          · show GO X _ _ 122 [some (rf (kG X) a0), some (rf (kG X) a1), none, none, some (.int v4), some (.int v5), some (.int x20), some (.int v7), none, some (.int r16), some (.int x19), some (.int x22), none, none] [.int x24] Z M15 _
            refine g_istore_n e_Leaf_layOpen_122 (by decide) rfl ?_
            refine g_iload e_Leaf_layOpen_123 rfl ?_
            refine g_phi1 135 (fun x26 => [some (rf (kG X) a0), some (rf (kG X) a1), none, some (.int x24), some (.int v4), some (.int v5), some (.int x20), some (.int v7), none, some (.int r16), some (.int x19), some (.int x22), none, none]) (fun x26 => [.int x26]) (fun x26 => ?_) (fun hj45 => ?_)
            · show GO X _ _ 135 [some (rf (kG X) a0), some (rf (kG X) a1), none, some (.int x24), some (.int v4), some (.int v5), some (.int x20), some (.int v7), none, some (.int r16), some (.int x19), some (.int x22), none, none] [.int x26] Z M15 _
              refine g_istore e_Leaf_layOpen_135 (by decide) rfl ?_
              refine g_iload e_Leaf_layOpen_137 rfl ?_
              refine g_phi1 153 (fun x28 => [some (rf (kG X) a0), some (rf (kG X) a1), none, some (.int x24), some (.int v4), some (.int v5), some (.int x20), some (.int v7), none, some (.int r16), some (.int x19), some (.int x22), some (.int x26), none]) (fun x28 => [.int x28]) (fun x28 => ?_) (fun hj44 => ?_)
              · show GO X _ _ 153 [some (rf (kG X) a0), some (rf (kG X) a1), none, some (.int x24), some (.int v4), some (.int v5), some (.int x20), some (.int v7), none, some (.int r16), some (.int x19), some (.int x22), some (.int x26), none] [.int x28] Z M15 _
                refine g_istore e_Leaf_layOpen_153 (by decide) rfl ?_
                refine g_iload e_Leaf_layOpen_155 rfl ?_
                refine g_phi1 170 (fun x30 => [some (rf (kG X) a0), some (rf (kG X) a1), none, some (.int x24), some (.int v4), some (.int v5), some (.int x20), some (.int v7), none, some (.int r16), none, some (.int x22), some (.int x26), none]) (fun x30 => [.int x30]) (fun x30 => ?_) (fun hj43 => ?_)
                · show GO X _ _ 170 [some (rf (kG X) a0), some (rf (kG X) a1), none, some (.int x24), some (.int v4), some (.int v5), some (.int x20), some (.int v7), none, some (.int r16), none, some (.int x22), some (.int x26), none] [.int x30] Z M15 _
                  refine g_istore e_Leaf_layOpen_170 (by decide) rfl ?_
                  refine g_iload e_Leaf_layOpen_172 rfl ?_
                  refine g_phi1 191 (fun x32 => [some (rf (kG X) a0), some (rf (kG X) a1), none, some (.int x24), some (.int v4), some (.int v5), some (.int x20), some (.int v7), none, some (.int r16), none, some (.int x22), some (.int x26), none]) (fun x32 => [.int x32]) (fun x32 => ?_) (fun hj42 => ?_)
                  · show GO X _ _ 191 [some (rf (kG X) a0), some (rf (kG X) a1), none, some (.int x24), some (.int v4), some (.int v5), some (.int x20), some (.int v7), none, some (.int r16), none, some (.int x22), some (.int x26), none] [.int x32] Z M15 _
                    refine g_istore e_Leaf_layOpen_191 (by decide) rfl ?_
                    refine g_aload_n e_Leaf_layOpen_193 rfl ?_
                    refine g_iload e_Leaf_layOpen_194 rfl ?_
                    refine g_iload e_Leaf_layOpen_196 rfl ?_
                    refine g_callV (rv := rvU) (As := [.int x22, .int r16]) (st := []) e_Leaf_layOpen_198 mv_Leaf_46 my_Leaf_turnOver (by decide) rfl rfl ha0 (hz.lt ha0) rfl (Nat.le_of_ble_eq_true rfl) rfl (fun r M1 h => c_Leaf_turnOver hz ha0 h) (fun r34 M33 h35 => ?_)
                    refine g_iload e_Leaf_layOpen_201 rfl ?_
                    refine g_if_eq e_Leaf_layOpen_203 (fun c36 => ?_) (fun c36 => ?_)
                    · refine g_aload_n e_Leaf_layOpen_221 rfl ?_
                      refine g_iload e_Leaf_layOpen_222 rfl ?_
                      refine g_putL e_Leaf_layOpen_224 fp_Leaf_15 ha0 (hz.lt ha0) fj_1_0 rfl rfl (fun M37 => ?_)
                      refine g_iconst (x := (2 : Int32)) e_Leaf_layOpen_227 (by decide) ?_
                      refine g_iload e_Leaf_layOpen_228 rfl ?_
                      refine g_imul e_Leaf_layOpen_230 ?_
                      refine g_istoreL e_Leaf_layOpen_231 (by decide) rfl (fun x38 => ?_)
                      exact g_wq (t_Leaf_layOpen_233 hz ha0 ha1 (ih) x24 v4 x38 x20 v7 M37) ⟨rfl, rfl, rfl, rfl, rfl, rfl, rfl, trivial⟩
                    · refine g_aload_n e_Leaf_layOpen_206 rfl ?_
                      refine g_iload e_Leaf_layOpen_207 rfl ?_
                      refine g_putL e_Leaf_layOpen_209 fp_Leaf_18 ha0 (hz.lt ha0) fj_1_1 rfl rfl (fun M40 => ?_)
                      refine g_iconst (x := (2 : Int32)) e_Leaf_layOpen_212 (by decide) ?_
                      refine g_iload e_Leaf_layOpen_213 rfl ?_
                      refine g_imul e_Leaf_layOpen_215 ?_
                      refine g_istoreL e_Leaf_layOpen_216 (by decide) rfl (fun x41 => ?_)
                      refine g_goto e_Leaf_layOpen_218 ?_
                      exact g_wq (t_Leaf_layOpen_233 hz ha0 ha1 (ih) x24 x41 v5 x20 v7 M40) ⟨rfl, rfl, rfl, rfl, rfl, rfl, rfl, trivial⟩
                  · refine g_if_eq' e_Leaf_layOpen_174 (fun c31 => ?_) (fun c31 => ?_)
                    · refine g_iload e_Leaf_layOpen_189 rfl ?_
                      exact (g_pt c31 (g_lt (g_wq (hj42 x30) ⟨rfl, rfl, rfl, rfl, rfl, rfl, rfl, rfl, rfl, rfl, trivial⟩)))
                    · refine g_iconst (x := (2 : Int32)) e_Leaf_layOpen_177 (by decide) ?_
                      refine g_iload e_Leaf_layOpen_178 rfl ?_
                      refine g_imul e_Leaf_layOpen_180 ?_
                      refine g_iconst (x := (1 : Int32)) e_Leaf_layOpen_181 (by decide) ?_
                      refine g_isub e_Leaf_layOpen_182 ?_
                      refine g_iload e_Leaf_layOpen_183 rfl ?_
                      refine g_isub e_Leaf_layOpen_185 ?_
                      refine g_goto e_Leaf_layOpen_186 ?_
                      exact (g_pf c31 (g_lt (g_wq (hj42 ((((2 : Int32) * x26) - (1 : Int32)) - x30)) ⟨rfl, rfl, rfl, rfl, rfl, rfl, rfl, rfl, rfl, rfl, trivial⟩)))
                · refine g_if_eq' e_Leaf_layOpen_157 (fun c29 => ?_) (fun c29 => ?_)
                  · refine g_iload e_Leaf_layOpen_168 rfl ?_
                    exact (g_pt c29 (g_lt (g_wq (hj43 x28) ⟨rfl, rfl, rfl, rfl, rfl, rfl, rfl, rfl, rfl, rfl, trivial⟩)))
                  · refine g_iload e_Leaf_layOpen_160 rfl ?_
                    refine g_iload e_Leaf_layOpen_162 rfl ?_
                    refine g_iadd e_Leaf_layOpen_164 ?_
                    refine g_goto e_Leaf_layOpen_165 ?_
                    exact (g_pf c29 (g_lt (g_wq (hj43 (x28 + x26)) ⟨rfl, rfl, rfl, rfl, rfl, rfl, rfl, rfl, rfl, rfl, trivial⟩)))
              · refine g_if_eq' e_Leaf_layOpen_139 (fun c27 => ?_) (fun c27 => ?_)
                · refine g_aload_n e_Leaf_layOpen_149 rfl ?_
                  refine g_getI e_Leaf_layOpen_150 fl_Leaf_15 ha0 (hz.lt ha0) fj_1_0 ?_
                  exact (g_pt c27 (g_lt (g_wq (hj44 (M15.1 a0 0)) ⟨rfl, rfl, rfl, rfl, rfl, rfl, rfl, rfl, rfl, rfl, rfl, trivial⟩)))
                · refine g_aload_n e_Leaf_layOpen_142 rfl ?_
                  refine g_getI e_Leaf_layOpen_143 fl_Leaf_18 ha0 (hz.lt ha0) fj_1_1 ?_
                  refine g_goto e_Leaf_layOpen_146 ?_
                  exact (g_pf c27 (g_lt (g_wq (hj44 (M15.1 a0 1)) ⟨rfl, rfl, rfl, rfl, rfl, rfl, rfl, rfl, rfl, rfl, rfl, trivial⟩)))
            · refine g_if_eq' e_Leaf_layOpen_125 (fun c25 => ?_) (fun c25 => ?_)
              · refine g_iload e_Leaf_layOpen_133 rfl ?_
                exact (g_pt c25 (g_lt (g_wq (hj45 v5) ⟨rfl, rfl, rfl, rfl, rfl, rfl, rfl, rfl, rfl, rfl, trivial⟩)))
              · refine g_iload e_Leaf_layOpen_128 rfl ?_
                refine g_goto e_Leaf_layOpen_130 ?_
                exact (g_pf c25 (g_lt (g_wq (hj45 v4) ⟨rfl, rfl, rfl, rfl, rfl, rfl, rfl, rfl, rfl, rfl, trivial⟩)))
          · refine g_if_eq' e_Leaf_layOpen_106 (fun c23 => ?_) (fun c23 => ?_)
            · refine g_iload_n e_Leaf_layOpen_118 rfl ?_
              refine g_iload e_Leaf_layOpen_119 rfl ?_
              refine g_isub e_Leaf_layOpen_121 ?_
              exact (g_pt c23 (g_lt (g_wq (hj46 (v3 - x20)) ⟨rfl, rfl, rfl, rfl, rfl, rfl, rfl, rfl, rfl, trivial⟩)))
            · refine g_iload e_Leaf_layOpen_109 rfl ?_
              refine g_iconst (x := (1 : Int32)) e_Leaf_layOpen_111 (by decide) ?_
              refine g_isub e_Leaf_layOpen_112 ?_
              refine g_iload_n e_Leaf_layOpen_113 rfl ?_
              refine g_isub e_Leaf_layOpen_114 ?_
              refine g_goto e_Leaf_layOpen_115 ?_
              exact (g_pf c23 (g_lt (g_wq (hj46 ((x20 - (1 : Int32)) - v3)) ⟨rfl, rfl, rfl, rfl, rfl, rfl, rfl, rfl, rfl, trivial⟩)))
        · refine g_icmp_ge' e_Leaf_layOpen_94 (fun c21 => ?_) (fun c21 => ?_)
          · refine g_iconst (x := (0 : Int32)) e_Leaf_layOpen_101 (by decide) ?_
            exact (g_pt c21 (g_lt (g_wq (hj47 (0 : Int32)) ⟨rfl, rfl, rfl, rfl, rfl, rfl, rfl, rfl, rfl, trivial⟩)))
          · refine g_iconst (x := (1 : Int32)) e_Leaf_layOpen_97 (by decide) ?_
            refine g_goto e_Leaf_layOpen_98 ?_
            exact (g_pf c21 (g_lt (g_wq (hj47 (1 : Int32)) ⟨rfl, rfl, rfl, rfl, rfl, rfl, rfl, rfl, rfl, trivial⟩)))
      · refine g_icmp_ne' e_Leaf_layOpen_75 (fun c18 => ?_) (fun c18 => ?_)
        · refine g_iconst (x := (0 : Int32)) e_Leaf_layOpen_82 (by decide) ?_
          exact (g_pf c18 (g_lt (g_wq (hj48 (0 : Int32)) ⟨rfl, rfl, rfl, rfl, rfl, rfl, rfl, rfl, trivial⟩)))
        · refine g_iconst (x := (1 : Int32)) e_Leaf_layOpen_78 (by decide) ?_
          refine g_goto e_Leaf_layOpen_79 ?_
          exact (g_pt c18 (g_lt (g_wq (hj48 (1 : Int32)) ⟨rfl, rfl, rfl, rfl, rfl, rfl, rfl, rfl, trivial⟩)))
set_option maxHeartbeats 4000000 in
set_option maxRecDepth 20000 in
theorem t_Leaf_layOpen {X : KX} {Z : ZZ} {a0 : Nat} {a1 : Nat} {v2 : Int32} {M : Mm} (hz : FU Z) (ha0 : kD a0 = 1) (ha1 : kD a1 = 0) : GO X md_Leaf_layOpen (QE X rvU Z) 0 [some (rf (kG X) a0), some (rf (kG X) a1), some (.int v2), none, none, none, none, none, none, none, none, none, none, none] [] Z M (f_Leaf_layOpen a0 a1 v2 M) := by
  unfold f_Leaf_layOpen
  refine g_aload_n e_Leaf_layOpen_0 rfl ?_
  refine g_iconst (x := (0 : Int32)) e_Leaf_layOpen_1 (by decide) ?_
  refine g_putL e_Leaf_layOpen_2 fp_Leaf_15 ha0 (hz.lt ha0) fj_1_0 rfl rfl (fun M1 => ?_)
  refine g_aload_n e_Leaf_layOpen_5 rfl ?_
  refine g_iconst (x := (0 : Int32)) e_Leaf_layOpen_6 (by decide) ?_
  refine g_putL e_Leaf_layOpen_7 fp_Leaf_18 ha0 (hz.lt ha0) fj_1_1 rfl rfl (fun M2 => ?_)
  refine g_aload_n e_Leaf_layOpen_10 rfl ?_
  refine g_iload_n e_Leaf_layOpen_11 rfl ?_
  refine g_putL e_Leaf_layOpen_12 fp_Leaf_21 ha0 (hz.lt ha0) fj_1_2 rfl rfl (fun M3 => ?_)
  refine g_aload_n e_Leaf_layOpen_15 rfl ?_
  refine g_iconst (x := (0 : Int32)) e_Leaf_layOpen_16 (by decide) ?_
  refine g_putL e_Leaf_layOpen_17 fp_Leaf_9 ha0 (hz.lt ha0) fj_1_3 rfl rfl (fun M4 => ?_)
  refine g_aload_n e_Leaf_layOpen_20 rfl ?_
  refine g_iconst (x := (0 : Int32)) e_Leaf_layOpen_21 (by decide) ?_
  refine g_putL e_Leaf_layOpen_22 fp_Leaf_24 ha0 (hz.lt ha0) fj_1_4 rfl rfl (fun M5 => ?_)
  refine g_aload_n e_Leaf_layOpen_25 rfl ?_
  refine g_getI e_Leaf_layOpen_26 fl_Leaf_21 ha0 (hz.lt ha0) fj_1_2 ?_
  refine g_istoreL_n e_Leaf_layOpen_29 (by decide) rfl (fun x6 => ?_)
  refine g_iconst (x := (1 : Int32)) e_Leaf_layOpen_30 (by decide) ?_
  refine g_istore e_Leaf_layOpen_31 (by decide) rfl ?_
  refine g_iconst (x := (1 : Int32)) e_Leaf_layOpen_33 (by decide) ?_
  refine g_istore e_Leaf_layOpen_34 (by decide) rfl ?_
  refine g_aload_n e_Leaf_layOpen_36 rfl ?_
  refine g_callV (rv := rvI) (As := []) (st := []) e_Leaf_layOpen_37 mv_Leaf_50 my_Job_leaves (by decide) rfl rfl ha1 (hz.lt ha1) rfl (Nat.le_of_ble_eq_true rfl) rfl (fun r M1 h => c_Job_leaves hz ha1 h) (fun r8 M7 h9 => ?_)
  refine g_istore e_Leaf_layOpen_40 (by decide) rfl ?_
  refine g_aload_n e_Leaf_layOpen_42 rfl ?_
  refine g_getI e_Leaf_layOpen_43 fl_Leaf_35 ha1 (hz.lt ha1) fj_0_0 ?_
  refine g_iconst (x := (1 : Int32)) e_Leaf_layOpen_46 (by decide) ?_
  refine g_isub e_Leaf_layOpen_47 ?_
  refine g_istoreL e_Leaf_layOpen_48 (by decide) rfl (fun x10 => ?_)
  exact g_wq (t_Leaf_layOpen_50 hz ha0 ha1 fuel x6 (1 : Int32) (1 : Int32) r8 x10 M7) ⟨rfl, rfl, rfl, rfl, rfl, rfl, rfl, trivial⟩
set_option maxHeartbeats 4000000 in
set_option maxRecDepth 20000 in
theorem c_Leaf_layOpen {l : Launch} {G : KG} {Z : ZZ} {a0 : Nat} {a1 : Nat} {v2 : Int32} {M M' : Mm} {r : Unit} (hz : FU Z) (ha0 : kD a0 = 1) (ha1 : kD a1 = 0) (h : f_Leaf_layOpen a0 a1 v2 M = some (r, M')) : CT l G y_Leaf_layOpen md_Leaf_layOpen 0 0 [rf G a0, rf G a1, .int v2] Z.2.2.1 Z.2.2.2 M (rvU r) Z.2.2.1 Z.2.2.2 M' :=
  CT.of (Z := (0, 0, Z.2.2.1, Z.2.2.2)) (Z' := (0, 0, Z.2.2.1, Z.2.2.2)) 11 (by decide) rfl ⟨rfl, rfl⟩ (by show 3 ≤ 14; decide) rfl h (fun X _ hG => by subst hG; exact t_Leaf_layOpen hz ha0 ha1)
set_option maxHeartbeats 4000000 in
set_option maxRecDepth 20000 in
theorem t_Row_clear {X : KX} {Z : ZZ} {a0 : Nat} {M : Mm} (hz : FU Z) (ha0 : kD a0 = 4) : GO X md_Row_clear (QE X rvU Z) 0 [some (rf (kG X) a0)] [] Z M (f_Row_clear a0 M) := by
  unfold f_Row_clear
  refine g_aload_n e_Row_clear_0 rfl ?_
  refine g_iconst (x := (0 : Int32)) e_Row_clear_1 (by decide) ?_
  refine g_putL e_Row_clear_2 fp_Row_15 ha0 (hz.lt ha0) fj_4_1 rfl rfl (fun M1 => ?_)
  exact g_vret e_Row_clear_5 rfl
set_option maxHeartbeats 4000000 in
set_option maxRecDepth 20000 in
theorem c_Row_clear {l : Launch} {G : KG} {Z : ZZ} {a0 : Nat} {M M' : Mm} {r : Unit} (hz : FU Z) (ha0 : kD a0 = 4) (h : f_Row_clear a0 M = some (r, M')) : CT l G y_Row_clear md_Row_clear 0 0 [rf G a0] Z.2.2.1 Z.2.2.2 M (rvU r) Z.2.2.1 Z.2.2.2 M' :=
  CT.of (Z := (0, 0, Z.2.2.1, Z.2.2.2)) (Z' := (0, 0, Z.2.2.1, Z.2.2.2)) 0 (by decide) rfl ⟨rfl, rfl⟩ (by show 1 ≤ 1; decide) rfl h (fun X _ hG => by subst hG; exact t_Row_clear hz ha0)
set_option maxHeartbeats 4000000 in
set_option maxRecDepth 20000 in
theorem t_Plan_clear {X : KX} {Z : ZZ} {a0 : Nat} {M : Mm} (hz : FU Z) (ha0 : kD a0 = 2) : GO X md_Plan_clear (QE X rvU Z) 0 [some (rf (kG X) a0)] [] Z M (f_Plan_clear a0 M) := by
  unfold f_Plan_clear
  refine g_aload_n e_Plan_clear_0 rfl ?_
  refine g_getRZ (kz := (a0 + 1)) e_Plan_clear_1 fl_Plan_16 hz ha0 (by decide) fj_2_0 rfl ?_
  refine g_callV (rv := rvU) (As := []) (st := []) e_Plan_clear_4 mv_Plan_29 my_Row_clear (by decide) rfl rfl (kk_2_1 ha0) (hz.lt (kk_2_1 ha0)) rfl (Nat.le_of_ble_eq_true rfl) rfl (fun r M1 h => c_Row_clear hz (kk_2_1 ha0) h) (fun r2 M1 h3 => ?_)
  refine g_aload_n e_Plan_clear_7 rfl ?_
  refine g_getRZ (kz := (a0 + 3)) e_Plan_clear_8 fl_Plan_20 hz ha0 (by decide) fj_2_1 rfl ?_
  refine g_callV (rv := rvU) (As := []) (st := []) e_Plan_clear_11 mv_Plan_29 my_Row_clear (by decide) rfl rfl (kk_2_3 ha0) (hz.lt (kk_2_3 ha0)) rfl (Nat.le_of_ble_eq_true rfl) rfl (fun r M1 h => c_Row_clear hz (kk_2_3 ha0) h) (fun r5 M4 h6 => ?_)
  refine g_aload_n e_Plan_clear_14 rfl ?_
  refine g_getRZ (kz := (a0 + 5)) e_Plan_clear_15 fl_Plan_23 hz ha0 (by decide) fj_2_2 rfl ?_
  refine g_callV (rv := rvU) (As := []) (st := []) e_Plan_clear_18 mv_Plan_29 my_Row_clear (by decide) rfl rfl (kk_2_5 ha0) (hz.lt (kk_2_5 ha0)) rfl (Nat.le_of_ble_eq_true rfl) rfl (fun r M1 h => c_Row_clear hz (kk_2_5 ha0) h) (fun r8 M7 h9 => ?_)
  exact g_vret e_Plan_clear_21 rfl
set_option maxHeartbeats 4000000 in
set_option maxRecDepth 20000 in
theorem c_Plan_clear {l : Launch} {G : KG} {Z : ZZ} {a0 : Nat} {M M' : Mm} {r : Unit} (hz : FU Z) (ha0 : kD a0 = 2) (h : f_Plan_clear a0 M = some (r, M')) : CT l G y_Plan_clear md_Plan_clear 0 0 [rf G a0] Z.2.2.1 Z.2.2.2 M (rvU r) Z.2.2.1 Z.2.2.2 M' :=
  CT.of (Z := (0, 0, Z.2.2.1, Z.2.2.2)) (Z' := (0, 0, Z.2.2.1, Z.2.2.2)) 0 (by decide) rfl ⟨rfl, rfl⟩ (by show 1 ≤ 1; decide) rfl h (fun X _ hG => by subst hG; exact t_Plan_clear hz ha0)
set_option maxHeartbeats 4000000 in
set_option maxRecDepth 20000 in
theorem t_Row_has {X : KX} {Z : ZZ} {a0 : Nat} {v1 : Int32} {M : Mm} (hz : FU Z) (ha0 : kD a0 = 4) : GO X md_Row_has (QE X rvI Z) 0 [some (rf (kG X) a0), some (.int v1)] [] Z M (f_Row_has a0 v1 M) := by
  unfold f_Row_has
  refine g_iload_n e_Row_has_0 rfl ?_
  refine g_if_lt e_Row_has_1 (fun c1 => ?_) (fun c1 => ?_)
  · refine g_iconst (x := (0 : Int32)) e_Row_has_25 (by decide) ?_
    exact g_zret e_Row_has_26 rfl (by decide)
  · refine g_iload_n e_Row_has_4 rfl ?_
    refine g_aload_n e_Row_has_5 rfl ?_
    refine g_getI e_Row_has_6 fl_Row_15 ha0 (hz.lt ha0) fj_4_1 ?_
    refine g_icmp_ge e_Row_has_9 (fun c2 => ?_) (fun c2 => ?_)
    · refine g_iconst (x := (0 : Int32)) e_Row_has_25 (by decide) ?_
      exact g_zret e_Row_has_26 rfl (by decide)
    · refine g_iload_n e_Row_has_12 rfl ?_
      refine g_aload_n e_Row_has_13 rfl ?_
      refine g_getRZ (kz := (a0 + 1)) e_Row_has_14 fl_Row_9 hz ha0 (by decide) fj_4_0 rfl ?_
      refine g_alenI (n := (aL (a0 + 1))) e_Row_has_17 ((kk_4_1 ha0)).1 ((kk_4_1 ha0)).2 (hz.lt ((kk_4_1 ha0)).1 (by omega)) ?_
      refine g_icmp_ge e_Row_has_18 (fun c3 => ?_) (fun c3 => ?_)
      · refine g_iconst (x := (0 : Int32)) e_Row_has_25 (by decide) ?_
        exact g_zret e_Row_has_26 rfl (by decide)
      · refine g_iconst (x := (1 : Int32)) e_Row_has_21 (by decide) ?_
        refine g_goto e_Row_has_22 ?_
        exact g_zret e_Row_has_26 rfl (by decide)
set_option maxHeartbeats 4000000 in
set_option maxRecDepth 20000 in
theorem c_Row_has {l : Launch} {G : KG} {Z : ZZ} {a0 : Nat} {v1 : Int32} {M M' : Mm} {r : Int32} (hz : FU Z) (ha0 : kD a0 = 4) (h : f_Row_has a0 v1 M = some (r, M')) : CT l G y_Row_has md_Row_has 0 0 [rf G a0, .int v1] Z.2.2.1 Z.2.2.2 M (rvI r) Z.2.2.1 Z.2.2.2 M' :=
  CT.of (Z := (0, 0, Z.2.2.1, Z.2.2.2)) (Z' := (0, 0, Z.2.2.1, Z.2.2.2)) 0 (by decide) rfl ⟨rfl, rfl⟩ (by show 2 ≤ 2; decide) rfl h (fun X _ hG => by subst hG; exact t_Row_has hz ha0)
set_option maxHeartbeats 4000000 in
set_option maxRecDepth 20000 in
theorem t_Row_get {X : KX} {Z : ZZ} {a0 : Nat} {v1 : Int32} {M : Mm} (hz : FU Z) (ha0 : kD a0 = 4) : GO X md_Row_get (QE X rvI Z) 0 [some (rf (kG X) a0), some (.int v1)] [] Z M (f_Row_get a0 v1 M) := by
  unfold f_Row_get
  refine g_aload_n e_Row_get_0 rfl ?_
  refine g_iload_n e_Row_get_1 rfl ?_
  refine g_callV (rv := rvI) (As := [.int v1]) (st := []) e_Row_get_2 mv_Row_19 my_Row_has (by decide) rfl rfl ha0 (hz.lt ha0) rfl (Nat.le_of_ble_eq_true rfl) rfl (fun r M1 h => c_Row_has hz ha0 h) (fun r2 M1 h3 => ?_)
  refine g_if_eq e_Row_get_5 (fun c4 => ?_) (fun c4 => ?_)
  · refine g_bipush (x := (-5 : Int32)) e_Row_get_17 (by decide) ?_
    exact g_iret e_Row_get_19 rfl
  · refine g_aload_n e_Row_get_8 rfl ?_
    refine g_getRZ (kz := (a0 + 1)) e_Row_get_9 fl_Row_9 hz ha0 (by decide) fj_4_0 rfl ?_
    refine g_iload_n e_Row_get_12 rfl ?_
    refine g_ialdG (n := (aL (a0 + 1))) e_Row_get_13 (kk_4_1 ha0) (hz.lt ((kk_4_1 ha0)).1 (by omega)) ?_
    refine g_goto e_Row_get_14 ?_
    exact g_iret e_Row_get_19 rfl
set_option maxHeartbeats 4000000 in
set_option maxRecDepth 20000 in
theorem c_Row_get {l : Launch} {G : KG} {Z : ZZ} {a0 : Nat} {v1 : Int32} {M M' : Mm} {r : Int32} (hz : FU Z) (ha0 : kD a0 = 4) (h : f_Row_get a0 v1 M = some (r, M')) : CT l G y_Row_get md_Row_get 0 0 [rf G a0, .int v1] Z.2.2.1 Z.2.2.2 M (rvI r) Z.2.2.1 Z.2.2.2 M' :=
  CT.of (Z := (0, 0, Z.2.2.1, Z.2.2.2)) (Z' := (0, 0, Z.2.2.1, Z.2.2.2)) 0 (by decide) rfl ⟨rfl, rfl⟩ (by show 2 ≤ 2; decide) rfl h (fun X _ hG => by subst hG; exact t_Row_get hz ha0)
set_option maxHeartbeats 4000000 in
set_option maxRecDepth 20000 in
theorem t_Row_add {X : KX} {Z : ZZ} {a0 : Nat} {v1 : Int32} {M : Mm} (hz : FU Z) (ha0 : kD a0 = 4) : GO X md_Row_add (QE X rvI Z) 0 [some (rf (kG X) a0), some (.int v1)] [] Z M (f_Row_add a0 v1 M) := by
  unfold f_Row_add
  refine g_aload_n e_Row_add_0 rfl ?_
  refine g_getI e_Row_add_1 fl_Row_15 ha0 (hz.lt ha0) fj_4_1 ?_
  refine g_if_lt e_Row_add_4 (fun c1 => ?_) (fun c1 => ?_)
  · refine g_iconst (x := (0 : Int32)) e_Row_add_19 (by decide) ?_
    exact g_zret e_Row_add_20 rfl (by decide)
  · refine g_aload_n e_Row_add_7 rfl ?_
    refine g_getI e_Row_add_8 fl_Row_15 ha0 (hz.lt ha0) fj_4_1 ?_
    refine g_aload_n e_Row_add_11 rfl ?_
    refine g_getRZ (kz := (a0 + 1)) e_Row_add_12 fl_Row_9 hz ha0 (by decide) fj_4_0 rfl ?_
    refine g_alenI (n := (aL (a0 + 1))) e_Row_add_15 ((kk_4_1 ha0)).1 ((kk_4_1 ha0)).2 (hz.lt ((kk_4_1 ha0)).1 (by omega)) ?_
    refine g_icmp_lt e_Row_add_16 (fun c2 => ?_) (fun c2 => ?_)
    · refine g_aload_n e_Row_add_21 rfl ?_
      refine g_getRZ (kz := (a0 + 1)) e_Row_add_22 fl_Row_9 hz ha0 (by decide) fj_4_0 rfl ?_
      refine g_aload_n e_Row_add_25 rfl ?_
      refine g_getI e_Row_add_26 fl_Row_15 ha0 (hz.lt ha0) fj_4_1 ?_
      refine g_iload_n e_Row_add_29 rfl ?_
      refine g_iastG (n := (aL (a0 + 1))) e_Row_add_30 (kk_4_1 ha0) (hz.lt ((kk_4_1 ha0)).1 (by omega)) (fun M3 => ?_)
      refine g_aload_n e_Row_add_31 rfl ?_
      refine g_dup e_Row_add_32 rfl ?_
      refine g_getI e_Row_add_33 fl_Row_15 ha0 (hz.lt ha0) fj_4_1 ?_
      refine g_iconst (x := (1 : Int32)) e_Row_add_36 (by decide) ?_
      refine g_iadd e_Row_add_37 ?_
      refine g_putL e_Row_add_38 fp_Row_15 ha0 (hz.lt ha0) fj_4_1 rfl rfl (fun M4 => ?_)
      refine g_iconst (x := (1 : Int32)) e_Row_add_41 (by decide) ?_
      exact g_zret e_Row_add_42 rfl (by decide)
    · refine g_iconst (x := (0 : Int32)) e_Row_add_19 (by decide) ?_
      exact g_zret e_Row_add_20 rfl (by decide)
set_option maxHeartbeats 4000000 in
set_option maxRecDepth 20000 in
theorem c_Row_add {l : Launch} {G : KG} {Z : ZZ} {a0 : Nat} {v1 : Int32} {M M' : Mm} {r : Int32} (hz : FU Z) (ha0 : kD a0 = 4) (h : f_Row_add a0 v1 M = some (r, M')) : CT l G y_Row_add md_Row_add 0 0 [rf G a0, .int v1] Z.2.2.1 Z.2.2.2 M (rvI r) Z.2.2.1 Z.2.2.2 M' :=
  CT.of (Z := (0, 0, Z.2.2.1, Z.2.2.2)) (Z' := (0, 0, Z.2.2.1, Z.2.2.2)) 0 (by decide) rfl ⟨rfl, rfl⟩ (by show 2 ≤ 2; decide) rfl h (fun X _ hG => by subst hG; exact t_Row_add hz ha0)
set_option maxHeartbeats 4000000 in
set_option maxRecDepth 20000 in
theorem t_Row_copy_6 {X : KX} {Z : ZZ} {a0 : Nat} {a1 : Nat} (hz : FU Z) (ha0 : kD a0 = 4) (ha1 : kD a1 = 4) : ∀ (n : Nat) (v2 : Int32) (M : Mm), GO X md_Row_copy (QE X rvU Z) 6 [some (rf (kG X) a0), some (rf (kG X) a1), some (.int v2)] [] Z M (f_Row_copy_6 a0 a1 n v2 M) := by
  intro n
  induction n with
  | zero =>
    intro v2 M
    exact g_none
  | succ n ih =>
    intro v2 M
    rw [f_Row_copy_6_s]
    refine g_iload_n e_Row_copy_6 rfl ?_
    refine g_aload_n e_Row_copy_7 rfl ?_
    refine g_getI e_Row_copy_8 fl_Row_15 ha1 (hz.lt ha1) fj_4_1 ?_
    refine g_icmp_ge e_Row_copy_11 (fun c4 => ?_) (fun c4 => ?_)
    · exact g_vret e_Row_copy_30 rfl
    · refine g_aload_n e_Row_copy_14 rfl ?_
      refine g_aload_n e_Row_copy_15 rfl ?_
      refine g_iload_n e_Row_copy_16 rfl ?_
      refine g_callV (rv := rvI) (As := [.int v2]) (st := [rf (kG X) a0]) e_Row_copy_17 mv_Row_29 my_Row_get (by decide) rfl rfl ha1 (hz.lt ha1) rfl (Nat.le_of_ble_eq_true rfl) rfl (fun r M1 h => c_Row_get hz ha1 h) (fun r6 M5 h7 => ?_)
      refine g_callV (rv := rvI) (As := [.int r6]) (st := []) e_Row_copy_20 mv_Row_40 my_Row_add (by decide) rfl rfl ha0 (hz.lt ha0) rfl (Nat.le_of_ble_eq_true rfl) rfl (fun r M1 h => c_Row_add hz ha0 h) (fun r9 M8 h10 => ?_)
      refine g_pop e_Row_copy_23 rfl ?_
      refine g_iincL (c := (1 : Int32)) e_Row_copy_24 rfl (by decide) (by decide) rfl (fun x11 => ?_)
      refine g_goto e_Row_copy_27 ?_
      exact g_wq (ih x11 M8) ⟨rfl, rfl, rfl, trivial⟩
set_option maxHeartbeats 4000000 in
set_option maxRecDepth 20000 in
theorem t_Row_copy {X : KX} {Z : ZZ} {a0 : Nat} {a1 : Nat} {M : Mm} (hz : FU Z) (ha0 : kD a0 = 4) (ha1 : kD a1 = 4) : GO X md_Row_copy (QE X rvU Z) 0 [some (rf (kG X) a0), some (rf (kG X) a1), none] [] Z M (f_Row_copy a0 a1 M) := by
  unfold f_Row_copy
  refine g_aload_n e_Row_copy_0 rfl ?_
  refine g_callV (rv := rvU) (As := []) (st := []) e_Row_copy_1 mv_Row_37 my_Row_clear (by decide) rfl rfl ha0 (hz.lt ha0) rfl (Nat.le_of_ble_eq_true rfl) rfl (fun r M1 h => c_Row_clear hz ha0 h) (fun r2 M1 h3 => ?_)
  refine g_iconst (x := (0 : Int32)) e_Row_copy_4 (by decide) ?_
  refine g_istore_n e_Row_copy_5 (by decide) rfl ?_
  exact g_wq (t_Row_copy_6 hz ha0 ha1 fuel (0 : Int32) M1) ⟨rfl, rfl, rfl, trivial⟩
set_option maxHeartbeats 4000000 in
set_option maxRecDepth 20000 in
theorem c_Row_copy {l : Launch} {G : KG} {Z : ZZ} {a0 : Nat} {a1 : Nat} {M M' : Mm} {r : Unit} (hz : FU Z) (ha0 : kD a0 = 4) (ha1 : kD a1 = 4) (h : f_Row_copy a0 a1 M = some (r, M')) : CT l G y_Row_copy md_Row_copy 0 0 [rf G a0, rf G a1] Z.2.2.1 Z.2.2.2 M (rvU r) Z.2.2.1 Z.2.2.2 M' :=
  CT.of (Z := (0, 0, Z.2.2.1, Z.2.2.2)) (Z' := (0, 0, Z.2.2.1, Z.2.2.2)) 1 (by decide) rfl ⟨rfl, rfl⟩ (by show 2 ≤ 3; decide) rfl h (fun X _ hG => by subst hG; exact t_Row_copy hz ha0 ha1)
set_option maxHeartbeats 4000000 in
set_option maxRecDepth 20000 in
theorem t_Plan_copy {X : KX} {Z : ZZ} {a0 : Nat} {a1 : Nat} {M : Mm} (hz : FU Z) (ha0 : kD a0 = 2) (ha1 : kD a1 = 2) : GO X md_Plan_copy (QE X rvU Z) 0 [some (rf (kG X) a0), some (rf (kG X) a1)] [] Z M (f_Plan_copy a0 a1 M) := by
  unfold f_Plan_copy
  refine g_aload_n e_Plan_copy_0 rfl ?_
  refine g_getRZ (kz := (a0 + 1)) e_Plan_copy_1 fl_Plan_16 hz ha0 (by decide) fj_2_0 rfl ?_
  refine g_aload_n e_Plan_copy_4 rfl ?_
  refine g_getRZ (kz := (a1 + 1)) e_Plan_copy_5 fl_Plan_16 hz ha1 (by decide) fj_2_0 rfl ?_
  refine g_callV (rv := rvU) (As := [rf (kG X) (a1 + 1)]) (st := []) e_Plan_copy_8 mv_Plan_32 my_Row_copy (by decide) rfl rfl (kk_2_1 ha0) (hz.lt (kk_2_1 ha0)) rfl (Nat.le_of_ble_eq_true rfl) rfl (fun r M1 h => c_Row_copy hz (kk_2_1 ha0) (kk_2_1 ha1) h) (fun r2 M1 h3 => ?_)
  refine g_aload_n e_Plan_copy_11 rfl ?_
  refine g_getRZ (kz := (a0 + 3)) e_Plan_copy_12 fl_Plan_20 hz ha0 (by decide) fj_2_1 rfl ?_
  refine g_aload_n e_Plan_copy_15 rfl ?_
  refine g_getRZ (kz := (a1 + 3)) e_Plan_copy_16 fl_Plan_20 hz ha1 (by decide) fj_2_1 rfl ?_
  refine g_callV (rv := rvU) (As := [rf (kG X) (a1 + 3)]) (st := []) e_Plan_copy_19 mv_Plan_32 my_Row_copy (by decide) rfl rfl (kk_2_3 ha0) (hz.lt (kk_2_3 ha0)) rfl (Nat.le_of_ble_eq_true rfl) rfl (fun r M1 h => c_Row_copy hz (kk_2_3 ha0) (kk_2_3 ha1) h) (fun r5 M4 h6 => ?_)
  refine g_aload_n e_Plan_copy_22 rfl ?_
  refine g_getRZ (kz := (a0 + 5)) e_Plan_copy_23 fl_Plan_23 hz ha0 (by decide) fj_2_2 rfl ?_
  refine g_aload_n e_Plan_copy_26 rfl ?_
  refine g_getRZ (kz := (a1 + 5)) e_Plan_copy_27 fl_Plan_23 hz ha1 (by decide) fj_2_2 rfl ?_
  refine g_callV (rv := rvU) (As := [rf (kG X) (a1 + 5)]) (st := []) e_Plan_copy_30 mv_Plan_32 my_Row_copy (by decide) rfl rfl (kk_2_5 ha0) (hz.lt (kk_2_5 ha0)) rfl (Nat.le_of_ble_eq_true rfl) rfl (fun r M1 h => c_Row_copy hz (kk_2_5 ha0) (kk_2_5 ha1) h) (fun r8 M7 h9 => ?_)
  exact g_vret e_Plan_copy_33 rfl
set_option maxHeartbeats 4000000 in
set_option maxRecDepth 20000 in
theorem c_Plan_copy {l : Launch} {G : KG} {Z : ZZ} {a0 : Nat} {a1 : Nat} {M M' : Mm} {r : Unit} (hz : FU Z) (ha0 : kD a0 = 2) (ha1 : kD a1 = 2) (h : f_Plan_copy a0 a1 M = some (r, M')) : CT l G y_Plan_copy md_Plan_copy 0 0 [rf G a0, rf G a1] Z.2.2.1 Z.2.2.2 M (rvU r) Z.2.2.1 Z.2.2.2 M' :=
  CT.of (Z := (0, 0, Z.2.2.1, Z.2.2.2)) (Z' := (0, 0, Z.2.2.1, Z.2.2.2)) 0 (by decide) rfl ⟨rfl, rfl⟩ (by show 2 ≤ 2; decide) rfl h (fun X _ hG => by subst hG; exact t_Plan_copy hz ha0 ha1)
set_option maxHeartbeats 4000000 in
set_option maxRecDepth 20000 in
theorem t_Row_find_6 {X : KX} {Z : ZZ} {a0 : Nat} (hz : FU Z) (ha0 : kD a0 = 4) : ∀ (n : Nat) (v1 : Int32) (v3 : Int32) (M : Mm), GO X md_Row_find (QE X rvI Z) 6 [some (rf (kG X) a0), some (.int v1), none, some (.int v3)] [] Z M (f_Row_find_6 a0 n v1 v3 M) := by
  intro n
  induction n with
  | zero =>
    intro v1 v3 M
    exact g_none
  | succ n ih =>
    intro v1 v3 M
    rw [f_Row_find_6_s]
    refine g_iload_n e_Row_find_6 rfl ?_
    refine g_aload_n e_Row_find_7 rfl ?_
    refine g_getI e_Row_find_8 fl_Row_15 ha0 (hz.lt ha0) fj_4_1 ?_
    refine g_icmp_ge e_Row_find_11 (fun c2 => ?_) (fun c2 => ?_)
    · refine g_iconst (x := (-1 : Int32)) e_Row_find_41 (by decide) ?_
      exact g_iret e_Row_find_42 rfl
    · refine g_iload_n e_Row_find_14 rfl ?_
      refine g_aload_n e_Row_find_15 rfl ?_
      refine g_getRZ (kz := (a0 + 1)) e_Row_find_16 fl_Row_9 hz ha0 (by decide) fj_4_0 rfl ?_
      refine g_alenI (n := (aL (a0 + 1))) e_Row_find_19 ((kk_4_1 ha0)).1 ((kk_4_1 ha0)).2 (hz.lt ((kk_4_1 ha0)).1 (by omega)) ?_
      refine g_icmp_ge e_Row_find_20 (fun c3 => ?_) (fun c3 => ?_)
      · refine g_iconst (x := (-1 : Int32)) e_Row_find_41 (by decide) ?_
        exact g_iret e_Row_find_42 rfl
      · refine g_aload_n e_Row_find_23 rfl ?_
        refine g_getRZ (kz := (a0 + 1)) e_Row_find_24 fl_Row_9 hz ha0 (by decide) fj_4_0 rfl ?_
        refine g_iload_n e_Row_find_27 rfl ?_
        refine g_ialdG (n := (aL (a0 + 1))) e_Row_find_28 (kk_4_1 ha0) (hz.lt ((kk_4_1 ha0)).1 (by omega)) ?_
        refine g_iload_n e_Row_find_29 rfl ?_
        refine g_icmp_ne e_Row_find_30 (fun c4 => ?_) (fun c4 => ?_)
        · refine g_iincL (c := (1 : Int32)) e_Row_find_35 rfl (by decide) (by decide) rfl (fun x5 => ?_)
          refine g_goto e_Row_find_38 ?_
          exact g_wq (ih v1 x5 M) ⟨rfl, rfl, rfl, trivial⟩
        · refine g_iload_n e_Row_find_33 rfl ?_
          exact g_iret e_Row_find_34 rfl
set_option maxHeartbeats 4000000 in
set_option maxRecDepth 20000 in
theorem t_Row_find {X : KX} {Z : ZZ} {a0 : Nat} {v1 : Int32} {v2 : Int32} {M : Mm} (hz : FU Z) (ha0 : kD a0 = 4) : GO X md_Row_find (QE X rvI Z) 0 [some (rf (kG X) a0), some (.int v1), some (.int v2), none] [] Z M (f_Row_find a0 v1 v2 M) := by
  unfold f_Row_find
  refine g_iload_n e_Row_find_0 rfl ?_
  refine g_iconst (x := (0 : Int32)) e_Row_find_1 (by decide) ?_
  refine g_mmax e_Row_find_2 ⟨w_539, w_517, w_12, w_518⟩ ⟨by decide, Nat.le_of_ble_eq_true rfl⟩ ?_
  refine g_istoreL_n e_Row_find_5 (by decide) rfl (fun x1 => ?_)
  exact g_wq (t_Row_find_6 hz ha0 fuel v1 x1 M) ⟨rfl, rfl, rfl, trivial⟩
set_option maxHeartbeats 4000000 in
set_option maxRecDepth 20000 in
theorem c_Row_find {l : Launch} {G : KG} {Z : ZZ} {a0 : Nat} {v1 : Int32} {v2 : Int32} {M M' : Mm} {r : Int32} (hz : FU Z) (ha0 : kD a0 = 4) (h : f_Row_find a0 v1 v2 M = some (r, M')) : CT l G y_Row_find md_Row_find 0 0 [rf G a0, .int v1, .int v2] Z.2.2.1 Z.2.2.2 M (rvI r) Z.2.2.1 Z.2.2.2 M' :=
  CT.of (Z := (0, 0, Z.2.2.1, Z.2.2.2)) (Z' := (0, 0, Z.2.2.1, Z.2.2.2)) 1 (by decide) rfl ⟨rfl, rfl⟩ (by show 3 ≤ 4; decide) rfl h (fun X _ hG => by subst hG; exact t_Row_find hz ha0)
set_option maxHeartbeats 4000000 in
set_option maxRecDepth 20000 in
theorem t_Row_put {X : KX} {Z : ZZ} {a0 : Nat} {v1 : Int32} {v2 : Int32} {M : Mm} (hz : FU Z) (ha0 : kD a0 = 4) : GO X md_Row_put (QE X rvU Z) 0 [some (rf (kG X) a0), some (.int v1), some (.int v2)] [] Z M (f_Row_put a0 v1 v2 M) := by
  unfold f_Row_put
  refine g_aload_n e_Row_put_0 rfl ?_
  refine g_iload_n e_Row_put_1 rfl ?_
  refine g_callV (rv := rvI) (As := [.int v1]) (st := []) e_Row_put_2 mv_Row_19 my_Row_has (by decide) rfl rfl ha0 (hz.lt ha0) rfl (Nat.le_of_ble_eq_true rfl) rfl (fun r M1 h => c_Row_has hz ha0 h) (fun r2 M1 h3 => ?_)
  refine g_if_eq e_Row_put_5 (fun c4 => ?_) (fun c4 => ?_)
  · exact g_vret e_Row_put_15 rfl
  · refine g_aload_n e_Row_put_8 rfl ?_
    refine g_getRZ (kz := (a0 + 1)) e_Row_put_9 fl_Row_9 hz ha0 (by decide) fj_4_0 rfl ?_
    refine g_iload_n e_Row_put_12 rfl ?_
    refine g_iload_n e_Row_put_13 rfl ?_
    refine g_iastG (n := (aL (a0 + 1))) e_Row_put_14 (kk_4_1 ha0) (hz.lt ((kk_4_1 ha0)).1 (by omega)) (fun M5 => ?_)
    exact g_vret e_Row_put_15 rfl
set_option maxHeartbeats 4000000 in
set_option maxRecDepth 20000 in
theorem c_Row_put {l : Launch} {G : KG} {Z : ZZ} {a0 : Nat} {v1 : Int32} {v2 : Int32} {M M' : Mm} {r : Unit} (hz : FU Z) (ha0 : kD a0 = 4) (h : f_Row_put a0 v1 v2 M = some (r, M')) : CT l G y_Row_put md_Row_put 0 0 [rf G a0, .int v1, .int v2] Z.2.2.1 Z.2.2.2 M (rvU r) Z.2.2.1 Z.2.2.2 M' :=
  CT.of (Z := (0, 0, Z.2.2.1, Z.2.2.2)) (Z' := (0, 0, Z.2.2.1, Z.2.2.2)) 0 (by decide) rfl ⟨rfl, rfl⟩ (by show 3 ≤ 3; decide) rfl h (fun X _ hG => by subst hG; exact t_Row_put hz ha0)
set_option maxHeartbeats 4000000 in
set_option maxRecDepth 20000 in
theorem t_Plan_tell {X : KX} {Z : ZZ} {a0 : Nat} {v1 : Int32} {v2 : Int32} {v3 : Int32} {M : Mm} (hz : FU Z) (ha0 : kD a0 = 2) : GO X md_Plan_tell (QE X rvI Z) 0 [some (rf (kG X) a0), some (.int v1), some (.int v2), some (.int v3), none] [] Z M (f_Plan_tell a0 v1 v2 v3 M) := by
  unfold f_Plan_tell
  refine g_aload_n e_Plan_tell_0 rfl ?_
  refine g_getRZ (kz := (a0 + 1)) e_Plan_tell_1 fl_Plan_16 hz ha0 (by decide) fj_2_0 rfl ?_
  refine g_iload_n e_Plan_tell_4 rfl ?_
  refine g_iconst (x := (0 : Int32)) e_Plan_tell_5 (by decide) ?_
  refine g_callV (rv := rvI) (As := [.int v1, .int (0 : Int32)]) (st := []) e_Plan_tell_6 mv_Plan_36 my_Row_find (by decide) rfl rfl (kk_2_1 ha0) (hz.lt (kk_2_1 ha0)) rfl (Nat.le_of_ble_eq_true rfl) rfl (fun r M1 h => c_Row_find hz (kk_2_1 ha0) h) (fun r2 M1 h3 => ?_)
  refine g_istore e_Plan_tell_9 (by decide) rfl ?_
  refine g_iload e_Plan_tell_11 rfl ?_
  refine g_if_lt e_Plan_tell_13 (fun c4 => ?_) (fun c4 => ?_)
  · refine g_aload_n e_Plan_tell_38 rfl ?_
    refine g_getRZ (kz := (a0 + 1)) e_Plan_tell_39 fl_Plan_16 hz ha0 (by decide) fj_2_0 rfl ?_
    refine g_iload_n e_Plan_tell_42 rfl ?_
    refine g_callV (rv := rvI) (As := [.int v1]) (st := []) e_Plan_tell_43 mv_Plan_44 my_Row_add (by decide) rfl rfl (kk_2_1 ha0) (hz.lt (kk_2_1 ha0)) rfl (Nat.le_of_ble_eq_true rfl) rfl (fun r M1 h => c_Row_add hz (kk_2_1 ha0) h) (fun r6 M5 h7 => ?_)
    refine g_if_ne e_Plan_tell_46 (fun c8 => ?_) (fun c8 => ?_)
    · refine g_aload_n e_Plan_tell_51 rfl ?_
      refine g_getRZ (kz := (a0 + 3)) e_Plan_tell_52 fl_Plan_20 hz ha0 (by decide) fj_2_1 rfl ?_
      refine g_iload_n e_Plan_tell_55 rfl ?_
      refine g_callV (rv := rvI) (As := [.int v2]) (st := []) e_Plan_tell_56 mv_Plan_44 my_Row_add (by decide) rfl rfl (kk_2_3 ha0) (hz.lt (kk_2_3 ha0)) rfl (Nat.le_of_ble_eq_true rfl) rfl (fun r M1 h => c_Row_add hz (kk_2_3 ha0) h) (fun r10 M9 h11 => ?_)
      refine g_pop e_Plan_tell_59 rfl ?_
      refine g_aload_n e_Plan_tell_60 rfl ?_
      refine g_getRZ (kz := (a0 + 5)) e_Plan_tell_61 fl_Plan_23 hz ha0 (by decide) fj_2_2 rfl ?_
      refine g_iload_n e_Plan_tell_64 rfl ?_
      refine g_callV (rv := rvI) (As := [.int v3]) (st := []) e_Plan_tell_65 mv_Plan_44 my_Row_add (by decide) rfl rfl (kk_2_5 ha0) (hz.lt (kk_2_5 ha0)) rfl (Nat.le_of_ble_eq_true rfl) rfl (fun r M1 h => c_Row_add hz (kk_2_5 ha0) h) (fun r13 M12 h14 => ?_)
      refine g_pop e_Plan_tell_68 rfl ?_
      refine g_iconst (x := (1 : Int32)) e_Plan_tell_69 (by decide) ?_
      exact g_zret e_Plan_tell_70 rfl (by decide)
    · refine g_iconst (x := (0 : Int32)) e_Plan_tell_49 (by decide) ?_
      exact g_zret e_Plan_tell_50 rfl (by decide)
  · refine g_aload_n e_Plan_tell_16 rfl ?_
    refine g_getRZ (kz := (a0 + 3)) e_Plan_tell_17 fl_Plan_20 hz ha0 (by decide) fj_2_1 rfl ?_
    refine g_iload e_Plan_tell_20 rfl ?_
    refine g_iload_n e_Plan_tell_22 rfl ?_
    refine g_callV (rv := rvU) (As := [.int r2, .int v2]) (st := []) e_Plan_tell_23 mv_Plan_40 my_Row_put (by decide) rfl rfl (kk_2_3 ha0) (hz.lt (kk_2_3 ha0)) rfl (Nat.le_of_ble_eq_true rfl) rfl (fun r M1 h => c_Row_put hz (kk_2_3 ha0) h) (fun r16 M15 h17 => ?_)
    refine g_aload_n e_Plan_tell_26 rfl ?_
    refine g_getRZ (kz := (a0 + 5)) e_Plan_tell_27 fl_Plan_23 hz ha0 (by decide) fj_2_2 rfl ?_
    refine g_iload e_Plan_tell_30 rfl ?_
    refine g_iload_n e_Plan_tell_32 rfl ?_
    refine g_callV (rv := rvU) (As := [.int r2, .int v3]) (st := []) e_Plan_tell_33 mv_Plan_40 my_Row_put (by decide) rfl rfl (kk_2_5 ha0) (hz.lt (kk_2_5 ha0)) rfl (Nat.le_of_ble_eq_true rfl) rfl (fun r M1 h => c_Row_put hz (kk_2_5 ha0) h) (fun r19 M18 h20 => ?_)
    refine g_iconst (x := (1 : Int32)) e_Plan_tell_36 (by decide) ?_
    exact g_zret e_Plan_tell_37 rfl (by decide)
set_option maxHeartbeats 4000000 in
set_option maxRecDepth 20000 in
theorem c_Plan_tell {l : Launch} {G : KG} {Z : ZZ} {a0 : Nat} {v1 : Int32} {v2 : Int32} {v3 : Int32} {M M' : Mm} {r : Int32} (hz : FU Z) (ha0 : kD a0 = 2) (h : f_Plan_tell a0 v1 v2 v3 M = some (r, M')) : CT l G y_Plan_tell md_Plan_tell 0 0 [rf G a0, .int v1, .int v2, .int v3] Z.2.2.1 Z.2.2.2 M (rvI r) Z.2.2.1 Z.2.2.2 M' :=
  CT.of (Z := (0, 0, Z.2.2.1, Z.2.2.2)) (Z' := (0, 0, Z.2.2.1, Z.2.2.2)) 1 (by decide) rfl ⟨rfl, rfl⟩ (by show 4 ≤ 5; decide) rfl h (fun X _ hG => by subst hG; exact t_Plan_tell hz ha0)
set_option maxHeartbeats 4000000 in
set_option maxRecDepth 20000 in
theorem t_Spot_find {X : KX} {Z : ZZ} {a0 : Nat} {a1 : Nat} {v2 : Int32} {M : Mm} (hz : FU Z) (ha0 : kD a0 = 5) (ha1 : kD a1 = 0) : GO X md_Spot_find (QE X rvU Z) 0 [some (rf (kG X) a0), some (rf (kG X) a1), some (.int v2), none] [] Z M (f_Spot_find a0 a1 v2 M) := by
  unfold f_Spot_find
  refine g_aload_n e_Spot_find_0 rfl ?_
  refine g_getRZ (kz := (a1 + 1)) e_Spot_find_1 fl_Spot_9 hz ha1 (by decide) fj_0_9 rfl ?_
  refine g_astore_n e_Spot_find_4 (by decide) rfl ?_
  refine g_aload_n e_Spot_find_5 rfl ?_
  refine g_aload_n e_Spot_find_6 rfl ?_
  refine g_iload_n e_Spot_find_7 rfl ?_
  refine g_callV (rv := rvI) (As := [.int v2]) (st := [rf (kG X) a0]) e_Spot_find_8 mv_Spot_15 my_Job_sheetOf (by decide) rfl rfl ha1 (hz.lt ha1) rfl (Nat.le_of_ble_eq_true rfl) rfl (fun r M1 h => c_Job_sheetOf hz ha1 h) (fun r2 M1 h3 => ?_)
  refine g_putL e_Spot_find_11 fp_Spot_19 ha0 (hz.lt ha0) fj_5_0 rfl rfl (fun M4 => ?_)
  refine g_aload_n e_Spot_find_14 rfl ?_
  refine g_aload_n e_Spot_find_15 rfl ?_
  refine g_iload_n e_Spot_find_16 rfl ?_
  refine g_callV (rv := rvI) (As := [.int v2]) (st := [rf (kG X) a0]) e_Spot_find_17 mv_Spot_25 my_Job_numberOf (by decide) rfl rfl ha1 (hz.lt ha1) rfl (Nat.le_of_ble_eq_true rfl) rfl (fun r M1 h => c_Job_numberOf hz ha1 h) (fun r6 M5 h7 => ?_)
  refine g_putL e_Spot_find_20 fp_Spot_28 ha0 (hz.lt ha0) fj_5_1 rfl rfl (fun M8 => ?_)
  refine g_aload_n e_Spot_find_23 rfl ?_
  refine g_aload_n e_Spot_find_24 rfl ?_
  refine g_aload_n e_Spot_find_25 rfl ?_
  refine g_getI e_Spot_find_26 fl_Spot_28 ha0 (hz.lt ha0) fj_5_1 ?_
  refine g_iconst (x := (2 : Int32)) e_Spot_find_29 (by decide) ?_
  refine g_idiv e_Spot_find_30 (by decide) ?_
  refine g_callV (rv := rvU) (As := [rf (kG X) a1, .int ((M8.1 a0 1) / (2 : Int32))]) (st := []) e_Spot_find_31 mv_Spot_31 my_Leaf_layOpen (by decide) rfl rfl (kk_0_1 ha1) (hz.lt (kk_0_1 ha1)) rfl (Nat.le_of_ble_eq_true rfl) rfl (fun r M1 h => c_Leaf_layOpen hz (kk_0_1 ha1) ha1 h) (fun r10 M9 h11 => ?_)
  refine g_aload_n e_Spot_find_34 rfl ?_
  refine g_aload_n e_Spot_find_35 rfl ?_
  refine g_aload_n e_Spot_find_36 rfl ?_
  refine g_getI e_Spot_find_37 fl_Spot_28 ha0 (hz.lt ha0) fj_5_1 ?_
  refine g_callV (rv := rvI) (As := [.int (M9.1 a0 1)]) (st := [rf (kG X) a0]) e_Spot_find_40 mv_Spot_37 my_Leaf_sideOf (by decide) rfl rfl (kk_0_1 ha1) (hz.lt (kk_0_1 ha1)) rfl (Nat.le_of_ble_eq_true rfl) rfl (fun r M1 h => c_Leaf_sideOf hz (kk_0_1 ha1) h) (fun r13 M12 h14 => ?_)
  refine g_putL e_Spot_find_43 fp_Spot_40 ha0 (hz.lt ha0) fj_5_2 rfl rfl (fun M15 => ?_)
  refine g_aload_n e_Spot_find_46 rfl ?_
  refine g_aload_n e_Spot_find_47 rfl ?_
  refine g_aload_n e_Spot_find_48 rfl ?_
  refine g_getI e_Spot_find_49 fl_Spot_40 ha0 (hz.lt ha0) fj_5_2 ?_
  refine g_aload_n e_Spot_find_52 rfl ?_
  refine g_getI e_Spot_find_53 fl_Spot_43 (kk_0_1 ha1) (hz.lt (kk_0_1 ha1)) fj_1_0 ?_
  refine g_callV (rv := rvI) (As := [.int (M15.1 a0 2), .int (M15.1 (a1 + 1) 0)]) (st := [rf (kG X) a0]) e_Spot_find_56 mv_Spot_46 my_Job_mirroredRow (by decide) rfl rfl ha1 (hz.lt ha1) rfl (Nat.le_of_ble_eq_true rfl) rfl (fun r M1 h => c_Job_mirroredRow hz ha1 h) (fun r17 M16 h18 => ?_)
  refine g_putL e_Spot_find_59 fp_Spot_50 ha0 (hz.lt ha0) fj_5_3 rfl rfl (fun M19 => ?_)
  refine g_aload_n e_Spot_find_62 rfl ?_
  refine g_aload_n e_Spot_find_63 rfl ?_
  refine g_aload_n e_Spot_find_64 rfl ?_
  refine g_getI e_Spot_find_65 fl_Spot_40 ha0 (hz.lt ha0) fj_5_2 ?_
  refine g_aload_n e_Spot_find_68 rfl ?_
  refine g_getI e_Spot_find_69 fl_Spot_51 (kk_0_1 ha1) (hz.lt (kk_0_1 ha1)) fj_1_1 ?_
  refine g_callV (rv := rvI) (As := [.int (M19.1 a0 2), .int (M19.1 (a1 + 1) 1)]) (st := [rf (kG X) a0]) e_Spot_find_72 mv_Spot_54 my_Job_mirroredColumn (by decide) rfl rfl ha1 (hz.lt ha1) rfl (Nat.le_of_ble_eq_true rfl) rfl (fun r M1 h => c_Job_mirroredColumn hz ha1 h) (fun r21 M20 h22 => ?_)
  refine g_putL e_Spot_find_75 fp_Spot_57 ha0 (hz.lt ha0) fj_5_4 rfl rfl (fun M23 => ?_)
  refine g_aload_n e_Spot_find_78 rfl ?_
  refine g_aload_n e_Spot_find_79 rfl ?_
  refine g_getI e_Spot_find_80 fl_Spot_40 ha0 (hz.lt ha0) fj_5_2 ?_
  refine g_iconst (x := (1 : Int32)) e_Spot_find_83 (by decide) ?_
  refine g_phi1 108 (fun x26 => [none, none, none, none]) (fun x26 => [.int x26, rf (kG X) a0]) (fun x26 => ?_) (fun hj28 => ?_)
  · show GO X _ _ 108 [none, none, none, none] [.int x26, rf (kG X) a0] Z M23 _
    refine g_putL e_Spot_find_108 fp_Spot_64 ha0 (hz.lt ha0) fj_5_5 rfl rfl (fun M27 => ?_)
    exact g_vret e_Spot_find_111 rfl
  · refine g_icmp_ne' e_Spot_find_84 (fun c24 => ?_) (fun c24 => ?_)
    · refine g_aload_n e_Spot_find_104 rfl ?_
      refine g_getI e_Spot_find_105 fl_Spot_61 (kk_0_1 ha1) (hz.lt (kk_0_1 ha1)) fj_1_4 ?_
      exact (g_pf c24 (g_lt (g_wq (hj28 (M23.1 (a1 + 1) 4)) trivial)))
    · refine g_aload_n e_Spot_find_87 rfl ?_
      refine g_getI e_Spot_find_88 fl_Spot_58 ha1 (hz.lt ha1) fj_0_6 ?_
      refine g_iconst (x := (1 : Int32)) e_Spot_find_91 (by decide) ?_
      refine g_icmp_ne' e_Spot_find_92 (fun c25 => ?_) (fun c25 => ?_)
      · refine g_aload_n e_Spot_find_104 rfl ?_
        refine g_getI e_Spot_find_105 fl_Spot_61 (kk_0_1 ha1) (hz.lt (kk_0_1 ha1)) fj_1_4 ?_
        exact (g_pt c24 (g_pf c25 (g_lt (g_wq (hj28 (M23.1 (a1 + 1) 4)) trivial))))
      · refine g_iconst (x := (1 : Int32)) e_Spot_find_95 (by decide) ?_
        refine g_aload_n e_Spot_find_96 rfl ?_
        refine g_getI e_Spot_find_97 fl_Spot_61 (kk_0_1 ha1) (hz.lt (kk_0_1 ha1)) fj_1_4 ?_
        refine g_isub e_Spot_find_100 ?_
        refine g_goto e_Spot_find_101 ?_
        exact (g_pt c24 (g_pt c25 (g_lt (g_wq (hj28 ((1 : Int32) - (M23.1 (a1 + 1) 4))) trivial))))
set_option maxHeartbeats 4000000 in
set_option maxRecDepth 20000 in
theorem c_Spot_find {l : Launch} {G : KG} {Z : ZZ} {a0 : Nat} {a1 : Nat} {v2 : Int32} {M M' : Mm} {r : Unit} (hz : FU Z) (ha0 : kD a0 = 5) (ha1 : kD a1 = 0) (h : f_Spot_find a0 a1 v2 M = some (r, M')) : CT l G y_Spot_find md_Spot_find 0 0 [rf G a0, rf G a1, .int v2] Z.2.2.1 Z.2.2.2 M (rvU r) Z.2.2.1 Z.2.2.2 M' :=
  CT.of (Z := (0, 0, Z.2.2.1, Z.2.2.2)) (Z' := (0, 0, Z.2.2.1, Z.2.2.2)) 1 (by decide) rfl ⟨rfl, rfl⟩ (by show 3 ≤ 4; decide) rfl h (fun X _ hG => by subst hG; exact t_Spot_find hz ha0 ha1)
set_option maxHeartbeats 4000000 in
set_option maxRecDepth 20000 in
theorem t_PS_cellOf {X : KX} {Z : ZZ} {v0 : Int32} {v1 : Int32} {v2 : Int32} {v3 : Int32} {M : Mm} (hz : FU Z) : GO X md_PS_cellOf (QE X rvI Z) 0 [some (.int v0), some (.int v1), some (.int v2), some (.int v3)] [] Z M (f_PS_cellOf v0 v1 v2 v3 M) := by
  unfold f_PS_cellOf
  refine g_sipush (x := (1000 : Int32)) e_PS_cellOf_0 (by decide) ?_
  refine g_iload_n e_PS_cellOf_3 rfl ?_
  refine g_imul e_PS_cellOf_4 ?_
  refine g_sipush (x := (500 : Int32)) e_PS_cellOf_5 (by decide) ?_
  refine g_iload_n e_PS_cellOf_8 rfl ?_
  refine g_imul e_PS_cellOf_9 ?_
  refine g_iadd e_PS_cellOf_10 ?_
  refine g_bipush (x := (20 : Int32)) e_PS_cellOf_11 (by decide) ?_
  refine g_iload_n e_PS_cellOf_13 rfl ?_
  refine g_imul e_PS_cellOf_14 ?_
  refine g_iadd e_PS_cellOf_15 ?_
  refine g_iload_n e_PS_cellOf_16 rfl ?_
  refine g_iadd e_PS_cellOf_17 ?_
  exact g_iret e_PS_cellOf_18 rfl
set_option maxHeartbeats 4000000 in
set_option maxRecDepth 20000 in
theorem c_PS_cellOf {l : Launch} {G : KG} {Z : ZZ} {v0 : Int32} {v1 : Int32} {v2 : Int32} {v3 : Int32} {M M' : Mm} {r : Int32} (hz : FU Z) (h : f_PS_cellOf v0 v1 v2 v3 M = some (r, M')) : CT l G y_PS_cellOf md_PS_cellOf 0 0 [.int v0, .int v1, .int v2, .int v3] Z.2.2.1 Z.2.2.2 M (rvI r) Z.2.2.1 Z.2.2.2 M' :=
  CT.of (Z := (0, 0, Z.2.2.1, Z.2.2.2)) (Z' := (0, 0, Z.2.2.1, Z.2.2.2)) 0 (by decide) rfl ⟨rfl, rfl⟩ (by show 4 ≤ 4; decide) rfl h (fun X _ hG => by subst hG; exact t_PS_cellOf hz)
set_option maxHeartbeats 4000000 in
set_option maxRecDepth 20000 in
theorem t_Spot_cell {X : KX} {Z : ZZ} {a0 : Nat} {M : Mm} (hz : FU Z) (ha0 : kD a0 = 5) : GO X md_Spot_cell (QE X rvI Z) 0 [some (rf (kG X) a0)] [] Z M (f_Spot_cell a0 M) := by
  unfold f_Spot_cell
  refine g_aload_n e_Spot_cell_0 rfl ?_
  refine g_getI e_Spot_cell_1 fl_Spot_19 ha0 (hz.lt ha0) fj_5_0 ?_
  refine g_aload_n e_Spot_cell_4 rfl ?_
  refine g_getI e_Spot_cell_5 fl_Spot_40 ha0 (hz.lt ha0) fj_5_2 ?_
  refine g_aload_n e_Spot_cell_8 rfl ?_
  refine g_getI e_Spot_cell_9 fl_Spot_50 ha0 (hz.lt ha0) fj_5_3 ?_
  refine g_aload_n e_Spot_cell_12 rfl ?_
  refine g_getI e_Spot_cell_13 fl_Spot_57 ha0 (hz.lt ha0) fj_5_4 ?_
  refine g_callSN (rv := rvI) (As := [.int (M.1 a0 0), .int (M.1 a0 2), .int (M.1 a0 3), .int (M.1 a0 4)]) (st := []) e_Spot_cell_16 ms_Spot_65 my_PS_cellOf (by decide) rfl rfl (Nat.le_of_ble_eq_true rfl) (fun r M1 h => c_PS_cellOf hz  h) (fun r2 M1 h3 => ?_)
  exact g_iret e_Spot_cell_19 rfl
set_option maxHeartbeats 4000000 in
set_option maxRecDepth 20000 in
theorem c_Spot_cell {l : Launch} {G : KG} {Z : ZZ} {a0 : Nat} {M M' : Mm} {r : Int32} (hz : FU Z) (ha0 : kD a0 = 5) (h : f_Spot_cell a0 M = some (r, M')) : CT l G y_Spot_cell md_Spot_cell 0 0 [rf G a0] Z.2.2.1 Z.2.2.2 M (rvI r) Z.2.2.1 Z.2.2.2 M' :=
  CT.of (Z := (0, 0, Z.2.2.1, Z.2.2.2)) (Z' := (0, 0, Z.2.2.1, Z.2.2.2)) 0 (by decide) rfl ⟨rfl, rfl⟩ (by show 1 ≤ 1; decide) rfl h (fun X _ hG => by subst hG; exact t_Spot_cell hz ha0)
set_option maxHeartbeats 4000000 in
set_option maxRecDepth 20000 in
theorem t_Plan_tellForme_76 {X : KX} {Z : ZZ} {a0 : Nat} {a1 : Nat} {rec3 : Int32 → Int32 → Int32 → Mm → Option (Unit × Mm)} {rec15 : Int32 → Int32 → Int32 → Int32 → Mm → Option (Unit × Mm)} (hz : FU Z) (ha0 : kD a0 = 2) (ha1 : kD a1 = 0) (hr3 : ∀ (v2 : Int32) (v3 : Int32) (v4 : Int32) (M : Mm), GO X md_Plan_tellForme (QE X rvU Z) 3 [some (rf (kG X) a0), some (rf (kG X) a1), some (.int v2), some (.int v3), some (.int v4), none, none] [] Z M (rec3 v2 v3 v4 M)) (hr15 : ∀ (v2 : Int32) (v3 : Int32) (v4 : Int32) (v5 : Int32) (M : Mm), GO X md_Plan_tellForme (QE X rvU Z) 15 [some (rf (kG X) a0), some (rf (kG X) a1), some (.int v2), some (.int v3), some (.int v4), some (.int v5), none] [] Z M (rec15 v2 v3 v4 v5 M)) : ∀ (v2 : Int32) (v3 : Int32) (v4 : Int32) (v5 : Int32) (M : Mm), GO X md_Plan_tellForme (QE X rvU Z) 76 [some (rf (kG X) a0), some (rf (kG X) a1), some (.int v2), some (.int v3), some (.int v4), some (.int v5), none] [] Z M (f_Plan_tellForme_76 a0 a1 rec3 rec15 v2 v3 v4 v5 M) := by
  intro v2 v3 v4 v5 M
  unfold f_Plan_tellForme_76
  refine g_iincL (c := (1 : Int32)) e_Plan_tellForme_76 rfl (by decide) (by decide) rfl (fun x8 => ?_)
  refine g_goto e_Plan_tellForme_79 ?_
  exact g_wq (hr15 v2 v3 v4 x8 M) ⟨rfl, rfl, rfl, rfl, rfl, rfl, trivial⟩
set_option maxHeartbeats 4000000 in
set_option maxRecDepth 20000 in
theorem t_Plan_tellForme_15 {X : KX} {Z : ZZ} {a0 : Nat} {a1 : Nat} {rec3 : Int32 → Int32 → Int32 → Mm → Option (Unit × Mm)} (hz : FU Z) (ha0 : kD a0 = 2) (ha1 : kD a1 = 0) (hr3 : ∀ (v2 : Int32) (v3 : Int32) (v4 : Int32) (M : Mm), GO X md_Plan_tellForme (QE X rvU Z) 3 [some (rf (kG X) a0), some (rf (kG X) a1), some (.int v2), some (.int v3), some (.int v4), none, none] [] Z M (rec3 v2 v3 v4 M)) : ∀ (n : Nat) (v2 : Int32) (v3 : Int32) (v4 : Int32) (v5 : Int32) (M : Mm), GO X md_Plan_tellForme (QE X rvU Z) 15 [some (rf (kG X) a0), some (rf (kG X) a1), some (.int v2), some (.int v3), some (.int v4), some (.int v5), none] [] Z M (f_Plan_tellForme_15 a0 a1 rec3 n v2 v3 v4 v5 M) := by
  intro n
  induction n with
  | zero =>
    intro v2 v3 v4 v5 M
    exact g_none
  | succ n ih =>
    intro v2 v3 v4 v5 M
    rw [f_Plan_tellForme_15_s]
    refine g_iload e_Plan_tellForme_15 rfl ?_
    refine g_aload_n e_Plan_tellForme_17 rfl ?_
    refine g_getI e_Plan_tellForme_18 fl_Plan_62 ha1 (hz.lt ha1) fj_0_2 ?_
    refine g_icmp_ge e_Plan_tellForme_21 (fun c2 => ?_) (fun c2 => ?_)
    · refine g_iincL (c := (1 : Int32)) e_Plan_tellForme_82 rfl (by decide) (by decide) rfl (fun x3 => ?_)
      refine g_goto e_Plan_tellForme_85 ?_
      exact g_wq (hr3 v2 v3 x3 M) ⟨rfl, rfl, rfl, rfl, rfl, trivial⟩
    · refine g_aload_n e_Plan_tellForme_24 rfl ?_
      refine g_iload_n e_Plan_tellForme_25 rfl ?_
      refine g_iload_n e_Plan_tellForme_26 rfl ?_
      refine g_iload e_Plan_tellForme_27 rfl ?_
      refine g_iload e_Plan_tellForme_29 rfl ?_
      refine g_callV (rv := rvI) (As := [.int v2, .int v3, .int v4, .int v5]) (st := []) e_Plan_tellForme_31 mv_Plan_65 my_Job_pageSeen (by decide) rfl rfl ha1 (hz.lt ha1) rfl (Nat.le_of_ble_eq_true rfl) rfl (fun r M1 h => c_Job_pageSeen hz ha1 h) (fun r5 M4 h6 => ?_)
      refine g_istore e_Plan_tellForme_34 (by decide) rfl ?_
      refine g_iload e_Plan_tellForme_36 rfl ?_
      refine g_aload_n e_Plan_tellForme_38 rfl ?_
      refine g_getI e_Plan_tellForme_39 fl_Plan_69 ha1 (hz.lt ha1) fj_0_4 ?_
      refine g_icmp_gt e_Plan_tellForme_42 (fun c7 => ?_) (fun c7 => ?_)
      · exact g_wq (t_Plan_tellForme_76 hz ha0 ha1 (hr3) (ih) v2 v3 v4 v5 M4) ⟨rfl, rfl, rfl, rfl, rfl, rfl, trivial⟩
      · refine g_aload_n e_Plan_tellForme_45 rfl ?_
        refine g_getRZ (kz := (a1 + 2)) e_Plan_tellForme_46 fl_Plan_71 hz ha1 (by decide) fj_0_10 rfl ?_
        refine g_aload_n e_Plan_tellForme_49 rfl ?_
        refine g_iload e_Plan_tellForme_50 rfl ?_
        refine g_callV (rv := rvU) (As := [rf (kG X) a1, .int r5]) (st := []) e_Plan_tellForme_52 mv_Plan_75 my_Spot_find (by decide) rfl rfl (kk_0_2 ha1) (hz.lt (kk_0_2 ha1)) rfl (Nat.le_of_ble_eq_true rfl) rfl (fun r M1 h => c_Spot_find hz (kk_0_2 ha1) ha1 h) (fun r10 M9 h11 => ?_)
        refine g_aload_n e_Plan_tellForme_55 rfl ?_
        refine g_aload_n e_Plan_tellForme_56 rfl ?_
        refine g_getRZ (kz := (a1 + 2)) e_Plan_tellForme_57 fl_Plan_71 hz ha1 (by decide) fj_0_10 rfl ?_
        refine g_callV (rv := rvI) (As := []) (st := [rf (kG X) a0]) e_Plan_tellForme_60 mv_Plan_80 my_Spot_cell (by decide) rfl rfl (kk_0_2 ha1) (hz.lt (kk_0_2 ha1)) rfl (Nat.le_of_ble_eq_true rfl) rfl (fun r M1 h => c_Spot_cell hz (kk_0_2 ha1) h) (fun r13 M12 h14 => ?_)
        refine g_iload e_Plan_tellForme_63 rfl ?_
        refine g_aload_n e_Plan_tellForme_65 rfl ?_
        refine g_getRZ (kz := (a1 + 2)) e_Plan_tellForme_66 fl_Plan_71 hz ha1 (by decide) fj_0_10 rfl ?_
        refine g_getI e_Plan_tellForme_69 fl_Plan_83 (kk_0_2 ha1) (hz.lt (kk_0_2 ha1)) fj_5_5 ?_
        refine g_callV (rv := rvI) (As := [.int r13, .int r5, .int (M12.1 (a1 + 2) 5)]) (st := []) e_Plan_tellForme_72 mv_Plan_86 my_Plan_tell (by decide) rfl rfl ha0 (hz.lt ha0) rfl (Nat.le_of_ble_eq_true rfl) rfl (fun r M1 h => c_Plan_tell hz ha0 h) (fun r16 M15 h17 => ?_)
        refine g_pop e_Plan_tellForme_75 rfl ?_
        exact g_wq (t_Plan_tellForme_76 hz ha0 ha1 (hr3) (ih) v2 v3 v4 v5 M15) ⟨rfl, rfl, rfl, rfl, rfl, rfl, trivial⟩
set_option maxHeartbeats 4000000 in
set_option maxRecDepth 20000 in
theorem t_Plan_tellForme_3 {X : KX} {Z : ZZ} {a0 : Nat} {a1 : Nat} (hz : FU Z) (ha0 : kD a0 = 2) (ha1 : kD a1 = 0) : ∀ (n : Nat) (v2 : Int32) (v3 : Int32) (v4 : Int32) (M : Mm), GO X md_Plan_tellForme (QE X rvU Z) 3 [some (rf (kG X) a0), some (rf (kG X) a1), some (.int v2), some (.int v3), some (.int v4), none, none] [] Z M (f_Plan_tellForme_3 a0 a1 n v2 v3 v4 M) := by
  intro n
  induction n with
  | zero =>
    intro v2 v3 v4 M
    exact g_none
  | succ n ih =>
    intro v2 v3 v4 M
    rw [f_Plan_tellForme_3_s]
    refine g_iload e_Plan_tellForme_3 rfl ?_
    refine g_aload_n e_Plan_tellForme_5 rfl ?_
    refine g_getI e_Plan_tellForme_6 fl_Plan_58 ha1 (hz.lt ha1) fj_0_3 ?_
    refine g_icmp_ge e_Plan_tellForme_9 (fun c1 => ?_) (fun c1 => ?_)
    · exact g_vret e_Plan_tellForme_88 rfl
    · refine g_iconst (x := (0 : Int32)) e_Plan_tellForme_12 (by decide) ?_
      refine g_istore e_Plan_tellForme_13 (by decide) rfl ?_
      exact g_wq (t_Plan_tellForme_15 hz ha0 ha1 (ih) fuel v2 v3 v4 (0 : Int32) M) ⟨rfl, rfl, rfl, rfl, rfl, rfl, trivial⟩
set_option maxHeartbeats 4000000 in
set_option maxRecDepth 20000 in
theorem t_Plan_tellForme {X : KX} {Z : ZZ} {a0 : Nat} {a1 : Nat} {v2 : Int32} {v3 : Int32} {M : Mm} (hz : FU Z) (ha0 : kD a0 = 2) (ha1 : kD a1 = 0) : GO X md_Plan_tellForme (QE X rvU Z) 0 [some (rf (kG X) a0), some (rf (kG X) a1), some (.int v2), some (.int v3), none, none, none] [] Z M (f_Plan_tellForme a0 a1 v2 v3 M) := by
  unfold f_Plan_tellForme
  refine g_iconst (x := (0 : Int32)) e_Plan_tellForme_0 (by decide) ?_
  refine g_istore e_Plan_tellForme_1 (by decide) rfl ?_
  exact g_wq (t_Plan_tellForme_3 hz ha0 ha1 fuel v2 v3 (0 : Int32) M) ⟨rfl, rfl, rfl, rfl, rfl, trivial⟩
set_option maxHeartbeats 4000000 in
set_option maxRecDepth 20000 in
theorem c_Plan_tellForme {l : Launch} {G : KG} {Z : ZZ} {a0 : Nat} {a1 : Nat} {v2 : Int32} {v3 : Int32} {M M' : Mm} {r : Unit} (hz : FU Z) (ha0 : kD a0 = 2) (ha1 : kD a1 = 0) (h : f_Plan_tellForme a0 a1 v2 v3 M = some (r, M')) : CT l G y_Plan_tellForme md_Plan_tellForme 0 0 [rf G a0, rf G a1, .int v2, .int v3] Z.2.2.1 Z.2.2.2 M (rvU r) Z.2.2.1 Z.2.2.2 M' :=
  CT.of (Z := (0, 0, Z.2.2.1, Z.2.2.2)) (Z' := (0, 0, Z.2.2.1, Z.2.2.2)) 3 (by decide) rfl ⟨rfl, rfl⟩ (by show 4 ≤ 7; decide) rfl h (fun X _ hG => by subst hG; exact t_Plan_tellForme hz ha0 ha1)
set_option maxHeartbeats 4000000 in
set_option maxRecDepth 20000 in
theorem t_Plan_tellAll_12 {X : KX} {Z : ZZ} {a0 : Nat} {a1 : Nat} {rec2 : Int32 → Mm → Option (Unit × Mm)} (hz : FU Z) (ha0 : kD a0 = 2) (ha1 : kD a1 = 0) (hr2 : ∀ (v2 : Int32) (M : Mm), GO X md_Plan_tellAll (QE X rvU Z) 2 [some (rf (kG X) a0), some (rf (kG X) a1), some (.int v2), none] [] Z M (rec2 v2 M)) : ∀ (n : Nat) (v2 : Int32) (v3 : Int32) (M : Mm), GO X md_Plan_tellAll (QE X rvU Z) 12 [some (rf (kG X) a0), some (rf (kG X) a1), some (.int v2), some (.int v3)] [] Z M (f_Plan_tellAll_12 a0 a1 rec2 n v2 v3 M) := by
  intro n
  induction n with
  | zero =>
    intro v2 v3 M
    exact g_none
  | succ n ih =>
    intro v2 v3 M
    rw [f_Plan_tellAll_12_s]
    refine g_iload_n e_Plan_tellAll_12 rfl ?_
    refine g_iconst (x := (1 : Int32)) e_Plan_tellAll_13 (by decide) ?_
    refine g_icmp_gt e_Plan_tellAll_14 (fun c5 => ?_) (fun c5 => ?_)
    · refine g_iincL (c := (1 : Int32)) e_Plan_tellAll_30 rfl (by decide) (by decide) rfl (fun x6 => ?_)
      refine g_goto e_Plan_tellAll_33 ?_
      exact g_wq (hr2 x6 M) ⟨rfl, rfl, rfl, trivial⟩
    · refine g_aload_n e_Plan_tellAll_17 rfl ?_
      refine g_aload_n e_Plan_tellAll_18 rfl ?_
      refine g_iload_n e_Plan_tellAll_19 rfl ?_
      refine g_iload_n e_Plan_tellAll_20 rfl ?_
      refine g_callV (rv := rvU) (As := [rf (kG X) a1, .int v2, .int v3]) (st := []) e_Plan_tellAll_21 mv_Plan_54 my_Plan_tellForme (by decide) rfl rfl ha0 (hz.lt ha0) rfl (Nat.le_of_ble_eq_true rfl) rfl (fun r M1 h => c_Plan_tellForme hz ha0 ha1 h) (fun r8 M7 h9 => ?_)
      refine g_iincL (c := (1 : Int32)) e_Plan_tellAll_24 rfl (by decide) (by decide) rfl (fun x10 => ?_)
      refine g_goto e_Plan_tellAll_27 ?_
      exact g_wq (ih v2 x10 M7) ⟨rfl, rfl, rfl, rfl, trivial⟩
set_option maxHeartbeats 4000000 in
set_option maxRecDepth 20000 in
theorem t_Plan_tellAll_2 {X : KX} {Z : ZZ} {a0 : Nat} {a1 : Nat} (hz : FU Z) (ha0 : kD a0 = 2) (ha1 : kD a1 = 0) : ∀ (n : Nat) (v2 : Int32) (M : Mm), GO X md_Plan_tellAll (QE X rvU Z) 2 [some (rf (kG X) a0), some (rf (kG X) a1), some (.int v2), none] [] Z M (f_Plan_tellAll_2 a0 a1 n v2 M) := by
  intro n
  induction n with
  | zero =>
    intro v2 M
    exact g_none
  | succ n ih =>
    intro v2 M
    rw [f_Plan_tellAll_2_s]
    refine g_iload_n e_Plan_tellAll_2 rfl ?_
    refine g_aload_n e_Plan_tellAll_3 rfl ?_
    refine g_callV (rv := rvI) (As := []) (st := [.int v2]) e_Plan_tellAll_4 mv_Plan_48 my_Job_sheets (by decide) rfl rfl ha1 (hz.lt ha1) rfl (Nat.le_of_ble_eq_true rfl) rfl (fun r M1 h => c_Job_sheets hz ha1 h) (fun r2 M1 h3 => ?_)
    refine g_icmp_ge e_Plan_tellAll_7 (fun c4 => ?_) (fun c4 => ?_)
    · exact g_vret e_Plan_tellAll_36 rfl
    · refine g_iconst (x := (0 : Int32)) e_Plan_tellAll_10 (by decide) ?_
      refine g_istore_n e_Plan_tellAll_11 (by decide) rfl ?_
      exact g_wq (t_Plan_tellAll_12 hz ha0 ha1 (ih) fuel v2 (0 : Int32) M1) ⟨rfl, rfl, rfl, rfl, trivial⟩
set_option maxHeartbeats 4000000 in
set_option maxRecDepth 20000 in
theorem t_Plan_tellAll {X : KX} {Z : ZZ} {a0 : Nat} {a1 : Nat} {M : Mm} (hz : FU Z) (ha0 : kD a0 = 2) (ha1 : kD a1 = 0) : GO X md_Plan_tellAll (QE X rvU Z) 0 [some (rf (kG X) a0), some (rf (kG X) a1), none, none] [] Z M (f_Plan_tellAll a0 a1 M) := by
  unfold f_Plan_tellAll
  refine g_iconst (x := (0 : Int32)) e_Plan_tellAll_0 (by decide) ?_
  refine g_istore_n e_Plan_tellAll_1 (by decide) rfl ?_
  exact g_wq (t_Plan_tellAll_2 hz ha0 ha1 fuel (0 : Int32) M) ⟨rfl, rfl, rfl, trivial⟩
set_option maxHeartbeats 4000000 in
set_option maxRecDepth 20000 in
theorem c_Plan_tellAll {l : Launch} {G : KG} {Z : ZZ} {a0 : Nat} {a1 : Nat} {M M' : Mm} {r : Unit} (hz : FU Z) (ha0 : kD a0 = 2) (ha1 : kD a1 = 0) (h : f_Plan_tellAll a0 a1 M = some (r, M')) : CT l G y_Plan_tellAll md_Plan_tellAll 0 0 [rf G a0, rf G a1] Z.2.2.1 Z.2.2.2 M (rvU r) Z.2.2.1 Z.2.2.2 M' :=
  CT.of (Z := (0, 0, Z.2.2.1, Z.2.2.2)) (Z' := (0, 0, Z.2.2.1, Z.2.2.2)) 2 (by decide) rfl ⟨rfl, rfl⟩ (by show 2 ≤ 4; decide) rfl h (fun X _ hG => by subst hG; exact t_Plan_tellAll hz ha0 ha1)
set_option maxHeartbeats 4000000 in
set_option maxRecDepth 20000 in
theorem t_Row_drop_13 {X : KX} {Z : ZZ} {a0 : Nat} (hz : FU Z) (ha0 : kD a0 = 4) : ∀ (n : Nat) (v2 : Int32) (M : Mm), GO X md_Row_drop (QE X rvU Z) 13 [some (rf (kG X) a0), none, some (.int v2)] [] Z M (f_Row_drop_13 a0 n v2 M) := by
  intro n
  induction n with
  | zero =>
    intro v2 M
    exact g_none
  | succ n ih =>
    intro v2 M
    rw [f_Row_drop_13_s]
    refine g_iload_n e_Row_drop_13 rfl ?_
    refine g_aload_n e_Row_drop_14 rfl ?_
    refine g_getI e_Row_drop_15 fl_Row_15 ha0 (hz.lt ha0) fj_4_1 ?_
    refine g_icmp_ge e_Row_drop_18 (fun c6 => ?_) (fun c6 => ?_)
    · refine g_aload_n e_Row_drop_39 rfl ?_
      refine g_dup e_Row_drop_40 rfl ?_
      refine g_getI e_Row_drop_41 fl_Row_15 ha0 (hz.lt ha0) fj_4_1 ?_
      refine g_iconst (x := (1 : Int32)) e_Row_drop_44 (by decide) ?_
      refine g_isub e_Row_drop_45 ?_
      refine g_putL e_Row_drop_46 fp_Row_15 ha0 (hz.lt ha0) fj_4_1 rfl rfl (fun M7 => ?_)
      exact g_vret e_Row_drop_49 rfl
    · refine g_aload_n e_Row_drop_21 rfl ?_
      refine g_iload_n e_Row_drop_22 rfl ?_
      refine g_iconst (x := (1 : Int32)) e_Row_drop_23 (by decide) ?_
      refine g_isub e_Row_drop_24 ?_
      refine g_aload_n e_Row_drop_25 rfl ?_
      refine g_iload_n e_Row_drop_26 rfl ?_
      refine g_callV (rv := rvI) (As := [.int v2]) (st := [.int (v2 - (1 : Int32)), rf (kG X) a0]) e_Row_drop_27 mv_Row_29 my_Row_get (by decide) rfl rfl ha0 (hz.lt ha0) rfl (Nat.le_of_ble_eq_true rfl) rfl (fun r M1 h => c_Row_get hz ha0 h) (fun r9 M8 h10 => ?_)
      refine g_callV (rv := rvU) (As := [.int (v2 - (1 : Int32)), .int r9]) (st := []) e_Row_drop_30 mv_Row_33 my_Row_put (by decide) rfl rfl ha0 (hz.lt ha0) rfl (Nat.le_of_ble_eq_true rfl) rfl (fun r M1 h => c_Row_put hz ha0 h) (fun r12 M11 h13 => ?_)
      refine g_iincL (c := (1 : Int32)) e_Row_drop_33 rfl (by decide) (by decide) rfl (fun x14 => ?_)
      refine g_goto e_Row_drop_36 ?_
      exact g_wq (ih x14 M11) ⟨rfl, rfl, trivial⟩
set_option maxHeartbeats 4000000 in
set_option maxRecDepth 20000 in
theorem t_Row_drop {X : KX} {Z : ZZ} {a0 : Nat} {v1 : Int32} {M : Mm} (hz : FU Z) (ha0 : kD a0 = 4) : GO X md_Row_drop (QE X rvU Z) 0 [some (rf (kG X) a0), some (.int v1), none] [] Z M (f_Row_drop a0 v1 M) := by
  unfold f_Row_drop
  refine g_aload_n e_Row_drop_0 rfl ?_
  refine g_iload_n e_Row_drop_1 rfl ?_
  refine g_callV (rv := rvI) (As := [.int v1]) (st := []) e_Row_drop_2 mv_Row_19 my_Row_has (by decide) rfl rfl ha0 (hz.lt ha0) rfl (Nat.le_of_ble_eq_true rfl) rfl (fun r M1 h => c_Row_has hz ha0 h) (fun r2 M1 h3 => ?_)
  refine g_if_ne e_Row_drop_5 (fun c4 => ?_) (fun c4 => ?_)
  · refine g_iload_n e_Row_drop_9 rfl ?_
    refine g_iconst (x := (1 : Int32)) e_Row_drop_10 (by decide) ?_
    refine g_iadd e_Row_drop_11 ?_
    refine g_istoreL_n e_Row_drop_12 (by decide) rfl (fun x5 => ?_)
    exact g_wq (t_Row_drop_13 hz ha0 fuel x5 M1) ⟨rfl, rfl, trivial⟩
  · exact g_vret e_Row_drop_8 rfl
set_option maxHeartbeats 4000000 in
set_option maxRecDepth 20000 in
theorem c_Row_drop {l : Launch} {G : KG} {Z : ZZ} {a0 : Nat} {v1 : Int32} {M M' : Mm} {r : Unit} (hz : FU Z) (ha0 : kD a0 = 4) (h : f_Row_drop a0 v1 M = some (r, M')) : CT l G y_Row_drop md_Row_drop 0 0 [rf G a0, .int v1] Z.2.2.1 Z.2.2.2 M (rvU r) Z.2.2.1 Z.2.2.2 M' :=
  CT.of (Z := (0, 0, Z.2.2.1, Z.2.2.2)) (Z' := (0, 0, Z.2.2.1, Z.2.2.2)) 1 (by decide) rfl ⟨rfl, rfl⟩ (by show 2 ≤ 3; decide) rfl h (fun X _ hG => by subst hG; exact t_Row_drop hz ha0)
set_option maxHeartbeats 4000000 in
set_option maxRecDepth 20000 in
theorem t_Plan_forget_52 {X : KX} {Z : ZZ} {a0 : Nat} {rec12 : Int32 → Int32 → Int32 → Mm → Option (Int32 × Mm)} (hz : FU Z) (ha0 : kD a0 = 2) (hr12 : ∀ (v1 : Int32) (v2 : Int32) (v3 : Int32) (M : Mm), GO X md_Plan_forget (QE X rvI Z) 12 [some (rf (kG X) a0), some (.int v1), some (.int v2), some (.int v3)] [] Z M (rec12 v1 v2 v3 M)) : ∀ (v1 : Int32) (v2 : Int32) (v3 : Int32) (M : Mm), GO X md_Plan_forget (QE X rvI Z) 52 [some (rf (kG X) a0), some (.int v1), some (.int v2), some (.int v3)] [] Z M (f_Plan_forget_52 a0 rec12 v1 v2 v3 M) := by
  intro v1 v2 v3 M
  unfold f_Plan_forget_52
  refine g_iincL (c := (-1 : Int32)) e_Plan_forget_52 rfl (by decide) (by decide) rfl (fun x8 => ?_)
  refine g_goto e_Plan_forget_55 ?_
  exact g_wq (hr12 v1 v2 x8 M) ⟨rfl, rfl, rfl, rfl, trivial⟩
set_option maxHeartbeats 4000000 in
set_option maxRecDepth 20000 in
theorem t_Plan_forget_12 {X : KX} {Z : ZZ} {a0 : Nat} (hz : FU Z) (ha0 : kD a0 = 2) : ∀ (n : Nat) (v1 : Int32) (v2 : Int32) (v3 : Int32) (M : Mm), GO X md_Plan_forget (QE X rvI Z) 12 [some (rf (kG X) a0), some (.int v1), some (.int v2), some (.int v3)] [] Z M (f_Plan_forget_12 a0 n v1 v2 v3 M) := by
  intro n
  induction n with
  | zero =>
    intro v1 v2 v3 M
    exact g_none
  | succ n ih =>
    intro v1 v2 v3 M
    rw [f_Plan_forget_12_s]
    refine g_iload_n e_Plan_forget_12 rfl ?_
    refine g_if_lt e_Plan_forget_13 (fun c3 => ?_) (fun c3 => ?_)
    · refine g_iload_n e_Plan_forget_58 rfl ?_
      refine g_aload_n e_Plan_forget_59 rfl ?_
      refine g_getRZ (kz := (a0 + 1)) e_Plan_forget_60 fl_Plan_16 hz ha0 (by decide) fj_2_0 rfl ?_
      refine g_getI e_Plan_forget_63 fl_Plan_90 (kk_2_1 ha0) (hz.lt (kk_2_1 ha0)) fj_4_1 ?_
      refine g_isub e_Plan_forget_66 ?_
      exact g_iret e_Plan_forget_67 rfl
    · refine g_aload_n e_Plan_forget_16 rfl ?_
      refine g_getRZ (kz := (a0 + 3)) e_Plan_forget_17 fl_Plan_20 hz ha0 (by decide) fj_2_1 rfl ?_
      refine g_iload_n e_Plan_forget_20 rfl ?_
      refine g_callV (rv := rvI) (As := [.int v3]) (st := []) e_Plan_forget_21 mv_Plan_93 my_Row_get (by decide) rfl rfl (kk_2_3 ha0) (hz.lt (kk_2_3 ha0)) rfl (Nat.le_of_ble_eq_true rfl) rfl (fun r M1 h => c_Row_get hz (kk_2_3 ha0) h) (fun r5 M4 h6 => ?_)
      refine g_iload_n e_Plan_forget_24 rfl ?_
      refine g_icmp_ne e_Plan_forget_25 (fun c7 => ?_) (fun c7 => ?_)
      · exact g_wq (t_Plan_forget_52 hz ha0 (ih) v1 v2 v3 M4) ⟨rfl, rfl, rfl, rfl, trivial⟩
      · refine g_aload_n e_Plan_forget_28 rfl ?_
        refine g_getRZ (kz := (a0 + 1)) e_Plan_forget_29 fl_Plan_16 hz ha0 (by decide) fj_2_0 rfl ?_
        refine g_iload_n e_Plan_forget_32 rfl ?_
        refine g_callV (rv := rvU) (As := [.int v3]) (st := []) e_Plan_forget_33 mv_Plan_97 my_Row_drop (by decide) rfl rfl (kk_2_1 ha0) (hz.lt (kk_2_1 ha0)) rfl (Nat.le_of_ble_eq_true rfl) rfl (fun r M1 h => c_Row_drop hz (kk_2_1 ha0) h) (fun r10 M9 h11 => ?_)
        refine g_aload_n e_Plan_forget_36 rfl ?_
        refine g_getRZ (kz := (a0 + 3)) e_Plan_forget_37 fl_Plan_20 hz ha0 (by decide) fj_2_1 rfl ?_
        refine g_iload_n e_Plan_forget_40 rfl ?_
        refine g_callV (rv := rvU) (As := [.int v3]) (st := []) e_Plan_forget_41 mv_Plan_97 my_Row_drop (by decide) rfl rfl (kk_2_3 ha0) (hz.lt (kk_2_3 ha0)) rfl (Nat.le_of_ble_eq_true rfl) rfl (fun r M1 h => c_Row_drop hz (kk_2_3 ha0) h) (fun r13 M12 h14 => ?_)
        refine g_aload_n e_Plan_forget_44 rfl ?_
        refine g_getRZ (kz := (a0 + 5)) e_Plan_forget_45 fl_Plan_23 hz ha0 (by decide) fj_2_2 rfl ?_
        refine g_iload_n e_Plan_forget_48 rfl ?_
        refine g_callV (rv := rvU) (As := [.int v3]) (st := []) e_Plan_forget_49 mv_Plan_97 my_Row_drop (by decide) rfl rfl (kk_2_5 ha0) (hz.lt (kk_2_5 ha0)) rfl (Nat.le_of_ble_eq_true rfl) rfl (fun r M1 h => c_Row_drop hz (kk_2_5 ha0) h) (fun r16 M15 h17 => ?_)
        exact g_wq (t_Plan_forget_52 hz ha0 (ih) v1 v2 v3 M15) ⟨rfl, rfl, rfl, rfl, trivial⟩
set_option maxHeartbeats 4000000 in
set_option maxRecDepth 20000 in
theorem t_Plan_forget {X : KX} {Z : ZZ} {a0 : Nat} {v1 : Int32} {M : Mm} (hz : FU Z) (ha0 : kD a0 = 2) : GO X md_Plan_forget (QE X rvI Z) 0 [some (rf (kG X) a0), some (.int v1), none, none] [] Z M (f_Plan_forget a0 v1 M) := by
  unfold f_Plan_forget
  refine g_aload_n e_Plan_forget_0 rfl ?_
  refine g_getRZ (kz := (a0 + 1)) e_Plan_forget_1 fl_Plan_16 hz ha0 (by decide) fj_2_0 rfl ?_
  refine g_getI e_Plan_forget_4 fl_Plan_90 (kk_2_1 ha0) (hz.lt (kk_2_1 ha0)) fj_4_1 ?_
  refine g_istoreL_n e_Plan_forget_7 (by decide) rfl (fun x1 => ?_)
  refine g_iload_n e_Plan_forget_8 rfl ?_
  refine g_iconst (x := (1 : Int32)) e_Plan_forget_9 (by decide) ?_
  refine g_isub e_Plan_forget_10 ?_
  refine g_istoreL_n e_Plan_forget_11 (by decide) rfl (fun x2 => ?_)
  exact g_wq (t_Plan_forget_12 hz ha0 fuel v1 x1 x2 M) ⟨rfl, rfl, rfl, rfl, trivial⟩
set_option maxHeartbeats 4000000 in
set_option maxRecDepth 20000 in
theorem c_Plan_forget {l : Launch} {G : KG} {Z : ZZ} {a0 : Nat} {v1 : Int32} {M M' : Mm} {r : Int32} (hz : FU Z) (ha0 : kD a0 = 2) (h : f_Plan_forget a0 v1 M = some (r, M')) : CT l G y_Plan_forget md_Plan_forget 0 0 [rf G a0, .int v1] Z.2.2.1 Z.2.2.2 M (rvI r) Z.2.2.1 Z.2.2.2 M' :=
  CT.of (Z := (0, 0, Z.2.2.1, Z.2.2.2)) (Z' := (0, 0, Z.2.2.1, Z.2.2.2)) 2 (by decide) rfl ⟨rfl, rfl⟩ (by show 2 ≤ 4; decide) rfl h (fun X _ hG => by subst hG; exact t_Plan_forget hz ha0)
set_option maxHeartbeats 4000000 in
set_option maxRecDepth 20000 in
theorem t_Plan_faulty {X : KX} {Z : ZZ} {a0 : Nat} {v1 : Int32} {v2 : Int32} {v3 : Int32} {v4 : Int32} {M : Mm} (hz : FU Z) (ha0 : kD a0 = 2) : GO X md_Plan_faulty (QE X rvI Z) 0 [some (rf (kG X) a0), some (.int v1), some (.int v2), some (.int v3), some (.int v4)] [] Z M (f_Plan_faulty a0 v1 v2 v3 v4 M) := by
  unfold f_Plan_faulty
  refine g_aload_n e_Plan_faulty_0 rfl ?_
  refine g_getRZ (kz := (a0 + 7)) e_Plan_faulty_1 fl_Plan_26 hz ha0 (by decide) fj_2_3 rfl ?_
  refine g_iload_n e_Plan_faulty_4 rfl ?_
  refine g_callV (rv := rvI) (As := [.int v1]) (st := []) e_Plan_faulty_5 mv_Plan_44 my_Row_add (by decide) rfl rfl (kk_2_7 ha0) (hz.lt (kk_2_7 ha0)) rfl (Nat.le_of_ble_eq_true rfl) rfl (fun r M1 h => c_Row_add hz (kk_2_7 ha0) h) (fun r2 M1 h3 => ?_)
  refine g_pop e_Plan_faulty_8 rfl ?_
  refine g_aload_n e_Plan_faulty_9 rfl ?_
  refine g_getRZ (kz := (a0 + 7)) e_Plan_faulty_10 fl_Plan_26 hz ha0 (by decide) fj_2_3 rfl ?_
  refine g_iload_n e_Plan_faulty_13 rfl ?_
  refine g_callV (rv := rvI) (As := [.int v2]) (st := []) e_Plan_faulty_14 mv_Plan_44 my_Row_add (by decide) rfl rfl (kk_2_7 ha0) (hz.lt (kk_2_7 ha0)) rfl (Nat.le_of_ble_eq_true rfl) rfl (fun r M1 h => c_Row_add hz (kk_2_7 ha0) h) (fun r5 M4 h6 => ?_)
  refine g_pop e_Plan_faulty_17 rfl ?_
  refine g_aload_n e_Plan_faulty_18 rfl ?_
  refine g_getRZ (kz := (a0 + 7)) e_Plan_faulty_19 fl_Plan_26 hz ha0 (by decide) fj_2_3 rfl ?_
  refine g_iload_n e_Plan_faulty_22 rfl ?_
  refine g_callV (rv := rvI) (As := [.int v3]) (st := []) e_Plan_faulty_23 mv_Plan_44 my_Row_add (by decide) rfl rfl (kk_2_7 ha0) (hz.lt (kk_2_7 ha0)) rfl (Nat.le_of_ble_eq_true rfl) rfl (fun r M1 h => c_Row_add hz (kk_2_7 ha0) h) (fun r8 M7 h9 => ?_)
  refine g_pop e_Plan_faulty_26 rfl ?_
  refine g_aload_n e_Plan_faulty_27 rfl ?_
  refine g_getRZ (kz := (a0 + 7)) e_Plan_faulty_28 fl_Plan_26 hz ha0 (by decide) fj_2_3 rfl ?_
  refine g_iload e_Plan_faulty_31 rfl ?_
  refine g_callV (rv := rvI) (As := [.int v4]) (st := []) e_Plan_faulty_33 mv_Plan_44 my_Row_add (by decide) rfl rfl (kk_2_7 ha0) (hz.lt (kk_2_7 ha0)) rfl (Nat.le_of_ble_eq_true rfl) rfl (fun r M1 h => c_Row_add hz (kk_2_7 ha0) h) (fun r11 M10 h12 => ?_)
  refine g_pop e_Plan_faulty_36 rfl ?_
  refine g_iconst (x := (1 : Int32)) e_Plan_faulty_37 (by decide) ?_
  exact g_zret e_Plan_faulty_38 rfl (by decide)
set_option maxHeartbeats 4000000 in
set_option maxRecDepth 20000 in
theorem c_Plan_faulty {l : Launch} {G : KG} {Z : ZZ} {a0 : Nat} {v1 : Int32} {v2 : Int32} {v3 : Int32} {v4 : Int32} {M M' : Mm} {r : Int32} (hz : FU Z) (ha0 : kD a0 = 2) (h : f_Plan_faulty a0 v1 v2 v3 v4 M = some (r, M')) : CT l G y_Plan_faulty md_Plan_faulty 0 0 [rf G a0, .int v1, .int v2, .int v3, .int v4] Z.2.2.1 Z.2.2.2 M (rvI r) Z.2.2.1 Z.2.2.2 M' :=
  CT.of (Z := (0, 0, Z.2.2.1, Z.2.2.2)) (Z' := (0, 0, Z.2.2.1, Z.2.2.2)) 0 (by decide) rfl ⟨rfl, rfl⟩ (by show 5 ≤ 5; decide) rfl h (fun X _ hG => by subst hG; exact t_Plan_faulty hz ha0)
set_option maxHeartbeats 4000000 in
set_option maxRecDepth 20000 in
theorem t_Plan_isFaulty {X : KX} {Z : ZZ} {a0 : Nat} {a1 : Nat} {v2 : Int32} {M : Mm} (hz : FU Z) (ha0 : kD a0 = 2) (ha1 : kD a1 = 0) : GO X md_Plan_isFaulty (QE X rvI Z) 0 [some (rf (kG X) a0), some (rf (kG X) a1), some (.int v2), none, none, none, none] [] Z M (f_Plan_isFaulty a0 a1 v2 M) := by
  unfold f_Plan_isFaulty
  refine g_aload_n e_Plan_isFaulty_0 rfl ?_
  refine g_getRZ (kz := (a0 + 3)) e_Plan_isFaulty_1 fl_Plan_20 hz ha0 (by decide) fj_2_1 rfl ?_
  refine g_iload_n e_Plan_isFaulty_4 rfl ?_
  refine g_iconst (x := (0 : Int32)) e_Plan_isFaulty_5 (by decide) ?_
  refine g_callV (rv := rvI) (As := [.int v2, .int (0 : Int32)]) (st := []) e_Plan_isFaulty_6 mv_Plan_36 my_Row_find (by decide) rfl rfl (kk_2_3 ha0) (hz.lt (kk_2_3 ha0)) rfl (Nat.le_of_ble_eq_true rfl) rfl (fun r M1 h => c_Row_find hz (kk_2_3 ha0) h) (fun r2 M1 h3 => ?_)
  refine g_istore_n e_Plan_isFaulty_9 (by decide) rfl ?_
  refine g_iload_n e_Plan_isFaulty_10 rfl ?_
  refine g_if_ge e_Plan_isFaulty_11 (fun c4 => ?_) (fun c4 => ?_)
  · refine g_aload_n e_Plan_isFaulty_34 rfl ?_
    refine g_getRZ (kz := (a0 + 1)) e_Plan_isFaulty_35 fl_Plan_16 hz ha0 (by decide) fj_2_0 rfl ?_
    refine g_iload_n e_Plan_isFaulty_38 rfl ?_
    refine g_callV (rv := rvI) (As := [.int r2]) (st := []) e_Plan_isFaulty_39 mv_Plan_93 my_Row_get (by decide) rfl rfl (kk_2_1 ha0) (hz.lt (kk_2_1 ha0)) rfl (Nat.le_of_ble_eq_true rfl) rfl (fun r M1 h => c_Row_get hz (kk_2_1 ha0) h) (fun r6 M5 h7 => ?_)
    refine g_istore e_Plan_isFaulty_42 (by decide) rfl ?_
    refine g_aload_n e_Plan_isFaulty_44 rfl ?_
    refine g_getRZ (kz := (a0 + 3)) e_Plan_isFaulty_45 fl_Plan_20 hz ha0 (by decide) fj_2_1 rfl ?_
    refine g_iload_n e_Plan_isFaulty_48 rfl ?_
    refine g_iload_n e_Plan_isFaulty_49 rfl ?_
    refine g_iconst (x := (1 : Int32)) e_Plan_isFaulty_50 (by decide) ?_
    refine g_iadd e_Plan_isFaulty_51 ?_
    refine g_callV (rv := rvI) (As := [.int v2, .int (r2 + (1 : Int32))]) (st := []) e_Plan_isFaulty_52 mv_Plan_36 my_Row_find (by decide) rfl rfl (kk_2_3 ha0) (hz.lt (kk_2_3 ha0)) rfl (Nat.le_of_ble_eq_true rfl) rfl (fun r M1 h => c_Row_find hz (kk_2_3 ha0) h) (fun r9 M8 h10 => ?_)
    refine g_istore e_Plan_isFaulty_55 (by decide) rfl ?_
    refine g_iload e_Plan_isFaulty_57 rfl ?_
    refine g_if_lt e_Plan_isFaulty_59 (fun c11 => ?_) (fun c11 => ?_)
    · refine g_aload_n e_Plan_isFaulty_80 rfl ?_
      refine g_getRZ (kz := (a1 + 2)) e_Plan_isFaulty_81 fl_Plan_71 hz ha1 (by decide) fj_0_10 rfl ?_
      refine g_astore e_Plan_isFaulty_84 (by decide) rfl ?_
      refine g_aload e_Plan_isFaulty_86 rfl ?_
      refine g_aload_n e_Plan_isFaulty_88 rfl ?_
      refine g_iload_n e_Plan_isFaulty_89 rfl ?_
      refine g_callV (rv := rvU) (As := [rf (kG X) a1, .int v2]) (st := []) e_Plan_isFaulty_90 mv_Plan_75 my_Spot_find (by decide) rfl rfl (kk_0_2 ha1) (hz.lt (kk_0_2 ha1)) rfl (Nat.le_of_ble_eq_true rfl) rfl (fun r M1 h => c_Spot_find hz (kk_0_2 ha1) ha1 h) (fun r13 M12 h14 => ?_)
      refine g_iload e_Plan_isFaulty_93 rfl ?_
      refine g_aload e_Plan_isFaulty_95 rfl ?_
      refine g_callV (rv := rvI) (As := []) (st := [.int r6]) e_Plan_isFaulty_97 mv_Plan_80 my_Spot_cell (by decide) rfl rfl (kk_0_2 ha1) (hz.lt (kk_0_2 ha1)) rfl (Nat.le_of_ble_eq_true rfl) rfl (fun r M1 h => c_Spot_cell hz (kk_0_2 ha1) h) (fun r16 M15 h17 => ?_)
      refine g_icmp_eq e_Plan_isFaulty_100 (fun c18 => ?_) (fun c18 => ?_)
      · refine g_aload_n e_Plan_isFaulty_117 rfl ?_
        refine g_getRZ (kz := (a0 + 5)) e_Plan_isFaulty_118 fl_Plan_23 hz ha0 (by decide) fj_2_2 rfl ?_
        refine g_iload_n e_Plan_isFaulty_121 rfl ?_
        refine g_callV (rv := rvI) (As := [.int r2]) (st := []) e_Plan_isFaulty_122 mv_Plan_93 my_Row_get (by decide) rfl rfl (kk_2_5 ha0) (hz.lt (kk_2_5 ha0)) rfl (Nat.le_of_ble_eq_true rfl) rfl (fun r M1 h => c_Row_get hz (kk_2_5 ha0) h) (fun r20 M19 h21 => ?_)
        refine g_aload e_Plan_isFaulty_125 rfl ?_
        refine g_getI e_Plan_isFaulty_127 fl_Plan_83 (kk_0_2 ha1) (hz.lt (kk_0_2 ha1)) fj_5_5 ?_
        refine g_icmp_eq e_Plan_isFaulty_130 (fun c22 => ?_) (fun c22 => ?_)
        · refine g_iconst (x := (0 : Int32)) e_Plan_isFaulty_153 (by decide) ?_
          exact g_zret e_Plan_isFaulty_154 rfl (by decide)
        · refine g_aload_n e_Plan_isFaulty_133 rfl ?_
          refine g_iconst (x := (4 : Int32)) e_Plan_isFaulty_134 (by decide) ?_
          refine g_iload_n e_Plan_isFaulty_135 rfl ?_
          refine g_iload e_Plan_isFaulty_136 rfl ?_
          refine g_aload e_Plan_isFaulty_138 rfl ?_
          refine g_getI e_Plan_isFaulty_140 fl_Plan_83 (kk_0_2 ha1) (hz.lt (kk_0_2 ha1)) fj_5_5 ?_
          refine g_callV (rv := rvI) (As := [.int (4 : Int32), .int v2, .int r6, .int (M19.1 (a1 + 2) 5)]) (st := []) e_Plan_isFaulty_143 mv_Plan_104 my_Plan_faulty (by decide) rfl rfl ha0 (hz.lt ha0) rfl (Nat.le_of_ble_eq_true rfl) rfl (fun r M1 h => c_Plan_faulty hz ha0 h) (fun r24 M23 h25 => ?_)
          refine g_if_eq e_Plan_isFaulty_146 (fun c26 => ?_) (fun c26 => ?_)
          · refine g_iconst (x := (0 : Int32)) e_Plan_isFaulty_153 (by decide) ?_
            exact g_zret e_Plan_isFaulty_154 rfl (by decide)
          · refine g_iconst (x := (1 : Int32)) e_Plan_isFaulty_149 (by decide) ?_
            refine g_goto e_Plan_isFaulty_150 ?_
            exact g_zret e_Plan_isFaulty_154 rfl (by decide)
      · refine g_aload_n e_Plan_isFaulty_103 rfl ?_
        refine g_iconst (x := (3 : Int32)) e_Plan_isFaulty_104 (by decide) ?_
        refine g_iload_n e_Plan_isFaulty_105 rfl ?_
        refine g_iload e_Plan_isFaulty_106 rfl ?_
        refine g_aload e_Plan_isFaulty_108 rfl ?_
        refine g_callV (rv := rvI) (As := []) (st := [.int r6, .int v2, .int (3 : Int32), rf (kG X) a0]) e_Plan_isFaulty_110 mv_Plan_80 my_Spot_cell (by decide) rfl rfl (kk_0_2 ha1) (hz.lt (kk_0_2 ha1)) rfl (Nat.le_of_ble_eq_true rfl) rfl (fun r M1 h => c_Spot_cell hz (kk_0_2 ha1) h) (fun r28 M27 h29 => ?_)
        refine g_callV (rv := rvI) (As := [.int (3 : Int32), .int v2, .int r6, .int r28]) (st := []) e_Plan_isFaulty_113 mv_Plan_104 my_Plan_faulty (by decide) rfl rfl ha0 (hz.lt ha0) rfl (Nat.le_of_ble_eq_true rfl) rfl (fun r M1 h => c_Plan_faulty hz ha0 h) (fun r31 M30 h32 => ?_)
        exact g_zretG e_Plan_isFaulty_116 rfl
    · refine g_aload_n e_Plan_isFaulty_62 rfl ?_
      refine g_iconst (x := (2 : Int32)) e_Plan_isFaulty_63 (by decide) ?_
      refine g_iload_n e_Plan_isFaulty_64 rfl ?_
      refine g_iload e_Plan_isFaulty_65 rfl ?_
      refine g_aload_n e_Plan_isFaulty_67 rfl ?_
      refine g_getRZ (kz := (a0 + 1)) e_Plan_isFaulty_68 fl_Plan_16 hz ha0 (by decide) fj_2_0 rfl ?_
      refine g_iload e_Plan_isFaulty_71 rfl ?_
      refine g_callV (rv := rvI) (As := [.int r9]) (st := [.int r6, .int v2, .int (2 : Int32), rf (kG X) a0]) e_Plan_isFaulty_73 mv_Plan_93 my_Row_get (by decide) rfl rfl (kk_2_1 ha0) (hz.lt (kk_2_1 ha0)) rfl (Nat.le_of_ble_eq_true rfl) rfl (fun r M1 h => c_Row_get hz (kk_2_1 ha0) h) (fun r34 M33 h35 => ?_)
      refine g_callV (rv := rvI) (As := [.int (2 : Int32), .int v2, .int r6, .int r34]) (st := []) e_Plan_isFaulty_76 mv_Plan_104 my_Plan_faulty (by decide) rfl rfl ha0 (hz.lt ha0) rfl (Nat.le_of_ble_eq_true rfl) rfl (fun r M1 h => c_Plan_faulty hz ha0 h) (fun r37 M36 h38 => ?_)
      exact g_zretG e_Plan_isFaulty_79 rfl
  · refine g_aload_n e_Plan_isFaulty_14 rfl ?_
    refine g_getRZ (kz := (a0 + 7)) e_Plan_isFaulty_15 fl_Plan_26 hz ha0 (by decide) fj_2_3 rfl ?_
    refine g_iconst (x := (1 : Int32)) e_Plan_isFaulty_18 (by decide) ?_
    refine g_callV (rv := rvI) (As := [.int (1 : Int32)]) (st := []) e_Plan_isFaulty_19 mv_Plan_44 my_Row_add (by decide) rfl rfl (kk_2_7 ha0) (hz.lt (kk_2_7 ha0)) rfl (Nat.le_of_ble_eq_true rfl) rfl (fun r M1 h => c_Row_add hz (kk_2_7 ha0) h) (fun r40 M39 h41 => ?_)
    refine g_pop e_Plan_isFaulty_22 rfl ?_
    refine g_aload_n e_Plan_isFaulty_23 rfl ?_
    refine g_getRZ (kz := (a0 + 7)) e_Plan_isFaulty_24 fl_Plan_26 hz ha0 (by decide) fj_2_3 rfl ?_
    refine g_iload_n e_Plan_isFaulty_27 rfl ?_
    refine g_callV (rv := rvI) (As := [.int v2]) (st := []) e_Plan_isFaulty_28 mv_Plan_44 my_Row_add (by decide) rfl rfl (kk_2_7 ha0) (hz.lt (kk_2_7 ha0)) rfl (Nat.le_of_ble_eq_true rfl) rfl (fun r M1 h => c_Row_add hz (kk_2_7 ha0) h) (fun r43 M42 h44 => ?_)
    refine g_pop e_Plan_isFaulty_31 rfl ?_
    refine g_iconst (x := (1 : Int32)) e_Plan_isFaulty_32 (by decide) ?_
    exact g_zret e_Plan_isFaulty_33 rfl (by decide)
set_option maxHeartbeats 4000000 in
set_option maxRecDepth 20000 in
theorem c_Plan_isFaulty {l : Launch} {G : KG} {Z : ZZ} {a0 : Nat} {a1 : Nat} {v2 : Int32} {M M' : Mm} {r : Int32} (hz : FU Z) (ha0 : kD a0 = 2) (ha1 : kD a1 = 0) (h : f_Plan_isFaulty a0 a1 v2 M = some (r, M')) : CT l G y_Plan_isFaulty md_Plan_isFaulty 0 0 [rf G a0, rf G a1, .int v2] Z.2.2.1 Z.2.2.2 M (rvI r) Z.2.2.1 Z.2.2.2 M' :=
  CT.of (Z := (0, 0, Z.2.2.1, Z.2.2.2)) (Z' := (0, 0, Z.2.2.1, Z.2.2.2)) 4 (by decide) rfl ⟨rfl, rfl⟩ (by show 3 ≤ 7; decide) rfl h (fun X _ hG => by subst hG; exact t_Plan_isFaulty hz ha0 ha1)
set_option maxHeartbeats 4000000 in
set_option maxRecDepth 20000 in
theorem t_Plan_prove_9 {X : KX} {Z : ZZ} {a0 : Nat} {a1 : Nat} (hz : FU Z) (ha0 : kD a0 = 2) (ha1 : kD a1 = 0) : ∀ (n : Nat) (v2 : Int32) (M : Mm), GO X md_Plan_prove (QE X rvU Z) 9 [some (rf (kG X) a0), some (rf (kG X) a1), some (.int v2)] [] Z M (f_Plan_prove_9 a0 a1 n v2 M) := by
  intro n
  induction n with
  | zero =>
    intro v2 M
    exact g_none
  | succ n ih =>
    intro v2 M
    rw [f_Plan_prove_9_s]
    refine g_iload_n e_Plan_prove_9 rfl ?_
    refine g_aload_n e_Plan_prove_10 rfl ?_
    refine g_getI e_Plan_prove_11 fl_Plan_69 ha1 (hz.lt ha1) fj_0_4 ?_
    refine g_icmp_gt e_Plan_prove_14 (fun c4 => ?_) (fun c4 => ?_)
    · refine g_aload_n e_Plan_prove_33 rfl ?_
      refine g_getRZ (kz := (a0 + 7)) e_Plan_prove_34 fl_Plan_26 hz ha0 (by decide) fj_2_3 rfl ?_
      refine g_iconst (x := (0 : Int32)) e_Plan_prove_37 (by decide) ?_
      refine g_callV (rv := rvI) (As := [.int (0 : Int32)]) (st := []) e_Plan_prove_38 mv_Plan_44 my_Row_add (by decide) rfl rfl (kk_2_7 ha0) (hz.lt (kk_2_7 ha0)) rfl (Nat.le_of_ble_eq_true rfl) rfl (fun r M1 h => c_Row_add hz (kk_2_7 ha0) h) (fun r6 M5 h7 => ?_)
      refine g_pop e_Plan_prove_41 rfl ?_
      exact g_vret e_Plan_prove_42 rfl
    · refine g_aload_n e_Plan_prove_17 rfl ?_
      refine g_aload_n e_Plan_prove_18 rfl ?_
      refine g_iload_n e_Plan_prove_19 rfl ?_
      refine g_callV (rv := rvI) (As := [rf (kG X) a1, .int v2]) (st := []) e_Plan_prove_20 mv_Plan_100 my_Plan_isFaulty (by decide) rfl rfl ha0 (hz.lt ha0) rfl (Nat.le_of_ble_eq_true rfl) rfl (fun r M1 h => c_Plan_isFaulty hz ha0 ha1 h) (fun r9 M8 h10 => ?_)
      refine g_if_eq e_Plan_prove_23 (fun c11 => ?_) (fun c11 => ?_)
      · refine g_iincL (c := (1 : Int32)) e_Plan_prove_27 rfl (by decide) (by decide) rfl (fun x12 => ?_)
        refine g_goto e_Plan_prove_30 ?_
        exact g_wq (ih x12 M8) ⟨rfl, rfl, rfl, trivial⟩
      · exact g_vret e_Plan_prove_26 rfl
set_option maxHeartbeats 4000000 in
set_option maxRecDepth 20000 in
theorem t_Plan_prove {X : KX} {Z : ZZ} {a0 : Nat} {a1 : Nat} {M : Mm} (hz : FU Z) (ha0 : kD a0 = 2) (ha1 : kD a1 = 0) : GO X md_Plan_prove (QE X rvU Z) 0 [some (rf (kG X) a0), some (rf (kG X) a1), none] [] Z M (f_Plan_prove a0 a1 M) := by
  unfold f_Plan_prove
  refine g_aload_n e_Plan_prove_0 rfl ?_
  refine g_getRZ (kz := (a0 + 7)) e_Plan_prove_1 fl_Plan_26 hz ha0 (by decide) fj_2_3 rfl ?_
  refine g_callV (rv := rvU) (As := []) (st := []) e_Plan_prove_4 mv_Plan_29 my_Row_clear (by decide) rfl rfl (kk_2_7 ha0) (hz.lt (kk_2_7 ha0)) rfl (Nat.le_of_ble_eq_true rfl) rfl (fun r M1 h => c_Row_clear hz (kk_2_7 ha0) h) (fun r2 M1 h3 => ?_)
  refine g_iconst (x := (1 : Int32)) e_Plan_prove_7 (by decide) ?_
  refine g_istore_n e_Plan_prove_8 (by decide) rfl ?_
  exact g_wq (t_Plan_prove_9 hz ha0 ha1 fuel (1 : Int32) M1) ⟨rfl, rfl, rfl, trivial⟩
set_option maxHeartbeats 4000000 in
set_option maxRecDepth 20000 in
theorem c_Plan_prove {l : Launch} {G : KG} {Z : ZZ} {a0 : Nat} {a1 : Nat} {M M' : Mm} {r : Unit} (hz : FU Z) (ha0 : kD a0 = 2) (ha1 : kD a1 = 0) (h : f_Plan_prove a0 a1 M = some (r, M')) : CT l G y_Plan_prove md_Plan_prove 0 0 [rf G a0, rf G a1] Z.2.2.1 Z.2.2.2 M (rvU r) Z.2.2.1 Z.2.2.2 M' :=
  CT.of (Z := (0, 0, Z.2.2.1, Z.2.2.2)) (Z' := (0, 0, Z.2.2.1, Z.2.2.2)) 1 (by decide) rfl ⟨rfl, rfl⟩ (by show 2 ≤ 3; decide) rfl h (fun X _ hG => by subst hG; exact t_Plan_prove hz ha0 ha1)
set_option maxHeartbeats 4000000 in
set_option maxRecDepth 20000 in
theorem t_Press_clear {X : KX} {Z : ZZ} {a0 : Nat} {M : Mm} (hz : FU Z) (ha0 : kD a0 = 3) : GO X md_Press_clear (QE X rvU Z) 0 [some (rf (kG X) a0)] [] Z M (f_Press_clear a0 M) := by
  unfold f_Press_clear
  refine g_aload_n e_Press_clear_0 rfl ?_
  refine g_getRZ (kz := (a0 + 1)) e_Press_clear_1 fl_Press_14 hz ha0 (by decide) fj_3_0 rfl ?_
  refine g_callV (rv := rvU) (As := []) (st := []) e_Press_clear_4 mv_Press_23 my_Row_clear (by decide) rfl rfl (kk_3_1 ha0) (hz.lt (kk_3_1 ha0)) rfl (Nat.le_of_ble_eq_true rfl) rfl (fun r M1 h => c_Row_clear hz (kk_3_1 ha0) h) (fun r2 M1 h3 => ?_)
  refine g_aload_n e_Press_clear_7 rfl ?_
  refine g_getRZ (kz := (a0 + 3)) e_Press_clear_8 fl_Press_20 hz ha0 (by decide) fj_3_1 rfl ?_
  refine g_callV (rv := rvU) (As := []) (st := []) e_Press_clear_11 mv_Press_23 my_Row_clear (by decide) rfl rfl (kk_3_3 ha0) (hz.lt (kk_3_3 ha0)) rfl (Nat.le_of_ble_eq_true rfl) rfl (fun r M1 h => c_Row_clear hz (kk_3_3 ha0) h) (fun r5 M4 h6 => ?_)
  exact g_vret e_Press_clear_14 rfl
set_option maxHeartbeats 4000000 in
set_option maxRecDepth 20000 in
theorem c_Press_clear {l : Launch} {G : KG} {Z : ZZ} {a0 : Nat} {M M' : Mm} {r : Unit} (hz : FU Z) (ha0 : kD a0 = 3) (h : f_Press_clear a0 M = some (r, M')) : CT l G y_Press_clear md_Press_clear 0 0 [rf G a0] Z.2.2.1 Z.2.2.2 M (rvU r) Z.2.2.1 Z.2.2.2 M' :=
  CT.of (Z := (0, 0, Z.2.2.1, Z.2.2.2)) (Z' := (0, 0, Z.2.2.1, Z.2.2.2)) 0 (by decide) rfl ⟨rfl, rfl⟩ (by show 1 ≤ 1; decide) rfl h (fun X _ hG => by subst hG; exact t_Press_clear hz ha0)
set_option maxHeartbeats 4000000 in
set_option maxRecDepth 20000 in
theorem t_Press_copy {X : KX} {Z : ZZ} {a0 : Nat} {a1 : Nat} {M : Mm} (hz : FU Z) (ha0 : kD a0 = 3) (ha1 : kD a1 = 3) : GO X md_Press_copy (QE X rvU Z) 0 [some (rf (kG X) a0), some (rf (kG X) a1)] [] Z M (f_Press_copy a0 a1 M) := by
  unfold f_Press_copy
  refine g_aload_n e_Press_copy_0 rfl ?_
  refine g_getRZ (kz := (a0 + 1)) e_Press_copy_1 fl_Press_14 hz ha0 (by decide) fj_3_0 rfl ?_
  refine g_aload_n e_Press_copy_4 rfl ?_
  refine g_getRZ (kz := (a1 + 1)) e_Press_copy_5 fl_Press_14 hz ha1 (by decide) fj_3_0 rfl ?_
  refine g_callV (rv := rvU) (As := [rf (kG X) (a1 + 1)]) (st := []) e_Press_copy_8 mv_Press_26 my_Row_copy (by decide) rfl rfl (kk_3_1 ha0) (hz.lt (kk_3_1 ha0)) rfl (Nat.le_of_ble_eq_true rfl) rfl (fun r M1 h => c_Row_copy hz (kk_3_1 ha0) (kk_3_1 ha1) h) (fun r2 M1 h3 => ?_)
  refine g_aload_n e_Press_copy_11 rfl ?_
  refine g_getRZ (kz := (a0 + 3)) e_Press_copy_12 fl_Press_20 hz ha0 (by decide) fj_3_1 rfl ?_
  refine g_aload_n e_Press_copy_15 rfl ?_
  refine g_getRZ (kz := (a1 + 3)) e_Press_copy_16 fl_Press_20 hz ha1 (by decide) fj_3_1 rfl ?_
  refine g_callV (rv := rvU) (As := [rf (kG X) (a1 + 3)]) (st := []) e_Press_copy_19 mv_Press_26 my_Row_copy (by decide) rfl rfl (kk_3_3 ha0) (hz.lt (kk_3_3 ha0)) rfl (Nat.le_of_ble_eq_true rfl) rfl (fun r M1 h => c_Row_copy hz (kk_3_3 ha0) (kk_3_3 ha1) h) (fun r5 M4 h6 => ?_)
  exact g_vret e_Press_copy_22 rfl
set_option maxHeartbeats 4000000 in
set_option maxRecDepth 20000 in
theorem c_Press_copy {l : Launch} {G : KG} {Z : ZZ} {a0 : Nat} {a1 : Nat} {M M' : Mm} {r : Unit} (hz : FU Z) (ha0 : kD a0 = 3) (ha1 : kD a1 = 3) (h : f_Press_copy a0 a1 M = some (r, M')) : CT l G y_Press_copy md_Press_copy 0 0 [rf G a0, rf G a1] Z.2.2.1 Z.2.2.2 M (rvU r) Z.2.2.1 Z.2.2.2 M' :=
  CT.of (Z := (0, 0, Z.2.2.1, Z.2.2.2)) (Z' := (0, 0, Z.2.2.1, Z.2.2.2)) 0 (by decide) rfl ⟨rfl, rfl⟩ (by show 2 ≤ 2; decide) rfl h (fun X _ hG => by subst hG; exact t_Press_copy hz ha0 ha1)
set_option maxHeartbeats 4000000 in
set_option maxRecDepth 20000 in
theorem t_Press_holds {X : KX} {Z : ZZ} {a0 : Nat} {v1 : Int32} {M : Mm} (hz : FU Z) (ha0 : kD a0 = 3) : GO X md_Press_holds (QE X rvI Z) 0 [some (rf (kG X) a0), some (.int v1)] [] Z M (f_Press_holds a0 v1 M) := by
  unfold f_Press_holds
  refine g_aload_n e_Press_holds_0 rfl ?_
  refine g_getRZ (kz := (a0 + 1)) e_Press_holds_1 fl_Press_14 hz ha0 (by decide) fj_3_0 rfl ?_
  refine g_iload_n e_Press_holds_4 rfl ?_
  refine g_iconst (x := (0 : Int32)) e_Press_holds_5 (by decide) ?_
  refine g_callV (rv := rvI) (As := [.int v1, .int (0 : Int32)]) (st := []) e_Press_holds_6 mv_Press_30 my_Row_find (by decide) rfl rfl (kk_3_1 ha0) (hz.lt (kk_3_1 ha0)) rfl (Nat.le_of_ble_eq_true rfl) rfl (fun r M1 h => c_Row_find hz (kk_3_1 ha0) h) (fun r2 M1 h3 => ?_)
  refine g_if_ge e_Press_holds_9 (fun c4 => ?_) (fun c4 => ?_)
  · refine g_iconst (x := (1 : Int32)) e_Press_holds_24 (by decide) ?_
    refine g_goto e_Press_holds_25 ?_
    exact g_zret e_Press_holds_29 rfl (by decide)
  · refine g_aload_n e_Press_holds_12 rfl ?_
    refine g_getRZ (kz := (a0 + 3)) e_Press_holds_13 fl_Press_20 hz ha0 (by decide) fj_3_1 rfl ?_
    refine g_iload_n e_Press_holds_16 rfl ?_
    refine g_iconst (x := (0 : Int32)) e_Press_holds_17 (by decide) ?_
    refine g_callV (rv := rvI) (As := [.int v1, .int (0 : Int32)]) (st := []) e_Press_holds_18 mv_Press_30 my_Row_find (by decide) rfl rfl (kk_3_3 ha0) (hz.lt (kk_3_3 ha0)) rfl (Nat.le_of_ble_eq_true rfl) rfl (fun r M1 h => c_Row_find hz (kk_3_3 ha0) h) (fun r6 M5 h7 => ?_)
    refine g_if_lt e_Press_holds_21 (fun c8 => ?_) (fun c8 => ?_)
    · refine g_iconst (x := (0 : Int32)) e_Press_holds_28 (by decide) ?_
      exact g_zret e_Press_holds_29 rfl (by decide)
    · refine g_iconst (x := (1 : Int32)) e_Press_holds_24 (by decide) ?_
      refine g_goto e_Press_holds_25 ?_
      exact g_zret e_Press_holds_29 rfl (by decide)
set_option maxHeartbeats 4000000 in
set_option maxRecDepth 20000 in
theorem c_Press_holds {l : Launch} {G : KG} {Z : ZZ} {a0 : Nat} {v1 : Int32} {M M' : Mm} {r : Int32} (hz : FU Z) (ha0 : kD a0 = 3) (h : f_Press_holds a0 v1 M = some (r, M')) : CT l G y_Press_holds md_Press_holds 0 0 [rf G a0, .int v1] Z.2.2.1 Z.2.2.2 M (rvI r) Z.2.2.1 Z.2.2.2 M' :=
  CT.of (Z := (0, 0, Z.2.2.1, Z.2.2.2)) (Z' := (0, 0, Z.2.2.1, Z.2.2.2)) 0 (by decide) rfl ⟨rfl, rfl⟩ (by show 2 ≤ 2; decide) rfl h (fun X _ hG => by subst hG; exact t_Press_holds hz ha0)
set_option maxHeartbeats 4000000 in
set_option maxRecDepth 20000 in
theorem t_Press_strokes_112 {X : KX} {Z : ZZ} {a0 : Nat} {rec10 : Int32 → Int32 → Int32 → Mm → Option (Int32 × Mm)} (hz : FU Z) (ha0 : kD a0 = 3) (hr10 : ∀ (v1 : Int32) (v2 : Int32) (v3 : Int32) (M : Mm), GO X md_Press_strokes (QE X rvI Z) 10 [some (rf (kG X) a0), some (.int v1), some (.int v2), some (.int v3), none, none] [] Z M (rec10 v1 v2 v3 M)) : ∀ (v1 : Int32) (v2 : Int32) (v3 : Int32) (M : Mm), GO X md_Press_strokes (QE X rvI Z) 112 [some (rf (kG X) a0), some (.int v1), some (.int v2), some (.int v3), none, none] [] Z M (f_Press_strokes_112 a0 rec10 v1 v2 v3 M) := by
  intro v1 v2 v3 M
  unfold f_Press_strokes_112
  refine g_iincL (c := (1 : Int32)) e_Press_strokes_112 rfl (by decide) (by decide) rfl (fun x15 => ?_)
  refine g_goto e_Press_strokes_115 ?_
  exact g_wq (hr10 v1 v2 x15 M) ⟨rfl, rfl, rfl, rfl, trivial⟩
set_option maxHeartbeats 4000000 in
set_option maxRecDepth 20000 in
theorem t_Press_strokes_102 {X : KX} {Z : ZZ} {a0 : Nat} {rec10 : Int32 → Int32 → Int32 → Mm → Option (Int32 × Mm)} (hz : FU Z) (ha0 : kD a0 = 3) (hr10 : ∀ (v1 : Int32) (v2 : Int32) (v3 : Int32) (M : Mm), GO X md_Press_strokes (QE X rvI Z) 10 [some (rf (kG X) a0), some (.int v1), some (.int v2), some (.int v3), none, none] [] Z M (rec10 v1 v2 v3 M)) : ∀ (v1 : Int32) (v2 : Int32) (v3 : Int32) (v4 : Int32) (M : Mm), GO X md_Press_strokes (QE X rvI Z) 102 [some (rf (kG X) a0), some (.int v1), some (.int v2), some (.int v3), some (.int v4), none] [] Z M (f_Press_strokes_102 a0 rec10 v1 v2 v3 v4 M) := by
  intro v1 v2 v3 v4 M
  unfold f_Press_strokes_102
  refine g_aload_n e_Press_strokes_102 rfl ?_
  refine g_getRZ (kz := (a0 + 3)) e_Press_strokes_103 fl_Press_20 hz ha0 (by decide) fj_3_1 rfl ?_
  refine g_iload e_Press_strokes_106 rfl ?_
  refine g_callV (rv := rvI) (As := [.int v4]) (st := []) e_Press_strokes_108 mv_Press_45 my_Row_add (by decide) rfl rfl (kk_3_3 ha0) (hz.lt (kk_3_3 ha0)) rfl (Nat.le_of_ble_eq_true rfl) rfl (fun r M1 h => c_Row_add hz (kk_3_3 ha0) h) (fun r13 M12 h14 => ?_)
  refine g_pop e_Press_strokes_111 rfl ?_
  exact g_wq (t_Press_strokes_112 hz ha0 (hr10) v1 v2 v3 M12) ⟨rfl, rfl, rfl, rfl, trivial⟩
set_option maxHeartbeats 4000000 in
set_option maxRecDepth 20000 in
theorem t_Press_strokes_72 {X : KX} {Z : ZZ} {a0 : Nat} {rec10 : Int32 → Int32 → Int32 → Mm → Option (Int32 × Mm)} (hz : FU Z) (ha0 : kD a0 = 3) (hr10 : ∀ (v1 : Int32) (v2 : Int32) (v3 : Int32) (M : Mm), GO X md_Press_strokes (QE X rvI Z) 10 [some (rf (kG X) a0), some (.int v1), some (.int v2), some (.int v3), none, none] [] Z M (rec10 v1 v2 v3 M)) : ∀ (v1 : Int32) (v2 : Int32) (v3 : Int32) (v4 : Int32) (s0 : Int32) (M : Mm), GO X md_Press_strokes (QE X rvI Z) 72 [some (rf (kG X) a0), some (.int v1), some (.int v2), some (.int v3), some (.int v4), none] [.int s0] Z M (f_Press_strokes_72 a0 rec10 v1 v2 v3 v4 s0 M) := by
  intro v1 v2 v3 v4 s0 M
  unfold f_Press_strokes_72
  refine g_istore e_Press_strokes_72 (by decide) rfl ?_
  refine g_iload e_Press_strokes_74 rfl ?_
  refine g_if_eq e_Press_strokes_76 (fun c11 => ?_) (fun c11 => ?_)
  · exact g_wq (t_Press_strokes_102 hz ha0 (hr10) v1 v2 v3 v4 M) ⟨rfl, rfl, rfl, rfl, rfl, trivial⟩
  · refine g_aload_n e_Press_strokes_79 rfl ?_
    refine g_getRZ (kz := (a0 + 1)) e_Press_strokes_80 fl_Press_14 hz ha0 (by decide) fj_3_0 rfl ?_
    refine g_getI e_Press_strokes_83 fl_Press_34 (kk_3_1 ha0) (hz.lt (kk_3_1 ha0)) fj_4_1 ?_
    refine g_if_le e_Press_strokes_86 (fun c16 => ?_) (fun c16 => ?_)
    · exact g_wq (t_Press_strokes_102 hz ha0 (hr10) v1 v2 v3 v4 M) ⟨rfl, rfl, rfl, rfl, rfl, trivial⟩
    · refine g_aload_n e_Press_strokes_89 rfl ?_
      refine g_getRZ (kz := (a0 + 1)) e_Press_strokes_90 fl_Press_14 hz ha0 (by decide) fj_3_0 rfl ?_
      refine g_iload e_Press_strokes_93 rfl ?_
      refine g_callV (rv := rvI) (As := [.int v4]) (st := []) e_Press_strokes_95 mv_Press_45 my_Row_add (by decide) rfl rfl (kk_3_1 ha0) (hz.lt (kk_3_1 ha0)) rfl (Nat.le_of_ble_eq_true rfl) rfl (fun r M1 h => c_Row_add hz (kk_3_1 ha0) h) (fun r18 M17 h19 => ?_)
      refine g_pop e_Press_strokes_98 rfl ?_
      refine g_goto e_Press_strokes_99 ?_
      exact g_wq (t_Press_strokes_112 hz ha0 (hr10) v1 v2 v3 M17) ⟨rfl, rfl, rfl, rfl, trivial⟩
set_option maxHeartbeats 4000000 in
set_option maxRecDepth 20000 in
theorem t_Press_strokes_71 {X : KX} {Z : ZZ} {a0 : Nat} {rec10 : Int32 → Int32 → Int32 → Mm → Option (Int32 × Mm)} (hz : FU Z) (ha0 : kD a0 = 3) (hr10 : ∀ (v1 : Int32) (v2 : Int32) (v3 : Int32) (M : Mm), GO X md_Press_strokes (QE X rvI Z) 10 [some (rf (kG X) a0), some (.int v1), some (.int v2), some (.int v3), none, none] [] Z M (rec10 v1 v2 v3 M)) : ∀ (v1 : Int32) (v2 : Int32) (v3 : Int32) (v4 : Int32) (M : Mm), GO X md_Press_strokes (QE X rvI Z) 71 [some (rf (kG X) a0), some (.int v1), some (.int v2), some (.int v3), some (.int v4), none] [] Z M (f_Press_strokes_71 a0 rec10 v1 v2 v3 v4 M) := by
  intro v1 v2 v3 v4 M
  unfold f_Press_strokes_71
  refine g_iconst (x := (0 : Int32)) e_Press_strokes_71 (by decide) ?_
  exact g_wq (t_Press_strokes_72 hz ha0 (hr10) v1 v2 v3 v4 (0 : Int32) M) ⟨rfl, rfl, rfl, rfl, rfl, trivial⟩
set_option maxHeartbeats 4000000 in
set_option maxRecDepth 20000 in
theorem t_Press_strokes_10 {X : KX} {Z : ZZ} {a0 : Nat} (hz : FU Z) (ha0 : kD a0 = 3) : ∀ (n : Nat) (v1 : Int32) (v2 : Int32) (v3 : Int32) (M : Mm), GO X md_Press_strokes (QE X rvI Z) 10 [some (rf (kG X) a0), some (.int v1), some (.int v2), some (.int v3), none, none] [] Z M (f_Press_strokes_10 a0 n v1 v2 v3 M) := by
  intro n
  induction n with
  | zero =>
    intro v1 v2 v3 M
    exact g_none
  | succ n ih =>
    intro v1 v2 v3 M
    rw [f_Press_strokes_10_s]
    refine g_iload_n e_Press_strokes_10 rfl ?_
    refine g_iload_n e_Press_strokes_11 rfl ?_
    refine g_icmp_ge e_Press_strokes_12 (fun c2 => ?_) (fun c2 => ?_)
    · refine g_aload_n e_Press_strokes_118 rfl ?_
      refine g_getRZ (kz := (a0 + 3)) e_Press_strokes_119 fl_Press_20 hz ha0 (by decide) fj_3_1 rfl ?_
      refine g_getI e_Press_strokes_122 fl_Press_34 (kk_3_3 ha0) (hz.lt (kk_3_3 ha0)) fj_4_1 ?_
      refine g_iload_n e_Press_strokes_125 rfl ?_
      refine g_isub e_Press_strokes_126 ?_
      exact g_iret e_Press_strokes_127 rfl
    · refine g_aload_n e_Press_strokes_15 rfl ?_
      refine g_getRZ (kz := (a0 + 1)) e_Press_strokes_16 fl_Press_14 hz ha0 (by decide) fj_3_0 rfl ?_
      refine g_getI e_Press_strokes_19 fl_Press_34 (kk_3_1 ha0) (hz.lt (kk_3_1 ha0)) fj_4_1 ?_
      refine g_if_le e_Press_strokes_22 (fun c3 => ?_) (fun c3 => ?_)
      · refine g_aload_n e_Press_strokes_118 rfl ?_
        refine g_getRZ (kz := (a0 + 3)) e_Press_strokes_119 fl_Press_20 hz ha0 (by decide) fj_3_1 rfl ?_
        refine g_getI e_Press_strokes_122 fl_Press_34 (kk_3_3 ha0) (hz.lt (kk_3_3 ha0)) fj_4_1 ?_
        refine g_iload_n e_Press_strokes_125 rfl ?_
        refine g_isub e_Press_strokes_126 ?_
        exact g_iret e_Press_strokes_127 rfl
      · refine g_aload_n e_Press_strokes_25 rfl ?_
        refine g_getRZ (kz := (a0 + 1)) e_Press_strokes_26 fl_Press_14 hz ha0 (by decide) fj_3_0 rfl ?_
        refine g_iconst (x := (0 : Int32)) e_Press_strokes_29 (by decide) ?_
        refine g_callV (rv := rvI) (As := [.int (0 : Int32)]) (st := []) e_Press_strokes_30 mv_Press_38 my_Row_get (by decide) rfl rfl (kk_3_1 ha0) (hz.lt (kk_3_1 ha0)) rfl (Nat.le_of_ble_eq_true rfl) rfl (fun r M1 h => c_Row_get hz (kk_3_1 ha0) h) (fun r5 M4 h6 => ?_)
        refine g_istore e_Press_strokes_33 (by decide) rfl ?_
        refine g_aload_n e_Press_strokes_35 rfl ?_
        refine g_getRZ (kz := (a0 + 1)) e_Press_strokes_36 fl_Press_14 hz ha0 (by decide) fj_3_0 rfl ?_
        refine g_iconst (x := (0 : Int32)) e_Press_strokes_39 (by decide) ?_
        refine g_callV (rv := rvU) (As := [.int (0 : Int32)]) (st := []) e_Press_strokes_40 mv_Press_42 my_Row_drop (by decide) rfl rfl (kk_3_1 ha0) (hz.lt (kk_3_1 ha0)) rfl (Nat.le_of_ble_eq_true rfl) rfl (fun r M1 h => c_Row_drop hz (kk_3_1 ha0) h) (fun r8 M7 h9 => ?_)
        refine g_iload e_Press_strokes_43 rfl ?_
        refine g_bipush (x := (10 : Int32)) e_Press_strokes_45 (by decide) ?_
        refine g_irem e_Press_strokes_47 (by decide) ?_
        refine g_iconst (x := (1 : Int32)) e_Press_strokes_48 (by decide) ?_
        refine g_icmp_ne e_Press_strokes_49 (fun c10 => ?_) (fun c10 => ?_)
        · exact g_wq (t_Press_strokes_71 hz ha0 (ih) v1 v2 v3 r5 M7) ⟨rfl, rfl, rfl, rfl, rfl, trivial⟩
        · refine g_aload_n e_Press_strokes_52 rfl ?_
          refine g_getRZ (kz := (a0 + 3)) e_Press_strokes_53 fl_Press_20 hz ha0 (by decide) fj_3_1 rfl ?_
          refine g_iload e_Press_strokes_56 rfl ?_
          refine g_iconst (x := (1 : Int32)) e_Press_strokes_58 (by decide) ?_
          refine g_isub e_Press_strokes_59 ?_
          refine g_iconst (x := (0 : Int32)) e_Press_strokes_60 (by decide) ?_
          refine g_callV (rv := rvI) (As := [.int (r5 - (1 : Int32)), .int (0 : Int32)]) (st := []) e_Press_strokes_61 mv_Press_30 my_Row_find (by decide) rfl rfl (kk_3_3 ha0) (hz.lt (kk_3_3 ha0)) rfl (Nat.le_of_ble_eq_true rfl) rfl (fun r M1 h => c_Row_find hz (kk_3_3 ha0) h) (fun r21 M20 h22 => ?_)
          refine g_phi1 72 (fun x24 => [some (rf (kG X) a0), some (.int v1), some (.int v2), some (.int v3), some (.int r5), none]) (fun x24 => [.int x24]) (fun x24 => ?_) (fun hj30 => ?_)
          · show GO X _ _ 72 [some (rf (kG X) a0), some (.int v1), some (.int v2), some (.int v3), some (.int r5), none] [.int x24] Z M20 _
            refine g_istore e_Press_strokes_72 (by decide) rfl ?_
            refine g_iload e_Press_strokes_74 rfl ?_
            refine g_if_eq e_Press_strokes_76 (fun c25 => ?_) (fun c25 => ?_)
            · exact g_wq (t_Press_strokes_102 hz ha0 (ih) v1 v2 v3 r5 M20) ⟨rfl, rfl, rfl, rfl, rfl, trivial⟩
            · refine g_aload_n e_Press_strokes_79 rfl ?_
              refine g_getRZ (kz := (a0 + 1)) e_Press_strokes_80 fl_Press_14 hz ha0 (by decide) fj_3_0 rfl ?_
              refine g_getI e_Press_strokes_83 fl_Press_34 (kk_3_1 ha0) (hz.lt (kk_3_1 ha0)) fj_4_1 ?_
              refine g_if_le e_Press_strokes_86 (fun c26 => ?_) (fun c26 => ?_)
              · exact g_wq (t_Press_strokes_102 hz ha0 (ih) v1 v2 v3 r5 M20) ⟨rfl, rfl, rfl, rfl, rfl, trivial⟩
              · refine g_aload_n e_Press_strokes_89 rfl ?_
                refine g_getRZ (kz := (a0 + 1)) e_Press_strokes_90 fl_Press_14 hz ha0 (by decide) fj_3_0 rfl ?_
                refine g_iload e_Press_strokes_93 rfl ?_
                refine g_callV (rv := rvI) (As := [.int r5]) (st := []) e_Press_strokes_95 mv_Press_45 my_Row_add (by decide) rfl rfl (kk_3_1 ha0) (hz.lt (kk_3_1 ha0)) rfl (Nat.le_of_ble_eq_true rfl) rfl (fun r M1 h => c_Row_add hz (kk_3_1 ha0) h) (fun r28 M27 h29 => ?_)
                refine g_pop e_Press_strokes_98 rfl ?_
                refine g_goto e_Press_strokes_99 ?_
                exact g_wq (t_Press_strokes_112 hz ha0 (ih) v1 v2 v3 M27) ⟨rfl, rfl, rfl, rfl, trivial⟩
          · refine g_if_ge' e_Press_strokes_64 (fun c23 => ?_) (fun c23 => ?_)
            · refine g_iconst (x := (0 : Int32)) e_Press_strokes_71 (by decide) ?_
              exact (g_pt c23 (g_lt (g_wq (hj30 (0 : Int32)) ⟨rfl, rfl, rfl, rfl, rfl, trivial⟩)))
            · refine g_iconst (x := (1 : Int32)) e_Press_strokes_67 (by decide) ?_
              refine g_goto e_Press_strokes_68 ?_
              exact (g_pf c23 (g_lt (g_wq (hj30 (1 : Int32)) ⟨rfl, rfl, rfl, rfl, rfl, trivial⟩)))
set_option maxHeartbeats 4000000 in
set_option maxRecDepth 20000 in
theorem t_Press_strokes {X : KX} {Z : ZZ} {a0 : Nat} {v1 : Int32} {M : Mm} (hz : FU Z) (ha0 : kD a0 = 3) : GO X md_Press_strokes (QE X rvI Z) 0 [some (rf (kG X) a0), some (.int v1), none, none, none, none] [] Z M (f_Press_strokes a0 v1 M) := by
  unfold f_Press_strokes
  refine g_aload_n e_Press_strokes_0 rfl ?_
  refine g_getRZ (kz := (a0 + 3)) e_Press_strokes_1 fl_Press_20 hz ha0 (by decide) fj_3_1 rfl ?_
  refine g_getI e_Press_strokes_4 fl_Press_34 (kk_3_3 ha0) (hz.lt (kk_3_3 ha0)) fj_4_1 ?_
  refine g_istoreL_n e_Press_strokes_7 (by decide) rfl (fun x1 => ?_)
  refine g_iconst (x := (0 : Int32)) e_Press_strokes_8 (by decide) ?_
  refine g_istore_n e_Press_strokes_9 (by decide) rfl ?_
  exact g_wq (t_Press_strokes_10 hz ha0 fuel v1 x1 (0 : Int32) M) ⟨rfl, rfl, rfl, rfl, trivial⟩
set_option maxHeartbeats 4000000 in
set_option maxRecDepth 20000 in
theorem c_Press_strokes {l : Launch} {G : KG} {Z : ZZ} {a0 : Nat} {v1 : Int32} {M M' : Mm} {r : Int32} (hz : FU Z) (ha0 : kD a0 = 3) (h : f_Press_strokes a0 v1 M = some (r, M')) : CT l G y_Press_strokes md_Press_strokes 0 0 [rf G a0, .int v1] Z.2.2.1 Z.2.2.2 M (rvI r) Z.2.2.1 Z.2.2.2 M' :=
  CT.of (Z := (0, 0, Z.2.2.1, Z.2.2.2)) (Z' := (0, 0, Z.2.2.1, Z.2.2.2)) 4 (by decide) rfl ⟨rfl, rfl⟩ (by show 2 ≤ 6; decide) rfl h (fun X _ hG => by subst hG; exact t_Press_strokes hz ha0)
set_option maxHeartbeats 4000000 in
set_option maxRecDepth 20000 in
theorem t_Press_dropSheet_39 {X : KX} {Z : ZZ} {a0 : Nat} {rec12 : Int32 → Int32 → Int32 → Mm → Option (Int32 × Mm)} (hz : FU Z) (ha0 : kD a0 = 3) (hr12 : ∀ (v1 : Int32) (v2 : Int32) (v3 : Int32) (M : Mm), GO X md_Press_dropSheet (QE X rvI Z) 12 [some (rf (kG X) a0), some (.int v1), some (.int v2), some (.int v3)] [] Z M (rec12 v1 v2 v3 M)) : ∀ (v1 : Int32) (v2 : Int32) (v3 : Int32) (M : Mm), GO X md_Press_dropSheet (QE X rvI Z) 39 [some (rf (kG X) a0), some (.int v1), some (.int v2), some (.int v3)] [] Z M (f_Press_dropSheet_39 a0 rec12 v1 v2 v3 M) := by
  intro v1 v2 v3 M
  unfold f_Press_dropSheet_39
  refine g_iincL (c := (-1 : Int32)) e_Press_dropSheet_39 rfl (by decide) (by decide) rfl (fun x8 => ?_)
  refine g_goto e_Press_dropSheet_42 ?_
  exact g_wq (hr12 v1 v2 x8 M) ⟨rfl, rfl, rfl, rfl, trivial⟩
set_option maxHeartbeats 4000000 in
set_option maxRecDepth 20000 in
theorem t_Press_dropSheet_12 {X : KX} {Z : ZZ} {a0 : Nat} (hz : FU Z) (ha0 : kD a0 = 3) : ∀ (n : Nat) (v1 : Int32) (v2 : Int32) (v3 : Int32) (M : Mm), GO X md_Press_dropSheet (QE X rvI Z) 12 [some (rf (kG X) a0), some (.int v1), some (.int v2), some (.int v3)] [] Z M (f_Press_dropSheet_12 a0 n v1 v2 v3 M) := by
  intro n
  induction n with
  | zero =>
    intro v1 v2 v3 M
    exact g_none
  | succ n ih =>
    intro v1 v2 v3 M
    rw [f_Press_dropSheet_12_s]
    refine g_iload_n e_Press_dropSheet_12 rfl ?_
    refine g_if_lt e_Press_dropSheet_13 (fun c3 => ?_) (fun c3 => ?_)
    · refine g_iload_n e_Press_dropSheet_45 rfl ?_
      refine g_aload_n e_Press_dropSheet_46 rfl ?_
      refine g_getRZ (kz := (a0 + 1)) e_Press_dropSheet_47 fl_Press_14 hz ha0 (by decide) fj_3_0 rfl ?_
      refine g_getI e_Press_dropSheet_50 fl_Press_34 (kk_3_1 ha0) (hz.lt (kk_3_1 ha0)) fj_4_1 ?_
      refine g_isub e_Press_dropSheet_53 ?_
      exact g_iret e_Press_dropSheet_54 rfl
    · refine g_aload_n e_Press_dropSheet_16 rfl ?_
      refine g_getRZ (kz := (a0 + 1)) e_Press_dropSheet_17 fl_Press_14 hz ha0 (by decide) fj_3_0 rfl ?_
      refine g_iload_n e_Press_dropSheet_20 rfl ?_
      refine g_callV (rv := rvI) (As := [.int v3]) (st := []) e_Press_dropSheet_21 mv_Press_38 my_Row_get (by decide) rfl rfl (kk_3_1 ha0) (hz.lt (kk_3_1 ha0)) rfl (Nat.le_of_ble_eq_true rfl) rfl (fun r M1 h => c_Row_get hz (kk_3_1 ha0) h) (fun r5 M4 h6 => ?_)
      refine g_bipush (x := (10 : Int32)) e_Press_dropSheet_24 (by decide) ?_
      refine g_idiv e_Press_dropSheet_26 (by decide) ?_
      refine g_iload_n e_Press_dropSheet_27 rfl ?_
      refine g_icmp_ne e_Press_dropSheet_28 (fun c7 => ?_) (fun c7 => ?_)
      · exact g_wq (t_Press_dropSheet_39 hz ha0 (ih) v1 v2 v3 M4) ⟨rfl, rfl, rfl, rfl, trivial⟩
      · refine g_aload_n e_Press_dropSheet_31 rfl ?_
        refine g_getRZ (kz := (a0 + 1)) e_Press_dropSheet_32 fl_Press_14 hz ha0 (by decide) fj_3_0 rfl ?_
        refine g_iload_n e_Press_dropSheet_35 rfl ?_
        refine g_callV (rv := rvU) (As := [.int v3]) (st := []) e_Press_dropSheet_36 mv_Press_42 my_Row_drop (by decide) rfl rfl (kk_3_1 ha0) (hz.lt (kk_3_1 ha0)) rfl (Nat.le_of_ble_eq_true rfl) rfl (fun r M1 h => c_Row_drop hz (kk_3_1 ha0) h) (fun r10 M9 h11 => ?_)
        exact g_wq (t_Press_dropSheet_39 hz ha0 (ih) v1 v2 v3 M9) ⟨rfl, rfl, rfl, rfl, trivial⟩
set_option maxHeartbeats 4000000 in
set_option maxRecDepth 20000 in
theorem t_Press_dropSheet {X : KX} {Z : ZZ} {a0 : Nat} {v1 : Int32} {M : Mm} (hz : FU Z) (ha0 : kD a0 = 3) : GO X md_Press_dropSheet (QE X rvI Z) 0 [some (rf (kG X) a0), some (.int v1), none, none] [] Z M (f_Press_dropSheet a0 v1 M) := by
  unfold f_Press_dropSheet
  refine g_aload_n e_Press_dropSheet_0 rfl ?_
  refine g_getRZ (kz := (a0 + 1)) e_Press_dropSheet_1 fl_Press_14 hz ha0 (by decide) fj_3_0 rfl ?_
  refine g_getI e_Press_dropSheet_4 fl_Press_34 (kk_3_1 ha0) (hz.lt (kk_3_1 ha0)) fj_4_1 ?_
  refine g_istoreL_n e_Press_dropSheet_7 (by decide) rfl (fun x1 => ?_)
  refine g_iload_n e_Press_dropSheet_8 rfl ?_
  refine g_iconst (x := (1 : Int32)) e_Press_dropSheet_9 (by decide) ?_
  refine g_isub e_Press_dropSheet_10 ?_
  refine g_istoreL_n e_Press_dropSheet_11 (by decide) rfl (fun x2 => ?_)
  exact g_wq (t_Press_dropSheet_12 hz ha0 fuel v1 x1 x2 M) ⟨rfl, rfl, rfl, rfl, trivial⟩
set_option maxHeartbeats 4000000 in
set_option maxRecDepth 20000 in
theorem c_Press_dropSheet {l : Launch} {G : KG} {Z : ZZ} {a0 : Nat} {v1 : Int32} {M M' : Mm} {r : Int32} (hz : FU Z) (ha0 : kD a0 = 3) (h : f_Press_dropSheet a0 v1 M = some (r, M')) : CT l G y_Press_dropSheet md_Press_dropSheet 0 0 [rf G a0, .int v1] Z.2.2.1 Z.2.2.2 M (rvI r) Z.2.2.1 Z.2.2.2 M' :=
  CT.of (Z := (0, 0, Z.2.2.1, Z.2.2.2)) (Z' := (0, 0, Z.2.2.1, Z.2.2.2)) 2 (by decide) rfl ⟨rfl, rfl⟩ (by show 2 ≤ 4; decide) rfl h (fun X _ hG => by subst hG; exact t_Press_dropSheet hz ha0)
set_option maxHeartbeats 4000000 in
set_option maxRecDepth 20000 in
theorem t_Spot_forme {X : KX} {Z : ZZ} {a0 : Nat} {M : Mm} (hz : FU Z) (ha0 : kD a0 = 5) : GO X md_Spot_forme (QE X rvI Z) 0 [some (rf (kG X) a0)] [] Z M (f_Spot_forme a0 M) := by
  unfold f_Spot_forme
  refine g_bipush (x := (10 : Int32)) e_Spot_forme_0 (by decide) ?_
  refine g_aload_n e_Spot_forme_2 rfl ?_
  refine g_getI e_Spot_forme_3 fl_Spot_19 ha0 (hz.lt ha0) fj_5_0 ?_
  refine g_imul e_Spot_forme_6 ?_
  refine g_aload_n e_Spot_forme_7 rfl ?_
  refine g_getI e_Spot_forme_8 fl_Spot_40 ha0 (hz.lt ha0) fj_5_2 ?_
  refine g_iadd e_Spot_forme_11 ?_
  exact g_iret e_Spot_forme_12 rfl
set_option maxHeartbeats 4000000 in
set_option maxRecDepth 20000 in
theorem c_Spot_forme {l : Launch} {G : KG} {Z : ZZ} {a0 : Nat} {M M' : Mm} {r : Int32} (hz : FU Z) (ha0 : kD a0 = 5) (h : f_Spot_forme a0 M = some (r, M')) : CT l G y_Spot_forme md_Spot_forme 0 0 [rf G a0] Z.2.2.1 Z.2.2.2 M (rvI r) Z.2.2.1 Z.2.2.2 M' :=
  CT.of (Z := (0, 0, Z.2.2.1, Z.2.2.2)) (Z' := (0, 0, Z.2.2.1, Z.2.2.2)) 0 (by decide) rfl ⟨rfl, rfl⟩ (by show 1 ≤ 1; decide) rfl h (fun X _ hG => by subst hG; exact t_Spot_forme hz ha0)
set_option maxHeartbeats 4000000 in
set_option maxRecDepth 20000 in
theorem t_State_copy {X : KX} {Z : ZZ} {a0 : Nat} {a1 : Nat} {M : Mm} (hz : FU Z) (ha0 : kD a0 = 6) (ha1 : kD a1 = 6) : GO X md_State_copy (QE X rvU Z) 0 [some (rf (kG X) a0), some (rf (kG X) a1)] [] Z M (f_State_copy a0 a1 M) := by
  unfold f_State_copy
  refine g_aload_n e_State_copy_0 rfl ?_
  refine g_getRZ (kz := (a0 + 1)) e_State_copy_1 fl_State_12 hz ha0 (by decide) fj_6_0 rfl ?_
  refine g_aload_n e_State_copy_4 rfl ?_
  refine g_getRZ (kz := (a1 + 1)) e_State_copy_5 fl_State_12 hz ha1 (by decide) fj_6_0 rfl ?_
  refine g_callV (rv := rvU) (As := [rf (kG X) (a1 + 1)]) (st := []) e_State_copy_8 mv_State_50 my_Job_copy (by decide) rfl rfl (kk_6_1 ha0) (hz.lt (kk_6_1 ha0)) rfl (Nat.le_of_ble_eq_true rfl) rfl (fun r M1 h => c_Job_copy hz (kk_6_1 ha0) (kk_6_1 ha1) h) (fun r2 M1 h3 => ?_)
  refine g_aload_n e_State_copy_11 rfl ?_
  refine g_getRZ (kz := (a0 + 4)) e_State_copy_12 fl_State_21 hz ha0 (by decide) fj_6_1 rfl ?_
  refine g_aload_n e_State_copy_15 rfl ?_
  refine g_getRZ (kz := (a1 + 4)) e_State_copy_16 fl_State_21 hz ha1 (by decide) fj_6_1 rfl ?_
  refine g_callV (rv := rvU) (As := [rf (kG X) (a1 + 4)]) (st := []) e_State_copy_19 mv_State_54 my_Press_copy (by decide) rfl rfl (kk_6_4 ha0) (hz.lt (kk_6_4 ha0)) rfl (Nat.le_of_ble_eq_true rfl) rfl (fun r M1 h => c_Press_copy hz (kk_6_4 ha0) (kk_6_4 ha1) h) (fun r5 M4 h6 => ?_)
  refine g_aload_n e_State_copy_22 rfl ?_
  refine g_getRZ (kz := (a0 + 9)) e_State_copy_23 fl_State_28 hz ha0 (by decide) fj_6_2 rfl ?_
  refine g_aload_n e_State_copy_26 rfl ?_
  refine g_getRZ (kz := (a1 + 9)) e_State_copy_27 fl_State_28 hz ha1 (by decide) fj_6_2 rfl ?_
  refine g_callV (rv := rvU) (As := [rf (kG X) (a1 + 9)]) (st := []) e_State_copy_30 mv_State_57 my_Plan_copy (by decide) rfl rfl (kk_6_9 ha0) (hz.lt (kk_6_9 ha0)) rfl (Nat.le_of_ble_eq_true rfl) rfl (fun r M1 h => c_Plan_copy hz (kk_6_9 ha0) (kk_6_9 ha1) h) (fun r8 M7 h9 => ?_)
  refine g_aload_n e_State_copy_33 rfl ?_
  refine g_getRZ (kz := (a0 + 18)) e_State_copy_34 fl_State_37 hz ha0 (by decide) fj_6_3 rfl ?_
  refine g_aload_n e_State_copy_37 rfl ?_
  refine g_getRZ (kz := (a1 + 18)) e_State_copy_38 fl_State_37 hz ha1 (by decide) fj_6_3 rfl ?_
  refine g_callV (rv := rvU) (As := [rf (kG X) (a1 + 18)]) (st := []) e_State_copy_41 mv_State_60 my_Row_copy (by decide) rfl rfl (kk_6_18 ha0) (hz.lt (kk_6_18 ha0)) rfl (Nat.le_of_ble_eq_true rfl) rfl (fun r M1 h => c_Row_copy hz (kk_6_18 ha0) (kk_6_18 ha1) h) (fun r11 M10 h12 => ?_)
  refine g_aload_n e_State_copy_44 rfl ?_
  refine g_getRZ (kz := (a0 + 20)) e_State_copy_45 fl_State_41 hz ha0 (by decide) fj_6_4 rfl ?_
  refine g_aload_n e_State_copy_48 rfl ?_
  refine g_getRZ (kz := (a1 + 20)) e_State_copy_49 fl_State_41 hz ha1 (by decide) fj_6_4 rfl ?_
  refine g_callV (rv := rvU) (As := [rf (kG X) (a1 + 20)]) (st := []) e_State_copy_52 mv_State_60 my_Row_copy (by decide) rfl rfl (kk_6_20 ha0) (hz.lt (kk_6_20 ha0)) rfl (Nat.le_of_ble_eq_true rfl) rfl (fun r M1 h => c_Row_copy hz (kk_6_20 ha0) (kk_6_20 ha1) h) (fun r14 M13 h15 => ?_)
  refine g_aload_n e_State_copy_55 rfl ?_
  refine g_getRZ (kz := (a0 + 22)) e_State_copy_56 fl_State_44 hz ha0 (by decide) fj_6_5 rfl ?_
  refine g_aload_n e_State_copy_59 rfl ?_
  refine g_getRZ (kz := (a1 + 22)) e_State_copy_60 fl_State_44 hz ha1 (by decide) fj_6_5 rfl ?_
  refine g_callV (rv := rvU) (As := [rf (kG X) (a1 + 22)]) (st := []) e_State_copy_63 mv_State_60 my_Row_copy (by decide) rfl rfl (kk_6_22 ha0) (hz.lt (kk_6_22 ha0)) rfl (Nat.le_of_ble_eq_true rfl) rfl (fun r M1 h => c_Row_copy hz (kk_6_22 ha0) (kk_6_22 ha1) h) (fun r17 M16 h18 => ?_)
  refine g_aload_n e_State_copy_66 rfl ?_
  refine g_getRZ (kz := (a0 + 24)) e_State_copy_67 fl_State_47 hz ha0 (by decide) fj_6_6 rfl ?_
  refine g_aload_n e_State_copy_70 rfl ?_
  refine g_getRZ (kz := (a1 + 24)) e_State_copy_71 fl_State_47 hz ha1 (by decide) fj_6_6 rfl ?_
  refine g_callV (rv := rvU) (As := [rf (kG X) (a1 + 24)]) (st := []) e_State_copy_74 mv_State_60 my_Row_copy (by decide) rfl rfl (kk_6_24 ha0) (hz.lt (kk_6_24 ha0)) rfl (Nat.le_of_ble_eq_true rfl) rfl (fun r M1 h => c_Row_copy hz (kk_6_24 ha0) (kk_6_24 ha1) h) (fun r20 M19 h21 => ?_)
  exact g_vret e_State_copy_77 rfl
set_option maxHeartbeats 4000000 in
set_option maxRecDepth 20000 in
theorem c_State_copy {l : Launch} {G : KG} {Z : ZZ} {a0 : Nat} {a1 : Nat} {M M' : Mm} {r : Unit} (hz : FU Z) (ha0 : kD a0 = 6) (ha1 : kD a1 = 6) (h : f_State_copy a0 a1 M = some (r, M')) : CT l G y_State_copy md_State_copy 0 0 [rf G a0, rf G a1] Z.2.2.1 Z.2.2.2 M (rvU r) Z.2.2.1 Z.2.2.2 M' :=
  CT.of (Z := (0, 0, Z.2.2.1, Z.2.2.2)) (Z' := (0, 0, Z.2.2.1, Z.2.2.2)) 0 (by decide) rfl ⟨rfl, rfl⟩ (by show 2 ≤ 2; decide) rfl h (fun X _ hG => by subst hG; exact t_State_copy hz ha0 ha1)
set_option maxHeartbeats 4000000 in
set_option maxRecDepth 20000 in
theorem t_State_pagesMove {X : KX} {Z : ZZ} {a0 : Nat} {M : Mm} (hz : FU Z) (ha0 : kD a0 = 6) : GO X md_State_pagesMove (QE X rvU Z) 0 [some (rf (kG X) a0)] [] Z M (f_State_pagesMove a0 M) := by
  unfold f_State_pagesMove
  refine g_aload_n e_State_pagesMove_0 rfl ?_
  refine g_getRZ (kz := (a0 + 4)) e_State_pagesMove_1 fl_State_21 hz ha0 (by decide) fj_6_1 rfl ?_
  refine g_callV (rv := rvU) (As := []) (st := []) e_State_pagesMove_4 mv_State_63 my_Press_clear (by decide) rfl rfl (kk_6_4 ha0) (hz.lt (kk_6_4 ha0)) rfl (Nat.le_of_ble_eq_true rfl) rfl (fun r M1 h => c_Press_clear hz (kk_6_4 ha0) h) (fun r2 M1 h3 => ?_)
  refine g_aload_n e_State_pagesMove_7 rfl ?_
  refine g_getRZ (kz := (a0 + 9)) e_State_pagesMove_8 fl_State_28 hz ha0 (by decide) fj_6_2 rfl ?_
  refine g_callV (rv := rvU) (As := []) (st := []) e_State_pagesMove_11 mv_State_66 my_Plan_clear (by decide) rfl rfl (kk_6_9 ha0) (hz.lt (kk_6_9 ha0)) rfl (Nat.le_of_ble_eq_true rfl) rfl (fun r M1 h => c_Plan_clear hz (kk_6_9 ha0) h) (fun r5 M4 h6 => ?_)
  exact g_vret e_State_pagesMove_14 rfl
set_option maxHeartbeats 4000000 in
set_option maxRecDepth 20000 in
theorem c_State_pagesMove {l : Launch} {G : KG} {Z : ZZ} {a0 : Nat} {M M' : Mm} {r : Unit} (hz : FU Z) (ha0 : kD a0 = 6) (h : f_State_pagesMove a0 M = some (r, M')) : CT l G y_State_pagesMove md_State_pagesMove 0 0 [rf G a0] Z.2.2.1 Z.2.2.2 M (rvU r) Z.2.2.1 Z.2.2.2 M' :=
  CT.of (Z := (0, 0, Z.2.2.1, Z.2.2.2)) (Z' := (0, 0, Z.2.2.1, Z.2.2.2)) 0 (by decide) rfl ⟨rfl, rfl⟩ (by show 1 ≤ 1; decide) rfl h (fun X _ hG => by subst hG; exact t_State_pagesMove hz ha0)
set_option maxHeartbeats 4000000 in
set_option maxRecDepth 20000 in
theorem t_State_refold {X : KX} {Z : ZZ} {a0 : Nat} {v1 : Int32} {M : Mm} (hz : FU Z) (ha0 : kD a0 = 6) : GO X md_State_refold (QE X rvI Z) 0 [some (rf (kG X) a0), some (.int v1), none] [] Z M (f_State_refold a0 v1 M) := by
  unfold f_State_refold
  refine g_iload_n e_State_refold_0 rfl ?_
  refine g_callS (rv := rvI) (As := [.int v1]) (st := []) e_State_refold_1 ms_State_67 my_Job_figuresOf (by decide) rfl rfl (Nat.le_of_ble_eq_true rfl) (fun r M1 h => c_Job_figuresOf hz  h) (fun r2 M1 h3 => ?_)
  refine g_if_ne e_State_refold_4 (fun c4 => ?_) (fun c4 => ?_)
  · refine g_aload_n e_State_refold_10 rfl ?_
    refine g_getRZ (kz := (a0 + 1)) e_State_refold_11 fl_State_12 hz ha0 (by decide) fj_6_0 rfl ?_
    refine g_callV (rv := rvI) (As := []) (st := []) e_State_refold_14 mv_State_71 my_Job_word (by decide) rfl rfl (kk_6_1 ha0) (hz.lt (kk_6_1 ha0)) rfl (Nat.le_of_ble_eq_true rfl) rfl (fun r M1 h => c_Job_word hz (kk_6_1 ha0) h) (fun r6 M5 h7 => ?_)
    refine g_istore_n e_State_refold_17 (by decide) rfl ?_
    refine g_iload_n e_State_refold_18 rfl ?_
    refine g_iload_n e_State_refold_19 rfl ?_
    refine g_icmp_eq e_State_refold_20 (fun c8 => ?_) (fun c8 => ?_)
    · refine g_iload_n e_State_refold_35 rfl ?_
      exact g_iret e_State_refold_36 rfl
    · refine g_aload_n e_State_refold_23 rfl ?_
      refine g_getRZ (kz := (a0 + 1)) e_State_refold_24 fl_State_12 hz ha0 (by decide) fj_6_0 rfl ?_
      refine g_iload_n e_State_refold_27 rfl ?_
      refine g_callV (rv := rvU) (As := [.int v1]) (st := []) e_State_refold_28 mv_State_75 my_Job_foldByWord (by decide) rfl rfl (kk_6_1 ha0) (hz.lt (kk_6_1 ha0)) rfl (Nat.le_of_ble_eq_true rfl) rfl (fun r M1 h => c_Job_foldByWord hz (kk_6_1 ha0) h) (fun r10 M9 h11 => ?_)
      refine g_aload_n e_State_refold_31 rfl ?_
      refine g_callV (rv := rvU) (As := []) (st := []) e_State_refold_32 mv_State_78 my_State_pagesMove (by decide) rfl rfl ha0 (hz.lt ha0) rfl (Nat.le_of_ble_eq_true rfl) rfl (fun r M1 h => c_State_pagesMove hz ha0 h) (fun r13 M12 h14 => ?_)
      refine g_iload_n e_State_refold_35 rfl ?_
      exact g_iret e_State_refold_36 rfl
  · refine g_bipush (x := (-2 : Int32)) e_State_refold_7 (by decide) ?_
    exact g_iret e_State_refold_9 rfl
set_option maxHeartbeats 4000000 in
set_option maxRecDepth 20000 in
theorem c_State_refold {l : Launch} {G : KG} {Z : ZZ} {a0 : Nat} {v1 : Int32} {M M' : Mm} {r : Int32} (hz : FU Z) (ha0 : kD a0 = 6) (h : f_State_refold a0 v1 M = some (r, M')) : CT l G y_State_refold md_State_refold 0 0 [rf G a0, .int v1] Z.2.2.1 Z.2.2.2 M (rvI r) Z.2.2.1 Z.2.2.2 M' :=
  CT.of (Z := (0, 0, Z.2.2.1, Z.2.2.2)) (Z' := (0, 0, Z.2.2.1, Z.2.2.2)) 1 (by decide) rfl ⟨rfl, rfl⟩ (by show 2 ≤ 3; decide) rfl h (fun X _ hG => by subst hG; exact t_State_refold hz ha0)
set_option maxHeartbeats 4000000 in
set_option maxRecDepth 20000 in
theorem t_State_settle {X : KX} {Z : ZZ} {a0 : Nat} {v1 : Int32} {v2 : Int32} {M : Mm} (hz : FU Z) (ha0 : kD a0 = 6) : GO X md_State_settle (QE X rvI Z) 0 [some (rf (kG X) a0), some (.int v1), some (.int v2), none] [] Z M (f_State_settle a0 v1 v2 M) := by
  unfold f_State_settle
  refine g_iload_n e_State_settle_0 rfl ?_
  refine g_if_lt e_State_settle_1 (fun c1 => ?_) (fun c1 => ?_)
  · refine g_iconst (x := (-1 : Int32)) e_State_settle_9 (by decide) ?_
    exact g_iret e_State_settle_10 rfl
  · refine g_iload_n e_State_settle_4 rfl ?_
    refine g_iconst (x := (4 : Int32)) e_State_settle_5 (by decide) ?_
    refine g_icmp_le e_State_settle_6 (fun c2 => ?_) (fun c2 => ?_)
    · refine g_iload_n e_State_settle_11 rfl ?_
      refine g_iload_n e_State_settle_12 rfl ?_
      refine g_callS (rv := rvI) (As := [.int v1, .int v2]) (st := []) e_State_settle_13 ms_State_81 my_Job_allows (by decide) rfl rfl (Nat.le_of_ble_eq_true rfl) (fun r M1 h => c_Job_allows hz  h) (fun r4 M3 h5 => ?_)
      refine g_if_ne e_State_settle_16 (fun c6 => ?_) (fun c6 => ?_)
      · refine g_aload_n e_State_settle_22 rfl ?_
        refine g_getRZ (kz := (a0 + 1)) e_State_settle_23 fl_State_12 hz ha0 (by decide) fj_6_0 rfl ?_
        refine g_iload_n e_State_settle_26 rfl ?_
        refine g_callV (rv := rvI) (As := [.int v1]) (st := []) e_State_settle_27 mv_State_85 my_Job_value (by decide) rfl rfl (kk_6_1 ha0) (hz.lt (kk_6_1 ha0)) rfl (Nat.le_of_ble_eq_true rfl) rfl (fun r M1 h => c_Job_value hz (kk_6_1 ha0) h) (fun r8 M7 h9 => ?_)
        refine g_istore_n e_State_settle_30 (by decide) rfl ?_
        refine g_aload_n e_State_settle_31 rfl ?_
        refine g_getRZ (kz := (a0 + 1)) e_State_settle_32 fl_State_12 hz ha0 (by decide) fj_6_0 rfl ?_
        refine g_iload_n e_State_settle_35 rfl ?_
        refine g_iload_n e_State_settle_36 rfl ?_
        refine g_callV (rv := rvU) (As := [.int v1, .int v2]) (st := []) e_State_settle_37 mv_State_88 my_Job_putValue (by decide) rfl rfl (kk_6_1 ha0) (hz.lt (kk_6_1 ha0)) rfl (Nat.le_of_ble_eq_true rfl) rfl (fun r M1 h => c_Job_putValue hz (kk_6_1 ha0) h) (fun r11 M10 h12 => ?_)
        refine g_iload_n e_State_settle_40 rfl ?_
        refine g_iconst (x := (2 : Int32)) e_State_settle_41 (by decide) ?_
        refine g_icmp_gt e_State_settle_42 (fun c13 => ?_) (fun c13 => ?_)
        · refine g_iload_n e_State_settle_54 rfl ?_
          exact g_iret e_State_settle_55 rfl
        · refine g_iload_n e_State_settle_45 rfl ?_
          refine g_iload_n e_State_settle_46 rfl ?_
          refine g_icmp_eq e_State_settle_47 (fun c14 => ?_) (fun c14 => ?_)
          · refine g_iload_n e_State_settle_54 rfl ?_
            exact g_iret e_State_settle_55 rfl
          · refine g_aload_n e_State_settle_50 rfl ?_
            refine g_callV (rv := rvU) (As := []) (st := []) e_State_settle_51 mv_State_78 my_State_pagesMove (by decide) rfl rfl ha0 (hz.lt ha0) rfl (Nat.le_of_ble_eq_true rfl) rfl (fun r M1 h => c_State_pagesMove hz ha0 h) (fun r16 M15 h17 => ?_)
            refine g_iload_n e_State_settle_54 rfl ?_
            exact g_iret e_State_settle_55 rfl
      · refine g_bipush (x := (-2 : Int32)) e_State_settle_19 (by decide) ?_
        exact g_iret e_State_settle_21 rfl
    · refine g_iconst (x := (-1 : Int32)) e_State_settle_9 (by decide) ?_
      exact g_iret e_State_settle_10 rfl
set_option maxHeartbeats 4000000 in
set_option maxRecDepth 20000 in
theorem c_State_settle {l : Launch} {G : KG} {Z : ZZ} {a0 : Nat} {v1 : Int32} {v2 : Int32} {M M' : Mm} {r : Int32} (hz : FU Z) (ha0 : kD a0 = 6) (h : f_State_settle a0 v1 v2 M = some (r, M')) : CT l G y_State_settle md_State_settle 0 0 [rf G a0, .int v1, .int v2] Z.2.2.1 Z.2.2.2 M (rvI r) Z.2.2.1 Z.2.2.2 M' :=
  CT.of (Z := (0, 0, Z.2.2.1, Z.2.2.2)) (Z' := (0, 0, Z.2.2.1, Z.2.2.2)) 1 (by decide) rfl ⟨rfl, rfl⟩ (by show 3 ≤ 4; decide) rfl h (fun X _ hG => by subst hG; exact t_State_settle hz ha0)
set_option maxHeartbeats 4000000 in
set_option maxRecDepth 20000 in
theorem t_State_queue {X : KX} {Z : ZZ} {a0 : Nat} {v1 : Int32} {M : Mm} (hz : FU Z) (ha0 : kD a0 = 6) : GO X md_State_queue (QE X rvI Z) 0 [some (rf (kG X) a0), some (.int v1)] [] Z M (f_State_queue a0 v1 M) := by
  unfold f_State_queue
  refine g_aload_n e_State_queue_0 rfl ?_
  refine g_getRZ (kz := (a0 + 1)) e_State_queue_1 fl_State_12 hz ha0 (by decide) fj_6_0 rfl ?_
  refine g_iload_n e_State_queue_4 rfl ?_
  refine g_callV (rv := rvI) (As := [.int v1]) (st := []) e_State_queue_5 mv_State_92 my_Job_hasForme (by decide) rfl rfl (kk_6_1 ha0) (hz.lt (kk_6_1 ha0)) rfl (Nat.le_of_ble_eq_true rfl) rfl (fun r M1 h => c_Job_hasForme hz (kk_6_1 ha0) h) (fun r2 M1 h3 => ?_)
  refine g_if_ne e_State_queue_8 (fun c4 => ?_) (fun c4 => ?_)
  · refine g_aload_n e_State_queue_13 rfl ?_
    refine g_getRZ (kz := (a0 + 4)) e_State_queue_14 fl_State_21 hz ha0 (by decide) fj_6_1 rfl ?_
    refine g_iload_n e_State_queue_17 rfl ?_
    refine g_callV (rv := rvI) (As := [.int v1]) (st := []) e_State_queue_18 mv_State_96 my_Press_holds (by decide) rfl rfl (kk_6_4 ha0) (hz.lt (kk_6_4 ha0)) rfl (Nat.le_of_ble_eq_true rfl) rfl (fun r M1 h => c_Press_holds hz (kk_6_4 ha0) h) (fun r6 M5 h7 => ?_)
    refine g_if_eq e_State_queue_21 (fun c8 => ?_) (fun c8 => ?_)
    · refine g_aload_n e_State_queue_27 rfl ?_
      refine g_getRZ (kz := (a0 + 4)) e_State_queue_28 fl_State_21 hz ha0 (by decide) fj_6_1 rfl ?_
      refine g_getRZ (kz := (a0 + 5)) e_State_queue_31 fl_State_99 hz (kk_6_4 ha0) (by decide) fj_3_0 rfl ?_
      refine g_iload_n e_State_queue_34 rfl ?_
      refine g_callV (rv := rvI) (As := [.int v1]) (st := []) e_State_queue_35 mv_State_102 my_Row_add (by decide) rfl rfl (kk_3_1 (kk_6_4 ha0)) (hz.lt (kk_3_1 (kk_6_4 ha0))) rfl (Nat.le_of_ble_eq_true rfl) rfl (fun r M1 h => c_Row_add hz (kk_3_1 (kk_6_4 ha0)) h) (fun r10 M9 h11 => ?_)
      refine g_phi1 56 (fun x13 => [none, none]) (fun x13 => [.int x13]) (fun x13 => ?_) (fun hj14 => ?_)
      · show GO X _ _ 56 [none, none] [.int x13] Z M9 _
        exact g_iret e_State_queue_56 rfl
      · refine g_if_eq' e_State_queue_38 (fun c12 => ?_) (fun c12 => ?_)
        · refine g_bipush (x := (-4 : Int32)) e_State_queue_54 (by decide) ?_
          exact (g_pt c12 (g_lt (g_wq (hj14 (-4 : Int32)) trivial)))
        · refine g_aload_n e_State_queue_41 rfl ?_
          refine g_getRZ (kz := (a0 + 4)) e_State_queue_42 fl_State_21 hz ha0 (by decide) fj_6_1 rfl ?_
          refine g_getRZ (kz := (a0 + 5)) e_State_queue_45 fl_State_99 hz (kk_6_4 ha0) (by decide) fj_3_0 rfl ?_
          refine g_getI e_State_queue_48 fl_State_105 (kk_3_1 (kk_6_4 ha0)) (hz.lt (kk_3_1 (kk_6_4 ha0))) fj_4_1 ?_
          refine g_goto e_State_queue_51 ?_
          exact (g_pf c12 (g_lt (g_wq (hj14 (M9.1 (a0 + 5) 1)) trivial)))
    · refine g_bipush (x := (-3 : Int32)) e_State_queue_24 (by decide) ?_
      exact g_iret e_State_queue_26 rfl
  · refine g_iconst (x := (-1 : Int32)) e_State_queue_11 (by decide) ?_
    exact g_iret e_State_queue_12 rfl
set_option maxHeartbeats 4000000 in
set_option maxRecDepth 20000 in
theorem c_State_queue {l : Launch} {G : KG} {Z : ZZ} {a0 : Nat} {v1 : Int32} {M M' : Mm} {r : Int32} (hz : FU Z) (ha0 : kD a0 = 6) (h : f_State_queue a0 v1 M = some (r, M')) : CT l G y_State_queue md_State_queue 0 0 [rf G a0, .int v1] Z.2.2.1 Z.2.2.2 M (rvI r) Z.2.2.1 Z.2.2.2 M' :=
  CT.of (Z := (0, 0, Z.2.2.1, Z.2.2.2)) (Z' := (0, 0, Z.2.2.1, Z.2.2.2)) 0 (by decide) rfl ⟨rfl, rfl⟩ (by show 2 ≤ 2; decide) rfl h (fun X _ hG => by subst hG; exact t_State_queue hz ha0)
set_option maxHeartbeats 4000000 in
set_option maxRecDepth 20000 in
theorem t_State_hasPrinted {X : KX} {Z : ZZ} {a0 : Nat} {v1 : Int32} {M : Mm} (hz : FU Z) (ha0 : kD a0 = 6) : GO X md_State_hasPrinted (QE X rvI Z) 0 [some (rf (kG X) a0), some (.int v1)] [] Z M (f_State_hasPrinted a0 v1 M) := by
  unfold f_State_hasPrinted
  refine g_aload_n e_State_hasPrinted_0 rfl ?_
  refine g_getRZ (kz := (a0 + 1)) e_State_hasPrinted_1 fl_State_12 hz ha0 (by decide) fj_6_0 rfl ?_
  refine g_getRZ (kz := (a0 + 3)) e_State_hasPrinted_4 fl_State_109 hz (kk_6_1 ha0) (by decide) fj_0_10 rfl ?_
  refine g_aload_n e_State_hasPrinted_7 rfl ?_
  refine g_getRZ (kz := (a0 + 1)) e_State_hasPrinted_8 fl_State_12 hz ha0 (by decide) fj_6_0 rfl ?_
  refine g_iload_n e_State_hasPrinted_11 rfl ?_
  refine g_callV (rv := rvU) (As := [rf (kG X) (a0 + 1), .int v1]) (st := []) e_State_hasPrinted_12 mv_State_113 my_Spot_find (by decide) rfl rfl (kk_0_2 (kk_6_1 ha0)) (hz.lt (kk_0_2 (kk_6_1 ha0))) rfl (Nat.le_of_ble_eq_true rfl) rfl (fun r M1 h => c_Spot_find hz (kk_0_2 (kk_6_1 ha0)) (kk_6_1 ha0) h) (fun r2 M1 h3 => ?_)
  refine g_aload_n e_State_hasPrinted_15 rfl ?_
  refine g_getRZ (kz := (a0 + 4)) e_State_hasPrinted_16 fl_State_21 hz ha0 (by decide) fj_6_1 rfl ?_
  refine g_getRZ (kz := (a0 + 7)) e_State_hasPrinted_19 fl_State_119 hz (kk_6_4 ha0) (by decide) fj_3_1 rfl ?_
  refine g_aload_n e_State_hasPrinted_22 rfl ?_
  refine g_getRZ (kz := (a0 + 1)) e_State_hasPrinted_23 fl_State_12 hz ha0 (by decide) fj_6_0 rfl ?_
  refine g_getRZ (kz := (a0 + 3)) e_State_hasPrinted_26 fl_State_109 hz (kk_6_1 ha0) (by decide) fj_0_10 rfl ?_
  refine g_callV (rv := rvI) (As := []) (st := [rf (kG X) (a0 + 7)]) e_State_hasPrinted_29 mv_State_122 my_Spot_forme (by decide) rfl rfl (kk_0_2 (kk_6_1 ha0)) (hz.lt (kk_0_2 (kk_6_1 ha0))) rfl (Nat.le_of_ble_eq_true rfl) rfl (fun r M1 h => c_Spot_forme hz (kk_0_2 (kk_6_1 ha0)) h) (fun r5 M4 h6 => ?_)
  refine g_iconst (x := (0 : Int32)) e_State_hasPrinted_32 (by decide) ?_
  refine g_callV (rv := rvI) (As := [.int r5, .int (0 : Int32)]) (st := []) e_State_hasPrinted_33 mv_State_125 my_Row_find (by decide) rfl rfl (kk_3_3 (kk_6_4 ha0)) (hz.lt (kk_3_3 (kk_6_4 ha0))) rfl (Nat.le_of_ble_eq_true rfl) rfl (fun r M1 h => c_Row_find hz (kk_3_3 (kk_6_4 ha0)) h) (fun r8 M7 h9 => ?_)
  refine g_if_lt e_State_hasPrinted_36 (fun c10 => ?_) (fun c10 => ?_)
  · refine g_iconst (x := (0 : Int32)) e_State_hasPrinted_43 (by decide) ?_
    exact g_zret e_State_hasPrinted_44 rfl (by decide)
  · refine g_iconst (x := (1 : Int32)) e_State_hasPrinted_39 (by decide) ?_
    refine g_goto e_State_hasPrinted_40 ?_
    exact g_zret e_State_hasPrinted_44 rfl (by decide)
set_option maxHeartbeats 4000000 in
set_option maxRecDepth 20000 in
theorem c_State_hasPrinted {l : Launch} {G : KG} {Z : ZZ} {a0 : Nat} {v1 : Int32} {M M' : Mm} {r : Int32} (hz : FU Z) (ha0 : kD a0 = 6) (h : f_State_hasPrinted a0 v1 M = some (r, M')) : CT l G y_State_hasPrinted md_State_hasPrinted 0 0 [rf G a0, .int v1] Z.2.2.1 Z.2.2.2 M (rvI r) Z.2.2.1 Z.2.2.2 M' :=
  CT.of (Z := (0, 0, Z.2.2.1, Z.2.2.2)) (Z' := (0, 0, Z.2.2.1, Z.2.2.2)) 0 (by decide) rfl ⟨rfl, rfl⟩ (by show 2 ≤ 2; decide) rfl h (fun X _ hG => by subst hG; exact t_State_hasPrinted hz ha0)
