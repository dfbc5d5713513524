set_option maxHeartbeats 4000000 in
set_option maxRecDepth 20000 in
theorem t_Job_figure {X : KX} {Z : ZZ} {a0 : Nat} {v1 : Int32} {M : Mm} (hn0 : a0 < Z.2.2.1) (ha0 : kD a0 = 0) : GO X md_Job_figure (QE X rvI Z) 0 [some (rf (kG X) a0), some (.int v1)] [] Z M (f_Job_figure a0 v1 M) := by
  unfold f_Job_figure
  refine g_aload_n e_Job_figure_0 rfl ?_
  refine g_getI e_Job_figure_1 fl_Job_42 ha0 hn0 fj_0_1 ?_
  refine g_iconst (x := (2 : Int32)) e_Job_figure_4 (by decide) ?_
  refine g_aload_n e_Job_figure_5 rfl ?_
  refine g_getI e_Job_figure_6 fl_Job_39 ha0 hn0 fj_0_0 ?_
  refine g_iconst (x := (1 : Int32)) e_Job_figure_9 (by decide) ?_
  refine g_isub e_Job_figure_10 ?_
  refine g_iload_n e_Job_figure_11 rfl ?_
  refine g_isub e_Job_figure_12 ?_
  refine g_imul e_Job_figure_13 ?_
  refine g_ishr e_Job_figure_14 ?_
  refine g_iconst (x := (3 : Int32)) e_Job_figure_15 (by decide) ?_
  refine g_iand e_Job_figure_16 ?_
  refine g_iconst (x := (1 : Int32)) e_Job_figure_17 (by decide) ?_
  refine g_iadd e_Job_figure_18 ?_
  exact g_iret e_Job_figure_19 rfl
set_option maxHeartbeats 4000000 in
set_option maxRecDepth 20000 in
theorem c_Job_figure {l : Launch} {G : KG} {Z : ZZ} {a0 : Nat} {v1 : Int32} {M M' : Mm} {r : Int32} (hn0 : a0 < Z.2.2.1) (ha0 : kD a0 = 0) (h : f_Job_figure a0 v1 M = some (r, M')) : CT l G y_Job_figure md_Job_figure 0 0 [rf G a0, .int v1] Z.2.2.1 Z.2.2.2 M (rvI r) Z.2.2.1 Z.2.2.2 M' :=
  CT.of (Z := (0, 0, Z.2.2.1, Z.2.2.2)) (Z' := (0, 0, Z.2.2.1, Z.2.2.2)) 0 (by decide) rfl ⟨rfl, rfl⟩ (by show 2 ≤ 2; decide) rfl h (fun X _ hG => by subst hG; exact t_Job_figure hn0 ha0)
set_option maxHeartbeats 4000000 in
set_option maxRecDepth 20000 in
theorem t_Job_isAcross {X : KX} {Z : ZZ} {v0 : Int32} {M : Mm} : GO X md_Job_isAcross (QE X rvI Z) 0 [some (.int v0)] [] Z M (f_Job_isAcross v0 M) := by
  unfold f_Job_isAcross
  refine g_iload_n e_Job_isAcross_0 rfl ?_
  refine g_iconst (x := (2 : Int32)) e_Job_isAcross_1 (by decide) ?_
  refine g_icmp_gt e_Job_isAcross_2 (fun c1 => ?_) (fun c1 => ?_)
  · refine g_iconst (x := (0 : Int32)) e_Job_isAcross_9 (by decide) ?_
    exact g_zret e_Job_isAcross_10 rfl (by decide)
  · refine g_iconst (x := (1 : Int32)) e_Job_isAcross_5 (by decide) ?_
    refine g_goto e_Job_isAcross_6 ?_
    exact g_zret e_Job_isAcross_10 rfl (by decide)
set_option maxHeartbeats 4000000 in
set_option maxRecDepth 20000 in
theorem c_Job_isAcross {l : Launch} {G : KG} {Z : ZZ} {v0 : Int32} {M M' : Mm} {r : Int32} (h : f_Job_isAcross v0 M = some (r, M')) : CT l G y_Job_isAcross md_Job_isAcross 0 0 [.int v0] Z.2.2.1 Z.2.2.2 M (rvI r) Z.2.2.1 Z.2.2.2 M' :=
  CT.of (Z := (0, 0, Z.2.2.1, Z.2.2.2)) (Z' := (0, 0, Z.2.2.1, Z.2.2.2)) 0 (by decide) rfl ⟨rfl, rfl⟩ (by show 1 ≤ 1; decide) rfl h (fun X _ hG => by subst hG; exact t_Job_isAcross )
set_option maxHeartbeats 4000000 in
set_option maxRecDepth 20000 in
theorem t_Job_foldBy_64 {X : KX} {Z : ZZ} {a0 : Nat} {rec22 : Int32 → Mm → Option (Unit × Mm)} (hn0 : a0 < Z.2.2.1) (ha0 : kD a0 = 0) (hr22 : ∀ (v3 : Int32) (M : Mm), GO X md_Job_foldBy (QE X rvU Z) 22 [some (rf (kG X) a0), none, none, some (.int v3)] [] Z M (rec22 v3 M)) : ∀ (v3 : Int32) (M : Mm), GO X md_Job_foldBy (QE X rvU Z) 64 [some (rf (kG X) a0), none, none, some (.int v3)] [] Z M (f_Job_foldBy_64 a0 rec22 v3 M) := by
  intro v3 M
  unfold f_Job_foldBy_64
  refine g_iincL (c := (1 : Int32)) e_Job_foldBy_64 rfl (by decide) (by decide) rfl (fun x14 => ?_)
  refine g_goto e_Job_foldBy_67 ?_
  exact g_wq (hr22 x14 M) ⟨rfl, rfl, trivial⟩
set_option maxHeartbeats 4000000 in
set_option maxRecDepth 20000 in
theorem t_Job_foldBy_22 {X : KX} {Z : ZZ} {a0 : Nat} (hn0 : a0 < Z.2.2.1) (ha0 : kD a0 = 0) : ∀ (n : Nat) (v3 : Int32) (M : Mm), GO X md_Job_foldBy (QE X rvU Z) 22 [some (rf (kG X) a0), none, none, some (.int v3)] [] Z M (f_Job_foldBy_22 a0 n v3 M) := by
  intro n
  induction n with
  | zero =>
    intro v3 M
    exact g_none
  | succ n ih =>
    intro v3 M
    rw [f_Job_foldBy_22_s]
    refine g_iload_n e_Job_foldBy_22 rfl ?_
    refine g_aload_n e_Job_foldBy_23 rfl ?_
    refine g_getI e_Job_foldBy_24 fl_Job_39 ha0 hn0 fj_0_0 ?_
    refine g_icmp_ge e_Job_foldBy_27 (fun c5 => ?_) (fun c5 => ?_)
    · exact g_vret e_Job_foldBy_70 rfl
    · refine g_aload_n e_Job_foldBy_30 rfl ?_
      refine g_iload_n e_Job_foldBy_31 rfl ?_
      refine g_callV (rv := rvI) (As := [.int v3]) (st := []) e_Job_foldBy_32 mv_Job_57 my_Job_figure (by decide) rfl rfl ha0 hn0 rfl (Nat.le_of_ble_eq_true rfl) rfl (fun r M1 h => c_Job_figure hn0 ha0 h) (fun r7 M6 h8 => ?_)
      refine g_callS (rv := rvI) (As := [.int r7]) (st := []) e_Job_foldBy_35 ms_Job_61 my_Job_isAcross (by decide) rfl rfl (Nat.le_of_ble_eq_true rfl) (fun r M1 h => c_Job_isAcross   h) (fun r10 M9 h11 => ?_)
      refine g_if_eq e_Job_foldBy_38 (fun c12 => ?_) (fun c12 => ?_)
      · refine g_aload_n e_Job_foldBy_54 rfl ?_
        refine g_dup e_Job_foldBy_55 rfl ?_
        refine g_getI e_Job_foldBy_56 fl_Job_54 ha0 hn0 fj_0_3 ?_
        refine g_iconst (x := (2 : Int32)) e_Job_foldBy_59 (by decide) ?_
        refine g_imul e_Job_foldBy_60 ?_
        refine g_putL e_Job_foldBy_61 fp_Job_54 ha0 hn0 fj_0_3 rfl rfl (fun M13 => ?_)
        exact g_wq (t_Job_foldBy_64 hn0 ha0 (ih) v3 M13) ⟨rfl, rfl, trivial⟩
      · refine g_aload_n e_Job_foldBy_41 rfl ?_
        refine g_dup e_Job_foldBy_42 rfl ?_
        refine g_getI e_Job_foldBy_43 fl_Job_51 ha0 hn0 fj_0_2 ?_
        refine g_iconst (x := (2 : Int32)) e_Job_foldBy_46 (by decide) ?_
        refine g_imul e_Job_foldBy_47 ?_
        refine g_putL e_Job_foldBy_48 fp_Job_51 ha0 hn0 fj_0_2 rfl rfl (fun M15 => ?_)
        refine g_goto e_Job_foldBy_51 ?_
        exact g_wq (t_Job_foldBy_64 hn0 ha0 (ih) v3 M15) ⟨rfl, rfl, trivial⟩
set_option maxHeartbeats 4000000 in
set_option maxRecDepth 20000 in
theorem t_Job_foldBy {X : KX} {Z : ZZ} {a0 : Nat} {v1 : Int32} {v2 : Int32} {M : Mm} (hn0 : a0 < Z.2.2.1) (ha0 : kD a0 = 0) : GO X md_Job_foldBy (QE X rvU Z) 0 [some (rf (kG X) a0), some (.int v1), some (.int v2), none] [] Z M (f_Job_foldBy a0 v1 v2 M) := by
  unfold f_Job_foldBy
  refine g_aload_n e_Job_foldBy_0 rfl ?_
  refine g_iload_n e_Job_foldBy_1 rfl ?_
  refine g_putL e_Job_foldBy_2 fp_Job_39 ha0 hn0 fj_0_0 rfl rfl (fun M1 => ?_)
  refine g_aload_n e_Job_foldBy_5 rfl ?_
  refine g_iload_n e_Job_foldBy_6 rfl ?_
  refine g_putL e_Job_foldBy_7 fp_Job_42 ha0 hn0 fj_0_1 rfl rfl (fun M2 => ?_)
  refine g_aload_n e_Job_foldBy_10 rfl ?_
  refine g_iconst (x := (1 : Int32)) e_Job_foldBy_11 (by decide) ?_
  refine g_putL e_Job_foldBy_12 fp_Job_51 ha0 hn0 fj_0_2 rfl rfl (fun M3 => ?_)
  refine g_aload_n e_Job_foldBy_15 rfl ?_
  refine g_iconst (x := (1 : Int32)) e_Job_foldBy_16 (by decide) ?_
  refine g_putL e_Job_foldBy_17 fp_Job_54 ha0 hn0 fj_0_3 rfl rfl (fun M4 => ?_)
  refine g_iconst (x := (0 : Int32)) e_Job_foldBy_20 (by decide) ?_
  refine g_istore_n e_Job_foldBy_21 (by decide) rfl ?_
  exact g_wq (t_Job_foldBy_22 hn0 ha0 fuel (0 : Int32) M4) ⟨rfl, rfl, trivial⟩
set_option maxHeartbeats 4000000 in
set_option maxRecDepth 20000 in
theorem c_Job_foldBy {l : Launch} {G : KG} {Z : ZZ} {a0 : Nat} {v1 : Int32} {v2 : Int32} {M M' : Mm} {r : Unit} (hn0 : a0 < Z.2.2.1) (ha0 : kD a0 = 0) (h : f_Job_foldBy a0 v1 v2 M = some (r, M')) : CT l G y_Job_foldBy md_Job_foldBy 0 0 [rf G a0, .int v1, .int v2] Z.2.2.1 Z.2.2.2 M (rvU r) Z.2.2.1 Z.2.2.2 M' :=
  CT.of (Z := (0, 0, Z.2.2.1, Z.2.2.2)) (Z' := (0, 0, Z.2.2.1, Z.2.2.2)) 1 (by decide) rfl ⟨rfl, rfl⟩ (by show 3 ≤ 4; decide) rfl h (fun X _ hG => by subst hG; exact t_Job_foldBy hn0 ha0)
