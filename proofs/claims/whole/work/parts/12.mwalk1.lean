set_option maxHeartbeats 4000000 in
set_option maxRecDepth 20000 in
theorem t_MD_in {X : KX} {Z : ZZ} {v0 : Int32} {v1 : Int32} {v2 : Int32} {M : Mm} (hz : FU Z) : GO X md_MD_in (QE X rvI Z) 0 [some (.int v0), some (.int v1), some (.int v2)] [] Z M (f_MD_in v0 v1 v2 M) := by
  unfold f_MD_in
  refine g_iload_n e_MD_in_0 rfl ?_
  refine g_iload_n e_MD_in_1 rfl ?_
  refine g_icmp_lt e_MD_in_2 (fun c1 => ?_) (fun c1 => ?_)
  · refine g_iconst (x := (0 : Int32)) e_MD_in_14 (by decide) ?_
    exact g_zret e_MD_in_15 rfl (by decide)
  · refine g_iload_n e_MD_in_5 rfl ?_
    refine g_iload_n e_MD_in_6 rfl ?_
    refine g_icmp_gt e_MD_in_7 (fun c2 => ?_) (fun c2 => ?_)
    · refine g_iconst (x := (0 : Int32)) e_MD_in_14 (by decide) ?_
      exact g_zret e_MD_in_15 rfl (by decide)
    · refine g_iconst (x := (1 : Int32)) e_MD_in_10 (by decide) ?_
      refine g_goto e_MD_in_11 ?_
      exact g_zret e_MD_in_15 rfl (by decide)
set_option maxHeartbeats 4000000 in
set_option maxRecDepth 20000 in
theorem c_MD_in {l : Launch} {G : KG} {Z : ZZ} {v0 : Int32} {v1 : Int32} {v2 : Int32} {M M' : Mm} {r : Int32} (hz : FU Z) (h : f_MD_in v0 v1 v2 M = some (r, M')) : CT l G y_MD_in md_MD_in 0 0 [.int v0, .int v1, .int v2] Z.2.2.1 Z.2.2.2 M (rvI r) Z.2.2.1 Z.2.2.2 M' :=
  CT.of (Z := (0, 0, Z.2.2.1, Z.2.2.2)) (Z' := (0, 0, Z.2.2.1, Z.2.2.2)) 0 (by decide) rfl ⟨rfl, rfl⟩ (by show 3 ≤ 3; decide) rfl h (fun X _ hG => by subst hG; exact t_MD_in hz)
set_option maxHeartbeats 4000000 in
set_option maxRecDepth 20000 in
theorem t_MD_isFold_42 {X : KX} {Z : ZZ} {rec17 : Int32 → Int32 → Mm → Option (Int32 × Mm)} (hz : FU Z) (hr17 : ∀ (v1 : Int32) (v2 : Int32) (M : Mm), GO X md_MD_isFold (QE X rvI Z) 17 [none, some (.int v1), some (.int v2)] [] Z M (rec17 v1 v2 M)) : ∀ (v2 : Int32) (s0 : Int32) (M : Mm), GO X md_MD_isFold (QE X rvI Z) 42 [none, none, some (.int v2)] [.int s0] Z M (f_MD_isFold_42 rec17 v2 s0 M) := by
  intro v2 s0 M
  unfold f_MD_isFold_42
  refine g_istore_n e_MD_isFold_42 (by decide) rfl ?_
  refine g_iload_n e_MD_isFold_43 rfl ?_
  refine g_bipush (x := (10 : Int32)) e_MD_isFold_44 (by decide) ?_
  refine g_idiv e_MD_isFold_46 (by decide) ?_
  refine g_istoreL_n e_MD_isFold_47 (by decide) rfl (fun x7 => ?_)
  refine g_goto e_MD_isFold_48 ?_
  exact g_wq (hr17 s0 x7 M) ⟨rfl, rfl, trivial⟩
set_option maxHeartbeats 4000000 in
set_option maxRecDepth 20000 in
theorem t_MD_isFold_41 {X : KX} {Z : ZZ} {rec17 : Int32 → Int32 → Mm → Option (Int32 × Mm)} (hz : FU Z) (hr17 : ∀ (v1 : Int32) (v2 : Int32) (M : Mm), GO X md_MD_isFold (QE X rvI Z) 17 [none, some (.int v1), some (.int v2)] [] Z M (rec17 v1 v2 M)) : ∀ (v2 : Int32) (M : Mm), GO X md_MD_isFold (QE X rvI Z) 41 [none, none, some (.int v2)] [] Z M (f_MD_isFold_41 rec17 v2 M) := by
  intro v2 M
  unfold f_MD_isFold_41
  refine g_iconst (x := (0 : Int32)) e_MD_isFold_41 (by decide) ?_
  exact g_wq (t_MD_isFold_42 hz (hr17) v2 (0 : Int32) M) ⟨rfl, trivial⟩
set_option maxHeartbeats 4000000 in
set_option maxRecDepth 20000 in
theorem t_MD_isFold_17 {X : KX} {Z : ZZ} (hz : FU Z) : ∀ (n : Nat) (v1 : Int32) (v2 : Int32) (M : Mm), GO X md_MD_isFold (QE X rvI Z) 17 [none, some (.int v1), some (.int v2)] [] Z M (f_MD_isFold_17 n v1 v2 M) := by
  intro n
  induction n with
  | zero =>
    intro v1 v2 M
    exact g_none
  | succ n ih =>
    intro v1 v2 M
    rw [f_MD_isFold_17_s]
    refine g_iload_n e_MD_isFold_17 rfl ?_
    refine g_if_le e_MD_isFold_18 (fun c5 => ?_) (fun c5 => ?_)
    · refine g_iload_n e_MD_isFold_51 rfl ?_
      exact g_zretG e_MD_isFold_52 rfl
    · refine g_iload_n e_MD_isFold_21 rfl ?_
      refine g_if_eq e_MD_isFold_22 (fun c6 => ?_) (fun c6 => ?_)
      · exact g_wq (t_MD_isFold_41 hz (ih) v2 M) ⟨rfl, trivial⟩
      · refine g_iload_n e_MD_isFold_25 rfl ?_
        refine g_bipush (x := (10 : Int32)) e_MD_isFold_26 (by decide) ?_
        refine g_irem e_MD_isFold_28 (by decide) ?_
        refine g_iconst (x := (1 : Int32)) e_MD_isFold_29 (by decide) ?_
        refine g_iconst (x := (4 : Int32)) e_MD_isFold_30 (by decide) ?_
        refine g_callS (rv := rvI) (As := [.int (v2 % (10 : Int32)), .int (1 : Int32), .int (4 : Int32)]) (st := []) e_MD_isFold_31 ms_MD_92 my_MD_in (by decide) rfl rfl (Nat.le_of_ble_eq_true rfl) (fun r M1 h => c_MD_in hz  h) (fun r9 M8 h10 => ?_)
        refine g_phi1 42 (fun x12 => [none, none, some (.int v2)]) (fun x12 => [.int x12]) (fun x12 => ?_) (fun hj14 => ?_)
        · show GO X _ _ 42 [none, none, some (.int v2)] [.int x12] Z M8 _
          refine g_istore_n e_MD_isFold_42 (by decide) rfl ?_
          refine g_iload_n e_MD_isFold_43 rfl ?_
          refine g_bipush (x := (10 : Int32)) e_MD_isFold_44 (by decide) ?_
          refine g_idiv e_MD_isFold_46 (by decide) ?_
          refine g_istoreL_n e_MD_isFold_47 (by decide) rfl (fun x13 => ?_)
          refine g_goto e_MD_isFold_48 ?_
          exact g_wq (ih x12 x13 M8) ⟨rfl, rfl, trivial⟩
        · refine g_if_eq' e_MD_isFold_34 (fun c11 => ?_) (fun c11 => ?_)
          · refine g_iconst (x := (0 : Int32)) e_MD_isFold_41 (by decide) ?_
            exact (g_pt c11 (g_lt (g_wq (hj14 (0 : Int32)) ⟨rfl, trivial⟩)))
          · refine g_iconst (x := (1 : Int32)) e_MD_isFold_37 (by decide) ?_
            refine g_goto e_MD_isFold_38 ?_
            exact (g_pf c11 (g_lt (g_wq (hj14 (1 : Int32)) ⟨rfl, trivial⟩)))
set_option maxHeartbeats 4000000 in
set_option maxRecDepth 20000 in
theorem t_MD_isFold {X : KX} {Z : ZZ} {v0 : Int32} {M : Mm} (hz : FU Z) : GO X md_MD_isFold (QE X rvI Z) 0 [some (.int v0), none, none] [] Z M (f_MD_isFold v0 M) := by
  unfold f_MD_isFold
  refine g_iload_n e_MD_isFold_0 rfl ?_
  refine g_iconst (x := (1 : Int32)) e_MD_isFold_1 (by decide) ?_
  refine g_sipush (x := (4444 : Int32)) e_MD_isFold_2 (by decide) ?_
  refine g_callS (rv := rvI) (As := [.int v0, .int (1 : Int32), .int (4444 : Int32)]) (st := []) e_MD_isFold_5 ms_MD_92 my_MD_in (by decide) rfl rfl (Nat.le_of_ble_eq_true rfl) (fun r M1 h => c_MD_in hz  h) (fun r2 M1 h3 => ?_)
  refine g_if_ne e_MD_isFold_8 (fun c4 => ?_) (fun c4 => ?_)
  · refine g_iconst (x := (1 : Int32)) e_MD_isFold_13 (by decide) ?_
    refine g_istore_n e_MD_isFold_14 (by decide) rfl ?_
    refine g_iload_n e_MD_isFold_15 rfl ?_
    refine g_istore_n e_MD_isFold_16 (by decide) rfl ?_
    exact g_wq (t_MD_isFold_17 hz fuel (1 : Int32) v0 M1) ⟨rfl, rfl, trivial⟩
  · refine g_iconst (x := (0 : Int32)) e_MD_isFold_11 (by decide) ?_
    exact g_zret e_MD_isFold_12 rfl (by decide)
set_option maxHeartbeats 4000000 in
set_option maxRecDepth 20000 in
theorem c_MD_isFold {l : Launch} {G : KG} {Z : ZZ} {v0 : Int32} {M M' : Mm} {r : Int32} (hz : FU Z) (h : f_MD_isFold v0 M = some (r, M')) : CT l G y_MD_isFold md_MD_isFold 0 0 [.int v0] Z.2.2.1 Z.2.2.2 M (rvI r) Z.2.2.1 Z.2.2.2 M' :=
  CT.of (Z := (0, 0, Z.2.2.1, Z.2.2.2)) (Z' := (0, 0, Z.2.2.1, Z.2.2.2)) 2 (by decide) rfl ⟨rfl, rfl⟩ (by show 1 ≤ 3; decide) rfl h (fun X _ hG => by subst hG; exact t_MD_isFold hz)
set_option maxHeartbeats 4000000 in
set_option maxRecDepth 20000 in
theorem t_MD_figuresOf_4 {X : KX} {Z : ZZ} (hz : FU Z) : ∀ (n : Nat) (v1 : Int32) (v2 : Int32) (M : Mm), GO X md_MD_figuresOf (QE X rvI Z) 4 [none, some (.int v1), some (.int v2)] [] Z M (f_MD_figuresOf_4 n v1 v2 M) := by
  intro n
  induction n with
  | zero =>
    intro v1 v2 M
    exact g_none
  | succ n ih =>
    intro v1 v2 M
    rw [f_MD_figuresOf_4_s]
    refine g_iload_n e_MD_figuresOf_4 rfl ?_
    refine g_if_le e_MD_figuresOf_5 (fun c1 => ?_) (fun c1 => ?_)
    · refine g_iload_n e_MD_figuresOf_19 rfl ?_
      exact g_iret e_MD_figuresOf_20 rfl
    · refine g_iincL (c := (1 : Int32)) e_MD_figuresOf_8 rfl (by decide) (by decide) rfl (fun x2 => ?_)
      refine g_iload_n e_MD_figuresOf_11 rfl ?_
      refine g_bipush (x := (10 : Int32)) e_MD_figuresOf_12 (by decide) ?_
      refine g_idiv e_MD_figuresOf_14 (by decide) ?_
      refine g_istoreL_n e_MD_figuresOf_15 (by decide) rfl (fun x3 => ?_)
      refine g_goto e_MD_figuresOf_16 ?_
      exact g_wq (ih x2 x3 M) ⟨rfl, rfl, trivial⟩
set_option maxHeartbeats 4000000 in
set_option maxRecDepth 20000 in
theorem t_MD_figuresOf {X : KX} {Z : ZZ} {v0 : Int32} {M : Mm} (hz : FU Z) : GO X md_MD_figuresOf (QE X rvI Z) 0 [some (.int v0), none, none] [] Z M (f_MD_figuresOf v0 M) := by
  unfold f_MD_figuresOf
  refine g_iconst (x := (0 : Int32)) e_MD_figuresOf_0 (by decide) ?_
  refine g_istore_n e_MD_figuresOf_1 (by decide) rfl ?_
  refine g_iload_n e_MD_figuresOf_2 rfl ?_
  refine g_istore_n e_MD_figuresOf_3 (by decide) rfl ?_
  exact g_wq (t_MD_figuresOf_4 hz fuel (0 : Int32) v0 M) ⟨rfl, rfl, trivial⟩
set_option maxHeartbeats 4000000 in
set_option maxRecDepth 20000 in
theorem c_MD_figuresOf {l : Launch} {G : KG} {Z : ZZ} {v0 : Int32} {M M' : Mm} {r : Int32} (hz : FU Z) (h : f_MD_figuresOf v0 M = some (r, M')) : CT l G y_MD_figuresOf md_MD_figuresOf 0 0 [.int v0] Z.2.2.1 Z.2.2.2 M (rvI r) Z.2.2.1 Z.2.2.2 M' :=
  CT.of (Z := (0, 0, Z.2.2.1, Z.2.2.2)) (Z' := (0, 0, Z.2.2.1, Z.2.2.2)) 2 (by decide) rfl ⟨rfl, rfl⟩ (by show 1 ≤ 3; decide) rfl h (fun X _ hG => by subst hG; exact t_MD_figuresOf hz)
set_option maxHeartbeats 4000000 in
set_option maxRecDepth 20000 in
theorem t_MD_figure_9 {X : KX} {Z : ZZ} (hz : FU Z) : ∀ (n : Nat) (v1 : Int32) (v2 : Int32) (v3 : Int32) (M : Mm), GO X md_MD_figure (QE X rvI Z) 9 [none, some (.int v1), some (.int v2), some (.int v3)] [] Z M (f_MD_figure_9 n v1 v2 v3 M) := by
  intro n
  induction n with
  | zero =>
    intro v1 v2 v3 M
    exact g_none
  | succ n ih =>
    intro v1 v2 v3 M
    rw [f_MD_figure_9_s]
    refine g_iload_n e_MD_figure_9 rfl ?_
    refine g_iload_n e_MD_figure_10 rfl ?_
    refine g_icmp_le e_MD_figure_11 (fun c5 => ?_) (fun c5 => ?_)
    · refine g_iload_n e_MD_figure_25 rfl ?_
      refine g_bipush (x := (10 : Int32)) e_MD_figure_26 (by decide) ?_
      refine g_irem e_MD_figure_28 (by decide) ?_
      exact g_iret e_MD_figure_29 rfl
    · refine g_iload_n e_MD_figure_14 rfl ?_
      refine g_bipush (x := (10 : Int32)) e_MD_figure_15 (by decide) ?_
      refine g_idiv e_MD_figure_17 (by decide) ?_
      refine g_istoreL_n e_MD_figure_18 (by decide) rfl (fun x6 => ?_)
      refine g_iincL (c := (-1 : Int32)) e_MD_figure_19 rfl (by decide) (by decide) rfl (fun x7 => ?_)
      refine g_goto e_MD_figure_22 ?_
      exact g_wq (ih v1 x6 x7 M) ⟨rfl, rfl, rfl, trivial⟩
set_option maxHeartbeats 4000000 in
set_option maxRecDepth 20000 in
theorem t_MD_figure {X : KX} {Z : ZZ} {v0 : Int32} {v1 : Int32} {M : Mm} (hz : FU Z) : GO X md_MD_figure (QE X rvI Z) 0 [some (.int v0), some (.int v1), none, none] [] Z M (f_MD_figure v0 v1 M) := by
  unfold f_MD_figure
  refine g_iload_n e_MD_figure_0 rfl ?_
  refine g_istore_n e_MD_figure_1 (by decide) rfl ?_
  refine g_iload_n e_MD_figure_2 rfl ?_
  refine g_callS (rv := rvI) (As := [.int v0]) (st := []) e_MD_figure_3 ms_MD_96 my_MD_figuresOf (by decide) rfl rfl (Nat.le_of_ble_eq_true rfl) (fun r M1 h => c_MD_figuresOf hz  h) (fun r2 M1 h3 => ?_)
  refine g_iconst (x := (1 : Int32)) e_MD_figure_6 (by decide) ?_
  refine g_isub e_MD_figure_7 ?_
  refine g_istoreL_n e_MD_figure_8 (by decide) rfl (fun x4 => ?_)
  exact g_wq (t_MD_figure_9 hz fuel v1 v0 x4 M1) ⟨rfl, rfl, rfl, trivial⟩
set_option maxHeartbeats 4000000 in
set_option maxRecDepth 20000 in
theorem c_MD_figure {l : Launch} {G : KG} {Z : ZZ} {v0 : Int32} {v1 : Int32} {M M' : Mm} {r : Int32} (hz : FU Z) (h : f_MD_figure v0 v1 M = some (r, M')) : CT l G y_MD_figure md_MD_figure 0 0 [.int v0, .int v1] Z.2.2.1 Z.2.2.2 M (rvI r) Z.2.2.1 Z.2.2.2 M' :=
  CT.of (Z := (0, 0, Z.2.2.1, Z.2.2.2)) (Z' := (0, 0, Z.2.2.1, Z.2.2.2)) 2 (by decide) rfl ⟨rfl, rfl⟩ (by show 2 ≤ 4; decide) rfl h (fun X _ hG => by subst hG; exact t_MD_figure hz)
set_option maxHeartbeats 4000000 in
set_option maxRecDepth 20000 in
theorem t_MD_w_7 {X : KX} {Z : ZZ} (hz : FU Z) : ∀ (n : Nat) (v1 : Int32) (v2 : Int32) (M : Mm), GO X md_MD_w (QE X rvI Z) 7 [none, some (.int v1), some (.int v2)] [] Z M (f_MD_w_7 n v1 v2 M) := by
  intro n
  induction n with
  | zero =>
    intro v1 v2 M
    exact g_none
  | succ n ih =>
    intro v1 v2 M
    rw [f_MD_w_7_s]
    refine g_iload_n e_MD_w_7 rfl ?_
    refine g_if_le e_MD_w_8 (fun c2 => ?_) (fun c2 => ?_)
    · refine g_iload_n e_MD_w_35 rfl ?_
      exact g_iret e_MD_w_36 rfl
    · refine g_iload_n e_MD_w_11 rfl ?_
      refine g_iload_n e_MD_w_12 rfl ?_
      refine g_bipush (x := (10 : Int32)) e_MD_w_13 (by decide) ?_
      refine g_irem e_MD_w_15 (by decide) ?_
      refine g_iconst (x := (2 : Int32)) e_MD_w_16 (by decide) ?_
      refine g_phi1 25 (fun x4 => [none, none, some (.int v2)]) (fun x4 => [.int x4, .int v1]) (fun x4 => ?_) (fun hj7 => ?_)
      · show GO X _ _ 25 [none, none, some (.int v2)] [.int x4, .int v1] Z M _
        refine g_imul e_MD_w_25 ?_
        refine g_istoreL_n e_MD_w_26 (by decide) rfl (fun x5 => ?_)
        refine g_iload_n e_MD_w_27 rfl ?_
        refine g_bipush (x := (10 : Int32)) e_MD_w_28 (by decide) ?_
        refine g_idiv e_MD_w_30 (by decide) ?_
        refine g_istoreL_n e_MD_w_31 (by decide) rfl (fun x6 => ?_)
        refine g_goto e_MD_w_32 ?_
        exact g_wq (ih x5 x6 M) ⟨rfl, rfl, trivial⟩
      · refine g_icmp_gt' e_MD_w_17 (fun c3 => ?_) (fun c3 => ?_)
        · refine g_iconst (x := (1 : Int32)) e_MD_w_24 (by decide) ?_
          exact (g_pt c3 (g_lt (g_wq (hj7 (1 : Int32)) ⟨rfl, trivial⟩)))
        · refine g_iconst (x := (2 : Int32)) e_MD_w_20 (by decide) ?_
          refine g_goto e_MD_w_21 ?_
          exact (g_pf c3 (g_lt (g_wq (hj7 (2 : Int32)) ⟨rfl, trivial⟩)))
set_option maxHeartbeats 4000000 in
set_option maxRecDepth 20000 in
theorem t_MD_w {X : KX} {Z : ZZ} {M : Mm} (hz : FU Z) : GO X md_MD_w (QE X rvI Z) 0 [some (rf (kG X) 78), none, none] [] Z M (f_MD_w M) := by
  unfold f_MD_w
  refine g_iconst (x := (1 : Int32)) e_MD_w_0 (by decide) ?_
  refine g_istore_n e_MD_w_1 (by decide) rfl ?_
  refine g_aload_n e_MD_w_2 rfl ?_
  refine g_getI e_MD_w_3 fl_MD_9 kq_78 (hz.lt kq_78) fj_10_1 ?_
  refine g_istoreL_n e_MD_w_6 (by decide) rfl (fun x1 => ?_)
  exact g_wq (t_MD_w_7 hz fuel (1 : Int32) x1 M) ⟨rfl, rfl, trivial⟩
set_option maxHeartbeats 4000000 in
set_option maxRecDepth 20000 in
theorem c_MD_w {l : Launch} {G : KG} {Z : ZZ} {M M' : Mm} {r : Int32} (hz : FU Z) (h : f_MD_w M = some (r, M')) : CT l G y_MD_w md_MD_w 0 0 [rf G 78] Z.2.2.1 Z.2.2.2 M (rvI r) Z.2.2.1 Z.2.2.2 M' :=
  CT.of (Z := (0, 0, Z.2.2.1, Z.2.2.2)) (Z' := (0, 0, Z.2.2.1, Z.2.2.2)) 2 (by decide) rfl ⟨rfl, rfl⟩ (by show 1 ≤ 3; decide) rfl h (fun X _ hG => by subst hG; exact t_MD_w hz)
set_option maxHeartbeats 4000000 in
set_option maxRecDepth 20000 in
theorem t_MD_leaves {X : KX} {Z : ZZ} {M : Mm} (hz : FU Z) : GO X md_MD_leaves (QE X rvI Z) 0 [some (rf (kG X) 78)] [] Z M (f_MD_leaves M) := by
  unfold f_MD_leaves
  refine g_iconst (x := (1 : Int32)) e_MD_leaves_0 (by decide) ?_
  refine g_aload_n e_MD_leaves_1 rfl ?_
  refine g_getI e_MD_leaves_2 fl_MD_9 kq_78 (hz.lt kq_78) fj_10_1 ?_
  refine g_callS (rv := rvI) (As := [.int (M.1 78 1)]) (st := [.int (1 : Int32)]) e_MD_leaves_5 ms_MD_96 my_MD_figuresOf (by decide) rfl rfl (Nat.le_of_ble_eq_true rfl) (fun r M1 h => c_MD_figuresOf hz  h) (fun r2 M1 h3 => ?_)
  refine g_ishl e_MD_leaves_8 ?_
  exact g_iret e_MD_leaves_9 rfl
set_option maxHeartbeats 4000000 in
set_option maxRecDepth 20000 in
theorem c_MD_leaves {l : Launch} {G : KG} {Z : ZZ} {M M' : Mm} {r : Int32} (hz : FU Z) (h : f_MD_leaves M = some (r, M')) : CT l G y_MD_leaves md_MD_leaves 0 0 [rf G 78] Z.2.2.1 Z.2.2.2 M (rvI r) Z.2.2.1 Z.2.2.2 M' :=
  CT.of (Z := (0, 0, Z.2.2.1, Z.2.2.2)) (Z' := (0, 0, Z.2.2.1, Z.2.2.2)) 0 (by decide) rfl ⟨rfl, rfl⟩ (by show 1 ≤ 1; decide) rfl h (fun X _ hG => by subst hG; exact t_MD_leaves hz)
set_option maxHeartbeats 4000000 in
set_option maxRecDepth 20000 in
theorem t_MD_h {X : KX} {Z : ZZ} {M : Mm} (hz : FU Z) : GO X md_MD_h (QE X rvI Z) 0 [some (rf (kG X) 78)] [] Z M (f_MD_h M) := by
  unfold f_MD_h
  refine g_aload_n e_MD_h_0 rfl ?_
  refine g_callV (rv := rvI) (As := []) (st := []) e_MD_h_1 mv_MD_100 my_MD_leaves (by decide) rfl rfl kq_78 (hz.lt kq_78) rfl (Nat.le_of_ble_eq_true rfl) rfl (fun r M1 h => c_MD_leaves hz  h) (fun r2 M1 h3 => ?_)
  refine g_aload_n e_MD_h_4 rfl ?_
  refine g_callV (rv := rvI) (As := []) (st := [.int r2]) e_MD_h_5 mv_MD_104 my_MD_w (by decide) rfl rfl kq_78 (hz.lt kq_78) rfl (Nat.le_of_ble_eq_true rfl) rfl (fun r M1 h => c_MD_w hz  h) (fun r5 M4 h6 => ?_)
  refine g_idivG e_MD_h_8 ?_
  exact g_iret e_MD_h_9 rfl
set_option maxHeartbeats 4000000 in
set_option maxRecDepth 20000 in
theorem c_MD_h {l : Launch} {G : KG} {Z : ZZ} {M M' : Mm} {r : Int32} (hz : FU Z) (h : f_MD_h M = some (r, M')) : CT l G y_MD_h md_MD_h 0 0 [rf G 78] Z.2.2.1 Z.2.2.2 M (rvI r) Z.2.2.1 Z.2.2.2 M' :=
  CT.of (Z := (0, 0, Z.2.2.1, Z.2.2.2)) (Z' := (0, 0, Z.2.2.1, Z.2.2.2)) 0 (by decide) rfl ⟨rfl, rfl⟩ (by show 1 ≤ 1; decide) rfl h (fun X _ hG => by subst hG; exact t_MD_h hz)
set_option maxHeartbeats 4000000 in
set_option maxRecDepth 20000 in
theorem t_MD_moves {X : KX} {Z : ZZ} {v1 : Int32} {v2 : Int32} {v3 : Int32} {v4 : Int32} {M : Mm} (hz : FU Z) : GO X md_MD_moves (QE X rvI Z) 0 [some (rf (kG X) 78), some (.int v1), some (.int v2), some (.int v3), some (.int v4)] [] Z M (f_MD_moves v1 v2 v3 v4 M) := by
  unfold f_MD_moves
  refine g_iload_n e_MD_moves_0 rfl ?_
  refine g_ite (fun c1 => ?_) (fun c1 => ?_)
  · refine g_tswI e_MD_moves_1.1 (1 : Int32) c1 (off := 27) (tgt := 28) (by decide) ?_
    refine g_aload_n e_MD_moves_28 rfl ?_
    refine g_getRZ (kz := 80) e_MD_moves_29 fl_MD_28 hz kq_78 (by decide) fj_10_8 rfl ?_
    refine g_iload_n e_MD_moves_32 rfl ?_
    refine g_ialdG (n := 16) e_MD_moves_33 ⟨kq_80, by decide⟩ (hz.lt kq_80 (by decide)) ?_
    refine g_iload_n e_MD_moves_34 rfl ?_
    refine g_iconst (x := (2 : Int32)) e_MD_moves_35 (by decide) ?_
    refine g_idiv e_MD_moves_36 (by decide) ?_
    refine g_icmp_ge e_MD_moves_37 (fun c2 => ?_) (fun c2 => ?_)
    · refine g_iconst (x := (0 : Int32)) e_MD_moves_44 (by decide) ?_
      exact g_zret e_MD_moves_45 rfl (by decide)
    · refine g_iconst (x := (1 : Int32)) e_MD_moves_40 (by decide) ?_
      refine g_goto e_MD_moves_41 ?_
      exact g_zret e_MD_moves_45 rfl (by decide)
  refine g_ite (fun c3 => ?_) (fun c3 => ?_)
  · refine g_tswI e_MD_moves_1.1 (2 : Int32) c3 (off := 45) (tgt := 46) (by decide) ?_
    refine g_aload_n e_MD_moves_46 rfl ?_
    refine g_getRZ (kz := 80) e_MD_moves_47 fl_MD_28 hz kq_78 (by decide) fj_10_8 rfl ?_
    refine g_iload_n e_MD_moves_50 rfl ?_
    refine g_ialdG (n := 16) e_MD_moves_51 ⟨kq_80, by decide⟩ (hz.lt kq_80 (by decide)) ?_
    refine g_iload_n e_MD_moves_52 rfl ?_
    refine g_iconst (x := (2 : Int32)) e_MD_moves_53 (by decide) ?_
    refine g_idiv e_MD_moves_54 (by decide) ?_
    refine g_icmp_lt e_MD_moves_55 (fun c4 => ?_) (fun c4 => ?_)
    · refine g_iconst (x := (0 : Int32)) e_MD_moves_62 (by decide) ?_
      exact g_zret e_MD_moves_63 rfl (by decide)
    · refine g_iconst (x := (1 : Int32)) e_MD_moves_58 (by decide) ?_
      refine g_goto e_MD_moves_59 ?_
      exact g_zret e_MD_moves_63 rfl (by decide)
  refine g_ite (fun c5 => ?_) (fun c5 => ?_)
  · refine g_tswI e_MD_moves_1.1 (3 : Int32) c5 (off := 63) (tgt := 64) (by decide) ?_
    refine g_aload_n e_MD_moves_64 rfl ?_
    refine g_getRZ (kz := 79) e_MD_moves_65 fl_MD_24 hz kq_78 (by decide) fj_10_7 rfl ?_
    refine g_iload_n e_MD_moves_68 rfl ?_
    refine g_ialdG (n := 16) e_MD_moves_69 ⟨kq_79, by decide⟩ (hz.lt kq_79 (by decide)) ?_
    refine g_iload e_MD_moves_70 rfl ?_
    refine g_iconst (x := (2 : Int32)) e_MD_moves_72 (by decide) ?_
    refine g_idiv e_MD_moves_73 (by decide) ?_
    refine g_icmp_ge e_MD_moves_74 (fun c6 => ?_) (fun c6 => ?_)
    · refine g_iconst (x := (0 : Int32)) e_MD_moves_81 (by decide) ?_
      exact g_zret e_MD_moves_82 rfl (by decide)
    · refine g_iconst (x := (1 : Int32)) e_MD_moves_77 (by decide) ?_
      refine g_goto e_MD_moves_78 ?_
      exact g_zret e_MD_moves_82 rfl (by decide)
  refine g_hav (pq := 83) (lsq := [some (rf (kG X) 78), some (.int v1), some (.int v2), some (.int v3), some (.int v4)]) (stq := []) ?_ (fun hq => ?_)
  · refine g_aload_n e_MD_moves_83 rfl ?_
    refine g_getRZ (kz := 79) e_MD_moves_84 fl_MD_24 hz kq_78 (by decide) fj_10_7 rfl ?_
    refine g_iload_n e_MD_moves_87 rfl ?_
    refine g_ialdG (n := 16) e_MD_moves_88 ⟨kq_79, by decide⟩ (hz.lt kq_79 (by decide)) ?_
    refine g_iload e_MD_moves_89 rfl ?_
    refine g_iconst (x := (2 : Int32)) e_MD_moves_91 (by decide) ?_
    refine g_idiv e_MD_moves_92 (by decide) ?_
    refine g_icmp_lt e_MD_moves_93 (fun c7 => ?_) (fun c7 => ?_)
    · refine g_iconst (x := (0 : Int32)) e_MD_moves_100 (by decide) ?_
      exact g_zret e_MD_moves_101 rfl (by decide)
    · refine g_iconst (x := (1 : Int32)) e_MD_moves_96 (by decide) ?_
      refine g_goto e_MD_moves_97 ?_
      exact g_zret e_MD_moves_101 rfl (by decide)
  · refine g_tswO e_MD_moves_1.1 (tgt := 83) (by decide) (sw_out (fun q h1 h2 => ?_)) hq
    rcases (show q = 1 ∨ q = 2 ∨ q = 3 by omega) with rfl | rfl | rfl
    · exact c1
    · exact c3
    · exact c5
set_option maxHeartbeats 4000000 in
set_option maxRecDepth 20000 in
theorem c_MD_moves {l : Launch} {G : KG} {Z : ZZ} {v1 : Int32} {v2 : Int32} {v3 : Int32} {v4 : Int32} {M M' : Mm} {r : Int32} (hz : FU Z) (h : f_MD_moves v1 v2 v3 v4 M = some (r, M')) : CT l G y_MD_moves md_MD_moves 0 0 [rf G 78, .int v1, .int v2, .int v3, .int v4] Z.2.2.1 Z.2.2.2 M (rvI r) Z.2.2.1 Z.2.2.2 M' :=
  CT.of (Z := (0, 0, Z.2.2.1, Z.2.2.2)) (Z' := (0, 0, Z.2.2.1, Z.2.2.2)) 0 (by decide) rfl ⟨rfl, rfl⟩ (by show 5 ≤ 5; decide) rfl h (fun X _ hG => by subst hG; exact t_MD_moves hz)
set_option maxHeartbeats 4000000 in
set_option maxRecDepth 20000 in
theorem t_MD_folds_382 {X : KX} {Z : ZZ} (hz : FU Z) : ∀ (n : Nat) (v3 : Int32) (v5 : Int32) (M : Mm), GO X md_MD_folds (QE X rvU Z) 382 [some (rf (kG X) 78), none, none, some (.int v3), none, some (.int v5), none, none] [] Z M (f_MD_folds_382 n v3 v5 M) := by
  intro n
  induction n with
  | zero =>
    intro v3 v5 M
    exact g_none
  | succ n ih =>
    intro v3 v5 M
    rw [f_MD_folds_382_s]
    refine g_iload e_MD_folds_382 rfl ?_
    refine g_iload_n e_MD_folds_384 rfl ?_
    refine g_icmp_ge e_MD_folds_385 (fun c13 => ?_) (fun c13 => ?_)
    · exact g_vret e_MD_folds_408 rfl
    · refine g_aload_n e_MD_folds_388 rfl ?_
      refine g_getRZ (kz := 84) e_MD_folds_389 fl_MD_40 hz kq_78 (by decide) fj_10_12 rfl ?_
      refine g_aload_n e_MD_folds_392 rfl ?_
      refine g_getRZ (kz := 81) e_MD_folds_393 fl_MD_31 hz kq_78 (by decide) fj_10_9 rfl ?_
      refine g_iload e_MD_folds_396 rfl ?_
      refine g_ialdG (n := 16) e_MD_folds_398 ⟨kq_81, by decide⟩ (hz.lt kq_81 (by decide)) ?_
      refine g_iload e_MD_folds_399 rfl ?_
      refine g_iastG (n := 16) e_MD_folds_401 ⟨kq_84, by decide⟩ (hz.lt kq_84 (by decide)) (fun M14 => ?_)
      refine g_iincL (c := (1 : Int32)) e_MD_folds_402 rfl (by decide) (by decide) rfl (fun x15 => ?_)
      refine g_goto e_MD_folds_405 ?_
      exact g_wq (ih v3 x15 M14) ⟨rfl, rfl, rfl, trivial⟩
set_option maxHeartbeats 4000000 in
set_option maxRecDepth 20000 in
theorem t_MD_folds_319 {X : KX} {Z : ZZ} {rec81 : Int32 → Int32 → Int32 → Int32 → Int32 → Mm → Option (Unit × Mm)} (hz : FU Z) (hr81 : ∀ (v1 : Int32) (v2 : Int32) (v3 : Int32) (v4 : Int32) (v5 : Int32) (M : Mm), GO X md_MD_folds (QE X rvU Z) 81 [some (rf (kG X) 78), some (.int v1), some (.int v2), some (.int v3), some (.int v4), some (.int v5), none, none] [] Z M (rec81 v1 v2 v3 v4 v5 M)) : ∀ (n : Nat) (v1 : Int32) (v2 : Int32) (v3 : Int32) (v4 : Int32) (v5 : Int32) (v6 : Int32) (v7 : Int32) (M : Mm), GO X md_MD_folds (QE X rvU Z) 319 [some (rf (kG X) 78), some (.int v1), some (.int v2), some (.int v3), some (.int v4), some (.int v5), some (.int v6), some (.int v7)] [] Z M (f_MD_folds_319 rec81 n v1 v2 v3 v4 v5 v6 v7 M) := by
  intro n
  induction n with
  | zero =>
    intro v1 v2 v3 v4 v5 v6 v7 M
    exact g_none
  | succ n ih =>
    intro v1 v2 v3 v4 v5 v6 v7 M
    rw [f_MD_folds_319_s]
    refine g_iload e_MD_folds_319 rfl ?_
    refine g_iload_n e_MD_folds_321 rfl ?_
    refine g_icmp_ge e_MD_folds_322 (fun c23 => ?_) (fun c23 => ?_)
    · refine g_iincL (c := (1 : Int32)) e_MD_folds_373 rfl (by decide) (by decide) rfl (fun x24 => ?_)
      refine g_goto e_MD_folds_376 ?_
      exact g_wq (hr81 v1 v2 v3 v4 x24 M) ⟨rfl, rfl, rfl, rfl, rfl, rfl, trivial⟩
    · refine g_aload_n e_MD_folds_325 rfl ?_
      refine g_getRZ (kz := 80) e_MD_folds_326 fl_MD_28 hz kq_78 (by decide) fj_10_8 rfl ?_
      refine g_iload e_MD_folds_329 rfl ?_
      refine g_dup2 e_MD_folds_331 rfl rfl ?_
      refine g_ialdG (n := 16) e_MD_folds_332 ⟨kq_80, by decide⟩ (hz.lt kq_80 (by decide)) ?_
      refine g_iload e_MD_folds_333 rfl ?_
      refine g_iconst (x := (1 : Int32)) e_MD_folds_335 (by decide) ?_
      refine g_phi1 344 (fun x26 => [some (rf (kG X) 78), some (.int v1), some (.int v2), some (.int v3), some (.int v4), some (.int v5), some (.int v6), some (.int v7)]) (fun x26 => [.int x26, .int (M.1 80 (Int32.toNatClampNeg v7)), .int v7, rf (kG X) 80]) (fun x26 => ?_) (fun hj33 => ?_)
      · show GO X _ _ 344 [some (rf (kG X) 78), some (.int v1), some (.int v2), some (.int v3), some (.int v4), some (.int v5), some (.int v6), some (.int v7)] [.int x26, .int (M.1 80 (Int32.toNatClampNeg v7)), .int v7, rf (kG X) 80] Z M _
        refine g_isub e_MD_folds_344 ?_
        refine g_iastG (n := 16) e_MD_folds_345 ⟨kq_80, by decide⟩ (hz.lt kq_80 (by decide)) (fun M27 => ?_)
        refine g_aload_n e_MD_folds_346 rfl ?_
        refine g_getRZ (kz := 79) e_MD_folds_347 fl_MD_24 hz kq_78 (by decide) fj_10_7 rfl ?_
        refine g_iload e_MD_folds_350 rfl ?_
        refine g_dup2 e_MD_folds_352 rfl rfl ?_
        refine g_ialdG (n := 16) e_MD_folds_353 ⟨kq_79, by decide⟩ (hz.lt kq_79 (by decide)) ?_
        refine g_iload e_MD_folds_354 rfl ?_
        refine g_iconst (x := (3 : Int32)) e_MD_folds_356 (by decide) ?_
        refine g_phi1 365 (fun x29 => [some (rf (kG X) 78), some (.int v1), some (.int v2), some (.int v3), some (.int v4), some (.int v5), some (.int v6), some (.int v7)]) (fun x29 => [.int x29, .int (M27.1 79 (Int32.toNatClampNeg v7)), .int v7, rf (kG X) 79]) (fun x29 => ?_) (fun hj32 => ?_)
        · show GO X _ _ 365 [some (rf (kG X) 78), some (.int v1), some (.int v2), some (.int v3), some (.int v4), some (.int v5), some (.int v6), some (.int v7)] [.int x29, .int (M27.1 79 (Int32.toNatClampNeg v7)), .int v7, rf (kG X) 79] Z M27 _
          refine g_isub e_MD_folds_365 ?_
          refine g_iastG (n := 16) e_MD_folds_366 ⟨kq_79, by decide⟩ (hz.lt kq_79 (by decide)) (fun M30 => ?_)
          refine g_iincL (c := (1 : Int32)) e_MD_folds_367 rfl (by decide) (by decide) rfl (fun x31 => ?_)
          refine g_goto e_MD_folds_370 ?_
          exact g_wq (ih v1 v2 v3 v4 v5 v6 x31 M30) ⟨rfl, rfl, rfl, rfl, rfl, rfl, rfl, rfl, trivial⟩
        · refine g_icmp_ne' e_MD_folds_357 (fun c28 => ?_) (fun c28 => ?_)
          · refine g_iconst (x := (0 : Int32)) e_MD_folds_364 (by decide) ?_
            exact (g_pf c28 (g_lt (g_wq (hj32 (0 : Int32)) ⟨rfl, rfl, rfl, rfl, rfl, rfl, rfl, rfl, trivial⟩)))
          · refine g_iload_n e_MD_folds_360 rfl ?_
            refine g_goto e_MD_folds_361 ?_
            exact (g_pt c28 (g_lt (g_wq (hj32 v2) ⟨rfl, rfl, rfl, rfl, rfl, rfl, rfl, rfl, trivial⟩)))
      · refine g_icmp_ne' e_MD_folds_336 (fun c25 => ?_) (fun c25 => ?_)
        · refine g_iconst (x := (0 : Int32)) e_MD_folds_343 (by decide) ?_
          exact (g_pf c25 (g_lt (g_wq (hj33 (0 : Int32)) ⟨rfl, rfl, rfl, rfl, rfl, rfl, rfl, rfl, trivial⟩)))
        · refine g_iload_n e_MD_folds_339 rfl ?_
          refine g_goto e_MD_folds_340 ?_
          exact (g_pt c25 (g_lt (g_wq (hj33 v1) ⟨rfl, rfl, rfl, rfl, rfl, rfl, rfl, rfl, trivial⟩)))
set_option maxHeartbeats 4000000 in
set_option maxRecDepth 20000 in
theorem t_MD_folds_309 {X : KX} {Z : ZZ} {rec81 : Int32 → Int32 → Int32 → Int32 → Int32 → Mm → Option (Unit × Mm)} (hz : FU Z) (hr81 : ∀ (v1 : Int32) (v2 : Int32) (v3 : Int32) (v4 : Int32) (v5 : Int32) (M : Mm), GO X md_MD_folds (QE X rvU Z) 81 [some (rf (kG X) 78), some (.int v1), some (.int v2), some (.int v3), some (.int v4), some (.int v5), none, none] [] Z M (rec81 v1 v2 v3 v4 v5 M)) : ∀ (v1 : Int32) (v3 : Int32) (v4 : Int32) (v5 : Int32) (v6 : Int32) (s0 : Int32) (M : Mm), GO X md_MD_folds (QE X rvU Z) 309 [some (rf (kG X) 78), some (.int v1), none, some (.int v3), some (.int v4), some (.int v5), some (.int v6), none] [.int s0] Z M (f_MD_folds_309 rec81 v1 v3 v4 v5 v6 s0 M) := by
  intro v1 v3 v4 v5 v6 s0 M
  unfold f_MD_folds_309
  refine g_istore_n e_MD_folds_309 (by decide) rfl ?_
  refine g_iload e_MD_folds_310 rfl ?_
  refine g_iconst (x := (2 : Int32)) e_MD_folds_312 (by decide) ?_
  refine g_imul e_MD_folds_313 ?_
  refine g_istoreL e_MD_folds_314 (by decide) rfl (fun x22 => ?_)
  refine g_iconst (x := (0 : Int32)) e_MD_folds_316 (by decide) ?_
  refine g_istore e_MD_folds_317 (by decide) rfl ?_
  exact g_wq (t_MD_folds_319 hz (hr81) fuel v1 s0 v3 x22 v5 v6 (0 : Int32) M) ⟨rfl, rfl, rfl, rfl, rfl, rfl, rfl, rfl, trivial⟩
set_option maxHeartbeats 4000000 in
set_option maxRecDepth 20000 in
theorem t_MD_folds_295 {X : KX} {Z : ZZ} {rec81 : Int32 → Int32 → Int32 → Int32 → Int32 → Mm → Option (Unit × Mm)} (hz : FU Z) (hr81 : ∀ (v1 : Int32) (v2 : Int32) (v3 : Int32) (v4 : Int32) (v5 : Int32) (M : Mm), GO X md_MD_folds (QE X rvU Z) 81 [some (rf (kG X) 78), some (.int v1), some (.int v2), some (.int v3), some (.int v4), some (.int v5), none, none] [] Z M (rec81 v1 v2 v3 v4 v5 M)) : ∀ (v2 : Int32) (v3 : Int32) (v4 : Int32) (v5 : Int32) (v6 : Int32) (s0 : Int32) (M : Mm), GO X md_MD_folds (QE X rvU Z) 295 [some (rf (kG X) 78), none, some (.int v2), some (.int v3), some (.int v4), some (.int v5), some (.int v6), none] [.int s0] Z M (f_MD_folds_295 rec81 v2 v3 v4 v5 v6 s0 M) := by
  intro v2 v3 v4 v5 v6 s0 M
  unfold f_MD_folds_295
  refine g_istore_n e_MD_folds_295 (by decide) rfl ?_
  refine g_iload e_MD_folds_296 rfl ?_
  refine g_iconst (x := (2 : Int32)) e_MD_folds_298 (by decide) ?_
  refine g_icmp_le e_MD_folds_299 (fun c21 => ?_) (fun c21 => ?_)
  · refine g_iload_n e_MD_folds_308 rfl ?_
    exact g_wq (t_MD_folds_309 hz (hr81) s0 v3 v4 v5 v6 v2 M) ⟨rfl, rfl, rfl, rfl, rfl, rfl, trivial⟩
  · refine g_iload_n e_MD_folds_302 rfl ?_
    refine g_iconst (x := (2 : Int32)) e_MD_folds_303 (by decide) ?_
    refine g_idiv e_MD_folds_304 (by decide) ?_
    refine g_goto e_MD_folds_305 ?_
    exact g_wq (t_MD_folds_309 hz (hr81) s0 v3 v4 v5 v6 (v2 / (2 : Int32)) M) ⟨rfl, rfl, rfl, rfl, rfl, rfl, trivial⟩
set_option maxHeartbeats 4000000 in
set_option maxRecDepth 20000 in
theorem t_MD_folds_276 {X : KX} {Z : ZZ} {rec81 : Int32 → Int32 → Int32 → Int32 → Int32 → Mm → Option (Unit × Mm)} {rec107 : Int32 → Int32 → Int32 → Int32 → Int32 → Int32 → Int32 → Mm → Option (Unit × Mm)} (hz : FU Z) (hr81 : ∀ (v1 : Int32) (v2 : Int32) (v3 : Int32) (v4 : Int32) (v5 : Int32) (M : Mm), GO X md_MD_folds (QE X rvU Z) 81 [some (rf (kG X) 78), some (.int v1), some (.int v2), some (.int v3), some (.int v4), some (.int v5), none, none] [] Z M (rec81 v1 v2 v3 v4 v5 M)) (hr107 : ∀ (v1 : Int32) (v2 : Int32) (v3 : Int32) (v4 : Int32) (v5 : Int32) (v6 : Int32) (v7 : Int32) (M : Mm), GO X md_MD_folds (QE X rvU Z) 107 [some (rf (kG X) 78), some (.int v1), some (.int v2), some (.int v3), some (.int v4), some (.int v5), some (.int v6), some (.int v7)] [] Z M (rec107 v1 v2 v3 v4 v5 v6 v7 M)) : ∀ (v1 : Int32) (v2 : Int32) (v3 : Int32) (v4 : Int32) (v5 : Int32) (v6 : Int32) (v7 : Int32) (M : Mm), GO X md_MD_folds (QE X rvU Z) 276 [some (rf (kG X) 78), some (.int v1), some (.int v2), some (.int v3), some (.int v4), some (.int v5), some (.int v6), some (.int v7)] [] Z M (f_MD_folds_276 rec81 rec107 v1 v2 v3 v4 v5 v6 v7 M) := by
  intro v1 v2 v3 v4 v5 v6 v7 M
  unfold f_MD_folds_276
  refine g_iincL (c := (1 : Int32)) e_MD_folds_276 rfl (by decide) (by decide) rfl (fun x39 => ?_)
  refine g_goto e_MD_folds_279 ?_
  exact g_wq (hr107 v1 v2 v3 v4 v5 v6 x39 M) ⟨rfl, rfl, rfl, rfl, rfl, rfl, rfl, rfl, trivial⟩
set_option maxHeartbeats 4000000 in
set_option maxRecDepth 20000 in
theorem t_MD_folds_260 {X : KX} {Z : ZZ} {rec81 : Int32 → Int32 → Int32 → Int32 → Int32 → Mm → Option (Unit × Mm)} {rec107 : Int32 → Int32 → Int32 → Int32 → Int32 → Int32 → Int32 → Mm → Option (Unit × Mm)} (hz : FU Z) (hr81 : ∀ (v1 : Int32) (v2 : Int32) (v3 : Int32) (v4 : Int32) (v5 : Int32) (M : Mm), GO X md_MD_folds (QE X rvU Z) 81 [some (rf (kG X) 78), some (.int v1), some (.int v2), some (.int v3), some (.int v4), some (.int v5), none, none] [] Z M (rec81 v1 v2 v3 v4 v5 M)) (hr107 : ∀ (v1 : Int32) (v2 : Int32) (v3 : Int32) (v4 : Int32) (v5 : Int32) (v6 : Int32) (v7 : Int32) (M : Mm), GO X md_MD_folds (QE X rvU Z) 107 [some (rf (kG X) 78), some (.int v1), some (.int v2), some (.int v3), some (.int v4), some (.int v5), some (.int v6), some (.int v7)] [] Z M (rec107 v1 v2 v3 v4 v5 v6 v7 M)) : ∀ (v1 : Int32) (v2 : Int32) (v3 : Int32) (v4 : Int32) (v5 : Int32) (v6 : Int32) (v7 : Int32) (s0 : Int32) (s1 : Int32) (M : Mm), GO X md_MD_folds (QE X rvU Z) 260 [some (rf (kG X) 78), some (.int v1), some (.int v2), some (.int v3), some (.int v4), some (.int v5), some (.int v6), some (.int v7)] [.int s0, .int s1, rf (kG X) 83] Z M (f_MD_folds_260 rec81 rec107 v1 v2 v3 v4 v5 v6 v7 s0 s1 M) := by
  intro v1 v2 v3 v4 v5 v6 v7 s0 s1 M
  unfold f_MD_folds_260
  refine g_iastG (n := 16) e_MD_folds_260 ⟨kq_83, by decide⟩ (hz.lt kq_83 (by decide)) (fun M47 => ?_)
  refine g_goto e_MD_folds_261 ?_
  exact g_wq (t_MD_folds_276 hz (hr81) (hr107) v1 v2 v3 v4 v5 v6 v7 M47) ⟨rfl, rfl, rfl, rfl, rfl, rfl, rfl, rfl, trivial⟩
set_option maxHeartbeats 4000000 in
set_option maxRecDepth 20000 in
theorem t_MD_folds_193 {X : KX} {Z : ZZ} {rec81 : Int32 → Int32 → Int32 → Int32 → Int32 → Mm → Option (Unit × Mm)} {rec107 : Int32 → Int32 → Int32 → Int32 → Int32 → Int32 → Int32 → Mm → Option (Unit × Mm)} (hz : FU Z) (hr81 : ∀ (v1 : Int32) (v2 : Int32) (v3 : Int32) (v4 : Int32) (v5 : Int32) (M : Mm), GO X md_MD_folds (QE X rvU Z) 81 [some (rf (kG X) 78), some (.int v1), some (.int v2), some (.int v3), some (.int v4), some (.int v5), none, none] [] Z M (rec81 v1 v2 v3 v4 v5 M)) (hr107 : ∀ (v1 : Int32) (v2 : Int32) (v3 : Int32) (v4 : Int32) (v5 : Int32) (v6 : Int32) (v7 : Int32) (M : Mm), GO X md_MD_folds (QE X rvU Z) 107 [some (rf (kG X) 78), some (.int v1), some (.int v2), some (.int v3), some (.int v4), some (.int v5), some (.int v6), some (.int v7)] [] Z M (rec107 v1 v2 v3 v4 v5 v6 v7 M)) : ∀ (v1 : Int32) (v2 : Int32) (v3 : Int32) (v4 : Int32) (v5 : Int32) (v6 : Int32) (v7 : Int32) (s0 : Int32) (s1 : Int32) (M : Mm), GO X md_MD_folds (QE X rvU Z) 193 [some (rf (kG X) 78), some (.int v1), some (.int v2), some (.int v3), some (.int v4), some (.int v5), some (.int v6), some (.int v7)] [.int s0, .int s1, rf (kG X) 79] Z M (f_MD_folds_193 rec81 rec107 v1 v2 v3 v4 v5 v6 v7 s0 s1 M) := by
  intro v1 v2 v3 v4 v5 v6 v7 s0 s1 M
  unfold f_MD_folds_193
  refine g_iastG (n := 16) e_MD_folds_193 ⟨kq_79, by decide⟩ (hz.lt kq_79 (by decide)) (fun M43 => ?_)
  refine g_aload_n e_MD_folds_194 rfl ?_
  refine g_getRZ (kz := 81) e_MD_folds_195 fl_MD_31 hz kq_78 (by decide) fj_10_9 rfl ?_
  refine g_iload e_MD_folds_198 rfl ?_
  refine g_iload e_MD_folds_200 rfl ?_
  refine g_iconst (x := (1 : Int32)) e_MD_folds_202 (by decide) ?_
  refine g_isub e_MD_folds_203 ?_
  refine g_aload_n e_MD_folds_204 rfl ?_
  refine g_getRZ (kz := 81) e_MD_folds_205 fl_MD_31 hz kq_78 (by decide) fj_10_9 rfl ?_
  refine g_iload e_MD_folds_208 rfl ?_
  refine g_ialdG (n := 16) e_MD_folds_210 ⟨kq_81, by decide⟩ (hz.lt kq_81 (by decide)) ?_
  refine g_isub e_MD_folds_211 ?_
  refine g_iastG (n := 16) e_MD_folds_212 ⟨kq_81, by decide⟩ (hz.lt kq_81 (by decide)) (fun M44 => ?_)
  refine g_aload_n e_MD_folds_213 rfl ?_
  refine g_getRZ (kz := 82) e_MD_folds_214 fl_MD_34 hz kq_78 (by decide) fj_10_10 rfl ?_
  refine g_iload e_MD_folds_217 rfl ?_
  refine g_iconst (x := (1 : Int32)) e_MD_folds_219 (by decide) ?_
  refine g_aload_n e_MD_folds_220 rfl ?_
  refine g_getRZ (kz := 82) e_MD_folds_221 fl_MD_34 hz kq_78 (by decide) fj_10_10 rfl ?_
  refine g_iload e_MD_folds_224 rfl ?_
  refine g_ialdG (n := 16) e_MD_folds_226 ⟨kq_82, by decide⟩ (hz.lt kq_82 (by decide)) ?_
  refine g_isub e_MD_folds_227 ?_
  refine g_iastG (n := 16) e_MD_folds_228 ⟨kq_82, by decide⟩ (hz.lt kq_82 (by decide)) (fun M45 => ?_)
  refine g_aload_n e_MD_folds_229 rfl ?_
  refine g_getRZ (kz := 83) e_MD_folds_230 fl_MD_37 hz kq_78 (by decide) fj_10_11 rfl ?_
  refine g_iload e_MD_folds_233 rfl ?_
  refine g_iload e_MD_folds_235 rfl ?_
  refine g_iconst (x := (2 : Int32)) e_MD_folds_237 (by decide) ?_
  refine g_icmp_le e_MD_folds_238 (fun c46 => ?_) (fun c46 => ?_)
  · refine g_aload_n e_MD_folds_253 rfl ?_
    refine g_getRZ (kz := 83) e_MD_folds_254 fl_MD_37 hz kq_78 (by decide) fj_10_11 rfl ?_
    refine g_iload e_MD_folds_257 rfl ?_
    refine g_ialdG (n := 16) e_MD_folds_259 ⟨kq_83, by decide⟩ (hz.lt kq_83 (by decide)) ?_
    exact g_wq (t_MD_folds_260 hz (hr81) (hr107) v1 v2 v3 v4 v5 v6 v7 (M45.1 83 (Int32.toNatClampNeg v7)) v7 M45) ⟨rfl, rfl, rfl, rfl, rfl, rfl, rfl, rfl, trivial⟩
  · refine g_iconst (x := (1 : Int32)) e_MD_folds_241 (by decide) ?_
    refine g_aload_n e_MD_folds_242 rfl ?_
    refine g_getRZ (kz := 83) e_MD_folds_243 fl_MD_37 hz kq_78 (by decide) fj_10_11 rfl ?_
    refine g_iload e_MD_folds_246 rfl ?_
    refine g_ialdG (n := 16) e_MD_folds_248 ⟨kq_83, by decide⟩ (hz.lt kq_83 (by decide)) ?_
    refine g_isub e_MD_folds_249 ?_
    refine g_goto e_MD_folds_250 ?_
    exact g_wq (t_MD_folds_260 hz (hr81) (hr107) v1 v2 v3 v4 v5 v6 v7 ((1 : Int32) - (M45.1 83 (Int32.toNatClampNeg v7))) v7 M45) ⟨rfl, rfl, rfl, rfl, rfl, rfl, rfl, rfl, trivial⟩
set_option maxHeartbeats 4000000 in
set_option maxRecDepth 20000 in
theorem t_MD_folds_159 {X : KX} {Z : ZZ} {rec81 : Int32 → Int32 → Int32 → Int32 → Int32 → Mm → Option (Unit × Mm)} {rec107 : Int32 → Int32 → Int32 → Int32 → Int32 → Int32 → Int32 → Mm → Option (Unit × Mm)} (hz : FU Z) (hr81 : ∀ (v1 : Int32) (v2 : Int32) (v3 : Int32) (v4 : Int32) (v5 : Int32) (M : Mm), GO X md_MD_folds (QE X rvU Z) 81 [some (rf (kG X) 78), some (.int v1), some (.int v2), some (.int v3), some (.int v4), some (.int v5), none, none] [] Z M (rec81 v1 v2 v3 v4 v5 M)) (hr107 : ∀ (v1 : Int32) (v2 : Int32) (v3 : Int32) (v4 : Int32) (v5 : Int32) (v6 : Int32) (v7 : Int32) (M : Mm), GO X md_MD_folds (QE X rvU Z) 107 [some (rf (kG X) 78), some (.int v1), some (.int v2), some (.int v3), some (.int v4), some (.int v5), some (.int v6), some (.int v7)] [] Z M (rec107 v1 v2 v3 v4 v5 v6 v7 M)) : ∀ (v1 : Int32) (v2 : Int32) (v3 : Int32) (v4 : Int32) (v5 : Int32) (v6 : Int32) (v7 : Int32) (s0 : Int32) (s1 : Int32) (M : Mm), GO X md_MD_folds (QE X rvU Z) 159 [some (rf (kG X) 78), some (.int v1), some (.int v2), some (.int v3), some (.int v4), some (.int v5), some (.int v6), some (.int v7)] [.int s0, .int s1, rf (kG X) 80] Z M (f_MD_folds_159 rec81 rec107 v1 v2 v3 v4 v5 v6 v7 s0 s1 M) := by
  intro v1 v2 v3 v4 v5 v6 v7 s0 s1 M
  unfold f_MD_folds_159
  refine g_iastG (n := 16) e_MD_folds_159 ⟨kq_80, by decide⟩ (hz.lt kq_80 (by decide)) (fun M41 => ?_)
  refine g_aload_n e_MD_folds_160 rfl ?_
  refine g_getRZ (kz := 79) e_MD_folds_161 fl_MD_24 hz kq_78 (by decide) fj_10_7 rfl ?_
  refine g_iload e_MD_folds_164 rfl ?_
  refine g_iload e_MD_folds_166 rfl ?_
  refine g_iconst (x := (2 : Int32)) e_MD_folds_168 (by decide) ?_
  refine g_icmp_le e_MD_folds_169 (fun c42 => ?_) (fun c42 => ?_)
  · refine g_aload_n e_MD_folds_186 rfl ?_
    refine g_getRZ (kz := 79) e_MD_folds_187 fl_MD_24 hz kq_78 (by decide) fj_10_7 rfl ?_
    refine g_iload e_MD_folds_190 rfl ?_
    refine g_ialdG (n := 16) e_MD_folds_192 ⟨kq_79, by decide⟩ (hz.lt kq_79 (by decide)) ?_
    exact g_wq (t_MD_folds_193 hz (hr81) (hr107) v1 v2 v3 v4 v5 v6 v7 (M41.1 79 (Int32.toNatClampNeg v7)) v7 M41) ⟨rfl, rfl, rfl, rfl, rfl, rfl, rfl, rfl, trivial⟩
  · refine g_iload_n e_MD_folds_172 rfl ?_
    refine g_iconst (x := (1 : Int32)) e_MD_folds_173 (by decide) ?_
    refine g_isub e_MD_folds_174 ?_
    refine g_aload_n e_MD_folds_175 rfl ?_
    refine g_getRZ (kz := 79) e_MD_folds_176 fl_MD_24 hz kq_78 (by decide) fj_10_7 rfl ?_
    refine g_iload e_MD_folds_179 rfl ?_
    refine g_ialdG (n := 16) e_MD_folds_181 ⟨kq_79, by decide⟩ (hz.lt kq_79 (by decide)) ?_
    refine g_isub e_MD_folds_182 ?_
    refine g_goto e_MD_folds_183 ?_
    exact g_wq (t_MD_folds_193 hz (hr81) (hr107) v1 v2 v3 v4 v5 v6 v7 ((v2 - (1 : Int32)) - (M41.1 79 (Int32.toNatClampNeg v7))) v7 M41) ⟨rfl, rfl, rfl, rfl, rfl, rfl, rfl, rfl, trivial⟩
set_option maxHeartbeats 4000000 in
set_option maxRecDepth 20000 in
theorem t_MD_folds_107 {X : KX} {Z : ZZ} {rec81 : Int32 → Int32 → Int32 → Int32 → Int32 → Mm → Option (Unit × Mm)} (hz : FU Z) (hr81 : ∀ (v1 : Int32) (v2 : Int32) (v3 : Int32) (v4 : Int32) (v5 : Int32) (M : Mm), GO X md_MD_folds (QE X rvU Z) 81 [some (rf (kG X) 78), some (.int v1), some (.int v2), some (.int v3), some (.int v4), some (.int v5), none, none] [] Z M (rec81 v1 v2 v3 v4 v5 M)) : ∀ (n : Nat) (v1 : Int32) (v2 : Int32) (v3 : Int32) (v4 : Int32) (v5 : Int32) (v6 : Int32) (v7 : Int32) (M : Mm), GO X md_MD_folds (QE X rvU Z) 107 [some (rf (kG X) 78), some (.int v1), some (.int v2), some (.int v3), some (.int v4), some (.int v5), some (.int v6), some (.int v7)] [] Z M (f_MD_folds_107 rec81 n v1 v2 v3 v4 v5 v6 v7 M) := by
  intro n
  induction n with
  | zero =>
    intro v1 v2 v3 v4 v5 v6 v7 M
    exact g_none
  | succ n ih =>
    intro v1 v2 v3 v4 v5 v6 v7 M
    rw [f_MD_folds_107_s]
    refine g_iload e_MD_folds_107 rfl ?_
    refine g_iload_n e_MD_folds_109 rfl ?_
    refine g_icmp_ge e_MD_folds_110 (fun c19 => ?_) (fun c19 => ?_)
    · refine g_iload e_MD_folds_282 rfl ?_
      refine g_iconst (x := (2 : Int32)) e_MD_folds_284 (by decide) ?_
      refine g_icmp_gt e_MD_folds_285 (fun c20 => ?_) (fun c20 => ?_)
      · refine g_iload_n e_MD_folds_294 rfl ?_
        exact g_wq (t_MD_folds_295 hz (hr81) v2 v3 v4 v5 v6 v1 M) ⟨rfl, rfl, rfl, rfl, rfl, rfl, trivial⟩
      · refine g_iload_n e_MD_folds_288 rfl ?_
        refine g_iconst (x := (2 : Int32)) e_MD_folds_289 (by decide) ?_
        refine g_idiv e_MD_folds_290 (by decide) ?_
        refine g_goto e_MD_folds_291 ?_
        exact g_wq (t_MD_folds_295 hz (hr81) v2 v3 v4 v5 v6 (v1 / (2 : Int32)) M) ⟨rfl, rfl, rfl, rfl, rfl, rfl, trivial⟩
    · refine g_aload_n e_MD_folds_113 rfl ?_
      refine g_iload e_MD_folds_114 rfl ?_
      refine g_iload e_MD_folds_116 rfl ?_
      refine g_iload_n e_MD_folds_118 rfl ?_
      refine g_iload_n e_MD_folds_119 rfl ?_
      refine g_callV (rv := rvI) (As := [.int v7, .int v6, .int v1, .int v2]) (st := []) e_MD_folds_120 mv_MD_114 my_MD_moves (by decide) rfl rfl kq_78 (hz.lt kq_78) rfl (Nat.le_of_ble_eq_true rfl) rfl (fun r M1 h => c_MD_moves hz  h) (fun r35 M34 h36 => ?_)
      refine g_if_eq e_MD_folds_123 (fun c37 => ?_) (fun c37 => ?_)
      · refine g_aload_n e_MD_folds_264 rfl ?_
        refine g_getRZ (kz := 81) e_MD_folds_265 fl_MD_31 hz kq_78 (by decide) fj_10_9 rfl ?_
        refine g_iload e_MD_folds_268 rfl ?_
        refine g_dup2 e_MD_folds_270 rfl rfl ?_
        refine g_ialdG (n := 16) e_MD_folds_271 ⟨kq_81, by decide⟩ (hz.lt kq_81 (by decide)) ?_
        refine g_iload e_MD_folds_272 rfl ?_
        refine g_iadd e_MD_folds_274 ?_
        refine g_iastG (n := 16) e_MD_folds_275 ⟨kq_81, by decide⟩ (hz.lt kq_81 (by decide)) (fun M38 => ?_)
        exact g_wq (t_MD_folds_276 hz (hr81) (ih) v1 v2 v3 v4 v5 v6 v7 M38) ⟨rfl, rfl, rfl, rfl, rfl, rfl, rfl, rfl, trivial⟩
      · refine g_aload_n e_MD_folds_126 rfl ?_
        refine g_getRZ (kz := 80) e_MD_folds_127 fl_MD_28 hz kq_78 (by decide) fj_10_8 rfl ?_
        refine g_iload e_MD_folds_130 rfl ?_
        refine g_iload e_MD_folds_132 rfl ?_
        refine g_iconst (x := (2 : Int32)) e_MD_folds_134 (by decide) ?_
        refine g_icmp_gt e_MD_folds_135 (fun c40 => ?_) (fun c40 => ?_)
        · refine g_aload_n e_MD_folds_152 rfl ?_
          refine g_getRZ (kz := 80) e_MD_folds_153 fl_MD_28 hz kq_78 (by decide) fj_10_8 rfl ?_
          refine g_iload e_MD_folds_156 rfl ?_
          refine g_ialdG (n := 16) e_MD_folds_158 ⟨kq_80, by decide⟩ (hz.lt kq_80 (by decide)) ?_
          exact g_wq (t_MD_folds_159 hz (hr81) (ih) v1 v2 v3 v4 v5 v6 v7 (M34.1 80 (Int32.toNatClampNeg v7)) v7 M34) ⟨rfl, rfl, rfl, rfl, rfl, rfl, rfl, rfl, trivial⟩
        · refine g_iload_n e_MD_folds_138 rfl ?_
          refine g_iconst (x := (1 : Int32)) e_MD_folds_139 (by decide) ?_
          refine g_isub e_MD_folds_140 ?_
          refine g_aload_n e_MD_folds_141 rfl ?_
          refine g_getRZ (kz := 80) e_MD_folds_142 fl_MD_28 hz kq_78 (by decide) fj_10_8 rfl ?_
          refine g_iload e_MD_folds_145 rfl ?_
          refine g_ialdG (n := 16) e_MD_folds_147 ⟨kq_80, by decide⟩ (hz.lt kq_80 (by decide)) ?_
          refine g_isub e_MD_folds_148 ?_
          refine g_goto e_MD_folds_149 ?_
          exact g_wq (t_MD_folds_159 hz (hr81) (ih) v1 v2 v3 v4 v5 v6 v7 ((v1 - (1 : Int32)) - (M34.1 80 (Int32.toNatClampNeg v7))) v7 M34) ⟨rfl, rfl, rfl, rfl, rfl, rfl, rfl, rfl, trivial⟩
set_option maxHeartbeats 4000000 in
set_option maxRecDepth 20000 in
theorem t_MD_folds_81 {X : KX} {Z : ZZ} (hz : FU Z) : ∀ (n : Nat) (v1 : Int32) (v2 : Int32) (v3 : Int32) (v4 : Int32) (v5 : Int32) (M : Mm), GO X md_MD_folds (QE X rvU Z) 81 [some (rf (kG X) 78), some (.int v1), some (.int v2), some (.int v3), some (.int v4), some (.int v5), none, none] [] Z M (f_MD_folds_81 n v1 v2 v3 v4 v5 M) := by
  intro n
  induction n with
  | zero =>
    intro v1 v2 v3 v4 v5 M
    exact g_none
  | succ n ih =>
    intro v1 v2 v3 v4 v5 M
    rw [f_MD_folds_81_s]
    refine g_iload e_MD_folds_81 rfl ?_
    refine g_aload_n e_MD_folds_83 rfl ?_
    refine g_getI e_MD_folds_84 fl_MD_9 kq_78 (hz.lt kq_78) fj_10_1 ?_
    refine g_callS (rv := rvI) (As := [.int (M.1 78 1)]) (st := [.int v5]) e_MD_folds_87 ms_MD_96 my_MD_figuresOf (by decide) rfl rfl (Nat.le_of_ble_eq_true rfl) (fun r M1 h => c_MD_figuresOf hz  h) (fun r10 M9 h11 => ?_)
    refine g_icmp_ge e_MD_folds_90 (fun c12 => ?_) (fun c12 => ?_)
    · refine g_iconst (x := (0 : Int32)) e_MD_folds_379 (by decide) ?_
      refine g_istore e_MD_folds_380 (by decide) rfl ?_
      exact g_wq (t_MD_folds_382 hz fuel v3 (0 : Int32) M9) ⟨rfl, rfl, rfl, trivial⟩
    · refine g_aload_n e_MD_folds_93 rfl ?_
      refine g_getI e_MD_folds_94 fl_MD_9 kq_78 (hz.lt kq_78) fj_10_1 ?_
      refine g_iload e_MD_folds_97 rfl ?_
      refine g_callS (rv := rvI) (As := [.int (M9.1 78 1), .int v5]) (st := []) e_MD_folds_99 ms_MD_110 my_MD_figure (by decide) rfl rfl (Nat.le_of_ble_eq_true rfl) (fun r M1 h => c_MD_figure hz  h) (fun r17 M16 h18 => ?_)
      refine g_istore e_MD_folds_102 (by decide) rfl ?_
      refine g_iconst (x := (0 : Int32)) e_MD_folds_104 (by decide) ?_
      refine g_istore e_MD_folds_105 (by decide) rfl ?_
      exact g_wq (t_MD_folds_107 hz (ih) fuel v1 v2 v3 v4 v5 r17 (0 : Int32) M16) ⟨rfl, rfl, rfl, rfl, rfl, rfl, rfl, rfl, trivial⟩
set_option maxHeartbeats 4000000 in
set_option maxRecDepth 20000 in
theorem t_MD_folds_17 {X : KX} {Z : ZZ} (hz : FU Z) : ∀ (n : Nat) (v1 : Int32) (v2 : Int32) (v3 : Int32) (v4 : Int32) (M : Mm), GO X md_MD_folds (QE X rvU Z) 17 [some (rf (kG X) 78), some (.int v1), some (.int v2), some (.int v3), some (.int v4), none, none, none] [] Z M (f_MD_folds_17 n v1 v2 v3 v4 M) := by
  intro n
  induction n with
  | zero =>
    intro v1 v2 v3 v4 M
    exact g_none
  | succ n ih =>
    intro v1 v2 v3 v4 M
    rw [f_MD_folds_17_s]
    refine g_iload e_MD_folds_17 rfl ?_
    refine g_iload_n e_MD_folds_19 rfl ?_
    refine g_icmp_ge e_MD_folds_20 (fun c8 => ?_) (fun c8 => ?_)
    · refine g_iconst (x := (1 : Int32)) e_MD_folds_75 (by decide) ?_
      refine g_istore e_MD_folds_76 (by decide) rfl ?_
      refine g_iconst (x := (0 : Int32)) e_MD_folds_78 (by decide) ?_
      refine g_istore e_MD_folds_79 (by decide) rfl ?_
      exact g_wq (t_MD_folds_81 hz fuel v1 v2 v3 (1 : Int32) (0 : Int32) M) ⟨rfl, rfl, rfl, rfl, rfl, rfl, trivial⟩
    · refine g_aload_n e_MD_folds_23 rfl ?_
      refine g_getRZ (kz := 79) e_MD_folds_24 fl_MD_24 hz kq_78 (by decide) fj_10_7 rfl ?_
      refine g_iload e_MD_folds_27 rfl ?_
      refine g_iload e_MD_folds_29 rfl ?_
      refine g_iload_n e_MD_folds_31 rfl ?_
      refine g_idivG e_MD_folds_32 ?_
      refine g_iastG (n := 16) e_MD_folds_33 ⟨kq_79, by decide⟩ (hz.lt kq_79 (by decide)) (fun M48 => ?_)
      refine g_aload_n e_MD_folds_34 rfl ?_
      refine g_getRZ (kz := 80) e_MD_folds_35 fl_MD_28 hz kq_78 (by decide) fj_10_8 rfl ?_
      refine g_iload e_MD_folds_38 rfl ?_
      refine g_iload e_MD_folds_40 rfl ?_
      refine g_iload_n e_MD_folds_42 rfl ?_
      refine g_iremG e_MD_folds_43 ?_
      refine g_iastG (n := 16) e_MD_folds_44 ⟨kq_80, by decide⟩ (hz.lt kq_80 (by decide)) (fun M49 => ?_)
      refine g_aload_n e_MD_folds_45 rfl ?_
      refine g_getRZ (kz := 81) e_MD_folds_46 fl_MD_31 hz kq_78 (by decide) fj_10_9 rfl ?_
      refine g_iload e_MD_folds_49 rfl ?_
      refine g_iconst (x := (0 : Int32)) e_MD_folds_51 (by decide) ?_
      refine g_iastG (n := 16) e_MD_folds_52 ⟨kq_81, by decide⟩ (hz.lt kq_81 (by decide)) (fun M50 => ?_)
      refine g_aload_n e_MD_folds_53 rfl ?_
      refine g_getRZ (kz := 82) e_MD_folds_54 fl_MD_34 hz kq_78 (by decide) fj_10_10 rfl ?_
      refine g_iload e_MD_folds_57 rfl ?_
      refine g_iconst (x := (0 : Int32)) e_MD_folds_59 (by decide) ?_
      refine g_iastG (n := 16) e_MD_folds_60 ⟨kq_82, by decide⟩ (hz.lt kq_82 (by decide)) (fun M51 => ?_)
      refine g_aload_n e_MD_folds_61 rfl ?_
      refine g_getRZ (kz := 83) e_MD_folds_62 fl_MD_37 hz kq_78 (by decide) fj_10_11 rfl ?_
      refine g_iload e_MD_folds_65 rfl ?_
      refine g_iconst (x := (0 : Int32)) e_MD_folds_67 (by decide) ?_
      refine g_iastG (n := 16) e_MD_folds_68 ⟨kq_83, by decide⟩ (hz.lt kq_83 (by decide)) (fun M52 => ?_)
      refine g_iincL (c := (1 : Int32)) e_MD_folds_69 rfl (by decide) (by decide) rfl (fun x53 => ?_)
      refine g_goto e_MD_folds_72 ?_
      exact g_wq (ih v1 v2 v3 x53 M52) ⟨rfl, rfl, rfl, rfl, rfl, trivial⟩
set_option maxHeartbeats 4000000 in
set_option maxRecDepth 20000 in
theorem t_MD_folds {X : KX} {Z : ZZ} {M : Mm} (hz : FU Z) : GO X md_MD_folds (QE X rvU Z) 0 [some (rf (kG X) 78), none, none, none, none, none, none, none] [] Z M (f_MD_folds M) := by
  unfold f_MD_folds
  refine g_aload_n e_MD_folds_0 rfl ?_
  refine g_callV (rv := rvI) (As := []) (st := []) e_MD_folds_1 mv_MD_104 my_MD_w (by decide) rfl rfl kq_78 (hz.lt kq_78) rfl (Nat.le_of_ble_eq_true rfl) rfl (fun r M1 h => c_MD_w hz  h) (fun r2 M1 h3 => ?_)
  refine g_istore_n e_MD_folds_4 (by decide) rfl ?_
  refine g_aload_n e_MD_folds_5 rfl ?_
  refine g_callV (rv := rvI) (As := []) (st := []) e_MD_folds_6 mv_MD_107 my_MD_h (by decide) rfl rfl kq_78 (hz.lt kq_78) rfl (Nat.le_of_ble_eq_true rfl) rfl (fun r M1 h => c_MD_h hz  h) (fun r5 M4 h6 => ?_)
  refine g_istore_n e_MD_folds_9 (by decide) rfl ?_
  refine g_iload_n e_MD_folds_10 rfl ?_
  refine g_iload_n e_MD_folds_11 rfl ?_
  refine g_imul e_MD_folds_12 ?_
  refine g_istoreL_n e_MD_folds_13 (by decide) rfl (fun x7 => ?_)
  refine g_iconst (x := (0 : Int32)) e_MD_folds_14 (by decide) ?_
  refine g_istore e_MD_folds_15 (by decide) rfl ?_
  exact g_wq (t_MD_folds_17 hz fuel r2 r5 x7 (0 : Int32) M4) ⟨rfl, rfl, rfl, rfl, rfl, trivial⟩
set_option maxHeartbeats 4000000 in
set_option maxRecDepth 20000 in
theorem c_MD_folds {l : Launch} {G : KG} {Z : ZZ} {M M' : Mm} {r : Unit} (hz : FU Z) (h : f_MD_folds M = some (r, M')) : CT l G y_MD_folds md_MD_folds 0 0 [rf G 78] Z.2.2.1 Z.2.2.2 M (rvU r) Z.2.2.1 Z.2.2.2 M' :=
  CT.of (Z := (0, 0, Z.2.2.1, Z.2.2.2)) (Z' := (0, 0, Z.2.2.1, Z.2.2.2)) 7 (by decide) rfl ⟨rfl, rfl⟩ (by show 1 ≤ 8; decide) rfl h (fun X _ hG => by subst hG; exact t_MD_folds hz)
set_option maxHeartbeats 4000000 in
set_option maxRecDepth 20000 in
theorem t_MD_perSheet {X : KX} {Z : ZZ} {M : Mm} (hz : FU Z) : GO X md_MD_perSheet (QE X rvI Z) 0 [some (rf (kG X) 78)] [] Z M (f_MD_perSheet M) := by
  unfold f_MD_perSheet
  refine g_iconst (x := (2 : Int32)) e_MD_perSheet_0 (by decide) ?_
  refine g_aload_n e_MD_perSheet_1 rfl ?_
  refine g_callV (rv := rvI) (As := []) (st := [.int (2 : Int32)]) e_MD_perSheet_2 mv_MD_100 my_MD_leaves (by decide) rfl rfl kq_78 (hz.lt kq_78) rfl (Nat.le_of_ble_eq_true rfl) rfl (fun r M1 h => c_MD_leaves hz  h) (fun r2 M1 h3 => ?_)
  refine g_imul e_MD_perSheet_5 ?_
  exact g_iret e_MD_perSheet_6 rfl
set_option maxHeartbeats 4000000 in
set_option maxRecDepth 20000 in
theorem c_MD_perSheet {l : Launch} {G : KG} {Z : ZZ} {M M' : Mm} {r : Int32} (hz : FU Z) (h : f_MD_perSheet M = some (r, M')) : CT l G y_MD_perSheet md_MD_perSheet 0 0 [rf G 78] Z.2.2.1 Z.2.2.2 M (rvI r) Z.2.2.1 Z.2.2.2 M' :=
  CT.of (Z := (0, 0, Z.2.2.1, Z.2.2.2)) (Z' := (0, 0, Z.2.2.1, Z.2.2.2)) 0 (by decide) rfl ⟨rfl, rfl⟩ (by show 1 ≤ 1; decide) rfl h (fun X _ hG => by subst hG; exact t_MD_perSheet hz)
set_option maxHeartbeats 4000000 in
set_option maxRecDepth 20000 in
theorem t_MD_sheets {X : KX} {Z : ZZ} {M : Mm} (hz : FU Z) : GO X md_MD_sheets (QE X rvI Z) 0 [some (rf (kG X) 78)] [] Z M (f_MD_sheets M) := by
  unfold f_MD_sheets
  refine g_aload_n e_MD_sheets_0 rfl ?_
  refine g_getI e_MD_sheets_1 fl_MD_15 kq_78 (hz.lt kq_78) fj_10_2 ?_
  refine g_aload_n e_MD_sheets_4 rfl ?_
  refine g_callV (rv := rvI) (As := []) (st := [.int (M.1 78 2)]) e_MD_sheets_5 mv_MD_118 my_MD_perSheet (by decide) rfl rfl kq_78 (hz.lt kq_78) rfl (Nat.le_of_ble_eq_true rfl) rfl (fun r M1 h => c_MD_perSheet hz  h) (fun r2 M1 h3 => ?_)
  refine g_iadd e_MD_sheets_8 ?_
  refine g_iconst (x := (1 : Int32)) e_MD_sheets_9 (by decide) ?_
  refine g_isub e_MD_sheets_10 ?_
  refine g_aload_n e_MD_sheets_11 rfl ?_
  refine g_callV (rv := rvI) (As := []) (st := [.int (((M.1 78 2) + r2) - (1 : Int32))]) e_MD_sheets_12 mv_MD_118 my_MD_perSheet (by decide) rfl rfl kq_78 (hz.lt kq_78) rfl (Nat.le_of_ble_eq_true rfl) rfl (fun r M1 h => c_MD_perSheet hz  h) (fun r5 M4 h6 => ?_)
  refine g_idivG e_MD_sheets_15 ?_
  exact g_iret e_MD_sheets_16 rfl
set_option maxHeartbeats 4000000 in
set_option maxRecDepth 20000 in
theorem c_MD_sheets {l : Launch} {G : KG} {Z : ZZ} {M M' : Mm} {r : Int32} (hz : FU Z) (h : f_MD_sheets M = some (r, M')) : CT l G y_MD_sheets md_MD_sheets 0 0 [rf G 78] Z.2.2.1 Z.2.2.2 M (rvI r) Z.2.2.1 Z.2.2.2 M' :=
  CT.of (Z := (0, 0, Z.2.2.1, Z.2.2.2)) (Z' := (0, 0, Z.2.2.1, Z.2.2.2)) 0 (by decide) rfl ⟨rfl, rfl⟩ (by show 1 ≤ 1; decide) rfl h (fun X _ hG => by subst hG; exact t_MD_sheets hz)
set_option maxHeartbeats 4000000 in
set_option maxRecDepth 20000 in
theorem t_MD_allPages {X : KX} {Z : ZZ} {M : Mm} (hz : FU Z) : GO X md_MD_allPages (QE X rvI Z) 0 [some (rf (kG X) 78)] [] Z M (f_MD_allPages M) := by
  unfold f_MD_allPages
  refine g_aload_n e_MD_allPages_0 rfl ?_
  refine g_callV (rv := rvI) (As := []) (st := []) e_MD_allPages_1 mv_MD_121 my_MD_sheets (by decide) rfl rfl kq_78 (hz.lt kq_78) rfl (Nat.le_of_ble_eq_true rfl) rfl (fun r M1 h => c_MD_sheets hz  h) (fun r2 M1 h3 => ?_)
  refine g_aload_n e_MD_allPages_4 rfl ?_
  refine g_callV (rv := rvI) (As := []) (st := [.int r2]) e_MD_allPages_5 mv_MD_118 my_MD_perSheet (by decide) rfl rfl kq_78 (hz.lt kq_78) rfl (Nat.le_of_ble_eq_true rfl) rfl (fun r M1 h => c_MD_perSheet hz  h) (fun r5 M4 h6 => ?_)
  refine g_imul e_MD_allPages_8 ?_
  exact g_iret e_MD_allPages_9 rfl
set_option maxHeartbeats 4000000 in
set_option maxRecDepth 20000 in
theorem c_MD_allPages {l : Launch} {G : KG} {Z : ZZ} {M M' : Mm} {r : Int32} (hz : FU Z) (h : f_MD_allPages M = some (r, M')) : CT l G y_MD_allPages md_MD_allPages 0 0 [rf G 78] Z.2.2.1 Z.2.2.2 M (rvI r) Z.2.2.1 Z.2.2.2 M' :=
  CT.of (Z := (0, 0, Z.2.2.1, Z.2.2.2)) (Z' := (0, 0, Z.2.2.1, Z.2.2.2)) 0 (by decide) rfl ⟨rfl, rfl⟩ (by show 1 ≤ 1; decide) rfl h (fun X _ hG => by subst hG; exact t_MD_allPages hz)
set_option maxHeartbeats 4000000 in
set_option maxRecDepth 20000 in
theorem t_MD_isPage {X : KX} {Z : ZZ} {v1 : Int32} {M : Mm} (hz : FU Z) : GO X md_MD_isPage (QE X rvI Z) 0 [some (rf (kG X) 78), some (.int v1)] [] Z M (f_MD_isPage v1 M) := by
  unfold f_MD_isPage
  refine g_iload_n e_MD_isPage_0 rfl ?_
  refine g_iconst (x := (1 : Int32)) e_MD_isPage_1 (by decide) ?_
  refine g_aload_n e_MD_isPage_2 rfl ?_
  refine g_callV (rv := rvI) (As := []) (st := [.int (1 : Int32), .int v1]) e_MD_isPage_3 mv_MD_124 my_MD_allPages (by decide) rfl rfl kq_78 (hz.lt kq_78) rfl (Nat.le_of_ble_eq_true rfl) rfl (fun r M1 h => c_MD_allPages hz  h) (fun r2 M1 h3 => ?_)
  refine g_callS (rv := rvI) (As := [.int v1, .int (1 : Int32), .int r2]) (st := []) e_MD_isPage_6 ms_MD_92 my_MD_in (by decide) rfl rfl (Nat.le_of_ble_eq_true rfl) (fun r M1 h => c_MD_in hz  h) (fun r5 M4 h6 => ?_)
  exact g_zretG e_MD_isPage_9 rfl
set_option maxHeartbeats 4000000 in
set_option maxRecDepth 20000 in
theorem c_MD_isPage {l : Launch} {G : KG} {Z : ZZ} {v1 : Int32} {M M' : Mm} {r : Int32} (hz : FU Z) (h : f_MD_isPage v1 M = some (r, M')) : CT l G y_MD_isPage md_MD_isPage 0 0 [rf G 78, .int v1] Z.2.2.1 Z.2.2.2 M (rvI r) Z.2.2.1 Z.2.2.2 M' :=
  CT.of (Z := (0, 0, Z.2.2.1, Z.2.2.2)) (Z' := (0, 0, Z.2.2.1, Z.2.2.2)) 0 (by decide) rfl ⟨rfl, rfl⟩ (by show 2 ≤ 2; decide) rfl h (fun X _ hG => by subst hG; exact t_MD_isPage hz)
set_option maxHeartbeats 4000000 in
set_option maxRecDepth 20000 in
theorem t_MD_empties {X : KX} {Z : ZZ} {M : Mm} (hz : FU Z) : GO X md_MD_empties (QE X rvU Z) 0 [some (rf (kG X) 78)] [] Z M (f_MD_empties M) := by
  unfold f_MD_empties
  refine g_aload_n e_MD_empties_0 rfl ?_
  refine g_iconst (x := (0 : Int32)) e_MD_empties_1 (by decide) ?_
  refine g_putL e_MD_empties_2 fp_MD_127 kq_78 (hz.lt kq_78) fj_10_16 rfl rfl (fun M1 => ?_)
  refine g_aload_n e_MD_empties_5 rfl ?_
  refine g_iconst (x := (0 : Int32)) e_MD_empties_6 (by decide) ?_
  refine g_putL e_MD_empties_7 fp_MD_130 kq_78 (hz.lt kq_78) fj_10_18 rfl rfl (fun M2 => ?_)
  refine g_aload_n e_MD_empties_10 rfl ?_
  refine g_iconst (x := (0 : Int32)) e_MD_empties_11 (by decide) ?_
  refine g_putL e_MD_empties_12 fp_MD_133 kq_78 (hz.lt kq_78) fj_10_22 rfl rfl (fun M3 => ?_)
  exact g_vret e_MD_empties_15 rfl
set_option maxHeartbeats 4000000 in
set_option maxRecDepth 20000 in
theorem c_MD_empties {l : Launch} {G : KG} {Z : ZZ} {M M' : Mm} {r : Unit} (hz : FU Z) (h : f_MD_empties M = some (r, M')) : CT l G y_MD_empties md_MD_empties 0 0 [rf G 78] Z.2.2.1 Z.2.2.2 M (rvU r) Z.2.2.1 Z.2.2.2 M' :=
  CT.of (Z := (0, 0, Z.2.2.1, Z.2.2.2)) (Z' := (0, 0, Z.2.2.1, Z.2.2.2)) 0 (by decide) rfl ⟨rfl, rfl⟩ (by show 1 ≤ 1; decide) rfl h (fun X _ hG => by subst hG; exact t_MD_empties hz)
set_option maxHeartbeats 4000000 in
set_option maxRecDepth 20000 in
theorem t_MD_fold {X : KX} {Z : ZZ} {v1 : Int32} {M : Mm} (hz : FU Z) : GO X md_MD_fold (QE X rvI Z) 0 [some (rf (kG X) 78), some (.int v1), none] [] Z M (f_MD_fold v1 M) := by
  unfold f_MD_fold
  refine g_iload_n e_MD_fold_0 rfl ?_
  refine g_callS (rv := rvI) (As := [.int v1]) (st := []) e_MD_fold_1 ms_MD_136 my_MD_isFold (by decide) rfl rfl (Nat.le_of_ble_eq_true rfl) (fun r M1 h => c_MD_isFold hz  h) (fun r2 M1 h3 => ?_)
  refine g_if_ne e_MD_fold_4 (fun c4 => ?_) (fun c4 => ?_)
  · refine g_aload_n e_MD_fold_10 rfl ?_
    refine g_getI e_MD_fold_11 fl_MD_9 kq_78 (hz.lt kq_78) fj_10_1 ?_
    refine g_istoreL_n e_MD_fold_14 (by decide) rfl (fun x5 => ?_)
    refine g_aload_n e_MD_fold_15 rfl ?_
    refine g_iload_n e_MD_fold_16 rfl ?_
    refine g_putL e_MD_fold_17 fp_MD_9 kq_78 (hz.lt kq_78) fj_10_1 rfl rfl (fun M6 => ?_)
    refine g_iload_n e_MD_fold_20 rfl ?_
    refine g_iload_n e_MD_fold_21 rfl ?_
    refine g_icmp_eq e_MD_fold_22 (fun c7 => ?_) (fun c7 => ?_)
    · refine g_iload_n e_MD_fold_29 rfl ?_
      exact g_iret e_MD_fold_30 rfl
    · refine g_aload_n e_MD_fold_25 rfl ?_
      refine g_callV (rv := rvU) (As := []) (st := []) e_MD_fold_26 mv_MD_140 my_MD_empties (by decide) rfl rfl kq_78 (hz.lt kq_78) rfl (Nat.le_of_ble_eq_true rfl) rfl (fun r M1 h => c_MD_empties hz  h) (fun r9 M8 h10 => ?_)
      refine g_iload_n e_MD_fold_29 rfl ?_
      exact g_iret e_MD_fold_30 rfl
  · refine g_bipush (x := (-2 : Int32)) e_MD_fold_7 (by decide) ?_
    exact g_iret e_MD_fold_9 rfl
set_option maxHeartbeats 4000000 in
set_option maxRecDepth 20000 in
theorem c_MD_fold {l : Launch} {G : KG} {Z : ZZ} {v1 : Int32} {M M' : Mm} {r : Int32} (hz : FU Z) (h : f_MD_fold v1 M = some (r, M')) : CT l G y_MD_fold md_MD_fold 0 0 [rf G 78, .int v1] Z.2.2.1 Z.2.2.2 M (rvI r) Z.2.2.1 Z.2.2.2 M' :=
  CT.of (Z := (0, 0, Z.2.2.1, Z.2.2.2)) (Z' := (0, 0, Z.2.2.1, Z.2.2.2)) 1 (by decide) rfl ⟨rfl, rfl⟩ (by show 2 ≤ 3; decide) rfl h (fun X _ hG => by subst hG; exact t_MD_fold hz)
set_option maxHeartbeats 4000000 in
set_option maxRecDepth 20000 in
theorem t_MD_isSet {X : KX} {Z : ZZ} {v0 : Int32} {v1 : Int32} {M : Mm} (hz : FU Z) : GO X md_MD_isSet (QE X rvI Z) 0 [some (.int v0), some (.int v1)] [] Z M (f_MD_isSet v0 v1 M) := by
  unfold f_MD_isSet
  refine g_iload_n e_MD_isSet_0 rfl ?_
  refine g_ite (fun c1 => ?_) (fun c1 => ?_)
  · refine g_tswI e_MD_isSet_1.1 (0 : Int32) c1 (off := 31) (tgt := 32) (by decide) ?_
    refine g_iload_n e_MD_isSet_32 rfl ?_
    refine g_iconst (x := (1 : Int32)) e_MD_isSet_33 (by decide) ?_
    refine g_sipush (x := (128 : Int32)) e_MD_isSet_34 (by decide) ?_
    refine g_callS (rv := rvI) (As := [.int v1, .int (1 : Int32), .int (128 : Int32)]) (st := []) e_MD_isSet_37 ms_MD_92 my_MD_in (by decide) rfl rfl (Nat.le_of_ble_eq_true rfl) (fun r M1 h => c_MD_in hz  h) (fun r3 M2 h4 => ?_)
    exact g_zretG e_MD_isSet_40 rfl
  refine g_ite (fun c5 => ?_) (fun c5 => ?_)
  · refine g_hav (pq := 41) (lsq := [some (.int v0), some (.int v1)]) (stq := []) ?_ (fun hq => ?_)
    · refine g_iload_n e_MD_isSet_41 rfl ?_
      refine g_iconst (x := (0 : Int32)) e_MD_isSet_42 (by decide) ?_
      refine g_iconst (x := (1 : Int32)) e_MD_isSet_43 (by decide) ?_
      refine g_callS (rv := rvI) (As := [.int v1, .int (0 : Int32), .int (1 : Int32)]) (st := []) e_MD_isSet_44 ms_MD_92 my_MD_in (by decide) rfl rfl (Nat.le_of_ble_eq_true rfl) (fun r M1 h => c_MD_in hz  h) (fun r7 M6 h8 => ?_)
      exact g_zretG e_MD_isSet_47 rfl
    · rcases c5 with c5 | c5
      · exact g_tswI e_MD_isSet_1.1 (1 : Int32) c5 (off := 40) (tgt := 41) (by decide) hq
      · exact g_tswI e_MD_isSet_1.1 (2 : Int32) c5 (off := 40) (tgt := 41) (by decide) hq
  refine g_ite (fun c9 => ?_) (fun c9 => ?_)
  · refine g_tswI e_MD_isSet_1.1 (3 : Int32) c9 (off := 47) (tgt := 48) (by decide) ?_
    refine g_iload_n e_MD_isSet_48 rfl ?_
    refine g_iconst (x := (0 : Int32)) e_MD_isSet_49 (by decide) ?_
    refine g_ldc (x := (1000000 : Int32)) e_MD_isSet_50 w_974 ?_
    refine g_callS (rv := rvI) (As := [.int v1, .int (0 : Int32), .int (1000000 : Int32)]) (st := []) e_MD_isSet_52 ms_MD_92 my_MD_in (by decide) rfl rfl (Nat.le_of_ble_eq_true rfl) (fun r M1 h => c_MD_in hz  h) (fun r11 M10 h12 => ?_)
    exact g_zretG e_MD_isSet_55 rfl
  refine g_hav (pq := 56) (lsq := [some (.int v0), some (.int v1)]) (stq := []) ?_ (fun hq => ?_)
  · refine g_iload_n e_MD_isSet_56 rfl ?_
    refine g_iconst (x := (1 : Int32)) e_MD_isSet_57 (by decide) ?_
    refine g_ldc (x := (100000 : Int32)) e_MD_isSet_58 w_975 ?_
    refine g_callS (rv := rvI) (As := [.int v1, .int (1 : Int32), .int (100000 : Int32)]) (st := []) e_MD_isSet_60 ms_MD_92 my_MD_in (by decide) rfl rfl (Nat.le_of_ble_eq_true rfl) (fun r M1 h => c_MD_in hz  h) (fun r14 M13 h15 => ?_)
    exact g_zretG e_MD_isSet_63 rfl
  · refine g_tswO e_MD_isSet_1.1 (tgt := 56) (by decide) (sw_out (fun q h1 h2 => ?_)) hq
    rcases (show q = 0 ∨ q = 1 ∨ q = 2 ∨ q = 3 by omega) with rfl | rfl | rfl | rfl
    · exact c1
    · exact (not_or.mp c5).1
    · exact (not_or.mp c5).2
    · exact c9
set_option maxHeartbeats 4000000 in
set_option maxRecDepth 20000 in
theorem c_MD_isSet {l : Launch} {G : KG} {Z : ZZ} {v0 : Int32} {v1 : Int32} {M M' : Mm} {r : Int32} (hz : FU Z) (h : f_MD_isSet v0 v1 M = some (r, M')) : CT l G y_MD_isSet md_MD_isSet 0 0 [.int v0, .int v1] Z.2.2.1 Z.2.2.2 M (rvI r) Z.2.2.1 Z.2.2.2 M' :=
  CT.of (Z := (0, 0, Z.2.2.1, Z.2.2.2)) (Z' := (0, 0, Z.2.2.1, Z.2.2.2)) 0 (by decide) rfl ⟨rfl, rfl⟩ (by show 2 ≤ 2; decide) rfl h (fun X _ hG => by subst hG; exact t_MD_isSet hz)
set_option maxHeartbeats 4000000 in
set_option maxRecDepth 20000 in
theorem t_MD_held {X : KX} {Z : ZZ} {v1 : Int32} {M : Mm} (hz : FU Z) : GO X md_MD_held (QE X rvI Z) 0 [some (rf (kG X) 78), some (.int v1)] [] Z M (f_MD_held v1 M) := by
  unfold f_MD_held
  refine g_iload_n e_MD_held_0 rfl ?_
  refine g_ite (fun c1 => ?_) (fun c1 => ?_)
  · refine g_tswI e_MD_held_1.1 (0 : Int32) c1 (off := 31) (tgt := 32) (by decide) ?_
    refine g_aload_n e_MD_held_32 rfl ?_
    refine g_getI e_MD_held_33 fl_MD_15 kq_78 (hz.lt kq_78) fj_10_2 ?_
    exact g_iret e_MD_held_36 rfl
  refine g_ite (fun c2 => ?_) (fun c2 => ?_)
  · refine g_tswI e_MD_held_1.1 (1 : Int32) c2 (off := 36) (tgt := 37) (by decide) ?_
    refine g_aload_n e_MD_held_37 rfl ?_
    refine g_getI e_MD_held_38 fl_MD_145 kq_78 (hz.lt kq_78) fj_10_3 ?_
    exact g_iret e_MD_held_41 rfl
  refine g_ite (fun c3 => ?_) (fun c3 => ?_)
  · refine g_tswI e_MD_held_1.1 (2 : Int32) c3 (off := 41) (tgt := 42) (by decide) ?_
    refine g_aload_n e_MD_held_42 rfl ?_
    refine g_getI e_MD_held_43 fl_MD_148 kq_78 (hz.lt kq_78) fj_10_4 ?_
    exact g_iret e_MD_held_46 rfl
  refine g_ite (fun c4 => ?_) (fun c4 => ?_)
  · refine g_tswI e_MD_held_1.1 (3 : Int32) c4 (off := 46) (tgt := 47) (by decide) ?_
    refine g_aload_n e_MD_held_47 rfl ?_
    refine g_getI e_MD_held_48 fl_MD_18 kq_78 (hz.lt kq_78) fj_10_5 ?_
    exact g_iret e_MD_held_51 rfl
  refine g_hav (pq := 52) (lsq := [some (rf (kG X) 78), some (.int v1)]) (stq := []) ?_ (fun hq => ?_)
  · refine g_aload_n e_MD_held_52 rfl ?_
    refine g_getI e_MD_held_53 fl_MD_21 kq_78 (hz.lt kq_78) fj_10_6 ?_
    exact g_iret e_MD_held_56 rfl
  · refine g_tswO e_MD_held_1.1 (tgt := 52) (by decide) (sw_out (fun q h1 h2 => ?_)) hq
    rcases (show q = 0 ∨ q = 1 ∨ q = 2 ∨ q = 3 by omega) with rfl | rfl | rfl | rfl
    · exact c1
    · exact c2
    · exact c3
    · exact c4
set_option maxHeartbeats 4000000 in
set_option maxRecDepth 20000 in
theorem c_MD_held {l : Launch} {G : KG} {Z : ZZ} {v1 : Int32} {M M' : Mm} {r : Int32} (hz : FU Z) (h : f_MD_held v1 M = some (r, M')) : CT l G y_MD_held md_MD_held 0 0 [rf G 78, .int v1] Z.2.2.1 Z.2.2.2 M (rvI r) Z.2.2.1 Z.2.2.2 M' :=
  CT.of (Z := (0, 0, Z.2.2.1, Z.2.2.2)) (Z' := (0, 0, Z.2.2.1, Z.2.2.2)) 0 (by decide) rfl ⟨rfl, rfl⟩ (by show 2 ≤ 2; decide) rfl h (fun X _ hG => by subst hG; exact t_MD_held hz)
set_option maxHeartbeats 4000000 in
set_option maxRecDepth 20000 in
theorem t_MD_lays {X : KX} {Z : ZZ} {v1 : Int32} {v2 : Int32} {M : Mm} (hz : FU Z) : GO X md_MD_lays (QE X rvU Z) 0 [some (rf (kG X) 78), some (.int v1), some (.int v2)] [] Z M (f_MD_lays v1 v2 M) := by
  unfold f_MD_lays
  refine g_aload_n e_MD_lays_0 rfl ?_
  refine g_iload_n e_MD_lays_1 rfl ?_
  refine g_phi1 13 (fun x2 => [some (rf (kG X) 78), some (.int v1), some (.int v2)]) (fun x2 => [.int x2, rf (kG X) 78]) (fun x2 => ?_) (fun hj20 => ?_)
  · show GO X _ _ 13 [some (rf (kG X) 78), some (.int v1), some (.int v2)] [.int x2, rf (kG X) 78] Z M _
    refine g_putL e_MD_lays_13 fp_MD_15 kq_78 (hz.lt kq_78) fj_10_2 rfl rfl (fun M3 => ?_)
    refine g_aload_n e_MD_lays_16 rfl ?_
    refine g_iload_n e_MD_lays_17 rfl ?_
    refine g_iconst (x := (1 : Int32)) e_MD_lays_18 (by decide) ?_
    refine g_phi1 30 (fun x5 => [some (rf (kG X) 78), some (.int v1), some (.int v2)]) (fun x5 => [.int x5, rf (kG X) 78]) (fun x5 => ?_) (fun hj19 => ?_)
    · show GO X _ _ 30 [some (rf (kG X) 78), some (.int v1), some (.int v2)] [.int x5, rf (kG X) 78] Z M3 _
      refine g_putL e_MD_lays_30 fp_MD_145 kq_78 (hz.lt kq_78) fj_10_3 rfl rfl (fun M6 => ?_)
      refine g_aload_n e_MD_lays_33 rfl ?_
      refine g_iload_n e_MD_lays_34 rfl ?_
      refine g_iconst (x := (2 : Int32)) e_MD_lays_35 (by decide) ?_
      refine g_phi1 47 (fun x8 => [some (rf (kG X) 78), some (.int v1), some (.int v2)]) (fun x8 => [.int x8, rf (kG X) 78]) (fun x8 => ?_) (fun hj18 => ?_)
      · show GO X _ _ 47 [some (rf (kG X) 78), some (.int v1), some (.int v2)] [.int x8, rf (kG X) 78] Z M6 _
        refine g_putL e_MD_lays_47 fp_MD_148 kq_78 (hz.lt kq_78) fj_10_4 rfl rfl (fun M9 => ?_)
        refine g_aload_n e_MD_lays_50 rfl ?_
        refine g_iload_n e_MD_lays_51 rfl ?_
        refine g_iconst (x := (3 : Int32)) e_MD_lays_52 (by decide) ?_
        refine g_phi1 64 (fun x11 => [some (rf (kG X) 78), some (.int v1), some (.int v2)]) (fun x11 => [.int x11, rf (kG X) 78]) (fun x11 => ?_) (fun hj17 => ?_)
        · show GO X _ _ 64 [some (rf (kG X) 78), some (.int v1), some (.int v2)] [.int x11, rf (kG X) 78] Z M9 _
          refine g_putL e_MD_lays_64 fp_MD_18 kq_78 (hz.lt kq_78) fj_10_5 rfl rfl (fun M12 => ?_)
          refine g_aload_n e_MD_lays_67 rfl ?_
          refine g_iload_n e_MD_lays_68 rfl ?_
          refine g_iconst (x := (4 : Int32)) e_MD_lays_69 (by decide) ?_
          refine g_phi1 81 (fun x14 => [none, none, none]) (fun x14 => [.int x14, rf (kG X) 78]) (fun x14 => ?_) (fun hj16 => ?_)
          · show GO X _ _ 81 [none, none, none] [.int x14, rf (kG X) 78] Z M12 _
            refine g_putL e_MD_lays_81 fp_MD_21 kq_78 (hz.lt kq_78) fj_10_6 rfl rfl (fun M15 => ?_)
            exact g_vret e_MD_lays_84 rfl
          · refine g_icmp_ne' e_MD_lays_70 (fun c13 => ?_) (fun c13 => ?_)
            · refine g_aload_n e_MD_lays_77 rfl ?_
              refine g_getI e_MD_lays_78 fl_MD_21 kq_78 (hz.lt kq_78) fj_10_6 ?_
              exact (g_pf c13 (g_lt (g_wq (hj16 (M12.1 78 6)) trivial)))
            · refine g_iload_n e_MD_lays_73 rfl ?_
              refine g_goto e_MD_lays_74 ?_
              exact (g_pt c13 (g_lt (g_wq (hj16 v2) trivial)))
        · refine g_icmp_ne' e_MD_lays_53 (fun c10 => ?_) (fun c10 => ?_)
          · refine g_aload_n e_MD_lays_60 rfl ?_
            refine g_getI e_MD_lays_61 fl_MD_18 kq_78 (hz.lt kq_78) fj_10_5 ?_
            exact (g_pf c10 (g_lt (g_wq (hj17 (M9.1 78 5)) ⟨rfl, rfl, rfl, trivial⟩)))
          · refine g_iload_n e_MD_lays_56 rfl ?_
            refine g_goto e_MD_lays_57 ?_
            exact (g_pt c10 (g_lt (g_wq (hj17 v2) ⟨rfl, rfl, rfl, trivial⟩)))
      · refine g_icmp_ne' e_MD_lays_36 (fun c7 => ?_) (fun c7 => ?_)
        · refine g_aload_n e_MD_lays_43 rfl ?_
          refine g_getI e_MD_lays_44 fl_MD_148 kq_78 (hz.lt kq_78) fj_10_4 ?_
          exact (g_pf c7 (g_lt (g_wq (hj18 (M6.1 78 4)) ⟨rfl, rfl, rfl, trivial⟩)))
        · refine g_iload_n e_MD_lays_39 rfl ?_
          refine g_goto e_MD_lays_40 ?_
          exact (g_pt c7 (g_lt (g_wq (hj18 v2) ⟨rfl, rfl, rfl, trivial⟩)))
    · refine g_icmp_ne' e_MD_lays_19 (fun c4 => ?_) (fun c4 => ?_)
      · refine g_aload_n e_MD_lays_26 rfl ?_
        refine g_getI e_MD_lays_27 fl_MD_145 kq_78 (hz.lt kq_78) fj_10_3 ?_
        exact (g_pf c4 (g_lt (g_wq (hj19 (M3.1 78 3)) ⟨rfl, rfl, rfl, trivial⟩)))
      · refine g_iload_n e_MD_lays_22 rfl ?_
        refine g_goto e_MD_lays_23 ?_
        exact (g_pt c4 (g_lt (g_wq (hj19 v2) ⟨rfl, rfl, rfl, trivial⟩)))
  · refine g_if_ne' e_MD_lays_2 (fun c1 => ?_) (fun c1 => ?_)
    · refine g_aload_n e_MD_lays_9 rfl ?_
      refine g_getI e_MD_lays_10 fl_MD_15 kq_78 (hz.lt kq_78) fj_10_2 ?_
      exact (g_pf c1 (g_lt (g_wq (hj20 (M.1 78 2)) ⟨rfl, rfl, rfl, trivial⟩)))
    · refine g_iload_n e_MD_lays_5 rfl ?_
      refine g_goto e_MD_lays_6 ?_
      exact (g_pt c1 (g_lt (g_wq (hj20 v2) ⟨rfl, rfl, rfl, trivial⟩)))
set_option maxHeartbeats 4000000 in
set_option maxRecDepth 20000 in
theorem c_MD_lays {l : Launch} {G : KG} {Z : ZZ} {v1 : Int32} {v2 : Int32} {M M' : Mm} {r : Unit} (hz : FU Z) (h : f_MD_lays v1 v2 M = some (r, M')) : CT l G y_MD_lays md_MD_lays 0 0 [rf G 78, .int v1, .int v2] Z.2.2.1 Z.2.2.2 M (rvU r) Z.2.2.1 Z.2.2.2 M' :=
  CT.of (Z := (0, 0, Z.2.2.1, Z.2.2.2)) (Z' := (0, 0, Z.2.2.1, Z.2.2.2)) 0 (by decide) rfl ⟨rfl, rfl⟩ (by show 3 ≤ 3; decide) rfl h (fun X _ hG => by subst hG; exact t_MD_lays hz)
set_option maxHeartbeats 4000000 in
set_option maxRecDepth 20000 in
theorem t_MD_set {X : KX} {Z : ZZ} {v1 : Int32} {v2 : Int32} {M : Mm} (hz : FU Z) : GO X md_MD_set (QE X rvI Z) 0 [some (rf (kG X) 78), some (.int v1), some (.int v2), none] [] Z M (f_MD_set v1 v2 M) := by
  unfold f_MD_set
  refine g_iload_n e_MD_set_0 rfl ?_
  refine g_iconst (x := (0 : Int32)) e_MD_set_1 (by decide) ?_
  refine g_iconst (x := (4 : Int32)) e_MD_set_2 (by decide) ?_
  refine g_callS (rv := rvI) (As := [.int v1, .int (0 : Int32), .int (4 : Int32)]) (st := []) e_MD_set_3 ms_MD_92 my_MD_in (by decide) rfl rfl (Nat.le_of_ble_eq_true rfl) (fun r M1 h => c_MD_in hz  h) (fun r2 M1 h3 => ?_)
  refine g_if_ne e_MD_set_6 (fun c4 => ?_) (fun c4 => ?_)
  · refine g_iload_n e_MD_set_11 rfl ?_
    refine g_iload_n e_MD_set_12 rfl ?_
    refine g_callS (rv := rvI) (As := [.int v1, .int v2]) (st := []) e_MD_set_13 ms_MD_151 my_MD_isSet (by decide) rfl rfl (Nat.le_of_ble_eq_true rfl) (fun r M1 h => c_MD_isSet hz  h) (fun r6 M5 h7 => ?_)
    refine g_if_ne e_MD_set_16 (fun c8 => ?_) (fun c8 => ?_)
    · refine g_aload_n e_MD_set_22 rfl ?_
      refine g_iload_n e_MD_set_23 rfl ?_
      refine g_callV (rv := rvI) (As := [.int v1]) (st := []) e_MD_set_24 mv_MD_155 my_MD_held (by decide) rfl rfl kq_78 (hz.lt kq_78) rfl (Nat.le_of_ble_eq_true rfl) rfl (fun r M1 h => c_MD_held hz  h) (fun r10 M9 h11 => ?_)
      refine g_istore_n e_MD_set_27 (by decide) rfl ?_
      refine g_aload_n e_MD_set_28 rfl ?_
      refine g_iload_n e_MD_set_29 rfl ?_
      refine g_iload_n e_MD_set_30 rfl ?_
      refine g_callV (rv := rvU) (As := [.int v1, .int v2]) (st := []) e_MD_set_31 mv_MD_158 my_MD_lays (by decide) rfl rfl kq_78 (hz.lt kq_78) rfl (Nat.le_of_ble_eq_true rfl) rfl (fun r M1 h => c_MD_lays hz  h) (fun r13 M12 h14 => ?_)
      refine g_iload_n e_MD_set_34 rfl ?_
      refine g_iconst (x := (3 : Int32)) e_MD_set_35 (by decide) ?_
      refine g_icmp_ge e_MD_set_36 (fun c15 => ?_) (fun c15 => ?_)
      · refine g_iload_n e_MD_set_48 rfl ?_
        exact g_iret e_MD_set_49 rfl
      · refine g_iload_n e_MD_set_39 rfl ?_
        refine g_iload_n e_MD_set_40 rfl ?_
        refine g_icmp_eq e_MD_set_41 (fun c16 => ?_) (fun c16 => ?_)
        · refine g_iload_n e_MD_set_48 rfl ?_
          exact g_iret e_MD_set_49 rfl
        · refine g_aload_n e_MD_set_44 rfl ?_
          refine g_callV (rv := rvU) (As := []) (st := []) e_MD_set_45 mv_MD_140 my_MD_empties (by decide) rfl rfl kq_78 (hz.lt kq_78) rfl (Nat.le_of_ble_eq_true rfl) rfl (fun r M1 h => c_MD_empties hz  h) (fun r18 M17 h19 => ?_)
          refine g_iload_n e_MD_set_48 rfl ?_
          exact g_iret e_MD_set_49 rfl
    · refine g_bipush (x := (-2 : Int32)) e_MD_set_19 (by decide) ?_
      exact g_iret e_MD_set_21 rfl
  · refine g_iconst (x := (-1 : Int32)) e_MD_set_9 (by decide) ?_
    exact g_iret e_MD_set_10 rfl
set_option maxHeartbeats 4000000 in
set_option maxRecDepth 20000 in
theorem c_MD_set {l : Launch} {G : KG} {Z : ZZ} {v1 : Int32} {v2 : Int32} {M M' : Mm} {r : Int32} (hz : FU Z) (h : f_MD_set v1 v2 M = some (r, M')) : CT l G y_MD_set md_MD_set 0 0 [rf G 78, .int v1, .int v2] Z.2.2.1 Z.2.2.2 M (rvI r) Z.2.2.1 Z.2.2.2 M' :=
  CT.of (Z := (0, 0, Z.2.2.1, Z.2.2.2)) (Z' := (0, 0, Z.2.2.1, Z.2.2.2)) 1 (by decide) rfl ⟨rfl, rfl⟩ (by show 3 ≤ 4; decide) rfl h (fun X _ hG => by subst hG; exact t_MD_set hz)
set_option maxHeartbeats 4000000 in
set_option maxRecDepth 20000 in
theorem t_MD_told {X : KX} {Z : ZZ} {v1 : Int32} {M : Mm} (hz : FU Z) : GO X md_MD_told (QE X rvI Z) 0 [some (rf (kG X) 78), some (.int v1)] [] Z M (f_MD_told v1 M) := by
  unfold f_MD_told
  refine g_iload_n e_MD_told_0 rfl ?_
  refine g_iconst (x := (0 : Int32)) e_MD_told_1 (by decide) ?_
  refine g_iconst (x := (4 : Int32)) e_MD_told_2 (by decide) ?_
  refine g_callS (rv := rvI) (As := [.int v1, .int (0 : Int32), .int (4 : Int32)]) (st := []) e_MD_told_3 ms_MD_92 my_MD_in (by decide) rfl rfl (Nat.le_of_ble_eq_true rfl) (fun r M1 h => c_MD_in hz  h) (fun r2 M1 h3 => ?_)
  refine g_if_eq e_MD_told_6 (fun c4 => ?_) (fun c4 => ?_)
  · refine g_iload_n e_MD_told_15 rfl ?_
    refine g_ite (fun c5 => ?_) (fun c5 => ?_)
    · refine g_tswI e_MD_told_16.1 (5 : Int32) c5 (off := 36) (tgt := 52) (by decide) ?_
      refine g_aload_n e_MD_told_52 rfl ?_
      refine g_getI e_MD_told_53 fl_MD_9 kq_78 (hz.lt kq_78) fj_10_1 ?_
      exact g_iret e_MD_told_56 rfl
    refine g_ite (fun c6 => ?_) (fun c6 => ?_)
    · refine g_tswI e_MD_told_16.1 (6 : Int32) c6 (off := 41) (tgt := 57) (by decide) ?_
      refine g_aload_n e_MD_told_57 rfl ?_
      refine g_callV (rv := rvI) (As := []) (st := []) e_MD_told_58 mv_MD_104 my_MD_w (by decide) rfl rfl kq_78 (hz.lt kq_78) rfl (Nat.le_of_ble_eq_true rfl) rfl (fun r M1 h => c_MD_w hz  h) (fun r8 M7 h9 => ?_)
      exact g_iret e_MD_told_61 rfl
    refine g_ite (fun c10 => ?_) (fun c10 => ?_)
    · refine g_tswI e_MD_told_16.1 (7 : Int32) c10 (off := 46) (tgt := 62) (by decide) ?_
      refine g_aload_n e_MD_told_62 rfl ?_
      refine g_callV (rv := rvI) (As := []) (st := []) e_MD_told_63 mv_MD_107 my_MD_h (by decide) rfl rfl kq_78 (hz.lt kq_78) rfl (Nat.le_of_ble_eq_true rfl) rfl (fun r M1 h => c_MD_h hz  h) (fun r12 M11 h13 => ?_)
      exact g_iret e_MD_told_66 rfl
    refine g_ite (fun c14 => ?_) (fun c14 => ?_)
    · refine g_tswI e_MD_told_16.1 (8 : Int32) c14 (off := 51) (tgt := 67) (by decide) ?_
      refine g_aload_n e_MD_told_67 rfl ?_
      refine g_callV (rv := rvI) (As := []) (st := []) e_MD_told_68 mv_MD_121 my_MD_sheets (by decide) rfl rfl kq_78 (hz.lt kq_78) rfl (Nat.le_of_ble_eq_true rfl) rfl (fun r M1 h => c_MD_sheets hz  h) (fun r16 M15 h17 => ?_)
      exact g_iret e_MD_told_71 rfl
    refine g_ite (fun c18 => ?_) (fun c18 => ?_)
    · refine g_tswI e_MD_told_16.1 (9 : Int32) c18 (off := 56) (tgt := 72) (by decide) ?_
      refine g_aload_n e_MD_told_72 rfl ?_
      refine g_callV (rv := rvI) (As := []) (st := []) e_MD_told_73 mv_MD_124 my_MD_allPages (by decide) rfl rfl kq_78 (hz.lt kq_78) rfl (Nat.le_of_ble_eq_true rfl) rfl (fun r M1 h => c_MD_allPages hz  h) (fun r20 M19 h21 => ?_)
      refine g_aload_n e_MD_told_76 rfl ?_
      refine g_getI e_MD_told_77 fl_MD_15 kq_78 (hz.lt kq_78) fj_10_2 ?_
      refine g_isub e_MD_told_80 ?_
      exact g_iret e_MD_told_81 rfl
    refine g_hav (pq := 82) (lsq := [some (rf (kG X) 78), some (.int v1)]) (stq := []) ?_ (fun hq => ?_)
    · refine g_iconst (x := (-1 : Int32)) e_MD_told_82 (by decide) ?_
      exact g_iret e_MD_told_83 rfl
    · refine g_tswO e_MD_told_16.1 (tgt := 82) (by decide) (sw_out (fun q h1 h2 => ?_)) hq
      rcases (show q = 5 ∨ q = 6 ∨ q = 7 ∨ q = 8 ∨ q = 9 by omega) with rfl | rfl | rfl | rfl | rfl
      · exact c5
      · exact c6
      · exact c10
      · exact c14
      · exact c18
  · refine g_aload_n e_MD_told_9 rfl ?_
    refine g_iload_n e_MD_told_10 rfl ?_
    refine g_callV (rv := rvI) (As := [.int v1]) (st := []) e_MD_told_11 mv_MD_155 my_MD_held (by decide) rfl rfl kq_78 (hz.lt kq_78) rfl (Nat.le_of_ble_eq_true rfl) rfl (fun r M1 h => c_MD_held hz  h) (fun r23 M22 h24 => ?_)
    exact g_iret e_MD_told_14 rfl
set_option maxHeartbeats 4000000 in
set_option maxRecDepth 20000 in
theorem c_MD_told {l : Launch} {G : KG} {Z : ZZ} {v1 : Int32} {M M' : Mm} {r : Int32} (hz : FU Z) (h : f_MD_told v1 M = some (r, M')) : CT l G y_MD_told md_MD_told 0 0 [rf G 78, .int v1] Z.2.2.1 Z.2.2.2 M (rvI r) Z.2.2.1 Z.2.2.2 M' :=
  CT.of (Z := (0, 0, Z.2.2.1, Z.2.2.2)) (Z' := (0, 0, Z.2.2.1, Z.2.2.2)) 0 (by decide) rfl ⟨rfl, rfl⟩ (by show 2 ≤ 2; decide) rfl h (fun X _ hG => by subst hG; exact t_MD_told hz)
set_option maxHeartbeats 4000000 in
set_option maxRecDepth 20000 in
theorem t_MD_sideOf {X : KX} {Z : ZZ} {v1 : Int32} {M : Mm} (hz : FU Z) : GO X md_MD_sideOf (QE X rvI Z) 0 [some (rf (kG X) 78), some (.int v1), none] [] Z M (f_MD_sideOf v1 M) := by
  unfold f_MD_sideOf
  refine g_aload_n e_MD_sideOf_0 rfl ?_
  refine g_getRZ (kz := 82) e_MD_sideOf_1 fl_MD_34 hz kq_78 (by decide) fj_10_10 rfl ?_
  refine g_aload_n e_MD_sideOf_4 rfl ?_
  refine g_getRZ (kz := 84) e_MD_sideOf_5 fl_MD_40 hz kq_78 (by decide) fj_10_12 rfl ?_
  refine g_iload_n e_MD_sideOf_8 rfl ?_
  refine g_iconst (x := (2 : Int32)) e_MD_sideOf_9 (by decide) ?_
  refine g_idiv e_MD_sideOf_10 (by decide) ?_
  refine g_ialdG (n := 16) e_MD_sideOf_11 ⟨kq_84, by decide⟩ (hz.lt kq_84 (by decide)) ?_
  refine g_ialdG (n := 16) e_MD_sideOf_12 ⟨kq_82, by decide⟩ (hz.lt kq_82 (by decide)) ?_
  refine g_istoreL_n e_MD_sideOf_13 (by decide) rfl (fun x1 => ?_)
  refine g_iload_n e_MD_sideOf_14 rfl ?_
  refine g_iconst (x := (2 : Int32)) e_MD_sideOf_15 (by decide) ?_
  refine g_irem e_MD_sideOf_16 (by decide) ?_
  refine g_phi1 27 (fun x3 => [none, none, none]) (fun x3 => [.int x3]) (fun x3 => ?_) (fun hj4 => ?_)
  · show GO X _ _ 27 [none, none, none] [.int x3] Z M _
    exact g_iret e_MD_sideOf_27 rfl
  · refine g_if_ne' e_MD_sideOf_17 (fun c2 => ?_) (fun c2 => ?_)
    · refine g_iconst (x := (1 : Int32)) e_MD_sideOf_24 (by decide) ?_
      refine g_iload_n e_MD_sideOf_25 rfl ?_
      refine g_isub e_MD_sideOf_26 ?_
      exact (g_pf c2 (g_lt (g_wq (hj4 ((1 : Int32) - x1)) trivial)))
    · refine g_iload_n e_MD_sideOf_20 rfl ?_
      refine g_goto e_MD_sideOf_21 ?_
      exact (g_pt c2 (g_lt (g_wq (hj4 x1) trivial)))
set_option maxHeartbeats 4000000 in
set_option maxRecDepth 20000 in
theorem c_MD_sideOf {l : Launch} {G : KG} {Z : ZZ} {v1 : Int32} {M M' : Mm} {r : Int32} (hz : FU Z) (h : f_MD_sideOf v1 M = some (r, M')) : CT l G y_MD_sideOf md_MD_sideOf 0 0 [rf G 78, .int v1] Z.2.2.1 Z.2.2.2 M (rvI r) Z.2.2.1 Z.2.2.2 M' :=
  CT.of (Z := (0, 0, Z.2.2.1, Z.2.2.2)) (Z' := (0, 0, Z.2.2.1, Z.2.2.2)) 1 (by decide) rfl ⟨rfl, rfl⟩ (by show 2 ≤ 3; decide) rfl h (fun X _ hG => by subst hG; exact t_MD_sideOf hz)
set_option maxHeartbeats 4000000 in
set_option maxRecDepth 20000 in
theorem t_MD_run {X : KX} {Z : ZZ} {v1 : Int32} {v2 : Int32} {M : Mm} (hz : FU Z) : GO X md_MD_run (QE X rvI Z) 0 [some (rf (kG X) 78), some (.int v1), some (.int v2), none] [] Z M (f_MD_run v1 v2 M) := by
  unfold f_MD_run
  refine g_iload_n e_MD_run_0 rfl ?_
  refine g_iconst (x := (0 : Int32)) e_MD_run_1 (by decide) ?_
  refine g_aload_n e_MD_run_2 rfl ?_
  refine g_callV (rv := rvI) (As := []) (st := [.int (0 : Int32), .int v1]) e_MD_run_3 mv_MD_118 my_MD_perSheet (by decide) rfl rfl kq_78 (hz.lt kq_78) rfl (Nat.le_of_ble_eq_true rfl) rfl (fun r M1 h => c_MD_perSheet hz  h) (fun r2 M1 h3 => ?_)
  refine g_iconst (x := (1 : Int32)) e_MD_run_6 (by decide) ?_
  refine g_isub e_MD_run_7 ?_
  refine g_callS (rv := rvI) (As := [.int v1, .int (0 : Int32), .int (r2 - (1 : Int32))]) (st := []) e_MD_run_8 ms_MD_92 my_MD_in (by decide) rfl rfl (Nat.le_of_ble_eq_true rfl) (fun r M1 h => c_MD_in hz  h) (fun r5 M4 h6 => ?_)
  refine g_if_ne e_MD_run_11 (fun c7 => ?_) (fun c7 => ?_)
  · refine g_aload_n e_MD_run_16 rfl ?_
    refine g_callV (rv := rvU) (As := []) (st := []) e_MD_run_17 mv_MD_162 my_MD_folds (by decide) rfl rfl kq_78 (hz.lt kq_78) rfl (Nat.le_of_ble_eq_true rfl) rfl (fun r M1 h => c_MD_folds hz  h) (fun r9 M8 h10 => ?_)
    refine g_aload_n e_MD_run_20 rfl ?_
    refine g_getRZ (kz := 84) e_MD_run_21 fl_MD_40 hz kq_78 (by decide) fj_10_12 rfl ?_
    refine g_iload_n e_MD_run_24 rfl ?_
    refine g_iconst (x := (2 : Int32)) e_MD_run_25 (by decide) ?_
    refine g_idiv e_MD_run_26 (by decide) ?_
    refine g_ialdG (n := 16) e_MD_run_27 ⟨kq_84, by decide⟩ (hz.lt kq_84 (by decide)) ?_
    refine g_istoreL_n e_MD_run_28 (by decide) rfl (fun x11 => ?_)
    refine g_iload_n e_MD_run_29 rfl ?_
    refine g_ite (fun c12 => ?_) (fun c12 => ?_)
    · refine g_tswI e_MD_run_30.1 (0 : Int32) c12 (off := 30) (tgt := 60) (by decide) ?_
      refine g_iload_n e_MD_run_60 rfl ?_
      refine g_aload_n e_MD_run_61 rfl ?_
      refine g_callV (rv := rvI) (As := []) (st := [.int x11]) e_MD_run_62 mv_MD_104 my_MD_w (by decide) rfl rfl kq_78 (hz.lt kq_78) rfl (Nat.le_of_ble_eq_true rfl) rfl (fun r M1 h => c_MD_w hz  h) (fun r14 M13 h15 => ?_)
      refine g_idivG e_MD_run_65 ?_
      exact g_iret e_MD_run_66 rfl
    refine g_ite (fun c16 => ?_) (fun c16 => ?_)
    · refine g_tswI e_MD_run_30.1 (1 : Int32) c16 (off := 37) (tgt := 67) (by decide) ?_
      refine g_iload_n e_MD_run_67 rfl ?_
      refine g_aload_n e_MD_run_68 rfl ?_
      refine g_callV (rv := rvI) (As := []) (st := [.int x11]) e_MD_run_69 mv_MD_104 my_MD_w (by decide) rfl rfl kq_78 (hz.lt kq_78) rfl (Nat.le_of_ble_eq_true rfl) rfl (fun r M1 h => c_MD_w hz  h) (fun r18 M17 h19 => ?_)
      refine g_iremG e_MD_run_72 ?_
      exact g_iret e_MD_run_73 rfl
    refine g_ite (fun c20 => ?_) (fun c20 => ?_)
    · refine g_tswI e_MD_run_30.1 (2 : Int32) c20 (off := 44) (tgt := 74) (by decide) ?_
      refine g_aload_n e_MD_run_74 rfl ?_
      refine g_iload_n e_MD_run_75 rfl ?_
      refine g_callV (rv := rvI) (As := [.int v1]) (st := []) e_MD_run_76 mv_MD_165 my_MD_sideOf (by decide) rfl rfl kq_78 (hz.lt kq_78) rfl (Nat.le_of_ble_eq_true rfl) rfl (fun r M1 h => c_MD_sideOf hz  h) (fun r22 M21 h23 => ?_)
      exact g_iret e_MD_run_79 rfl
    refine g_ite (fun c24 => ?_) (fun c24 => ?_)
    · refine g_tswI e_MD_run_30.1 (3 : Int32) c24 (off := 50) (tgt := 80) (by decide) ?_
      refine g_aload_n e_MD_run_80 rfl ?_
      refine g_getRZ (kz := 83) e_MD_run_81 fl_MD_37 hz kq_78 (by decide) fj_10_11 rfl ?_
      refine g_iload_n e_MD_run_84 rfl ?_
      refine g_ialdG (n := 16) e_MD_run_85 ⟨kq_83, by decide⟩ (hz.lt kq_83 (by decide)) ?_
      exact g_iret e_MD_run_86 rfl
    refine g_hav (pq := 87) (lsq := [some (rf (kG X) 78), some (.int v1), some (.int v2), some (.int x11)]) (stq := []) ?_ (fun hq => ?_)
    · refine g_iconst (x := (-1 : Int32)) e_MD_run_87 (by decide) ?_
      exact g_iret e_MD_run_88 rfl
    · refine g_tswO e_MD_run_30.1 (tgt := 87) (by decide) (sw_out (fun q h1 h2 => ?_)) hq
      rcases (show q = 0 ∨ q = 1 ∨ q = 2 ∨ q = 3 by omega) with rfl | rfl | rfl | rfl
      · exact c12
      · exact c16
      · exact c20
      · exact c24
  · refine g_iconst (x := (-1 : Int32)) e_MD_run_14 (by decide) ?_
    exact g_iret e_MD_run_15 rfl
set_option maxHeartbeats 4000000 in
set_option maxRecDepth 20000 in
theorem c_MD_run {l : Launch} {G : KG} {Z : ZZ} {v1 : Int32} {v2 : Int32} {M M' : Mm} {r : Int32} (hz : FU Z) (h : f_MD_run v1 v2 M = some (r, M')) : CT l G y_MD_run md_MD_run 0 0 [rf G 78, .int v1, .int v2] Z.2.2.1 Z.2.2.2 M (rvI r) Z.2.2.1 Z.2.2.2 M' :=
  CT.of (Z := (0, 0, Z.2.2.1, Z.2.2.2)) (Z' := (0, 0, Z.2.2.1, Z.2.2.2)) 1 (by decide) rfl ⟨rfl, rfl⟩ (by show 3 ≤ 4; decide) rfl h (fun X _ hG => by subst hG; exact t_MD_run hz)
set_option maxHeartbeats 4000000 in
set_option maxRecDepth 20000 in
theorem t_MD_pageAt {X : KX} {Z : ZZ} {v1 : Int32} {v2 : Int32} {M : Mm} (hz : FU Z) : GO X md_MD_pageAt (QE X rvI Z) 0 [some (rf (kG X) 78), some (.int v1), some (.int v2), none] [] Z M (f_MD_pageAt v1 v2 M) := by
  unfold f_MD_pageAt
  refine g_aload_n e_MD_pageAt_0 rfl ?_
  refine g_callV (rv := rvI) (As := []) (st := []) e_MD_pageAt_1 mv_MD_118 my_MD_perSheet (by decide) rfl rfl kq_78 (hz.lt kq_78) rfl (Nat.le_of_ble_eq_true rfl) rfl (fun r M1 h => c_MD_perSheet hz  h) (fun r2 M1 h3 => ?_)
  refine g_istore_n e_MD_pageAt_4 (by decide) rfl ?_
  refine g_aload_n e_MD_pageAt_5 rfl ?_
  refine g_getI e_MD_pageAt_6 fl_MD_145 kq_78 (hz.lt kq_78) fj_10_3 ?_
  refine g_if_ne e_MD_pageAt_9 (fun c4 => ?_) (fun c4 => ?_)
  · refine g_iload_n e_MD_pageAt_20 rfl ?_
    refine g_iload_n e_MD_pageAt_21 rfl ?_
    refine g_iconst (x := (2 : Int32)) e_MD_pageAt_22 (by decide) ?_
    refine g_idiv e_MD_pageAt_23 (by decide) ?_
    refine g_icmp_ge e_MD_pageAt_24 (fun c5 => ?_) (fun c5 => ?_)
    · refine g_aload_n e_MD_pageAt_39 rfl ?_
      refine g_callV (rv := rvI) (As := []) (st := []) e_MD_pageAt_40 mv_MD_124 my_MD_allPages (by decide) rfl rfl kq_78 (hz.lt kq_78) rfl (Nat.le_of_ble_eq_true rfl) rfl (fun r M1 h => c_MD_allPages hz  h) (fun r7 M6 h8 => ?_)
      refine g_iload_n e_MD_pageAt_43 rfl ?_
      refine g_iload_n e_MD_pageAt_44 rfl ?_
      refine g_imul e_MD_pageAt_45 ?_
      refine g_iconst (x := (2 : Int32)) e_MD_pageAt_46 (by decide) ?_
      refine g_idiv e_MD_pageAt_47 (by decide) ?_
      refine g_isub e_MD_pageAt_48 ?_
      refine g_iload_n e_MD_pageAt_49 rfl ?_
      refine g_iconst (x := (1 : Int32)) e_MD_pageAt_50 (by decide) ?_
      refine g_isub e_MD_pageAt_51 ?_
      refine g_iload_n e_MD_pageAt_52 rfl ?_
      refine g_isub e_MD_pageAt_53 ?_
      refine g_isub e_MD_pageAt_54 ?_
      exact g_iret e_MD_pageAt_55 rfl
    · refine g_iload_n e_MD_pageAt_27 rfl ?_
      refine g_iload_n e_MD_pageAt_28 rfl ?_
      refine g_imul e_MD_pageAt_29 ?_
      refine g_iconst (x := (2 : Int32)) e_MD_pageAt_30 (by decide) ?_
      refine g_idiv e_MD_pageAt_31 (by decide) ?_
      refine g_iload_n e_MD_pageAt_32 rfl ?_
      refine g_iadd e_MD_pageAt_33 ?_
      refine g_iconst (x := (1 : Int32)) e_MD_pageAt_34 (by decide) ?_
      refine g_iadd e_MD_pageAt_35 ?_
      refine g_goto e_MD_pageAt_36 ?_
      exact g_iret e_MD_pageAt_55 rfl
  · refine g_iload_n e_MD_pageAt_12 rfl ?_
    refine g_iload_n e_MD_pageAt_13 rfl ?_
    refine g_imul e_MD_pageAt_14 ?_
    refine g_iload_n e_MD_pageAt_15 rfl ?_
    refine g_iadd e_MD_pageAt_16 ?_
    refine g_iconst (x := (1 : Int32)) e_MD_pageAt_17 (by decide) ?_
    refine g_iadd e_MD_pageAt_18 ?_
    exact g_iret e_MD_pageAt_19 rfl
set_option maxHeartbeats 4000000 in
set_option maxRecDepth 20000 in
theorem c_MD_pageAt {l : Launch} {G : KG} {Z : ZZ} {v1 : Int32} {v2 : Int32} {M M' : Mm} {r : Int32} (hz : FU Z) (h : f_MD_pageAt v1 v2 M = some (r, M')) : CT l G y_MD_pageAt md_MD_pageAt 0 0 [rf G 78, .int v1, .int v2] Z.2.2.1 Z.2.2.2 M (rvI r) Z.2.2.1 Z.2.2.2 M' :=
  CT.of (Z := (0, 0, Z.2.2.1, Z.2.2.2)) (Z' := (0, 0, Z.2.2.1, Z.2.2.2)) 1 (by decide) rfl ⟨rfl, rfl⟩ (by show 3 ≤ 4; decide) rfl h (fun X _ hG => by subst hG; exact t_MD_pageAt hz)
set_option maxHeartbeats 4000000 in
set_option maxRecDepth 20000 in
theorem t_MD_finds_40 {X : KX} {Z : ZZ} {rec2 : Int32 → Int32 → Mm → Option (Unit × Mm)} {rec12 : Int32 → Int32 → Int32 → Mm → Option (Unit × Mm)} (hz : FU Z) (hr2 : ∀ (v1 : Int32) (v2 : Int32) (M : Mm), GO X md_MD_finds (QE X rvU Z) 2 [some (rf (kG X) 78), some (.int v1), some (.int v2), none] [] Z M (rec2 v1 v2 M)) (hr12 : ∀ (v1 : Int32) (v2 : Int32) (v3 : Int32) (M : Mm), GO X md_MD_finds (QE X rvU Z) 12 [some (rf (kG X) 78), some (.int v1), some (.int v2), some (.int v3)] [] Z M (rec12 v1 v2 v3 M)) : ∀ (v1 : Int32) (v2 : Int32) (v3 : Int32) (M : Mm), GO X md_MD_finds (QE X rvU Z) 40 [some (rf (kG X) 78), some (.int v1), some (.int v2), some (.int v3)] [] Z M (f_MD_finds_40 rec2 rec12 v1 v2 v3 M) := by
  intro v1 v2 v3 M
  unfold f_MD_finds_40
  refine g_iincL (c := (1 : Int32)) e_MD_finds_40 rfl (by decide) (by decide) rfl (fun x14 => ?_)
  refine g_goto e_MD_finds_43 ?_
  exact g_wq (hr12 v1 v2 x14 M) ⟨rfl, rfl, rfl, rfl, trivial⟩
set_option maxHeartbeats 4000000 in
set_option maxRecDepth 20000 in
theorem t_MD_finds_12 {X : KX} {Z : ZZ} {rec2 : Int32 → Int32 → Mm → Option (Unit × Mm)} (hz : FU Z) (hr2 : ∀ (v1 : Int32) (v2 : Int32) (M : Mm), GO X md_MD_finds (QE X rvU Z) 2 [some (rf (kG X) 78), some (.int v1), some (.int v2), none] [] Z M (rec2 v1 v2 M)) : ∀ (n : Nat) (v1 : Int32) (v2 : Int32) (v3 : Int32) (M : Mm), GO X md_MD_finds (QE X rvU Z) 12 [some (rf (kG X) 78), some (.int v1), some (.int v2), some (.int v3)] [] Z M (f_MD_finds_12 rec2 n v1 v2 v3 M) := by
  intro n
  induction n with
  | zero =>
    intro v1 v2 v3 M
    exact g_none
  | succ n ih =>
    intro v1 v2 v3 M
    rw [f_MD_finds_12_s]
    refine g_iload_n e_MD_finds_12 rfl ?_
    refine g_aload_n e_MD_finds_13 rfl ?_
    refine g_callV (rv := rvI) (As := []) (st := [.int v3]) e_MD_finds_14 mv_MD_118 my_MD_perSheet (by decide) rfl rfl kq_78 (hz.lt kq_78) rfl (Nat.le_of_ble_eq_true rfl) rfl (fun r M1 h => c_MD_perSheet hz  h) (fun r6 M5 h7 => ?_)
    refine g_icmp_ge e_MD_finds_17 (fun c8 => ?_) (fun c8 => ?_)
    · refine g_iincL (c := (1 : Int32)) e_MD_finds_46 rfl (by decide) (by decide) rfl (fun x9 => ?_)
      refine g_goto e_MD_finds_49 ?_
      exact g_wq (hr2 v1 x9 M5) ⟨rfl, rfl, rfl, trivial⟩
    · refine g_aload_n e_MD_finds_20 rfl ?_
      refine g_iload_n e_MD_finds_21 rfl ?_
      refine g_iload_n e_MD_finds_22 rfl ?_
      refine g_callV (rv := rvI) (As := [.int v2, .int v3]) (st := []) e_MD_finds_23 mv_MD_168 my_MD_pageAt (by decide) rfl rfl kq_78 (hz.lt kq_78) rfl (Nat.le_of_ble_eq_true rfl) rfl (fun r M1 h => c_MD_pageAt hz  h) (fun r11 M10 h12 => ?_)
      refine g_iload_n e_MD_finds_26 rfl ?_
      refine g_icmp_ne e_MD_finds_27 (fun c13 => ?_) (fun c13 => ?_)
      · exact g_wq (t_MD_finds_40 hz (hr2) (ih) v1 v2 v3 M10) ⟨rfl, rfl, rfl, rfl, trivial⟩
      · refine g_aload_n e_MD_finds_30 rfl ?_
        refine g_iload_n e_MD_finds_31 rfl ?_
        refine g_putL e_MD_finds_32 fp_MD_171 kq_78 (hz.lt kq_78) fj_10_13 rfl rfl (fun M15 => ?_)
        refine g_aload_n e_MD_finds_35 rfl ?_
        refine g_iload_n e_MD_finds_36 rfl ?_
        refine g_putL e_MD_finds_37 fp_MD_174 kq_78 (hz.lt kq_78) fj_10_14 rfl rfl (fun M16 => ?_)
        exact g_wq (t_MD_finds_40 hz (hr2) (ih) v1 v2 v3 M16) ⟨rfl, rfl, rfl, rfl, trivial⟩
set_option maxHeartbeats 4000000 in
set_option maxRecDepth 20000 in
theorem t_MD_finds_2 {X : KX} {Z : ZZ} (hz : FU Z) : ∀ (n : Nat) (v1 : Int32) (v2 : Int32) (M : Mm), GO X md_MD_finds (QE X rvU Z) 2 [some (rf (kG X) 78), some (.int v1), some (.int v2), none] [] Z M (f_MD_finds_2 n v1 v2 M) := by
  intro n
  induction n with
  | zero =>
    intro v1 v2 M
    exact g_none
  | succ n ih =>
    intro v1 v2 M
    rw [f_MD_finds_2_s]
    refine g_iload_n e_MD_finds_2 rfl ?_
    refine g_aload_n e_MD_finds_3 rfl ?_
    refine g_callV (rv := rvI) (As := []) (st := [.int v2]) e_MD_finds_4 mv_MD_121 my_MD_sheets (by decide) rfl rfl kq_78 (hz.lt kq_78) rfl (Nat.le_of_ble_eq_true rfl) rfl (fun r M1 h => c_MD_sheets hz  h) (fun r2 M1 h3 => ?_)
    refine g_icmp_ge e_MD_finds_7 (fun c4 => ?_) (fun c4 => ?_)
    · exact g_vret e_MD_finds_52 rfl
    · refine g_iconst (x := (0 : Int32)) e_MD_finds_10 (by decide) ?_
      refine g_istore_n e_MD_finds_11 (by decide) rfl ?_
      exact g_wq (t_MD_finds_12 hz (ih) fuel v1 v2 (0 : Int32) M1) ⟨rfl, rfl, rfl, rfl, trivial⟩
set_option maxHeartbeats 4000000 in
set_option maxRecDepth 20000 in
theorem t_MD_finds {X : KX} {Z : ZZ} {v1 : Int32} {M : Mm} (hz : FU Z) : GO X md_MD_finds (QE X rvU Z) 0 [some (rf (kG X) 78), some (.int v1), none, none] [] Z M (f_MD_finds v1 M) := by
  unfold f_MD_finds
  refine g_iconst (x := (0 : Int32)) e_MD_finds_0 (by decide) ?_
  refine g_istore_n e_MD_finds_1 (by decide) rfl ?_
  exact g_wq (t_MD_finds_2 hz fuel v1 (0 : Int32) M) ⟨rfl, rfl, rfl, trivial⟩
set_option maxHeartbeats 4000000 in
set_option maxRecDepth 20000 in
theorem c_MD_finds {l : Launch} {G : KG} {Z : ZZ} {v1 : Int32} {M M' : Mm} {r : Unit} (hz : FU Z) (h : f_MD_finds v1 M = some (r, M')) : CT l G y_MD_finds md_MD_finds 0 0 [rf G 78, .int v1] Z.2.2.1 Z.2.2.2 M (rvU r) Z.2.2.1 Z.2.2.2 M' :=
  CT.of (Z := (0, 0, Z.2.2.1, Z.2.2.2)) (Z' := (0, 0, Z.2.2.1, Z.2.2.2)) 2 (by decide) rfl ⟨rfl, rfl⟩ (by show 2 ≤ 4; decide) rfl h (fun X _ hG => by subst hG; exact t_MD_finds hz)
set_option maxHeartbeats 4000000 in
set_option maxRecDepth 20000 in
theorem t_MD_seenRow {X : KX} {Z : ZZ} {v1 : Int32} {v2 : Int32} {M : Mm} (hz : FU Z) : GO X md_MD_seenRow (QE X rvI Z) 0 [some (rf (kG X) 78), some (.int v1), some (.int v2), none] [] Z M (f_MD_seenRow v1 v2 M) := by
  unfold f_MD_seenRow
  refine g_iload_n e_MD_seenRow_0 rfl ?_
  refine g_aload_n e_MD_seenRow_1 rfl ?_
  refine g_callV (rv := rvI) (As := []) (st := [.int v1]) e_MD_seenRow_2 mv_MD_104 my_MD_w (by decide) rfl rfl kq_78 (hz.lt kq_78) rfl (Nat.le_of_ble_eq_true rfl) rfl (fun r M1 h => c_MD_w hz  h) (fun r2 M1 h3 => ?_)
  refine g_idivG e_MD_seenRow_5 ?_
  refine g_istoreL_n e_MD_seenRow_6 (by decide) rfl (fun x4 => ?_)
  refine g_iload_n e_MD_seenRow_7 rfl ?_
  refine g_iconst (x := (1 : Int32)) e_MD_seenRow_8 (by decide) ?_
  refine g_icmp_ne e_MD_seenRow_9 (fun c5 => ?_) (fun c5 => ?_)
  · refine g_iload_n e_MD_seenRow_31 rfl ?_
    exact g_iret e_MD_seenRow_32 rfl
  · refine g_aload_n e_MD_seenRow_12 rfl ?_
    refine g_getI e_MD_seenRow_13 fl_MD_148 kq_78 (hz.lt kq_78) fj_10_4 ?_
    refine g_iconst (x := (1 : Int32)) e_MD_seenRow_16 (by decide) ?_
    refine g_icmp_ne e_MD_seenRow_17 (fun c6 => ?_) (fun c6 => ?_)
    · refine g_iload_n e_MD_seenRow_31 rfl ?_
      exact g_iret e_MD_seenRow_32 rfl
    · refine g_aload_n e_MD_seenRow_20 rfl ?_
      refine g_callV (rv := rvI) (As := []) (st := []) e_MD_seenRow_21 mv_MD_107 my_MD_h (by decide) rfl rfl kq_78 (hz.lt kq_78) rfl (Nat.le_of_ble_eq_true rfl) rfl (fun r M1 h => c_MD_h hz  h) (fun r8 M7 h9 => ?_)
      refine g_iconst (x := (1 : Int32)) e_MD_seenRow_24 (by decide) ?_
      refine g_isub e_MD_seenRow_25 ?_
      refine g_iload_n e_MD_seenRow_26 rfl ?_
      refine g_isub e_MD_seenRow_27 ?_
      refine g_goto e_MD_seenRow_28 ?_
      exact g_iret e_MD_seenRow_32 rfl
set_option maxHeartbeats 4000000 in
set_option maxRecDepth 20000 in
theorem c_MD_seenRow {l : Launch} {G : KG} {Z : ZZ} {v1 : Int32} {v2 : Int32} {M M' : Mm} {r : Int32} (hz : FU Z) (h : f_MD_seenRow v1 v2 M = some (r, M')) : CT l G y_MD_seenRow md_MD_seenRow 0 0 [rf G 78, .int v1, .int v2] Z.2.2.1 Z.2.2.2 M (rvI r) Z.2.2.1 Z.2.2.2 M' :=
  CT.of (Z := (0, 0, Z.2.2.1, Z.2.2.2)) (Z' := (0, 0, Z.2.2.1, Z.2.2.2)) 1 (by decide) rfl ⟨rfl, rfl⟩ (by show 3 ≤ 4; decide) rfl h (fun X _ hG => by subst hG; exact t_MD_seenRow hz)
set_option maxHeartbeats 4000000 in
set_option maxRecDepth 20000 in
theorem t_MD_seenColumn {X : KX} {Z : ZZ} {v1 : Int32} {v2 : Int32} {M : Mm} (hz : FU Z) : GO X md_MD_seenColumn (QE X rvI Z) 0 [some (rf (kG X) 78), some (.int v1), some (.int v2), none] [] Z M (f_MD_seenColumn v1 v2 M) := by
  unfold f_MD_seenColumn
  refine g_iload_n e_MD_seenColumn_0 rfl ?_
  refine g_aload_n e_MD_seenColumn_1 rfl ?_
  refine g_callV (rv := rvI) (As := []) (st := [.int v1]) e_MD_seenColumn_2 mv_MD_104 my_MD_w (by decide) rfl rfl kq_78 (hz.lt kq_78) rfl (Nat.le_of_ble_eq_true rfl) rfl (fun r M1 h => c_MD_w hz  h) (fun r2 M1 h3 => ?_)
  refine g_iremG e_MD_seenColumn_5 ?_
  refine g_istoreL_n e_MD_seenColumn_6 (by decide) rfl (fun x4 => ?_)
  refine g_iload_n e_MD_seenColumn_7 rfl ?_
  refine g_iconst (x := (1 : Int32)) e_MD_seenColumn_8 (by decide) ?_
  refine g_icmp_ne e_MD_seenColumn_9 (fun c5 => ?_) (fun c5 => ?_)
  · refine g_iload_n e_MD_seenColumn_30 rfl ?_
    exact g_iret e_MD_seenColumn_31 rfl
  · refine g_aload_n e_MD_seenColumn_12 rfl ?_
    refine g_getI e_MD_seenColumn_13 fl_MD_148 kq_78 (hz.lt kq_78) fj_10_4 ?_
    refine g_if_ne e_MD_seenColumn_16 (fun c6 => ?_) (fun c6 => ?_)
    · refine g_iload_n e_MD_seenColumn_30 rfl ?_
      exact g_iret e_MD_seenColumn_31 rfl
    · refine g_aload_n e_MD_seenColumn_19 rfl ?_
      refine g_callV (rv := rvI) (As := []) (st := []) e_MD_seenColumn_20 mv_MD_104 my_MD_w (by decide) rfl rfl kq_78 (hz.lt kq_78) rfl (Nat.le_of_ble_eq_true rfl) rfl (fun r M1 h => c_MD_w hz  h) (fun r8 M7 h9 => ?_)
      refine g_iconst (x := (1 : Int32)) e_MD_seenColumn_23 (by decide) ?_
      refine g_isub e_MD_seenColumn_24 ?_
      refine g_iload_n e_MD_seenColumn_25 rfl ?_
      refine g_isub e_MD_seenColumn_26 ?_
      refine g_goto e_MD_seenColumn_27 ?_
      exact g_iret e_MD_seenColumn_31 rfl
set_option maxHeartbeats 4000000 in
set_option maxRecDepth 20000 in
theorem c_MD_seenColumn {l : Launch} {G : KG} {Z : ZZ} {v1 : Int32} {v2 : Int32} {M M' : Mm} {r : Int32} (hz : FU Z) (h : f_MD_seenColumn v1 v2 M = some (r, M')) : CT l G y_MD_seenColumn md_MD_seenColumn 0 0 [rf G 78, .int v1, .int v2] Z.2.2.1 Z.2.2.2 M (rvI r) Z.2.2.1 Z.2.2.2 M' :=
  CT.of (Z := (0, 0, Z.2.2.1, Z.2.2.2)) (Z' := (0, 0, Z.2.2.1, Z.2.2.2)) 1 (by decide) rfl ⟨rfl, rfl⟩ (by show 3 ≤ 4; decide) rfl h (fun X _ hG => by subst hG; exact t_MD_seenColumn hz)
set_option maxHeartbeats 4000000 in
set_option maxRecDepth 20000 in
theorem t_MD_standsAt {X : KX} {Z : ZZ} {v1 : Int32} {v2 : Int32} {M : Mm} (hz : FU Z) : GO X md_MD_standsAt (QE X rvI Z) 0 [some (rf (kG X) 78), some (.int v1), some (.int v2), none, none, none, none] [] Z M (f_MD_standsAt v1 v2 M) := by
  unfold f_MD_standsAt
  refine g_aload_n e_MD_standsAt_0 rfl ?_
  refine g_iload_n e_MD_standsAt_1 rfl ?_
  refine g_callV (rv := rvU) (As := [.int v1]) (st := []) e_MD_standsAt_2 mv_MD_177 my_MD_finds (by decide) rfl rfl kq_78 (hz.lt kq_78) rfl (Nat.le_of_ble_eq_true rfl) rfl (fun r M1 h => c_MD_finds hz  h) (fun r2 M1 h3 => ?_)
  refine g_aload_n e_MD_standsAt_5 rfl ?_
  refine g_getRZ (kz := 84) e_MD_standsAt_6 fl_MD_40 hz kq_78 (by decide) fj_10_12 rfl ?_
  refine g_aload_n e_MD_standsAt_9 rfl ?_
  refine g_getI e_MD_standsAt_10 fl_MD_174 kq_78 (hz.lt kq_78) fj_10_14 ?_
  refine g_iconst (x := (2 : Int32)) e_MD_standsAt_13 (by decide) ?_
  refine g_idiv e_MD_standsAt_14 (by decide) ?_
  refine g_ialdG (n := 16) e_MD_standsAt_15 ⟨kq_84, by decide⟩ (hz.lt kq_84 (by decide)) ?_
  refine g_istoreL_n e_MD_standsAt_16 (by decide) rfl (fun x4 => ?_)
  refine g_aload_n e_MD_standsAt_17 rfl ?_
  refine g_aload_n e_MD_standsAt_18 rfl ?_
  refine g_getI e_MD_standsAt_19 fl_MD_174 kq_78 (hz.lt kq_78) fj_10_14 ?_
  refine g_callV (rv := rvI) (As := [.int (M1.1 78 14)]) (st := []) e_MD_standsAt_22 mv_MD_165 my_MD_sideOf (by decide) rfl rfl kq_78 (hz.lt kq_78) rfl (Nat.le_of_ble_eq_true rfl) rfl (fun r M1 h => c_MD_sideOf hz  h) (fun r6 M5 h7 => ?_)
  refine g_istore e_MD_standsAt_25 (by decide) rfl ?_
  refine g_aload_n e_MD_standsAt_27 rfl ?_
  refine g_iload_n e_MD_standsAt_28 rfl ?_
  refine g_iload e_MD_standsAt_29 rfl ?_
  refine g_callV (rv := rvI) (As := [.int x4, .int r6]) (st := []) e_MD_standsAt_31 mv_MD_181 my_MD_seenRow (by decide) rfl rfl kq_78 (hz.lt kq_78) rfl (Nat.le_of_ble_eq_true rfl) rfl (fun r M1 h => c_MD_seenRow hz  h) (fun r9 M8 h10 => ?_)
  refine g_istore e_MD_standsAt_34 (by decide) rfl ?_
  refine g_aload_n e_MD_standsAt_36 rfl ?_
  refine g_iload_n e_MD_standsAt_37 rfl ?_
  refine g_iload e_MD_standsAt_38 rfl ?_
  refine g_callV (rv := rvI) (As := [.int x4, .int r6]) (st := []) e_MD_standsAt_40 mv_MD_184 my_MD_seenColumn (by decide) rfl rfl kq_78 (hz.lt kq_78) rfl (Nat.le_of_ble_eq_true rfl) rfl (fun r M1 h => c_MD_seenColumn hz  h) (fun r12 M11 h13 => ?_)
  refine g_istore e_MD_standsAt_43 (by decide) rfl ?_
  refine g_iload_n e_MD_standsAt_45 rfl ?_
  refine g_ite (fun c14 => ?_) (fun c14 => ?_)
  · refine g_tswI e_MD_standsAt_46.1 (0 : Int32) c14 (off := 38) (tgt := 84) (by decide) ?_
    refine g_aload_n e_MD_standsAt_84 rfl ?_
    refine g_getI e_MD_standsAt_85 fl_MD_171 kq_78 (hz.lt kq_78) fj_10_13 ?_
    exact g_iret e_MD_standsAt_88 rfl
  refine g_ite (fun c15 => ?_) (fun c15 => ?_)
  · refine g_tswI e_MD_standsAt_46.1 (1 : Int32) c15 (off := 43) (tgt := 89) (by decide) ?_
    refine g_iload e_MD_standsAt_89 rfl ?_
    exact g_iret e_MD_standsAt_91 rfl
  refine g_ite (fun c16 => ?_) (fun c16 => ?_)
  · refine g_tswI e_MD_standsAt_46.1 (2 : Int32) c16 (off := 46) (tgt := 92) (by decide) ?_
    refine g_iload e_MD_standsAt_92 rfl ?_
    exact g_iret e_MD_standsAt_94 rfl
  refine g_ite (fun c17 => ?_) (fun c17 => ?_)
  · refine g_tswI e_MD_standsAt_46.1 (3 : Int32) c17 (off := 49) (tgt := 95) (by decide) ?_
    refine g_iload e_MD_standsAt_95 rfl ?_
    exact g_iret e_MD_standsAt_97 rfl
  refine g_ite (fun c18 => ?_) (fun c18 => ?_)
  · refine g_tswI e_MD_standsAt_46.1 (4 : Int32) c18 (off := 52) (tgt := 98) (by decide) ?_
    refine g_iload e_MD_standsAt_98 rfl ?_
    refine g_iconst (x := (1 : Int32)) e_MD_standsAt_100 (by decide) ?_
    refine g_icmp_ne e_MD_standsAt_101 (fun c19 => ?_) (fun c19 => ?_)
    · refine g_aload_n e_MD_standsAt_123 rfl ?_
      refine g_getRZ (kz := 83) e_MD_standsAt_124 fl_MD_37 hz kq_78 (by decide) fj_10_11 rfl ?_
      refine g_iload_n e_MD_standsAt_127 rfl ?_
      refine g_ialdG (n := 16) e_MD_standsAt_128 ⟨kq_83, by decide⟩ (hz.lt kq_83 (by decide)) ?_
      exact g_iret e_MD_standsAt_129 rfl
    · refine g_aload_n e_MD_standsAt_104 rfl ?_
      refine g_getI e_MD_standsAt_105 fl_MD_148 kq_78 (hz.lt kq_78) fj_10_4 ?_
      refine g_iconst (x := (1 : Int32)) e_MD_standsAt_108 (by decide) ?_
      refine g_icmp_ne e_MD_standsAt_109 (fun c20 => ?_) (fun c20 => ?_)
      · refine g_aload_n e_MD_standsAt_123 rfl ?_
        refine g_getRZ (kz := 83) e_MD_standsAt_124 fl_MD_37 hz kq_78 (by decide) fj_10_11 rfl ?_
        refine g_iload_n e_MD_standsAt_127 rfl ?_
        refine g_ialdG (n := 16) e_MD_standsAt_128 ⟨kq_83, by decide⟩ (hz.lt kq_83 (by decide)) ?_
        exact g_iret e_MD_standsAt_129 rfl
      · refine g_iconst (x := (1 : Int32)) e_MD_standsAt_112 (by decide) ?_
        refine g_aload_n e_MD_standsAt_113 rfl ?_
        refine g_getRZ (kz := 83) e_MD_standsAt_114 fl_MD_37 hz kq_78 (by decide) fj_10_11 rfl ?_
        refine g_iload_n e_MD_standsAt_117 rfl ?_
        refine g_ialdG (n := 16) e_MD_standsAt_118 ⟨kq_83, by decide⟩ (hz.lt kq_83 (by decide)) ?_
        refine g_isub e_MD_standsAt_119 ?_
        refine g_goto e_MD_standsAt_120 ?_
        exact g_iret e_MD_standsAt_129 rfl
  refine g_ite (fun c21 => ?_) (fun c21 => ?_)
  · refine g_tswI e_MD_standsAt_46.1 (5 : Int32) c21 (off := 84) (tgt := 130) (by decide) ?_
    refine g_sipush (x := (1000 : Int32)) e_MD_standsAt_130 (by decide) ?_
    refine g_aload_n e_MD_standsAt_133 rfl ?_
    refine g_getI e_MD_standsAt_134 fl_MD_171 kq_78 (hz.lt kq_78) fj_10_13 ?_
    refine g_imul e_MD_standsAt_137 ?_
    refine g_sipush (x := (500 : Int32)) e_MD_standsAt_138 (by decide) ?_
    refine g_iload e_MD_standsAt_141 rfl ?_
    refine g_imul e_MD_standsAt_143 ?_
    refine g_iadd e_MD_standsAt_144 ?_
    refine g_bipush (x := (20 : Int32)) e_MD_standsAt_145 (by decide) ?_
    refine g_iload e_MD_standsAt_147 rfl ?_
    refine g_imul e_MD_standsAt_149 ?_
    refine g_iadd e_MD_standsAt_150 ?_
    refine g_iload e_MD_standsAt_151 rfl ?_
    refine g_iadd e_MD_standsAt_153 ?_
    exact g_iret e_MD_standsAt_154 rfl
  refine g_hav (pq := 155) (lsq := [some (rf (kG X) 78), some (.int v1), some (.int v2), some (.int x4), some (.int r6), some (.int r9), some (.int r12)]) (stq := []) ?_ (fun hq => ?_)
  · refine g_aload_n e_MD_standsAt_155 rfl ?_
    refine g_aload_n e_MD_standsAt_156 rfl ?_
    refine g_getI e_MD_standsAt_157 fl_MD_171 kq_78 (hz.lt kq_78) fj_10_13 ?_
    refine g_aload_n e_MD_standsAt_160 rfl ?_
    refine g_getI e_MD_standsAt_161 fl_MD_174 kq_78 (hz.lt kq_78) fj_10_14 ?_
    refine g_iconst (x := (2 : Int32)) e_MD_standsAt_164 (by decide) ?_
    refine g_irem e_MD_standsAt_165 (by decide) ?_
    refine g_phi1 184 (fun x23 => [none, none, none, none, none, none, none]) (fun x23 => [.int x23, .int (M11.1 78 13), rf (kG X) 78]) (fun x23 => ?_) (fun hj27 => ?_)
    · show GO X _ _ 184 [none, none, none, none, none, none, none] [.int x23, .int (M11.1 78 13), rf (kG X) 78] Z M11 _
      refine g_callV (rv := rvI) (As := [.int (M11.1 78 13), .int x23]) (st := []) e_MD_standsAt_184 mv_MD_168 my_MD_pageAt (by decide) rfl rfl kq_78 (hz.lt kq_78) rfl (Nat.le_of_ble_eq_true rfl) rfl (fun r M1 h => c_MD_pageAt hz  h) (fun r25 M24 h26 => ?_)
      exact g_iret e_MD_standsAt_187 rfl
    · refine g_if_ne' e_MD_standsAt_166 (fun c22 => ?_) (fun c22 => ?_)
      · refine g_aload_n e_MD_standsAt_178 rfl ?_
        refine g_getI e_MD_standsAt_179 fl_MD_174 kq_78 (hz.lt kq_78) fj_10_14 ?_
        refine g_iconst (x := (1 : Int32)) e_MD_standsAt_182 (by decide) ?_
        refine g_isub e_MD_standsAt_183 ?_
        exact (g_pf c22 (g_lt (g_wq (hj27 ((M11.1 78 14) - (1 : Int32))) trivial)))
      · refine g_aload_n e_MD_standsAt_169 rfl ?_
        refine g_getI e_MD_standsAt_170 fl_MD_174 kq_78 (hz.lt kq_78) fj_10_14 ?_
        refine g_iconst (x := (1 : Int32)) e_MD_standsAt_173 (by decide) ?_
        refine g_iadd e_MD_standsAt_174 ?_
        refine g_goto e_MD_standsAt_175 ?_
        exact (g_pt c22 (g_lt (g_wq (hj27 ((M11.1 78 14) + (1 : Int32))) trivial)))
  · refine g_tswO e_MD_standsAt_46.1 (tgt := 155) (by decide) (sw_out (fun q h1 h2 => ?_)) hq
    rcases (show q = 0 ∨ q = 1 ∨ q = 2 ∨ q = 3 ∨ q = 4 ∨ q = 5 by omega) with rfl | rfl | rfl | rfl | rfl | rfl
    · exact c14
    · exact c15
    · exact c16
    · exact c17
    · exact c18
    · exact c21
set_option maxHeartbeats 4000000 in
set_option maxRecDepth 20000 in
theorem c_MD_standsAt {l : Launch} {G : KG} {Z : ZZ} {v1 : Int32} {v2 : Int32} {M M' : Mm} {r : Int32} (hz : FU Z) (h : f_MD_standsAt v1 v2 M = some (r, M')) : CT l G y_MD_standsAt md_MD_standsAt 0 0 [rf G 78, .int v1, .int v2] Z.2.2.1 Z.2.2.2 M (rvI r) Z.2.2.1 Z.2.2.2 M' :=
  CT.of (Z := (0, 0, Z.2.2.1, Z.2.2.2)) (Z' := (0, 0, Z.2.2.1, Z.2.2.2)) 4 (by decide) rfl ⟨rfl, rfl⟩ (by show 3 ≤ 7; decide) rfl h (fun X _ hG => by subst hG; exact t_MD_standsAt hz)
set_option maxHeartbeats 4000000 in
set_option maxRecDepth 20000 in
theorem t_MD_stands {X : KX} {Z : ZZ} {v1 : Int32} {v2 : Int32} {M : Mm} (hz : FU Z) : GO X md_MD_stands (QE X rvI Z) 0 [some (rf (kG X) 78), some (.int v1), some (.int v2)] [] Z M (f_MD_stands v1 v2 M) := by
  unfold f_MD_stands
  refine g_aload_n e_MD_stands_0 rfl ?_
  refine g_iload_n e_MD_stands_1 rfl ?_
  refine g_callV (rv := rvI) (As := [.int v1]) (st := []) e_MD_stands_2 mv_MD_187 my_MD_isPage (by decide) rfl rfl kq_78 (hz.lt kq_78) rfl (Nat.le_of_ble_eq_true rfl) rfl (fun r M1 h => c_MD_isPage hz  h) (fun r2 M1 h3 => ?_)
  refine g_if_eq e_MD_stands_5 (fun c4 => ?_) (fun c4 => ?_)
  · refine g_iconst (x := (-1 : Int32)) e_MD_stands_18 (by decide) ?_
    exact g_iret e_MD_stands_19 rfl
  · refine g_iload_n e_MD_stands_8 rfl ?_
    refine g_iconst (x := (0 : Int32)) e_MD_stands_9 (by decide) ?_
    refine g_bipush (x := (6 : Int32)) e_MD_stands_10 (by decide) ?_
    refine g_callS (rv := rvI) (As := [.int v2, .int (0 : Int32), .int (6 : Int32)]) (st := []) e_MD_stands_12 ms_MD_92 my_MD_in (by decide) rfl rfl (Nat.le_of_ble_eq_true rfl) (fun r M1 h => c_MD_in hz  h) (fun r6 M5 h7 => ?_)
    refine g_if_ne e_MD_stands_15 (fun c8 => ?_) (fun c8 => ?_)
    · refine g_aload_n e_MD_stands_20 rfl ?_
      refine g_callV (rv := rvU) (As := []) (st := []) e_MD_stands_21 mv_MD_162 my_MD_folds (by decide) rfl rfl kq_78 (hz.lt kq_78) rfl (Nat.le_of_ble_eq_true rfl) rfl (fun r M1 h => c_MD_folds hz  h) (fun r10 M9 h11 => ?_)
      refine g_aload_n e_MD_stands_24 rfl ?_
      refine g_iload_n e_MD_stands_25 rfl ?_
      refine g_iload_n e_MD_stands_26 rfl ?_
      refine g_callV (rv := rvI) (As := [.int v1, .int v2]) (st := []) e_MD_stands_27 mv_MD_190 my_MD_standsAt (by decide) rfl rfl kq_78 (hz.lt kq_78) rfl (Nat.le_of_ble_eq_true rfl) rfl (fun r M1 h => c_MD_standsAt hz  h) (fun r13 M12 h14 => ?_)
      exact g_iret e_MD_stands_30 rfl
    · refine g_iconst (x := (-1 : Int32)) e_MD_stands_18 (by decide) ?_
      exact g_iret e_MD_stands_19 rfl
set_option maxHeartbeats 4000000 in
set_option maxRecDepth 20000 in
theorem c_MD_stands {l : Launch} {G : KG} {Z : ZZ} {v1 : Int32} {v2 : Int32} {M M' : Mm} {r : Int32} (hz : FU Z) (h : f_MD_stands v1 v2 M = some (r, M')) : CT l G y_MD_stands md_MD_stands 0 0 [rf G 78, .int v1, .int v2] Z.2.2.1 Z.2.2.2 M (rvI r) Z.2.2.1 Z.2.2.2 M' :=
  CT.of (Z := (0, 0, Z.2.2.1, Z.2.2.2)) (Z' := (0, 0, Z.2.2.1, Z.2.2.2)) 0 (by decide) rfl ⟨rfl, rfl⟩ (by show 3 ≤ 3; decide) rfl h (fun X _ hG => by subst hG; exact t_MD_stands hz)
set_option maxHeartbeats 4000000 in
set_option maxRecDepth 20000 in
theorem t_MD_isForme {X : KX} {Z : ZZ} {v1 : Int32} {M : Mm} (hz : FU Z) : GO X md_MD_isForme (QE X rvI Z) 0 [some (rf (kG X) 78), some (.int v1)] [] Z M (f_MD_isForme v1 M) := by
  unfold f_MD_isForme
  refine g_iload_n e_MD_isForme_0 rfl ?_
  refine g_if_lt e_MD_isForme_1 (fun c1 => ?_) (fun c1 => ?_)
  · refine g_iconst (x := (0 : Int32)) e_MD_isForme_27 (by decide) ?_
    exact g_zret e_MD_isForme_28 rfl (by decide)
  · refine g_iload_n e_MD_isForme_4 rfl ?_
    refine g_bipush (x := (10 : Int32)) e_MD_isForme_5 (by decide) ?_
    refine g_idiv e_MD_isForme_7 (by decide) ?_
    refine g_aload_n e_MD_isForme_8 rfl ?_
    refine g_callV (rv := rvI) (As := []) (st := [.int (v1 / (10 : Int32))]) e_MD_isForme_9 mv_MD_121 my_MD_sheets (by decide) rfl rfl kq_78 (hz.lt kq_78) rfl (Nat.le_of_ble_eq_true rfl) rfl (fun r M1 h => c_MD_sheets hz  h) (fun r3 M2 h4 => ?_)
    refine g_icmp_ge e_MD_isForme_12 (fun c5 => ?_) (fun c5 => ?_)
    · refine g_iconst (x := (0 : Int32)) e_MD_isForme_27 (by decide) ?_
      exact g_zret e_MD_isForme_28 rfl (by decide)
    · refine g_iload_n e_MD_isForme_15 rfl ?_
      refine g_bipush (x := (10 : Int32)) e_MD_isForme_16 (by decide) ?_
      refine g_irem e_MD_isForme_18 (by decide) ?_
      refine g_iconst (x := (2 : Int32)) e_MD_isForme_19 (by decide) ?_
      refine g_icmp_ge e_MD_isForme_20 (fun c6 => ?_) (fun c6 => ?_)
      · refine g_iconst (x := (0 : Int32)) e_MD_isForme_27 (by decide) ?_
        exact g_zret e_MD_isForme_28 rfl (by decide)
      · refine g_iconst (x := (1 : Int32)) e_MD_isForme_23 (by decide) ?_
        refine g_goto e_MD_isForme_24 ?_
        exact g_zret e_MD_isForme_28 rfl (by decide)
set_option maxHeartbeats 4000000 in
set_option maxRecDepth 20000 in
theorem c_MD_isForme {l : Launch} {G : KG} {Z : ZZ} {v1 : Int32} {M M' : Mm} {r : Int32} (hz : FU Z) (h : f_MD_isForme v1 M = some (r, M')) : CT l G y_MD_isForme md_MD_isForme 0 0 [rf G 78, .int v1] Z.2.2.1 Z.2.2.2 M (rvI r) Z.2.2.1 Z.2.2.2 M' :=
  CT.of (Z := (0, 0, Z.2.2.1, Z.2.2.2)) (Z' := (0, 0, Z.2.2.1, Z.2.2.2)) 0 (by decide) rfl ⟨rfl, rfl⟩ (by show 2 ≤ 2; decide) rfl h (fun X _ hG => by subst hG; exact t_MD_isForme hz)
set_option maxHeartbeats 4000000 in
set_option maxRecDepth 20000 in
theorem t_MD_isCell {X : KX} {Z : ZZ} {v1 : Int32} {v2 : Int32} {M : Mm} (hz : FU Z) : GO X md_MD_isCell (QE X rvI Z) 0 [some (rf (kG X) 78), some (.int v1), some (.int v2)] [] Z M (f_MD_isCell v1 v2 M) := by
  unfold f_MD_isCell
  refine g_iload_n e_MD_isCell_0 rfl ?_
  refine g_iconst (x := (0 : Int32)) e_MD_isCell_1 (by decide) ?_
  refine g_aload_n e_MD_isCell_2 rfl ?_
  refine g_callV (rv := rvI) (As := []) (st := [.int (0 : Int32), .int v1]) e_MD_isCell_3 mv_MD_107 my_MD_h (by decide) rfl rfl kq_78 (hz.lt kq_78) rfl (Nat.le_of_ble_eq_true rfl) rfl (fun r M1 h => c_MD_h hz  h) (fun r2 M1 h3 => ?_)
  refine g_iconst (x := (1 : Int32)) e_MD_isCell_6 (by decide) ?_
  refine g_isub e_MD_isCell_7 ?_
  refine g_callS (rv := rvI) (As := [.int v1, .int (0 : Int32), .int (r2 - (1 : Int32))]) (st := []) e_MD_isCell_8 ms_MD_92 my_MD_in (by decide) rfl rfl (Nat.le_of_ble_eq_true rfl) (fun r M1 h => c_MD_in hz  h) (fun r5 M4 h6 => ?_)
  refine g_if_eq e_MD_isCell_11 (fun c7 => ?_) (fun c7 => ?_)
  · refine g_iconst (x := (0 : Int32)) e_MD_isCell_32 (by decide) ?_
    exact g_zret e_MD_isCell_33 rfl (by decide)
  · refine g_iload_n e_MD_isCell_14 rfl ?_
    refine g_iconst (x := (0 : Int32)) e_MD_isCell_15 (by decide) ?_
    refine g_aload_n e_MD_isCell_16 rfl ?_
    refine g_callV (rv := rvI) (As := []) (st := [.int (0 : Int32), .int v2]) e_MD_isCell_17 mv_MD_104 my_MD_w (by decide) rfl rfl kq_78 (hz.lt kq_78) rfl (Nat.le_of_ble_eq_true rfl) rfl (fun r M1 h => c_MD_w hz  h) (fun r9 M8 h10 => ?_)
    refine g_iconst (x := (1 : Int32)) e_MD_isCell_20 (by decide) ?_
    refine g_isub e_MD_isCell_21 ?_
    refine g_callS (rv := rvI) (As := [.int v2, .int (0 : Int32), .int (r9 - (1 : Int32))]) (st := []) e_MD_isCell_22 ms_MD_92 my_MD_in (by decide) rfl rfl (Nat.le_of_ble_eq_true rfl) (fun r M1 h => c_MD_in hz  h) (fun r12 M11 h13 => ?_)
    refine g_if_eq e_MD_isCell_25 (fun c14 => ?_) (fun c14 => ?_)
    · refine g_iconst (x := (0 : Int32)) e_MD_isCell_32 (by decide) ?_
      exact g_zret e_MD_isCell_33 rfl (by decide)
    · refine g_iconst (x := (1 : Int32)) e_MD_isCell_28 (by decide) ?_
      refine g_goto e_MD_isCell_29 ?_
      exact g_zret e_MD_isCell_33 rfl (by decide)
set_option maxHeartbeats 4000000 in
set_option maxRecDepth 20000 in
theorem c_MD_isCell {l : Launch} {G : KG} {Z : ZZ} {v1 : Int32} {v2 : Int32} {M M' : Mm} {r : Int32} (hz : FU Z) (h : f_MD_isCell v1 v2 M = some (r, M')) : CT l G y_MD_isCell md_MD_isCell 0 0 [rf G 78, .int v1, .int v2] Z.2.2.1 Z.2.2.2 M (rvI r) Z.2.2.1 Z.2.2.2 M' :=
  CT.of (Z := (0, 0, Z.2.2.1, Z.2.2.2)) (Z' := (0, 0, Z.2.2.1, Z.2.2.2)) 0 (by decide) rfl ⟨rfl, rfl⟩ (by show 3 ≤ 3; decide) rfl h (fun X _ hG => by subst hG; exact t_MD_isCell hz)
set_option maxHeartbeats 4000000 in
set_option maxRecDepth 20000 in
theorem t_MD_pageOf_79 {X : KX} {Z : ZZ} {rec6 : Int32 → Int32 → Int32 → Int32 → Int32 → Mm → Option (Int32 × Mm)} (hz : FU Z) (hr6 : ∀ (v1 : Int32) (v2 : Int32) (v3 : Int32) (v4 : Int32) (v5 : Int32) (M : Mm), GO X md_MD_pageOf (QE X rvI Z) 6 [some (rf (kG X) 78), some (.int v1), some (.int v2), some (.int v3), some (.int v4), some (.int v5), none, none] [] Z M (rec6 v1 v2 v3 v4 v5 M)) : ∀ (v1 : Int32) (v2 : Int32) (v3 : Int32) (v4 : Int32) (v5 : Int32) (M : Mm), GO X md_MD_pageOf (QE X rvI Z) 79 [some (rf (kG X) 78), some (.int v1), some (.int v2), some (.int v3), some (.int v4), some (.int v5), none, none] [] Z M (f_MD_pageOf_79 rec6 v1 v2 v3 v4 v5 M) := by
  intro v1 v2 v3 v4 v5 M
  unfold f_MD_pageOf_79
  refine g_iincL (c := (1 : Int32)) e_MD_pageOf_79 rfl (by decide) (by decide) rfl (fun x10 => ?_)
  refine g_goto e_MD_pageOf_82 ?_
  exact g_wq (hr6 v1 v2 v3 v4 x10 M) ⟨rfl, rfl, rfl, rfl, rfl, rfl, trivial⟩
set_option maxHeartbeats 4000000 in
set_option maxRecDepth 20000 in
theorem t_MD_pageOf_6 {X : KX} {Z : ZZ} (hz : FU Z) : ∀ (n : Nat) (v1 : Int32) (v2 : Int32) (v3 : Int32) (v4 : Int32) (v5 : Int32) (M : Mm), GO X md_MD_pageOf (QE X rvI Z) 6 [some (rf (kG X) 78), some (.int v1), some (.int v2), some (.int v3), some (.int v4), some (.int v5), none, none] [] Z M (f_MD_pageOf_6 n v1 v2 v3 v4 v5 M) := by
  intro n
  induction n with
  | zero =>
    intro v1 v2 v3 v4 v5 M
    exact g_none
  | succ n ih =>
    intro v1 v2 v3 v4 v5 M
    rw [f_MD_pageOf_6_s]
    refine g_iload e_MD_pageOf_6 rfl ?_
    refine g_aload_n e_MD_pageOf_8 rfl ?_
    refine g_callV (rv := rvI) (As := []) (st := [.int v5]) e_MD_pageOf_9 mv_MD_118 my_MD_perSheet (by decide) rfl rfl kq_78 (hz.lt kq_78) rfl (Nat.le_of_ble_eq_true rfl) rfl (fun r M1 h => c_MD_perSheet hz  h) (fun r2 M1 h3 => ?_)
    refine g_icmp_ge e_MD_pageOf_12 (fun c4 => ?_) (fun c4 => ?_)
    · refine g_iload e_MD_pageOf_85 rfl ?_
      exact g_iret e_MD_pageOf_87 rfl
    · refine g_aload_n e_MD_pageOf_15 rfl ?_
      refine g_getRZ (kz := 84) e_MD_pageOf_16 fl_MD_40 hz kq_78 (by decide) fj_10_12 rfl ?_
      refine g_iload e_MD_pageOf_19 rfl ?_
      refine g_iconst (x := (2 : Int32)) e_MD_pageOf_21 (by decide) ?_
      refine g_idiv e_MD_pageOf_22 (by decide) ?_
      refine g_ialdG (n := 16) e_MD_pageOf_23 ⟨kq_84, by decide⟩ (hz.lt kq_84 (by decide)) ?_
      refine g_istoreL e_MD_pageOf_24 (by decide) rfl (fun x5 => ?_)
      refine g_aload_n e_MD_pageOf_26 rfl ?_
      refine g_iload e_MD_pageOf_27 rfl ?_
      refine g_callV (rv := rvI) (As := [.int v5]) (st := []) e_MD_pageOf_29 mv_MD_165 my_MD_sideOf (by decide) rfl rfl kq_78 (hz.lt kq_78) rfl (Nat.le_of_ble_eq_true rfl) rfl (fun r M1 h => c_MD_sideOf hz  h) (fun r7 M6 h8 => ?_)
      refine g_istore e_MD_pageOf_32 (by decide) rfl ?_
      refine g_iload e_MD_pageOf_34 rfl ?_
      refine g_iload_n e_MD_pageOf_36 rfl ?_
      refine g_bipush (x := (10 : Int32)) e_MD_pageOf_37 (by decide) ?_
      refine g_irem e_MD_pageOf_39 (by decide) ?_
      refine g_icmp_ne e_MD_pageOf_40 (fun c9 => ?_) (fun c9 => ?_)
      · exact g_wq (t_MD_pageOf_79 hz (ih) v1 v2 v3 v4 v5 M6) ⟨rfl, rfl, rfl, rfl, rfl, rfl, trivial⟩
      · refine g_aload_n e_MD_pageOf_43 rfl ?_
        refine g_iload e_MD_pageOf_44 rfl ?_
        refine g_iload e_MD_pageOf_46 rfl ?_
        refine g_callV (rv := rvI) (As := [.int x5, .int r7]) (st := []) e_MD_pageOf_48 mv_MD_181 my_MD_seenRow (by decide) rfl rfl kq_78 (hz.lt kq_78) rfl (Nat.le_of_ble_eq_true rfl) rfl (fun r M1 h => c_MD_seenRow hz  h) (fun r12 M11 h13 => ?_)
        refine g_iload_n e_MD_pageOf_51 rfl ?_
        refine g_icmp_ne e_MD_pageOf_52 (fun c14 => ?_) (fun c14 => ?_)
        · exact g_wq (t_MD_pageOf_79 hz (ih) v1 v2 v3 v4 v5 M11) ⟨rfl, rfl, rfl, rfl, rfl, rfl, trivial⟩
        · refine g_aload_n e_MD_pageOf_55 rfl ?_
          refine g_iload e_MD_pageOf_56 rfl ?_
          refine g_iload e_MD_pageOf_58 rfl ?_
          refine g_callV (rv := rvI) (As := [.int x5, .int r7]) (st := []) e_MD_pageOf_60 mv_MD_184 my_MD_seenColumn (by decide) rfl rfl kq_78 (hz.lt kq_78) rfl (Nat.le_of_ble_eq_true rfl) rfl (fun r M1 h => c_MD_seenColumn hz  h) (fun r16 M15 h17 => ?_)
          refine g_iload_n e_MD_pageOf_63 rfl ?_
          refine g_icmp_ne e_MD_pageOf_64 (fun c18 => ?_) (fun c18 => ?_)
          · exact g_wq (t_MD_pageOf_79 hz (ih) v1 v2 v3 v4 v5 M15) ⟨rfl, rfl, rfl, rfl, rfl, rfl, trivial⟩
          · refine g_aload_n e_MD_pageOf_67 rfl ?_
            refine g_iload_n e_MD_pageOf_68 rfl ?_
            refine g_bipush (x := (10 : Int32)) e_MD_pageOf_69 (by decide) ?_
            refine g_idiv e_MD_pageOf_71 (by decide) ?_
            refine g_iload e_MD_pageOf_72 rfl ?_
            refine g_callV (rv := rvI) (As := [.int (v1 / (10 : Int32)), .int v5]) (st := []) e_MD_pageOf_74 mv_MD_168 my_MD_pageAt (by decide) rfl rfl kq_78 (hz.lt kq_78) rfl (Nat.le_of_ble_eq_true rfl) rfl (fun r M1 h => c_MD_pageAt hz  h) (fun r20 M19 h21 => ?_)
            refine g_istore e_MD_pageOf_77 (by decide) rfl ?_
            exact g_wq (t_MD_pageOf_79 hz (ih) v1 v2 v3 r20 v5 M19) ⟨rfl, rfl, rfl, rfl, rfl, rfl, trivial⟩
set_option maxHeartbeats 4000000 in
set_option maxRecDepth 20000 in
theorem t_MD_pageOf {X : KX} {Z : ZZ} {v1 : Int32} {v2 : Int32} {v3 : Int32} {M : Mm} (hz : FU Z) : GO X md_MD_pageOf (QE X rvI Z) 0 [some (rf (kG X) 78), some (.int v1), some (.int v2), some (.int v3), none, none, none, none] [] Z M (f_MD_pageOf v1 v2 v3 M) := by
  unfold f_MD_pageOf
  refine g_iconst (x := (-1 : Int32)) e_MD_pageOf_0 (by decide) ?_
  refine g_istore e_MD_pageOf_1 (by decide) rfl ?_
  refine g_iconst (x := (0 : Int32)) e_MD_pageOf_3 (by decide) ?_
  refine g_istore e_MD_pageOf_4 (by decide) rfl ?_
  exact g_wq (t_MD_pageOf_6 hz fuel v1 v2 v3 (-1 : Int32) (0 : Int32) M) ⟨rfl, rfl, rfl, rfl, rfl, rfl, trivial⟩
set_option maxHeartbeats 4000000 in
set_option maxRecDepth 20000 in
theorem c_MD_pageOf {l : Launch} {G : KG} {Z : ZZ} {v1 : Int32} {v2 : Int32} {v3 : Int32} {M M' : Mm} {r : Int32} (hz : FU Z) (h : f_MD_pageOf v1 v2 v3 M = some (r, M')) : CT l G y_MD_pageOf md_MD_pageOf 0 0 [rf G 78, .int v1, .int v2, .int v3] Z.2.2.1 Z.2.2.2 M (rvI r) Z.2.2.1 Z.2.2.2 M' :=
  CT.of (Z := (0, 0, Z.2.2.1, Z.2.2.2)) (Z' := (0, 0, Z.2.2.1, Z.2.2.2)) 4 (by decide) rfl ⟨rfl, rfl⟩ (by show 4 ≤ 8; decide) rfl h (fun X _ hG => by subst hG; exact t_MD_pageOf hz)
set_option maxHeartbeats 4000000 in
set_option maxRecDepth 20000 in
theorem t_MD_page {X : KX} {Z : ZZ} {v1 : Int32} {v2 : Int32} {v3 : Int32} {M : Mm} (hz : FU Z) : GO X md_MD_page (QE X rvI Z) 0 [some (rf (kG X) 78), some (.int v1), some (.int v2), some (.int v3)] [] Z M (f_MD_page v1 v2 v3 M) := by
  unfold f_MD_page
  refine g_aload_n e_MD_page_0 rfl ?_
  refine g_iload_n e_MD_page_1 rfl ?_
  refine g_callV (rv := rvI) (As := [.int v1]) (st := []) e_MD_page_2 mv_MD_193 my_MD_isForme (by decide) rfl rfl kq_78 (hz.lt kq_78) rfl (Nat.le_of_ble_eq_true rfl) rfl (fun r M1 h => c_MD_isForme hz  h) (fun r2 M1 h3 => ?_)
  refine g_if_eq e_MD_page_5 (fun c4 => ?_) (fun c4 => ?_)
  · refine g_iconst (x := (-1 : Int32)) e_MD_page_17 (by decide) ?_
    exact g_iret e_MD_page_18 rfl
  · refine g_aload_n e_MD_page_8 rfl ?_
    refine g_iload_n e_MD_page_9 rfl ?_
    refine g_iload_n e_MD_page_10 rfl ?_
    refine g_callV (rv := rvI) (As := [.int v2, .int v3]) (st := []) e_MD_page_11 mv_MD_196 my_MD_isCell (by decide) rfl rfl kq_78 (hz.lt kq_78) rfl (Nat.le_of_ble_eq_true rfl) rfl (fun r M1 h => c_MD_isCell hz  h) (fun r6 M5 h7 => ?_)
    refine g_if_ne e_MD_page_14 (fun c8 => ?_) (fun c8 => ?_)
    · refine g_aload_n e_MD_page_19 rfl ?_
      refine g_callV (rv := rvU) (As := []) (st := []) e_MD_page_20 mv_MD_162 my_MD_folds (by decide) rfl rfl kq_78 (hz.lt kq_78) rfl (Nat.le_of_ble_eq_true rfl) rfl (fun r M1 h => c_MD_folds hz  h) (fun r10 M9 h11 => ?_)
      refine g_aload_n e_MD_page_23 rfl ?_
      refine g_iload_n e_MD_page_24 rfl ?_
      refine g_iload_n e_MD_page_25 rfl ?_
      refine g_iload_n e_MD_page_26 rfl ?_
      refine g_callV (rv := rvI) (As := [.int v1, .int v2, .int v3]) (st := []) e_MD_page_27 mv_MD_199 my_MD_pageOf (by decide) rfl rfl kq_78 (hz.lt kq_78) rfl (Nat.le_of_ble_eq_true rfl) rfl (fun r M1 h => c_MD_pageOf hz  h) (fun r13 M12 h14 => ?_)
      exact g_iret e_MD_page_30 rfl
    · refine g_iconst (x := (-1 : Int32)) e_MD_page_17 (by decide) ?_
      exact g_iret e_MD_page_18 rfl
set_option maxHeartbeats 4000000 in
set_option maxRecDepth 20000 in
theorem c_MD_page {l : Launch} {G : KG} {Z : ZZ} {v1 : Int32} {v2 : Int32} {v3 : Int32} {M M' : Mm} {r : Int32} (hz : FU Z) (h : f_MD_page v1 v2 v3 M = some (r, M')) : CT l G y_MD_page md_MD_page 0 0 [rf G 78, .int v1, .int v2, .int v3] Z.2.2.1 Z.2.2.2 M (rvI r) Z.2.2.1 Z.2.2.2 M' :=
  CT.of (Z := (0, 0, Z.2.2.1, Z.2.2.2)) (Z' := (0, 0, Z.2.2.1, Z.2.2.2)) 0 (by decide) rfl ⟨rfl, rfl⟩ (by show 4 ≤ 4; decide) rfl h (fun X _ hG => by subst hG; exact t_MD_page hz)
set_option maxHeartbeats 4000000 in
set_option maxRecDepth 20000 in
theorem t_MD_turned_110 {X : KX} {Z : ZZ} (hz : FU Z) : ∀ (v1 : Int32) (v2 : Int32) (v3 : Int32) (s0 : Int32) (M : Mm), GO X md_MD_turned (QE X rvI Z) 110 [some (rf (kG X) 78), some (.int v1), some (.int v2), some (.int v3), none, none, none] [.int s0] Z M (f_MD_turned_110 v1 v2 v3 s0 M) := by
  intro v1 v2 v3 s0 M
  unfold f_MD_turned_110
  refine g_istore e_MD_turned_110 (by decide) rfl ?_
  refine g_aload_n e_MD_turned_112 rfl ?_
  refine g_bipush (x := (10 : Int32)) e_MD_turned_113 (by decide) ?_
  refine g_iload_n e_MD_turned_115 rfl ?_
  refine g_imul e_MD_turned_116 ?_
  refine g_iload e_MD_turned_117 rfl ?_
  refine g_iadd e_MD_turned_119 ?_
  refine g_iload_n e_MD_turned_120 rfl ?_
  refine g_aload_n e_MD_turned_121 rfl ?_
  refine g_callV (rv := rvI) (As := []) (st := [.int v2, .int (((10 : Int32) * v1) + s0), rf (kG X) 78]) e_MD_turned_122 mv_MD_107 my_MD_h (by decide) rfl rfl kq_78 (hz.lt kq_78) rfl (Nat.le_of_ble_eq_true rfl) rfl (fun r M1 h => c_MD_h hz  h) (fun r32 M31 h33 => ?_)
  refine g_iremG e_MD_turned_125 ?_
  refine g_iload_n e_MD_turned_126 rfl ?_
  refine g_aload_n e_MD_turned_127 rfl ?_
  refine g_callV (rv := rvI) (As := []) (st := [.int v3, .int (v2 % r32), .int (((10 : Int32) * v1) + s0), rf (kG X) 78]) e_MD_turned_128 mv_MD_104 my_MD_w (by decide) rfl rfl kq_78 (hz.lt kq_78) rfl (Nat.le_of_ble_eq_true rfl) rfl (fun r M1 h => c_MD_w hz  h) (fun r35 M34 h36 => ?_)
  refine g_iremG e_MD_turned_131 ?_
  refine g_callV (rv := rvI) (As := [.int (((10 : Int32) * v1) + s0), .int (v2 % r32), .int (v3 % r35)]) (st := []) e_MD_turned_132 mv_MD_199 my_MD_pageOf (by decide) rfl rfl kq_78 (hz.lt kq_78) rfl (Nat.le_of_ble_eq_true rfl) rfl (fun r M1 h => c_MD_pageOf hz  h) (fun r38 M37 h39 => ?_)
  exact g_iret e_MD_turned_135 rfl
set_option maxHeartbeats 4000000 in
set_option maxRecDepth 20000 in
theorem t_MD_turned_42 {X : KX} {Z : ZZ} (hz : FU Z) : ∀ (v1 : Int32) (v2 : Int32) (v3 : Int32) (v4 : Int32) (s0 : Int32) (M : Mm), GO X md_MD_turned (QE X rvI Z) 42 [some (rf (kG X) 78), some (.int v1), some (.int v2), some (.int v3), some (.int v4), none, none] [.int s0] Z M (f_MD_turned_42 v1 v2 v3 v4 s0 M) := by
  intro v1 v2 v3 v4 s0 M
  unfold f_MD_turned_42
  refine g_istore e_MD_turned_42 (by decide) rfl ?_
  refine g_iload_n e_MD_turned_44 rfl ?_
  refine g_iconst (x := (0 : Int32)) e_MD_turned_45 (by decide) ?_
  refine g_aload_n e_MD_turned_46 rfl ?_
  refine g_callV (rv := rvI) (As := []) (st := [.int (0 : Int32), .int v1]) e_MD_turned_47 mv_MD_121 my_MD_sheets (by decide) rfl rfl kq_78 (hz.lt kq_78) rfl (Nat.le_of_ble_eq_true rfl) rfl (fun r M1 h => c_MD_sheets hz  h) (fun r10 M9 h11 => ?_)
  refine g_iconst (x := (1 : Int32)) e_MD_turned_50 (by decide) ?_
  refine g_isub e_MD_turned_51 ?_
  refine g_callS (rv := rvI) (As := [.int v1, .int (0 : Int32), .int (r10 - (1 : Int32))]) (st := []) e_MD_turned_52 ms_MD_92 my_MD_in (by decide) rfl rfl (Nat.le_of_ble_eq_true rfl) (fun r M1 h => c_MD_in hz  h) (fun r13 M12 h14 => ?_)
  refine g_if_eq e_MD_turned_55 (fun c15 => ?_) (fun c15 => ?_)
  · refine g_iconst (x := (-1 : Int32)) e_MD_turned_82 (by decide) ?_
    exact g_iret e_MD_turned_83 rfl
  · refine g_iload_n e_MD_turned_58 rfl ?_
    refine g_iconst (x := (0 : Int32)) e_MD_turned_59 (by decide) ?_
    refine g_iload e_MD_turned_60 rfl ?_
    refine g_iconst (x := (1 : Int32)) e_MD_turned_62 (by decide) ?_
    refine g_isub e_MD_turned_63 ?_
    refine g_callS (rv := rvI) (As := [.int v2, .int (0 : Int32), .int (s0 - (1 : Int32))]) (st := []) e_MD_turned_64 ms_MD_92 my_MD_in (by decide) rfl rfl (Nat.le_of_ble_eq_true rfl) (fun r M1 h => c_MD_in hz  h) (fun r17 M16 h18 => ?_)
    refine g_if_eq e_MD_turned_67 (fun c19 => ?_) (fun c19 => ?_)
    · refine g_iconst (x := (-1 : Int32)) e_MD_turned_82 (by decide) ?_
      exact g_iret e_MD_turned_83 rfl
    · refine g_iload_n e_MD_turned_70 rfl ?_
      refine g_iconst (x := (0 : Int32)) e_MD_turned_71 (by decide) ?_
      refine g_iload e_MD_turned_72 rfl ?_
      refine g_iconst (x := (1 : Int32)) e_MD_turned_74 (by decide) ?_
      refine g_isub e_MD_turned_75 ?_
      refine g_callS (rv := rvI) (As := [.int v3, .int (0 : Int32), .int (v4 - (1 : Int32))]) (st := []) e_MD_turned_76 ms_MD_92 my_MD_in (by decide) rfl rfl (Nat.le_of_ble_eq_true rfl) (fun r M1 h => c_MD_in hz  h) (fun r21 M20 h22 => ?_)
      refine g_if_ne e_MD_turned_79 (fun c23 => ?_) (fun c23 => ?_)
      · refine g_aload_n e_MD_turned_84 rfl ?_
        refine g_callV (rv := rvU) (As := []) (st := []) e_MD_turned_85 mv_MD_162 my_MD_folds (by decide) rfl rfl kq_78 (hz.lt kq_78) rfl (Nat.le_of_ble_eq_true rfl) rfl (fun r M1 h => c_MD_folds hz  h) (fun r25 M24 h26 => ?_)
        refine g_aload_n e_MD_turned_88 rfl ?_
        refine g_getI e_MD_turned_89 fl_MD_148 kq_78 (hz.lt kq_78) fj_10_4 ?_
        refine g_if_ne e_MD_turned_92 (fun c27 => ?_) (fun c27 => ?_)
        · refine g_iload_n e_MD_turned_104 rfl ?_
          refine g_aload_n e_MD_turned_105 rfl ?_
          refine g_callV (rv := rvI) (As := []) (st := [.int v2]) e_MD_turned_106 mv_MD_107 my_MD_h (by decide) rfl rfl kq_78 (hz.lt kq_78) rfl (Nat.le_of_ble_eq_true rfl) rfl (fun r M1 h => c_MD_h hz  h) (fun r29 M28 h30 => ?_)
          refine g_idivG e_MD_turned_109 ?_
          exact g_wq (t_MD_turned_110 hz v1 v2 v3 (v2 / r29) M28) ⟨rfl, rfl, rfl, rfl, trivial⟩
        · refine g_iload_n e_MD_turned_95 rfl ?_
          refine g_aload_n e_MD_turned_96 rfl ?_
          refine g_callV (rv := rvI) (As := []) (st := [.int v3]) e_MD_turned_97 mv_MD_104 my_MD_w (by decide) rfl rfl kq_78 (hz.lt kq_78) rfl (Nat.le_of_ble_eq_true rfl) rfl (fun r M1 h => c_MD_w hz  h) (fun r41 M40 h42 => ?_)
          refine g_idivG e_MD_turned_100 ?_
          refine g_goto e_MD_turned_101 ?_
          exact g_wq (t_MD_turned_110 hz v1 v2 v3 (v3 / r41) M40) ⟨rfl, rfl, rfl, rfl, trivial⟩
      · refine g_iconst (x := (-1 : Int32)) e_MD_turned_82 (by decide) ?_
        exact g_iret e_MD_turned_83 rfl
set_option maxHeartbeats 4000000 in
set_option maxRecDepth 20000 in
theorem t_MD_turned_20 {X : KX} {Z : ZZ} (hz : FU Z) : ∀ (v1 : Int32) (v2 : Int32) (v3 : Int32) (s0 : Int32) (M : Mm), GO X md_MD_turned (QE X rvI Z) 20 [some (rf (kG X) 78), some (.int v1), some (.int v2), some (.int v3), none, none, none] [.int s0] Z M (f_MD_turned_20 v1 v2 v3 s0 M) := by
  intro v1 v2 v3 s0 M
  unfold f_MD_turned_20
  refine g_istore e_MD_turned_20 (by decide) rfl ?_
  refine g_aload_n e_MD_turned_22 rfl ?_
  refine g_getI e_MD_turned_23 fl_MD_148 kq_78 (hz.lt kq_78) fj_10_4 ?_
  refine g_if_ne e_MD_turned_26 (fun c5 => ?_) (fun c5 => ?_)
  · refine g_iconst (x := (2 : Int32)) e_MD_turned_36 (by decide) ?_
    refine g_aload_n e_MD_turned_37 rfl ?_
    refine g_callV (rv := rvI) (As := []) (st := [.int (2 : Int32)]) e_MD_turned_38 mv_MD_107 my_MD_h (by decide) rfl rfl kq_78 (hz.lt kq_78) rfl (Nat.le_of_ble_eq_true rfl) rfl (fun r M1 h => c_MD_h hz  h) (fun r7 M6 h8 => ?_)
    refine g_imul e_MD_turned_41 ?_
    exact g_wq (t_MD_turned_42 hz v1 v2 v3 s0 ((2 : Int32) * r7) M6) ⟨rfl, rfl, rfl, rfl, rfl, trivial⟩
  · refine g_aload_n e_MD_turned_29 rfl ?_
    refine g_callV (rv := rvI) (As := []) (st := []) e_MD_turned_30 mv_MD_107 my_MD_h (by decide) rfl rfl kq_78 (hz.lt kq_78) rfl (Nat.le_of_ble_eq_true rfl) rfl (fun r M1 h => c_MD_h hz  h) (fun r44 M43 h45 => ?_)
    refine g_goto e_MD_turned_33 ?_
    exact g_wq (t_MD_turned_42 hz v1 v2 v3 s0 r44 M43) ⟨rfl, rfl, rfl, rfl, rfl, trivial⟩
set_option maxHeartbeats 4000000 in
set_option maxRecDepth 20000 in
theorem t_MD_turned {X : KX} {Z : ZZ} {v1 : Int32} {v2 : Int32} {v3 : Int32} {M : Mm} (hz : FU Z) : GO X md_MD_turned (QE X rvI Z) 0 [some (rf (kG X) 78), some (.int v1), some (.int v2), some (.int v3), none, none, none] [] Z M (f_MD_turned v1 v2 v3 M) := by
  unfold f_MD_turned
  refine g_aload_n e_MD_turned_0 rfl ?_
  refine g_getI e_MD_turned_1 fl_MD_148 kq_78 (hz.lt kq_78) fj_10_4 ?_
  refine g_if_ne e_MD_turned_4 (fun c1 => ?_) (fun c1 => ?_)
  · refine g_aload_n e_MD_turned_16 rfl ?_
    refine g_callV (rv := rvI) (As := []) (st := []) e_MD_turned_17 mv_MD_104 my_MD_w (by decide) rfl rfl kq_78 (hz.lt kq_78) rfl (Nat.le_of_ble_eq_true rfl) rfl (fun r M1 h => c_MD_w hz  h) (fun r3 M2 h4 => ?_)
    exact g_wq (t_MD_turned_20 hz v1 v2 v3 r3 M2) ⟨rfl, rfl, rfl, rfl, trivial⟩
  · refine g_iconst (x := (2 : Int32)) e_MD_turned_7 (by decide) ?_
    refine g_aload_n e_MD_turned_8 rfl ?_
    refine g_callV (rv := rvI) (As := []) (st := [.int (2 : Int32)]) e_MD_turned_9 mv_MD_104 my_MD_w (by decide) rfl rfl kq_78 (hz.lt kq_78) rfl (Nat.le_of_ble_eq_true rfl) rfl (fun r M1 h => c_MD_w hz  h) (fun r47 M46 h48 => ?_)
    refine g_imul e_MD_turned_12 ?_
    refine g_goto e_MD_turned_13 ?_
    exact g_wq (t_MD_turned_20 hz v1 v2 v3 ((2 : Int32) * r47) M46) ⟨rfl, rfl, rfl, rfl, trivial⟩
set_option maxHeartbeats 4000000 in
set_option maxRecDepth 20000 in
theorem c_MD_turned {l : Launch} {G : KG} {Z : ZZ} {v1 : Int32} {v2 : Int32} {v3 : Int32} {M M' : Mm} {r : Int32} (hz : FU Z) (h : f_MD_turned v1 v2 v3 M = some (r, M')) : CT l G y_MD_turned md_MD_turned 0 0 [rf G 78, .int v1, .int v2, .int v3] Z.2.2.1 Z.2.2.2 M (rvI r) Z.2.2.1 Z.2.2.2 M' :=
  CT.of (Z := (0, 0, Z.2.2.1, Z.2.2.2)) (Z' := (0, 0, Z.2.2.1, Z.2.2.2)) 3 (by decide) rfl ⟨rfl, rfl⟩ (by show 4 ≤ 7; decide) rfl h (fun X _ hG => by subst hG; exact t_MD_turned hz)
set_option maxHeartbeats 4000000 in
set_option maxRecDepth 20000 in
theorem t_MD_outside_19 {X : KX} {Z : ZZ} (hz : FU Z) : ∀ (v1 : Int32) (s0 : Int32) (M : Mm), GO X md_MD_outside (QE X rvI Z) 19 [none, some (.int v1), none, none] [.int s0] Z M (f_MD_outside_19 v1 s0 M) := by
  intro v1 s0 M
  unfold f_MD_outside_19
  refine g_istore_n e_MD_outside_19 (by decide) rfl ?_
  refine g_iload_n e_MD_outside_20 rfl ?_
  refine g_iconst (x := (1 : Int32)) e_MD_outside_21 (by decide) ?_
  refine g_isub e_MD_outside_22 ?_
  refine g_iload_n e_MD_outside_23 rfl ?_
  refine g_iremG e_MD_outside_24 ?_
  refine g_istoreL_n e_MD_outside_25 (by decide) rfl (fun x5 => ?_)
  refine g_iload_n e_MD_outside_26 rfl ?_
  refine g_iload_n e_MD_outside_27 rfl ?_
  refine g_iconst (x := (2 : Int32)) e_MD_outside_28 (by decide) ?_
  refine g_idiv e_MD_outside_29 (by decide) ?_
  refine g_icmp_ge e_MD_outside_30 (fun c6 => ?_) (fun c6 => ?_)
  · refine g_iload_n e_MD_outside_39 rfl ?_
    refine g_iconst (x := (1 : Int32)) e_MD_outside_40 (by decide) ?_
    refine g_isub e_MD_outside_41 ?_
    refine g_iload_n e_MD_outside_42 rfl ?_
    refine g_isub e_MD_outside_43 ?_
    refine g_iconst (x := (2 : Int32)) e_MD_outside_44 (by decide) ?_
    refine g_idiv e_MD_outside_45 (by decide) ?_
    exact g_iret e_MD_outside_46 rfl
  · refine g_iload_n e_MD_outside_33 rfl ?_
    refine g_iconst (x := (2 : Int32)) e_MD_outside_34 (by decide) ?_
    refine g_idiv e_MD_outside_35 (by decide) ?_
    refine g_goto e_MD_outside_36 ?_
    exact g_iret e_MD_outside_46 rfl
set_option maxHeartbeats 4000000 in
set_option maxRecDepth 20000 in
theorem t_MD_outside {X : KX} {Z : ZZ} {v1 : Int32} {M : Mm} (hz : FU Z) : GO X md_MD_outside (QE X rvI Z) 0 [some (rf (kG X) 78), some (.int v1), none, none] [] Z M (f_MD_outside v1 M) := by
  unfold f_MD_outside
  refine g_aload_n e_MD_outside_0 rfl ?_
  refine g_getI e_MD_outside_1 fl_MD_145 kq_78 (hz.lt kq_78) fj_10_3 ?_
  refine g_iconst (x := (1 : Int32)) e_MD_outside_4 (by decide) ?_
  refine g_icmp_ne e_MD_outside_5 (fun c1 => ?_) (fun c1 => ?_)
  · refine g_aload_n e_MD_outside_15 rfl ?_
    refine g_callV (rv := rvI) (As := []) (st := []) e_MD_outside_16 mv_MD_118 my_MD_perSheet (by decide) rfl rfl kq_78 (hz.lt kq_78) rfl (Nat.le_of_ble_eq_true rfl) rfl (fun r M1 h => c_MD_perSheet hz  h) (fun r3 M2 h4 => ?_)
    exact g_wq (t_MD_outside_19 hz v1 r3 M2) ⟨rfl, trivial⟩
  · refine g_aload_n e_MD_outside_8 rfl ?_
    refine g_callV (rv := rvI) (As := []) (st := []) e_MD_outside_9 mv_MD_124 my_MD_allPages (by decide) rfl rfl kq_78 (hz.lt kq_78) rfl (Nat.le_of_ble_eq_true rfl) rfl (fun r M1 h => c_MD_allPages hz  h) (fun r8 M7 h9 => ?_)
    refine g_goto e_MD_outside_12 ?_
    exact g_wq (t_MD_outside_19 hz v1 r8 M7) ⟨rfl, trivial⟩
set_option maxHeartbeats 4000000 in
set_option maxRecDepth 20000 in
theorem c_MD_outside {l : Launch} {G : KG} {Z : ZZ} {v1 : Int32} {M M' : Mm} {r : Int32} (hz : FU Z) (h : f_MD_outside v1 M = some (r, M')) : CT l G y_MD_outside md_MD_outside 0 0 [rf G 78, .int v1] Z.2.2.1 Z.2.2.2 M (rvI r) Z.2.2.1 Z.2.2.2 M' :=
  CT.of (Z := (0, 0, Z.2.2.1, Z.2.2.2)) (Z' := (0, 0, Z.2.2.1, Z.2.2.2)) 2 (by decide) rfl ⟨rfl, rfl⟩ (by show 2 ≤ 4; decide) rfl h (fun X _ hG => by subst hG; exact t_MD_outside hz)
set_option maxHeartbeats 4000000 in
set_option maxRecDepth 20000 in
theorem t_MD_creep {X : KX} {Z : ZZ} {v1 : Int32} {v2 : Int32} {M : Mm} (hz : FU Z) : GO X md_MD_creep (QE X rvI Z) 0 [some (rf (kG X) 78), some (.int v1), some (.int v2), none, none, none, none] [] Z M (f_MD_creep v1 v2 M) := by
  unfold f_MD_creep
  refine g_aload_n e_MD_creep_0 rfl ?_
  refine g_iload_n e_MD_creep_1 rfl ?_
  refine g_callV (rv := rvI) (As := [.int v1]) (st := []) e_MD_creep_2 mv_MD_187 my_MD_isPage (by decide) rfl rfl kq_78 (hz.lt kq_78) rfl (Nat.le_of_ble_eq_true rfl) rfl (fun r M1 h => c_MD_isPage hz  h) (fun r2 M1 h3 => ?_)
  refine g_if_eq e_MD_creep_5 (fun c4 => ?_) (fun c4 => ?_)
  · refine g_iconst (x := (-1 : Int32)) e_MD_creep_17 (by decide) ?_
    exact g_iret e_MD_creep_18 rfl
  · refine g_iload_n e_MD_creep_8 rfl ?_
    refine g_iconst (x := (0 : Int32)) e_MD_creep_9 (by decide) ?_
    refine g_iconst (x := (1 : Int32)) e_MD_creep_10 (by decide) ?_
    refine g_callS (rv := rvI) (As := [.int v2, .int (0 : Int32), .int (1 : Int32)]) (st := []) e_MD_creep_11 ms_MD_92 my_MD_in (by decide) rfl rfl (Nat.le_of_ble_eq_true rfl) (fun r M1 h => c_MD_in hz  h) (fun r6 M5 h7 => ?_)
    refine g_if_ne e_MD_creep_14 (fun c8 => ?_) (fun c8 => ?_)
    · refine g_aload_n e_MD_creep_19 rfl ?_
      refine g_getI e_MD_creep_20 fl_MD_18 kq_78 (hz.lt kq_78) fj_10_5 ?_
      refine g_i2l e_MD_creep_23 ?_
      refine g_aload_n e_MD_creep_24 rfl ?_
      refine g_iload_n e_MD_creep_25 rfl ?_
      refine g_callV (rv := rvI) (As := [.int v1]) (st := [.long (Int32.toInt64 (M5.1 78 5))]) e_MD_creep_26 mv_MD_203 my_MD_outside (by decide) rfl rfl kq_78 (hz.lt kq_78) rfl (Nat.le_of_ble_eq_true rfl) rfl (fun r M1 h => c_MD_outside hz  h) (fun r10 M9 h11 => ?_)
      refine g_i2l e_MD_creep_29 ?_
      refine g_lmul e_MD_creep_30 ?_
      refine g_lstoreL_n e_MD_creep_31 (by decide) rfl (fun u12 => ?_)
      refine g_lload_n e_MD_creep_32 rfl ?_
      refine g_aload_n e_MD_creep_33 rfl ?_
      refine g_getI e_MD_creep_34 fl_MD_21 kq_78 (hz.lt kq_78) fj_10_6 ?_
      refine g_i2l e_MD_creep_37 ?_
      refine g_lmul e_MD_creep_38 ?_
      refine g_lstoreL e_MD_creep_39 (by decide) rfl (fun u13 => ?_)
      refine g_iload_n e_MD_creep_41 rfl ?_
      refine g_if_ne e_MD_creep_42 (fun c14 => ?_) (fun c14 => ?_)
      · refine g_lload e_MD_creep_48 rfl ?_
        refine g_ldc2 (u := (2147483647 : Int64)) e_MD_creep_50 w_1090 ?_
        refine g_lcmp e_MD_creep_53 ?_
        refine g_phi1 65 (fun x16 => [none, none, none, none, none, none, none]) (fun x16 => [.int x16]) (fun x16 => ?_) (fun hj17 => ?_)
        · show GO X _ _ 65 [none, none, none, none, none, none, none] [.int x16] Z M9 _
          exact g_iret e_MD_creep_65 rfl
        · refine g_if_le' e_MD_creep_54 (fun c15 => ?_) (fun c15 => ?_)
          · refine g_lload e_MD_creep_62 rfl ?_
            refine g_l2i e_MD_creep_64 ?_
            exact (g_pt c15 (g_lt (g_wq (hj17 (Int64.toInt32 u13)) trivial)))
          · refine g_bipush (x := (-15 : Int32)) e_MD_creep_57 (by decide) ?_
            refine g_goto e_MD_creep_59 ?_
            exact (g_pf c15 (g_lt (g_wq (hj17 (-15 : Int32)) trivial)))
      · refine g_lload_n e_MD_creep_45 rfl ?_
        refine g_l2i e_MD_creep_46 ?_
        exact g_iret e_MD_creep_47 rfl
    · refine g_iconst (x := (-1 : Int32)) e_MD_creep_17 (by decide) ?_
      exact g_iret e_MD_creep_18 rfl
set_option maxHeartbeats 4000000 in
set_option maxRecDepth 20000 in
theorem c_MD_creep {l : Launch} {G : KG} {Z : ZZ} {v1 : Int32} {v2 : Int32} {M M' : Mm} {r : Int32} (hz : FU Z) (h : f_MD_creep v1 v2 M = some (r, M')) : CT l G y_MD_creep md_MD_creep 0 0 [rf G 78, .int v1, .int v2] Z.2.2.1 Z.2.2.2 M (rvI r) Z.2.2.1 Z.2.2.2 M' :=
  CT.of (Z := (0, 0, Z.2.2.1, Z.2.2.2)) (Z' := (0, 0, Z.2.2.1, Z.2.2.2)) 4 (by decide) rfl ⟨rfl, rfl⟩ (by show 3 ≤ 7; decide) rfl h (fun X _ hG => by subst hG; exact t_MD_creep hz)
set_option maxHeartbeats 4000000 in
set_option maxRecDepth 20000 in
theorem t_MD_divisor_6 {X : KX} {Z : ZZ} (hz : FU Z) : ∀ (n : Nat) (v4 : Int64) (v6 : Int64) (M : Mm), GO X md_MD_divisor (QE X rvJ Z) 6 [none, none, none, none, some (.long v4), none, some (.long v6), none, none, none] [] Z M (f_MD_divisor_6 n v4 v6 M) := by
  intro n
  induction n with
  | zero =>
    intro v4 v6 M
    exact g_none
  | succ n ih =>
    intro v4 v6 M
    rw [f_MD_divisor_6_s]
    refine g_lload e_MD_divisor_6 rfl ?_
    refine g_lconst (u := (0 : Int64)) e_MD_divisor_8 (by decide) ?_
    refine g_lcmp e_MD_divisor_9 ?_
    refine g_if_eq e_MD_divisor_10 (fun c1 => ?_) (fun c1 => ?_)
    · refine g_lload e_MD_divisor_31 rfl ?_
      exact g_lret e_MD_divisor_33 rfl
    · refine g_lload e_MD_divisor_13 rfl ?_
      refine g_lload e_MD_divisor_15 rfl ?_
      refine g_lremG e_MD_divisor_17 ?_
      refine g_lstoreL e_MD_divisor_18 (by decide) rfl (fun u2 => ?_)
      refine g_lload e_MD_divisor_20 rfl ?_
      refine g_lstore e_MD_divisor_22 (by decide) rfl ?_
      refine g_lload e_MD_divisor_24 rfl ?_
      refine g_lstore e_MD_divisor_26 (by decide) rfl ?_
      refine g_goto e_MD_divisor_28 ?_
      exact g_wq (ih v6 u2 M) ⟨rfl, rfl, trivial⟩
set_option maxHeartbeats 4000000 in
set_option maxRecDepth 20000 in
theorem t_MD_divisor {X : KX} {Z : ZZ} {v0 : Int64} {v2 : Int64} {M : Mm} (hz : FU Z) : GO X md_MD_divisor (QE X rvJ Z) 0 [some (.long v0), none, some (.long v2), none, none, none, none, none, none, none] [] Z M (f_MD_divisor v0 v2 M) := by
  unfold f_MD_divisor
  refine g_lload_n e_MD_divisor_0 rfl ?_
  refine g_lstore e_MD_divisor_1 (by decide) rfl ?_
  refine g_lload_n e_MD_divisor_3 rfl ?_
  refine g_lstore e_MD_divisor_4 (by decide) rfl ?_
  exact g_wq (t_MD_divisor_6 hz fuel v0 v2 M) ⟨rfl, rfl, trivial⟩
set_option maxHeartbeats 4000000 in
set_option maxRecDepth 20000 in
theorem c_MD_divisor {l : Launch} {G : KG} {Z : ZZ} {v0 : Int64} {v2 : Int64} {M M' : Mm} {r : Int64} (hz : FU Z) (h : f_MD_divisor v0 v2 M = some (r, M')) : CT l G y_MD_divisor md_MD_divisor 0 0 [.long v0, .long v2] Z.2.2.1 Z.2.2.2 M (rvJ r) Z.2.2.1 Z.2.2.2 M' :=
  CT.of (Z := (0, 0, Z.2.2.1, Z.2.2.2)) (Z' := (0, 0, Z.2.2.1, Z.2.2.2)) 6 (by decide) rfl ⟨rfl, rfl⟩ (by show 4 ≤ 10; decide) rfl h (fun X _ hG => by subst hG; exact t_MD_divisor hz)
set_option maxHeartbeats 4000000 in
set_option maxRecDepth 20000 in
theorem t_MD_share_63 {X : KX} {Z : ZZ} {rec26 : Int32 → Int32 → Int64 → Int32 → Mm → Option (Int64 × Mm)} (hz : FU Z) (hr26 : ∀ (v1 : Int32) (v2 : Int32) (v3 : Int64) (v5 : Int32) (M : Mm), GO X md_MD_share (QE X rvJ Z) 26 [some (rf (kG X) 78), some (.int v1), some (.int v2), some (.long v3), none, some (.int v5), none, none] [] Z M (rec26 v1 v2 v3 v5 M)) : ∀ (v1 : Int32) (v2 : Int32) (v5 : Int32) (s0 : Int64) (M : Mm), GO X md_MD_share (QE X rvJ Z) 63 [some (rf (kG X) 78), some (.int v1), some (.int v2), none, none, some (.int v5), none, none] [.long s0] Z M (f_MD_share_63 rec26 v1 v2 v5 s0 M) := by
  intro v1 v2 v5 s0 M
  unfold f_MD_share_63
  refine g_lstore_n e_MD_share_63 (by decide) rfl ?_
  refine g_iincL (c := (1 : Int32)) e_MD_share_64 rfl (by decide) (by decide) rfl (fun x27 => ?_)
  refine g_goto e_MD_share_67 ?_
  exact g_wq (hr26 v1 v2 s0 x27 M) ⟨rfl, rfl, rfl, rfl, rfl, trivial⟩
set_option maxHeartbeats 4000000 in
set_option maxRecDepth 20000 in
theorem t_MD_share_26 {X : KX} {Z : ZZ} (hz : FU Z) : ∀ (n : Nat) (v1 : Int32) (v2 : Int32) (v3 : Int64) (v5 : Int32) (M : Mm), GO X md_MD_share (QE X rvJ Z) 26 [some (rf (kG X) 78), some (.int v1), some (.int v2), some (.long v3), none, some (.int v5), none, none] [] Z M (f_MD_share_26 n v1 v2 v3 v5 M) := by
  intro n
  induction n with
  | zero =>
    intro v1 v2 v3 v5 M
    exact g_none
  | succ n ih =>
    intro v1 v2 v3 v5 M
    rw [f_MD_share_26_s]
    refine g_iload e_MD_share_26 rfl ?_
    refine g_aload_n e_MD_share_28 rfl ?_
    refine g_getI e_MD_share_29 fl_MD_15 kq_78 (hz.lt kq_78) fj_10_2 ?_
    refine g_icmp_gt e_MD_share_32 (fun c9 => ?_) (fun c9 => ?_)
    · refine g_lload_n e_MD_share_70 rfl ?_
      refine g_lconst (u := (0 : Int64)) e_MD_share_71 (by decide) ?_
      refine g_lcmp e_MD_share_72 ?_
      refine g_if_ne e_MD_share_73 (fun c10 => ?_) (fun c10 => ?_)
      · refine g_aload_n e_MD_share_79 rfl ?_
        refine g_getI e_MD_share_80 fl_MD_18 kq_78 (hz.lt kq_78) fj_10_5 ?_
        refine g_i2l e_MD_share_83 ?_
        refine g_aload_n e_MD_share_84 rfl ?_
        refine g_iload_n e_MD_share_85 rfl ?_
        refine g_callV (rv := rvI) (As := [.int v1]) (st := [.long (Int32.toInt64 (M.1 78 5))]) e_MD_share_86 mv_MD_203 my_MD_outside (by decide) rfl rfl kq_78 (hz.lt kq_78) rfl (Nat.le_of_ble_eq_true rfl) rfl (fun r M1 h => c_MD_outside hz  h) (fun r12 M11 h13 => ?_)
        refine g_i2l e_MD_share_89 ?_
        refine g_lmul e_MD_share_90 ?_
        refine g_lstoreL e_MD_share_91 (by decide) rfl (fun u14 => ?_)
        refine g_iload_n e_MD_share_93 rfl ?_
        refine g_if_ne e_MD_share_94 (fun c15 => ?_) (fun c15 => ?_)
        · refine g_lload_n e_MD_share_102 rfl ?_
          refine g_lload e_MD_share_103 rfl ?_
          refine g_lload_n e_MD_share_105 rfl ?_
          refine g_callS (rv := rvJ) (As := [.long u14, .long v3]) (st := [.long v3]) e_MD_share_106 ms_MD_212 my_MD_divisor (by decide) rfl rfl (Nat.le_of_ble_eq_true rfl) (fun r M1 h => c_MD_divisor hz  h) (fun r17 M16 h18 => ?_)
          refine g_ldivG e_MD_share_109 ?_
          exact g_lret e_MD_share_110 rfl
        · refine g_lload e_MD_share_97 rfl ?_
          refine g_goto e_MD_share_99 ?_
          refine g_lload e_MD_share_103 rfl ?_
          refine g_lload_n e_MD_share_105 rfl ?_
          refine g_callS (rv := rvJ) (As := [.long u14, .long v3]) (st := [.long u14]) e_MD_share_106 ms_MD_212 my_MD_divisor (by decide) rfl rfl (Nat.le_of_ble_eq_true rfl) (fun r M1 h => c_MD_divisor hz  h) (fun r20 M19 h21 => ?_)
          refine g_ldivG e_MD_share_109 ?_
          exact g_lret e_MD_share_110 rfl
      · refine g_iload_n e_MD_share_76 rfl ?_
        refine g_i2l e_MD_share_77 ?_
        exact g_lret e_MD_share_78 rfl
    · refine g_aload_n e_MD_share_35 rfl ?_
      refine g_getI e_MD_share_36 fl_MD_18 kq_78 (hz.lt kq_78) fj_10_5 ?_
      refine g_i2l e_MD_share_39 ?_
      refine g_aload_n e_MD_share_40 rfl ?_
      refine g_iload e_MD_share_41 rfl ?_
      refine g_callV (rv := rvI) (As := [.int v5]) (st := [.long (Int32.toInt64 (M.1 78 5))]) e_MD_share_43 mv_MD_203 my_MD_outside (by decide) rfl rfl kq_78 (hz.lt kq_78) rfl (Nat.le_of_ble_eq_true rfl) rfl (fun r M1 h => c_MD_outside hz  h) (fun r23 M22 h24 => ?_)
      refine g_i2l e_MD_share_46 ?_
      refine g_lmul e_MD_share_47 ?_
      refine g_lstoreL e_MD_share_48 (by decide) rfl (fun u25 => ?_)
      refine g_lload e_MD_share_50 rfl ?_
      refine g_lload_n e_MD_share_52 rfl ?_
      refine g_lcmp e_MD_share_53 ?_
      refine g_if_le e_MD_share_54 (fun c26 => ?_) (fun c26 => ?_)
      · refine g_lload_n e_MD_share_62 rfl ?_
        exact g_wq (t_MD_share_63 hz (ih) v1 v2 v5 v3 M22) ⟨rfl, rfl, rfl, rfl, trivial⟩
      · refine g_lload e_MD_share_57 rfl ?_
        refine g_goto e_MD_share_59 ?_
        exact g_wq (t_MD_share_63 hz (ih) v1 v2 v5 u25 M22) ⟨rfl, rfl, rfl, rfl, trivial⟩
set_option maxHeartbeats 4000000 in
set_option maxRecDepth 20000 in
theorem t_MD_share {X : KX} {Z : ZZ} {v1 : Int32} {v2 : Int32} {M : Mm} (hz : FU Z) : GO X md_MD_share (QE X rvJ Z) 0 [some (rf (kG X) 78), some (.int v1), some (.int v2), none, none, none, none, none] [] Z M (f_MD_share v1 v2 M) := by
  unfold f_MD_share
  refine g_aload_n e_MD_share_0 rfl ?_
  refine g_iload_n e_MD_share_1 rfl ?_
  refine g_callV (rv := rvI) (As := [.int v1]) (st := []) e_MD_share_2 mv_MD_187 my_MD_isPage (by decide) rfl rfl kq_78 (hz.lt kq_78) rfl (Nat.le_of_ble_eq_true rfl) rfl (fun r M1 h => c_MD_isPage hz  h) (fun r2 M1 h3 => ?_)
  refine g_if_eq e_MD_share_5 (fun c4 => ?_) (fun c4 => ?_)
  · refine g_ldc2 (u := (-9223372036854775808 : Int64)) e_MD_share_17 w_1095 ?_
    exact g_lret e_MD_share_20 rfl
  · refine g_iload_n e_MD_share_8 rfl ?_
    refine g_iconst (x := (0 : Int32)) e_MD_share_9 (by decide) ?_
    refine g_iconst (x := (1 : Int32)) e_MD_share_10 (by decide) ?_
    refine g_callS (rv := rvI) (As := [.int v2, .int (0 : Int32), .int (1 : Int32)]) (st := []) e_MD_share_11 ms_MD_92 my_MD_in (by decide) rfl rfl (Nat.le_of_ble_eq_true rfl) (fun r M1 h => c_MD_in hz  h) (fun r6 M5 h7 => ?_)
    refine g_if_ne e_MD_share_14 (fun c8 => ?_) (fun c8 => ?_)
    · refine g_lconst (u := (0 : Int64)) e_MD_share_21 (by decide) ?_
      refine g_lstore_n e_MD_share_22 (by decide) rfl ?_
      refine g_iconst (x := (1 : Int32)) e_MD_share_23 (by decide) ?_
      refine g_istore e_MD_share_24 (by decide) rfl ?_
      exact g_wq (t_MD_share_26 hz fuel v1 v2 (0 : Int64) (1 : Int32) M5) ⟨rfl, rfl, rfl, rfl, rfl, trivial⟩
    · refine g_ldc2 (u := (-9223372036854775808 : Int64)) e_MD_share_17 w_1095 ?_
      exact g_lret e_MD_share_20 rfl
set_option maxHeartbeats 4000000 in
set_option maxRecDepth 20000 in
theorem c_MD_share {l : Launch} {G : KG} {Z : ZZ} {v1 : Int32} {v2 : Int32} {M M' : Mm} {r : Int64} (hz : FU Z) (h : f_MD_share v1 v2 M = some (r, M')) : CT l G y_MD_share md_MD_share 0 0 [rf G 78, .int v1, .int v2] Z.2.2.1 Z.2.2.2 M (rvJ r) Z.2.2.1 Z.2.2.2 M' :=
  CT.of (Z := (0, 0, Z.2.2.1, Z.2.2.2)) (Z' := (0, 0, Z.2.2.1, Z.2.2.2)) 5 (by decide) rfl ⟨rfl, rfl⟩ (by show 3 ≤ 8; decide) rfl h (fun X _ hG => by subst hG; exact t_MD_share hz)
set_option maxHeartbeats 4000000 in
set_option maxRecDepth 20000 in
theorem t_MD_placeIn_7 {X : KX} {Z : ZZ} {a0 : Nat} (hz : FU Z) (ha0 : kD a0 = 100 + aL a0 ∧ aL a0 < 900) : ∀ (n : Nat) (v2 : Int32) (v3 : Int32) (v4 : Int32) (M : Mm), GO X md_MD_placeIn (QE X rvI Z) 7 [some (rf (kG X) a0), none, some (.int v2), some (.int v3), some (.int v4)] [] Z M (f_MD_placeIn_7 a0 n v2 v3 v4 M) := by
  intro n
  induction n with
  | zero =>
    intro v2 v3 v4 M
    exact g_none
  | succ n ih =>
    intro v2 v3 v4 M
    rw [f_MD_placeIn_7_s]
    refine g_iload e_MD_placeIn_7 rfl ?_
    refine g_if_lt e_MD_placeIn_9 (fun c2 => ?_) (fun c2 => ?_)
    · refine g_iload_n e_MD_placeIn_33 rfl ?_
      exact g_iret e_MD_placeIn_34 rfl
    · refine g_aload_n e_MD_placeIn_12 rfl ?_
      refine g_iload e_MD_placeIn_13 rfl ?_
      refine g_ialdG (n := (aL a0)) e_MD_placeIn_15 ha0 (hz.lt (ha0).1 (by omega)) ?_
      refine g_iload_n e_MD_placeIn_16 rfl ?_
      refine g_phi1 26 (fun x4 => [some (rf (kG X) a0), none, some (.int v2), none, some (.int v4)]) (fun x4 => [.int x4]) (fun x4 => ?_) (fun hj6 => ?_)
      · show GO X _ _ 26 [some (rf (kG X) a0), none, some (.int v2), none, some (.int v4)] [.int x4] Z M _
        refine g_istore_n e_MD_placeIn_26 (by decide) rfl ?_
        refine g_iincL (c := (-1 : Int32)) e_MD_placeIn_27 rfl (by decide) (by decide) rfl (fun x5 => ?_)
        refine g_goto e_MD_placeIn_30 ?_
        exact g_wq (ih v2 x4 x5 M) ⟨rfl, rfl, rfl, rfl, trivial⟩
      · refine g_icmp_ne' e_MD_placeIn_17 (fun c3 => ?_) (fun c3 => ?_)
        · refine g_iload_n e_MD_placeIn_25 rfl ?_
          exact (g_pf c3 (g_lt (g_wq (hj6 v3) ⟨rfl, rfl, rfl, trivial⟩)))
        · refine g_iload e_MD_placeIn_20 rfl ?_
          refine g_goto e_MD_placeIn_22 ?_
          exact (g_pt c3 (g_lt (g_wq (hj6 v4) ⟨rfl, rfl, rfl, trivial⟩)))
set_option maxHeartbeats 4000000 in
set_option maxRecDepth 20000 in
theorem t_MD_placeIn {X : KX} {Z : ZZ} {a0 : Nat} {v1 : Int32} {v2 : Int32} {M : Mm} (hz : FU Z) (ha0 : kD a0 = 100 + aL a0 ∧ aL a0 < 900) : GO X md_MD_placeIn (QE X rvI Z) 0 [some (rf (kG X) a0), some (.int v1), some (.int v2), none, none] [] Z M (f_MD_placeIn a0 v1 v2 M) := by
  unfold f_MD_placeIn
  refine g_iconst (x := (-1 : Int32)) e_MD_placeIn_0 (by decide) ?_
  refine g_istore_n e_MD_placeIn_1 (by decide) rfl ?_
  refine g_iload_n e_MD_placeIn_2 rfl ?_
  refine g_iconst (x := (1 : Int32)) e_MD_placeIn_3 (by decide) ?_
  refine g_isub e_MD_placeIn_4 ?_
  refine g_istoreL e_MD_placeIn_5 (by decide) rfl (fun x1 => ?_)
  exact g_wq (t_MD_placeIn_7 hz ha0 fuel v2 (-1 : Int32) x1 M) ⟨rfl, rfl, rfl, rfl, trivial⟩
set_option maxHeartbeats 4000000 in
set_option maxRecDepth 20000 in
theorem c_MD_placeIn {l : Launch} {G : KG} {Z : ZZ} {a0 : Nat} {v1 : Int32} {v2 : Int32} {M M' : Mm} {r : Int32} (hz : FU Z) (ha0 : kD a0 = 100 + aL a0 ∧ aL a0 < 900) (h : f_MD_placeIn a0 v1 v2 M = some (r, M')) : CT l G y_MD_placeIn md_MD_placeIn 0 0 [rf G a0, .int v1, .int v2] Z.2.2.1 Z.2.2.2 M (rvI r) Z.2.2.1 Z.2.2.2 M' :=
  CT.of (Z := (0, 0, Z.2.2.1, Z.2.2.2)) (Z' := (0, 0, Z.2.2.1, Z.2.2.2)) 2 (by decide) rfl ⟨rfl, rfl⟩ (by show 3 ≤ 5; decide) rfl h (fun X _ hG => by subst hG; exact t_MD_placeIn hz ha0)
set_option maxHeartbeats 4000000 in
set_option maxRecDepth 20000 in
theorem t_MD_isPrinted {X : KX} {Z : ZZ} {v1 : Int32} {M : Mm} (hz : FU Z) : GO X md_MD_isPrinted (QE X rvI Z) 0 [some (rf (kG X) 78), some (.int v1)] [] Z M (f_MD_isPrinted v1 M) := by
  unfold f_MD_isPrinted
  refine g_aload_n e_MD_isPrinted_0 rfl ?_
  refine g_getRZ (kz := 86) e_MD_isPrinted_1 fl_MD_46 hz kq_78 (by decide) fj_10_17 rfl ?_
  refine g_aload_n e_MD_isPrinted_4 rfl ?_
  refine g_getI e_MD_isPrinted_5 fl_MD_130 kq_78 (hz.lt kq_78) fj_10_18 ?_
  refine g_iload_n e_MD_isPrinted_8 rfl ?_
  refine g_callS (rv := rvI) (As := [rf (kG X) 86, .int (M.1 78 18), .int v1]) (st := []) e_MD_isPrinted_9 ms_MD_216 my_MD_placeIn (by decide) rfl rfl (Nat.le_of_ble_eq_true rfl) (fun r M1 h => c_MD_placeIn hz ⟨kq_86, by decide⟩ h) (fun r2 M1 h3 => ?_)
  refine g_iconst (x := (-1 : Int32)) e_MD_isPrinted_12 (by decide) ?_
  refine g_icmp_eq e_MD_isPrinted_13 (fun c4 => ?_) (fun c4 => ?_)
  · refine g_iconst (x := (0 : Int32)) e_MD_isPrinted_20 (by decide) ?_
    exact g_zret e_MD_isPrinted_21 rfl (by decide)
  · refine g_iconst (x := (1 : Int32)) e_MD_isPrinted_16 (by decide) ?_
    refine g_goto e_MD_isPrinted_17 ?_
    exact g_zret e_MD_isPrinted_21 rfl (by decide)
set_option maxHeartbeats 4000000 in
set_option maxRecDepth 20000 in
theorem c_MD_isPrinted {l : Launch} {G : KG} {Z : ZZ} {v1 : Int32} {M M' : Mm} {r : Int32} (hz : FU Z) (h : f_MD_isPrinted v1 M = some (r, M')) : CT l G y_MD_isPrinted md_MD_isPrinted 0 0 [rf G 78, .int v1] Z.2.2.1 Z.2.2.2 M (rvI r) Z.2.2.1 Z.2.2.2 M' :=
  CT.of (Z := (0, 0, Z.2.2.1, Z.2.2.2)) (Z' := (0, 0, Z.2.2.1, Z.2.2.2)) 0 (by decide) rfl ⟨rfl, rfl⟩ (by show 2 ≤ 2; decide) rfl h (fun X _ hG => by subst hG; exact t_MD_isPrinted hz)
set_option maxHeartbeats 4000000 in
set_option maxRecDepth 20000 in
theorem t_MD_waits {X : KX} {Z : ZZ} {v1 : Int32} {M : Mm} (hz : FU Z) : GO X md_MD_waits (QE X rvI Z) 0 [some (rf (kG X) 78), some (.int v1)] [] Z M (f_MD_waits v1 M) := by
  unfold f_MD_waits
  refine g_aload_n e_MD_waits_0 rfl ?_
  refine g_iload_n e_MD_waits_1 rfl ?_
  refine g_callV (rv := rvI) (As := [.int v1]) (st := []) e_MD_waits_2 mv_MD_193 my_MD_isForme (by decide) rfl rfl kq_78 (hz.lt kq_78) rfl (Nat.le_of_ble_eq_true rfl) rfl (fun r M1 h => c_MD_isForme hz  h) (fun r2 M1 h3 => ?_)
  refine g_if_ne e_MD_waits_5 (fun c4 => ?_) (fun c4 => ?_)
  · refine g_aload_n e_MD_waits_10 rfl ?_
    refine g_getRZ (kz := 85) e_MD_waits_11 fl_MD_43 hz kq_78 (by decide) fj_10_15 rfl ?_
    refine g_aload_n e_MD_waits_14 rfl ?_
    refine g_getI e_MD_waits_15 fl_MD_127 kq_78 (hz.lt kq_78) fj_10_16 ?_
    refine g_iload_n e_MD_waits_18 rfl ?_
    refine g_callS (rv := rvI) (As := [rf (kG X) 85, .int (M1.1 78 16), .int v1]) (st := []) e_MD_waits_19 ms_MD_216 my_MD_placeIn (by decide) rfl rfl (Nat.le_of_ble_eq_true rfl) (fun r M1 h => c_MD_placeIn hz ⟨kq_85, by decide⟩ h) (fun r6 M5 h7 => ?_)
    refine g_iconst (x := (-1 : Int32)) e_MD_waits_22 (by decide) ?_
    refine g_icmp_ne e_MD_waits_23 (fun c8 => ?_) (fun c8 => ?_)
    · refine g_bipush (x := (-3 : Int32)) e_MD_waits_34 (by decide) ?_
      exact g_iret e_MD_waits_36 rfl
    · refine g_aload_n e_MD_waits_26 rfl ?_
      refine g_iload_n e_MD_waits_27 rfl ?_
      refine g_callV (rv := rvI) (As := [.int v1]) (st := []) e_MD_waits_28 mv_MD_220 my_MD_isPrinted (by decide) rfl rfl kq_78 (hz.lt kq_78) rfl (Nat.le_of_ble_eq_true rfl) rfl (fun r M1 h => c_MD_isPrinted hz  h) (fun r10 M9 h11 => ?_)
      refine g_if_eq e_MD_waits_31 (fun c12 => ?_) (fun c12 => ?_)
      · refine g_aload_n e_MD_waits_37 rfl ?_
        refine g_getI e_MD_waits_38 fl_MD_127 kq_78 (hz.lt kq_78) fj_10_16 ?_
        refine g_bipush (x := (40 : Int32)) e_MD_waits_41 (by decide) ?_
        refine g_icmp_ne e_MD_waits_43 (fun c13 => ?_) (fun c13 => ?_)
        · refine g_aload_n e_MD_waits_49 rfl ?_
          refine g_getRZ (kz := 85) e_MD_waits_50 fl_MD_43 hz kq_78 (by decide) fj_10_15 rfl ?_
          refine g_aload_n e_MD_waits_53 rfl ?_
          refine g_getI e_MD_waits_54 fl_MD_127 kq_78 (hz.lt kq_78) fj_10_16 ?_
          refine g_iload_n e_MD_waits_57 rfl ?_
          refine g_iastG (n := 40) e_MD_waits_58 ⟨kq_85, by decide⟩ (hz.lt kq_85 (by decide)) (fun M14 => ?_)
          refine g_aload_n e_MD_waits_59 rfl ?_
          refine g_dup e_MD_waits_60 rfl ?_
          refine g_getI e_MD_waits_61 fl_MD_127 kq_78 (hz.lt kq_78) fj_10_16 ?_
          refine g_iconst (x := (1 : Int32)) e_MD_waits_64 (by decide) ?_
          refine g_iadd e_MD_waits_65 ?_
          refine g_putL e_MD_waits_66 fp_MD_127 kq_78 (hz.lt kq_78) fj_10_16 rfl rfl (fun M15 => ?_)
          refine g_aload_n e_MD_waits_69 rfl ?_
          refine g_getI e_MD_waits_70 fl_MD_127 kq_78 (hz.lt kq_78) fj_10_16 ?_
          exact g_iret e_MD_waits_73 rfl
        · refine g_bipush (x := (-4 : Int32)) e_MD_waits_46 (by decide) ?_
          exact g_iret e_MD_waits_48 rfl
      · refine g_bipush (x := (-3 : Int32)) e_MD_waits_34 (by decide) ?_
        exact g_iret e_MD_waits_36 rfl
  · refine g_iconst (x := (-1 : Int32)) e_MD_waits_8 (by decide) ?_
    exact g_iret e_MD_waits_9 rfl
set_option maxHeartbeats 4000000 in
set_option maxRecDepth 20000 in
theorem c_MD_waits {l : Launch} {G : KG} {Z : ZZ} {v1 : Int32} {M M' : Mm} {r : Int32} (hz : FU Z) (h : f_MD_waits v1 M = some (r, M')) : CT l G y_MD_waits md_MD_waits 0 0 [rf G 78, .int v1] Z.2.2.1 Z.2.2.2 M (rvI r) Z.2.2.1 Z.2.2.2 M' :=
  CT.of (Z := (0, 0, Z.2.2.1, Z.2.2.2)) (Z' := (0, 0, Z.2.2.1, Z.2.2.2)) 0 (by decide) rfl ⟨rfl, rfl⟩ (by show 2 ≤ 2; decide) rfl h (fun X _ hG => by subst hG; exact t_MD_waits hz)
set_option maxHeartbeats 4000000 in
set_option maxRecDepth 20000 in
theorem t_MD_leaves1_12 {X : KX} {Z : ZZ} (hz : FU Z) : ∀ (n : Nat) (v2 : Int32) (M : Mm), GO X md_MD_leaves1 (QE X rvU Z) 12 [some (rf (kG X) 78), none, some (.int v2)] [] Z M (f_MD_leaves1_12 n v2 M) := by
  intro n
  induction n with
  | zero =>
    intro v2 M
    exact g_none
  | succ n ih =>
    intro v2 M
    rw [f_MD_leaves1_12_s]
    refine g_iload_n e_MD_leaves1_12 rfl ?_
    refine g_aload_n e_MD_leaves1_13 rfl ?_
    refine g_getI e_MD_leaves1_14 fl_MD_127 kq_78 (hz.lt kq_78) fj_10_16 ?_
    refine g_icmp_ge e_MD_leaves1_17 (fun c2 => ?_) (fun c2 => ?_)
    · exact g_vret e_MD_leaves1_40 rfl
    · refine g_aload_n e_MD_leaves1_20 rfl ?_
      refine g_getRZ (kz := 85) e_MD_leaves1_21 fl_MD_43 hz kq_78 (by decide) fj_10_15 rfl ?_
      refine g_iload_n e_MD_leaves1_24 rfl ?_
      refine g_aload_n e_MD_leaves1_25 rfl ?_
      refine g_getRZ (kz := 85) e_MD_leaves1_26 fl_MD_43 hz kq_78 (by decide) fj_10_15 rfl ?_
      refine g_iload_n e_MD_leaves1_29 rfl ?_
      refine g_iconst (x := (1 : Int32)) e_MD_leaves1_30 (by decide) ?_
      refine g_iadd e_MD_leaves1_31 ?_
      refine g_ialdG (n := 40) e_MD_leaves1_32 ⟨kq_85, by decide⟩ (hz.lt kq_85 (by decide)) ?_
      refine g_iastG (n := 40) e_MD_leaves1_33 ⟨kq_85, by decide⟩ (hz.lt kq_85 (by decide)) (fun M3 => ?_)
      refine g_iincL (c := (1 : Int32)) e_MD_leaves1_34 rfl (by decide) (by decide) rfl (fun x4 => ?_)
      refine g_goto e_MD_leaves1_37 ?_
      exact g_wq (ih x4 M3) ⟨rfl, rfl, trivial⟩
set_option maxHeartbeats 4000000 in
set_option maxRecDepth 20000 in
theorem t_MD_leaves1 {X : KX} {Z : ZZ} {v1 : Int32} {M : Mm} (hz : FU Z) : GO X md_MD_leaves1 (QE X rvU Z) 0 [some (rf (kG X) 78), some (.int v1), none] [] Z M (f_MD_leaves1 v1 M) := by
  unfold f_MD_leaves1
  refine g_aload_n e_MD_leaves1_0 rfl ?_
  refine g_dup e_MD_leaves1_1 rfl ?_
  refine g_getI e_MD_leaves1_2 fl_MD_127 kq_78 (hz.lt kq_78) fj_10_16 ?_
  refine g_iconst (x := (1 : Int32)) e_MD_leaves1_5 (by decide) ?_
  refine g_isub e_MD_leaves1_6 ?_
  refine g_putL e_MD_leaves1_7 fp_MD_127 kq_78 (hz.lt kq_78) fj_10_16 rfl rfl (fun M1 => ?_)
  refine g_iload_n e_MD_leaves1_10 rfl ?_
  refine g_istore_n e_MD_leaves1_11 (by decide) rfl ?_
  exact g_wq (t_MD_leaves1_12 hz fuel v1 M1) ⟨rfl, rfl, trivial⟩
set_option maxHeartbeats 4000000 in
set_option maxRecDepth 20000 in
theorem c_MD_leaves1 {l : Launch} {G : KG} {Z : ZZ} {v1 : Int32} {M M' : Mm} {r : Unit} (hz : FU Z) (h : f_MD_leaves1 v1 M = some (r, M')) : CT l G y_MD_leaves1 md_MD_leaves1 0 0 [rf G 78, .int v1] Z.2.2.1 Z.2.2.2 M (rvU r) Z.2.2.1 Z.2.2.2 M' :=
  CT.of (Z := (0, 0, Z.2.2.1, Z.2.2.2)) (Z' := (0, 0, Z.2.2.1, Z.2.2.2)) 1 (by decide) rfl ⟨rfl, rfl⟩ (by show 2 ≤ 3; decide) rfl h (fun X _ hG => by subst hG; exact t_MD_leaves1 hz)
set_option maxHeartbeats 4000000 in
set_option maxRecDepth 20000 in
theorem t_MD_strokes_59 {X : KX} {Z : ZZ} (hz : FU Z) : ∀ (v1 : Int32) (M : Mm), GO X md_MD_strokes (QE X rvI Z) 59 [some (rf (kG X) 78), some (.int v1)] [] Z M (f_MD_strokes_59 v1 M) := by
  intro v1 M
  unfold f_MD_strokes_59
  refine g_aload_n e_MD_strokes_59 rfl ?_
  refine g_getRZ (kz := 86) e_MD_strokes_60 fl_MD_46 hz kq_78 (by decide) fj_10_17 rfl ?_
  refine g_aload_n e_MD_strokes_63 rfl ?_
  refine g_getI e_MD_strokes_64 fl_MD_130 kq_78 (hz.lt kq_78) fj_10_18 ?_
  refine g_iload_n e_MD_strokes_67 rfl ?_
  refine g_iastG (n := 64) e_MD_strokes_68 ⟨kq_86, by decide⟩ (hz.lt kq_86 (by decide)) (fun M6 => ?_)
  refine g_aload_n e_MD_strokes_69 rfl ?_
  refine g_dup e_MD_strokes_70 rfl ?_
  refine g_getI e_MD_strokes_71 fl_MD_130 kq_78 (hz.lt kq_78) fj_10_18 ?_
  refine g_iconst (x := (1 : Int32)) e_MD_strokes_74 (by decide) ?_
  refine g_iadd e_MD_strokes_75 ?_
  refine g_putL e_MD_strokes_76 fp_MD_130 kq_78 (hz.lt kq_78) fj_10_18 rfl rfl (fun M7 => ?_)
  refine g_iconst (x := (1 : Int32)) e_MD_strokes_79 (by decide) ?_
  exact g_zret e_MD_strokes_80 rfl (by decide)
set_option maxHeartbeats 4000000 in
set_option maxRecDepth 20000 in
theorem t_MD_strokes {X : KX} {Z : ZZ} {M : Mm} (hz : FU Z) : GO X md_MD_strokes (QE X rvI Z) 0 [some (rf (kG X) 78), none] [] Z M (f_MD_strokes M) := by
  unfold f_MD_strokes
  refine g_aload_n e_MD_strokes_0 rfl ?_
  refine g_getRZ (kz := 85) e_MD_strokes_1 fl_MD_43 hz kq_78 (by decide) fj_10_15 rfl ?_
  refine g_iconst (x := (0 : Int32)) e_MD_strokes_4 (by decide) ?_
  refine g_ialdG (n := 40) e_MD_strokes_5 ⟨kq_85, by decide⟩ (hz.lt kq_85 (by decide)) ?_
  refine g_istoreL_n e_MD_strokes_6 (by decide) rfl (fun x1 => ?_)
  refine g_aload_n e_MD_strokes_7 rfl ?_
  refine g_iconst (x := (0 : Int32)) e_MD_strokes_8 (by decide) ?_
  refine g_callV (rv := rvU) (As := [.int (0 : Int32)]) (st := []) e_MD_strokes_9 mv_MD_223 my_MD_leaves1 (by decide) rfl rfl kq_78 (hz.lt kq_78) rfl (Nat.le_of_ble_eq_true rfl) rfl (fun r M1 h => c_MD_leaves1 hz  h) (fun r3 M2 h4 => ?_)
  refine g_iload_n e_MD_strokes_12 rfl ?_
  refine g_bipush (x := (10 : Int32)) e_MD_strokes_13 (by decide) ?_
  refine g_irem e_MD_strokes_15 (by decide) ?_
  refine g_iconst (x := (1 : Int32)) e_MD_strokes_16 (by decide) ?_
  refine g_icmp_ne e_MD_strokes_17 (fun c5 => ?_) (fun c5 => ?_)
  · exact g_wq (t_MD_strokes_59 hz x1 M2) ⟨rfl, rfl, trivial⟩
  · refine g_aload_n e_MD_strokes_20 rfl ?_
    refine g_iload_n e_MD_strokes_21 rfl ?_
    refine g_iconst (x := (1 : Int32)) e_MD_strokes_22 (by decide) ?_
    refine g_isub e_MD_strokes_23 ?_
    refine g_callV (rv := rvI) (As := [.int (x1 - (1 : Int32))]) (st := []) e_MD_strokes_24 mv_MD_220 my_MD_isPrinted (by decide) rfl rfl kq_78 (hz.lt kq_78) rfl (Nat.le_of_ble_eq_true rfl) rfl (fun r M1 h => c_MD_isPrinted hz  h) (fun r9 M8 h10 => ?_)
    refine g_if_ne e_MD_strokes_27 (fun c11 => ?_) (fun c11 => ?_)
    · exact g_wq (t_MD_strokes_59 hz x1 M8) ⟨rfl, rfl, trivial⟩
    · refine g_aload_n e_MD_strokes_30 rfl ?_
      refine g_getI e_MD_strokes_31 fl_MD_127 kq_78 (hz.lt kq_78) fj_10_16 ?_
      refine g_if_le e_MD_strokes_34 (fun c12 => ?_) (fun c12 => ?_)
      · exact g_wq (t_MD_strokes_59 hz x1 M8) ⟨rfl, rfl, trivial⟩
      · refine g_aload_n e_MD_strokes_37 rfl ?_
        refine g_getRZ (kz := 85) e_MD_strokes_38 fl_MD_43 hz kq_78 (by decide) fj_10_15 rfl ?_
        refine g_aload_n e_MD_strokes_41 rfl ?_
        refine g_getI e_MD_strokes_42 fl_MD_127 kq_78 (hz.lt kq_78) fj_10_16 ?_
        refine g_iload_n e_MD_strokes_45 rfl ?_
        refine g_iastG (n := 40) e_MD_strokes_46 ⟨kq_85, by decide⟩ (hz.lt kq_85 (by decide)) (fun M13 => ?_)
        refine g_aload_n e_MD_strokes_47 rfl ?_
        refine g_dup e_MD_strokes_48 rfl ?_
        refine g_getI e_MD_strokes_49 fl_MD_127 kq_78 (hz.lt kq_78) fj_10_16 ?_
        refine g_iconst (x := (1 : Int32)) e_MD_strokes_52 (by decide) ?_
        refine g_iadd e_MD_strokes_53 ?_
        refine g_putL e_MD_strokes_54 fp_MD_127 kq_78 (hz.lt kq_78) fj_10_16 rfl rfl (fun M14 => ?_)
        refine g_iconst (x := (0 : Int32)) e_MD_strokes_57 (by decide) ?_
        exact g_zret e_MD_strokes_58 rfl (by decide)
set_option maxHeartbeats 4000000 in
set_option maxRecDepth 20000 in
theorem c_MD_strokes {l : Launch} {G : KG} {Z : ZZ} {M M' : Mm} {r : Int32} (hz : FU Z) (h : f_MD_strokes M = some (r, M')) : CT l G y_MD_strokes md_MD_strokes 0 0 [rf G 78] Z.2.2.1 Z.2.2.2 M (rvI r) Z.2.2.1 Z.2.2.2 M' :=
  CT.of (Z := (0, 0, Z.2.2.1, Z.2.2.2)) (Z' := (0, 0, Z.2.2.1, Z.2.2.2)) 1 (by decide) rfl ⟨rfl, rfl⟩ (by show 1 ≤ 2; decide) rfl h (fun X _ hG => by subst hG; exact t_MD_strokes hz)
set_option maxHeartbeats 4000000 in
set_option maxRecDepth 20000 in
theorem t_MD_press_17 {X : KX} {Z : ZZ} (hz : FU Z) : ∀ (n : Nat) (v1 : Int32) (v2 : Int32) (v3 : Int32) (M : Mm), GO X md_MD_press (QE X rvI Z) 17 [some (rf (kG X) 78), some (.int v1), some (.int v2), some (.int v3)] [] Z M (f_MD_press_17 n v1 v2 v3 M) := by
  intro n
  induction n with
  | zero =>
    intro v1 v2 v3 M
    exact g_none
  | succ n ih =>
    intro v1 v2 v3 M
    rw [f_MD_press_17_s]
    refine g_iload_n e_MD_press_17 rfl ?_
    refine g_iload_n e_MD_press_18 rfl ?_
    refine g_icmp_ge e_MD_press_19 (fun c5 => ?_) (fun c5 => ?_)
    · refine g_iload_n e_MD_press_50 rfl ?_
      exact g_iret e_MD_press_51 rfl
    · refine g_aload_n e_MD_press_22 rfl ?_
      refine g_getI e_MD_press_23 fl_MD_127 kq_78 (hz.lt kq_78) fj_10_16 ?_
      refine g_if_le e_MD_press_26 (fun c6 => ?_) (fun c6 => ?_)
      · refine g_iload_n e_MD_press_50 rfl ?_
        exact g_iret e_MD_press_51 rfl
      · refine g_iload_n e_MD_press_29 rfl ?_
        refine g_aload_n e_MD_press_30 rfl ?_
        refine g_callV (rv := rvI) (As := []) (st := [.int v2]) e_MD_press_31 mv_MD_225 my_MD_strokes (by decide) rfl rfl kq_78 (hz.lt kq_78) rfl (Nat.le_of_ble_eq_true rfl) rfl (fun r M1 h => c_MD_strokes hz  h) (fun r8 M7 h9 => ?_)
        refine g_phi1 42 (fun x11 => [some (rf (kG X) 78), some (.int v1), none, some (.int v3)]) (fun x11 => [.int x11, .int v2]) (fun x11 => ?_) (fun hj14 => ?_)
        · show GO X _ _ 42 [some (rf (kG X) 78), some (.int v1), none, some (.int v3)] [.int x11, .int v2] Z M7 _
          refine g_iadd e_MD_press_42 ?_
          refine g_istoreL_n e_MD_press_43 (by decide) rfl (fun x12 => ?_)
          refine g_iincL (c := (1 : Int32)) e_MD_press_44 rfl (by decide) (by decide) rfl (fun x13 => ?_)
          refine g_goto e_MD_press_47 ?_
          exact g_wq (ih v1 x12 x13 M7) ⟨rfl, rfl, rfl, rfl, trivial⟩
        · refine g_if_eq' e_MD_press_34 (fun c10 => ?_) (fun c10 => ?_)
          · refine g_iconst (x := (0 : Int32)) e_MD_press_41 (by decide) ?_
            exact (g_pt c10 (g_lt (g_wq (hj14 (0 : Int32)) ⟨rfl, rfl, rfl, trivial⟩)))
          · refine g_iconst (x := (1 : Int32)) e_MD_press_37 (by decide) ?_
            refine g_goto e_MD_press_38 ?_
            exact (g_pf c10 (g_lt (g_wq (hj14 (1 : Int32)) ⟨rfl, rfl, rfl, trivial⟩)))
set_option maxHeartbeats 4000000 in
set_option maxRecDepth 20000 in
theorem t_MD_press {X : KX} {Z : ZZ} {v1 : Int32} {M : Mm} (hz : FU Z) : GO X md_MD_press (QE X rvI Z) 0 [some (rf (kG X) 78), some (.int v1), none, none] [] Z M (f_MD_press v1 M) := by
  unfold f_MD_press
  refine g_iload_n e_MD_press_0 rfl ?_
  refine g_iconst (x := (1 : Int32)) e_MD_press_1 (by decide) ?_
  refine g_bipush (x := (99 : Int32)) e_MD_press_2 (by decide) ?_
  refine g_callS (rv := rvI) (As := [.int v1, .int (1 : Int32), .int (99 : Int32)]) (st := []) e_MD_press_4 ms_MD_92 my_MD_in (by decide) rfl rfl (Nat.le_of_ble_eq_true rfl) (fun r M1 h => c_MD_in hz  h) (fun r2 M1 h3 => ?_)
  refine g_if_ne e_MD_press_7 (fun c4 => ?_) (fun c4 => ?_)
  · refine g_iconst (x := (0 : Int32)) e_MD_press_13 (by decide) ?_
    refine g_istore_n e_MD_press_14 (by decide) rfl ?_
    refine g_iconst (x := (0 : Int32)) e_MD_press_15 (by decide) ?_
    refine g_istore_n e_MD_press_16 (by decide) rfl ?_
    exact g_wq (t_MD_press_17 hz fuel v1 (0 : Int32) (0 : Int32) M1) ⟨rfl, rfl, rfl, rfl, trivial⟩
  · refine g_bipush (x := (-2 : Int32)) e_MD_press_10 (by decide) ?_
    exact g_iret e_MD_press_12 rfl
set_option maxHeartbeats 4000000 in
set_option maxRecDepth 20000 in
theorem c_MD_press {l : Launch} {G : KG} {Z : ZZ} {v1 : Int32} {M M' : Mm} {r : Int32} (hz : FU Z) (h : f_MD_press v1 M = some (r, M')) : CT l G y_MD_press md_MD_press 0 0 [rf G 78, .int v1] Z.2.2.1 Z.2.2.2 M (rvI r) Z.2.2.1 Z.2.2.2 M' :=
  CT.of (Z := (0, 0, Z.2.2.1, Z.2.2.2)) (Z' := (0, 0, Z.2.2.1, Z.2.2.2)) 2 (by decide) rfl ⟨rfl, rfl⟩ (by show 2 ≤ 4; decide) rfl h (fun X _ hG => by subst hG; exact t_MD_press hz)
set_option maxHeartbeats 4000000 in
set_option maxRecDepth 20000 in
theorem t_MD_clears_50 {X : KX} {Z : ZZ} {rec25 : Int32 → Int32 → Int32 → Mm → Option (Int32 × Mm)} (hz : FU Z) (hr25 : ∀ (v1 : Int32) (v2 : Int32) (v3 : Int32) (M : Mm), GO X md_MD_clears (QE X rvI Z) 25 [some (rf (kG X) 78), some (.int v1), some (.int v2), some (.int v3)] [] Z M (rec25 v1 v2 v3 M)) : ∀ (v1 : Int32) (v2 : Int32) (v3 : Int32) (M : Mm), GO X md_MD_clears (QE X rvI Z) 50 [some (rf (kG X) 78), some (.int v1), some (.int v2), some (.int v3)] [] Z M (f_MD_clears_50 rec25 v1 v2 v3 M) := by
  intro v1 v2 v3 M
  unfold f_MD_clears_50
  refine g_iincL (c := (-1 : Int32)) e_MD_clears_50 rfl (by decide) (by decide) rfl (fun x11 => ?_)
  refine g_goto e_MD_clears_53 ?_
  exact g_wq (hr25 v1 v2 x11 M) ⟨rfl, rfl, rfl, rfl, trivial⟩
set_option maxHeartbeats 4000000 in
set_option maxRecDepth 20000 in
theorem t_MD_clears_25 {X : KX} {Z : ZZ} (hz : FU Z) : ∀ (n : Nat) (v1 : Int32) (v2 : Int32) (v3 : Int32) (M : Mm), GO X md_MD_clears (QE X rvI Z) 25 [some (rf (kG X) 78), some (.int v1), some (.int v2), some (.int v3)] [] Z M (f_MD_clears_25 n v1 v2 v3 M) := by
  intro n
  induction n with
  | zero =>
    intro v1 v2 v3 M
    exact g_none
  | succ n ih =>
    intro v1 v2 v3 M
    rw [f_MD_clears_25_s]
    refine g_iload_n e_MD_clears_25 rfl ?_
    refine g_if_lt e_MD_clears_26 (fun c9 => ?_) (fun c9 => ?_)
    · refine g_iload_n e_MD_clears_56 rfl ?_
      exact g_iret e_MD_clears_57 rfl
    · refine g_aload_n e_MD_clears_29 rfl ?_
      refine g_getRZ (kz := 85) e_MD_clears_30 fl_MD_43 hz kq_78 (by decide) fj_10_15 rfl ?_
      refine g_iload_n e_MD_clears_33 rfl ?_
      refine g_ialdG (n := 40) e_MD_clears_34 ⟨kq_85, by decide⟩ (hz.lt kq_85 (by decide)) ?_
      refine g_bipush (x := (10 : Int32)) e_MD_clears_35 (by decide) ?_
      refine g_idiv e_MD_clears_37 (by decide) ?_
      refine g_iload_n e_MD_clears_38 rfl ?_
      refine g_icmp_ne e_MD_clears_39 (fun c10 => ?_) (fun c10 => ?_)
      · exact g_wq (t_MD_clears_50 hz (ih) v1 v2 v3 M) ⟨rfl, rfl, rfl, rfl, trivial⟩
      · refine g_aload_n e_MD_clears_42 rfl ?_
        refine g_iload_n e_MD_clears_43 rfl ?_
        refine g_callV (rv := rvU) (As := [.int v3]) (st := []) e_MD_clears_44 mv_MD_223 my_MD_leaves1 (by decide) rfl rfl kq_78 (hz.lt kq_78) rfl (Nat.le_of_ble_eq_true rfl) rfl (fun r M1 h => c_MD_leaves1 hz  h) (fun r13 M12 h14 => ?_)
        refine g_iincL (c := (1 : Int32)) e_MD_clears_47 rfl (by decide) (by decide) rfl (fun x15 => ?_)
        exact g_wq (t_MD_clears_50 hz (ih) v1 x15 v3 M12) ⟨rfl, rfl, rfl, rfl, trivial⟩
set_option maxHeartbeats 4000000 in
set_option maxRecDepth 20000 in
theorem t_MD_clears {X : KX} {Z : ZZ} {v1 : Int32} {M : Mm} (hz : FU Z) : GO X md_MD_clears (QE X rvI Z) 0 [some (rf (kG X) 78), some (.int v1), none, none] [] Z M (f_MD_clears v1 M) := by
  unfold f_MD_clears
  refine g_iload_n e_MD_clears_0 rfl ?_
  refine g_iconst (x := (0 : Int32)) e_MD_clears_1 (by decide) ?_
  refine g_aload_n e_MD_clears_2 rfl ?_
  refine g_callV (rv := rvI) (As := []) (st := [.int (0 : Int32), .int v1]) e_MD_clears_3 mv_MD_121 my_MD_sheets (by decide) rfl rfl kq_78 (hz.lt kq_78) rfl (Nat.le_of_ble_eq_true rfl) rfl (fun r M1 h => c_MD_sheets hz  h) (fun r2 M1 h3 => ?_)
  refine g_iconst (x := (1 : Int32)) e_MD_clears_6 (by decide) ?_
  refine g_isub e_MD_clears_7 ?_
  refine g_callS (rv := rvI) (As := [.int v1, .int (0 : Int32), .int (r2 - (1 : Int32))]) (st := []) e_MD_clears_8 ms_MD_92 my_MD_in (by decide) rfl rfl (Nat.le_of_ble_eq_true rfl) (fun r M1 h => c_MD_in hz  h) (fun r5 M4 h6 => ?_)
  refine g_if_ne e_MD_clears_11 (fun c7 => ?_) (fun c7 => ?_)
  · refine g_iconst (x := (0 : Int32)) e_MD_clears_16 (by decide) ?_
    refine g_istore_n e_MD_clears_17 (by decide) rfl ?_
    refine g_aload_n e_MD_clears_18 rfl ?_
    refine g_getI e_MD_clears_19 fl_MD_127 kq_78 (hz.lt kq_78) fj_10_16 ?_
    refine g_iconst (x := (1 : Int32)) e_MD_clears_22 (by decide) ?_
    refine g_isub e_MD_clears_23 ?_
    refine g_istoreL_n e_MD_clears_24 (by decide) rfl (fun x8 => ?_)
    exact g_wq (t_MD_clears_25 hz fuel v1 (0 : Int32) x8 M4) ⟨rfl, rfl, rfl, rfl, trivial⟩
  · refine g_iconst (x := (-1 : Int32)) e_MD_clears_14 (by decide) ?_
    exact g_iret e_MD_clears_15 rfl
set_option maxHeartbeats 4000000 in
set_option maxRecDepth 20000 in
theorem c_MD_clears {l : Launch} {G : KG} {Z : ZZ} {v1 : Int32} {M M' : Mm} {r : Int32} (hz : FU Z) (h : f_MD_clears v1 M = some (r, M')) : CT l G y_MD_clears md_MD_clears 0 0 [rf G 78, .int v1] Z.2.2.1 Z.2.2.2 M (rvI r) Z.2.2.1 Z.2.2.2 M' :=
  CT.of (Z := (0, 0, Z.2.2.1, Z.2.2.2)) (Z' := (0, 0, Z.2.2.1, Z.2.2.2)) 2 (by decide) rfl ⟨rfl, rfl⟩ (by show 2 ≤ 4; decide) rfl h (fun X _ hG => by subst hG; exact t_MD_clears hz)
set_option maxHeartbeats 4000000 in
set_option maxRecDepth 20000 in
theorem t_MD_line {X : KX} {Z : ZZ} {v1 : Int32} {M : Mm} (hz : FU Z) : GO X md_MD_line (QE X rvI Z) 0 [some (rf (kG X) 78), some (.int v1)] [] Z M (f_MD_line v1 M) := by
  unfold f_MD_line
  refine g_iload_n e_MD_line_0 rfl ?_
  refine g_if_ge e_MD_line_1 (fun c1 => ?_) (fun c1 => ?_)
  · refine g_iload_n e_MD_line_6 rfl ?_
    refine g_aload_n e_MD_line_7 rfl ?_
    refine g_getI e_MD_line_8 fl_MD_127 kq_78 (hz.lt kq_78) fj_10_16 ?_
    refine g_icmp_ge e_MD_line_11 (fun c2 => ?_) (fun c2 => ?_)
    · refine g_bipush (x := (-5 : Int32)) e_MD_line_23 (by decide) ?_
      exact g_iret e_MD_line_25 rfl
    · refine g_aload_n e_MD_line_14 rfl ?_
      refine g_getRZ (kz := 85) e_MD_line_15 fl_MD_43 hz kq_78 (by decide) fj_10_15 rfl ?_
      refine g_iload_n e_MD_line_18 rfl ?_
      refine g_ialdG (n := 40) e_MD_line_19 ⟨kq_85, by decide⟩ (hz.lt kq_85 (by decide)) ?_
      refine g_goto e_MD_line_20 ?_
      exact g_iret e_MD_line_25 rfl
  · refine g_iconst (x := (-1 : Int32)) e_MD_line_4 (by decide) ?_
    exact g_iret e_MD_line_5 rfl
set_option maxHeartbeats 4000000 in
set_option maxRecDepth 20000 in
theorem c_MD_line {l : Launch} {G : KG} {Z : ZZ} {v1 : Int32} {M M' : Mm} {r : Int32} (hz : FU Z) (h : f_MD_line v1 M = some (r, M')) : CT l G y_MD_line md_MD_line 0 0 [rf G 78, .int v1] Z.2.2.1 Z.2.2.2 M (rvI r) Z.2.2.1 Z.2.2.2 M' :=
  CT.of (Z := (0, 0, Z.2.2.1, Z.2.2.2)) (Z' := (0, 0, Z.2.2.1, Z.2.2.2)) 0 (by decide) rfl ⟨rfl, rfl⟩ (by show 2 ≤ 2; decide) rfl h (fun X _ hG => by subst hG; exact t_MD_line hz)
set_option maxHeartbeats 4000000 in
set_option maxRecDepth 20000 in
theorem t_MD_missing_81 {X : KX} {Z : ZZ} {rec27 : Int32 → Int32 → Int32 → Int32 → Int32 → Mm → Option (Int32 × Mm)} (hz : FU Z) (hr27 : ∀ (v1 : Int32) (v2 : Int32) (v3 : Int32) (v4 : Int32) (v5 : Int32) (M : Mm), GO X md_MD_missing (QE X rvI Z) 27 [some (rf (kG X) 78), some (.int v1), some (.int v2), some (.int v3), some (.int v4), some (.int v5)] [] Z M (rec27 v1 v2 v3 v4 v5 M)) : ∀ (v1 : Int32) (v2 : Int32) (v3 : Int32) (v4 : Int32) (v5 : Int32) (M : Mm), GO X md_MD_missing (QE X rvI Z) 81 [some (rf (kG X) 78), some (.int v1), some (.int v2), some (.int v3), some (.int v4), some (.int v5)] [] Z M (f_MD_missing_81 rec27 v1 v2 v3 v4 v5 M) := by
  intro v1 v2 v3 v4 v5 M
  unfold f_MD_missing_81
  refine g_iincL (c := (1 : Int32)) e_MD_missing_81 rfl (by decide) (by decide) rfl (fun x23 => ?_)
  refine g_goto e_MD_missing_84 ?_
  exact g_wq (hr27 v1 v2 v3 v4 x23 M) ⟨rfl, rfl, rfl, rfl, rfl, rfl, trivial⟩
set_option maxHeartbeats 4000000 in
set_option maxRecDepth 20000 in
theorem t_MD_missing_27 {X : KX} {Z : ZZ} (hz : FU Z) : ∀ (n : Nat) (v1 : Int32) (v2 : Int32) (v3 : Int32) (v4 : Int32) (v5 : Int32) (M : Mm), GO X md_MD_missing (QE X rvI Z) 27 [some (rf (kG X) 78), some (.int v1), some (.int v2), some (.int v3), some (.int v4), some (.int v5)] [] Z M (f_MD_missing_27 n v1 v2 v3 v4 v5 M) := by
  intro n
  induction n with
  | zero =>
    intro v1 v2 v3 v4 v5 M
    exact g_none
  | succ n ih =>
    intro v1 v2 v3 v4 v5 M
    rw [f_MD_missing_27_s]
    refine g_iload e_MD_missing_27 rfl ?_
    refine g_aload_n e_MD_missing_29 rfl ?_
    refine g_getI e_MD_missing_30 fl_MD_15 kq_78 (hz.lt kq_78) fj_10_2 ?_
    refine g_icmp_gt e_MD_missing_33 (fun c8 => ?_) (fun c8 => ?_)
    · refine g_iload_n e_MD_missing_87 rfl ?_
      refine g_phi1 106 (fun x11 => [none, none, none, none, none, none]) (fun x11 => [.int x11]) (fun x11 => ?_) (fun hj12 => ?_)
      · show GO X _ _ 106 [none, none, none, none, none, none] [.int x11] Z M _
        exact g_iret e_MD_missing_106 rfl
      · refine g_if_ne' e_MD_missing_88 (fun c9 => ?_) (fun c9 => ?_)
        · refine g_iload_n e_MD_missing_95 rfl ?_
          refine g_iconst (x := (1 : Int32)) e_MD_missing_96 (by decide) ?_
          refine g_icmp_ne' e_MD_missing_97 (fun c10 => ?_) (fun c10 => ?_)
          · refine g_iload e_MD_missing_104 rfl ?_
            exact (g_pf c9 (g_pf c10 (g_lt (g_wq (hj12 v4) trivial))))
          · refine g_iload_n e_MD_missing_100 rfl ?_
            refine g_goto e_MD_missing_101 ?_
            exact (g_pf c9 (g_pt c10 (g_lt (g_wq (hj12 v3) trivial))))
        · refine g_iload_n e_MD_missing_91 rfl ?_
          refine g_goto e_MD_missing_92 ?_
          exact (g_pt c9 (g_lt (g_wq (hj12 v2) trivial)))
    · refine g_aload_n e_MD_missing_36 rfl ?_
      refine g_bipush (x := (10 : Int32)) e_MD_missing_37 (by decide) ?_
      refine g_aload_n e_MD_missing_39 rfl ?_
      refine g_iload e_MD_missing_40 rfl ?_
      refine g_iconst (x := (0 : Int32)) e_MD_missing_42 (by decide) ?_
      refine g_callV (rv := rvI) (As := [.int v5, .int (0 : Int32)]) (st := [.int (10 : Int32), rf (kG X) 78]) e_MD_missing_43 mv_MD_190 my_MD_standsAt (by decide) rfl rfl kq_78 (hz.lt kq_78) rfl (Nat.le_of_ble_eq_true rfl) rfl (fun r M1 h => c_MD_standsAt hz  h) (fun r14 M13 h15 => ?_)
      refine g_imul e_MD_missing_46 ?_
      refine g_aload_n e_MD_missing_47 rfl ?_
      refine g_iload e_MD_missing_48 rfl ?_
      refine g_iconst (x := (1 : Int32)) e_MD_missing_50 (by decide) ?_
      refine g_callV (rv := rvI) (As := [.int v5, .int (1 : Int32)]) (st := [.int ((10 : Int32) * r14), rf (kG X) 78]) e_MD_missing_51 mv_MD_190 my_MD_standsAt (by decide) rfl rfl kq_78 (hz.lt kq_78) rfl (Nat.le_of_ble_eq_true rfl) rfl (fun r M1 h => c_MD_standsAt hz  h) (fun r17 M16 h18 => ?_)
      refine g_iadd e_MD_missing_54 ?_
      refine g_callV (rv := rvI) (As := [.int (((10 : Int32) * r14) + r17)]) (st := []) e_MD_missing_55 mv_MD_220 my_MD_isPrinted (by decide) rfl rfl kq_78 (hz.lt kq_78) rfl (Nat.le_of_ble_eq_true rfl) rfl (fun r M1 h => c_MD_isPrinted hz  h) (fun r20 M19 h21 => ?_)
      refine g_if_ne e_MD_missing_58 (fun c22 => ?_) (fun c22 => ?_)
      · exact g_wq (t_MD_missing_81 hz (ih) v1 v2 v3 v4 v5 M19) ⟨rfl, rfl, rfl, rfl, rfl, rfl, trivial⟩
      · refine g_iincL (c := (1 : Int32)) e_MD_missing_61 rfl (by decide) (by decide) rfl (fun x24 => ?_)
        refine g_iload_n e_MD_missing_64 rfl ?_
        refine g_bipush (x := (-5 : Int32)) e_MD_missing_65 (by decide) ?_
        refine g_phi1 76 (fun x26 => [some (rf (kG X) 78), some (.int v1), some (.int x24), none, none, some (.int v5)]) (fun x26 => [.int x26]) (fun x26 => ?_) (fun hj27 => ?_)
        · show GO X _ _ 76 [some (rf (kG X) 78), some (.int v1), some (.int x24), none, none, some (.int v5)] [.int x26] Z M19 _
          refine g_istore_n e_MD_missing_76 (by decide) rfl ?_
          refine g_iload e_MD_missing_77 rfl ?_
          refine g_istore e_MD_missing_79 (by decide) rfl ?_
          exact g_wq (t_MD_missing_81 hz (ih) v1 x24 x26 v5 v5 M19) ⟨rfl, rfl, rfl, rfl, rfl, rfl, trivial⟩
        · refine g_icmp_ne' e_MD_missing_67 (fun c25 => ?_) (fun c25 => ?_)
          · refine g_iload_n e_MD_missing_75 rfl ?_
            exact (g_pf c25 (g_lt (g_wq (hj27 v3) ⟨rfl, rfl, rfl, rfl, trivial⟩)))
          · refine g_iload e_MD_missing_70 rfl ?_
            refine g_goto e_MD_missing_72 ?_
            exact (g_pt c25 (g_lt (g_wq (hj27 v5) ⟨rfl, rfl, rfl, rfl, trivial⟩)))
set_option maxHeartbeats 4000000 in
set_option maxRecDepth 20000 in
theorem t_MD_missing {X : KX} {Z : ZZ} {v1 : Int32} {M : Mm} (hz : FU Z) : GO X md_MD_missing (QE X rvI Z) 0 [some (rf (kG X) 78), some (.int v1), none, none, none, none] [] Z M (f_MD_missing v1 M) := by
  unfold f_MD_missing
  refine g_iload_n e_MD_missing_0 rfl ?_
  refine g_iconst (x := (0 : Int32)) e_MD_missing_1 (by decide) ?_
  refine g_iconst (x := (2 : Int32)) e_MD_missing_2 (by decide) ?_
  refine g_callS (rv := rvI) (As := [.int v1, .int (0 : Int32), .int (2 : Int32)]) (st := []) e_MD_missing_3 ms_MD_92 my_MD_in (by decide) rfl rfl (Nat.le_of_ble_eq_true rfl) (fun r M1 h => c_MD_in hz  h) (fun r2 M1 h3 => ?_)
  refine g_if_ne e_MD_missing_6 (fun c4 => ?_) (fun c4 => ?_)
  · refine g_aload_n e_MD_missing_11 rfl ?_
    refine g_callV (rv := rvU) (As := []) (st := []) e_MD_missing_12 mv_MD_162 my_MD_folds (by decide) rfl rfl kq_78 (hz.lt kq_78) rfl (Nat.le_of_ble_eq_true rfl) rfl (fun r M1 h => c_MD_folds hz  h) (fun r6 M5 h7 => ?_)
    refine g_iconst (x := (0 : Int32)) e_MD_missing_15 (by decide) ?_
    refine g_istore_n e_MD_missing_16 (by decide) rfl ?_
    refine g_bipush (x := (-5 : Int32)) e_MD_missing_17 (by decide) ?_
    refine g_istore_n e_MD_missing_19 (by decide) rfl ?_
    refine g_bipush (x := (-5 : Int32)) e_MD_missing_20 (by decide) ?_
    refine g_istore e_MD_missing_22 (by decide) rfl ?_
    refine g_iconst (x := (1 : Int32)) e_MD_missing_24 (by decide) ?_
    refine g_istore e_MD_missing_25 (by decide) rfl ?_
    exact g_wq (t_MD_missing_27 hz fuel v1 (0 : Int32) (-5 : Int32) (-5 : Int32) (1 : Int32) M5) ⟨rfl, rfl, rfl, rfl, rfl, rfl, trivial⟩
  · refine g_iconst (x := (-1 : Int32)) e_MD_missing_9 (by decide) ?_
    exact g_iret e_MD_missing_10 rfl
set_option maxHeartbeats 4000000 in
set_option maxRecDepth 20000 in
theorem c_MD_missing {l : Launch} {G : KG} {Z : ZZ} {v1 : Int32} {M M' : Mm} {r : Int32} (hz : FU Z) (h : f_MD_missing v1 M = some (r, M')) : CT l G y_MD_missing md_MD_missing 0 0 [rf G 78, .int v1] Z.2.2.1 Z.2.2.2 M (rvI r) Z.2.2.1 Z.2.2.2 M' :=
  CT.of (Z := (0, 0, Z.2.2.1, Z.2.2.2)) (Z' := (0, 0, Z.2.2.1, Z.2.2.2)) 4 (by decide) rfl ⟨rfl, rfl⟩ (by show 2 ≤ 6; decide) rfl h (fun X _ hG => by subst hG; exact t_MD_missing hz)
set_option maxHeartbeats 4000000 in
set_option maxRecDepth 20000 in
theorem t_MD_printed {X : KX} {Z : ZZ} {v1 : Int32} {M : Mm} (hz : FU Z) : GO X md_MD_printed (QE X rvI Z) 0 [some (rf (kG X) 78), some (.int v1)] [] Z M (f_MD_printed v1 M) := by
  unfold f_MD_printed
  refine g_iload_n e_MD_printed_0 rfl ?_
  refine g_if_ge e_MD_printed_1 (fun c1 => ?_) (fun c1 => ?_)
  · refine g_iload_n e_MD_printed_6 rfl ?_
    refine g_aload_n e_MD_printed_7 rfl ?_
    refine g_getI e_MD_printed_8 fl_MD_130 kq_78 (hz.lt kq_78) fj_10_18 ?_
    refine g_icmp_ge e_MD_printed_11 (fun c2 => ?_) (fun c2 => ?_)
    · refine g_bipush (x := (-5 : Int32)) e_MD_printed_23 (by decide) ?_
      exact g_iret e_MD_printed_25 rfl
    · refine g_aload_n e_MD_printed_14 rfl ?_
      refine g_getRZ (kz := 86) e_MD_printed_15 fl_MD_46 hz kq_78 (by decide) fj_10_17 rfl ?_
      refine g_iload_n e_MD_printed_18 rfl ?_
      refine g_ialdG (n := 64) e_MD_printed_19 ⟨kq_86, by decide⟩ (hz.lt kq_86 (by decide)) ?_
      refine g_goto e_MD_printed_20 ?_
      exact g_iret e_MD_printed_25 rfl
  · refine g_iconst (x := (-1 : Int32)) e_MD_printed_4 (by decide) ?_
    exact g_iret e_MD_printed_5 rfl
set_option maxHeartbeats 4000000 in
set_option maxRecDepth 20000 in
theorem c_MD_printed {l : Launch} {G : KG} {Z : ZZ} {v1 : Int32} {M M' : Mm} {r : Int32} (hz : FU Z) (h : f_MD_printed v1 M = some (r, M')) : CT l G y_MD_printed md_MD_printed 0 0 [rf G 78, .int v1] Z.2.2.1 Z.2.2.2 M (rvI r) Z.2.2.1 Z.2.2.2 M' :=
  CT.of (Z := (0, 0, Z.2.2.1, Z.2.2.2)) (Z' := (0, 0, Z.2.2.1, Z.2.2.2)) 0 (by decide) rfl ⟨rfl, rfl⟩ (by show 2 ≤ 2; decide) rfl h (fun X _ hG => by subst hG; exact t_MD_printed hz)
set_option maxHeartbeats 4000000 in
set_option maxRecDepth 20000 in
theorem t_MD_tells_53 {X : KX} {Z : ZZ} (hz : FU Z) : ∀ (v1 : Int32) (v2 : Int32) (v3 : Int32) (v4 : Int32) (M : Mm), GO X md_MD_tells (QE X rvI Z) 53 [some (rf (kG X) 78), some (.int v1), some (.int v2), some (.int v3), some (.int v4)] [] Z M (f_MD_tells_53 v1 v2 v3 v4 M) := by
  intro v1 v2 v3 v4 M
  unfold f_MD_tells_53
  refine g_aload_n e_MD_tells_53 rfl ?_
  refine g_getRZ (kz := 87) e_MD_tells_54 fl_MD_49 hz kq_78 (by decide) fj_10_19 rfl ?_
  refine g_iload e_MD_tells_57 rfl ?_
  refine g_iload_n e_MD_tells_59 rfl ?_
  refine g_iastG (n := 60) e_MD_tells_60 ⟨kq_87, by decide⟩ (hz.lt kq_87 (by decide)) (fun M6 => ?_)
  refine g_aload_n e_MD_tells_61 rfl ?_
  refine g_getRZ (kz := 88) e_MD_tells_62 fl_MD_52 hz kq_78 (by decide) fj_10_20 rfl ?_
  refine g_iload e_MD_tells_65 rfl ?_
  refine g_iload_n e_MD_tells_67 rfl ?_
  refine g_iastG (n := 60) e_MD_tells_68 ⟨kq_88, by decide⟩ (hz.lt kq_88 (by decide)) (fun M7 => ?_)
  refine g_aload_n e_MD_tells_69 rfl ?_
  refine g_getRZ (kz := 89) e_MD_tells_70 fl_MD_55 hz kq_78 (by decide) fj_10_21 rfl ?_
  refine g_iload e_MD_tells_73 rfl ?_
  refine g_iload_n e_MD_tells_75 rfl ?_
  refine g_iastG (n := 60) e_MD_tells_76 ⟨kq_89, by decide⟩ (hz.lt kq_89 (by decide)) (fun M8 => ?_)
  refine g_iconst (x := (1 : Int32)) e_MD_tells_77 (by decide) ?_
  exact g_zret e_MD_tells_78 rfl (by decide)
set_option maxHeartbeats 4000000 in
set_option maxRecDepth 20000 in
theorem t_MD_tells_31 {X : KX} {Z : ZZ} (hz : FU Z) : ∀ (v1 : Int32) (v2 : Int32) (v3 : Int32) (v4 : Int32) (M : Mm), GO X md_MD_tells (QE X rvI Z) 31 [some (rf (kG X) 78), some (.int v1), some (.int v2), some (.int v3), some (.int v4)] [] Z M (f_MD_tells_31 v1 v2 v3 v4 M) := by
  intro v1 v2 v3 v4 M
  unfold f_MD_tells_31
  refine g_iload e_MD_tells_31 rfl ?_
  refine g_iconst (x := (-1 : Int32)) e_MD_tells_33 (by decide) ?_
  refine g_icmp_ne e_MD_tells_34 (fun c5 => ?_) (fun c5 => ?_)
  · exact g_wq (t_MD_tells_53 hz v1 v2 v3 v4 M) ⟨rfl, rfl, rfl, rfl, rfl, trivial⟩
  · refine g_aload_n e_MD_tells_37 rfl ?_
    refine g_getI e_MD_tells_38 fl_MD_133 kq_78 (hz.lt kq_78) fj_10_22 ?_
    refine g_istoreL e_MD_tells_41 (by decide) rfl (fun x9 => ?_)
    refine g_aload_n e_MD_tells_43 rfl ?_
    refine g_dup e_MD_tells_44 rfl ?_
    refine g_getI e_MD_tells_45 fl_MD_133 kq_78 (hz.lt kq_78) fj_10_22 ?_
    refine g_iconst (x := (1 : Int32)) e_MD_tells_48 (by decide) ?_
    refine g_iadd e_MD_tells_49 ?_
    refine g_putL e_MD_tells_50 fp_MD_133 kq_78 (hz.lt kq_78) fj_10_22 rfl rfl (fun M10 => ?_)
    exact g_wq (t_MD_tells_53 hz v1 v2 v3 x9 M10) ⟨rfl, rfl, rfl, rfl, rfl, trivial⟩
set_option maxHeartbeats 4000000 in
set_option maxRecDepth 20000 in
theorem t_MD_tells {X : KX} {Z : ZZ} {v1 : Int32} {v2 : Int32} {v3 : Int32} {M : Mm} (hz : FU Z) : GO X md_MD_tells (QE X rvI Z) 0 [some (rf (kG X) 78), some (.int v1), some (.int v2), some (.int v3), none] [] Z M (f_MD_tells v1 v2 v3 M) := by
  unfold f_MD_tells
  refine g_aload_n e_MD_tells_0 rfl ?_
  refine g_getRZ (kz := 87) e_MD_tells_1 fl_MD_49 hz kq_78 (by decide) fj_10_19 rfl ?_
  refine g_aload_n e_MD_tells_4 rfl ?_
  refine g_getI e_MD_tells_5 fl_MD_133 kq_78 (hz.lt kq_78) fj_10_22 ?_
  refine g_iload_n e_MD_tells_8 rfl ?_
  refine g_callS (rv := rvI) (As := [rf (kG X) 87, .int (M.1 78 22), .int v1]) (st := []) e_MD_tells_9 ms_MD_216 my_MD_placeIn (by decide) rfl rfl (Nat.le_of_ble_eq_true rfl) (fun r M1 h => c_MD_placeIn hz ⟨kq_87, by decide⟩ h) (fun r2 M1 h3 => ?_)
  refine g_istore e_MD_tells_12 (by decide) rfl ?_
  refine g_iload e_MD_tells_14 rfl ?_
  refine g_iconst (x := (-1 : Int32)) e_MD_tells_16 (by decide) ?_
  refine g_icmp_ne e_MD_tells_17 (fun c4 => ?_) (fun c4 => ?_)
  · exact g_wq (t_MD_tells_31 hz v1 v2 v3 r2 M1) ⟨rfl, rfl, rfl, rfl, rfl, trivial⟩
  · refine g_aload_n e_MD_tells_20 rfl ?_
    refine g_getI e_MD_tells_21 fl_MD_133 kq_78 (hz.lt kq_78) fj_10_22 ?_
    refine g_bipush (x := (60 : Int32)) e_MD_tells_24 (by decide) ?_
    refine g_icmp_ne e_MD_tells_26 (fun c11 => ?_) (fun c11 => ?_)
    · exact g_wq (t_MD_tells_31 hz v1 v2 v3 r2 M1) ⟨rfl, rfl, rfl, rfl, rfl, trivial⟩
    · refine g_iconst (x := (0 : Int32)) e_MD_tells_29 (by decide) ?_
      exact g_zret e_MD_tells_30 rfl (by decide)
set_option maxHeartbeats 4000000 in
set_option maxRecDepth 20000 in
theorem c_MD_tells {l : Launch} {G : KG} {Z : ZZ} {v1 : Int32} {v2 : Int32} {v3 : Int32} {M M' : Mm} {r : Int32} (hz : FU Z) (h : f_MD_tells v1 v2 v3 M = some (r, M')) : CT l G y_MD_tells md_MD_tells 0 0 [rf G 78, .int v1, .int v2, .int v3] Z.2.2.1 Z.2.2.2 M (rvI r) Z.2.2.1 Z.2.2.2 M' :=
  CT.of (Z := (0, 0, Z.2.2.1, Z.2.2.2)) (Z' := (0, 0, Z.2.2.1, Z.2.2.2)) 1 (by decide) rfl ⟨rfl, rfl⟩ (by show 4 ≤ 5; decide) rfl h (fun X _ hG => by subst hG; exact t_MD_tells hz)
set_option maxHeartbeats 4000000 in
set_option maxRecDepth 20000 in
theorem t_MD_cellOf {X : KX} {Z : ZZ} {v0 : Int32} {v1 : Int32} {v2 : Int32} {M : Mm} (hz : FU Z) : GO X md_MD_cellOf (QE X rvI Z) 0 [some (.int v0), some (.int v1), some (.int v2)] [] Z M (f_MD_cellOf v0 v1 v2 M) := by
  unfold f_MD_cellOf
  refine g_sipush (x := (1000 : Int32)) e_MD_cellOf_0 (by decide) ?_
  refine g_iload_n e_MD_cellOf_3 rfl ?_
  refine g_bipush (x := (10 : Int32)) e_MD_cellOf_4 (by decide) ?_
  refine g_idiv e_MD_cellOf_6 (by decide) ?_
  refine g_imul e_MD_cellOf_7 ?_
  refine g_sipush (x := (500 : Int32)) e_MD_cellOf_8 (by decide) ?_
  refine g_iload_n e_MD_cellOf_11 rfl ?_
  refine g_bipush (x := (10 : Int32)) e_MD_cellOf_12 (by decide) ?_
  refine g_irem e_MD_cellOf_14 (by decide) ?_
  refine g_imul e_MD_cellOf_15 ?_
  refine g_iadd e_MD_cellOf_16 ?_
  refine g_bipush (x := (20 : Int32)) e_MD_cellOf_17 (by decide) ?_
  refine g_iload_n e_MD_cellOf_19 rfl ?_
  refine g_imul e_MD_cellOf_20 ?_
  refine g_iadd e_MD_cellOf_21 ?_
  refine g_iload_n e_MD_cellOf_22 rfl ?_
  refine g_iadd e_MD_cellOf_23 ?_
  exact g_iret e_MD_cellOf_24 rfl
set_option maxHeartbeats 4000000 in
set_option maxRecDepth 20000 in
theorem c_MD_cellOf {l : Launch} {G : KG} {Z : ZZ} {v0 : Int32} {v1 : Int32} {v2 : Int32} {M M' : Mm} {r : Int32} (hz : FU Z) (h : f_MD_cellOf v0 v1 v2 M = some (r, M')) : CT l G y_MD_cellOf md_MD_cellOf 0 0 [.int v0, .int v1, .int v2] Z.2.2.1 Z.2.2.2 M (rvI r) Z.2.2.1 Z.2.2.2 M' :=
  CT.of (Z := (0, 0, Z.2.2.1, Z.2.2.2)) (Z' := (0, 0, Z.2.2.1, Z.2.2.2)) 0 (by decide) rfl ⟨rfl, rfl⟩ (by show 3 ≤ 3; decide) rfl h (fun X _ hG => by subst hG; exact t_MD_cellOf hz)
