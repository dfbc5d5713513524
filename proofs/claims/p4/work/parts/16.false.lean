/-! THE STATEMENT IS FALSE AS PRINTED: its frame grants 1966 new slots; every run makes 100 cells whose arrays alone have 2513 (2724 with the objects' fields): shown at the printed witness's start with the empty script -/
theorem W.mono {p : Program} {l : Launch} {e : Env} {R : Room} {s : State} {m : MethodId} {args : Array Value} {below : List Frame} {meth : Method} {c : Code} {H : Heap} {locs : List Loc} {cells slots : Nat} {Q Q' : State → Prop} {g : JFrame} (h : ∀ t, Q t → Q' t) (k : W p l e R s m args below meth c H locs cells slots Q g) : W p l e R s m args below meth c H locs cells slots Q' g := by
  intro T hT X
  obtain ⟨t, a, b⟩ := k T hT X
  exact ⟨t, a, h t b⟩
def roomB : Room := { frames := 12, cells := 100, slots := 2724, locals := 440 }
def law_Q0 : Array Value → State → Outcome → State → Prop := fun _ st _ t => ∃ (G : KG) (M : Mm), k0 G = st.heap.size ∧ WD G 100 (iniT 98) M t.heap
theorem fL_some (M : Mm) : ∃ M', fL_start (fun M => some ((1 : Int32), M)) M = some ((1 : Int32), M') := by
  unfold fL_start
  obtain ⟨M2, h2⟩ := x_PS_init_0 (zr M 0)
  simp only [lT, h2, bD]
  obtain ⟨M4, h4⟩ := x_MD_init_78 (zr M2 78)
  simp only [h4]
  exact ⟨_, rfl⟩
set_option maxHeartbeats 4000000 in
set_option maxRecDepth 20000 in
theorem law_met0 (l : Launch) (b : Nat) : Met l x (Cond.code x code maxLocals ret :: tables_1) roomB (fun args s => args = #[.ref b] ∧ va_X b 0 (fun _ => 0) s s.heap ∧ b < s.heap.size) law_Q0 100 2724 (fun _ => True) := by
  refine Met.ofW (cc := code) (maxL := maxLocals) (ret := ret) (by decide) rfl ?_
  intro p e s m args below meth c s₁ B hml hv
  obtain ⟨rfl, hX, hbl⟩ := hv
  have hts0 : ∀ c ∈ (Jvm.Cond.code x code maxLocals ret :: tables_1), c.before #[Value.ref b] s = true := atoms_spec (ws := Jvm.Cond.code x code maxLocals ret :: tables_1) B.pre
  have hts : ∀ w ∈ lw_tbl, w.before #[Value.ref b] s = true := k2_hts_sels lw_privs (fun w hw => hts0 w (List.mem_cons_of_mem _ hw)) lw_privs_ok
  obtain ⟨G, hG, hVK⟩ := law_known hts
  have hl := lv_entry ([.ref b]) (n := 4) (Nat.le_of_ble_eq_true rfl)
  have he : entryFrame m (#[Value.ref b] : Array Value) maxLocals = F0 m 0 ((lg_sl ([.ref b]) ++ List.replicate (4 - (lg_sl ([.ref b])).length) Slot.unset).toArray) [] := by
    show entryFrame m ([Value.ref b] : List Value).toArray 4 = _
    rw [lg_entry_eq]
  rw [he]
  obtain ⟨M', hM'⟩ := fL_some ((fun _ _ => 0, fun _ _ => 0) : Mm)
  have main : GO ((p, l, e, (headSpec (Cond.code x code maxLocals ret :: tables_1) roomB).room, s, m), (#[Value.ref b], below, meth, c), G) md_Law_law (QE ((p, l, e, (headSpec (Cond.code x code maxLocals ret :: tables_1) roomB).room, s, m), (#[Value.ref b], below, meth, c), G) rvI (100, 2724, 100, iniT 98)) 0 [some (.ref b), none, none, none] [] (0, 0, 0, iniT 0) ((fun _ _ => 0, fun _ _ => 0) : Mm) (fL_start (fun M => some ((1 : Int32), M)) ((fun _ _ => 0, fun _ _ => 0) : Mm)) := by
    refine tL_start (Nat.le_refl _) (Nat.le_refl _) (fun M1 => ?_)
    refine g_iload_n e_Law_law_18 rfl ?_
    refine g_aloadS_n (b := b) e_Law_law_19 rfl ?_
    refine g_slen (L := 0) (xs := fun _ => 0) hX hbl (by show b < k0 G; rw [hG]; exact hbl) e_Law_law_20 ?_
    refine g_bipush (x := (6 : Int32)) e_Law_law_21 (by decide) ?_
    refine g_isub e_Law_law_23 ?_
    refine g_icmp_gt' e_Law_law_24 (fun _ => ?_) (fun h => absurd (by decide) h)
    refine g_iconst (x := (1 : Int32)) e_Law_law_1252 (by decide) ?_
    exact g_zret e_Law_law_1253 rfl (by decide)
  have h0 := main ⟨B.exec, B.bytes, B.returns, hml, findClass_of_methodNamed B.named, fun w hw => hts w (gtb_in hw), B.notSynchronized, hVK, Nat.le_of_ble_eq_true rfl, Nat.le_of_ble_eq_true rfl⟩ (1 : Int32) M' hM' s.heap [] _ ⟨by rw [hG]; rfl, fun k hk => absurd hk (Nat.not_lt_zero k)⟩ va_S.rf ⟨_, hl, fun k v hk => ent_ok [.ref b] 3 0 k v hk |> fun h => by rwa [Nat.zero_add] at h⟩ (Nat.zero_le _) (Nat.zero_le _)
  refine W.widen (k := 0) (n := 0) (Nat.le_refl _) (Nat.le_refl _) (W.mono ?_ h0)
  rintro t ⟨o, h1, h2, ⟨-, hW, -⟩, L, h4, -⟩
  exact ⟨o, h1, h2, ⟨G, M', hG, hW⟩, L, h4, fun _ _ => trivial⟩
def szk (k : Nat) : Nat := if kD k < 50 then 0 else if kD k = 50 then 6 else if kD k < 1000 then kD k - 100 else kD k - 1000
theorem sum_ge : ∀ (l : List Nat) (f : Nat → Nat), (∀ k v, l[k]? = some v → f k ≤ v) → ((List.range l.length).map f).sum ≤ l.sum
  | [], f, _ => by simp
  | a :: l, f, h => by
    have h1 := sum_ge l (fun k => f (k + 1)) (fun k v hk => h (k + 1) v (by simpa using hk))
    have h0 := h 0 a rfl
    rw [List.length_cons, List.range_succ_eq_map, List.map_cons, List.map_map, List.sum_cons, List.sum_cons]
    exact Nat.add_le_add h0 h1
theorem WD.size_ge {G : KG} {ini : Nat → Nat → Bool} {M : Mm} {H : Heap} (h : WD G 100 ini M H) : 2513 ≤ ((H.toList.drop (k0 G)).map (·.slots.size)).sum := by
  have hlen : ((H.toList.drop (k0 G)).map (·.slots.size)).length = 100 := by
    rw [List.length_map, List.length_drop, Array.length_toList, h.1]
    omega
  have hs := sum_ge ((H.toList.drop (k0 G)).map (·.slots.size)) szk (fun k v hk => by
    have hk100 : k < 100 := by rw [← hlen]; exact (List.getElem?_eq_some_iff.mp hk).1
    rw [List.getElem?_map, List.getElem?_drop, Array.getElem?_toList] at hk
    have hat := h.2 k hk100
    unfold szk
    by_cases c1 : kD k < 50
    · rw [if_pos c1]; exact Nat.zero_le _
    rw [if_neg c1]
    by_cases c2 : kD k = 50
    · rw [if_pos c2]
      rw [ce_T c2] at hat
      have hc : H[k0 G + k]? = some (vp_cell G.2.2.2.1 (6, _)) := hat
      rw [hc] at hk
      have hv : (vp_cell G.2.2.2.1 (6, _)).slots.size = v := Option.some.inj hk
      rw [← hv, vp_cell_q, arrV_size]
      exact Nat.le_refl _
    rw [if_neg c2]
    by_cases c3 : kD k < 1000
    · rw [if_pos c3]
      have c4 : 100 ≤ kD k := by
        have : ∀ k, k < 100 → ¬ kD k < 50 → ¬ kD k = 50 → 100 ≤ kD k := by decide +kernel
        exact this k hk100 c1 c2
      rw [ce_I (n := kD k - 100) (by omega) (by omega)] at hat
      have hc : H[k0 G + k]? = some (vp_cell G.2.1 (kD k - 100, .inl (M.1 k))) := hat
      rw [hc] at hk
      have hv : (vp_cell G.2.1 (kD k - 100, .inl (M.1 k))).slots.size = v := Option.some.inj hk
      rw [← hv, vp_cell_i, arrV_size]
      exact Nat.le_refl _
    · rw [if_neg c3]
      rw [ce_J (n := kD k - 1000) (by omega)] at hat
      have hc : H[k0 G + k]? = some (vp_cell G.2.2.1 (kD k - 1000, .inr (.inl (M.2 k)))) := hat
      rw [hc] at hk
      have hv : (vp_cell G.2.2.1 (kD k - 1000, .inr (.inl (M.2 k)))).slots.size = v := Option.some.inj hk
      rw [← hv, vp_cell_l, arrV_size]
      exact Nat.le_refl _)
  rw [hlen] at hs
  have e : ((List.range 100).map szk).sum = 2513 := by decide +kernel
  omega
def s00 : State := start1.aboutOf #[]
set_option maxRecDepth 16384 in
theorem s00_rest : ((Cond.code x code maxLocals ret :: tables_1).filter (fun c => !c.onTables)).all (fun c => c.before start1.args0 s00) = true := by decide +kernel
theorem s00_words : ∀ c ∈ (Cond.code x code maxLocals ret :: tables_1), c.before start1.args0 s00 = true := by
  intro c hc
  cases hon : c.onTables with
  | true => exact va_tabs (u := start1.about) (U := s00) hon rfl (start1.words c hc)
  | false => exact List.all_eq_true.mp s00_rest c (List.mem_filter.mpr ⟨hc, by rw [hon]; rfl⟩)
set_option maxRecDepth 16384 in
theorem s00_at (R : Room) (h : R = room_1 ∨ R = roomB) : (headSpec (Cond.code x code maxLocals ret :: tables_1) R).applies x start1.e0.platform s00 = true := by
  rcases h with rfl | rfl
  · exact (Spec.applies_iff rfl).mpr ⟨rfl, rfl, rfl, by decide +kernel, by decide +kernel, by decide +kernel, launch0.hasRoom_least _ room_1 (by decide +kernel) (by decide +kernel) (by decide +kernel) (by decide +kernel) (by decide +kernel) (by decide +kernel), atoms_intro s00_words⟩
  · exact (Spec.applies_iff rfl).mpr ⟨rfl, rfl, rfl, by decide +kernel, by decide +kernel, by decide +kernel, launch0.hasRoom_least _ roomB (by decide +kernel) (by decide +kernel) (by decide +kernel) (by decide +kernel) (by decide +kernel) (by decide +kernel), atoms_intro s00_words⟩
set_option maxRecDepth 16384 in
/-- NO PROOF OF THE STATEMENT IS POSSIBLE -/
theorem part_false : ¬ Claimed_1_1 := by
  intro hC
  have hrest : rest_1_c.before start1.args0 s00 = true := by decide +kernel
  have hpre : (Cond.and given_1 narrow_1).before start1.args0 s00 = true := by decide +kernel
  obtain ⟨n, o, h1, h2, h3, h4⟩ := hC launch0 rfl lists_1 trivial start1.p0 start1.e0 (launch0.admits_env _ _ _) fairChoices_fair.cas fairChoices_fair.clock s00 ⟨0, 0⟩ start1.args0 Lib.HandBits.below0 rfl (by decide +kernel) (by decide +kernel) (s00_at room_1 (Or.inl rfl)) ⟨trivial, hrest, hpre⟩
  obtain ⟨n', o', g1, g2, g3, ⟨G, M, hG, hW⟩, -⟩ := law_met0 launch0 0 start1.p0 start1.e0 (launch0.admits_env _ _ _) fairChoices_fair.cas fairChoices_fair.clock s00 ⟨0, 0⟩ start1.args0 Lib.HandBits.below0 rfl ((Spec.applies_iff_loose rfl).mp (s00_at roomB (Or.inr rfl))).1 ⟨rfl, ⟨_, rfl, ⟨fun k h => (by cases h), _, rfl, _, rfl⟩, fun h => (by cases h), rfl, fun j hj => absurd hj (Nat.not_lt_zero j)⟩, by decide⟩ trivial
  have hn : n = n' := by
    rcases Nat.lt_trichotomy n n' with q | q | q
    · exact absurd (g1 n q) h3.not_within
    · exact q
    · exact absurd (h1 n' q) g3.not_within
  subst hn
  have h5 := h4.2.2.2.2.2.2.2.1
  have h6 := hW.size_ge
  rw [hG] at h6
  exact absurd (Nat.le_trans h6 h5) (by decide)
set_option maxRecDepth 16384 in
/-- THE STATEMENT'S OWN FORM OF A REFUTATION, OF BOTH ITS ARMS: a start that keeps all that the statement asks, whose run ends, and what it must be then is not so -/
theorem part_refuted : RefutedClaimed_1_1 ∧ RefutedClaimed_1_2 := by
  have hrest : rest_1_c.before start1.args0 s00 = true := by decide +kernel
  have hpre : (Cond.and given_1 narrow_1).before start1.args0 s00 = true := by decide +kernel
  obtain ⟨n, o, g1, g2, g3, ⟨G, M, hG, hW⟩, -⟩ := law_met0 launch0 0 start1.p0 start1.e0 (launch0.admits_env _ _ _) fairChoices_fair.cas fairChoices_fair.clock s00 ⟨0, 0⟩ start1.args0 Lib.HandBits.below0 rfl ((Spec.applies_iff_loose rfl).mp (s00_at roomB (Or.inr rfl))).1 ⟨rfl, ⟨_, rfl, ⟨fun k h => (by cases h), _, rfl, _, rfl⟩, fun h => (by cases h), rfl, fun j hj => absurd hj (Nat.not_lt_zero j)⟩, by decide⟩ trivial
  have h6 := hW.size_ge
  rw [hG] at h6
  have hA : AtStart classFile x code maxLocals ret World_1 tables_1 room_1 Calls_1 rest_1 Pre_1 launch0 start1.p0 start1.e0 s00 ⟨0, 0⟩ start1.args0 Lib.HandBits.below0 := ⟨lists_1, trivial, launch0.admits_env _ _ _, launch0.least_env, fairChoices_fair.cas, fairChoices_fair.clock, rfl, by decide +kernel, by decide +kernel, s00_at room_1 (Or.inl rfl), trivial, hrest, hpre⟩
  exact ⟨⟨launch0, start1.p0, start1.e0, s00, ⟨0, 0⟩, start1.args0, Lib.HandBits.below0, rfl, hA, n, o, g1, g2, g3, fun h4 => absurd (Nat.le_trans h6 h4.2.2.2.2.2.2.2.1) (by decide)⟩, ⟨launch0, start1.p0, start1.e0, s00, ⟨0, 0⟩, start1.args0, Lib.HandBits.below0, rfl, hA, n, o, g1, g2, g3, fun h4 => absurd (Nat.le_trans h6 h4.2.2.2.2.2.2.2.1) (by decide)⟩⟩
