/-! the law's start: what the tables give; its first rows -/
theorem law_inst : ∀ (ci : Nat) (C : String) (T : u_T) (N : Nat), cls[ci]? = some (C, T, N) → Cond.instantiable C N ∈ gtb := by
  intro ci C T N h
  match ci, h with
  | 0, h => cases h; exact lw_r 29 (by decide +kernel)
  | 1, h => cases h; exact lw_r 35 (by decide +kernel)
  | 2, h => cases h; exact lw_r 196 (by decide +kernel)
  | 3, h => cases h; exact lw_r 160 (by decide +kernel)
  | 4, h => cases h; exact lw_r 166 (by decide +kernel)
  | 5, h => cases h; exact lw_r 65 (by decide +kernel)
  | 6, h => cases h; exact lw_r 23 (by decide +kernel)
  | 7, h => cases h; exact lw_r 283 (by decide +kernel)
  | 8, h => cases h; exact lw_r 254 (by decide +kernel)
  | 9, h => cases h; exact lw_r 15 (by decide +kernel)
  | 10, h => cases h; exact lw_r 822 (by decide +kernel)
  | _ + 11, h => cases h
theorem ntb_in : ∀ q ∈ ntb, Cond.methodLinkNest q.1 q.2.1 q.2.2.1 q.2.2.2 ∈ lw_tbl := by
  have h : ntb.all (fun q => decide (Cond.methodLinkNest q.1 q.2.1 q.2.2.1 q.2.2.2 ∈ lw_tbl)) = true := by decide +kernel
  intro q hq
  exact of_decide_eq_true (List.all_eq_true.mp h q hq)
theorem law_known {args : Array Value} {s : State} (hts : ∀ w ∈ lw_tbl, w.before args s = true) : ∃ G : KG, k0 G = s.heap.size ∧ VK G s := by
  have htg : ∀ w ∈ gtb, w.before args s = true := fun w hw => hts w (gtb_in hw)
  have hcl : ∀ ci : Nat, ∃ (cC : ClassId) (iS : Nat → Nat), ∀ q : vw_C, cls[ci]? = some q → u_Kn s q.1 q.2.1 q.2.2 cC iS := by
    intro ci
    cases h : cls[ci]? with
    | none => exact ⟨(0 : Nat), fun _ => 0, fun q hq => by cases hq⟩
    | some r =>
      obtain ⟨C, T, N⟩ := r
      obtain ⟨cC, iS, hK⟩ := u_known htg (cK _ _ _ _ h).1 (htg _ (law_inst _ _ _ _ h))
      exact ⟨cC, iS, fun q hq => by cases hq; exact hK⟩
  obtain ⟨cI, kI, coI, i1, i2, i3⟩ := Cond.arrayClass_spec (hts (.arrayClass .int) (List.mem_append_right _ (List.mem_of_getElem? (i := 183) (by decide +kernel))))
  obtain ⟨cJ, kJ, coJ, j1, j2, j3⟩ := Cond.arrayClass_spec (hts (.arrayClass .long) (List.mem_append_right _ (List.mem_of_getElem? (i := 300) (by decide +kernel))))
  have hAO := hts (.arrayOver (.object "PressSheets$Tape")) (List.mem_append_right _ (List.mem_of_getElem? (i := 282) (by decide +kernel)))
  obtain ⟨coT, cT, kT, t1, t2, t3, t4, t5⟩ := Cond.arrayOver_spec hAO
  refine ⟨((fun c => Classical.choose (hcl c), fun c => Classical.choose (Classical.choose_spec (hcl c))), cI, cJ, cT, s.heap.size), rfl, ⟨fun c q hq => Classical.choose_spec (Classical.choose_spec (hcl c)) q hq, fun k q hk => ?_⟩, fun q hq => va_Nw.of rfl (hts _ (ntb_in q hq)), va_AO.of hAO⟩
  match k, hk with
  | 0, hk => cases hk; exact ⟨fun n z => ⟨fun k h => (by cases h), kI, i2, coI, i3⟩, i1⟩
  | 1, hk => cases hk; exact ⟨fun n z => ⟨fun k h => (by cases h), kJ, j2, coJ, j3⟩, j1⟩
  | 2, hk => cases hk; exact ⟨fun n z => ⟨fun k h => (by cases h), kT, t3, coT, t4⟩, kT, coT, t3, t4, t1, t5⟩
  | _ + 3, hk => cases hk
section LAWR
variable {α : Type} {X : KX} {d : MD} {Q : α → Mm → State → Prop} {pc pc' : Nat} {ls : List (Option Value)} {st : List Value} {Z : ZZ} {M : Mm} {o : Option (α × Mm)} {b L : Nat} {xs : Nat → Int32} {x : Int32}
theorem g_aloadS_n {n : Fin 4} (hd : dc d.2.1 pc pc' (.aload_n n) 1) (hv : ls[(n : Nat)]? = some (some (.ref b))) (kk : GO X d Q pc' ls (.ref b :: st) Z M o) : GO X d Q pc ls st Z M o := by
  obtain ⟨hd, rfl⟩ := hd
  intro K r M' ho H locs lsA hW hS hL hc hs
  exact lv_aload_n K.1 K.2.1 hd rfl (hL.at hv) (kk K r M' ho H locs lsA hW hS hL hc hs)
theorem g_slen (hX : va_X b L xs (ks X) (ks X).heap) (hbl : b < (ks X).heap.size) (hbA : b < k0 (kG X)) (hd : dc d.2.1 pc pc' .arraylength 1) (kk : GO X d Q pc' ls (.int (Int32.ofNat L) :: st) Z M o) : GO X d Q pc ls (.ref b :: st) Z M o := by
  obtain ⟨hd, rfl⟩ := hd
  intro K r M' ho H locs lsA hW hS hL hc hs
  exact va_slen K.1 K.2.1 hX hbl (by show ¬ k0 (kG X) ≤ b; omega) hS hd (kk K r M' ho H locs lsA hW hS hL hc hs)
theorem g_sldG (hX : va_X b L xs (ks X) (ks X).heap) (hbl : b < (ks X).heap.size) (hbA : b < k0 (kG X)) (hd : dc d.2.1 pc pc' .iaload 1) (kk : GO X d Q pc' ls (.int (xs x.toNatClampNeg) :: st) Z M o) : GO X d Q pc ls (.int x :: .ref b :: st) Z M (if ib x L = true then o else none) := g_grd fun h => by
  obtain ⟨hd, rfl⟩ := hd
  intro K r M' ho H locs lsA hW hS hL hc hs
  exact va_sld K.1 K.2.1 hX hbl (by show ¬ k0 (kG X) ≤ b; omega) hS (ib_in h) hd (kk K r M' ho H locs lsA hW hS hL hc hs)
end LAWR
theorem ix_Law_9 : IX "PressSheetsLaw" 9 y_PS_init := ⟨lw_r 16 (by decide +kernel), lw_r 17 (by decide +kernel)⟩
theorem ix_Law_12 : IX "PressSheetsLaw" 12 y_MD_init := ⟨lw_r 823 (by decide +kernel), lw_r 824 (by decide +kernel)⟩
theorem wl_14 : Cond.classLink "PressSheetsLaw" 7 "PressSheets" ∈ gtb := lw_r 14 (by decide +kernel)
theorem wl_821 : Cond.classLink "PressSheetsLaw" 10 "PressSheetsModel" ∈ gtb := lw_r 821 (by decide +kernel)
theorem wl_1 : Cond.initialized "PressSheets" ∈ gtb := lw_r 1 (by decide +kernel)
theorem wl_11 : Cond.initialized "PressSheetsModel" ∈ gtb := lw_r 11 (by decide +kernel)
/-- the two objects are made; then the loop's head -/
def fL_start (kk : Mm → Option (Int32 × Mm)) (M : Mm) : Option (Int32 × Mm) := lT (zr M 0) fun M1 => bD (f_PS_init_0 M1) fun _ M2 => lT (zr M2 78) fun M3 => bD (f_MD_init_78 M3) fun _ M4 => kk M4
set_option maxHeartbeats 4000000 in
set_option maxRecDepth 20000 in
theorem tL_start {X : KX} {Q : Int32 → Mm → State → Prop} {M : Mm} {b : Nat} {kk : Mm → Option (Int32 × Mm)} (hrc : 100 ≤ (kr X).cells) (hrs : 2724 ≤ (kr X).slots)
    (hk : ∀ M1, GO X md_Law_law Q 18 [some (.ref b), some (rf (kG X) 0), some (rf (kG X) 78), some (.int (0 : Int32))] [] (100, 2724, 100, iniT 98) M1 (kk M1)) :
    GO X md_Law_law Q 0 [some (.ref b), none, none, none] [] (0, 0, 0, iniT 0) M (fL_start kk M) := by
  unfold fL_start
  refine g_new (c' := 1) (s' := 6) (n' := 1) e_Law_law_0 (show cls[9]? = some ("PressSheets", tC9, 6) from rfl) ⟨wl_14, law_inst 9 _ _ _ rfl, wl_1⟩ kq_0 yC9 pY9 dV9 (by decide +kernel) rfl rfl rfl ⟨Nat.le_trans (by decide) hrc, Nat.le_trans (by decide) hrs⟩ (fun M1 => ?_)
  refine g_dup e_Law_law_3 rfl ?_
  refine g_callI (mc := 77) (ms := 1287) (c' := 78) (s' := 1293) (As := []) (st := [rf (kG X) 0]) e_Law_law_4 ix_Law_9 rfl rfl my_PS_init (by decide) rfl rfl (Nat.le_of_ble_eq_true rfl) rfl rfl ⟨Nat.le_trans (by decide) hrc, Nat.le_trans (by decide) hrs⟩ (fun _ h => c_PS_init_0 h) (fun M2 _ => ?_)
  refine g_astore_n e_Law_law_7 (by decide) rfl ?_
  refine g_new (c' := 79) (s' := 1335) (n' := 79) e_Law_law_8 (show cls[10]? = some ("PressSheetsModel", tC10, 42) from rfl) ⟨wl_821, law_inst 10 _ _ _ rfl, wl_11⟩ kq_78 yC10 pY10 dV10 (by decide +kernel) rfl rfl rfl ⟨Nat.le_trans (by decide) hrc, Nat.le_trans (by decide) hrs⟩ (fun M3 => ?_)
  refine g_dup e_Law_law_11 rfl ?_
  refine g_callI (mc := 21) (ms := 1389) (c' := 100) (s' := 2724) (As := []) (st := [rf (kG X) 78]) e_Law_law_12 ix_Law_12 rfl rfl my_MD_init (by decide) rfl rfl (Nat.le_of_ble_eq_true rfl) rfl rfl ⟨Nat.le_trans (by decide) hrc, Nat.le_trans (by decide) hrs⟩ (fun _ h => c_MD_init_78 h) (fun M4 _ => ?_)
  refine g_astore_n e_Law_law_15 (by decide) rfl ?_
  refine g_iconst (x := (0 : Int32)) e_Law_law_16 (by decide) ?_
  refine g_istore_n e_Law_law_17 (by decide) rfl ?_
  exact hk M4
