/-! rules whose term names what comes (lT), guards what may fail -/
def ib (x : Int32) (n : Nat) : Bool := decide (0 ≤ x) && decide (x.toNatClampNeg < n)
theorem ib_in {x : Int32} {n : Nat} (h : ib x n = true) : vp_in x n := by
  simp only [ib, Bool.and_eq_true, decide_eq_true_eq] at h
  rintro (h1 | h1)
  · exact absurd h.1 (Int32.not_le.mpr h1)
  · omega
def oE {γ : Type} (r : Option Nat) (a : γ) (f : Nat → γ) : γ := match r with
  | none => a
  | some k => f k
def fuel : Nat := 5000
def aL (k : Nat) : Nat := kD k - 100
def WKp : List (Option Value) → List (Option Value) → Prop
  | [], _ => True
  | none :: a, [] => WKp a []
  | none :: a, _ :: b => WKp a b
  | some v :: a, x :: b => x = some v ∧ WKp a b
  | some _ :: _, [] => False
theorem WKp.ok : ∀ (a b : List (Option Value)), WKp a b → ∀ (k : Nat) (v : Value), a[k]? = some (some v) → b[k]? = some (some v)
  | [], _, _, k, v, h => by simp at h
  | none :: a, [], h0, 0, v, h => by simp at h
  | none :: a, [], h0, k + 1, v, h => by
    have := WKp.ok a [] h0 k v (by simpa using h)
    simp at this
  | none :: a, _ :: b, h0, 0, v, h => by simp at h
  | none :: a, _ :: b, h0, k + 1, v, h => by simpa using WKp.ok a b h0 k v (by simpa using h)
  | some w :: a, x :: b, h0, 0, v, h => by
    have h1 : w = v := by simpa using h
    rw [h0.1, h1]
    rfl
  | some w :: a, x :: b, h0, k + 1, v, h => by simpa using WKp.ok a b h0.2 k v (by simpa using h)
  | some w :: a, [], h0, k, v, h => h0.elim
section LETS
variable {α β : Type} {X : KX} {d dy : MD} {Q : α → Mm → State → Prop} {pc pc' tgt idx : Nat} {off : Int} {ls ls' : List (Option Value)} {st : List Value} {Z : ZZ} {M : Mm} {o : Option (α × Mm)} {x y c : Int32} {u v : Int64} {i j k ci n : Nat} {fI : Int32 → Option (α × Mm)} {fJ : Int64 → Option (α × Mm)} {fM : Mm → Option (α × Mm)}
theorem g_wk (h : WKp ls' ls) (kk : GO X d Q pc ls' st Z M o) : GO X d Q pc ls st Z M o := g_weak (WKp.ok _ _ h) kk
theorem g_istoreL_n {n : Fin 4} (hd : dc d.2.1 pc pc' (.istore_n n) 1) (hn : (n : Nat) < d.2.2.1) (hg : nlo ls n = true) (kk : ∀ z, GO X d Q pc' (ls.set n (some (.int z))) st Z M (fI z)) : GO X d Q pc ls (.int x :: st) Z M (lT x fI) := g_istore_n hd hn hg (kk x)
theorem g_istoreL (hd : dc d.2.1 pc pc' (.istore i) 2) (hn : i < d.2.2.1) (hg : nlo ls i = true) (kk : ∀ z, GO X d Q pc' (ls.set i (some (.int z))) st Z M (fI z)) : GO X d Q pc ls (.int x :: st) Z M (lT x fI) := g_istore hd hn hg (kk x)
theorem g_lstoreL_n {n : Fin 4} (hd : dc d.2.1 pc pc' (.lstore_n n) 1) (hn : (n : Nat) + 1 < d.2.2.1) (hg : nlo ls n = true) (kk : ∀ z, GO X d Q pc' ((ls.set n (some (.long z))).set (n + 1) none) st Z M (fJ z)) : GO X d Q pc ls (.long u :: st) Z M (lT u fJ) := g_lstore_n hd hn hg (kk u)
theorem g_lstoreL (hd : dc d.2.1 pc pc' (.lstore i) 2) (hn : i + 1 < d.2.2.1) (hg : nlo ls i = true) (kk : ∀ z, GO X d Q pc' ((ls.set i (some (.long z))).set (i + 1) none) st Z M (fJ z)) : GO X d Q pc ls (.long u :: st) Z M (lT u fJ) := g_lstore hd hn hg (kk u)
theorem g_iincL {n : Int} (hd : dc d.2.1 pc pc' (.iinc i n) 3) (hv : ls[i]? = some (some (.int x))) (hy : Int32.ofInt n = c) (hn : i < d.2.2.1) (hg : nlo ls i = true) (kk : ∀ z, GO X d Q pc' (ls.set i (some (.int z))) st Z M (fI z)) : GO X d Q pc ls st Z M (lT (x + c) fI) := g_iinc hd hv (by rw [hy]) hn hg (kk (x + c))
theorem g_putL {ty : FieldType} (hd : dc d.2.1 pc pc' (.putfield idx) 3) (hf : FP d.1 idx ci j ty) (hk : kD k = ci) (hn : k < Z.2.2.1) (hj : (fD ci)[j]? = some none) (hna : narrow ty (.int x) = .int x) (hfi : fits ty (.int x) = true) (kk : ∀ M1, GO X d Q pc' ls st Z M1 (fM M1)) : GO X d Q pc ls (.int x :: rf (kG X) k :: st) Z M (lT (wI M k j x) fM) := g_putI hd hf hk hn hj hna hfi (kk _)
theorem g_ialdG (hd : dc d.2.1 pc pc' .iaload 1) (hk : kD k = 100 + n ∧ n < 900) (hn : k < Z.2.2.1) (kk : GO X d Q pc' ls (.int (M.1 k x.toNatClampNeg) :: st) Z M o) : GO X d Q pc ls (.int x :: rf (kG X) k :: st) Z M (if ib x n = true then o else none) := g_grd fun h => g_iald hd hk.1 hk.2 hn kk (ib_in h)
theorem g_laldG (hd : dc d.2.1 pc pc' .laload 1) (hk : kD k = 1000 + n) (hn : k < Z.2.2.1) (kk : GO X d Q pc' ls (.long (M.2 k x.toNatClampNeg) :: st) Z M o) : GO X d Q pc ls (.int x :: rf (kG X) k :: st) Z M (if ib x n = true then o else none) := g_grd fun h => g_lald hd hk hn kk (ib_in h)
theorem g_aaldG (hd : dc d.2.1 pc pc' .aaload 1) (hz : FU Z) (hk : kD k = 50) (kk : GO X d Q pc' ls (rf (kG X) (k + 1 + 2 * x.toNatClampNeg) :: st) Z M o) : GO X d Q pc ls (.int x :: rf (kG X) k :: st) Z M (if ib x 6 = true then o else none) := g_grd fun h => g_aald hd hk (hz.lt hk) (fun j => hz.2 k j) kk (ib_in h)
theorem g_iastG (hd : dc d.2.1 pc pc' .iastore 1) (hk : kD k = 100 + n ∧ n < 900) (hn : k < Z.2.2.1) (kk : ∀ M1, GO X d Q pc' ls st Z M1 (fM M1)) : GO X d Q pc ls (.int y :: .int x :: rf (kG X) k :: st) Z M (if ib x n = true then lT (wI M k x.toNatClampNeg y) fM else none) := g_grd fun h => g_iast hd hk.1 hk.2 hn (kk _) (ib_in h)
theorem g_lastG (hd : dc d.2.1 pc pc' .lastore 1) (hk : kD k = 1000 + n) (hn : k < Z.2.2.1) (kk : ∀ M1, GO X d Q pc' ls st Z M1 (fM M1)) : GO X d Q pc ls (.long u :: .int x :: rf (kG X) k :: st) Z M (if ib x n = true then lT (wJ M k x.toNatClampNeg u) fM else none) := g_grd fun h => g_last hd hk hn (kk _) (ib_in h)
theorem g_idivG (hd : dc d.2.1 pc pc' .idiv 1) (kk : GO X d Q pc' ls (.int (x / y) :: st) Z M o) : GO X d Q pc ls (.int y :: .int x :: st) Z M (if y = 0 then none else o) := g_ite (fun _ => g_none) (fun h => g_idiv hd h kk)
theorem g_iremG (hd : dc d.2.1 pc pc' .irem 1) (kk : GO X d Q pc' ls (.int (x % y) :: st) Z M o) : GO X d Q pc ls (.int y :: .int x :: st) Z M (if y = 0 then none else o) := g_ite (fun _ => g_none) (fun h => g_irem hd h kk)
theorem g_ldivG (hd : dc d.2.1 pc pc' .ldiv 1) (kk : GO X d Q pc' ls (.long (u / v) :: st) Z M o) : GO X d Q pc ls (.long v :: .long u :: st) Z M (if v = 0 then none else o) := g_ite (fun _ => g_none) (fun h => g_ldiv hd h kk)
theorem g_lremG (hd : dc d.2.1 pc pc' .lrem 1) (kk : GO X d Q pc' ls (.long (u % v) :: st) Z M o) : GO X d Q pc ls (.long v :: .long u :: st) Z M (if v = 0 then none else o) := g_ite (fun _ => g_none) (fun h => g_lrem hd h kk)
theorem g_zretG (hd : dc d.2.1 pc pc' .ireturn 1) (hr : d.2.2.2.1 = some .boolean) : GO X d (QE X rvI Z) pc ls [.int x] Z M (if x = 0 ∨ x = 1 then some (x, M) else none) := g_grd fun h => g_zret hd hr h
theorem g_getRZ {z kz : Nat} (hd : dc d.2.1 pc pc' (.getfield idx) 3) (hf : FL d.1 idx ci j) (hz : FU Z) (hk : kD k = ci) (hc : ci ≠ 99) (hj : (fD ci)[j]? = some (some z)) (he : k + z = kz) (kk : GO X d Q pc' ls (rf (kG X) kz :: st) Z M o) : GO X d Q pc ls (rf (kG X) k :: st) Z M o := by
  subst he
  exact g_getR hd hf hk (hz.lt hk hc) (hz.2 _ _) hj kk
theorem g_oN {f : Nat → Option (α × Mm)} (kk : GO X d Q pc ls st Z M o) : GO X d Q pc ls st Z M (oE none o f) := kk
theorem g_oS {f : Nat → Option (α × Mm)} (kk : GO X d Q pc ls st Z M (f k)) : GO X d Q pc ls st Z M (oE (some k) o f) := kk
theorem g_aloadN_n {n : Fin 4} (hd : dc d.2.1 pc pc' (.aload_n n) 1) (hv : ls[(n : Nat)]? = some (some .null)) (kk : GO X d Q pc' ls (.null :: st) Z M o) : GO X d Q pc ls st Z M o := by
  obtain ⟨hd, rfl⟩ := hd
  intro K r M' ho H locs lsA hW hS hL hc hs
  exact lv_aload_nN K.1 K.2.1 hd rfl (hL.at hv) (kk K r M' ho H locs lsA hW hS hL hc hs)
theorem g_aloadN (hd : dc d.2.1 pc pc' (.aload i) 2) (hv : ls[i]? = some (some .null)) (kk : GO X d Q pc' ls (.null :: st) Z M o) : GO X d Q pc ls st Z M o := by
  obtain ⟨hd, rfl⟩ := hd
  intro K r M' ho H locs lsA hW hS hL hc hs
  exact lv_aloadN K.1 K.2.1 hd (hL.at hv) (kk K r M' ho H locs lsA hW hS hL hc hs)
theorem g_astoreN_n {n : Fin 4} (hd : dc d.2.1 pc pc' (.astore_n n) 1) (hn : (n : Nat) < d.2.2.1) (hg : nlo ls n = true) (kk : GO X d Q pc' (ls.set n (some .null)) st Z M o) : GO X d Q pc ls (.null :: st) Z M o := by
  obtain ⟨hd, rfl⟩ := hd
  intro K r M' ho H locs lsA hW hS ⟨l, h1, h2⟩ hc hs
  exact lv_astore_nN K.1 K.2.1 hd rfl h1 hn rfl (fun ls' h' => kk K r M' ho H locs ls' hW hS ⟨_, h', LV.set1 h2 hg⟩ hc hs)
theorem g_astoreN (hd : dc d.2.1 pc pc' (.astore i) 2) (hn : i < d.2.2.1) (hg : nlo ls i = true) (kk : GO X d Q pc' (ls.set i (some .null)) st Z M o) : GO X d Q pc ls (.null :: st) Z M o := by
  obtain ⟨hd, rfl⟩ := hd
  intro K r M' ho H locs lsA hW hS ⟨l, h1, h2⟩ hc hs
  exact lv_astoreN K.1 K.2.1 hd h1 hn rfl (fun ls' h' => kk K r M' ho H locs ls' hW hS ⟨_, h', LV.set1 h2 hg⟩ hc hs)
/-- System.arraycopy over longs -/
def cpJ (M : Mm) (k1 k2 sp dp n : Nat) : Mm := (M.1, fun q => if q = k2 then va_cpy (M.2 k1) (M.2 k2) sp dp n else M.2 q)
theorem g_copyG {k1 k2 : Nat} {sp dp n : Int32} (hd : dc d.2.1 pc pc' (.invokestatic idx) 3) (hl : Cond.methodLink d.1 idx arraycopyName ∈ gtb ∧ Cond.native arraycopyName ∈ gtb ∧ Cond.static arraycopyName ∈ gtb ∧ Cond.initialized "java/lang/System" ∈ gtb)
    (hk1 : kD k1 = 1000 + 60) (hk2 : kD k2 = 1000 + 60) (hn1 : k1 < Z.2.2.1) (hn2 : k2 < Z.2.2.1) (hR : 1 ≤ d.2.2.2.2.1 ∧ (st.map fun v => v.category).sum + (nativeFrameWords "java/lang/System" "arraycopy" 5 + 11) ≤ d.2.2.2.2.2)
    (kk : ∀ M1, GO X d Q pc' ls st Z M1 (fM M1)) : GO X d Q pc ls (.int n :: .int dp :: rf (kG X) k2 :: .int sp :: rf (kG X) k1 :: st) Z M (if ¬ sp < 0 ∧ ¬ dp < 0 ∧ ¬ n < 0 ∧ sp.toNatClampNeg + n.toNatClampNeg ≤ 60 ∧ dp.toNatClampNeg + n.toNatClampNeg ≤ 60 then lT (cpJ M k1 k2 sp.toNatClampNeg dp.toNatClampNeg n.toNatClampNeg) fM else none) := by
  obtain ⟨hd, rfl⟩ := hd
  refine g_grd ?_
  rintro ⟨h1, h2, h3, h4, h5⟩
  intro K r M' ho H locs lsA hW hS hL hc hs
  have hts := K.2.2.2.2.2.1
  have nn : ∀ z : Int32, ¬ z < 0 → z.toInt = (z.toNatClampNeg : Int) := by
    intro z hz
    have hz0 : (0 : Int) ≤ z.toInt := by
      have := Int32.not_lt.mp hz
      simpa using Int32.le_iff_toInt_le.mp this
    show z.toInt = ((z.toInt.toNat : Nat) : Int)
    omega
  have hKv := K.2.2.2.2.2.2.2.1.1
  have hc0 : H[k0 (kG X) + k1]? = some (vp_cell (kG X).2.2.1 (60, .inr (.inl (M.2 k1)))) := by
    have := hW.2 k1 hn1
    rw [ce_J hk1] at this
    exact this
  have hc1 : H[k0 (kG X) + k2]? = some (vp_cell (kG X).2.2.1 (60, .inr (.inl (M.2 k2)))) := by
    have := hW.2 k2 hn2
    rw [ce_J hk2] at this
    exact this
  obtain ⟨-, q0, hq0, cm0, hkk0⟩ := (hKv.2 1 _ rfl).1 60 (fun j => .long (M.2 k1 j))
  obtain ⟨-, q1, hq1, cm1, hkk1⟩ := (hKv.2 1 _ rfl).1 60 (fun j => .long (M.2 k2 j))
  intro T hT XX
  obtain ⟨vm', X', step⟩ := XX.arraycopy K.1 K.2.2.2.2.1 (hts _ hl.1) (hts _ hl.2.1) (hts _ hl.2.2.1) (hts _ hl.2.2.2) (src := k0 (kG X) + k1) (dst := k0 (kG X) + k2) (cs := vp_cell (kG X).2.2.1 (60, .inr (.inl (M.2 k1)))) (cd := vp_cell (kG X).2.2.1 (60, .inr (.inl (M.2 k2)))) (srcPos := sp) (destPos := dp) (n := n) (by rw [hT]; exact hc0) (by rw [hT]; exact hc1)
    (fun _ h => by cases h) (fun _ h => by cases h) (fun h => by cases h) (fun h => by cases h) hq0 hq1 hkk0 hkk1 (by simp [refKind]) h1 h2 h3
    (by rw [nn sp h1, nn n h3]; show ¬ _ > ((arrV (kG X).2.2.1 60 (fun j => .long (M.2 k1 j))).slots.size : Int); rw [arrV_size]; omega)
    (by rw [nn dp h2, nn n h3]; show ¬ _ > ((arrV (kG X).2.2.1 60 (fun j => .long (M.2 k2 j))).slots.size : Int); rw [arrV_size]; omega)
    (fun vm₁ _ i hi => by
      have e : (vp_cell (kG X).2.2.1 (60, .inr (.inl (M.2 k1)))).slots.getD (sp.toNatClampNeg + i) .null = .long (M.2 k1 (sp.toNatClampNeg + i)) := by
        show (arrV (kG X).2.2.1 60 (fun j => .long (M.2 k1 j))).slots.getD _ _ = _
        rw [Array.getD_eq_getD_getElem?, arrV_read _ _ (by omega)]
        rfl
      refine ⟨?_, ?_⟩
      · rw [e]; rfl
      · rw [e]; exact trivial)
    (g := F0 (km X) pc lsA (.int n :: .int dp :: .ref (k0 (kG X) + k2) :: .int sp :: .ref (k0 (kG X) + k1) :: st)) rfl (by obtain ⟨l, h, _⟩ := hL; rw [K.2.2.2.1]; exact h.1) (rest := st) rfl (by rw [K.2.1]; exact hd) (Nat.le_trans hR.1 K.2.2.2.2.2.2.2.2.1) (by have := Nat.le_trans hR.2 K.2.2.2.2.2.2.2.2.2; show 2 * 0 + _ + _ ≤ _; omega)
  have e1 : copied (vp_cell (kG X).2.2.1 (60, .inr (.inl (M.2 k1)))) (vp_cell (kG X).2.2.1 (60, .inr (.inl (M.2 k2)))) sp dp n = vp_cell (kG X).2.2.1 (60, .inr (.inl (va_cpy (M.2 k1) (M.2 k2) sp.toNatClampNeg dp.toNatClampNeg n.toNatClampNeg))) := va_copied (fun z => .long z) (kG X).2.2.1 (kG X).2.2.1 (M.2 k1) (M.2 k2) h4
  rw [e1] at X' step
  have hlt : k0 (kG X) + k2 < H.size := (Array.getElem?_eq_some_iff.mp hc1).1
  have hheap : ((T.setVm vm').setCell (k0 (kG X) + k2) (vp_cell (kG X).2.2.1 (60, .inr (.inl (va_cpy (M.2 k1) (M.2 k2) sp.toNatClampNeg dp.toNatClampNeg n.toNatClampNeg))))).heap = H.setIfInBounds (k0 (kG X) + k2) (vp_cell (kG X).2.2.1 (60, .inr (.inl (va_cpy (M.2 k1) (M.2 k2) sp.toNatClampNeg dp.toNatClampNeg n.toNatClampNeg)))) := by rw [← hT]; rfl
  have oq : ∀ q : Nat, q ≠ k0 (kG X) + k2 → (H.setIfInBounds (k0 (kG X) + k2) (vp_cell (kG X).2.2.1 (60, .inr (.inl (va_cpy (M.2 k1) (M.2 k2) sp.toNatClampNeg dp.toNatClampNeg n.toNatClampNeg)))))[q]? = H[q]? := fun q hq => by simp [Array.getElem?_setIfInBounds, Ne.symm hq]
  have hW2 : WD (kG X) Z.2.2.1 Z.2.2.2 (cpJ M k1 k2 sp.toNatClampNeg dp.toNatClampNeg n.toNatClampNeg) (H.setIfInBounds (k0 (kG X) + k2) (vp_cell (kG X).2.2.1 (60, .inr (.inl (va_cpy (M.2 k1) (M.2 k2) sp.toNatClampNeg dp.toNatClampNeg n.toNatClampNeg))))) := by
    refine hW.put (k := k2) (by simp) oq ?_ (fun q hq => ce_cg rfl (if_neg hq) rfl)
    rw [ce_J hk2]
    show (H.setIfInBounds _ _)[k0 (kG X) + k2]? = some (vp_cell _ (60, .inr (.inl (if k2 = k2 then _ else _))))
    rw [if_pos rfl]
    simp [Array.getElem?_setIfInBounds, hlt]
  obtain ⟨t, a1, b1⟩ := kk _ K r M' ho _ _ lsA hW2 ⟨by simp; exact hS.1, fun q g1 g2 => by
      rw [oq q (fun e => g2 (by rw [e]; exact Nat.le_add_right _ _))]
      exact hS.2.1 q g1 g2, fun q hq => by
      rcases List.mem_append.mp hq with h | h
      · exact hS.2.2 q h
      · obtain ⟨z, -, hz⟩ := List.mem_map.mp h
        rw [← hz]
        exact Nat.le_add_right _ _⟩ hL hc hs _ hheap X'
  exact ⟨t, step t a1, b1⟩
theorem g_icmp_eq' (hd : dj d.2.1 pc pc' tgt off (.if_icmp .eq off) 3) (kt : x = y → GO X d Q tgt ls st Z M o) (kf : ¬ x = y → GO X d Q pc' ls st Z M o) : GO X d Q pc ls (.int y :: .int x :: st) Z M o := by
  obtain ⟨hd, rfl, ht⟩ := hd
  intro K r M' ho H locs lsA hW hS hL hc hs
  exact lv_icmp_eq K.1 K.2.1 hd ht (fun h => kt h K r M' ho H locs lsA hW hS hL hc hs) (fun h => kf h K r M' ho H locs lsA hW hS hL hc hs)
theorem g_icmp_ne' (hd : dj d.2.1 pc pc' tgt off (.if_icmp .ne off) 3) (kt : ¬ x = y → GO X d Q tgt ls st Z M o) (kf : x = y → GO X d Q pc' ls st Z M o) : GO X d Q pc ls (.int y :: .int x :: st) Z M o := by
  obtain ⟨hd, rfl, ht⟩ := hd
  intro K r M' ho H locs lsA hW hS hL hc hs
  exact lv_icmp_ne K.1 K.2.1 hd ht (fun h => kt h K r M' ho H locs lsA hW hS hL hc hs) (fun h => kf h K r M' ho H locs lsA hW hS hL hc hs)
theorem g_icmp_lt' (hd : dj d.2.1 pc pc' tgt off (.if_icmp .lt off) 3) (kt : x < y → GO X d Q tgt ls st Z M o) (kf : ¬ x < y → GO X d Q pc' ls st Z M o) : GO X d Q pc ls (.int y :: .int x :: st) Z M o := by
  obtain ⟨hd, rfl, ht⟩ := hd
  intro K r M' ho H locs lsA hW hS hL hc hs
  exact lv_icmp_lt K.1 K.2.1 hd ht (fun h => kt h K r M' ho H locs lsA hW hS hL hc hs) (fun h => kf h K r M' ho H locs lsA hW hS hL hc hs)
theorem g_icmp_ge' (hd : dj d.2.1 pc pc' tgt off (.if_icmp .ge off) 3) (kt : y ≤ x → GO X d Q tgt ls st Z M o) (kf : ¬ y ≤ x → GO X d Q pc' ls st Z M o) : GO X d Q pc ls (.int y :: .int x :: st) Z M o := by
  obtain ⟨hd, rfl, ht⟩ := hd
  intro K r M' ho H locs lsA hW hS hL hc hs
  exact lv_icmp_ge K.1 K.2.1 hd ht (fun h => kt h K r M' ho H locs lsA hW hS hL hc hs) (fun h => kf h K r M' ho H locs lsA hW hS hL hc hs)
theorem g_icmp_gt' (hd : dj d.2.1 pc pc' tgt off (.if_icmp .gt off) 3) (kt : y < x → GO X d Q tgt ls st Z M o) (kf : ¬ y < x → GO X d Q pc' ls st Z M o) : GO X d Q pc ls (.int y :: .int x :: st) Z M o := by
  obtain ⟨hd, rfl, ht⟩ := hd
  intro K r M' ho H locs lsA hW hS hL hc hs
  exact lv_icmp_gt K.1 K.2.1 hd ht (fun h => kt h K r M' ho H locs lsA hW hS hL hc hs) (fun h => kf h K r M' ho H locs lsA hW hS hL hc hs)
theorem g_icmp_le' (hd : dj d.2.1 pc pc' tgt off (.if_icmp .le off) 3) (kt : x ≤ y → GO X d Q tgt ls st Z M o) (kf : ¬ x ≤ y → GO X d Q pc' ls st Z M o) : GO X d Q pc ls (.int y :: .int x :: st) Z M o := by
  obtain ⟨hd, rfl, ht⟩ := hd
  intro K r M' ho H locs lsA hW hS hL hc hs
  exact lv_icmp_le K.1 K.2.1 hd ht (fun h => kt h K r M' ho H locs lsA hW hS hL hc hs) (fun h => kf h K r M' ho H locs lsA hW hS hL hc hs)
theorem g_if_eq' (hd : dj d.2.1 pc pc' tgt off (.ifCond .eq off) 3) (kt : x = 0 → GO X d Q tgt ls st Z M o) (kf : ¬ x = 0 → GO X d Q pc' ls st Z M o) : GO X d Q pc ls (.int x :: st) Z M o := by
  obtain ⟨hd, rfl, ht⟩ := hd
  intro K r M' ho H locs lsA hW hS hL hc hs
  exact lv_if_eq K.1 K.2.1 hd ht (fun h => kt h K r M' ho H locs lsA hW hS hL hc hs) (fun h => kf h K r M' ho H locs lsA hW hS hL hc hs)
theorem g_if_ne' (hd : dj d.2.1 pc pc' tgt off (.ifCond .ne off) 3) (kt : ¬ x = 0 → GO X d Q tgt ls st Z M o) (kf : x = 0 → GO X d Q pc' ls st Z M o) : GO X d Q pc ls (.int x :: st) Z M o := by
  obtain ⟨hd, rfl, ht⟩ := hd
  intro K r M' ho H locs lsA hW hS hL hc hs
  exact lv_if_ne K.1 K.2.1 hd ht (fun h => kt h K r M' ho H locs lsA hW hS hL hc hs) (fun h => kf h K r M' ho H locs lsA hW hS hL hc hs)
theorem g_if_lt' (hd : dj d.2.1 pc pc' tgt off (.ifCond .lt off) 3) (kt : x < 0 → GO X d Q tgt ls st Z M o) (kf : ¬ x < 0 → GO X d Q pc' ls st Z M o) : GO X d Q pc ls (.int x :: st) Z M o := by
  obtain ⟨hd, rfl, ht⟩ := hd
  intro K r M' ho H locs lsA hW hS hL hc hs
  exact lv_if_lt K.1 K.2.1 hd ht (fun h => kt h K r M' ho H locs lsA hW hS hL hc hs) (fun h => kf h K r M' ho H locs lsA hW hS hL hc hs)
theorem g_if_ge' (hd : dj d.2.1 pc pc' tgt off (.ifCond .ge off) 3) (kt : 0 ≤ x → GO X d Q tgt ls st Z M o) (kf : ¬ 0 ≤ x → GO X d Q pc' ls st Z M o) : GO X d Q pc ls (.int x :: st) Z M o := by
  obtain ⟨hd, rfl, ht⟩ := hd
  intro K r M' ho H locs lsA hW hS hL hc hs
  exact lv_if_ge K.1 K.2.1 hd ht (fun h => kt h K r M' ho H locs lsA hW hS hL hc hs) (fun h => kf h K r M' ho H locs lsA hW hS hL hc hs)
theorem g_if_gt' (hd : dj d.2.1 pc pc' tgt off (.ifCond .gt off) 3) (kt : 0 < x → GO X d Q tgt ls st Z M o) (kf : ¬ 0 < x → GO X d Q pc' ls st Z M o) : GO X d Q pc ls (.int x :: st) Z M o := by
  obtain ⟨hd, rfl, ht⟩ := hd
  intro K r M' ho H locs lsA hW hS hL hc hs
  exact lv_if_gt K.1 K.2.1 hd ht (fun h => kt h K r M' ho H locs lsA hW hS hL hc hs) (fun h => kf h K r M' ho H locs lsA hW hS hL hc hs)
theorem g_if_le' (hd : dj d.2.1 pc pc' tgt off (.ifCond .le off) 3) (kt : x ≤ 0 → GO X d Q tgt ls st Z M o) (kf : ¬ x ≤ 0 → GO X d Q pc' ls st Z M o) : GO X d Q pc ls (.int x :: st) Z M o := by
  obtain ⟨hd, rfl, ht⟩ := hd
  intro K r M' ho H locs lsA hW hS hL hc hs
  exact lv_if_le K.1 K.2.1 hd ht (fun h => kt h K r M' ho H locs lsA hW hS hL hc hs) (fun h => kf h K r M' ho H locs lsA hW hS hL hc hs)
end LETS
theorem kq_0 : kD 0 = 9 := rfl
theorem kq_1 : kD 1 = 6 := rfl
theorem kq_2 : kD 2 = 0 := rfl
theorem kq_3 : kD 3 = 1 := rfl
theorem kq_4 : kD 4 = 5 := rfl
theorem kq_5 : kD 5 = 3 := rfl
theorem kq_6 : kD 6 = 4 := rfl
theorem kq_7 : kD 7 = 140 := rfl
theorem kq_8 : kD 8 = 4 := rfl
theorem kq_9 : kD 9 = 164 := rfl
theorem kq_10 : kD 10 = 2 := rfl
theorem kq_11 : kD 11 = 4 := rfl
theorem kq_12 : kD 12 = 160 := rfl
theorem kq_13 : kD 13 = 4 := rfl
theorem kq_14 : kD 14 = 160 := rfl
theorem kq_15 : kD 15 = 4 := rfl
theorem kq_16 : kD 16 = 160 := rfl
theorem kq_17 : kD 17 = 4 := rfl
theorem kq_18 : kD 18 = 104 := rfl
theorem kq_19 : kD 19 = 4 := rfl
theorem kq_20 : kD 20 = 105 := rfl
theorem kq_21 : kD 21 = 4 := rfl
theorem kq_22 : kD 22 = 105 := rfl
theorem kq_23 : kD 23 = 4 := rfl
theorem kq_24 : kD 24 = 108 := rfl
theorem kq_25 : kD 25 = 4 := rfl
theorem kq_26 : kD 26 = 108 := rfl
theorem kq_27 : kD 27 = 6 := rfl
theorem kq_28 : kD 28 = 0 := rfl
theorem kq_29 : kD 29 = 1 := rfl
theorem kq_30 : kD 30 = 5 := rfl
theorem kq_31 : kD 31 = 3 := rfl
theorem kq_32 : kD 32 = 4 := rfl
theorem kq_33 : kD 33 = 140 := rfl
theorem kq_34 : kD 34 = 4 := rfl
theorem kq_35 : kD 35 = 164 := rfl
theorem kq_36 : kD 36 = 2 := rfl
theorem kq_37 : kD 37 = 4 := rfl
theorem kq_38 : kD 38 = 160 := rfl
theorem kq_39 : kD 39 = 4 := rfl
theorem kq_40 : kD 40 = 160 := rfl
theorem kq_41 : kD 41 = 4 := rfl
theorem kq_42 : kD 42 = 160 := rfl
theorem kq_43 : kD 43 = 4 := rfl
theorem kq_44 : kD 44 = 104 := rfl
theorem kq_45 : kD 45 = 4 := rfl
theorem kq_46 : kD 46 = 105 := rfl
theorem kq_47 : kD 47 = 4 := rfl
theorem kq_48 : kD 48 = 105 := rfl
theorem kq_49 : kD 49 = 4 := rfl
theorem kq_50 : kD 50 = 108 := rfl
theorem kq_51 : kD 51 = 4 := rfl
theorem kq_52 : kD 52 = 108 := rfl
theorem kq_53 : kD 53 = 0 := rfl
theorem kq_54 : kD 54 = 1 := rfl
theorem kq_55 : kD 55 = 5 := rfl
theorem kq_56 : kD 56 = 8 := rfl
theorem kq_57 : kD 57 = 4 := rfl
theorem kq_58 : kD 58 = 200 := rfl
theorem kq_59 : kD 59 = 4 := rfl
theorem kq_60 : kD 60 = 110 := rfl
theorem kq_61 : kD 61 = 4 := rfl
theorem kq_62 : kD 62 = 110 := rfl
theorem kq_63 : kD 63 = 4 := rfl
theorem kq_64 : kD 64 = 110 := rfl
theorem kq_65 : kD 65 = 50 := rfl
theorem kq_66 : kD 66 = 7 := rfl
theorem kq_67 : kD 67 = 1060 := rfl
theorem kq_68 : kD 68 = 7 := rfl
theorem kq_69 : kD 69 = 1060 := rfl
theorem kq_70 : kD 70 = 7 := rfl
theorem kq_71 : kD 71 = 1060 := rfl
theorem kq_72 : kD 72 = 7 := rfl
theorem kq_73 : kD 73 = 1060 := rfl
theorem kq_74 : kD 74 = 7 := rfl
theorem kq_75 : kD 75 = 1060 := rfl
theorem kq_76 : kD 76 = 7 := rfl
theorem kq_77 : kD 77 = 1060 := rfl
theorem kq_78 : kD 78 = 10 := rfl
theorem kq_79 : kD 79 = 116 := rfl
theorem kq_80 : kD 80 = 116 := rfl
theorem kq_81 : kD 81 = 116 := rfl
theorem kq_82 : kD 82 = 116 := rfl
theorem kq_83 : kD 83 = 116 := rfl
theorem kq_84 : kD 84 = 116 := rfl
theorem kq_85 : kD 85 = 140 := rfl
theorem kq_86 : kD 86 = 164 := rfl
theorem kq_87 : kD 87 = 160 := rfl
theorem kq_88 : kD 88 = 160 := rfl
theorem kq_89 : kD 89 = 160 := rfl
theorem kq_90 : kD 90 = 120 := rfl
theorem kq_91 : kD 91 = 116 := rfl
theorem kq_92 : kD 92 = 200 := rfl
theorem kq_93 : kD 93 = 130 := rfl
theorem kq_94 : kD 94 = 500 := rfl
theorem kq_95 : kD 95 = 111 := rfl
theorem kq_96 : kD 96 = 106 := rfl
theorem kq_97 : kD 97 = 106 := rfl
theorem kq_98 : kD 98 = 1360 := rfl
theorem kq_99 : kD 99 = 1060 := rfl
theorem kk_0_1 {k : Nat} (h : kD k = 0) : kD (k + 1) = 1 := by
  have h0 : ∀ k, k < 100 → kD k = 0 → kD (k + 1) = 1 := by decide +kernel
  exact h0 k (kD_lt h (by decide)) h
theorem kk_0_2 {k : Nat} (h : kD k = 0) : kD (k + 2) = 5 := by
  have h0 : ∀ k, k < 100 → kD k = 0 → kD (k + 2) = 5 := by decide +kernel
  exact h0 k (kD_lt h (by decide)) h
theorem kk_2_1 {k : Nat} (h : kD k = 2) : kD (k + 1) = 4 := by
  have h0 : ∀ k, k < 100 → kD k = 2 → kD (k + 1) = 4 := by decide +kernel
  exact h0 k (kD_lt h (by decide)) h
theorem kk_2_3 {k : Nat} (h : kD k = 2) : kD (k + 3) = 4 := by
  have h0 : ∀ k, k < 100 → kD k = 2 → kD (k + 3) = 4 := by decide +kernel
  exact h0 k (kD_lt h (by decide)) h
theorem kk_2_5 {k : Nat} (h : kD k = 2) : kD (k + 5) = 4 := by
  have h0 : ∀ k, k < 100 → kD k = 2 → kD (k + 5) = 4 := by decide +kernel
  exact h0 k (kD_lt h (by decide)) h
theorem kk_2_7 {k : Nat} (h : kD k = 2) : kD (k + 7) = 4 := by
  have h0 : ∀ k, k < 100 → kD k = 2 → kD (k + 7) = 4 := by decide +kernel
  exact h0 k (kD_lt h (by decide)) h
theorem kk_3_1 {k : Nat} (h : kD k = 3) : kD (k + 1) = 4 := by
  have h0 : ∀ k, k < 100 → kD k = 3 → kD (k + 1) = 4 := by decide +kernel
  exact h0 k (kD_lt h (by decide)) h
theorem kk_3_3 {k : Nat} (h : kD k = 3) : kD (k + 3) = 4 := by
  have h0 : ∀ k, k < 100 → kD k = 3 → kD (k + 3) = 4 := by decide +kernel
  exact h0 k (kD_lt h (by decide)) h
theorem kk_4_1 {k : Nat} (h : kD k = 4) : kD (k + 1) = 100 + aL (k + 1) ∧ aL (k + 1) < 900 := by
  have h0 : ∀ k, k < 100 → kD k = 4 → kD (k + 1) = 100 + aL (k + 1) ∧ aL (k + 1) < 900 := by decide +kernel
  exact h0 k (kD_lt h (by decide)) h
theorem kk_6_1 {k : Nat} (h : kD k = 6) : kD (k + 1) = 0 := by
  have h0 : ∀ k, k < 100 → kD k = 6 → kD (k + 1) = 0 := by decide +kernel
  exact h0 k (kD_lt h (by decide)) h
theorem kk_6_4 {k : Nat} (h : kD k = 6) : kD (k + 4) = 3 := by
  have h0 : ∀ k, k < 100 → kD k = 6 → kD (k + 4) = 3 := by decide +kernel
  exact h0 k (kD_lt h (by decide)) h
theorem kk_6_9 {k : Nat} (h : kD k = 6) : kD (k + 9) = 2 := by
  have h0 : ∀ k, k < 100 → kD k = 6 → kD (k + 9) = 2 := by decide +kernel
  exact h0 k (kD_lt h (by decide)) h
theorem kk_6_18 {k : Nat} (h : kD k = 6) : kD (k + 18) = 4 := by
  have h0 : ∀ k, k < 100 → kD k = 6 → kD (k + 18) = 4 := by decide +kernel
  exact h0 k (kD_lt h (by decide)) h
theorem kk_6_20 {k : Nat} (h : kD k = 6) : kD (k + 20) = 4 := by
  have h0 : ∀ k, k < 100 → kD k = 6 → kD (k + 20) = 4 := by decide +kernel
  exact h0 k (kD_lt h (by decide)) h
theorem kk_6_22 {k : Nat} (h : kD k = 6) : kD (k + 22) = 4 := by
  have h0 : ∀ k, k < 100 → kD k = 6 → kD (k + 22) = 4 := by decide +kernel
  exact h0 k (kD_lt h (by decide)) h
theorem kk_6_24 {k : Nat} (h : kD k = 6) : kD (k + 24) = 4 := by
  have h0 : ∀ k, k < 100 → kD k = 6 → kD (k + 24) = 4 := by decide +kernel
  exact h0 k (kD_lt h (by decide)) h
theorem kk_7_1 {k : Nat} (h : kD k = 7) : kD (k + 1) = 1060 := by
  have h0 : ∀ k, k < 100 → kD k = 7 → kD (k + 1) = 1060 := by decide +kernel
  exact h0 k (kD_lt h (by decide)) h
theorem kk_8_1 {k : Nat} (h : kD k = 8) : kD (k + 1) = 4 := by
  have h0 : ∀ k, k < 100 → kD k = 8 → kD (k + 1) = 4 := by decide +kernel
  exact h0 k (kD_lt h (by decide)) h
theorem kk_8_3 {k : Nat} (h : kD k = 8) : kD (k + 3) = 4 := by
  have h0 : ∀ k, k < 100 → kD k = 8 → kD (k + 3) = 4 := by decide +kernel
  exact h0 k (kD_lt h (by decide)) h
theorem kk_8_5 {k : Nat} (h : kD k = 8) : kD (k + 5) = 4 := by
  have h0 : ∀ k, k < 100 → kD k = 8 → kD (k + 5) = 4 := by decide +kernel
  exact h0 k (kD_lt h (by decide)) h
theorem kk_8_7 {k : Nat} (h : kD k = 8) : kD (k + 7) = 4 := by
  have h0 : ∀ k, k < 100 → kD k = 8 → kD (k + 7) = 4 := by decide +kernel
  exact h0 k (kD_lt h (by decide)) h
theorem fj_0_0 : (fD 0)[0]? = some (none) := rfl
theorem fj_0_1 : (fD 0)[1]? = some (none) := rfl
theorem fj_0_2 : (fD 0)[2]? = some (none) := rfl
theorem fj_0_3 : (fD 0)[3]? = some (none) := rfl
theorem fj_0_4 : (fD 0)[4]? = some (none) := rfl
theorem fj_0_5 : (fD 0)[5]? = some (none) := rfl
theorem fj_0_6 : (fD 0)[6]? = some (none) := rfl
theorem fj_0_7 : (fD 0)[7]? = some (none) := rfl
theorem fj_0_8 : (fD 0)[8]? = some (none) := rfl
theorem fj_0_9 : (fD 0)[9]? = some (some 1) := rfl
theorem fj_0_10 : (fD 0)[10]? = some (some 2) := rfl
theorem fj_1_0 : (fD 1)[0]? = some (none) := rfl
theorem fj_1_1 : (fD 1)[1]? = some (none) := rfl
theorem fj_1_2 : (fD 1)[2]? = some (none) := rfl
theorem fj_1_3 : (fD 1)[3]? = some (none) := rfl
theorem fj_1_4 : (fD 1)[4]? = some (none) := rfl
theorem fj_2_0 : (fD 2)[0]? = some (some 1) := rfl
theorem fj_2_1 : (fD 2)[1]? = some (some 3) := rfl
theorem fj_2_2 : (fD 2)[2]? = some (some 5) := rfl
theorem fj_2_3 : (fD 2)[3]? = some (some 7) := rfl
theorem fj_3_0 : (fD 3)[0]? = some (some 1) := rfl
theorem fj_3_1 : (fD 3)[1]? = some (some 3) := rfl
theorem fj_4_0 : (fD 4)[0]? = some (some 1) := rfl
theorem fj_4_1 : (fD 4)[1]? = some (none) := rfl
theorem fj_5_0 : (fD 5)[0]? = some (none) := rfl
theorem fj_5_1 : (fD 5)[1]? = some (none) := rfl
theorem fj_5_2 : (fD 5)[2]? = some (none) := rfl
theorem fj_5_3 : (fD 5)[3]? = some (none) := rfl
theorem fj_5_4 : (fD 5)[4]? = some (none) := rfl
theorem fj_5_5 : (fD 5)[5]? = some (none) := rfl
theorem fj_6_0 : (fD 6)[0]? = some (some 1) := rfl
theorem fj_6_1 : (fD 6)[1]? = some (some 4) := rfl
theorem fj_6_2 : (fD 6)[2]? = some (some 9) := rfl
theorem fj_6_3 : (fD 6)[3]? = some (some 18) := rfl
theorem fj_6_4 : (fD 6)[4]? = some (some 20) := rfl
theorem fj_6_5 : (fD 6)[5]? = some (some 22) := rfl
theorem fj_6_6 : (fD 6)[6]? = some (some 24) := rfl
theorem fj_7_0 : (fD 7)[0]? = some (none) := rfl
theorem fj_7_1 : (fD 7)[1]? = some (none) := rfl
theorem fj_7_2 : (fD 7)[2]? = some (some 1) := rfl
theorem fj_8_0 : (fD 8)[0]? = some (some 1) := rfl
theorem fj_8_1 : (fD 8)[1]? = some (some 3) := rfl
theorem fj_8_2 : (fD 8)[2]? = some (some 5) := rfl
theorem fj_8_3 : (fD 8)[3]? = some (some 7) := rfl
theorem fj_8_4 : (fD 8)[4]? = some (none) := rfl
theorem fj_9_0 : (fD 9)[0]? = some (some 1) := rfl
theorem fj_9_1 : (fD 9)[1]? = some (some 27) := rfl
theorem fj_9_2 : (fD 9)[2]? = some (none) := rfl
theorem fj_9_3 : (fD 9)[3]? = some (some 53) := rfl
theorem fj_9_4 : (fD 9)[4]? = some (some 56) := rfl
theorem fj_9_5 : (fD 9)[5]? = some (some 65) := rfl
theorem fj_10_0 : (fD 10)[0]? = some (none) := rfl
theorem fj_10_1 : (fD 10)[1]? = some (none) := rfl
theorem fj_10_2 : (fD 10)[2]? = some (none) := rfl
theorem fj_10_3 : (fD 10)[3]? = some (none) := rfl
theorem fj_10_4 : (fD 10)[4]? = some (none) := rfl
theorem fj_10_5 : (fD 10)[5]? = some (none) := rfl
theorem fj_10_6 : (fD 10)[6]? = some (none) := rfl
theorem fj_10_7 : (fD 10)[7]? = some (some 1) := rfl
theorem fj_10_8 : (fD 10)[8]? = some (some 2) := rfl
theorem fj_10_9 : (fD 10)[9]? = some (some 3) := rfl
theorem fj_10_10 : (fD 10)[10]? = some (some 4) := rfl
theorem fj_10_11 : (fD 10)[11]? = some (some 5) := rfl
theorem fj_10_12 : (fD 10)[12]? = some (some 6) := rfl
theorem fj_10_13 : (fD 10)[13]? = some (none) := rfl
theorem fj_10_14 : (fD 10)[14]? = some (none) := rfl
theorem fj_10_15 : (fD 10)[15]? = some (some 7) := rfl
theorem fj_10_16 : (fD 10)[16]? = some (none) := rfl
theorem fj_10_17 : (fD 10)[17]? = some (some 8) := rfl
theorem fj_10_18 : (fD 10)[18]? = some (none) := rfl
theorem fj_10_19 : (fD 10)[19]? = some (some 9) := rfl
theorem fj_10_20 : (fD 10)[20]? = some (some 10) := rfl
theorem fj_10_21 : (fD 10)[21]? = some (some 11) := rfl
theorem fj_10_22 : (fD 10)[22]? = some (none) := rfl
theorem fj_10_23 : (fD 10)[23]? = some (none) := rfl
theorem fj_10_24 : (fD 10)[24]? = some (none) := rfl
theorem fj_10_25 : (fD 10)[25]? = some (none) := rfl
theorem fj_10_26 : (fD 10)[26]? = some (none) := rfl
theorem fj_10_27 : (fD 10)[27]? = some (some 12) := rfl
theorem fj_10_28 : (fD 10)[28]? = some (none) := rfl
theorem fj_10_29 : (fD 10)[29]? = some (some 13) := rfl
theorem fj_10_30 : (fD 10)[30]? = some (none) := rfl
theorem fj_10_31 : (fD 10)[31]? = some (some 14) := rfl
theorem fj_10_32 : (fD 10)[32]? = some (none) := rfl
theorem fj_10_33 : (fD 10)[33]? = some (none) := rfl
theorem fj_10_34 : (fD 10)[34]? = some (some 15) := rfl
theorem fj_10_35 : (fD 10)[35]? = some (some 16) := rfl
theorem fj_10_36 : (fD 10)[36]? = some (none) := rfl
theorem fj_10_37 : (fD 10)[37]? = some (some 17) := rfl
theorem fj_10_38 : (fD 10)[38]? = some (some 18) := rfl
theorem fj_10_39 : (fD 10)[39]? = some (some 19) := rfl
theorem fj_10_40 : (fD 10)[40]? = some (some 20) := rfl
theorem fj_10_41 : (fD 10)[41]? = some (some 21) := rfl
