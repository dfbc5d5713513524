def rkl : List (Nat × Nat) := [(2, 9), (2, 10), (1, 0), (6, 0), (5, 0), (8, 0), (5, 1), (1, 1), (11, 0), (10, 0), (13, 0), (10, 1), (15, 0), (10, 2), (17, 0), (10, 3), (1, 2), (19, 0), (1, 3), (21, 0), (1, 4), (23, 0), (1, 5), (25, 0), (1, 6), (0, 0), (28, 9), (28, 10), (27, 0), (32, 0), (31, 0), (34, 0), (31, 1), (27, 1), (37, 0), (36, 0), (39, 0), (36, 1), (41, 0), (36, 2), (43, 0), (36, 3), (27, 2), (45, 0), (27, 3), (47, 0), (27, 4), (49, 0), (27, 5), (51, 0), (27, 6), (0, 1), (53, 9), (53, 10), (0, 3), (57, 0), (56, 0), (59, 0), (56, 1), (61, 0), (56, 2), (63, 0), (56, 3), (0, 4), (66, 2), (65, 0), (68, 2), (65, 1), (70, 2), (65, 2), (72, 2), (65, 3), (74, 2), (65, 4), (76, 2), (65, 5), (0, 5), (78, 7), (78, 8), (78, 9), (78, 10), (78, 11), (78, 12), (78, 15), (78, 17), (78, 19), (78, 20), (78, 21), (78, 27), (78, 29), (78, 31), (78, 34), (78, 35), (78, 37), (78, 38), (78, 39), (78, 40), (78, 41)]
/-! constructors: rules that make cells and set their references once -/
def zr (M : Mm) (k : Nat) : Mm := (fun q => if q = k then (fun _ => 0) else M.1 q, fun q => if q = k then (fun _ => 0) else M.2 q)
def iniT (t : Nat) (q j : Nat) : Bool := !((rkl.drop t).contains (q, j))
theorem rkl_nd : rkl.Nodup := by decide +kernel
theorem ini_step {t k j0 : Nat} (h : rkl[t]? = some (k, j0)) (q j : Nat) : iniT (t + 1) q j = (if q = k ∧ j = j0 then true else iniT t q j) := by
  have hlt : t < rkl.length := (List.getElem?_eq_some_iff.mp h).1
  have hg : rkl[t] = (k, j0) := (List.getElem?_eq_some_iff.mp h).2
  have e : rkl.drop t = (k, j0) :: rkl.drop (t + 1) := by rw [List.drop_eq_getElem_cons hlt, hg]
  have hn : ((k, j0) :: rkl.drop (t + 1)).Nodup := by rw [← e]; exact (List.drop_sublist t rkl).nodup rkl_nd
  have hm := (List.nodup_cons.mp hn).1
  unfold iniT
  rw [e, List.contains_cons]
  by_cases hq : q = k ∧ j = j0
  · obtain ⟨rfl, rfl⟩ := hq
    rw [if_pos ⟨rfl, rfl⟩]
    simpa using hm
  · rw [if_neg hq]
    have : ((q, j) == (k, j0)) = false := by
      simp only [beq_eq_false_iff_ne, ne_eq, Prod.mk.injEq]
      exact hq
    rw [this, Bool.false_or]
theorem zr_ne (M : Mm) {k q : Nat} (h : q ≠ k) : (zr M k).1 q = M.1 q ∧ (zr M k).2 q = M.2 q := ⟨if_neg h, if_neg h⟩
theorem WD.push {G : KG} {n : Nat} {ini : Nat → Nat → Bool} {M : Mm} {H H' : Heap} (h : WD G n ini M H) (hz : H'.size = H.size + 1) (ho : ∀ q, q < H.size → H'[q]? = H[q]?) (he : va_at G.1 cls (k0 G + n, ce G ini (zr M n) n) H') : WD G (n + 1) ini (zr M n) H' := by
  refine ⟨by rw [hz, h.1]; omega, fun q hq => ?_⟩
  by_cases hk : q = n
  · subst hk; exact he
  · rw [ce_cg (zr_ne M hk).1 (zr_ne M hk).2 rfl]
    exact (h.2 q (by omega)).kept (ho _ (by show k0 G + q < H.size; rw [h.1]; omega))
theorem va_S.push {A : Nat → Prop} {H0 H H' : Heap} {locs : List Loc} (h : va_S A H0 H locs) (hz : H'.size = H.size + 1) (ho : ∀ q, q < H.size → H'[q]? = H[q]?) : va_S A H0 H' locs :=
  ⟨Nat.le_trans h.1 (by omega), fun q h1 h2 => (ho q (Nat.lt_of_lt_of_le h1 h.1)).trans (h.2.1 q h1 h2), h.2.2⟩
theorem arrV_cg {cA : ClassId} {N : Nat} {f g : Nat → Value} (h : ∀ j, j < N → f j = g j) : arrV cA N f = arrV cA N g := by
  unfold arrV
  congr 1
  apply Array.ext
  · simp
  · intro j h1 h2
    simpa using h j (by simpa using h1)
def FPR (own : String) (idx ci j : Nat) (ty : FieldType) : Prop := ∃ (C : String) (T : u_T) (N : Nat), cls[ci]? = some (C, T, N) ∧ j < N ∧ Cond.fieldLink own idx (T j).1 (T j).2.1 (T j).2.2.1 ∈ gtb ∧ (T j).2.2.2 = true ∧ (T j).1 = own ∧ parseFieldDescriptor (T j).2.2.1 = some ty
def IX (own : String) (idx : Nat) (y : MethodName) : Prop := Cond.methodLink own idx y ∈ gtb ∧ Cond.instanceMethod y ∈ gtb
def IN (own : String) (idx : Nat) (y : MethodName) (host : String) : Prop := (own, idx, y, host) ∈ ntb ∧ Cond.instanceMethod y ∈ gtb
section CTORS
variable {α β : Type} {X : KX} {d dy : MD} {Q : α → Mm → State → Prop} {pc pc' idx na : Nat} {ls : List (Option Value)} {st st0 : List Value} {c s n n' t k ci N c' s' j : Nat} {ini : Nat → Nat → Bool} {M : Mm} {o : Option (α × Mm)} {fM : Mm → Option (α × Mm)} {C : String} {T : u_T} {x : Int32} {y : MethodName}
theorem g_new (hd : dc d.2.1 pc pc' (.new idx) 3) (hcl : cls[ci]? = some (C, T, N)) (hw : Cond.classLink d.1 idx C ∈ gtb ∧ Cond.instantiable C N ∈ gtb ∧ Cond.initialized C ∈ gtb) (hk : kD n = ci) (ty : Nat → FieldType) (hty : ∀ k, k < N → parseFieldDescriptor (T k).2.2.1 = some (ty k))
    (hdv : ∀ j, j < N → defaultValue (ty j) = (match (fD ci).getD j none with | none => Value.int 0 | some _ => Value.null)) (hini : ∀ j, j < N → (fD ci).getD j none ≠ none → ini n j = false) (hc' : c + 1 = c') (hs' : s + N = s') (hn' : n + 1 = n') (hr : c' ≤ (kr X).cells ∧ s' ≤ (kr X).slots)
    (kk : ∀ M1, GO X d Q pc' ls (rf (kG X) n :: st) (c', s', n', ini) M1 (fM M1)) : GO X d Q pc ls st (c, s, n, ini) M (lT (zr M n) fM) := by
  obtain ⟨hd, rfl⟩ := hd
  subst hc'; subst hs'; subst hn'
  intro K r M' ho H locs lsA hW hS hL hc hs
  have hts := K.2.2.2.2.2.1
  have hKn := K.2.2.2.2.2.2.2.1.1.1 ci _ hcl
  obtain ⟨hlen, h11⟩ := fD_len _ _ _ _ hcl
  refine W.newcK K.1 K.2.1 K.2.2.2.2.1 (hts _ hw.1) (hts _ hw.2.1) (hts _ hw.2.2) rfl hd hr.1 hr.2 hKn.2.1 rfl fun H1 kC hkC e1 z1 o1 => ?_
  have hsz : H.size = k0 (kG X) + n := hW.1
  rw [hsz]
  refine kk _ K r M' ho H1 locs lsA (hW.push z1 o1 ?_) (hS.push z1 o1) hL hr.1 hr.2
  show va_at (kG X).1 cls (k0 (kG X) + n, ce (kG X) ini (zr M n) n) H1
  rw [ce_obj (by omega)]
  subst hk
  rw [← hsz]
  refine ⟨_, hcl, (u_born ty hts (cK _ _ _ _ hcl).1 hKn hkC e1 hty).to fun j hj => ?_⟩
  rw [hdv j hj, fvs_V (by rw [hlen]; exact hj)]
  have hi := hini j hj
  cases hg : (fD (kD n)).getD j none with
  | none => simp only [fval, zr, if_true]
  | some z =>
    rw [hg] at hi
    simp [fval, hi]
theorem g_newI (hd : dc d.2.1 pc pc' (.newarray .int) 2) (hw : Cond.arrayClass .int ∈ gtb) (hk : kD n = 100 + N) (hN : N < 900) (hx : ¬ x < 0 ∧ x.toNatClampNeg = N) (hc' : c + 1 = c') (hs' : s + N = s') (hn' : n + 1 = n') (hr : c' ≤ (kr X).cells ∧ s' ≤ (kr X).slots)
    (kk : ∀ M1, GO X d Q pc' ls (rf (kG X) n :: st) (c', s', n', ini) M1 (fM M1)) : GO X d Q pc ls (.int x :: st) (c, s, n, ini) M (lT (zr M n) fM) := by
  obtain ⟨hd, rfl⟩ := hd
  subst hc'; subst hs'; subst hn'
  intro K r M' ho H locs lsA hW hS hL hc hs
  have hts := K.2.2.2.2.2.1
  have hKv := K.2.2.2.2.2.2.2.1.1
  refine va_newaK (atype := .int) K.1 K.2.1 (hts _ hw) rfl hd rfl hx.1 hx.2 (by have : N * componentBytes (newarray.typeOf .int) = N * 4 := rfl; rw [this]; omega) hr.1 hr.2 rfl fun H1 cA e1 z1 o1 _ hNm => ?_
  have hcA : cA = (kG X).2.1 := Option.some.inj (hNm.symm.trans (hKv.2 0 _ rfl).2)
  have hsz : H.size = k0 (kG X) + n := hW.1
  rw [hsz]
  refine kk _ K r M' ho H1 locs lsA (hW.push z1 o1 ?_) (hS.push z1 o1) hL hr.1 hr.2
  rw [ce_I hk hN]
  show H1[k0 (kG X) + n]? = some (vp_cell _ _)
  rw [← hsz, e1, hcA, vp_cell_i]
  refine congrArg some (arrV_cg fun j hj => ?_)
  simp only [zr, if_true]
  rfl
theorem g_newJ (hd : dc d.2.1 pc pc' (.newarray .long) 2) (hw : Cond.arrayClass .long ∈ gtb) (hk : kD n = 1000 + N) (hN : N < 900) (hx : ¬ x < 0 ∧ x.toNatClampNeg = N) (hc' : c + 1 = c') (hs' : s + N = s') (hn' : n + 1 = n') (hr : c' ≤ (kr X).cells ∧ s' ≤ (kr X).slots)
    (kk : ∀ M1, GO X d Q pc' ls (rf (kG X) n :: st) (c', s', n', ini) M1 (fM M1)) : GO X d Q pc ls (.int x :: st) (c, s, n, ini) M (lT (zr M n) fM) := by
  obtain ⟨hd, rfl⟩ := hd
  subst hc'; subst hs'; subst hn'
  intro K r M' ho H locs lsA hW hS hL hc hs
  have hts := K.2.2.2.2.2.1
  have hKv := K.2.2.2.2.2.2.2.1.1
  refine va_newaK (atype := .long) K.1 K.2.1 (hts _ hw) rfl hd rfl hx.1 hx.2 (by have : N * componentBytes (newarray.typeOf .long) = N * 8 := rfl; rw [this]; omega) hr.1 hr.2 rfl fun H1 cA e1 z1 o1 _ hNm => ?_
  have hcA : cA = (kG X).2.2.1 := Option.some.inj (hNm.symm.trans (hKv.2 1 _ rfl).2)
  have hsz : H.size = k0 (kG X) + n := hW.1
  rw [hsz]
  refine kk _ K r M' ho H1 locs lsA (hW.push z1 o1 ?_) (hS.push z1 o1) hL hr.1 hr.2
  rw [ce_J hk]
  show H1[k0 (kG X) + n]? = some (vp_cell _ _)
  rw [← hsz, e1, hcA, vp_cell_l]
  refine congrArg some (arrV_cg fun j hj => ?_)
  simp only [zr, if_true]
  rfl
theorem g_newT (hd : dc d.2.1 pc pc' (.anewarray idx) 3) (hw : Cond.classLink d.1 idx "PressSheets$Tape" ∈ gtb) (hk : kD n = 50) (hx : ¬ x < 0 ∧ x.toNatClampNeg = 6) (hini : ∀ j, j < 6 → ini n j = false) (hc' : c + 1 = c') (hs' : s + 6 = s') (hn' : n + 1 = n') (hr : c' ≤ (kr X).cells ∧ s' ≤ (kr X).slots)
    (kk : ∀ M1, GO X d Q pc' ls (rf (kG X) n :: st) (c', s', n', ini) M1 (fM M1)) : GO X d Q pc ls (.int x :: st) (c, s, n, ini) M (lT (zr M n) fM) := by
  obtain ⟨hd, rfl⟩ := hd
  subst hc'; subst hs'; subst hn'
  obtain ⟨hx1, hx2⟩ := hx
  intro K r M' ho H locs lsA hW hS hL hc hs
  have hts := K.2.2.2.2.2.1
  have hKV := K.2.2.2.2.2.2.2.1
  refine W.anew K.1 K.2.1 K.2.2.2.2.1 (hts _ hw) (va_AO.use hKV.2.2) rfl hd rfl hx1 (by rw [hx2]; decide) hr.1 (by rw [hx2]; exact hr.2) fun cA kA comp f1 f2 f3 f4 => ?_
  rw [hx2]
  have hcA : cA = (kG X).2.2.2.1 := by
    obtain ⟨kB, compB, -, -, -, h4⟩ := (hKV.1.2 2 _ rfl).2
    exact Option.some.inj (f1.symm.trans h4)
  generalize hH1 : H.push ({ cls := cA, slots := Array.replicate 6 .null, vm := .none } : Cell) = H1
  have z1 : H1.size = H.size + 1 := by rw [← hH1, Array.size_push]
  have e1 : H1[H.size]? = some (arrV cA 6 (fun _ => .null)) := by rw [← hH1, Array.getElem?_push_size, ← arrV_new]
  have o1 : ∀ q : Nat, q < H.size → H1[q]? = H[q]? := fun q hq => by rw [← hH1, Array.getElem?_push, if_neg (Nat.ne_of_lt hq)]
  have hsz : H.size = k0 (kG X) + n := hW.1
  rw [hsz]
  refine kk _ K r M' ho H1 locs lsA (hW.push z1 o1 ?_) (hS.push z1 o1) hL hr.1 hr.2
  rw [ce_T hk]
  show H1[k0 (kG X) + n]? = some (vp_cell _ _)
  rw [← hsz, e1, hcA, vp_cell_q]
  refine congrArg some (arrV_cg fun j hj => ?_)
  simp [hini j hj, va_rf]
theorem g_putR {ty : FieldType} {z : Nat} (hI : (kt X).name = "<init>") (hd : dc d.2.1 pc pc' (.putfield idx) 3) (hf : FPR d.1 idx ci j ty) (hk : kD k = ci) (hn : k < n) (hj : (fD ci)[j]? = some (some z)) (hr : rkl[t]? = some (k, j)) (hna : ∀ v : Value, (∃ a, v = .ref a) → narrow ty v = v ∧ fits ty v = true) {kz t' : Nat} (hkz : k + z = kz) (ht' : t + 1 = t') (kk : GO X d Q pc' ls st (c, s, n, iniT t') M o) : GO X d Q pc ls (rf (kG X) kz :: rf (kG X) k :: st) (c, s, n, iniT t) M o := by
  obtain ⟨hd, rfl⟩ := hd
  obtain ⟨C, T, N, hcl, hN, hw, hfin, hdecl, hpd⟩ := hf
  subst hk; subst hkz; subst ht'
  intro K r M' ho H locs lsA hW hS hL hc hs
  have hts := K.2.2.2.2.2.1
  obtain ⟨hin, hnm, ty0, hty⟩ := cK _ _ _ _ hcl
  have hKv := K.2.2.2.2.2.2.2.1.1
  obtain ⟨hlen, h11⟩ := fD_len _ _ _ _ hcl
  have hap := va_apart (own := d.1) hts hin ty0 hty hnm hKv hcl
  have hat := hW.2 k hn
  rw [ce_obj (by omega)] at hat
  obtain ⟨r0, h1, cell, q1, q2, q3, q4⟩ := hat
  have hr0 : r0 = (C, T, N) := Option.some.inj (h1.symm.trans hcl)
  subst hr0
  obtain ⟨hSl, hfc, kC, hkC, hkind⟩ := hKv.1 _ _ hcl
  obtain ⟨cf, kf, fi, f, hi, hsl⟩ := hSl j hN
  have hlay := hts _ (hin _ (u_in_lay hN))
  unfold u_lay at hlay
  rw [if_pos hfin] at hlay
  have hst := (u_facts hfc hkC (u_lays hts hin hN) hi).1
  have hcf : (km X).cls = cf := by
    obtain ⟨_, _, c', _, _, _, -, -, hf', -, -, -, hown2, -⟩ := Cond.laysFinal_spec hlay
    have e1 : c' = cf := by have := hi.symm.trans hf'; simp at this; exact this.1.symm
    rw [hdecl] at hown2
    rw [← e1]; exact Option.some.inj (K.2.2.2.2.1.symm.trans hown2)
  have hnf := hna (rf (kG X) (k + z)) ⟨_, rfl⟩
  have h6 := u_fits hfc hkC hkind (Or.inr hlay) hi hpd hnf.1 hnf.2
  refine W.putFinK K.1 K.2.1 K.2.2.2.2.1 (hts _ hw) hi hst hcf hI (by rw [q2]; exact h6) q1 q3 (by rw [hsl]; exact k2_hasslot (q4 j hN)) rfl rfl hd fun H' e1 e2 e3 => ?_
  rw [hsl] at e1
  refine kk K r M' ho H' _ lsA (hW.put (ini' := iniT (t + 1)) e2 e3 ?_ ?_) (by rw [hsl]; exact hS.put e2 e3 (Nat.le_add_right _ _)) hL hc hs
  · rw [ce_obj (by omega)]
    have he : iniT (t + 1) k = (fun w => if w = j then true else iniT t k w) := by
      funext w
      rw [ini_step hr k w]
      by_cases hwj : w = j
      · subst hwj; simp
      · simp [hwj]
    refine ⟨_, hcl, t_OB.to (V := updV (vp_V (fvs (k0 (kG X)) (iniT t k) (M.1 k) k (fD (kD k)))) j (rf (kG X) (k + z))) ⟨_, e1, q2, q3, t_set q4 hap hN _⟩ (fun q hq => ?_)⟩
    rw [he]
    exact fvs_setR hj q (by rw [hlen]; exact hq)
  · intro q hq
    refine ce_cg rfl rfl ?_
    funext w
    rw [ini_step hr q w, if_neg (fun h => hq h.1)]
theorem g_aast (hd : dc d.2.1 pc pc' .aastore 1) (hk : kD k = 50) (hn : k < n) (hz : kD (k + 1 + 2 * j) = 7) (hzn : k + 1 + 2 * j < n) (hx : ¬ x < 0 ∧ x.toNatClampNeg = j) (hj : j < 6) (hr : rkl[t]? = some (k, j)) {kz t' : Nat} (hkz : k + 1 + 2 * j = kz) (ht' : t + 1 = t') (kk : GO X d Q pc' ls st (c, s, n, iniT t') M o) : GO X d Q pc ls (rf (kG X) kz :: .int x :: rf (kG X) k :: st) (c, s, n, iniT t) M o := by
  obtain ⟨hd, rfl⟩ := hd
  subst hkz; subst ht'
  obtain ⟨hx0, rfl⟩ := hx
  intro K r M' ho H locs lsA hW hS hL hc hs
  have hKv := K.2.2.2.2.2.2.2.1.1
  have hcl : cls[7]? = some ("PressSheets$Tape", tC7, 3) := rfl
  have hat := hW.2 k hn
  rw [ce_T hk] at hat
  have hatv := hW.2 _ hzn
  rw [ce_obj (by omega), hz] at hatv
  obtain ⟨r', hr', cellV, g1, g2, g3, -⟩ := hatv
  have hcls := (hKv.1 7 _ hcl).2
  obtain ⟨kA, comp, k1, k2, k3, -⟩ := (hKv.2 2 _ rfl).2
  have hcomp : comp = (kG X).1.1 7 := Option.some.inj (k3.symm.trans hcls.1)
  subst hcomp
  obtain ⟨kC, hkC, -⟩ := hcls.2
  refine W.aast K.1 K.2.1 hat (fun q h => by cases h) (fun h => by cases h) k1 k2 rfl hkC ⟨hx0, by show _ < (arrV _ _ _).slots.size; rw [arrV_size]; exact hj⟩ g1 (fun q h => by rw [g3] at h; cases h) (by rw [g2]; exact hkC) (by rw [g2]; exact va_assign hcls) rfl rfl hd fun H1 e z oq => ?_
  refine kk K r M' ho H1 _ lsA (hW.put (ini' := iniT (t + 1)) z oq ?_ ?_) (hS.put z oq (Nat.le_add_right _ _)) hL hc hs
  · rw [ce_T hk]
    show H1[k0 (kG X) + k]? = some (vp_cell _ _)
    rw [e, vp_cell_q, vp_cell_q, arrV_store]
    refine congrArg some (arrV_cg fun q hq => ?_)
    rw [ini_step hr k q]
    by_cases hqx : q = x.toNatClampNeg
    · subst hqx
      simp [updV, va_rf]
    · simp [updV, hqx]
  · intro q hq
    refine ce_cg rfl rfl ?_
    funext w
    rw [ini_step hr q w, if_neg (fun h => hq h.1)]
theorem g_objI (hd : dc d.2.1 pc pc' (.invokespecial idx) 3) (hw : Cond.methodLink d.1 idx objectInit ∈ gtb ∧ Cond.instanceMethod objectInit ∈ gtb ∧ Cond.code objectInit ⟨#[0xb1]⟩ 1 none ∈ gtb) (hlen : ls.length = d.2.2.1) (hR : 1 ≤ d.2.2.2.2.1 ∧ (st.map fun v => v.category).sum + 12 ≤ d.2.2.2.2.2) {Z : ZZ} (kk : GO X d Q pc' ls st Z M o) : GO X d Q pc ls (rf (kG X) k :: st) Z M o := by
  obtain ⟨hd, rfl⟩ := hd
  intro K r M' ho H locs lsA hW hS hL hc hs
  have hts := K.2.2.2.2.2.1
  refine W.objInit K.1 K.2.1 K.2.2.2.2.1 (hts _ hw.1) (hts _ hw.2.1) (hts _ hw.2.2) rfl (by obtain ⟨l, h, _⟩ := hL; rw [K.2.2.2.1]; exact h.1) rfl hd (Nat.le_trans hR.1 K.2.2.2.2.2.2.2.2.1) (by have := Nat.le_trans hR.2 K.2.2.2.2.2.2.2.2.2; show 2 * 0 + _ + 12 ≤ _; omega) ?_
  exact kk K r M' ho H locs lsA hW hS hL hc hs
variable {As : List Value} {oc : Option (Unit × Mm)} {f : Unit → Mm → Option (α × Mm)} {mc ms : Nat} {ini' : Nat → Nat → Bool}
theorem g_callI (hd : dc d.2.1 pc pc' (.invokespecial idx) 3) (hl : IX d.1 idx y) (hyn : y.name = "<init>") (hret : dy.2.2.2.1 = none) (hy : MY y dy na) (hR : dy.2.2.2.2.1 + 1 ≤ d.2.2.2.2.1 ∧ 8 + (dy.2.2.1 + 11) + dy.2.2.2.2.2 ≤ d.2.2.2.2.2)
    (hst : st0 = As.reverse ++ rf (kG X) k :: st) (hna : As.length = na) (hcat : (st.map fun v => v.category).sum ≤ 8) (hc' : c + mc = c') (hs' : s + ms = s') (hr : c' ≤ (kr X).cells ∧ s' ≤ (kr X).slots)
    (hct : ∀ M', oc = some ((), M') → CT (kl X) (kG X) y dy mc ms (rf (kG X) k :: As) n ini M none n' ini' M')
    (kk : ∀ M', oc = some ((), M') → GO X d Q pc' ls st (c', s', n', ini') M' (f () M')) : GO X d Q pc ls st0 (c, s, n, ini) M (bD oc f) := by
  obtain ⟨hd, rfl⟩ := hd
  subst hst; subst hc'; subst hs'
  intro K r M' ho H locs lsA hW hS hL hc hs
  obtain ⟨rc, Mc, h1, h2⟩ := bD_some ho
  have hts := K.2.2.2.2.2.1
  have hKV := K.2.2.2.2.2.2.2.1
  have cb : CallB (kr X) (ks X) (ka X) d.1 idx y dy.2.1 dy.2.2.1 none (WS y dy) (RM dy mc ms) mc ms na := by
    have := callB_ok K hy hl.1 hR mc ms
    rwa [hret] at this
  refine g_callK (Z := (c, s, n, ini)) (Z' := (c + mc, s + ms, n', ini')) (rv := rvU) (rc := ()) (va_runI (As := As) (rest := st) ⟨K.1, K.2.1, K.2.2.2.1, K.2.2.2.2.1, hts⟩ (hct Mc h1) ⟨cb, hyn, hts _ hl.2⟩ ⟨blind_WD, fun U hU hV => ⟨rfl, by rw [hU]; exact hW, hKV.moved hV⟩⟩ rfl hna (by obtain ⟨l, h, _⟩ := hL; exact h.1) rfl (lv_room hcat) hd hr) hS ⟨rfl, rfl⟩ fun H1 locs1 hW1 hS1 => ?_
  exact kk Mc h1 K r M' h2 H1 locs1 lsA hW1 hS1 hL hr.1 hr.2
theorem g_callIN {host : String} (hd : dc d.2.1 pc pc' (.invokespecial idx) 3) (hl : IN d.1 idx y host) (hyn : y.name = "<init>") (hret : dy.2.2.2.1 = none) (hy : MY y dy na) (hR : dy.2.2.2.2.1 + 1 ≤ d.2.2.2.2.1 ∧ 8 + (dy.2.2.1 + 11) + dy.2.2.2.2.2 ≤ d.2.2.2.2.2)
    (hst : st0 = As.reverse ++ rf (kG X) k :: st) (hna : As.length = na) (hcat : (st.map fun v => v.category).sum ≤ 8) (hc' : c + mc = c') (hs' : s + ms = s') (hr : c' ≤ (kr X).cells ∧ s' ≤ (kr X).slots)
    (hct : ∀ M', oc = some ((), M') → CT (kl X) (kG X) y dy mc ms (rf (kG X) k :: As) n ini M none n' ini' M')
    (kk : ∀ M', oc = some ((), M') → GO X d Q pc' ls st (c', s', n', ini') M' (f () M')) : GO X d Q pc ls st0 (c, s, n, ini) M (bD oc f) := by
  obtain ⟨hd, rfl⟩ := hd
  subst hst; subst hc'; subst hs'
  intro K r M' ho H locs lsA hW hS hL hc hs
  obtain ⟨rc, Mc, h1, h2⟩ := bD_some ho
  have hts := K.2.2.2.2.2.1
  have hKV := K.2.2.2.2.2.2.2.1
  have cb : va_CN (kr X) (ks X) (ka X) d.1 idx y host dy.2.1 dy.2.2.1 none (WS y dy) (RM dy mc ms) mc ms na := by
    have := callN_ok K hy hl.1 hR mc ms
    rwa [hret] at this
  refine g_callK (Z := (c, s, n, ini)) (Z' := (c + mc, s + ms, n', ini')) (rv := rvU) (rc := ()) (va_runIN (As := As) (rest := st) ⟨K.1, K.2.1, K.2.2.2.1, K.2.2.2.2.1, hts⟩ (hct Mc h1) ⟨cb, hyn, hts _ hl.2⟩ ⟨blind_WD, fun U hU hV => ⟨rfl, by rw [hU]; exact hW, hKV.moved hV⟩⟩ rfl hna (by obtain ⟨l, h, _⟩ := hL; exact h.1) rfl (lv_room hcat) hd hr) hS ⟨rfl, rfl⟩ fun H1 locs1 hW1 hS1 => ?_
  exact kk Mc h1 K r M' h2 H1 locs1 lsA hW1 hS1 hL hr.1 hr.2
theorem CT.ofI {l : Launch} {G : KG} {av : List Value} {M' : Mm} {o : Option (Unit × Mm)} (m : Nat)
    (hy : plainName y.cls = true) (hown : d.1 = y.cls) (hargs : (lg_sl av).length ≤ d.2.2.1) (hls : ls = ent av ++ List.replicate m none) (ho : o = some ((), M'))
    (body : ∀ X : KX, kl X = l → kG X = G → (kt X).name = y.name → c' ≤ (kr X).cells → s' ≤ (kr X).slots → GO X d (QE X rvU (c', s', n', ini')) 0 ls [] (0, 0, n, ini) M o) : CT l G y d c' s' av n ini M none n' ini' M' := by
  refine Met.ofW (cc := d.2.1) (maxL := d.2.2.1) (ret := d.2.2.2.1) hy rfl ?_
  intro p e s m0 args below meth c s₁ B hml hv
  obtain ⟨rfl, hW, hK⟩ := hv
  have hts := atoms_spec (ws := WS y d) B.pre
  have hl := lv_entry av hargs
  have he : entryFrame m0 av.toArray d.2.2.1 = F0 m0 0 ((lg_sl av ++ List.replicate (d.2.2.1 - (lg_sl av).length) Slot.unset).toArray) [] := by rw [lg_entry_eq]
  rw [he]
  have hb := body ((p, l, e, (headSpec (WS y d) (RM d c' s')).room, s, m0), (av.toArray, below, meth, c), G) rfl rfl ((name_of_methodNamed B.named B.method).1) (Nat.le_refl _) (Nat.le_refl _)
  exact hb ⟨B.exec, B.bytes, B.returns, hml, by rw [hown]; exact findClass_of_methodNamed B.named, fun w hw => hts w (List.mem_cons_of_mem _ hw), B.notSynchronized, hK, Nat.le_refl _, Nat.le_refl _⟩ () M' ho s.heap [] _ hW va_S.rf ⟨_, hl, fun k v hk => by rw [hls] at hk; have := ent_ok av m 0 k v hk; rwa [Nat.zero_add] at this⟩ (Nat.zero_le _) (Nat.zero_le _)
end CTORS

theorem g_iastK {α : Type} {X : KX} {d : MD} {Q : α → Mm → State → Prop} {pc pc' : Nat} {ls : List (Option Value)} {st : List Value} {Z : ZZ} {M : Mm} {x y : Int32} {i k n : Nat} {fM : Mm → Option (α × Mm)} (hd : dc d.2.1 pc pc' .iastore 1) (hk : kD k = 100 + n) (hr : n < 900) (hn : k < Z.2.2.1) (hin : ib x n = true) (hx : x.toNatClampNeg = i) (kk : ∀ M1, GO X d Q pc' ls st Z M1 (fM M1)) : GO X d Q pc ls (.int y :: .int x :: rf (kG X) k :: st) Z M (lT (wI M k i y) fM) := by
  subst hx
  exact g_iast hd hk hr hn (kk _) (ib_in hin)
theorem lT_ex {γ : Type} {a : γ} {f : γ → Option (Unit × Mm)} (h : ∃ M', f a = some ((), M')) : ∃ M', lT a f = some ((), M') := h
theorem bD_ex {x : Option (Unit × Mm)} {f : Unit → Mm → Option (Unit × Mm)} (h : ∃ M', x = some ((), M')) (h2 : ∀ M1, ∃ M', f () M1 = some ((), M')) : ∃ M', bD x f = some ((), M') := by
  obtain ⟨M1, rfl⟩ := h
  exact h2 M1
theorem fb3 (k : Nat) (M : Mm) : f_Job_foldBy k (1 : Int32) (0 : Int32) M = some ((), wI (wI (wI (wI (wI M k 0 1) k 1 0) k 2 1) k 3 1) k 2 2) := by
  unfold f_Job_foldBy
  simp only [lT, fuel]
  rw [f_Job_foldBy_22_s]
  simp [lT, bD, wI, upd, f_Job_figure, f_Job_isAcross]
  unfold f_Job_foldBy_64
  simp only [lT]
  rw [show (4999 : Nat) = 4998 + 1 from rfl, f_Job_foldBy_22_s]
  simp [upd]
theorem fbI (k : Nat) (M : Mm) : ∃ M', f_Job_foldBy k (1 : Int32) (0 : Int32) M = some ((), M') := ⟨_, fb3 k M⟩

theorem pY0 : ∀ k, k < 11 → parseFieldDescriptor (tC0 k).2.2.1 = some (yC0 k) := by decide +kernel
theorem dV0 : ∀ j, j < 11 → defaultValue (yC0 j) = (match (fD 0).getD j none with | none => Value.int 0 | some _ => Value.null) := by decide +kernel
theorem pY1 : ∀ k, k < 5 → parseFieldDescriptor (tC1 k).2.2.1 = some (yC1 k) := by decide +kernel
theorem dV1 : ∀ j, j < 5 → defaultValue (yC1 j) = (match (fD 1).getD j none with | none => Value.int 0 | some _ => Value.null) := by decide +kernel
theorem pY2 : ∀ k, k < 4 → parseFieldDescriptor (tC2 k).2.2.1 = some (yC2 k) := by decide +kernel
theorem dV2 : ∀ j, j < 4 → defaultValue (yC2 j) = (match (fD 2).getD j none with | none => Value.int 0 | some _ => Value.null) := by decide +kernel
theorem pY3 : ∀ k, k < 2 → parseFieldDescriptor (tC3 k).2.2.1 = some (yC3 k) := by decide +kernel
theorem dV3 : ∀ j, j < 2 → defaultValue (yC3 j) = (match (fD 3).getD j none with | none => Value.int 0 | some _ => Value.null) := by decide +kernel
theorem pY4 : ∀ k, k < 2 → parseFieldDescriptor (tC4 k).2.2.1 = some (yC4 k) := by decide +kernel
theorem dV4 : ∀ j, j < 2 → defaultValue (yC4 j) = (match (fD 4).getD j none with | none => Value.int 0 | some _ => Value.null) := by decide +kernel
theorem pY5 : ∀ k, k < 6 → parseFieldDescriptor (tC5 k).2.2.1 = some (yC5 k) := by decide +kernel
theorem dV5 : ∀ j, j < 6 → defaultValue (yC5 j) = (match (fD 5).getD j none with | none => Value.int 0 | some _ => Value.null) := by decide +kernel
theorem pY6 : ∀ k, k < 7 → parseFieldDescriptor (tC6 k).2.2.1 = some (yC6 k) := by decide +kernel
theorem dV6 : ∀ j, j < 7 → defaultValue (yC6 j) = (match (fD 6).getD j none with | none => Value.int 0 | some _ => Value.null) := by decide +kernel
theorem pY7 : ∀ k, k < 3 → parseFieldDescriptor (tC7 k).2.2.1 = some (yC7 k) := by decide +kernel
theorem dV7 : ∀ j, j < 3 → defaultValue (yC7 j) = (match (fD 7).getD j none with | none => Value.int 0 | some _ => Value.null) := by decide +kernel
theorem pY8 : ∀ k, k < 5 → parseFieldDescriptor (tC8 k).2.2.1 = some (yC8 k) := by decide +kernel
theorem dV8 : ∀ j, j < 5 → defaultValue (yC8 j) = (match (fD 8).getD j none with | none => Value.int 0 | some _ => Value.null) := by decide +kernel
theorem pY9 : ∀ k, k < 6 → parseFieldDescriptor (tC9 k).2.2.1 = some (yC9 k) := by decide +kernel
theorem dV9 : ∀ j, j < 6 → defaultValue (yC9 j) = (match (fD 9).getD j none with | none => Value.int 0 | some _ => Value.null) := by decide +kernel
theorem pY10 : ∀ k, k < 42 → parseFieldDescriptor (tC10 k).2.2.1 = some (yC10 k) := by decide +kernel
theorem dV10 : ∀ j, j < 42 → defaultValue (yC10 j) = (match (fD 10).getD j none with | none => Value.int 0 | some _ => Value.null) := by decide +kernel
theorem w_2 : ((Cond.initialized "PressSheets$State") : Cond) ∈ gtb := lw_r 2 (by decide +kernel)
theorem w_3 : ((Cond.initialized "PressSheets$Job") : Cond) ∈ gtb := lw_r 3 (by decide +kernel)
theorem w_4 : ((Cond.initialized "PressSheets$Leaf") : Cond) ∈ gtb := lw_r 4 (by decide +kernel)
theorem w_5 : ((Cond.initialized "PressSheets$Spot") : Cond) ∈ gtb := lw_r 5 (by decide +kernel)
theorem w_6 : ((Cond.initialized "PressSheets$Press") : Cond) ∈ gtb := lw_r 6 (by decide +kernel)
theorem w_7 : ((Cond.initialized "PressSheets$Row") : Cond) ∈ gtb := lw_r 7 (by decide +kernel)
theorem w_8 : ((Cond.initialized "PressSheets$Plan") : Cond) ∈ gtb := lw_r 8 (by decide +kernel)
theorem w_9 : ((Cond.initialized "PressSheets$Text") : Cond) ∈ gtb := lw_r 9 (by decide +kernel)
theorem w_10 : ((Cond.initialized "PressSheets$Tape") : Cond) ∈ gtb := lw_r 10 (by decide +kernel)
theorem w_19 : ((Cond.methodLink "PressSheets" (3 : Nat) ({ cls := "java/lang/Object", name := "<init>", desc := "()V" } : MethodName)) : Cond) ∈ gtb := lw_r 19 (by decide +kernel)
theorem w_20 : ((Cond.instanceMethod ({ cls := "java/lang/Object", name := "<init>", desc := "()V" } : MethodName)) : Cond) ∈ gtb := lw_r 20 (by decide +kernel)
theorem w_21 : (Cond.code objectInit ⟨#[0xb1]⟩ 1 none : Cond) ∈ gtb := lw_r 21 (by decide +kernel)
theorem w_22 : ((Cond.classLink "PressSheets" (9 : Nat) "PressSheets$State") : Cond) ∈ gtb := lw_r 22 (by decide +kernel)
theorem w_23 : ((Cond.instantiable "PressSheets$State" (7 : Nat)) : Cond) ∈ gtb := lw_r 23 (by decide +kernel)
theorem w_27 : ((Cond.methodLink "PressSheets$State" (3 : Nat) ({ cls := "java/lang/Object", name := "<init>", desc := "()V" } : MethodName)) : Cond) ∈ gtb := lw_r 27 (by decide +kernel)
theorem w_28 : ((Cond.classLink "PressSheets$State" (9 : Nat) "PressSheets$Job") : Cond) ∈ gtb := lw_r 28 (by decide +kernel)
theorem w_29 : ((Cond.instantiable "PressSheets$Job" (11 : Nat)) : Cond) ∈ gtb := lw_r 29 (by decide +kernel)
theorem w_33 : ((Cond.methodLink "PressSheets$Job" (3 : Nat) ({ cls := "java/lang/Object", name := "<init>", desc := "()V" } : MethodName)) : Cond) ∈ gtb := lw_r 33 (by decide +kernel)
theorem w_34 : ((Cond.classLink "PressSheets$Job" (21 : Nat) "PressSheets$Leaf") : Cond) ∈ gtb := lw_r 34 (by decide +kernel)
theorem w_35 : ((Cond.instantiable "PressSheets$Leaf" (5 : Nat)) : Cond) ∈ gtb := lw_r 35 (by decide +kernel)
theorem w_39 : ((Cond.methodLink "PressSheets$Leaf" (3 : Nat) ({ cls := "java/lang/Object", name := "<init>", desc := "()V" } : MethodName)) : Cond) ∈ gtb := lw_r 39 (by decide +kernel)
theorem w_64 : ((Cond.classLink "PressSheets$Job" (28 : Nat) "PressSheets$Spot") : Cond) ∈ gtb := lw_r 64 (by decide +kernel)
theorem w_65 : ((Cond.instantiable "PressSheets$Spot" (6 : Nat)) : Cond) ∈ gtb := lw_r 65 (by decide +kernel)
theorem w_69 : ((Cond.methodLink "PressSheets$Spot" (3 : Nat) ({ cls := "java/lang/Object", name := "<init>", desc := "()V" } : MethodName)) : Cond) ∈ gtb := lw_r 69 (by decide +kernel)
theorem w_159 : ((Cond.classLink "PressSheets$State" (18 : Nat) "PressSheets$Press") : Cond) ∈ gtb := lw_r 159 (by decide +kernel)
theorem w_160 : ((Cond.instantiable "PressSheets$Press" (2 : Nat)) : Cond) ∈ gtb := lw_r 160 (by decide +kernel)
theorem w_164 : ((Cond.methodLink "PressSheets$Press" (3 : Nat) ({ cls := "java/lang/Object", name := "<init>", desc := "()V" } : MethodName)) : Cond) ∈ gtb := lw_r 164 (by decide +kernel)
theorem w_165 : ((Cond.classLink "PressSheets$Press" (9 : Nat) "PressSheets$Row") : Cond) ∈ gtb := lw_r 165 (by decide +kernel)
theorem w_166 : ((Cond.instantiable "PressSheets$Row" (2 : Nat)) : Cond) ∈ gtb := lw_r 166 (by decide +kernel)
theorem w_170 : ((Cond.methodLink "PressSheets$Row" (3 : Nat) ({ cls := "java/lang/Object", name := "<init>", desc := "()V" } : MethodName)) : Cond) ∈ gtb := lw_r 170 (by decide +kernel)
theorem w_183 : ((Cond.arrayClass FieldType.int) : Cond) ∈ gtb := lw_r 183 (by decide +kernel)
theorem w_195 : ((Cond.classLink "PressSheets$State" (25 : Nat) "PressSheets$Plan") : Cond) ∈ gtb := lw_r 195 (by decide +kernel)
theorem w_196 : ((Cond.instantiable "PressSheets$Plan" (4 : Nat)) : Cond) ∈ gtb := lw_r 196 (by decide +kernel)
theorem w_200 : ((Cond.methodLink "PressSheets$Plan" (3 : Nat) ({ cls := "java/lang/Object", name := "<init>", desc := "()V" } : MethodName)) : Cond) ∈ gtb := lw_r 200 (by decide +kernel)
theorem w_201 : ((Cond.classLink "PressSheets$Plan" (9 : Nat) "PressSheets$Row") : Cond) ∈ gtb := lw_r 201 (by decide +kernel)
theorem w_220 : ((Cond.classLink "PressSheets$State" (32 : Nat) "PressSheets$Row") : Cond) ∈ gtb := lw_r 220 (by decide +kernel)
theorem w_251 : ((Cond.classLink "PressSheets" (21 : Nat) "PressSheets$Job") : Cond) ∈ gtb := lw_r 251 (by decide +kernel)
theorem w_253 : ((Cond.classLink "PressSheets" (28 : Nat) "PressSheets$Text") : Cond) ∈ gtb := lw_r 253 (by decide +kernel)
theorem w_254 : ((Cond.instantiable "PressSheets$Text" (5 : Nat)) : Cond) ∈ gtb := lw_r 254 (by decide +kernel)
theorem w_258 : ((Cond.methodLink "PressSheets$Text" (3 : Nat) ({ cls := "java/lang/Object", name := "<init>", desc := "()V" } : MethodName)) : Cond) ∈ gtb := lw_r 258 (by decide +kernel)
theorem w_259 : ((Cond.classLink "PressSheets$Text" (9 : Nat) "PressSheets$Row") : Cond) ∈ gtb := lw_r 259 (by decide +kernel)
theorem w_281 : ((Cond.classLink "PressSheets" (35 : Nat) "PressSheets$Tape") : Cond) ∈ gtb := lw_r 281 (by decide +kernel)
theorem w_283 : ((Cond.instantiable "PressSheets$Tape" (3 : Nat)) : Cond) ∈ gtb := lw_r 283 (by decide +kernel)
theorem w_287 : ((Cond.methodLink "PressSheets$Tape" (3 : Nat) ({ cls := "java/lang/Object", name := "<init>", desc := "()V" } : MethodName)) : Cond) ∈ gtb := lw_r 287 (by decide +kernel)
theorem w_300 : ((Cond.arrayClass FieldType.long) : Cond) ∈ gtb := lw_r 300 (by decide +kernel)
theorem w_826 : ((Cond.methodLink "PressSheetsModel" (3 : Nat) ({ cls := "java/lang/Object", name := "<init>", desc := "()V" } : MethodName)) : Cond) ∈ gtb := lw_r 826 (by decide +kernel)
theorem fl_MD_76_ : FL "PressSheetsModel" 76 10 38 := ⟨"PressSheetsModel", tC10, 42, rfl, by decide, lw_r 864 (by decide +kernel)⟩
theorem fp_Job_15_ : FP "PressSheets$Job" 15 0 7 .int := ⟨"PressSheets$Job", tC0, 11, rfl, by decide, lw_r 126 (by decide +kernel), rfl, by decide +kernel⟩
theorem fp_Job_18_ : FP "PressSheets$Job" 18 0 8 .int := ⟨"PressSheets$Job", tC0, 11, rfl, by decide, lw_r 127 (by decide +kernel), rfl, by decide +kernel⟩
theorem fp_Job_9_ : FP "PressSheets$Job" 9 0 4 .int := ⟨"PressSheets$Job", tC0, 11, rfl, by decide, lw_r 119 (by decide +kernel), rfl, by decide +kernel⟩
theorem fp_MD_15_ : FP "PressSheetsModel" 15 10 2 .int := ⟨"PressSheetsModel", tC10, 42, rfl, by decide, lw_r 828 (by decide +kernel), rfl, by decide +kernel⟩
theorem fp_MD_18_ : FP "PressSheetsModel" 18 10 5 .int := ⟨"PressSheetsModel", tC10, 42, rfl, by decide, lw_r 831 (by decide +kernel), rfl, by decide +kernel⟩
theorem fp_MD_21_ : FP "PressSheetsModel" 21 10 6 .int := ⟨"PressSheetsModel", tC10, 42, rfl, by decide, lw_r 832 (by decide +kernel), rfl, by decide +kernel⟩
theorem fp_MD_9_ : FP "PressSheetsModel" 9 10 1 .int := ⟨"PressSheetsModel", tC10, 42, rfl, by decide, lw_r 827 (by decide +kernel), rfl, by decide +kernel⟩
theorem fp_Tape_11_ : FP "PressSheets$Tape" 11 7 0 .int := ⟨"PressSheets$Tape", tC7, 3, rfl, by decide, lw_r 288 (by decide +kernel), rfl, by decide +kernel⟩
theorem fr_Job_24 : FPR "PressSheets$Job" 24 0 9 (yC0 9) := ⟨"PressSheets$Job", tC0, 11, rfl, by decide, lw_r 129 (by decide +kernel), rfl, rfl, by decide +kernel⟩
theorem fr_Job_31 : FPR "PressSheets$Job" 31 0 10 (yC0 10) := ⟨"PressSheets$Job", tC0, 11, rfl, by decide, lw_r 132 (by decide +kernel), rfl, rfl, by decide +kernel⟩
theorem fr_MD_24 : FPR "PressSheetsModel" 24 10 7 (yC10 7) := ⟨"PressSheetsModel", tC10, 42, rfl, by decide, lw_r 833 (by decide +kernel), rfl, rfl, by decide +kernel⟩
theorem fr_MD_28 : FPR "PressSheetsModel" 28 10 8 (yC10 8) := ⟨"PressSheetsModel", tC10, 42, rfl, by decide, lw_r 834 (by decide +kernel), rfl, rfl, by decide +kernel⟩
theorem fr_MD_31 : FPR "PressSheetsModel" 31 10 9 (yC10 9) := ⟨"PressSheetsModel", tC10, 42, rfl, by decide, lw_r 835 (by decide +kernel), rfl, rfl, by decide +kernel⟩
theorem fr_MD_34 : FPR "PressSheetsModel" 34 10 10 (yC10 10) := ⟨"PressSheetsModel", tC10, 42, rfl, by decide, lw_r 836 (by decide +kernel), rfl, rfl, by decide +kernel⟩
theorem fr_MD_37 : FPR "PressSheetsModel" 37 10 11 (yC10 11) := ⟨"PressSheetsModel", tC10, 42, rfl, by decide, lw_r 837 (by decide +kernel), rfl, rfl, by decide +kernel⟩
theorem fr_MD_40 : FPR "PressSheetsModel" 40 10 12 (yC10 12) := ⟨"PressSheetsModel", tC10, 42, rfl, by decide, lw_r 838 (by decide +kernel), rfl, rfl, by decide +kernel⟩
theorem fr_MD_43 : FPR "PressSheetsModel" 43 10 15 (yC10 15) := ⟨"PressSheetsModel", tC10, 42, rfl, by decide, lw_r 841 (by decide +kernel), rfl, rfl, by decide +kernel⟩
theorem fr_MD_46 : FPR "PressSheetsModel" 46 10 17 (yC10 17) := ⟨"PressSheetsModel", tC10, 42, rfl, by decide, lw_r 843 (by decide +kernel), rfl, rfl, by decide +kernel⟩
theorem fr_MD_49 : FPR "PressSheetsModel" 49 10 19 (yC10 19) := ⟨"PressSheetsModel", tC10, 42, rfl, by decide, lw_r 845 (by decide +kernel), rfl, rfl, by decide +kernel⟩
theorem fr_MD_52 : FPR "PressSheetsModel" 52 10 20 (yC10 20) := ⟨"PressSheetsModel", tC10, 42, rfl, by decide, lw_r 846 (by decide +kernel), rfl, rfl, by decide +kernel⟩
theorem fr_MD_55 : FPR "PressSheetsModel" 55 10 21 (yC10 21) := ⟨"PressSheetsModel", tC10, 42, rfl, by decide, lw_r 847 (by decide +kernel), rfl, rfl, by decide +kernel⟩
theorem fr_MD_58 : FPR "PressSheetsModel" 58 10 27 (yC10 27) := ⟨"PressSheetsModel", tC10, 42, rfl, by decide, lw_r 853 (by decide +kernel), rfl, rfl, by decide +kernel⟩
theorem fr_MD_61 : FPR "PressSheetsModel" 61 10 29 (yC10 29) := ⟨"PressSheetsModel", tC10, 42, rfl, by decide, lw_r 855 (by decide +kernel), rfl, rfl, by decide +kernel⟩
theorem fr_MD_64 : FPR "PressSheetsModel" 64 10 31 (yC10 31) := ⟨"PressSheetsModel", tC10, 42, rfl, by decide, lw_r 857 (by decide +kernel), rfl, rfl, by decide +kernel⟩
theorem fr_MD_67 : FPR "PressSheetsModel" 67 10 34 (yC10 34) := ⟨"PressSheetsModel", tC10, 42, rfl, by decide, lw_r 860 (by decide +kernel), rfl, rfl, by decide +kernel⟩
theorem fr_MD_70 : FPR "PressSheetsModel" 70 10 35 (yC10 35) := ⟨"PressSheetsModel", tC10, 42, rfl, by decide, lw_r 861 (by decide +kernel), rfl, rfl, by decide +kernel⟩
theorem fr_MD_73 : FPR "PressSheetsModel" 73 10 37 (yC10 37) := ⟨"PressSheetsModel", tC10, 42, rfl, by decide, lw_r 863 (by decide +kernel), rfl, rfl, by decide +kernel⟩
theorem fr_MD_76 : FPR "PressSheetsModel" 76 10 38 (yC10 38) := ⟨"PressSheetsModel", tC10, 42, rfl, by decide, lw_r 864 (by decide +kernel), rfl, rfl, by decide +kernel⟩
theorem fr_MD_79 : FPR "PressSheetsModel" 79 10 39 (yC10 39) := ⟨"PressSheetsModel", tC10, 42, rfl, by decide, lw_r 865 (by decide +kernel), rfl, rfl, by decide +kernel⟩
theorem fr_MD_82 : FPR "PressSheetsModel" 82 10 40 (yC10 40) := ⟨"PressSheetsModel", tC10, 42, rfl, by decide, lw_r 866 (by decide +kernel), rfl, rfl, by decide +kernel⟩
theorem fr_MD_86 : FPR "PressSheetsModel" 86 10 41 (yC10 41) := ⟨"PressSheetsModel", tC10, 42, rfl, by decide, lw_r 867 (by decide +kernel), rfl, rfl, by decide +kernel⟩
theorem fr_PS_12 : FPR "PressSheets" 12 9 0 (yC9 0) := ⟨"PressSheets", tC9, 6, rfl, by decide, lw_r 301 (by decide +kernel), rfl, rfl, by decide +kernel⟩
theorem fr_PS_18 : FPR "PressSheets" 18 9 1 (yC9 1) := ⟨"PressSheets", tC9, 6, rfl, by decide, lw_r 302 (by decide +kernel), rfl, rfl, by decide +kernel⟩
theorem fr_PS_24 : FPR "PressSheets" 24 9 3 (yC9 3) := ⟨"PressSheets", tC9, 6, rfl, by decide, lw_r 304 (by decide +kernel), rfl, rfl, by decide +kernel⟩
theorem fr_PS_31 : FPR "PressSheets" 31 9 4 (yC9 4) := ⟨"PressSheets", tC9, 6, rfl, by decide, lw_r 305 (by decide +kernel), rfl, rfl, by decide +kernel⟩
theorem fr_PS_38 : FPR "PressSheets" 38 9 5 (yC9 5) := ⟨"PressSheets", tC9, 6, rfl, by decide, lw_r 306 (by decide +kernel), rfl, rfl, by decide +kernel⟩
theorem fr_Plan_16 : FPR "PressSheets$Plan" 16 2 0 (yC2 0) := ⟨"PressSheets$Plan", tC2, 4, rfl, by decide, lw_r 203 (by decide +kernel), rfl, rfl, by decide +kernel⟩
theorem fr_Plan_20 : FPR "PressSheets$Plan" 20 2 1 (yC2 1) := ⟨"PressSheets$Plan", tC2, 4, rfl, by decide, lw_r 205 (by decide +kernel), rfl, rfl, by decide +kernel⟩
theorem fr_Plan_23 : FPR "PressSheets$Plan" 23 2 2 (yC2 2) := ⟨"PressSheets$Plan", tC2, 4, rfl, by decide, lw_r 207 (by decide +kernel), rfl, rfl, by decide +kernel⟩
theorem fr_Plan_26 : FPR "PressSheets$Plan" 26 2 3 (yC2 3) := ⟨"PressSheets$Plan", tC2, 4, rfl, by decide, lw_r 209 (by decide +kernel), rfl, rfl, by decide +kernel⟩
theorem fr_Press_14 : FPR "PressSheets$Press" 14 3 0 (yC3 0) := ⟨"PressSheets$Press", tC3, 2, rfl, by decide, lw_r 184 (by decide +kernel), rfl, rfl, by decide +kernel⟩
theorem fr_Press_20 : FPR "PressSheets$Press" 20 3 1 (yC3 1) := ⟨"PressSheets$Press", tC3, 2, rfl, by decide, lw_r 187 (by decide +kernel), rfl, rfl, by decide +kernel⟩
theorem fr_Row_9 : FPR "PressSheets$Row" 9 4 0 (yC4 0) := ⟨"PressSheets$Row", tC4, 2, rfl, by decide, lw_r 171 (by decide +kernel), rfl, rfl, by decide +kernel⟩
theorem fr_State_12 : FPR "PressSheets$State" 12 6 0 (yC6 0) := ⟨"PressSheets$State", tC6, 7, rfl, by decide, lw_r 222 (by decide +kernel), rfl, rfl, by decide +kernel⟩
theorem fr_State_21 : FPR "PressSheets$State" 21 6 1 (yC6 1) := ⟨"PressSheets$State", tC6, 7, rfl, by decide, lw_r 224 (by decide +kernel), rfl, rfl, by decide +kernel⟩
theorem fr_State_28 : FPR "PressSheets$State" 28 6 2 (yC6 2) := ⟨"PressSheets$State", tC6, 7, rfl, by decide, lw_r 226 (by decide +kernel), rfl, rfl, by decide +kernel⟩
theorem fr_State_37 : FPR "PressSheets$State" 37 6 3 (yC6 3) := ⟨"PressSheets$State", tC6, 7, rfl, by decide, lw_r 228 (by decide +kernel), rfl, rfl, by decide +kernel⟩
theorem fr_State_41 : FPR "PressSheets$State" 41 6 4 (yC6 4) := ⟨"PressSheets$State", tC6, 7, rfl, by decide, lw_r 230 (by decide +kernel), rfl, rfl, by decide +kernel⟩
theorem fr_State_44 : FPR "PressSheets$State" 44 6 5 (yC6 5) := ⟨"PressSheets$State", tC6, 7, rfl, by decide, lw_r 232 (by decide +kernel), rfl, rfl, by decide +kernel⟩
theorem fr_State_47 : FPR "PressSheets$State" 47 6 6 (yC6 6) := ⟨"PressSheets$State", tC6, 7, rfl, by decide, lw_r 234 (by decide +kernel), rfl, rfl, by decide +kernel⟩
theorem fr_Tape_15 : FPR "PressSheets$Tape" 15 7 2 (yC7 2) := ⟨"PressSheets$Tape", tC7, 3, rfl, by decide, lw_r 291 (by decide +kernel), rfl, rfl, by decide +kernel⟩
theorem fr_Text_14 : FPR "PressSheets$Text" 14 8 0 (yC8 0) := ⟨"PressSheets$Text", tC8, 5, rfl, by decide, lw_r 261 (by decide +kernel), rfl, rfl, by decide +kernel⟩
theorem fr_Text_20 : FPR "PressSheets$Text" 20 8 1 (yC8 1) := ⟨"PressSheets$Text", tC8, 5, rfl, by decide, lw_r 263 (by decide +kernel), rfl, rfl, by decide +kernel⟩
theorem fr_Text_23 : FPR "PressSheets$Text" 23 8 2 (yC8 2) := ⟨"PressSheets$Text", tC8, 5, rfl, by decide, lw_r 265 (by decide +kernel), rfl, rfl, by decide +kernel⟩
theorem fr_Text_26 : FPR "PressSheets$Text" 26 8 3 (yC8 3) := ⟨"PressSheets$Text", tC8, 5, rfl, by decide, lw_r 267 (by decide +kernel), rfl, rfl, by decide +kernel⟩
theorem in_Job_23 : IN "PressSheets$Job" 23 y_Leaf_init "PressSheets" := ⟨by decide, lw_r 37 (by decide +kernel)⟩
theorem in_Job_30 : IN "PressSheets$Job" 30 y_Spot_init "PressSheets" := ⟨by decide, lw_r 67 (by decide +kernel)⟩
theorem in_PS_11 : IN "PressSheets" 11 y_State_init "PressSheets" := ⟨by decide, lw_r 25 (by decide +kernel)⟩
theorem in_PS_30 : IN "PressSheets" 30 y_Text_init "PressSheets" := ⟨by decide, lw_r 256 (by decide +kernel)⟩
theorem in_PS_37 : IN "PressSheets" 37 y_Tape_init "PressSheets" := ⟨by decide, lw_r 285 (by decide +kernel)⟩
theorem in_State_20 : IN "PressSheets$State" 20 y_Press_init "PressSheets" := ⟨by decide, lw_r 162 (by decide +kernel)⟩
theorem in_State_27 : IN "PressSheets$State" 27 y_Plan_init "PressSheets" := ⟨by decide, lw_r 198 (by decide +kernel)⟩
theorem ix_PS_23 : IX "PressSheets" 23 y_Job_init := ⟨lw_r 252 (by decide +kernel), lw_r 31 (by decide +kernel)⟩
theorem ix_Plan_13 : IX "PressSheets$Plan" 13 y_Row_init := ⟨lw_r 202 (by decide +kernel), lw_r 168 (by decide +kernel)⟩
theorem ix_Press_11 : IX "PressSheets$Press" 11 y_Row_init := ⟨lw_r 167 (by decide +kernel), lw_r 168 (by decide +kernel)⟩
theorem ix_State_11 : IX "PressSheets$State" 11 y_Job_init := ⟨lw_r 30 (by decide +kernel), lw_r 31 (by decide +kernel)⟩
theorem ix_State_34 : IX "PressSheets$State" 34 y_Row_init := ⟨lw_r 221 (by decide +kernel), lw_r 168 (by decide +kernel)⟩
theorem ix_Text_11 : IX "PressSheets$Text" 11 y_Row_init := ⟨lw_r 260 (by decide +kernel), lw_r 168 (by decide +kernel)⟩
def f_Leaf_init_3 (M : Mm) : Option (Unit × Mm) := some ((), M)
set_option maxHeartbeats 4000000 in
set_option maxRecDepth 20000 in
theorem t_Leaf_init_3 {X : KX} {M : Mm} (hI : (kt X).name = "<init>") (hrc : 0 ≤ (kr X).cells) (hrs : 0 ≤ (kr X).slots) : GO X md_Leaf_init (QE X rvU (0, 0, 4, iniT 0)) 0 [some (rf (kG X) 3)] [] (0, 0, 4, iniT 0) M (f_Leaf_init_3 M) := by
  unfold f_Leaf_init_3
  refine g_aload_n e_Leaf_init_0 rfl ?_
  refine g_objI e_Leaf_init_1 ⟨w_39, w_20, w_21⟩ rfl ⟨by decide, Nat.le_of_ble_eq_true rfl⟩ ?_
  exact g_vret e_Leaf_init_4 rfl
theorem c_Leaf_init_3 {l : Launch} {G : KG} {M M' : Mm} (h : f_Leaf_init_3 M = some ((), M')) : CT l G y_Leaf_init md_Leaf_init 0 0 [rf G 3] 4 (iniT 0) M none 4 (iniT 0) M' :=
  CT.ofI 0 (by decide) rfl (by show 1 ≤ 1; decide) rfl h (fun X _ hG hI h1 h2 => by subst hG; exact t_Leaf_init_3 hI h1 h2)
theorem x_Leaf_init_3 (M : Mm) : ∃ M', f_Leaf_init_3 M = some ((), M') := by
  unfold f_Leaf_init_3
  exact ⟨_, rfl⟩
def f_Spot_init_4 (M : Mm) : Option (Unit × Mm) := some ((), M)
set_option maxHeartbeats 4000000 in
set_option maxRecDepth 20000 in
theorem t_Spot_init_4 {X : KX} {M : Mm} (hI : (kt X).name = "<init>") (hrc : 0 ≤ (kr X).cells) (hrs : 0 ≤ (kr X).slots) : GO X md_Spot_init (QE X rvU (0, 0, 5, iniT 1)) 0 [some (rf (kG X) 4)] [] (0, 0, 5, iniT 1) M (f_Spot_init_4 M) := by
  unfold f_Spot_init_4
  refine g_aload_n e_Spot_init_0 rfl ?_
  refine g_objI e_Spot_init_1 ⟨w_69, w_20, w_21⟩ rfl ⟨by decide, Nat.le_of_ble_eq_true rfl⟩ ?_
  exact g_vret e_Spot_init_4 rfl
theorem c_Spot_init_4 {l : Launch} {G : KG} {M M' : Mm} (h : f_Spot_init_4 M = some ((), M')) : CT l G y_Spot_init md_Spot_init 0 0 [rf G 4] 5 (iniT 1) M none 5 (iniT 1) M' :=
  CT.ofI 0 (by decide) rfl (by show 1 ≤ 1; decide) rfl h (fun X _ hG hI h1 h2 => by subst hG; exact t_Spot_init_4 hI h1 h2)
theorem x_Spot_init_4 (M : Mm) : ∃ M', f_Spot_init_4 M = some ((), M') := by
  unfold f_Spot_init_4
  exact ⟨_, rfl⟩
def f_Job_init_2 (M : Mm) : Option (Unit × Mm) := (lT (wI M 2 4 (4 : Int32)) fun M1 => (lT (wI M1 2 7 (100 : Int32)) fun M2 => (lT (wI M2 2 8 (1 : Int32)) fun M3 => (lT (zr M3 3) fun M4 => (bD (f_Leaf_init_3 M4) fun _ M5 => (lT (zr M5 4) fun M6 => (bD (f_Spot_init_4 M6) fun _ M7 => (bD (f_Job_foldBy 2 (1 : Int32) (0 : Int32) M7) fun _ M8 => some ((), M8)))))))))
set_option maxHeartbeats 4000000 in
set_option maxRecDepth 20000 in
theorem t_Job_init_2 {X : KX} {M : Mm} (hI : (kt X).name = "<init>") (hrc : 2 ≤ (kr X).cells) (hrs : 11 ≤ (kr X).slots) : GO X md_Job_init (QE X rvU (2, 11, 5, iniT 2)) 0 [some (rf (kG X) 2)] [] (0, 0, 3, iniT 0) M (f_Job_init_2 M) := by
  unfold f_Job_init_2
  refine g_aload_n e_Job_init_0 rfl ?_
  refine g_objI e_Job_init_1 ⟨w_33, w_20, w_21⟩ rfl ⟨by decide, Nat.le_of_ble_eq_true rfl⟩ ?_
  refine g_aload_n e_Job_init_4 rfl ?_
  refine g_iconst (x := (4 : Int32)) e_Job_init_5 (by decide) ?_
  refine g_putL e_Job_init_6 fp_Job_9_ kq_2 (by decide) fj_0_4 rfl rfl (fun M1 => ?_)
  refine g_aload_n e_Job_init_9 rfl ?_
  refine g_bipush (x := (100 : Int32)) e_Job_init_10 (by decide) ?_
  refine g_putL e_Job_init_12 fp_Job_15_ kq_2 (by decide) fj_0_7 rfl rfl (fun M2 => ?_)
  refine g_aload_n e_Job_init_15 rfl ?_
  refine g_iconst (x := (1 : Int32)) e_Job_init_16 (by decide) ?_
  refine g_putL e_Job_init_17 fp_Job_18_ kq_2 (by decide) fj_0_8 rfl rfl (fun M3 => ?_)
  refine g_aload_n e_Job_init_20 rfl ?_
  refine g_new (c' := 1) (s' := 5) (n' := 4) e_Job_init_21 (show cls[1]? = some ("PressSheets$Leaf", tC1, 5) from rfl) ⟨w_34, w_35, w_4⟩ kq_3 yC1 pY1 dV1 (by decide +kernel) rfl rfl rfl ⟨Nat.le_trans (by decide) hrc, Nat.le_trans (by decide) hrs⟩ (fun M4 => ?_)
  refine g_dup e_Job_init_24 rfl ?_
  refine g_callIN (mc := 0) (ms := 0) (c' := 1) (s' := 5) (As := []) (st := [rf (kG X) 3, rf (kG X) 2]) e_Job_init_25 in_Job_23 rfl rfl my_Leaf_init (by decide) rfl rfl (Nat.le_of_ble_eq_true rfl) rfl rfl ⟨Nat.le_trans (by decide) hrc, Nat.le_trans (by decide) hrs⟩ (fun _ h => c_Leaf_init_3 h) (fun M5 _ => ?_)
  refine g_putR (t' := 1) hI e_Job_init_28 fr_Job_24 kq_2 (by decide) fj_0_9 (show rkl[0]? = some (2, 9) from rfl) (fun v hv => by obtain ⟨a, rfl⟩ := hv; exact ⟨rfl, rfl⟩) rfl rfl ?_
  refine g_aload_n e_Job_init_31 rfl ?_
  refine g_new (c' := 2) (s' := 11) (n' := 5) e_Job_init_32 (show cls[5]? = some ("PressSheets$Spot", tC5, 6) from rfl) ⟨w_64, w_65, w_5⟩ kq_4 yC5 pY5 dV5 (by decide +kernel) rfl rfl rfl ⟨Nat.le_trans (by decide) hrc, Nat.le_trans (by decide) hrs⟩ (fun M6 => ?_)
  refine g_dup e_Job_init_35 rfl ?_
  refine g_callIN (mc := 0) (ms := 0) (c' := 2) (s' := 11) (As := []) (st := [rf (kG X) 4, rf (kG X) 2]) e_Job_init_36 in_Job_30 rfl rfl my_Spot_init (by decide) rfl rfl (Nat.le_of_ble_eq_true rfl) rfl rfl ⟨Nat.le_trans (by decide) hrc, Nat.le_trans (by decide) hrs⟩ (fun _ h => c_Spot_init_4 h) (fun M7 _ => ?_)
  refine g_putR (t' := 2) hI e_Job_init_39 fr_Job_31 kq_2 (by decide) fj_0_10 (show rkl[1]? = some (2, 10) from rfl) (fun v hv => by obtain ⟨a, rfl⟩ := hv; exact ⟨rfl, rfl⟩) rfl rfl ?_
  refine g_aload_n e_Job_init_42 rfl ?_
  refine g_iconst (x := (1 : Int32)) e_Job_init_43 (by decide) ?_
  refine g_iconst (x := (0 : Int32)) e_Job_init_44 (by decide) ?_
  refine g_callV (rv := rvU) (As := [.int (1 : Int32), .int (0 : Int32)]) (st := []) e_Job_init_45 mv_Job_35 my_Job_foldBy (by decide) rfl rfl kq_2 (by decide) rfl (Nat.le_of_ble_eq_true rfl) rfl (fun r M1 h => c_Job_foldBy (Z := (2, 11, 5, iniT 2)) (by decide) kq_2 h) (fun _ M8 _ => ?_)
  exact g_vret e_Job_init_48 rfl
theorem c_Job_init_2 {l : Launch} {G : KG} {M M' : Mm} (h : f_Job_init_2 M = some ((), M')) : CT l G y_Job_init md_Job_init 2 11 [rf G 2] 3 (iniT 0) M none 5 (iniT 2) M' :=
  CT.ofI 0 (by decide) rfl (by show 1 ≤ 1; decide) rfl h (fun X _ hG hI h1 h2 => by subst hG; exact t_Job_init_2 hI h1 h2)
theorem x_Job_init_2 (M : Mm) : ∃ M', f_Job_init_2 M = some ((), M') := by
  unfold f_Job_init_2
  refine lT_ex ?_
  refine lT_ex ?_
  refine lT_ex ?_
  refine lT_ex ?_
  refine bD_ex (x_Leaf_init_3 _) (fun _ => ?_)
  refine lT_ex ?_
  refine bD_ex (x_Spot_init_4 _) (fun _ => ?_)
  refine bD_ex (fbI 2 _) (fun _ => ?_)
  exact ⟨_, rfl⟩
def f_Row_init_6 (M : Mm) : Option (Unit × Mm) := (lT (zr M 7) fun M1 => some ((), M1))
set_option maxHeartbeats 4000000 in
set_option maxRecDepth 20000 in
theorem t_Row_init_6 {X : KX} {M : Mm} (hI : (kt X).name = "<init>") (hrc : 1 ≤ (kr X).cells) (hrs : 40 ≤ (kr X).slots) : GO X md_Row_init (QE X rvU (1, 40, 8, iniT 4)) 0 [some (rf (kG X) 6), some (.int (40 : Int32))] [] (0, 0, 7, iniT 3) M (f_Row_init_6 M) := by
  unfold f_Row_init_6
  refine g_aload_n e_Row_init_0 rfl ?_
  refine g_objI e_Row_init_1 ⟨w_170, w_20, w_21⟩ rfl ⟨by decide, Nat.le_of_ble_eq_true rfl⟩ ?_
  refine g_aload_n e_Row_init_4 rfl ?_
  refine g_iload_n e_Row_init_5 rfl ?_
  refine g_if_le' e_Row_init_6 (fun h => absurd h (by decide)) (fun _ => ?_)
  refine g_iload_n e_Row_init_9 rfl ?_
  refine g_goto e_Row_init_10 ?_
  refine g_newI (N := 40) (c' := 1) (s' := 40) (n' := 8) e_Row_init_14 w_183 kq_7 (by decide) (by decide) rfl rfl rfl ⟨Nat.le_trans (by decide) hrc, Nat.le_trans (by decide) hrs⟩ (fun M1 => ?_)
  refine g_putR (t' := 4) hI e_Row_init_16 fr_Row_9 kq_6 (by decide) fj_4_0 (show rkl[3]? = some (6, 0) from rfl) (fun v hv => by obtain ⟨a, rfl⟩ := hv; exact ⟨rfl, rfl⟩) rfl rfl ?_
  exact g_vret e_Row_init_19 rfl
theorem c_Row_init_6 {l : Launch} {G : KG} {M M' : Mm} (h : f_Row_init_6 M = some ((), M')) : CT l G y_Row_init md_Row_init 1 40 [rf G 6, .int (40 : Int32)] 7 (iniT 3) M none 8 (iniT 4) M' :=
  CT.ofI 0 (by decide) rfl (by show 2 ≤ 2; decide) rfl h (fun X _ hG hI h1 h2 => by subst hG; exact t_Row_init_6 hI h1 h2)
theorem x_Row_init_6 (M : Mm) : ∃ M', f_Row_init_6 M = some ((), M') := by
  unfold f_Row_init_6
  refine lT_ex ?_
  exact ⟨_, rfl⟩
def f_Row_init_8 (M : Mm) : Option (Unit × Mm) := (lT (zr M 9) fun M1 => some ((), M1))
set_option maxHeartbeats 4000000 in
set_option maxRecDepth 20000 in
theorem t_Row_init_8 {X : KX} {M : Mm} (hI : (kt X).name = "<init>") (hrc : 1 ≤ (kr X).cells) (hrs : 64 ≤ (kr X).slots) : GO X md_Row_init (QE X rvU (1, 64, 10, iniT 6)) 0 [some (rf (kG X) 8), some (.int (64 : Int32))] [] (0, 0, 9, iniT 5) M (f_Row_init_8 M) := by
  unfold f_Row_init_8
  refine g_aload_n e_Row_init_0 rfl ?_
  refine g_objI e_Row_init_1 ⟨w_170, w_20, w_21⟩ rfl ⟨by decide, Nat.le_of_ble_eq_true rfl⟩ ?_
  refine g_aload_n e_Row_init_4 rfl ?_
  refine g_iload_n e_Row_init_5 rfl ?_
  refine g_if_le' e_Row_init_6 (fun h => absurd h (by decide)) (fun _ => ?_)
  refine g_iload_n e_Row_init_9 rfl ?_
  refine g_goto e_Row_init_10 ?_
  refine g_newI (N := 64) (c' := 1) (s' := 64) (n' := 10) e_Row_init_14 w_183 kq_9 (by decide) (by decide) rfl rfl rfl ⟨Nat.le_trans (by decide) hrc, Nat.le_trans (by decide) hrs⟩ (fun M1 => ?_)
  refine g_putR (t' := 6) hI e_Row_init_16 fr_Row_9 kq_8 (by decide) fj_4_0 (show rkl[5]? = some (8, 0) from rfl) (fun v hv => by obtain ⟨a, rfl⟩ := hv; exact ⟨rfl, rfl⟩) rfl rfl ?_
  exact g_vret e_Row_init_19 rfl
theorem c_Row_init_8 {l : Launch} {G : KG} {M M' : Mm} (h : f_Row_init_8 M = some ((), M')) : CT l G y_Row_init md_Row_init 1 64 [rf G 8, .int (64 : Int32)] 9 (iniT 5) M none 10 (iniT 6) M' :=
  CT.ofI 0 (by decide) rfl (by show 2 ≤ 2; decide) rfl h (fun X _ hG hI h1 h2 => by subst hG; exact t_Row_init_8 hI h1 h2)
theorem x_Row_init_8 (M : Mm) : ∃ M', f_Row_init_8 M = some ((), M') := by
  unfold f_Row_init_8
  refine lT_ex ?_
  exact ⟨_, rfl⟩
def f_Press_init_5 (M : Mm) : Option (Unit × Mm) := (lT (zr M 6) fun M1 => (bD (f_Row_init_6 M1) fun _ M2 => (lT (zr M2 8) fun M3 => (bD (f_Row_init_8 M3) fun _ M4 => some ((), M4)))))
set_option maxHeartbeats 4000000 in
set_option maxRecDepth 20000 in
theorem t_Press_init_5 {X : KX} {M : Mm} (hI : (kt X).name = "<init>") (hrc : 4 ≤ (kr X).cells) (hrs : 108 ≤ (kr X).slots) : GO X md_Press_init (QE X rvU (4, 108, 10, iniT 7)) 0 [some (rf (kG X) 5)] [] (0, 0, 6, iniT 3) M (f_Press_init_5 M) := by
  unfold f_Press_init_5
  refine g_aload_n e_Press_init_0 rfl ?_
  refine g_objI e_Press_init_1 ⟨w_164, w_20, w_21⟩ rfl ⟨by decide, Nat.le_of_ble_eq_true rfl⟩ ?_
  refine g_aload_n e_Press_init_4 rfl ?_
  refine g_new (c' := 1) (s' := 2) (n' := 7) e_Press_init_5 (show cls[4]? = some ("PressSheets$Row", tC4, 2) from rfl) ⟨w_165, w_166, w_7⟩ kq_6 yC4 pY4 dV4 (by decide +kernel) rfl rfl rfl ⟨Nat.le_trans (by decide) hrc, Nat.le_trans (by decide) hrs⟩ (fun M1 => ?_)
  refine g_dup e_Press_init_8 rfl ?_
  refine g_bipush (x := (40 : Int32)) e_Press_init_9 (by decide) ?_
  refine g_callI (mc := 1) (ms := 40) (c' := 2) (s' := 42) (As := [.int (40 : Int32)]) (st := [rf (kG X) 6, rf (kG X) 5]) e_Press_init_11 ix_Press_11 rfl rfl my_Row_init (by decide) rfl rfl (Nat.le_of_ble_eq_true rfl) rfl rfl ⟨Nat.le_trans (by decide) hrc, Nat.le_trans (by decide) hrs⟩ (fun _ h => c_Row_init_6 h) (fun M2 _ => ?_)
  refine g_putR (t' := 5) hI e_Press_init_14 fr_Press_14 kq_5 (by decide) fj_3_0 (show rkl[4]? = some (5, 0) from rfl) (fun v hv => by obtain ⟨a, rfl⟩ := hv; exact ⟨rfl, rfl⟩) rfl rfl ?_
  refine g_aload_n e_Press_init_17 rfl ?_
  refine g_new (c' := 3) (s' := 44) (n' := 9) e_Press_init_18 (show cls[4]? = some ("PressSheets$Row", tC4, 2) from rfl) ⟨w_165, w_166, w_7⟩ kq_8 yC4 pY4 dV4 (by decide +kernel) rfl rfl rfl ⟨Nat.le_trans (by decide) hrc, Nat.le_trans (by decide) hrs⟩ (fun M3 => ?_)
  refine g_dup e_Press_init_21 rfl ?_
  refine g_bipush (x := (64 : Int32)) e_Press_init_22 (by decide) ?_
  refine g_callI (mc := 1) (ms := 64) (c' := 4) (s' := 108) (As := [.int (64 : Int32)]) (st := [rf (kG X) 8, rf (kG X) 5]) e_Press_init_24 ix_Press_11 rfl rfl my_Row_init (by decide) rfl rfl (Nat.le_of_ble_eq_true rfl) rfl rfl ⟨Nat.le_trans (by decide) hrc, Nat.le_trans (by decide) hrs⟩ (fun _ h => c_Row_init_8 h) (fun M4 _ => ?_)
  refine g_putR (t' := 7) hI e_Press_init_27 fr_Press_20 kq_5 (by decide) fj_3_1 (show rkl[6]? = some (5, 1) from rfl) (fun v hv => by obtain ⟨a, rfl⟩ := hv; exact ⟨rfl, rfl⟩) rfl rfl ?_
  exact g_vret e_Press_init_30 rfl
theorem c_Press_init_5 {l : Launch} {G : KG} {M M' : Mm} (h : f_Press_init_5 M = some ((), M')) : CT l G y_Press_init md_Press_init 4 108 [rf G 5] 6 (iniT 3) M none 10 (iniT 7) M' :=
  CT.ofI 0 (by decide) rfl (by show 1 ≤ 1; decide) rfl h (fun X _ hG hI h1 h2 => by subst hG; exact t_Press_init_5 hI h1 h2)
theorem x_Press_init_5 (M : Mm) : ∃ M', f_Press_init_5 M = some ((), M') := by
  unfold f_Press_init_5
  refine lT_ex ?_
  refine bD_ex (x_Row_init_6 _) (fun _ => ?_)
  refine lT_ex ?_
  refine bD_ex (x_Row_init_8 _) (fun _ => ?_)
  exact ⟨_, rfl⟩
def f_Row_init_11 (M : Mm) : Option (Unit × Mm) := (lT (zr M 12) fun M1 => some ((), M1))
set_option maxHeartbeats 4000000 in
set_option maxRecDepth 20000 in
theorem t_Row_init_11 {X : KX} {M : Mm} (hI : (kt X).name = "<init>") (hrc : 1 ≤ (kr X).cells) (hrs : 60 ≤ (kr X).slots) : GO X md_Row_init (QE X rvU (1, 60, 13, iniT 9)) 0 [some (rf (kG X) 11), some (.int (60 : Int32))] [] (0, 0, 12, iniT 8) M (f_Row_init_11 M) := by
  unfold f_Row_init_11
  refine g_aload_n e_Row_init_0 rfl ?_
  refine g_objI e_Row_init_1 ⟨w_170, w_20, w_21⟩ rfl ⟨by decide, Nat.le_of_ble_eq_true rfl⟩ ?_
  refine g_aload_n e_Row_init_4 rfl ?_
  refine g_iload_n e_Row_init_5 rfl ?_
  refine g_if_le' e_Row_init_6 (fun h => absurd h (by decide)) (fun _ => ?_)
  refine g_iload_n e_Row_init_9 rfl ?_
  refine g_goto e_Row_init_10 ?_
  refine g_newI (N := 60) (c' := 1) (s' := 60) (n' := 13) e_Row_init_14 w_183 kq_12 (by decide) (by decide) rfl rfl rfl ⟨Nat.le_trans (by decide) hrc, Nat.le_trans (by decide) hrs⟩ (fun M1 => ?_)
  refine g_putR (t' := 9) hI e_Row_init_16 fr_Row_9 kq_11 (by decide) fj_4_0 (show rkl[8]? = some (11, 0) from rfl) (fun v hv => by obtain ⟨a, rfl⟩ := hv; exact ⟨rfl, rfl⟩) rfl rfl ?_
  exact g_vret e_Row_init_19 rfl
theorem c_Row_init_11 {l : Launch} {G : KG} {M M' : Mm} (h : f_Row_init_11 M = some ((), M')) : CT l G y_Row_init md_Row_init 1 60 [rf G 11, .int (60 : Int32)] 12 (iniT 8) M none 13 (iniT 9) M' :=
  CT.ofI 0 (by decide) rfl (by show 2 ≤ 2; decide) rfl h (fun X _ hG hI h1 h2 => by subst hG; exact t_Row_init_11 hI h1 h2)
theorem x_Row_init_11 (M : Mm) : ∃ M', f_Row_init_11 M = some ((), M') := by
  unfold f_Row_init_11
  refine lT_ex ?_
  exact ⟨_, rfl⟩
def f_Row_init_13 (M : Mm) : Option (Unit × Mm) := (lT (zr M 14) fun M1 => some ((), M1))
set_option maxHeartbeats 4000000 in
set_option maxRecDepth 20000 in
theorem t_Row_init_13 {X : KX} {M : Mm} (hI : (kt X).name = "<init>") (hrc : 1 ≤ (kr X).cells) (hrs : 60 ≤ (kr X).slots) : GO X md_Row_init (QE X rvU (1, 60, 15, iniT 11)) 0 [some (rf (kG X) 13), some (.int (60 : Int32))] [] (0, 0, 14, iniT 10) M (f_Row_init_13 M) := by
  unfold f_Row_init_13
  refine g_aload_n e_Row_init_0 rfl ?_
  refine g_objI e_Row_init_1 ⟨w_170, w_20, w_21⟩ rfl ⟨by decide, Nat.le_of_ble_eq_true rfl⟩ ?_
  refine g_aload_n e_Row_init_4 rfl ?_
  refine g_iload_n e_Row_init_5 rfl ?_
  refine g_if_le' e_Row_init_6 (fun h => absurd h (by decide)) (fun _ => ?_)
  refine g_iload_n e_Row_init_9 rfl ?_
  refine g_goto e_Row_init_10 ?_
  refine g_newI (N := 60) (c' := 1) (s' := 60) (n' := 15) e_Row_init_14 w_183 kq_14 (by decide) (by decide) rfl rfl rfl ⟨Nat.le_trans (by decide) hrc, Nat.le_trans (by decide) hrs⟩ (fun M1 => ?_)
  refine g_putR (t' := 11) hI e_Row_init_16 fr_Row_9 kq_13 (by decide) fj_4_0 (show rkl[10]? = some (13, 0) from rfl) (fun v hv => by obtain ⟨a, rfl⟩ := hv; exact ⟨rfl, rfl⟩) rfl rfl ?_
  exact g_vret e_Row_init_19 rfl
theorem c_Row_init_13 {l : Launch} {G : KG} {M M' : Mm} (h : f_Row_init_13 M = some ((), M')) : CT l G y_Row_init md_Row_init 1 60 [rf G 13, .int (60 : Int32)] 14 (iniT 10) M none 15 (iniT 11) M' :=
  CT.ofI 0 (by decide) rfl (by show 2 ≤ 2; decide) rfl h (fun X _ hG hI h1 h2 => by subst hG; exact t_Row_init_13 hI h1 h2)
theorem x_Row_init_13 (M : Mm) : ∃ M', f_Row_init_13 M = some ((), M') := by
  unfold f_Row_init_13
  refine lT_ex ?_
  exact ⟨_, rfl⟩
def f_Row_init_15 (M : Mm) : Option (Unit × Mm) := (lT (zr M 16) fun M1 => some ((), M1))
set_option maxHeartbeats 4000000 in
set_option maxRecDepth 20000 in
theorem t_Row_init_15 {X : KX} {M : Mm} (hI : (kt X).name = "<init>") (hrc : 1 ≤ (kr X).cells) (hrs : 60 ≤ (kr X).slots) : GO X md_Row_init (QE X rvU (1, 60, 17, iniT 13)) 0 [some (rf (kG X) 15), some (.int (60 : Int32))] [] (0, 0, 16, iniT 12) M (f_Row_init_15 M) := by
  unfold f_Row_init_15
  refine g_aload_n e_Row_init_0 rfl ?_
  refine g_objI e_Row_init_1 ⟨w_170, w_20, w_21⟩ rfl ⟨by decide, Nat.le_of_ble_eq_true rfl⟩ ?_
  refine g_aload_n e_Row_init_4 rfl ?_
  refine g_iload_n e_Row_init_5 rfl ?_
  refine g_if_le' e_Row_init_6 (fun h => absurd h (by decide)) (fun _ => ?_)
  refine g_iload_n e_Row_init_9 rfl ?_
  refine g_goto e_Row_init_10 ?_
  refine g_newI (N := 60) (c' := 1) (s' := 60) (n' := 17) e_Row_init_14 w_183 kq_16 (by decide) (by decide) rfl rfl rfl ⟨Nat.le_trans (by decide) hrc, Nat.le_trans (by decide) hrs⟩ (fun M1 => ?_)
  refine g_putR (t' := 13) hI e_Row_init_16 fr_Row_9 kq_15 (by decide) fj_4_0 (show rkl[12]? = some (15, 0) from rfl) (fun v hv => by obtain ⟨a, rfl⟩ := hv; exact ⟨rfl, rfl⟩) rfl rfl ?_
  exact g_vret e_Row_init_19 rfl
theorem c_Row_init_15 {l : Launch} {G : KG} {M M' : Mm} (h : f_Row_init_15 M = some ((), M')) : CT l G y_Row_init md_Row_init 1 60 [rf G 15, .int (60 : Int32)] 16 (iniT 12) M none 17 (iniT 13) M' :=
  CT.ofI 0 (by decide) rfl (by show 2 ≤ 2; decide) rfl h (fun X _ hG hI h1 h2 => by subst hG; exact t_Row_init_15 hI h1 h2)
theorem x_Row_init_15 (M : Mm) : ∃ M', f_Row_init_15 M = some ((), M') := by
  unfold f_Row_init_15
  refine lT_ex ?_
  exact ⟨_, rfl⟩
def f_Row_init_17 (M : Mm) : Option (Unit × Mm) := (lT (zr M 18) fun M1 => some ((), M1))
set_option maxHeartbeats 4000000 in
set_option maxRecDepth 20000 in
theorem t_Row_init_17 {X : KX} {M : Mm} (hI : (kt X).name = "<init>") (hrc : 1 ≤ (kr X).cells) (hrs : 4 ≤ (kr X).slots) : GO X md_Row_init (QE X rvU (1, 4, 19, iniT 15)) 0 [some (rf (kG X) 17), some (.int (4 : Int32))] [] (0, 0, 18, iniT 14) M (f_Row_init_17 M) := by
  unfold f_Row_init_17
  refine g_aload_n e_Row_init_0 rfl ?_
  refine g_objI e_Row_init_1 ⟨w_170, w_20, w_21⟩ rfl ⟨by decide, Nat.le_of_ble_eq_true rfl⟩ ?_
  refine g_aload_n e_Row_init_4 rfl ?_
  refine g_iload_n e_Row_init_5 rfl ?_
  refine g_if_le' e_Row_init_6 (fun h => absurd h (by decide)) (fun _ => ?_)
  refine g_iload_n e_Row_init_9 rfl ?_
  refine g_goto e_Row_init_10 ?_
  refine g_newI (N := 4) (c' := 1) (s' := 4) (n' := 19) e_Row_init_14 w_183 kq_18 (by decide) (by decide) rfl rfl rfl ⟨Nat.le_trans (by decide) hrc, Nat.le_trans (by decide) hrs⟩ (fun M1 => ?_)
  refine g_putR (t' := 15) hI e_Row_init_16 fr_Row_9 kq_17 (by decide) fj_4_0 (show rkl[14]? = some (17, 0) from rfl) (fun v hv => by obtain ⟨a, rfl⟩ := hv; exact ⟨rfl, rfl⟩) rfl rfl ?_
  exact g_vret e_Row_init_19 rfl
theorem c_Row_init_17 {l : Launch} {G : KG} {M M' : Mm} (h : f_Row_init_17 M = some ((), M')) : CT l G y_Row_init md_Row_init 1 4 [rf G 17, .int (4 : Int32)] 18 (iniT 14) M none 19 (iniT 15) M' :=
  CT.ofI 0 (by decide) rfl (by show 2 ≤ 2; decide) rfl h (fun X _ hG hI h1 h2 => by subst hG; exact t_Row_init_17 hI h1 h2)
theorem x_Row_init_17 (M : Mm) : ∃ M', f_Row_init_17 M = some ((), M') := by
  unfold f_Row_init_17
  refine lT_ex ?_
  exact ⟨_, rfl⟩
def f_Plan_init_10 (M : Mm) : Option (Unit × Mm) := (lT (zr M 11) fun M1 => (bD (f_Row_init_11 M1) fun _ M2 => (lT (zr M2 13) fun M3 => (bD (f_Row_init_13 M3) fun _ M4 => (lT (zr M4 15) fun M5 => (bD (f_Row_init_15 M5) fun _ M6 => (lT (zr M6 17) fun M7 => (bD (f_Row_init_17 M7) fun _ M8 => some ((), M8)))))))))
set_option maxHeartbeats 4000000 in
set_option maxRecDepth 20000 in
theorem t_Plan_init_10 {X : KX} {M : Mm} (hI : (kt X).name = "<init>") (hrc : 8 ≤ (kr X).cells) (hrs : 192 ≤ (kr X).slots) : GO X md_Plan_init (QE X rvU (8, 192, 19, iniT 16)) 0 [some (rf (kG X) 10)] [] (0, 0, 11, iniT 8) M (f_Plan_init_10 M) := by
  unfold f_Plan_init_10
  refine g_aload_n e_Plan_init_0 rfl ?_
  refine g_objI e_Plan_init_1 ⟨w_200, w_20, w_21⟩ rfl ⟨by decide, Nat.le_of_ble_eq_true rfl⟩ ?_
  refine g_aload_n e_Plan_init_4 rfl ?_
  refine g_new (c' := 1) (s' := 2) (n' := 12) e_Plan_init_5 (show cls[4]? = some ("PressSheets$Row", tC4, 2) from rfl) ⟨w_201, w_166, w_7⟩ kq_11 yC4 pY4 dV4 (by decide +kernel) rfl rfl rfl ⟨Nat.le_trans (by decide) hrc, Nat.le_trans (by decide) hrs⟩ (fun M1 => ?_)
  refine g_dup e_Plan_init_8 rfl ?_
  refine g_bipush (x := (60 : Int32)) e_Plan_init_9 (by decide) ?_
  refine g_callI (mc := 1) (ms := 60) (c' := 2) (s' := 62) (As := [.int (60 : Int32)]) (st := [rf (kG X) 11, rf (kG X) 10]) e_Plan_init_11 ix_Plan_13 rfl rfl my_Row_init (by decide) rfl rfl (Nat.le_of_ble_eq_true rfl) rfl rfl ⟨Nat.le_trans (by decide) hrc, Nat.le_trans (by decide) hrs⟩ (fun _ h => c_Row_init_11 h) (fun M2 _ => ?_)
  refine g_putR (t' := 10) hI e_Plan_init_14 fr_Plan_16 kq_10 (by decide) fj_2_0 (show rkl[9]? = some (10, 0) from rfl) (fun v hv => by obtain ⟨a, rfl⟩ := hv; exact ⟨rfl, rfl⟩) rfl rfl ?_
  refine g_aload_n e_Plan_init_17 rfl ?_
  refine g_new (c' := 3) (s' := 64) (n' := 14) e_Plan_init_18 (show cls[4]? = some ("PressSheets$Row", tC4, 2) from rfl) ⟨w_201, w_166, w_7⟩ kq_13 yC4 pY4 dV4 (by decide +kernel) rfl rfl rfl ⟨Nat.le_trans (by decide) hrc, Nat.le_trans (by decide) hrs⟩ (fun M3 => ?_)
  refine g_dup e_Plan_init_21 rfl ?_
  refine g_bipush (x := (60 : Int32)) e_Plan_init_22 (by decide) ?_
  refine g_callI (mc := 1) (ms := 60) (c' := 4) (s' := 124) (As := [.int (60 : Int32)]) (st := [rf (kG X) 13, rf (kG X) 10]) e_Plan_init_24 ix_Plan_13 rfl rfl my_Row_init (by decide) rfl rfl (Nat.le_of_ble_eq_true rfl) rfl rfl ⟨Nat.le_trans (by decide) hrc, Nat.le_trans (by decide) hrs⟩ (fun _ h => c_Row_init_13 h) (fun M4 _ => ?_)
  refine g_putR (t' := 12) hI e_Plan_init_27 fr_Plan_20 kq_10 (by decide) fj_2_1 (show rkl[11]? = some (10, 1) from rfl) (fun v hv => by obtain ⟨a, rfl⟩ := hv; exact ⟨rfl, rfl⟩) rfl rfl ?_
  refine g_aload_n e_Plan_init_30 rfl ?_
  refine g_new (c' := 5) (s' := 126) (n' := 16) e_Plan_init_31 (show cls[4]? = some ("PressSheets$Row", tC4, 2) from rfl) ⟨w_201, w_166, w_7⟩ kq_15 yC4 pY4 dV4 (by decide +kernel) rfl rfl rfl ⟨Nat.le_trans (by decide) hrc, Nat.le_trans (by decide) hrs⟩ (fun M5 => ?_)
  refine g_dup e_Plan_init_34 rfl ?_
  refine g_bipush (x := (60 : Int32)) e_Plan_init_35 (by decide) ?_
  refine g_callI (mc := 1) (ms := 60) (c' := 6) (s' := 186) (As := [.int (60 : Int32)]) (st := [rf (kG X) 15, rf (kG X) 10]) e_Plan_init_37 ix_Plan_13 rfl rfl my_Row_init (by decide) rfl rfl (Nat.le_of_ble_eq_true rfl) rfl rfl ⟨Nat.le_trans (by decide) hrc, Nat.le_trans (by decide) hrs⟩ (fun _ h => c_Row_init_15 h) (fun M6 _ => ?_)
  refine g_putR (t' := 14) hI e_Plan_init_40 fr_Plan_23 kq_10 (by decide) fj_2_2 (show rkl[13]? = some (10, 2) from rfl) (fun v hv => by obtain ⟨a, rfl⟩ := hv; exact ⟨rfl, rfl⟩) rfl rfl ?_
  refine g_aload_n e_Plan_init_43 rfl ?_
  refine g_new (c' := 7) (s' := 188) (n' := 18) e_Plan_init_44 (show cls[4]? = some ("PressSheets$Row", tC4, 2) from rfl) ⟨w_201, w_166, w_7⟩ kq_17 yC4 pY4 dV4 (by decide +kernel) rfl rfl rfl ⟨Nat.le_trans (by decide) hrc, Nat.le_trans (by decide) hrs⟩ (fun M7 => ?_)
  refine g_dup e_Plan_init_47 rfl ?_
  refine g_iconst (x := (4 : Int32)) e_Plan_init_48 (by decide) ?_
  refine g_callI (mc := 1) (ms := 4) (c' := 8) (s' := 192) (As := [.int (4 : Int32)]) (st := [rf (kG X) 17, rf (kG X) 10]) e_Plan_init_49 ix_Plan_13 rfl rfl my_Row_init (by decide) rfl rfl (Nat.le_of_ble_eq_true rfl) rfl rfl ⟨Nat.le_trans (by decide) hrc, Nat.le_trans (by decide) hrs⟩ (fun _ h => c_Row_init_17 h) (fun M8 _ => ?_)
  refine g_putR (t' := 16) hI e_Plan_init_52 fr_Plan_26 kq_10 (by decide) fj_2_3 (show rkl[15]? = some (10, 3) from rfl) (fun v hv => by obtain ⟨a, rfl⟩ := hv; exact ⟨rfl, rfl⟩) rfl rfl ?_
  exact g_vret e_Plan_init_55 rfl
theorem c_Plan_init_10 {l : Launch} {G : KG} {M M' : Mm} (h : f_Plan_init_10 M = some ((), M')) : CT l G y_Plan_init md_Plan_init 8 192 [rf G 10] 11 (iniT 8) M none 19 (iniT 16) M' :=
  CT.ofI 0 (by decide) rfl (by show 1 ≤ 1; decide) rfl h (fun X _ hG hI h1 h2 => by subst hG; exact t_Plan_init_10 hI h1 h2)
theorem x_Plan_init_10 (M : Mm) : ∃ M', f_Plan_init_10 M = some ((), M') := by
  unfold f_Plan_init_10
  refine lT_ex ?_
  refine bD_ex (x_Row_init_11 _) (fun _ => ?_)
  refine lT_ex ?_
  refine bD_ex (x_Row_init_13 _) (fun _ => ?_)
  refine lT_ex ?_
  refine bD_ex (x_Row_init_15 _) (fun _ => ?_)
  refine lT_ex ?_
  refine bD_ex (x_Row_init_17 _) (fun _ => ?_)
  exact ⟨_, rfl⟩
def f_Row_init_19 (M : Mm) : Option (Unit × Mm) := (lT (zr M 20) fun M1 => some ((), M1))
set_option maxHeartbeats 4000000 in
set_option maxRecDepth 20000 in
theorem t_Row_init_19 {X : KX} {M : Mm} (hI : (kt X).name = "<init>") (hrc : 1 ≤ (kr X).cells) (hrs : 5 ≤ (kr X).slots) : GO X md_Row_init (QE X rvU (1, 5, 21, iniT 18)) 0 [some (rf (kG X) 19), some (.int (5 : Int32))] [] (0, 0, 20, iniT 17) M (f_Row_init_19 M) := by
  unfold f_Row_init_19
  refine g_aload_n e_Row_init_0 rfl ?_
  refine g_objI e_Row_init_1 ⟨w_170, w_20, w_21⟩ rfl ⟨by decide, Nat.le_of_ble_eq_true rfl⟩ ?_
  refine g_aload_n e_Row_init_4 rfl ?_
  refine g_iload_n e_Row_init_5 rfl ?_
  refine g_if_le' e_Row_init_6 (fun h => absurd h (by decide)) (fun _ => ?_)
  refine g_iload_n e_Row_init_9 rfl ?_
  refine g_goto e_Row_init_10 ?_
  refine g_newI (N := 5) (c' := 1) (s' := 5) (n' := 21) e_Row_init_14 w_183 kq_20 (by decide) (by decide) rfl rfl rfl ⟨Nat.le_trans (by decide) hrc, Nat.le_trans (by decide) hrs⟩ (fun M1 => ?_)
  refine g_putR (t' := 18) hI e_Row_init_16 fr_Row_9 kq_19 (by decide) fj_4_0 (show rkl[17]? = some (19, 0) from rfl) (fun v hv => by obtain ⟨a, rfl⟩ := hv; exact ⟨rfl, rfl⟩) rfl rfl ?_
  exact g_vret e_Row_init_19 rfl
theorem c_Row_init_19 {l : Launch} {G : KG} {M M' : Mm} (h : f_Row_init_19 M = some ((), M')) : CT l G y_Row_init md_Row_init 1 5 [rf G 19, .int (5 : Int32)] 20 (iniT 17) M none 21 (iniT 18) M' :=
  CT.ofI 0 (by decide) rfl (by show 2 ≤ 2; decide) rfl h (fun X _ hG hI h1 h2 => by subst hG; exact t_Row_init_19 hI h1 h2)
theorem x_Row_init_19 (M : Mm) : ∃ M', f_Row_init_19 M = some ((), M') := by
  unfold f_Row_init_19
  refine lT_ex ?_
  exact ⟨_, rfl⟩
def f_Row_init_21 (M : Mm) : Option (Unit × Mm) := (lT (zr M 22) fun M1 => some ((), M1))
set_option maxHeartbeats 4000000 in
set_option maxRecDepth 20000 in
theorem t_Row_init_21 {X : KX} {M : Mm} (hI : (kt X).name = "<init>") (hrc : 1 ≤ (kr X).cells) (hrs : 5 ≤ (kr X).slots) : GO X md_Row_init (QE X rvU (1, 5, 23, iniT 20)) 0 [some (rf (kG X) 21), some (.int (5 : Int32))] [] (0, 0, 22, iniT 19) M (f_Row_init_21 M) := by
  unfold f_Row_init_21
  refine g_aload_n e_Row_init_0 rfl ?_
  refine g_objI e_Row_init_1 ⟨w_170, w_20, w_21⟩ rfl ⟨by decide, Nat.le_of_ble_eq_true rfl⟩ ?_
  refine g_aload_n e_Row_init_4 rfl ?_
  refine g_iload_n e_Row_init_5 rfl ?_
  refine g_if_le' e_Row_init_6 (fun h => absurd h (by decide)) (fun _ => ?_)
  refine g_iload_n e_Row_init_9 rfl ?_
  refine g_goto e_Row_init_10 ?_
  refine g_newI (N := 5) (c' := 1) (s' := 5) (n' := 23) e_Row_init_14 w_183 kq_22 (by decide) (by decide) rfl rfl rfl ⟨Nat.le_trans (by decide) hrc, Nat.le_trans (by decide) hrs⟩ (fun M1 => ?_)
  refine g_putR (t' := 20) hI e_Row_init_16 fr_Row_9 kq_21 (by decide) fj_4_0 (show rkl[19]? = some (21, 0) from rfl) (fun v hv => by obtain ⟨a, rfl⟩ := hv; exact ⟨rfl, rfl⟩) rfl rfl ?_
  exact g_vret e_Row_init_19 rfl
theorem c_Row_init_21 {l : Launch} {G : KG} {M M' : Mm} (h : f_Row_init_21 M = some ((), M')) : CT l G y_Row_init md_Row_init 1 5 [rf G 21, .int (5 : Int32)] 22 (iniT 19) M none 23 (iniT 20) M' :=
  CT.ofI 0 (by decide) rfl (by show 2 ≤ 2; decide) rfl h (fun X _ hG hI h1 h2 => by subst hG; exact t_Row_init_21 hI h1 h2)
theorem x_Row_init_21 (M : Mm) : ∃ M', f_Row_init_21 M = some ((), M') := by
  unfold f_Row_init_21
  refine lT_ex ?_
  exact ⟨_, rfl⟩
def f_Row_init_23 (M : Mm) : Option (Unit × Mm) := (lT (zr M 24) fun M1 => some ((), M1))
set_option maxHeartbeats 4000000 in
set_option maxRecDepth 20000 in
theorem t_Row_init_23 {X : KX} {M : Mm} (hI : (kt X).name = "<init>") (hrc : 1 ≤ (kr X).cells) (hrs : 8 ≤ (kr X).slots) : GO X md_Row_init (QE X rvU (1, 8, 25, iniT 22)) 0 [some (rf (kG X) 23), some (.int (8 : Int32))] [] (0, 0, 24, iniT 21) M (f_Row_init_23 M) := by
  unfold f_Row_init_23
  refine g_aload_n e_Row_init_0 rfl ?_
  refine g_objI e_Row_init_1 ⟨w_170, w_20, w_21⟩ rfl ⟨by decide, Nat.le_of_ble_eq_true rfl⟩ ?_
  refine g_aload_n e_Row_init_4 rfl ?_
  refine g_iload_n e_Row_init_5 rfl ?_
  refine g_if_le' e_Row_init_6 (fun h => absurd h (by decide)) (fun _ => ?_)
  refine g_iload_n e_Row_init_9 rfl ?_
  refine g_goto e_Row_init_10 ?_
  refine g_newI (N := 8) (c' := 1) (s' := 8) (n' := 25) e_Row_init_14 w_183 kq_24 (by decide) (by decide) rfl rfl rfl ⟨Nat.le_trans (by decide) hrc, Nat.le_trans (by decide) hrs⟩ (fun M1 => ?_)
  refine g_putR (t' := 22) hI e_Row_init_16 fr_Row_9 kq_23 (by decide) fj_4_0 (show rkl[21]? = some (23, 0) from rfl) (fun v hv => by obtain ⟨a, rfl⟩ := hv; exact ⟨rfl, rfl⟩) rfl rfl ?_
  exact g_vret e_Row_init_19 rfl
theorem c_Row_init_23 {l : Launch} {G : KG} {M M' : Mm} (h : f_Row_init_23 M = some ((), M')) : CT l G y_Row_init md_Row_init 1 8 [rf G 23, .int (8 : Int32)] 24 (iniT 21) M none 25 (iniT 22) M' :=
  CT.ofI 0 (by decide) rfl (by show 2 ≤ 2; decide) rfl h (fun X _ hG hI h1 h2 => by subst hG; exact t_Row_init_23 hI h1 h2)
theorem x_Row_init_23 (M : Mm) : ∃ M', f_Row_init_23 M = some ((), M') := by
  unfold f_Row_init_23
  refine lT_ex ?_
  exact ⟨_, rfl⟩
def f_Row_init_25 (M : Mm) : Option (Unit × Mm) := (lT (zr M 26) fun M1 => some ((), M1))
set_option maxHeartbeats 4000000 in
set_option maxRecDepth 20000 in
theorem t_Row_init_25 {X : KX} {M : Mm} (hI : (kt X).name = "<init>") (hrc : 1 ≤ (kr X).cells) (hrs : 8 ≤ (kr X).slots) : GO X md_Row_init (QE X rvU (1, 8, 27, iniT 24)) 0 [some (rf (kG X) 25), some (.int (8 : Int32))] [] (0, 0, 26, iniT 23) M (f_Row_init_25 M) := by
  unfold f_Row_init_25
  refine g_aload_n e_Row_init_0 rfl ?_
  refine g_objI e_Row_init_1 ⟨w_170, w_20, w_21⟩ rfl ⟨by decide, Nat.le_of_ble_eq_true rfl⟩ ?_
  refine g_aload_n e_Row_init_4 rfl ?_
  refine g_iload_n e_Row_init_5 rfl ?_
  refine g_if_le' e_Row_init_6 (fun h => absurd h (by decide)) (fun _ => ?_)
  refine g_iload_n e_Row_init_9 rfl ?_
  refine g_goto e_Row_init_10 ?_
  refine g_newI (N := 8) (c' := 1) (s' := 8) (n' := 27) e_Row_init_14 w_183 kq_26 (by decide) (by decide) rfl rfl rfl ⟨Nat.le_trans (by decide) hrc, Nat.le_trans (by decide) hrs⟩ (fun M1 => ?_)
  refine g_putR (t' := 24) hI e_Row_init_16 fr_Row_9 kq_25 (by decide) fj_4_0 (show rkl[23]? = some (25, 0) from rfl) (fun v hv => by obtain ⟨a, rfl⟩ := hv; exact ⟨rfl, rfl⟩) rfl rfl ?_
  exact g_vret e_Row_init_19 rfl
theorem c_Row_init_25 {l : Launch} {G : KG} {M M' : Mm} (h : f_Row_init_25 M = some ((), M')) : CT l G y_Row_init md_Row_init 1 8 [rf G 25, .int (8 : Int32)] 26 (iniT 23) M none 27 (iniT 24) M' :=
  CT.ofI 0 (by decide) rfl (by show 2 ≤ 2; decide) rfl h (fun X _ hG hI h1 h2 => by subst hG; exact t_Row_init_25 hI h1 h2)
theorem x_Row_init_25 (M : Mm) : ∃ M', f_Row_init_25 M = some ((), M') := by
  unfold f_Row_init_25
  refine lT_ex ?_
  exact ⟨_, rfl⟩
def f_State_init_1 (M : Mm) : Option (Unit × Mm) := (lT (zr M 2) fun M1 => (bD (f_Job_init_2 M1) fun _ M2 => (lT (zr M2 5) fun M3 => (bD (f_Press_init_5 M3) fun _ M4 => (lT (zr M4 10) fun M5 => (bD (f_Plan_init_10 M5) fun _ M6 => (lT (zr M6 19) fun M7 => (bD (f_Row_init_19 M7) fun _ M8 => (lT (zr M8 21) fun M9 => (bD (f_Row_init_21 M9) fun _ M10 => (lT (zr M10 23) fun M11 => (bD (f_Row_init_23 M11) fun _ M12 => (lT (zr M12 25) fun M13 => (bD (f_Row_init_25 M13) fun _ M14 => some ((), M14)))))))))))))))
set_option maxHeartbeats 4000000 in
set_option maxRecDepth 20000 in
theorem t_State_init_1 {X : KX} {M : Mm} (hI : (kt X).name = "<init>") (hrc : 25 ≤ (kr X).cells) (hrs : 362 ≤ (kr X).slots) : GO X md_State_init (QE X rvU (25, 362, 27, iniT 25)) 0 [some (rf (kG X) 1)] [] (0, 0, 2, iniT 0) M (f_State_init_1 M) := by
  unfold f_State_init_1
  refine g_aload_n e_State_init_0 rfl ?_
  refine g_objI e_State_init_1 ⟨w_27, w_20, w_21⟩ rfl ⟨by decide, Nat.le_of_ble_eq_true rfl⟩ ?_
  refine g_aload_n e_State_init_4 rfl ?_
  refine g_new (c' := 1) (s' := 11) (n' := 3) e_State_init_5 (show cls[0]? = some ("PressSheets$Job", tC0, 11) from rfl) ⟨w_28, w_29, w_3⟩ kq_2 yC0 pY0 dV0 (by decide +kernel) rfl rfl rfl ⟨Nat.le_trans (by decide) hrc, Nat.le_trans (by decide) hrs⟩ (fun M1 => ?_)
  refine g_dup e_State_init_8 rfl ?_
  refine g_callI (mc := 2) (ms := 11) (c' := 3) (s' := 22) (As := []) (st := [rf (kG X) 2, rf (kG X) 1]) e_State_init_9 ix_State_11 rfl rfl my_Job_init (by decide) rfl rfl (Nat.le_of_ble_eq_true rfl) rfl rfl ⟨Nat.le_trans (by decide) hrc, Nat.le_trans (by decide) hrs⟩ (fun _ h => c_Job_init_2 h) (fun M2 _ => ?_)
  refine g_putR (t' := 3) hI e_State_init_12 fr_State_12 kq_1 (by decide) fj_6_0 (show rkl[2]? = some (1, 0) from rfl) (fun v hv => by obtain ⟨a, rfl⟩ := hv; exact ⟨rfl, rfl⟩) rfl rfl ?_
  refine g_aload_n e_State_init_15 rfl ?_
  refine g_new (c' := 4) (s' := 24) (n' := 6) e_State_init_16 (show cls[3]? = some ("PressSheets$Press", tC3, 2) from rfl) ⟨w_159, w_160, w_6⟩ kq_5 yC3 pY3 dV3 (by decide +kernel) rfl rfl rfl ⟨Nat.le_trans (by decide) hrc, Nat.le_trans (by decide) hrs⟩ (fun M3 => ?_)
  refine g_dup e_State_init_19 rfl ?_
  refine g_callIN (mc := 4) (ms := 108) (c' := 8) (s' := 132) (As := []) (st := [rf (kG X) 5, rf (kG X) 1]) e_State_init_20 in_State_20 rfl rfl my_Press_init (by decide) rfl rfl (Nat.le_of_ble_eq_true rfl) rfl rfl ⟨Nat.le_trans (by decide) hrc, Nat.le_trans (by decide) hrs⟩ (fun _ h => c_Press_init_5 h) (fun M4 _ => ?_)
  refine g_putR (t' := 8) hI e_State_init_23 fr_State_21 kq_1 (by decide) fj_6_1 (show rkl[7]? = some (1, 1) from rfl) (fun v hv => by obtain ⟨a, rfl⟩ := hv; exact ⟨rfl, rfl⟩) rfl rfl ?_
  refine g_aload_n e_State_init_26 rfl ?_
  refine g_new (c' := 9) (s' := 136) (n' := 11) e_State_init_27 (show cls[2]? = some ("PressSheets$Plan", tC2, 4) from rfl) ⟨w_195, w_196, w_8⟩ kq_10 yC2 pY2 dV2 (by decide +kernel) rfl rfl rfl ⟨Nat.le_trans (by decide) hrc, Nat.le_trans (by decide) hrs⟩ (fun M5 => ?_)
  refine g_dup e_State_init_30 rfl ?_
  refine g_callIN (mc := 8) (ms := 192) (c' := 17) (s' := 328) (As := []) (st := [rf (kG X) 10, rf (kG X) 1]) e_State_init_31 in_State_27 rfl rfl my_Plan_init (by decide) rfl rfl (Nat.le_of_ble_eq_true rfl) rfl rfl ⟨Nat.le_trans (by decide) hrc, Nat.le_trans (by decide) hrs⟩ (fun _ h => c_Plan_init_10 h) (fun M6 _ => ?_)
  refine g_putR (t' := 17) hI e_State_init_34 fr_State_28 kq_1 (by decide) fj_6_2 (show rkl[16]? = some (1, 2) from rfl) (fun v hv => by obtain ⟨a, rfl⟩ := hv; exact ⟨rfl, rfl⟩) rfl rfl ?_
  refine g_aload_n e_State_init_37 rfl ?_
  refine g_new (c' := 18) (s' := 330) (n' := 20) e_State_init_38 (show cls[4]? = some ("PressSheets$Row", tC4, 2) from rfl) ⟨w_220, w_166, w_7⟩ kq_19 yC4 pY4 dV4 (by decide +kernel) rfl rfl rfl ⟨Nat.le_trans (by decide) hrc, Nat.le_trans (by decide) hrs⟩ (fun M7 => ?_)
  refine g_dup e_State_init_41 rfl ?_
  refine g_iconst (x := (5 : Int32)) e_State_init_42 (by decide) ?_
  refine g_callI (mc := 1) (ms := 5) (c' := 19) (s' := 335) (As := [.int (5 : Int32)]) (st := [rf (kG X) 19, rf (kG X) 1]) e_State_init_43 ix_State_34 rfl rfl my_Row_init (by decide) rfl rfl (Nat.le_of_ble_eq_true rfl) rfl rfl ⟨Nat.le_trans (by decide) hrc, Nat.le_trans (by decide) hrs⟩ (fun _ h => c_Row_init_19 h) (fun M8 _ => ?_)
  refine g_putR (t' := 19) hI e_State_init_46 fr_State_37 kq_1 (by decide) fj_6_3 (show rkl[18]? = some (1, 3) from rfl) (fun v hv => by obtain ⟨a, rfl⟩ := hv; exact ⟨rfl, rfl⟩) rfl rfl ?_
  refine g_aload_n e_State_init_49 rfl ?_
  refine g_new (c' := 20) (s' := 337) (n' := 22) e_State_init_50 (show cls[4]? = some ("PressSheets$Row", tC4, 2) from rfl) ⟨w_220, w_166, w_7⟩ kq_21 yC4 pY4 dV4 (by decide +kernel) rfl rfl rfl ⟨Nat.le_trans (by decide) hrc, Nat.le_trans (by decide) hrs⟩ (fun M9 => ?_)
  refine g_dup e_State_init_53 rfl ?_
  refine g_iconst (x := (5 : Int32)) e_State_init_54 (by decide) ?_
  refine g_callI (mc := 1) (ms := 5) (c' := 21) (s' := 342) (As := [.int (5 : Int32)]) (st := [rf (kG X) 21, rf (kG X) 1]) e_State_init_55 ix_State_34 rfl rfl my_Row_init (by decide) rfl rfl (Nat.le_of_ble_eq_true rfl) rfl rfl ⟨Nat.le_trans (by decide) hrc, Nat.le_trans (by decide) hrs⟩ (fun _ h => c_Row_init_21 h) (fun M10 _ => ?_)
  refine g_putR (t' := 21) hI e_State_init_58 fr_State_41 kq_1 (by decide) fj_6_4 (show rkl[20]? = some (1, 4) from rfl) (fun v hv => by obtain ⟨a, rfl⟩ := hv; exact ⟨rfl, rfl⟩) rfl rfl ?_
  refine g_aload_n e_State_init_61 rfl ?_
  refine g_new (c' := 22) (s' := 344) (n' := 24) e_State_init_62 (show cls[4]? = some ("PressSheets$Row", tC4, 2) from rfl) ⟨w_220, w_166, w_7⟩ kq_23 yC4 pY4 dV4 (by decide +kernel) rfl rfl rfl ⟨Nat.le_trans (by decide) hrc, Nat.le_trans (by decide) hrs⟩ (fun M11 => ?_)
  refine g_dup e_State_init_65 rfl ?_
  refine g_bipush (x := (8 : Int32)) e_State_init_66 (by decide) ?_
  refine g_callI (mc := 1) (ms := 8) (c' := 23) (s' := 352) (As := [.int (8 : Int32)]) (st := [rf (kG X) 23, rf (kG X) 1]) e_State_init_68 ix_State_34 rfl rfl my_Row_init (by decide) rfl rfl (Nat.le_of_ble_eq_true rfl) rfl rfl ⟨Nat.le_trans (by decide) hrc, Nat.le_trans (by decide) hrs⟩ (fun _ h => c_Row_init_23 h) (fun M12 _ => ?_)
  refine g_putR (t' := 23) hI e_State_init_71 fr_State_44 kq_1 (by decide) fj_6_5 (show rkl[22]? = some (1, 5) from rfl) (fun v hv => by obtain ⟨a, rfl⟩ := hv; exact ⟨rfl, rfl⟩) rfl rfl ?_
  refine g_aload_n e_State_init_74 rfl ?_
  refine g_new (c' := 24) (s' := 354) (n' := 26) e_State_init_75 (show cls[4]? = some ("PressSheets$Row", tC4, 2) from rfl) ⟨w_220, w_166, w_7⟩ kq_25 yC4 pY4 dV4 (by decide +kernel) rfl rfl rfl ⟨Nat.le_trans (by decide) hrc, Nat.le_trans (by decide) hrs⟩ (fun M13 => ?_)
  refine g_dup e_State_init_78 rfl ?_
  refine g_bipush (x := (8 : Int32)) e_State_init_79 (by decide) ?_
  refine g_callI (mc := 1) (ms := 8) (c' := 25) (s' := 362) (As := [.int (8 : Int32)]) (st := [rf (kG X) 25, rf (kG X) 1]) e_State_init_81 ix_State_34 rfl rfl my_Row_init (by decide) rfl rfl (Nat.le_of_ble_eq_true rfl) rfl rfl ⟨Nat.le_trans (by decide) hrc, Nat.le_trans (by decide) hrs⟩ (fun _ h => c_Row_init_25 h) (fun M14 _ => ?_)
  refine g_putR (t' := 25) hI e_State_init_84 fr_State_47 kq_1 (by decide) fj_6_6 (show rkl[24]? = some (1, 6) from rfl) (fun v hv => by obtain ⟨a, rfl⟩ := hv; exact ⟨rfl, rfl⟩) rfl rfl ?_
  exact g_vret e_State_init_87 rfl
theorem c_State_init_1 {l : Launch} {G : KG} {M M' : Mm} (h : f_State_init_1 M = some ((), M')) : CT l G y_State_init md_State_init 25 362 [rf G 1] 2 (iniT 0) M none 27 (iniT 25) M' :=
  CT.ofI 0 (by decide) rfl (by show 1 ≤ 1; decide) rfl h (fun X _ hG hI h1 h2 => by subst hG; exact t_State_init_1 hI h1 h2)
theorem x_State_init_1 (M : Mm) : ∃ M', f_State_init_1 M = some ((), M') := by
  unfold f_State_init_1
  refine lT_ex ?_
  refine bD_ex (x_Job_init_2 _) (fun _ => ?_)
  refine lT_ex ?_
  refine bD_ex (x_Press_init_5 _) (fun _ => ?_)
  refine lT_ex ?_
  refine bD_ex (x_Plan_init_10 _) (fun _ => ?_)
  refine lT_ex ?_
  refine bD_ex (x_Row_init_19 _) (fun _ => ?_)
  refine lT_ex ?_
  refine bD_ex (x_Row_init_21 _) (fun _ => ?_)
  refine lT_ex ?_
  refine bD_ex (x_Row_init_23 _) (fun _ => ?_)
  refine lT_ex ?_
  refine bD_ex (x_Row_init_25 _) (fun _ => ?_)
  exact ⟨_, rfl⟩
def f_Leaf_init_29 (M : Mm) : Option (Unit × Mm) := some ((), M)
set_option maxHeartbeats 4000000 in
set_option maxRecDepth 20000 in
theorem t_Leaf_init_29 {X : KX} {M : Mm} (hI : (kt X).name = "<init>") (hrc : 0 ≤ (kr X).cells) (hrs : 0 ≤ (kr X).slots) : GO X md_Leaf_init (QE X rvU (0, 0, 30, iniT 26)) 0 [some (rf (kG X) 29)] [] (0, 0, 30, iniT 26) M (f_Leaf_init_29 M) := by
  unfold f_Leaf_init_29
  refine g_aload_n e_Leaf_init_0 rfl ?_
  refine g_objI e_Leaf_init_1 ⟨w_39, w_20, w_21⟩ rfl ⟨by decide, Nat.le_of_ble_eq_true rfl⟩ ?_
  exact g_vret e_Leaf_init_4 rfl
theorem c_Leaf_init_29 {l : Launch} {G : KG} {M M' : Mm} (h : f_Leaf_init_29 M = some ((), M')) : CT l G y_Leaf_init md_Leaf_init 0 0 [rf G 29] 30 (iniT 26) M none 30 (iniT 26) M' :=
  CT.ofI 0 (by decide) rfl (by show 1 ≤ 1; decide) rfl h (fun X _ hG hI h1 h2 => by subst hG; exact t_Leaf_init_29 hI h1 h2)
theorem x_Leaf_init_29 (M : Mm) : ∃ M', f_Leaf_init_29 M = some ((), M') := by
  unfold f_Leaf_init_29
  exact ⟨_, rfl⟩
def f_Spot_init_30 (M : Mm) : Option (Unit × Mm) := some ((), M)
set_option maxHeartbeats 4000000 in
set_option maxRecDepth 20000 in
theorem t_Spot_init_30 {X : KX} {M : Mm} (hI : (kt X).name = "<init>") (hrc : 0 ≤ (kr X).cells) (hrs : 0 ≤ (kr X).slots) : GO X md_Spot_init (QE X rvU (0, 0, 31, iniT 27)) 0 [some (rf (kG X) 30)] [] (0, 0, 31, iniT 27) M (f_Spot_init_30 M) := by
  unfold f_Spot_init_30
  refine g_aload_n e_Spot_init_0 rfl ?_
  refine g_objI e_Spot_init_1 ⟨w_69, w_20, w_21⟩ rfl ⟨by decide, Nat.le_of_ble_eq_true rfl⟩ ?_
  exact g_vret e_Spot_init_4 rfl
theorem c_Spot_init_30 {l : Launch} {G : KG} {M M' : Mm} (h : f_Spot_init_30 M = some ((), M')) : CT l G y_Spot_init md_Spot_init 0 0 [rf G 30] 31 (iniT 27) M none 31 (iniT 27) M' :=
  CT.ofI 0 (by decide) rfl (by show 1 ≤ 1; decide) rfl h (fun X _ hG hI h1 h2 => by subst hG; exact t_Spot_init_30 hI h1 h2)
theorem x_Spot_init_30 (M : Mm) : ∃ M', f_Spot_init_30 M = some ((), M') := by
  unfold f_Spot_init_30
  exact ⟨_, rfl⟩
def f_Job_init_28 (M : Mm) : Option (Unit × Mm) := (lT (wI M 28 4 (4 : Int32)) fun M1 => (lT (wI M1 28 7 (100 : Int32)) fun M2 => (lT (wI M2 28 8 (1 : Int32)) fun M3 => (lT (zr M3 29) fun M4 => (bD (f_Leaf_init_29 M4) fun _ M5 => (lT (zr M5 30) fun M6 => (bD (f_Spot_init_30 M6) fun _ M7 => (bD (f_Job_foldBy 28 (1 : Int32) (0 : Int32) M7) fun _ M8 => some ((), M8)))))))))
set_option maxHeartbeats 4000000 in
set_option maxRecDepth 20000 in
theorem t_Job_init_28 {X : KX} {M : Mm} (hI : (kt X).name = "<init>") (hrc : 2 ≤ (kr X).cells) (hrs : 11 ≤ (kr X).slots) : GO X md_Job_init (QE X rvU (2, 11, 31, iniT 28)) 0 [some (rf (kG X) 28)] [] (0, 0, 29, iniT 26) M (f_Job_init_28 M) := by
  unfold f_Job_init_28
  refine g_aload_n e_Job_init_0 rfl ?_
  refine g_objI e_Job_init_1 ⟨w_33, w_20, w_21⟩ rfl ⟨by decide, Nat.le_of_ble_eq_true rfl⟩ ?_
  refine g_aload_n e_Job_init_4 rfl ?_
  refine g_iconst (x := (4 : Int32)) e_Job_init_5 (by decide) ?_
  refine g_putL e_Job_init_6 fp_Job_9_ kq_28 (by decide) fj_0_4 rfl rfl (fun M1 => ?_)
  refine g_aload_n e_Job_init_9 rfl ?_
  refine g_bipush (x := (100 : Int32)) e_Job_init_10 (by decide) ?_
  refine g_putL e_Job_init_12 fp_Job_15_ kq_28 (by decide) fj_0_7 rfl rfl (fun M2 => ?_)
  refine g_aload_n e_Job_init_15 rfl ?_
  refine g_iconst (x := (1 : Int32)) e_Job_init_16 (by decide) ?_
  refine g_putL e_Job_init_17 fp_Job_18_ kq_28 (by decide) fj_0_8 rfl rfl (fun M3 => ?_)
  refine g_aload_n e_Job_init_20 rfl ?_
  refine g_new (c' := 1) (s' := 5) (n' := 30) e_Job_init_21 (show cls[1]? = some ("PressSheets$Leaf", tC1, 5) from rfl) ⟨w_34, w_35, w_4⟩ kq_29 yC1 pY1 dV1 (by decide +kernel) rfl rfl rfl ⟨Nat.le_trans (by decide) hrc, Nat.le_trans (by decide) hrs⟩ (fun M4 => ?_)
  refine g_dup e_Job_init_24 rfl ?_
  refine g_callIN (mc := 0) (ms := 0) (c' := 1) (s' := 5) (As := []) (st := [rf (kG X) 29, rf (kG X) 28]) e_Job_init_25 in_Job_23 rfl rfl my_Leaf_init (by decide) rfl rfl (Nat.le_of_ble_eq_true rfl) rfl rfl ⟨Nat.le_trans (by decide) hrc, Nat.le_trans (by decide) hrs⟩ (fun _ h => c_Leaf_init_29 h) (fun M5 _ => ?_)
  refine g_putR (t' := 27) hI e_Job_init_28 fr_Job_24 kq_28 (by decide) fj_0_9 (show rkl[26]? = some (28, 9) from rfl) (fun v hv => by obtain ⟨a, rfl⟩ := hv; exact ⟨rfl, rfl⟩) rfl rfl ?_
  refine g_aload_n e_Job_init_31 rfl ?_
  refine g_new (c' := 2) (s' := 11) (n' := 31) e_Job_init_32 (show cls[5]? = some ("PressSheets$Spot", tC5, 6) from rfl) ⟨w_64, w_65, w_5⟩ kq_30 yC5 pY5 dV5 (by decide +kernel) rfl rfl rfl ⟨Nat.le_trans (by decide) hrc, Nat.le_trans (by decide) hrs⟩ (fun M6 => ?_)
  refine g_dup e_Job_init_35 rfl ?_
  refine g_callIN (mc := 0) (ms := 0) (c' := 2) (s' := 11) (As := []) (st := [rf (kG X) 30, rf (kG X) 28]) e_Job_init_36 in_Job_30 rfl rfl my_Spot_init (by decide) rfl rfl (Nat.le_of_ble_eq_true rfl) rfl rfl ⟨Nat.le_trans (by decide) hrc, Nat.le_trans (by decide) hrs⟩ (fun _ h => c_Spot_init_30 h) (fun M7 _ => ?_)
  refine g_putR (t' := 28) hI e_Job_init_39 fr_Job_31 kq_28 (by decide) fj_0_10 (show rkl[27]? = some (28, 10) from rfl) (fun v hv => by obtain ⟨a, rfl⟩ := hv; exact ⟨rfl, rfl⟩) rfl rfl ?_
  refine g_aload_n e_Job_init_42 rfl ?_
  refine g_iconst (x := (1 : Int32)) e_Job_init_43 (by decide) ?_
  refine g_iconst (x := (0 : Int32)) e_Job_init_44 (by decide) ?_
  refine g_callV (rv := rvU) (As := [.int (1 : Int32), .int (0 : Int32)]) (st := []) e_Job_init_45 mv_Job_35 my_Job_foldBy (by decide) rfl rfl kq_28 (by decide) rfl (Nat.le_of_ble_eq_true rfl) rfl (fun r M1 h => c_Job_foldBy (Z := (2, 11, 31, iniT 28)) (by decide) kq_28 h) (fun _ M8 _ => ?_)
  exact g_vret e_Job_init_48 rfl
theorem c_Job_init_28 {l : Launch} {G : KG} {M M' : Mm} (h : f_Job_init_28 M = some ((), M')) : CT l G y_Job_init md_Job_init 2 11 [rf G 28] 29 (iniT 26) M none 31 (iniT 28) M' :=
  CT.ofI 0 (by decide) rfl (by show 1 ≤ 1; decide) rfl h (fun X _ hG hI h1 h2 => by subst hG; exact t_Job_init_28 hI h1 h2)
theorem x_Job_init_28 (M : Mm) : ∃ M', f_Job_init_28 M = some ((), M') := by
  unfold f_Job_init_28
  refine lT_ex ?_
  refine lT_ex ?_
  refine lT_ex ?_
  refine lT_ex ?_
  refine bD_ex (x_Leaf_init_29 _) (fun _ => ?_)
  refine lT_ex ?_
  refine bD_ex (x_Spot_init_30 _) (fun _ => ?_)
  refine bD_ex (fbI 28 _) (fun _ => ?_)
  exact ⟨_, rfl⟩
def f_Row_init_32 (M : Mm) : Option (Unit × Mm) := (lT (zr M 33) fun M1 => some ((), M1))
set_option maxHeartbeats 4000000 in
set_option maxRecDepth 20000 in
theorem t_Row_init_32 {X : KX} {M : Mm} (hI : (kt X).name = "<init>") (hrc : 1 ≤ (kr X).cells) (hrs : 40 ≤ (kr X).slots) : GO X md_Row_init (QE X rvU (1, 40, 34, iniT 30)) 0 [some (rf (kG X) 32), some (.int (40 : Int32))] [] (0, 0, 33, iniT 29) M (f_Row_init_32 M) := by
  unfold f_Row_init_32
  refine g_aload_n e_Row_init_0 rfl ?_
  refine g_objI e_Row_init_1 ⟨w_170, w_20, w_21⟩ rfl ⟨by decide, Nat.le_of_ble_eq_true rfl⟩ ?_
  refine g_aload_n e_Row_init_4 rfl ?_
  refine g_iload_n e_Row_init_5 rfl ?_
  refine g_if_le' e_Row_init_6 (fun h => absurd h (by decide)) (fun _ => ?_)
  refine g_iload_n e_Row_init_9 rfl ?_
  refine g_goto e_Row_init_10 ?_
  refine g_newI (N := 40) (c' := 1) (s' := 40) (n' := 34) e_Row_init_14 w_183 kq_33 (by decide) (by decide) rfl rfl rfl ⟨Nat.le_trans (by decide) hrc, Nat.le_trans (by decide) hrs⟩ (fun M1 => ?_)
  refine g_putR (t' := 30) hI e_Row_init_16 fr_Row_9 kq_32 (by decide) fj_4_0 (show rkl[29]? = some (32, 0) from rfl) (fun v hv => by obtain ⟨a, rfl⟩ := hv; exact ⟨rfl, rfl⟩) rfl rfl ?_
  exact g_vret e_Row_init_19 rfl
theorem c_Row_init_32 {l : Launch} {G : KG} {M M' : Mm} (h : f_Row_init_32 M = some ((), M')) : CT l G y_Row_init md_Row_init 1 40 [rf G 32, .int (40 : Int32)] 33 (iniT 29) M none 34 (iniT 30) M' :=
  CT.ofI 0 (by decide) rfl (by show 2 ≤ 2; decide) rfl h (fun X _ hG hI h1 h2 => by subst hG; exact t_Row_init_32 hI h1 h2)
theorem x_Row_init_32 (M : Mm) : ∃ M', f_Row_init_32 M = some ((), M') := by
  unfold f_Row_init_32
  refine lT_ex ?_
  exact ⟨_, rfl⟩
def f_Row_init_34 (M : Mm) : Option (Unit × Mm) := (lT (zr M 35) fun M1 => some ((), M1))
set_option maxHeartbeats 4000000 in
set_option maxRecDepth 20000 in
theorem t_Row_init_34 {X : KX} {M : Mm} (hI : (kt X).name = "<init>") (hrc : 1 ≤ (kr X).cells) (hrs : 64 ≤ (kr X).slots) : GO X md_Row_init (QE X rvU (1, 64, 36, iniT 32)) 0 [some (rf (kG X) 34), some (.int (64 : Int32))] [] (0, 0, 35, iniT 31) M (f_Row_init_34 M) := by
  unfold f_Row_init_34
  refine g_aload_n e_Row_init_0 rfl ?_
  refine g_objI e_Row_init_1 ⟨w_170, w_20, w_21⟩ rfl ⟨by decide, Nat.le_of_ble_eq_true rfl⟩ ?_
  refine g_aload_n e_Row_init_4 rfl ?_
  refine g_iload_n e_Row_init_5 rfl ?_
  refine g_if_le' e_Row_init_6 (fun h => absurd h (by decide)) (fun _ => ?_)
  refine g_iload_n e_Row_init_9 rfl ?_
  refine g_goto e_Row_init_10 ?_
  refine g_newI (N := 64) (c' := 1) (s' := 64) (n' := 36) e_Row_init_14 w_183 kq_35 (by decide) (by decide) rfl rfl rfl ⟨Nat.le_trans (by decide) hrc, Nat.le_trans (by decide) hrs⟩ (fun M1 => ?_)
  refine g_putR (t' := 32) hI e_Row_init_16 fr_Row_9 kq_34 (by decide) fj_4_0 (show rkl[31]? = some (34, 0) from rfl) (fun v hv => by obtain ⟨a, rfl⟩ := hv; exact ⟨rfl, rfl⟩) rfl rfl ?_
  exact g_vret e_Row_init_19 rfl
theorem c_Row_init_34 {l : Launch} {G : KG} {M M' : Mm} (h : f_Row_init_34 M = some ((), M')) : CT l G y_Row_init md_Row_init 1 64 [rf G 34, .int (64 : Int32)] 35 (iniT 31) M none 36 (iniT 32) M' :=
  CT.ofI 0 (by decide) rfl (by show 2 ≤ 2; decide) rfl h (fun X _ hG hI h1 h2 => by subst hG; exact t_Row_init_34 hI h1 h2)
theorem x_Row_init_34 (M : Mm) : ∃ M', f_Row_init_34 M = some ((), M') := by
  unfold f_Row_init_34
  refine lT_ex ?_
  exact ⟨_, rfl⟩
def f_Press_init_31 (M : Mm) : Option (Unit × Mm) := (lT (zr M 32) fun M1 => (bD (f_Row_init_32 M1) fun _ M2 => (lT (zr M2 34) fun M3 => (bD (f_Row_init_34 M3) fun _ M4 => some ((), M4)))))
set_option maxHeartbeats 4000000 in
set_option maxRecDepth 20000 in
theorem t_Press_init_31 {X : KX} {M : Mm} (hI : (kt X).name = "<init>") (hrc : 4 ≤ (kr X).cells) (hrs : 108 ≤ (kr X).slots) : GO X md_Press_init (QE X rvU (4, 108, 36, iniT 33)) 0 [some (rf (kG X) 31)] [] (0, 0, 32, iniT 29) M (f_Press_init_31 M) := by
  unfold f_Press_init_31
  refine g_aload_n e_Press_init_0 rfl ?_
  refine g_objI e_Press_init_1 ⟨w_164, w_20, w_21⟩ rfl ⟨by decide, Nat.le_of_ble_eq_true rfl⟩ ?_
  refine g_aload_n e_Press_init_4 rfl ?_
  refine g_new (c' := 1) (s' := 2) (n' := 33) e_Press_init_5 (show cls[4]? = some ("PressSheets$Row", tC4, 2) from rfl) ⟨w_165, w_166, w_7⟩ kq_32 yC4 pY4 dV4 (by decide +kernel) rfl rfl rfl ⟨Nat.le_trans (by decide) hrc, Nat.le_trans (by decide) hrs⟩ (fun M1 => ?_)
  refine g_dup e_Press_init_8 rfl ?_
  refine g_bipush (x := (40 : Int32)) e_Press_init_9 (by decide) ?_
  refine g_callI (mc := 1) (ms := 40) (c' := 2) (s' := 42) (As := [.int (40 : Int32)]) (st := [rf (kG X) 32, rf (kG X) 31]) e_Press_init_11 ix_Press_11 rfl rfl my_Row_init (by decide) rfl rfl (Nat.le_of_ble_eq_true rfl) rfl rfl ⟨Nat.le_trans (by decide) hrc, Nat.le_trans (by decide) hrs⟩ (fun _ h => c_Row_init_32 h) (fun M2 _ => ?_)
  refine g_putR (t' := 31) hI e_Press_init_14 fr_Press_14 kq_31 (by decide) fj_3_0 (show rkl[30]? = some (31, 0) from rfl) (fun v hv => by obtain ⟨a, rfl⟩ := hv; exact ⟨rfl, rfl⟩) rfl rfl ?_
  refine g_aload_n e_Press_init_17 rfl ?_
  refine g_new (c' := 3) (s' := 44) (n' := 35) e_Press_init_18 (show cls[4]? = some ("PressSheets$Row", tC4, 2) from rfl) ⟨w_165, w_166, w_7⟩ kq_34 yC4 pY4 dV4 (by decide +kernel) rfl rfl rfl ⟨Nat.le_trans (by decide) hrc, Nat.le_trans (by decide) hrs⟩ (fun M3 => ?_)
  refine g_dup e_Press_init_21 rfl ?_
  refine g_bipush (x := (64 : Int32)) e_Press_init_22 (by decide) ?_
  refine g_callI (mc := 1) (ms := 64) (c' := 4) (s' := 108) (As := [.int (64 : Int32)]) (st := [rf (kG X) 34, rf (kG X) 31]) e_Press_init_24 ix_Press_11 rfl rfl my_Row_init (by decide) rfl rfl (Nat.le_of_ble_eq_true rfl) rfl rfl ⟨Nat.le_trans (by decide) hrc, Nat.le_trans (by decide) hrs⟩ (fun _ h => c_Row_init_34 h) (fun M4 _ => ?_)
  refine g_putR (t' := 33) hI e_Press_init_27 fr_Press_20 kq_31 (by decide) fj_3_1 (show rkl[32]? = some (31, 1) from rfl) (fun v hv => by obtain ⟨a, rfl⟩ := hv; exact ⟨rfl, rfl⟩) rfl rfl ?_
  exact g_vret e_Press_init_30 rfl
theorem c_Press_init_31 {l : Launch} {G : KG} {M M' : Mm} (h : f_Press_init_31 M = some ((), M')) : CT l G y_Press_init md_Press_init 4 108 [rf G 31] 32 (iniT 29) M none 36 (iniT 33) M' :=
  CT.ofI 0 (by decide) rfl (by show 1 ≤ 1; decide) rfl h (fun X _ hG hI h1 h2 => by subst hG; exact t_Press_init_31 hI h1 h2)
theorem x_Press_init_31 (M : Mm) : ∃ M', f_Press_init_31 M = some ((), M') := by
  unfold f_Press_init_31
  refine lT_ex ?_
  refine bD_ex (x_Row_init_32 _) (fun _ => ?_)
  refine lT_ex ?_
  refine bD_ex (x_Row_init_34 _) (fun _ => ?_)
  exact ⟨_, rfl⟩
def f_Row_init_37 (M : Mm) : Option (Unit × Mm) := (lT (zr M 38) fun M1 => some ((), M1))
set_option maxHeartbeats 4000000 in
set_option maxRecDepth 20000 in
theorem t_Row_init_37 {X : KX} {M : Mm} (hI : (kt X).name = "<init>") (hrc : 1 ≤ (kr X).cells) (hrs : 60 ≤ (kr X).slots) : GO X md_Row_init (QE X rvU (1, 60, 39, iniT 35)) 0 [some (rf (kG X) 37), some (.int (60 : Int32))] [] (0, 0, 38, iniT 34) M (f_Row_init_37 M) := by
  unfold f_Row_init_37
  refine g_aload_n e_Row_init_0 rfl ?_
  refine g_objI e_Row_init_1 ⟨w_170, w_20, w_21⟩ rfl ⟨by decide, Nat.le_of_ble_eq_true rfl⟩ ?_
  refine g_aload_n e_Row_init_4 rfl ?_
  refine g_iload_n e_Row_init_5 rfl ?_
  refine g_if_le' e_Row_init_6 (fun h => absurd h (by decide)) (fun _ => ?_)
  refine g_iload_n e_Row_init_9 rfl ?_
  refine g_goto e_Row_init_10 ?_
  refine g_newI (N := 60) (c' := 1) (s' := 60) (n' := 39) e_Row_init_14 w_183 kq_38 (by decide) (by decide) rfl rfl rfl ⟨Nat.le_trans (by decide) hrc, Nat.le_trans (by decide) hrs⟩ (fun M1 => ?_)
  refine g_putR (t' := 35) hI e_Row_init_16 fr_Row_9 kq_37 (by decide) fj_4_0 (show rkl[34]? = some (37, 0) from rfl) (fun v hv => by obtain ⟨a, rfl⟩ := hv; exact ⟨rfl, rfl⟩) rfl rfl ?_
  exact g_vret e_Row_init_19 rfl
theorem c_Row_init_37 {l : Launch} {G : KG} {M M' : Mm} (h : f_Row_init_37 M = some ((), M')) : CT l G y_Row_init md_Row_init 1 60 [rf G 37, .int (60 : Int32)] 38 (iniT 34) M none 39 (iniT 35) M' :=
  CT.ofI 0 (by decide) rfl (by show 2 ≤ 2; decide) rfl h (fun X _ hG hI h1 h2 => by subst hG; exact t_Row_init_37 hI h1 h2)
theorem x_Row_init_37 (M : Mm) : ∃ M', f_Row_init_37 M = some ((), M') := by
  unfold f_Row_init_37
  refine lT_ex ?_
  exact ⟨_, rfl⟩
def f_Row_init_39 (M : Mm) : Option (Unit × Mm) := (lT (zr M 40) fun M1 => some ((), M1))
set_option maxHeartbeats 4000000 in
set_option maxRecDepth 20000 in
theorem t_Row_init_39 {X : KX} {M : Mm} (hI : (kt X).name = "<init>") (hrc : 1 ≤ (kr X).cells) (hrs : 60 ≤ (kr X).slots) : GO X md_Row_init (QE X rvU (1, 60, 41, iniT 37)) 0 [some (rf (kG X) 39), some (.int (60 : Int32))] [] (0, 0, 40, iniT 36) M (f_Row_init_39 M) := by
  unfold f_Row_init_39
  refine g_aload_n e_Row_init_0 rfl ?_
  refine g_objI e_Row_init_1 ⟨w_170, w_20, w_21⟩ rfl ⟨by decide, Nat.le_of_ble_eq_true rfl⟩ ?_
  refine g_aload_n e_Row_init_4 rfl ?_
  refine g_iload_n e_Row_init_5 rfl ?_
  refine g_if_le' e_Row_init_6 (fun h => absurd h (by decide)) (fun _ => ?_)
  refine g_iload_n e_Row_init_9 rfl ?_
  refine g_goto e_Row_init_10 ?_
  refine g_newI (N := 60) (c' := 1) (s' := 60) (n' := 41) e_Row_init_14 w_183 kq_40 (by decide) (by decide) rfl rfl rfl ⟨Nat.le_trans (by decide) hrc, Nat.le_trans (by decide) hrs⟩ (fun M1 => ?_)
  refine g_putR (t' := 37) hI e_Row_init_16 fr_Row_9 kq_39 (by decide) fj_4_0 (show rkl[36]? = some (39, 0) from rfl) (fun v hv => by obtain ⟨a, rfl⟩ := hv; exact ⟨rfl, rfl⟩) rfl rfl ?_
  exact g_vret e_Row_init_19 rfl
theorem c_Row_init_39 {l : Launch} {G : KG} {M M' : Mm} (h : f_Row_init_39 M = some ((), M')) : CT l G y_Row_init md_Row_init 1 60 [rf G 39, .int (60 : Int32)] 40 (iniT 36) M none 41 (iniT 37) M' :=
  CT.ofI 0 (by decide) rfl (by show 2 ≤ 2; decide) rfl h (fun X _ hG hI h1 h2 => by subst hG; exact t_Row_init_39 hI h1 h2)
theorem x_Row_init_39 (M : Mm) : ∃ M', f_Row_init_39 M = some ((), M') := by
  unfold f_Row_init_39
  refine lT_ex ?_
  exact ⟨_, rfl⟩
def f_Row_init_41 (M : Mm) : Option (Unit × Mm) := (lT (zr M 42) fun M1 => some ((), M1))
set_option maxHeartbeats 4000000 in
set_option maxRecDepth 20000 in
theorem t_Row_init_41 {X : KX} {M : Mm} (hI : (kt X).name = "<init>") (hrc : 1 ≤ (kr X).cells) (hrs : 60 ≤ (kr X).slots) : GO X md_Row_init (QE X rvU (1, 60, 43, iniT 39)) 0 [some (rf (kG X) 41), some (.int (60 : Int32))] [] (0, 0, 42, iniT 38) M (f_Row_init_41 M) := by
  unfold f_Row_init_41
  refine g_aload_n e_Row_init_0 rfl ?_
  refine g_objI e_Row_init_1 ⟨w_170, w_20, w_21⟩ rfl ⟨by decide, Nat.le_of_ble_eq_true rfl⟩ ?_
  refine g_aload_n e_Row_init_4 rfl ?_
  refine g_iload_n e_Row_init_5 rfl ?_
  refine g_if_le' e_Row_init_6 (fun h => absurd h (by decide)) (fun _ => ?_)
  refine g_iload_n e_Row_init_9 rfl ?_
  refine g_goto e_Row_init_10 ?_
  refine g_newI (N := 60) (c' := 1) (s' := 60) (n' := 43) e_Row_init_14 w_183 kq_42 (by decide) (by decide) rfl rfl rfl ⟨Nat.le_trans (by decide) hrc, Nat.le_trans (by decide) hrs⟩ (fun M1 => ?_)
  refine g_putR (t' := 39) hI e_Row_init_16 fr_Row_9 kq_41 (by decide) fj_4_0 (show rkl[38]? = some (41, 0) from rfl) (fun v hv => by obtain ⟨a, rfl⟩ := hv; exact ⟨rfl, rfl⟩) rfl rfl ?_
  exact g_vret e_Row_init_19 rfl
theorem c_Row_init_41 {l : Launch} {G : KG} {M M' : Mm} (h : f_Row_init_41 M = some ((), M')) : CT l G y_Row_init md_Row_init 1 60 [rf G 41, .int (60 : Int32)] 42 (iniT 38) M none 43 (iniT 39) M' :=
  CT.ofI 0 (by decide) rfl (by show 2 ≤ 2; decide) rfl h (fun X _ hG hI h1 h2 => by subst hG; exact t_Row_init_41 hI h1 h2)
theorem x_Row_init_41 (M : Mm) : ∃ M', f_Row_init_41 M = some ((), M') := by
  unfold f_Row_init_41
  refine lT_ex ?_
  exact ⟨_, rfl⟩
def f_Row_init_43 (M : Mm) : Option (Unit × Mm) := (lT (zr M 44) fun M1 => some ((), M1))
set_option maxHeartbeats 4000000 in
set_option maxRecDepth 20000 in
theorem t_Row_init_43 {X : KX} {M : Mm} (hI : (kt X).name = "<init>") (hrc : 1 ≤ (kr X).cells) (hrs : 4 ≤ (kr X).slots) : GO X md_Row_init (QE X rvU (1, 4, 45, iniT 41)) 0 [some (rf (kG X) 43), some (.int (4 : Int32))] [] (0, 0, 44, iniT 40) M (f_Row_init_43 M) := by
  unfold f_Row_init_43
  refine g_aload_n e_Row_init_0 rfl ?_
  refine g_objI e_Row_init_1 ⟨w_170, w_20, w_21⟩ rfl ⟨by decide, Nat.le_of_ble_eq_true rfl⟩ ?_
  refine g_aload_n e_Row_init_4 rfl ?_
  refine g_iload_n e_Row_init_5 rfl ?_
  refine g_if_le' e_Row_init_6 (fun h => absurd h (by decide)) (fun _ => ?_)
  refine g_iload_n e_Row_init_9 rfl ?_
  refine g_goto e_Row_init_10 ?_
  refine g_newI (N := 4) (c' := 1) (s' := 4) (n' := 45) e_Row_init_14 w_183 kq_44 (by decide) (by decide) rfl rfl rfl ⟨Nat.le_trans (by decide) hrc, Nat.le_trans (by decide) hrs⟩ (fun M1 => ?_)
  refine g_putR (t' := 41) hI e_Row_init_16 fr_Row_9 kq_43 (by decide) fj_4_0 (show rkl[40]? = some (43, 0) from rfl) (fun v hv => by obtain ⟨a, rfl⟩ := hv; exact ⟨rfl, rfl⟩) rfl rfl ?_
  exact g_vret e_Row_init_19 rfl
theorem c_Row_init_43 {l : Launch} {G : KG} {M M' : Mm} (h : f_Row_init_43 M = some ((), M')) : CT l G y_Row_init md_Row_init 1 4 [rf G 43, .int (4 : Int32)] 44 (iniT 40) M none 45 (iniT 41) M' :=
  CT.ofI 0 (by decide) rfl (by show 2 ≤ 2; decide) rfl h (fun X _ hG hI h1 h2 => by subst hG; exact t_Row_init_43 hI h1 h2)
theorem x_Row_init_43 (M : Mm) : ∃ M', f_Row_init_43 M = some ((), M') := by
  unfold f_Row_init_43
  refine lT_ex ?_
  exact ⟨_, rfl⟩
def f_Plan_init_36 (M : Mm) : Option (Unit × Mm) := (lT (zr M 37) fun M1 => (bD (f_Row_init_37 M1) fun _ M2 => (lT (zr M2 39) fun M3 => (bD (f_Row_init_39 M3) fun _ M4 => (lT (zr M4 41) fun M5 => (bD (f_Row_init_41 M5) fun _ M6 => (lT (zr M6 43) fun M7 => (bD (f_Row_init_43 M7) fun _ M8 => some ((), M8)))))))))
set_option maxHeartbeats 4000000 in
set_option maxRecDepth 20000 in
theorem t_Plan_init_36 {X : KX} {M : Mm} (hI : (kt X).name = "<init>") (hrc : 8 ≤ (kr X).cells) (hrs : 192 ≤ (kr X).slots) : GO X md_Plan_init (QE X rvU (8, 192, 45, iniT 42)) 0 [some (rf (kG X) 36)] [] (0, 0, 37, iniT 34) M (f_Plan_init_36 M) := by
  unfold f_Plan_init_36
  refine g_aload_n e_Plan_init_0 rfl ?_
  refine g_objI e_Plan_init_1 ⟨w_200, w_20, w_21⟩ rfl ⟨by decide, Nat.le_of_ble_eq_true rfl⟩ ?_
  refine g_aload_n e_Plan_init_4 rfl ?_
  refine g_new (c' := 1) (s' := 2) (n' := 38) e_Plan_init_5 (show cls[4]? = some ("PressSheets$Row", tC4, 2) from rfl) ⟨w_201, w_166, w_7⟩ kq_37 yC4 pY4 dV4 (by decide +kernel) rfl rfl rfl ⟨Nat.le_trans (by decide) hrc, Nat.le_trans (by decide) hrs⟩ (fun M1 => ?_)
  refine g_dup e_Plan_init_8 rfl ?_
  refine g_bipush (x := (60 : Int32)) e_Plan_init_9 (by decide) ?_
  refine g_callI (mc := 1) (ms := 60) (c' := 2) (s' := 62) (As := [.int (60 : Int32)]) (st := [rf (kG X) 37, rf (kG X) 36]) e_Plan_init_11 ix_Plan_13 rfl rfl my_Row_init (by decide) rfl rfl (Nat.le_of_ble_eq_true rfl) rfl rfl ⟨Nat.le_trans (by decide) hrc, Nat.le_trans (by decide) hrs⟩ (fun _ h => c_Row_init_37 h) (fun M2 _ => ?_)
  refine g_putR (t' := 36) hI e_Plan_init_14 fr_Plan_16 kq_36 (by decide) fj_2_0 (show rkl[35]? = some (36, 0) from rfl) (fun v hv => by obtain ⟨a, rfl⟩ := hv; exact ⟨rfl, rfl⟩) rfl rfl ?_
  refine g_aload_n e_Plan_init_17 rfl ?_
  refine g_new (c' := 3) (s' := 64) (n' := 40) e_Plan_init_18 (show cls[4]? = some ("PressSheets$Row", tC4, 2) from rfl) ⟨w_201, w_166, w_7⟩ kq_39 yC4 pY4 dV4 (by decide +kernel) rfl rfl rfl ⟨Nat.le_trans (by decide) hrc, Nat.le_trans (by decide) hrs⟩ (fun M3 => ?_)
  refine g_dup e_Plan_init_21 rfl ?_
  refine g_bipush (x := (60 : Int32)) e_Plan_init_22 (by decide) ?_
  refine g_callI (mc := 1) (ms := 60) (c' := 4) (s' := 124) (As := [.int (60 : Int32)]) (st := [rf (kG X) 39, rf (kG X) 36]) e_Plan_init_24 ix_Plan_13 rfl rfl my_Row_init (by decide) rfl rfl (Nat.le_of_ble_eq_true rfl) rfl rfl ⟨Nat.le_trans (by decide) hrc, Nat.le_trans (by decide) hrs⟩ (fun _ h => c_Row_init_39 h) (fun M4 _ => ?_)
  refine g_putR (t' := 38) hI e_Plan_init_27 fr_Plan_20 kq_36 (by decide) fj_2_1 (show rkl[37]? = some (36, 1) from rfl) (fun v hv => by obtain ⟨a, rfl⟩ := hv; exact ⟨rfl, rfl⟩) rfl rfl ?_
  refine g_aload_n e_Plan_init_30 rfl ?_
  refine g_new (c' := 5) (s' := 126) (n' := 42) e_Plan_init_31 (show cls[4]? = some ("PressSheets$Row", tC4, 2) from rfl) ⟨w_201, w_166, w_7⟩ kq_41 yC4 pY4 dV4 (by decide +kernel) rfl rfl rfl ⟨Nat.le_trans (by decide) hrc, Nat.le_trans (by decide) hrs⟩ (fun M5 => ?_)
  refine g_dup e_Plan_init_34 rfl ?_
  refine g_bipush (x := (60 : Int32)) e_Plan_init_35 (by decide) ?_
  refine g_callI (mc := 1) (ms := 60) (c' := 6) (s' := 186) (As := [.int (60 : Int32)]) (st := [rf (kG X) 41, rf (kG X) 36]) e_Plan_init_37 ix_Plan_13 rfl rfl my_Row_init (by decide) rfl rfl (Nat.le_of_ble_eq_true rfl) rfl rfl ⟨Nat.le_trans (by decide) hrc, Nat.le_trans (by decide) hrs⟩ (fun _ h => c_Row_init_41 h) (fun M6 _ => ?_)
  refine g_putR (t' := 40) hI e_Plan_init_40 fr_Plan_23 kq_36 (by decide) fj_2_2 (show rkl[39]? = some (36, 2) from rfl) (fun v hv => by obtain ⟨a, rfl⟩ := hv; exact ⟨rfl, rfl⟩) rfl rfl ?_
  refine g_aload_n e_Plan_init_43 rfl ?_
  refine g_new (c' := 7) (s' := 188) (n' := 44) e_Plan_init_44 (show cls[4]? = some ("PressSheets$Row", tC4, 2) from rfl) ⟨w_201, w_166, w_7⟩ kq_43 yC4 pY4 dV4 (by decide +kernel) rfl rfl rfl ⟨Nat.le_trans (by decide) hrc, Nat.le_trans (by decide) hrs⟩ (fun M7 => ?_)
  refine g_dup e_Plan_init_47 rfl ?_
  refine g_iconst (x := (4 : Int32)) e_Plan_init_48 (by decide) ?_
  refine g_callI (mc := 1) (ms := 4) (c' := 8) (s' := 192) (As := [.int (4 : Int32)]) (st := [rf (kG X) 43, rf (kG X) 36]) e_Plan_init_49 ix_Plan_13 rfl rfl my_Row_init (by decide) rfl rfl (Nat.le_of_ble_eq_true rfl) rfl rfl ⟨Nat.le_trans (by decide) hrc, Nat.le_trans (by decide) hrs⟩ (fun _ h => c_Row_init_43 h) (fun M8 _ => ?_)
  refine g_putR (t' := 42) hI e_Plan_init_52 fr_Plan_26 kq_36 (by decide) fj_2_3 (show rkl[41]? = some (36, 3) from rfl) (fun v hv => by obtain ⟨a, rfl⟩ := hv; exact ⟨rfl, rfl⟩) rfl rfl ?_
  exact g_vret e_Plan_init_55 rfl
theorem c_Plan_init_36 {l : Launch} {G : KG} {M M' : Mm} (h : f_Plan_init_36 M = some ((), M')) : CT l G y_Plan_init md_Plan_init 8 192 [rf G 36] 37 (iniT 34) M none 45 (iniT 42) M' :=
  CT.ofI 0 (by decide) rfl (by show 1 ≤ 1; decide) rfl h (fun X _ hG hI h1 h2 => by subst hG; exact t_Plan_init_36 hI h1 h2)
theorem x_Plan_init_36 (M : Mm) : ∃ M', f_Plan_init_36 M = some ((), M') := by
  unfold f_Plan_init_36
  refine lT_ex ?_
  refine bD_ex (x_Row_init_37 _) (fun _ => ?_)
  refine lT_ex ?_
  refine bD_ex (x_Row_init_39 _) (fun _ => ?_)
  refine lT_ex ?_
  refine bD_ex (x_Row_init_41 _) (fun _ => ?_)
  refine lT_ex ?_
  refine bD_ex (x_Row_init_43 _) (fun _ => ?_)
  exact ⟨_, rfl⟩
def f_Row_init_45 (M : Mm) : Option (Unit × Mm) := (lT (zr M 46) fun M1 => some ((), M1))
set_option maxHeartbeats 4000000 in
set_option maxRecDepth 20000 in
theorem t_Row_init_45 {X : KX} {M : Mm} (hI : (kt X).name = "<init>") (hrc : 1 ≤ (kr X).cells) (hrs : 5 ≤ (kr X).slots) : GO X md_Row_init (QE X rvU (1, 5, 47, iniT 44)) 0 [some (rf (kG X) 45), some (.int (5 : Int32))] [] (0, 0, 46, iniT 43) M (f_Row_init_45 M) := by
  unfold f_Row_init_45
  refine g_aload_n e_Row_init_0 rfl ?_
  refine g_objI e_Row_init_1 ⟨w_170, w_20, w_21⟩ rfl ⟨by decide, Nat.le_of_ble_eq_true rfl⟩ ?_
  refine g_aload_n e_Row_init_4 rfl ?_
  refine g_iload_n e_Row_init_5 rfl ?_
  refine g_if_le' e_Row_init_6 (fun h => absurd h (by decide)) (fun _ => ?_)
  refine g_iload_n e_Row_init_9 rfl ?_
  refine g_goto e_Row_init_10 ?_
  refine g_newI (N := 5) (c' := 1) (s' := 5) (n' := 47) e_Row_init_14 w_183 kq_46 (by decide) (by decide) rfl rfl rfl ⟨Nat.le_trans (by decide) hrc, Nat.le_trans (by decide) hrs⟩ (fun M1 => ?_)
  refine g_putR (t' := 44) hI e_Row_init_16 fr_Row_9 kq_45 (by decide) fj_4_0 (show rkl[43]? = some (45, 0) from rfl) (fun v hv => by obtain ⟨a, rfl⟩ := hv; exact ⟨rfl, rfl⟩) rfl rfl ?_
  exact g_vret e_Row_init_19 rfl
theorem c_Row_init_45 {l : Launch} {G : KG} {M M' : Mm} (h : f_Row_init_45 M = some ((), M')) : CT l G y_Row_init md_Row_init 1 5 [rf G 45, .int (5 : Int32)] 46 (iniT 43) M none 47 (iniT 44) M' :=
  CT.ofI 0 (by decide) rfl (by show 2 ≤ 2; decide) rfl h (fun X _ hG hI h1 h2 => by subst hG; exact t_Row_init_45 hI h1 h2)
theorem x_Row_init_45 (M : Mm) : ∃ M', f_Row_init_45 M = some ((), M') := by
  unfold f_Row_init_45
  refine lT_ex ?_
  exact ⟨_, rfl⟩
def f_Row_init_47 (M : Mm) : Option (Unit × Mm) := (lT (zr M 48) fun M1 => some ((), M1))
set_option maxHeartbeats 4000000 in
set_option maxRecDepth 20000 in
theorem t_Row_init_47 {X : KX} {M : Mm} (hI : (kt X).name = "<init>") (hrc : 1 ≤ (kr X).cells) (hrs : 5 ≤ (kr X).slots) : GO X md_Row_init (QE X rvU (1, 5, 49, iniT 46)) 0 [some (rf (kG X) 47), some (.int (5 : Int32))] [] (0, 0, 48, iniT 45) M (f_Row_init_47 M) := by
  unfold f_Row_init_47
  refine g_aload_n e_Row_init_0 rfl ?_
  refine g_objI e_Row_init_1 ⟨w_170, w_20, w_21⟩ rfl ⟨by decide, Nat.le_of_ble_eq_true rfl⟩ ?_
  refine g_aload_n e_Row_init_4 rfl ?_
  refine g_iload_n e_Row_init_5 rfl ?_
  refine g_if_le' e_Row_init_6 (fun h => absurd h (by decide)) (fun _ => ?_)
  refine g_iload_n e_Row_init_9 rfl ?_
  refine g_goto e_Row_init_10 ?_
  refine g_newI (N := 5) (c' := 1) (s' := 5) (n' := 49) e_Row_init_14 w_183 kq_48 (by decide) (by decide) rfl rfl rfl ⟨Nat.le_trans (by decide) hrc, Nat.le_trans (by decide) hrs⟩ (fun M1 => ?_)
  refine g_putR (t' := 46) hI e_Row_init_16 fr_Row_9 kq_47 (by decide) fj_4_0 (show rkl[45]? = some (47, 0) from rfl) (fun v hv => by obtain ⟨a, rfl⟩ := hv; exact ⟨rfl, rfl⟩) rfl rfl ?_
  exact g_vret e_Row_init_19 rfl
theorem c_Row_init_47 {l : Launch} {G : KG} {M M' : Mm} (h : f_Row_init_47 M = some ((), M')) : CT l G y_Row_init md_Row_init 1 5 [rf G 47, .int (5 : Int32)] 48 (iniT 45) M none 49 (iniT 46) M' :=
  CT.ofI 0 (by decide) rfl (by show 2 ≤ 2; decide) rfl h (fun X _ hG hI h1 h2 => by subst hG; exact t_Row_init_47 hI h1 h2)
theorem x_Row_init_47 (M : Mm) : ∃ M', f_Row_init_47 M = some ((), M') := by
  unfold f_Row_init_47
  refine lT_ex ?_
  exact ⟨_, rfl⟩
def f_Row_init_49 (M : Mm) : Option (Unit × Mm) := (lT (zr M 50) fun M1 => some ((), M1))
set_option maxHeartbeats 4000000 in
set_option maxRecDepth 20000 in
theorem t_Row_init_49 {X : KX} {M : Mm} (hI : (kt X).name = "<init>") (hrc : 1 ≤ (kr X).cells) (hrs : 8 ≤ (kr X).slots) : GO X md_Row_init (QE X rvU (1, 8, 51, iniT 48)) 0 [some (rf (kG X) 49), some (.int (8 : Int32))] [] (0, 0, 50, iniT 47) M (f_Row_init_49 M) := by
  unfold f_Row_init_49
  refine g_aload_n e_Row_init_0 rfl ?_
  refine g_objI e_Row_init_1 ⟨w_170, w_20, w_21⟩ rfl ⟨by decide, Nat.le_of_ble_eq_true rfl⟩ ?_
  refine g_aload_n e_Row_init_4 rfl ?_
  refine g_iload_n e_Row_init_5 rfl ?_
  refine g_if_le' e_Row_init_6 (fun h => absurd h (by decide)) (fun _ => ?_)
  refine g_iload_n e_Row_init_9 rfl ?_
  refine g_goto e_Row_init_10 ?_
  refine g_newI (N := 8) (c' := 1) (s' := 8) (n' := 51) e_Row_init_14 w_183 kq_50 (by decide) (by decide) rfl rfl rfl ⟨Nat.le_trans (by decide) hrc, Nat.le_trans (by decide) hrs⟩ (fun M1 => ?_)
  refine g_putR (t' := 48) hI e_Row_init_16 fr_Row_9 kq_49 (by decide) fj_4_0 (show rkl[47]? = some (49, 0) from rfl) (fun v hv => by obtain ⟨a, rfl⟩ := hv; exact ⟨rfl, rfl⟩) rfl rfl ?_
  exact g_vret e_Row_init_19 rfl
theorem c_Row_init_49 {l : Launch} {G : KG} {M M' : Mm} (h : f_Row_init_49 M = some ((), M')) : CT l G y_Row_init md_Row_init 1 8 [rf G 49, .int (8 : Int32)] 50 (iniT 47) M none 51 (iniT 48) M' :=
  CT.ofI 0 (by decide) rfl (by show 2 ≤ 2; decide) rfl h (fun X _ hG hI h1 h2 => by subst hG; exact t_Row_init_49 hI h1 h2)
theorem x_Row_init_49 (M : Mm) : ∃ M', f_Row_init_49 M = some ((), M') := by
  unfold f_Row_init_49
  refine lT_ex ?_
  exact ⟨_, rfl⟩
def f_Row_init_51 (M : Mm) : Option (Unit × Mm) := (lT (zr M 52) fun M1 => some ((), M1))
set_option maxHeartbeats 4000000 in
set_option maxRecDepth 20000 in
theorem t_Row_init_51 {X : KX} {M : Mm} (hI : (kt X).name = "<init>") (hrc : 1 ≤ (kr X).cells) (hrs : 8 ≤ (kr X).slots) : GO X md_Row_init (QE X rvU (1, 8, 53, iniT 50)) 0 [some (rf (kG X) 51), some (.int (8 : Int32))] [] (0, 0, 52, iniT 49) M (f_Row_init_51 M) := by
  unfold f_Row_init_51
  refine g_aload_n e_Row_init_0 rfl ?_
  refine g_objI e_Row_init_1 ⟨w_170, w_20, w_21⟩ rfl ⟨by decide, Nat.le_of_ble_eq_true rfl⟩ ?_
  refine g_aload_n e_Row_init_4 rfl ?_
  refine g_iload_n e_Row_init_5 rfl ?_
  refine g_if_le' e_Row_init_6 (fun h => absurd h (by decide)) (fun _ => ?_)
  refine g_iload_n e_Row_init_9 rfl ?_
  refine g_goto e_Row_init_10 ?_
  refine g_newI (N := 8) (c' := 1) (s' := 8) (n' := 53) e_Row_init_14 w_183 kq_52 (by decide) (by decide) rfl rfl rfl ⟨Nat.le_trans (by decide) hrc, Nat.le_trans (by decide) hrs⟩ (fun M1 => ?_)
  refine g_putR (t' := 50) hI e_Row_init_16 fr_Row_9 kq_51 (by decide) fj_4_0 (show rkl[49]? = some (51, 0) from rfl) (fun v hv => by obtain ⟨a, rfl⟩ := hv; exact ⟨rfl, rfl⟩) rfl rfl ?_
  exact g_vret e_Row_init_19 rfl
theorem c_Row_init_51 {l : Launch} {G : KG} {M M' : Mm} (h : f_Row_init_51 M = some ((), M')) : CT l G y_Row_init md_Row_init 1 8 [rf G 51, .int (8 : Int32)] 52 (iniT 49) M none 53 (iniT 50) M' :=
  CT.ofI 0 (by decide) rfl (by show 2 ≤ 2; decide) rfl h (fun X _ hG hI h1 h2 => by subst hG; exact t_Row_init_51 hI h1 h2)
theorem x_Row_init_51 (M : Mm) : ∃ M', f_Row_init_51 M = some ((), M') := by
  unfold f_Row_init_51
  refine lT_ex ?_
  exact ⟨_, rfl⟩
def f_State_init_27 (M : Mm) : Option (Unit × Mm) := (lT (zr M 28) fun M1 => (bD (f_Job_init_28 M1) fun _ M2 => (lT (zr M2 31) fun M3 => (bD (f_Press_init_31 M3) fun _ M4 => (lT (zr M4 36) fun M5 => (bD (f_Plan_init_36 M5) fun _ M6 => (lT (zr M6 45) fun M7 => (bD (f_Row_init_45 M7) fun _ M8 => (lT (zr M8 47) fun M9 => (bD (f_Row_init_47 M9) fun _ M10 => (lT (zr M10 49) fun M11 => (bD (f_Row_init_49 M11) fun _ M12 => (lT (zr M12 51) fun M13 => (bD (f_Row_init_51 M13) fun _ M14 => some ((), M14)))))))))))))))
set_option maxHeartbeats 4000000 in
set_option maxRecDepth 20000 in
theorem t_State_init_27 {X : KX} {M : Mm} (hI : (kt X).name = "<init>") (hrc : 25 ≤ (kr X).cells) (hrs : 362 ≤ (kr X).slots) : GO X md_State_init (QE X rvU (25, 362, 53, iniT 51)) 0 [some (rf (kG X) 27)] [] (0, 0, 28, iniT 26) M (f_State_init_27 M) := by
  unfold f_State_init_27
  refine g_aload_n e_State_init_0 rfl ?_
  refine g_objI e_State_init_1 ⟨w_27, w_20, w_21⟩ rfl ⟨by decide, Nat.le_of_ble_eq_true rfl⟩ ?_
  refine g_aload_n e_State_init_4 rfl ?_
  refine g_new (c' := 1) (s' := 11) (n' := 29) e_State_init_5 (show cls[0]? = some ("PressSheets$Job", tC0, 11) from rfl) ⟨w_28, w_29, w_3⟩ kq_28 yC0 pY0 dV0 (by decide +kernel) rfl rfl rfl ⟨Nat.le_trans (by decide) hrc, Nat.le_trans (by decide) hrs⟩ (fun M1 => ?_)
  refine g_dup e_State_init_8 rfl ?_
  refine g_callI (mc := 2) (ms := 11) (c' := 3) (s' := 22) (As := []) (st := [rf (kG X) 28, rf (kG X) 27]) e_State_init_9 ix_State_11 rfl rfl my_Job_init (by decide) rfl rfl (Nat.le_of_ble_eq_true rfl) rfl rfl ⟨Nat.le_trans (by decide) hrc, Nat.le_trans (by decide) hrs⟩ (fun _ h => c_Job_init_28 h) (fun M2 _ => ?_)
  refine g_putR (t' := 29) hI e_State_init_12 fr_State_12 kq_27 (by decide) fj_6_0 (show rkl[28]? = some (27, 0) from rfl) (fun v hv => by obtain ⟨a, rfl⟩ := hv; exact ⟨rfl, rfl⟩) rfl rfl ?_
  refine g_aload_n e_State_init_15 rfl ?_
  refine g_new (c' := 4) (s' := 24) (n' := 32) e_State_init_16 (show cls[3]? = some ("PressSheets$Press", tC3, 2) from rfl) ⟨w_159, w_160, w_6⟩ kq_31 yC3 pY3 dV3 (by decide +kernel) rfl rfl rfl ⟨Nat.le_trans (by decide) hrc, Nat.le_trans (by decide) hrs⟩ (fun M3 => ?_)
  refine g_dup e_State_init_19 rfl ?_
  refine g_callIN (mc := 4) (ms := 108) (c' := 8) (s' := 132) (As := []) (st := [rf (kG X) 31, rf (kG X) 27]) e_State_init_20 in_State_20 rfl rfl my_Press_init (by decide) rfl rfl (Nat.le_of_ble_eq_true rfl) rfl rfl ⟨Nat.le_trans (by decide) hrc, Nat.le_trans (by decide) hrs⟩ (fun _ h => c_Press_init_31 h) (fun M4 _ => ?_)
  refine g_putR (t' := 34) hI e_State_init_23 fr_State_21 kq_27 (by decide) fj_6_1 (show rkl[33]? = some (27, 1) from rfl) (fun v hv => by obtain ⟨a, rfl⟩ := hv; exact ⟨rfl, rfl⟩) rfl rfl ?_
  refine g_aload_n e_State_init_26 rfl ?_
  refine g_new (c' := 9) (s' := 136) (n' := 37) e_State_init_27 (show cls[2]? = some ("PressSheets$Plan", tC2, 4) from rfl) ⟨w_195, w_196, w_8⟩ kq_36 yC2 pY2 dV2 (by decide +kernel) rfl rfl rfl ⟨Nat.le_trans (by decide) hrc, Nat.le_trans (by decide) hrs⟩ (fun M5 => ?_)
  refine g_dup e_State_init_30 rfl ?_
  refine g_callIN (mc := 8) (ms := 192) (c' := 17) (s' := 328) (As := []) (st := [rf (kG X) 36, rf (kG X) 27]) e_State_init_31 in_State_27 rfl rfl my_Plan_init (by decide) rfl rfl (Nat.le_of_ble_eq_true rfl) rfl rfl ⟨Nat.le_trans (by decide) hrc, Nat.le_trans (by decide) hrs⟩ (fun _ h => c_Plan_init_36 h) (fun M6 _ => ?_)
  refine g_putR (t' := 43) hI e_State_init_34 fr_State_28 kq_27 (by decide) fj_6_2 (show rkl[42]? = some (27, 2) from rfl) (fun v hv => by obtain ⟨a, rfl⟩ := hv; exact ⟨rfl, rfl⟩) rfl rfl ?_
  refine g_aload_n e_State_init_37 rfl ?_
  refine g_new (c' := 18) (s' := 330) (n' := 46) e_State_init_38 (show cls[4]? = some ("PressSheets$Row", tC4, 2) from rfl) ⟨w_220, w_166, w_7⟩ kq_45 yC4 pY4 dV4 (by decide +kernel) rfl rfl rfl ⟨Nat.le_trans (by decide) hrc, Nat.le_trans (by decide) hrs⟩ (fun M7 => ?_)
  refine g_dup e_State_init_41 rfl ?_
  refine g_iconst (x := (5 : Int32)) e_State_init_42 (by decide) ?_
  refine g_callI (mc := 1) (ms := 5) (c' := 19) (s' := 335) (As := [.int (5 : Int32)]) (st := [rf (kG X) 45, rf (kG X) 27]) e_State_init_43 ix_State_34 rfl rfl my_Row_init (by decide) rfl rfl (Nat.le_of_ble_eq_true rfl) rfl rfl ⟨Nat.le_trans (by decide) hrc, Nat.le_trans (by decide) hrs⟩ (fun _ h => c_Row_init_45 h) (fun M8 _ => ?_)
  refine g_putR (t' := 45) hI e_State_init_46 fr_State_37 kq_27 (by decide) fj_6_3 (show rkl[44]? = some (27, 3) from rfl) (fun v hv => by obtain ⟨a, rfl⟩ := hv; exact ⟨rfl, rfl⟩) rfl rfl ?_
  refine g_aload_n e_State_init_49 rfl ?_
  refine g_new (c' := 20) (s' := 337) (n' := 48) e_State_init_50 (show cls[4]? = some ("PressSheets$Row", tC4, 2) from rfl) ⟨w_220, w_166, w_7⟩ kq_47 yC4 pY4 dV4 (by decide +kernel) rfl rfl rfl ⟨Nat.le_trans (by decide) hrc, Nat.le_trans (by decide) hrs⟩ (fun M9 => ?_)
  refine g_dup e_State_init_53 rfl ?_
  refine g_iconst (x := (5 : Int32)) e_State_init_54 (by decide) ?_
  refine g_callI (mc := 1) (ms := 5) (c' := 21) (s' := 342) (As := [.int (5 : Int32)]) (st := [rf (kG X) 47, rf (kG X) 27]) e_State_init_55 ix_State_34 rfl rfl my_Row_init (by decide) rfl rfl (Nat.le_of_ble_eq_true rfl) rfl rfl ⟨Nat.le_trans (by decide) hrc, Nat.le_trans (by decide) hrs⟩ (fun _ h => c_Row_init_47 h) (fun M10 _ => ?_)
  refine g_putR (t' := 47) hI e_State_init_58 fr_State_41 kq_27 (by decide) fj_6_4 (show rkl[46]? = some (27, 4) from rfl) (fun v hv => by obtain ⟨a, rfl⟩ := hv; exact ⟨rfl, rfl⟩) rfl rfl ?_
  refine g_aload_n e_State_init_61 rfl ?_
  refine g_new (c' := 22) (s' := 344) (n' := 50) e_State_init_62 (show cls[4]? = some ("PressSheets$Row", tC4, 2) from rfl) ⟨w_220, w_166, w_7⟩ kq_49 yC4 pY4 dV4 (by decide +kernel) rfl rfl rfl ⟨Nat.le_trans (by decide) hrc, Nat.le_trans (by decide) hrs⟩ (fun M11 => ?_)
  refine g_dup e_State_init_65 rfl ?_
  refine g_bipush (x := (8 : Int32)) e_State_init_66 (by decide) ?_
  refine g_callI (mc := 1) (ms := 8) (c' := 23) (s' := 352) (As := [.int (8 : Int32)]) (st := [rf (kG X) 49, rf (kG X) 27]) e_State_init_68 ix_State_34 rfl rfl my_Row_init (by decide) rfl rfl (Nat.le_of_ble_eq_true rfl) rfl rfl ⟨Nat.le_trans (by decide) hrc, Nat.le_trans (by decide) hrs⟩ (fun _ h => c_Row_init_49 h) (fun M12 _ => ?_)
  refine g_putR (t' := 49) hI e_State_init_71 fr_State_44 kq_27 (by decide) fj_6_5 (show rkl[48]? = some (27, 5) from rfl) (fun v hv => by obtain ⟨a, rfl⟩ := hv; exact ⟨rfl, rfl⟩) rfl rfl ?_
  refine g_aload_n e_State_init_74 rfl ?_
  refine g_new (c' := 24) (s' := 354) (n' := 52) e_State_init_75 (show cls[4]? = some ("PressSheets$Row", tC4, 2) from rfl) ⟨w_220, w_166, w_7⟩ kq_51 yC4 pY4 dV4 (by decide +kernel) rfl rfl rfl ⟨Nat.le_trans (by decide) hrc, Nat.le_trans (by decide) hrs⟩ (fun M13 => ?_)
  refine g_dup e_State_init_78 rfl ?_
  refine g_bipush (x := (8 : Int32)) e_State_init_79 (by decide) ?_
  refine g_callI (mc := 1) (ms := 8) (c' := 25) (s' := 362) (As := [.int (8 : Int32)]) (st := [rf (kG X) 51, rf (kG X) 27]) e_State_init_81 ix_State_34 rfl rfl my_Row_init (by decide) rfl rfl (Nat.le_of_ble_eq_true rfl) rfl rfl ⟨Nat.le_trans (by decide) hrc, Nat.le_trans (by decide) hrs⟩ (fun _ h => c_Row_init_51 h) (fun M14 _ => ?_)
  refine g_putR (t' := 51) hI e_State_init_84 fr_State_47 kq_27 (by decide) fj_6_6 (show rkl[50]? = some (27, 6) from rfl) (fun v hv => by obtain ⟨a, rfl⟩ := hv; exact ⟨rfl, rfl⟩) rfl rfl ?_
  exact g_vret e_State_init_87 rfl
theorem c_State_init_27 {l : Launch} {G : KG} {M M' : Mm} (h : f_State_init_27 M = some ((), M')) : CT l G y_State_init md_State_init 25 362 [rf G 27] 28 (iniT 26) M none 53 (iniT 51) M' :=
  CT.ofI 0 (by decide) rfl (by show 1 ≤ 1; decide) rfl h (fun X _ hG hI h1 h2 => by subst hG; exact t_State_init_27 hI h1 h2)
theorem x_State_init_27 (M : Mm) : ∃ M', f_State_init_27 M = some ((), M') := by
  unfold f_State_init_27
  refine lT_ex ?_
  refine bD_ex (x_Job_init_28 _) (fun _ => ?_)
  refine lT_ex ?_
  refine bD_ex (x_Press_init_31 _) (fun _ => ?_)
  refine lT_ex ?_
  refine bD_ex (x_Plan_init_36 _) (fun _ => ?_)
  refine lT_ex ?_
  refine bD_ex (x_Row_init_45 _) (fun _ => ?_)
  refine lT_ex ?_
  refine bD_ex (x_Row_init_47 _) (fun _ => ?_)
  refine lT_ex ?_
  refine bD_ex (x_Row_init_49 _) (fun _ => ?_)
  refine lT_ex ?_
  refine bD_ex (x_Row_init_51 _) (fun _ => ?_)
  exact ⟨_, rfl⟩
def f_Leaf_init_54 (M : Mm) : Option (Unit × Mm) := some ((), M)
set_option maxHeartbeats 4000000 in
set_option maxRecDepth 20000 in
theorem t_Leaf_init_54 {X : KX} {M : Mm} (hI : (kt X).name = "<init>") (hrc : 0 ≤ (kr X).cells) (hrs : 0 ≤ (kr X).slots) : GO X md_Leaf_init (QE X rvU (0, 0, 55, iniT 52)) 0 [some (rf (kG X) 54)] [] (0, 0, 55, iniT 52) M (f_Leaf_init_54 M) := by
  unfold f_Leaf_init_54
  refine g_aload_n e_Leaf_init_0 rfl ?_
  refine g_objI e_Leaf_init_1 ⟨w_39, w_20, w_21⟩ rfl ⟨by decide, Nat.le_of_ble_eq_true rfl⟩ ?_
  exact g_vret e_Leaf_init_4 rfl
theorem c_Leaf_init_54 {l : Launch} {G : KG} {M M' : Mm} (h : f_Leaf_init_54 M = some ((), M')) : CT l G y_Leaf_init md_Leaf_init 0 0 [rf G 54] 55 (iniT 52) M none 55 (iniT 52) M' :=
  CT.ofI 0 (by decide) rfl (by show 1 ≤ 1; decide) rfl h (fun X _ hG hI h1 h2 => by subst hG; exact t_Leaf_init_54 hI h1 h2)
theorem x_Leaf_init_54 (M : Mm) : ∃ M', f_Leaf_init_54 M = some ((), M') := by
  unfold f_Leaf_init_54
  exact ⟨_, rfl⟩
def f_Spot_init_55 (M : Mm) : Option (Unit × Mm) := some ((), M)
set_option maxHeartbeats 4000000 in
set_option maxRecDepth 20000 in
theorem t_Spot_init_55 {X : KX} {M : Mm} (hI : (kt X).name = "<init>") (hrc : 0 ≤ (kr X).cells) (hrs : 0 ≤ (kr X).slots) : GO X md_Spot_init (QE X rvU (0, 0, 56, iniT 53)) 0 [some (rf (kG X) 55)] [] (0, 0, 56, iniT 53) M (f_Spot_init_55 M) := by
  unfold f_Spot_init_55
  refine g_aload_n e_Spot_init_0 rfl ?_
  refine g_objI e_Spot_init_1 ⟨w_69, w_20, w_21⟩ rfl ⟨by decide, Nat.le_of_ble_eq_true rfl⟩ ?_
  exact g_vret e_Spot_init_4 rfl
theorem c_Spot_init_55 {l : Launch} {G : KG} {M M' : Mm} (h : f_Spot_init_55 M = some ((), M')) : CT l G y_Spot_init md_Spot_init 0 0 [rf G 55] 56 (iniT 53) M none 56 (iniT 53) M' :=
  CT.ofI 0 (by decide) rfl (by show 1 ≤ 1; decide) rfl h (fun X _ hG hI h1 h2 => by subst hG; exact t_Spot_init_55 hI h1 h2)
theorem x_Spot_init_55 (M : Mm) : ∃ M', f_Spot_init_55 M = some ((), M') := by
  unfold f_Spot_init_55
  exact ⟨_, rfl⟩
def f_Job_init_53 (M : Mm) : Option (Unit × Mm) := (lT (wI M 53 4 (4 : Int32)) fun M1 => (lT (wI M1 53 7 (100 : Int32)) fun M2 => (lT (wI M2 53 8 (1 : Int32)) fun M3 => (lT (zr M3 54) fun M4 => (bD (f_Leaf_init_54 M4) fun _ M5 => (lT (zr M5 55) fun M6 => (bD (f_Spot_init_55 M6) fun _ M7 => (bD (f_Job_foldBy 53 (1 : Int32) (0 : Int32) M7) fun _ M8 => some ((), M8)))))))))
set_option maxHeartbeats 4000000 in
set_option maxRecDepth 20000 in
theorem t_Job_init_53 {X : KX} {M : Mm} (hI : (kt X).name = "<init>") (hrc : 2 ≤ (kr X).cells) (hrs : 11 ≤ (kr X).slots) : GO X md_Job_init (QE X rvU (2, 11, 56, iniT 54)) 0 [some (rf (kG X) 53)] [] (0, 0, 54, iniT 52) M (f_Job_init_53 M) := by
  unfold f_Job_init_53
  refine g_aload_n e_Job_init_0 rfl ?_
  refine g_objI e_Job_init_1 ⟨w_33, w_20, w_21⟩ rfl ⟨by decide, Nat.le_of_ble_eq_true rfl⟩ ?_
  refine g_aload_n e_Job_init_4 rfl ?_
  refine g_iconst (x := (4 : Int32)) e_Job_init_5 (by decide) ?_
  refine g_putL e_Job_init_6 fp_Job_9_ kq_53 (by decide) fj_0_4 rfl rfl (fun M1 => ?_)
  refine g_aload_n e_Job_init_9 rfl ?_
  refine g_bipush (x := (100 : Int32)) e_Job_init_10 (by decide) ?_
  refine g_putL e_Job_init_12 fp_Job_15_ kq_53 (by decide) fj_0_7 rfl rfl (fun M2 => ?_)
  refine g_aload_n e_Job_init_15 rfl ?_
  refine g_iconst (x := (1 : Int32)) e_Job_init_16 (by decide) ?_
  refine g_putL e_Job_init_17 fp_Job_18_ kq_53 (by decide) fj_0_8 rfl rfl (fun M3 => ?_)
  refine g_aload_n e_Job_init_20 rfl ?_
  refine g_new (c' := 1) (s' := 5) (n' := 55) e_Job_init_21 (show cls[1]? = some ("PressSheets$Leaf", tC1, 5) from rfl) ⟨w_34, w_35, w_4⟩ kq_54 yC1 pY1 dV1 (by decide +kernel) rfl rfl rfl ⟨Nat.le_trans (by decide) hrc, Nat.le_trans (by decide) hrs⟩ (fun M4 => ?_)
  refine g_dup e_Job_init_24 rfl ?_
  refine g_callIN (mc := 0) (ms := 0) (c' := 1) (s' := 5) (As := []) (st := [rf (kG X) 54, rf (kG X) 53]) e_Job_init_25 in_Job_23 rfl rfl my_Leaf_init (by decide) rfl rfl (Nat.le_of_ble_eq_true rfl) rfl rfl ⟨Nat.le_trans (by decide) hrc, Nat.le_trans (by decide) hrs⟩ (fun _ h => c_Leaf_init_54 h) (fun M5 _ => ?_)
  refine g_putR (t' := 53) hI e_Job_init_28 fr_Job_24 kq_53 (by decide) fj_0_9 (show rkl[52]? = some (53, 9) from rfl) (fun v hv => by obtain ⟨a, rfl⟩ := hv; exact ⟨rfl, rfl⟩) rfl rfl ?_
  refine g_aload_n e_Job_init_31 rfl ?_
  refine g_new (c' := 2) (s' := 11) (n' := 56) e_Job_init_32 (show cls[5]? = some ("PressSheets$Spot", tC5, 6) from rfl) ⟨w_64, w_65, w_5⟩ kq_55 yC5 pY5 dV5 (by decide +kernel) rfl rfl rfl ⟨Nat.le_trans (by decide) hrc, Nat.le_trans (by decide) hrs⟩ (fun M6 => ?_)
  refine g_dup e_Job_init_35 rfl ?_
  refine g_callIN (mc := 0) (ms := 0) (c' := 2) (s' := 11) (As := []) (st := [rf (kG X) 55, rf (kG X) 53]) e_Job_init_36 in_Job_30 rfl rfl my_Spot_init (by decide) rfl rfl (Nat.le_of_ble_eq_true rfl) rfl rfl ⟨Nat.le_trans (by decide) hrc, Nat.le_trans (by decide) hrs⟩ (fun _ h => c_Spot_init_55 h) (fun M7 _ => ?_)
  refine g_putR (t' := 54) hI e_Job_init_39 fr_Job_31 kq_53 (by decide) fj_0_10 (show rkl[53]? = some (53, 10) from rfl) (fun v hv => by obtain ⟨a, rfl⟩ := hv; exact ⟨rfl, rfl⟩) rfl rfl ?_
  refine g_aload_n e_Job_init_42 rfl ?_
  refine g_iconst (x := (1 : Int32)) e_Job_init_43 (by decide) ?_
  refine g_iconst (x := (0 : Int32)) e_Job_init_44 (by decide) ?_
  refine g_callV (rv := rvU) (As := [.int (1 : Int32), .int (0 : Int32)]) (st := []) e_Job_init_45 mv_Job_35 my_Job_foldBy (by decide) rfl rfl kq_53 (by decide) rfl (Nat.le_of_ble_eq_true rfl) rfl (fun r M1 h => c_Job_foldBy (Z := (2, 11, 56, iniT 54)) (by decide) kq_53 h) (fun _ M8 _ => ?_)
  exact g_vret e_Job_init_48 rfl
theorem c_Job_init_53 {l : Launch} {G : KG} {M M' : Mm} (h : f_Job_init_53 M = some ((), M')) : CT l G y_Job_init md_Job_init 2 11 [rf G 53] 54 (iniT 52) M none 56 (iniT 54) M' :=
  CT.ofI 0 (by decide) rfl (by show 1 ≤ 1; decide) rfl h (fun X _ hG hI h1 h2 => by subst hG; exact t_Job_init_53 hI h1 h2)
theorem x_Job_init_53 (M : Mm) : ∃ M', f_Job_init_53 M = some ((), M') := by
  unfold f_Job_init_53
  refine lT_ex ?_
  refine lT_ex ?_
  refine lT_ex ?_
  refine lT_ex ?_
  refine bD_ex (x_Leaf_init_54 _) (fun _ => ?_)
  refine lT_ex ?_
  refine bD_ex (x_Spot_init_55 _) (fun _ => ?_)
  refine bD_ex (fbI 53 _) (fun _ => ?_)
  exact ⟨_, rfl⟩
def f_Row_init_57 (M : Mm) : Option (Unit × Mm) := (lT (zr M 58) fun M1 => some ((), M1))
set_option maxHeartbeats 4000000 in
set_option maxRecDepth 20000 in
theorem t_Row_init_57 {X : KX} {M : Mm} (hI : (kt X).name = "<init>") (hrc : 1 ≤ (kr X).cells) (hrs : 100 ≤ (kr X).slots) : GO X md_Row_init (QE X rvU (1, 100, 59, iniT 56)) 0 [some (rf (kG X) 57), some (.int (100 : Int32))] [] (0, 0, 58, iniT 55) M (f_Row_init_57 M) := by
  unfold f_Row_init_57
  refine g_aload_n e_Row_init_0 rfl ?_
  refine g_objI e_Row_init_1 ⟨w_170, w_20, w_21⟩ rfl ⟨by decide, Nat.le_of_ble_eq_true rfl⟩ ?_
  refine g_aload_n e_Row_init_4 rfl ?_
  refine g_iload_n e_Row_init_5 rfl ?_
  refine g_if_le' e_Row_init_6 (fun h => absurd h (by decide)) (fun _ => ?_)
  refine g_iload_n e_Row_init_9 rfl ?_
  refine g_goto e_Row_init_10 ?_
  refine g_newI (N := 100) (c' := 1) (s' := 100) (n' := 59) e_Row_init_14 w_183 kq_58 (by decide) (by decide) rfl rfl rfl ⟨Nat.le_trans (by decide) hrc, Nat.le_trans (by decide) hrs⟩ (fun M1 => ?_)
  refine g_putR (t' := 56) hI e_Row_init_16 fr_Row_9 kq_57 (by decide) fj_4_0 (show rkl[55]? = some (57, 0) from rfl) (fun v hv => by obtain ⟨a, rfl⟩ := hv; exact ⟨rfl, rfl⟩) rfl rfl ?_
  exact g_vret e_Row_init_19 rfl
theorem c_Row_init_57 {l : Launch} {G : KG} {M M' : Mm} (h : f_Row_init_57 M = some ((), M')) : CT l G y_Row_init md_Row_init 1 100 [rf G 57, .int (100 : Int32)] 58 (iniT 55) M none 59 (iniT 56) M' :=
  CT.ofI 0 (by decide) rfl (by show 2 ≤ 2; decide) rfl h (fun X _ hG hI h1 h2 => by subst hG; exact t_Row_init_57 hI h1 h2)
theorem x_Row_init_57 (M : Mm) : ∃ M', f_Row_init_57 M = some ((), M') := by
  unfold f_Row_init_57
  refine lT_ex ?_
  exact ⟨_, rfl⟩
def f_Row_init_59 (M : Mm) : Option (Unit × Mm) := (lT (zr M 60) fun M1 => some ((), M1))
set_option maxHeartbeats 4000000 in
set_option maxRecDepth 20000 in
theorem t_Row_init_59 {X : KX} {M : Mm} (hI : (kt X).name = "<init>") (hrc : 1 ≤ (kr X).cells) (hrs : 10 ≤ (kr X).slots) : GO X md_Row_init (QE X rvU (1, 10, 61, iniT 58)) 0 [some (rf (kG X) 59), some (.int (10 : Int32))] [] (0, 0, 60, iniT 57) M (f_Row_init_59 M) := by
  unfold f_Row_init_59
  refine g_aload_n e_Row_init_0 rfl ?_
  refine g_objI e_Row_init_1 ⟨w_170, w_20, w_21⟩ rfl ⟨by decide, Nat.le_of_ble_eq_true rfl⟩ ?_
  refine g_aload_n e_Row_init_4 rfl ?_
  refine g_iload_n e_Row_init_5 rfl ?_
  refine g_if_le' e_Row_init_6 (fun h => absurd h (by decide)) (fun _ => ?_)
  refine g_iload_n e_Row_init_9 rfl ?_
  refine g_goto e_Row_init_10 ?_
  refine g_newI (N := 10) (c' := 1) (s' := 10) (n' := 61) e_Row_init_14 w_183 kq_60 (by decide) (by decide) rfl rfl rfl ⟨Nat.le_trans (by decide) hrc, Nat.le_trans (by decide) hrs⟩ (fun M1 => ?_)
  refine g_putR (t' := 58) hI e_Row_init_16 fr_Row_9 kq_59 (by decide) fj_4_0 (show rkl[57]? = some (59, 0) from rfl) (fun v hv => by obtain ⟨a, rfl⟩ := hv; exact ⟨rfl, rfl⟩) rfl rfl ?_
  exact g_vret e_Row_init_19 rfl
theorem c_Row_init_59 {l : Launch} {G : KG} {M M' : Mm} (h : f_Row_init_59 M = some ((), M')) : CT l G y_Row_init md_Row_init 1 10 [rf G 59, .int (10 : Int32)] 60 (iniT 57) M none 61 (iniT 58) M' :=
  CT.ofI 0 (by decide) rfl (by show 2 ≤ 2; decide) rfl h (fun X _ hG hI h1 h2 => by subst hG; exact t_Row_init_59 hI h1 h2)
theorem x_Row_init_59 (M : Mm) : ∃ M', f_Row_init_59 M = some ((), M') := by
  unfold f_Row_init_59
  refine lT_ex ?_
  exact ⟨_, rfl⟩
def f_Row_init_61 (M : Mm) : Option (Unit × Mm) := (lT (zr M 62) fun M1 => some ((), M1))
set_option maxHeartbeats 4000000 in
set_option maxRecDepth 20000 in
theorem t_Row_init_61 {X : KX} {M : Mm} (hI : (kt X).name = "<init>") (hrc : 1 ≤ (kr X).cells) (hrs : 10 ≤ (kr X).slots) : GO X md_Row_init (QE X rvU (1, 10, 63, iniT 60)) 0 [some (rf (kG X) 61), some (.int (10 : Int32))] [] (0, 0, 62, iniT 59) M (f_Row_init_61 M) := by
  unfold f_Row_init_61
  refine g_aload_n e_Row_init_0 rfl ?_
  refine g_objI e_Row_init_1 ⟨w_170, w_20, w_21⟩ rfl ⟨by decide, Nat.le_of_ble_eq_true rfl⟩ ?_
  refine g_aload_n e_Row_init_4 rfl ?_
  refine g_iload_n e_Row_init_5 rfl ?_
  refine g_if_le' e_Row_init_6 (fun h => absurd h (by decide)) (fun _ => ?_)
  refine g_iload_n e_Row_init_9 rfl ?_
  refine g_goto e_Row_init_10 ?_
  refine g_newI (N := 10) (c' := 1) (s' := 10) (n' := 63) e_Row_init_14 w_183 kq_62 (by decide) (by decide) rfl rfl rfl ⟨Nat.le_trans (by decide) hrc, Nat.le_trans (by decide) hrs⟩ (fun M1 => ?_)
  refine g_putR (t' := 60) hI e_Row_init_16 fr_Row_9 kq_61 (by decide) fj_4_0 (show rkl[59]? = some (61, 0) from rfl) (fun v hv => by obtain ⟨a, rfl⟩ := hv; exact ⟨rfl, rfl⟩) rfl rfl ?_
  exact g_vret e_Row_init_19 rfl
theorem c_Row_init_61 {l : Launch} {G : KG} {M M' : Mm} (h : f_Row_init_61 M = some ((), M')) : CT l G y_Row_init md_Row_init 1 10 [rf G 61, .int (10 : Int32)] 62 (iniT 59) M none 63 (iniT 60) M' :=
  CT.ofI 0 (by decide) rfl (by show 2 ≤ 2; decide) rfl h (fun X _ hG hI h1 h2 => by subst hG; exact t_Row_init_61 hI h1 h2)
theorem x_Row_init_61 (M : Mm) : ∃ M', f_Row_init_61 M = some ((), M') := by
  unfold f_Row_init_61
  refine lT_ex ?_
  exact ⟨_, rfl⟩
def f_Row_init_63 (M : Mm) : Option (Unit × Mm) := (lT (zr M 64) fun M1 => some ((), M1))
set_option maxHeartbeats 4000000 in
set_option maxRecDepth 20000 in
theorem t_Row_init_63 {X : KX} {M : Mm} (hI : (kt X).name = "<init>") (hrc : 1 ≤ (kr X).cells) (hrs : 10 ≤ (kr X).slots) : GO X md_Row_init (QE X rvU (1, 10, 65, iniT 62)) 0 [some (rf (kG X) 63), some (.int (10 : Int32))] [] (0, 0, 64, iniT 61) M (f_Row_init_63 M) := by
  unfold f_Row_init_63
  refine g_aload_n e_Row_init_0 rfl ?_
  refine g_objI e_Row_init_1 ⟨w_170, w_20, w_21⟩ rfl ⟨by decide, Nat.le_of_ble_eq_true rfl⟩ ?_
  refine g_aload_n e_Row_init_4 rfl ?_
  refine g_iload_n e_Row_init_5 rfl ?_
  refine g_if_le' e_Row_init_6 (fun h => absurd h (by decide)) (fun _ => ?_)
  refine g_iload_n e_Row_init_9 rfl ?_
  refine g_goto e_Row_init_10 ?_
  refine g_newI (N := 10) (c' := 1) (s' := 10) (n' := 65) e_Row_init_14 w_183 kq_64 (by decide) (by decide) rfl rfl rfl ⟨Nat.le_trans (by decide) hrc, Nat.le_trans (by decide) hrs⟩ (fun M1 => ?_)
  refine g_putR (t' := 62) hI e_Row_init_16 fr_Row_9 kq_63 (by decide) fj_4_0 (show rkl[61]? = some (63, 0) from rfl) (fun v hv => by obtain ⟨a, rfl⟩ := hv; exact ⟨rfl, rfl⟩) rfl rfl ?_
  exact g_vret e_Row_init_19 rfl
theorem c_Row_init_63 {l : Launch} {G : KG} {M M' : Mm} (h : f_Row_init_63 M = some ((), M')) : CT l G y_Row_init md_Row_init 1 10 [rf G 63, .int (10 : Int32)] 64 (iniT 61) M none 65 (iniT 62) M' :=
  CT.ofI 0 (by decide) rfl (by show 2 ≤ 2; decide) rfl h (fun X _ hG hI h1 h2 => by subst hG; exact t_Row_init_63 hI h1 h2)
theorem x_Row_init_63 (M : Mm) : ∃ M', f_Row_init_63 M = some ((), M') := by
  unfold f_Row_init_63
  refine lT_ex ?_
  exact ⟨_, rfl⟩
def f_Text_init_56 (M : Mm) : Option (Unit × Mm) := (lT (zr M 57) fun M1 => (bD (f_Row_init_57 M1) fun _ M2 => (lT (zr M2 59) fun M3 => (bD (f_Row_init_59 M3) fun _ M4 => (lT (zr M4 61) fun M5 => (bD (f_Row_init_61 M5) fun _ M6 => (lT (zr M6 63) fun M7 => (bD (f_Row_init_63 M7) fun _ M8 => some ((), M8)))))))))
set_option maxHeartbeats 4000000 in
set_option maxRecDepth 20000 in
theorem t_Text_init_56 {X : KX} {M : Mm} (hI : (kt X).name = "<init>") (hrc : 8 ≤ (kr X).cells) (hrs : 138 ≤ (kr X).slots) : GO X md_Text_init (QE X rvU (8, 138, 65, iniT 63)) 0 [some (rf (kG X) 56)] [] (0, 0, 57, iniT 55) M (f_Text_init_56 M) := by
  unfold f_Text_init_56
  refine g_aload_n e_Text_init_0 rfl ?_
  refine g_objI e_Text_init_1 ⟨w_258, w_20, w_21⟩ rfl ⟨by decide, Nat.le_of_ble_eq_true rfl⟩ ?_
  refine g_aload_n e_Text_init_4 rfl ?_
  refine g_new (c' := 1) (s' := 2) (n' := 58) e_Text_init_5 (show cls[4]? = some ("PressSheets$Row", tC4, 2) from rfl) ⟨w_259, w_166, w_7⟩ kq_57 yC4 pY4 dV4 (by decide +kernel) rfl rfl rfl ⟨Nat.le_trans (by decide) hrc, Nat.le_trans (by decide) hrs⟩ (fun M1 => ?_)
  refine g_dup e_Text_init_8 rfl ?_
  refine g_bipush (x := (100 : Int32)) e_Text_init_9 (by decide) ?_
  refine g_callI (mc := 1) (ms := 100) (c' := 2) (s' := 102) (As := [.int (100 : Int32)]) (st := [rf (kG X) 57, rf (kG X) 56]) e_Text_init_11 ix_Text_11 rfl rfl my_Row_init (by decide) rfl rfl (Nat.le_of_ble_eq_true rfl) rfl rfl ⟨Nat.le_trans (by decide) hrc, Nat.le_trans (by decide) hrs⟩ (fun _ h => c_Row_init_57 h) (fun M2 _ => ?_)
  refine g_putR (t' := 57) hI e_Text_init_14 fr_Text_14 kq_56 (by decide) fj_8_0 (show rkl[56]? = some (56, 0) from rfl) (fun v hv => by obtain ⟨a, rfl⟩ := hv; exact ⟨rfl, rfl⟩) rfl rfl ?_
  refine g_aload_n e_Text_init_17 rfl ?_
  refine g_new (c' := 3) (s' := 104) (n' := 60) e_Text_init_18 (show cls[4]? = some ("PressSheets$Row", tC4, 2) from rfl) ⟨w_259, w_166, w_7⟩ kq_59 yC4 pY4 dV4 (by decide +kernel) rfl rfl rfl ⟨Nat.le_trans (by decide) hrc, Nat.le_trans (by decide) hrs⟩ (fun M3 => ?_)
  refine g_dup e_Text_init_21 rfl ?_
  refine g_bipush (x := (10 : Int32)) e_Text_init_22 (by decide) ?_
  refine g_callI (mc := 1) (ms := 10) (c' := 4) (s' := 114) (As := [.int (10 : Int32)]) (st := [rf (kG X) 59, rf (kG X) 56]) e_Text_init_24 ix_Text_11 rfl rfl my_Row_init (by decide) rfl rfl (Nat.le_of_ble_eq_true rfl) rfl rfl ⟨Nat.le_trans (by decide) hrc, Nat.le_trans (by decide) hrs⟩ (fun _ h => c_Row_init_59 h) (fun M4 _ => ?_)
  refine g_putR (t' := 59) hI e_Text_init_27 fr_Text_20 kq_56 (by decide) fj_8_1 (show rkl[58]? = some (56, 1) from rfl) (fun v hv => by obtain ⟨a, rfl⟩ := hv; exact ⟨rfl, rfl⟩) rfl rfl ?_
  refine g_aload_n e_Text_init_30 rfl ?_
  refine g_new (c' := 5) (s' := 116) (n' := 62) e_Text_init_31 (show cls[4]? = some ("PressSheets$Row", tC4, 2) from rfl) ⟨w_259, w_166, w_7⟩ kq_61 yC4 pY4 dV4 (by decide +kernel) rfl rfl rfl ⟨Nat.le_trans (by decide) hrc, Nat.le_trans (by decide) hrs⟩ (fun M5 => ?_)
  refine g_dup e_Text_init_34 rfl ?_
  refine g_bipush (x := (10 : Int32)) e_Text_init_35 (by decide) ?_
  refine g_callI (mc := 1) (ms := 10) (c' := 6) (s' := 126) (As := [.int (10 : Int32)]) (st := [rf (kG X) 61, rf (kG X) 56]) e_Text_init_37 ix_Text_11 rfl rfl my_Row_init (by decide) rfl rfl (Nat.le_of_ble_eq_true rfl) rfl rfl ⟨Nat.le_trans (by decide) hrc, Nat.le_trans (by decide) hrs⟩ (fun _ h => c_Row_init_61 h) (fun M6 _ => ?_)
  refine g_putR (t' := 61) hI e_Text_init_40 fr_Text_23 kq_56 (by decide) fj_8_2 (show rkl[60]? = some (56, 2) from rfl) (fun v hv => by obtain ⟨a, rfl⟩ := hv; exact ⟨rfl, rfl⟩) rfl rfl ?_
  refine g_aload_n e_Text_init_43 rfl ?_
  refine g_new (c' := 7) (s' := 128) (n' := 64) e_Text_init_44 (show cls[4]? = some ("PressSheets$Row", tC4, 2) from rfl) ⟨w_259, w_166, w_7⟩ kq_63 yC4 pY4 dV4 (by decide +kernel) rfl rfl rfl ⟨Nat.le_trans (by decide) hrc, Nat.le_trans (by decide) hrs⟩ (fun M7 => ?_)
  refine g_dup e_Text_init_47 rfl ?_
  refine g_bipush (x := (10 : Int32)) e_Text_init_48 (by decide) ?_
  refine g_callI (mc := 1) (ms := 10) (c' := 8) (s' := 138) (As := [.int (10 : Int32)]) (st := [rf (kG X) 63, rf (kG X) 56]) e_Text_init_50 ix_Text_11 rfl rfl my_Row_init (by decide) rfl rfl (Nat.le_of_ble_eq_true rfl) rfl rfl ⟨Nat.le_trans (by decide) hrc, Nat.le_trans (by decide) hrs⟩ (fun _ h => c_Row_init_63 h) (fun M8 _ => ?_)
  refine g_putR (t' := 63) hI e_Text_init_53 fr_Text_26 kq_56 (by decide) fj_8_3 (show rkl[62]? = some (56, 3) from rfl) (fun v hv => by obtain ⟨a, rfl⟩ := hv; exact ⟨rfl, rfl⟩) rfl rfl ?_
  exact g_vret e_Text_init_56 rfl
theorem c_Text_init_56 {l : Launch} {G : KG} {M M' : Mm} (h : f_Text_init_56 M = some ((), M')) : CT l G y_Text_init md_Text_init 8 138 [rf G 56] 57 (iniT 55) M none 65 (iniT 63) M' :=
  CT.ofI 0 (by decide) rfl (by show 1 ≤ 1; decide) rfl h (fun X _ hG hI h1 h2 => by subst hG; exact t_Text_init_56 hI h1 h2)
theorem x_Text_init_56 (M : Mm) : ∃ M', f_Text_init_56 M = some ((), M') := by
  unfold f_Text_init_56
  refine lT_ex ?_
  refine bD_ex (x_Row_init_57 _) (fun _ => ?_)
  refine lT_ex ?_
  refine bD_ex (x_Row_init_59 _) (fun _ => ?_)
  refine lT_ex ?_
  refine bD_ex (x_Row_init_61 _) (fun _ => ?_)
  refine lT_ex ?_
  refine bD_ex (x_Row_init_63 _) (fun _ => ?_)
  exact ⟨_, rfl⟩
def f_Tape_init_66 (M : Mm) : Option (Unit × Mm) := (lT (wI M 66 0 (-1 : Int32)) fun M1 => (lT (zr M1 67) fun M2 => some ((), M2)))
set_option maxHeartbeats 4000000 in
set_option maxRecDepth 20000 in
theorem t_Tape_init_66 {X : KX} {M : Mm} (hI : (kt X).name = "<init>") (hrc : 1 ≤ (kr X).cells) (hrs : 60 ≤ (kr X).slots) : GO X md_Tape_init (QE X rvU (1, 60, 68, iniT 65)) 0 [some (rf (kG X) 66)] [] (0, 0, 67, iniT 64) M (f_Tape_init_66 M) := by
  unfold f_Tape_init_66
  refine g_aload_n e_Tape_init_0 rfl ?_
  refine g_objI e_Tape_init_1 ⟨w_287, w_20, w_21⟩ rfl ⟨by decide, Nat.le_of_ble_eq_true rfl⟩ ?_
  refine g_aload_n e_Tape_init_4 rfl ?_
  refine g_iconst (x := (-1 : Int32)) e_Tape_init_5 (by decide) ?_
  refine g_putL e_Tape_init_6 fp_Tape_11_ kq_66 (by decide) fj_7_0 rfl rfl (fun M1 => ?_)
  refine g_aload_n e_Tape_init_9 rfl ?_
  refine g_bipush (x := (60 : Int32)) e_Tape_init_10 (by decide) ?_
  refine g_newJ (N := 60) (c' := 1) (s' := 60) (n' := 68) e_Tape_init_12 w_300 kq_67 (by decide) (by decide) rfl rfl rfl ⟨Nat.le_trans (by decide) hrc, Nat.le_trans (by decide) hrs⟩ (fun M2 => ?_)
  refine g_putR (t' := 65) hI e_Tape_init_14 fr_Tape_15 kq_66 (by decide) fj_7_2 (show rkl[64]? = some (66, 2) from rfl) (fun v hv => by obtain ⟨a, rfl⟩ := hv; exact ⟨rfl, rfl⟩) rfl rfl ?_
  exact g_vret e_Tape_init_17 rfl
theorem c_Tape_init_66 {l : Launch} {G : KG} {M M' : Mm} (h : f_Tape_init_66 M = some ((), M')) : CT l G y_Tape_init md_Tape_init 1 60 [rf G 66] 67 (iniT 64) M none 68 (iniT 65) M' :=
  CT.ofI 0 (by decide) rfl (by show 1 ≤ 1; decide) rfl h (fun X _ hG hI h1 h2 => by subst hG; exact t_Tape_init_66 hI h1 h2)
theorem x_Tape_init_66 (M : Mm) : ∃ M', f_Tape_init_66 M = some ((), M') := by
  unfold f_Tape_init_66
  refine lT_ex ?_
  refine lT_ex ?_
  exact ⟨_, rfl⟩
def f_Tape_init_68 (M : Mm) : Option (Unit × Mm) := (lT (wI M 68 0 (-1 : Int32)) fun M1 => (lT (zr M1 69) fun M2 => some ((), M2)))
set_option maxHeartbeats 4000000 in
set_option maxRecDepth 20000 in
theorem t_Tape_init_68 {X : KX} {M : Mm} (hI : (kt X).name = "<init>") (hrc : 1 ≤ (kr X).cells) (hrs : 60 ≤ (kr X).slots) : GO X md_Tape_init (QE X rvU (1, 60, 70, iniT 67)) 0 [some (rf (kG X) 68)] [] (0, 0, 69, iniT 66) M (f_Tape_init_68 M) := by
  unfold f_Tape_init_68
  refine g_aload_n e_Tape_init_0 rfl ?_
  refine g_objI e_Tape_init_1 ⟨w_287, w_20, w_21⟩ rfl ⟨by decide, Nat.le_of_ble_eq_true rfl⟩ ?_
  refine g_aload_n e_Tape_init_4 rfl ?_
  refine g_iconst (x := (-1 : Int32)) e_Tape_init_5 (by decide) ?_
  refine g_putL e_Tape_init_6 fp_Tape_11_ kq_68 (by decide) fj_7_0 rfl rfl (fun M1 => ?_)
  refine g_aload_n e_Tape_init_9 rfl ?_
  refine g_bipush (x := (60 : Int32)) e_Tape_init_10 (by decide) ?_
  refine g_newJ (N := 60) (c' := 1) (s' := 60) (n' := 70) e_Tape_init_12 w_300 kq_69 (by decide) (by decide) rfl rfl rfl ⟨Nat.le_trans (by decide) hrc, Nat.le_trans (by decide) hrs⟩ (fun M2 => ?_)
  refine g_putR (t' := 67) hI e_Tape_init_14 fr_Tape_15 kq_68 (by decide) fj_7_2 (show rkl[66]? = some (68, 2) from rfl) (fun v hv => by obtain ⟨a, rfl⟩ := hv; exact ⟨rfl, rfl⟩) rfl rfl ?_
  exact g_vret e_Tape_init_17 rfl
theorem c_Tape_init_68 {l : Launch} {G : KG} {M M' : Mm} (h : f_Tape_init_68 M = some ((), M')) : CT l G y_Tape_init md_Tape_init 1 60 [rf G 68] 69 (iniT 66) M none 70 (iniT 67) M' :=
  CT.ofI 0 (by decide) rfl (by show 1 ≤ 1; decide) rfl h (fun X _ hG hI h1 h2 => by subst hG; exact t_Tape_init_68 hI h1 h2)
theorem x_Tape_init_68 (M : Mm) : ∃ M', f_Tape_init_68 M = some ((), M') := by
  unfold f_Tape_init_68
  refine lT_ex ?_
  refine lT_ex ?_
  exact ⟨_, rfl⟩
def f_Tape_init_70 (M : Mm) : Option (Unit × Mm) := (lT (wI M 70 0 (-1 : Int32)) fun M1 => (lT (zr M1 71) fun M2 => some ((), M2)))
set_option maxHeartbeats 4000000 in
set_option maxRecDepth 20000 in
theorem t_Tape_init_70 {X : KX} {M : Mm} (hI : (kt X).name = "<init>") (hrc : 1 ≤ (kr X).cells) (hrs : 60 ≤ (kr X).slots) : GO X md_Tape_init (QE X rvU (1, 60, 72, iniT 69)) 0 [some (rf (kG X) 70)] [] (0, 0, 71, iniT 68) M (f_Tape_init_70 M) := by
  unfold f_Tape_init_70
  refine g_aload_n e_Tape_init_0 rfl ?_
  refine g_objI e_Tape_init_1 ⟨w_287, w_20, w_21⟩ rfl ⟨by decide, Nat.le_of_ble_eq_true rfl⟩ ?_
  refine g_aload_n e_Tape_init_4 rfl ?_
  refine g_iconst (x := (-1 : Int32)) e_Tape_init_5 (by decide) ?_
  refine g_putL e_Tape_init_6 fp_Tape_11_ kq_70 (by decide) fj_7_0 rfl rfl (fun M1 => ?_)
  refine g_aload_n e_Tape_init_9 rfl ?_
  refine g_bipush (x := (60 : Int32)) e_Tape_init_10 (by decide) ?_
  refine g_newJ (N := 60) (c' := 1) (s' := 60) (n' := 72) e_Tape_init_12 w_300 kq_71 (by decide) (by decide) rfl rfl rfl ⟨Nat.le_trans (by decide) hrc, Nat.le_trans (by decide) hrs⟩ (fun M2 => ?_)
  refine g_putR (t' := 69) hI e_Tape_init_14 fr_Tape_15 kq_70 (by decide) fj_7_2 (show rkl[68]? = some (70, 2) from rfl) (fun v hv => by obtain ⟨a, rfl⟩ := hv; exact ⟨rfl, rfl⟩) rfl rfl ?_
  exact g_vret e_Tape_init_17 rfl
theorem c_Tape_init_70 {l : Launch} {G : KG} {M M' : Mm} (h : f_Tape_init_70 M = some ((), M')) : CT l G y_Tape_init md_Tape_init 1 60 [rf G 70] 71 (iniT 68) M none 72 (iniT 69) M' :=
  CT.ofI 0 (by decide) rfl (by show 1 ≤ 1; decide) rfl h (fun X _ hG hI h1 h2 => by subst hG; exact t_Tape_init_70 hI h1 h2)
theorem x_Tape_init_70 (M : Mm) : ∃ M', f_Tape_init_70 M = some ((), M') := by
  unfold f_Tape_init_70
  refine lT_ex ?_
  refine lT_ex ?_
  exact ⟨_, rfl⟩
def f_Tape_init_72 (M : Mm) : Option (Unit × Mm) := (lT (wI M 72 0 (-1 : Int32)) fun M1 => (lT (zr M1 73) fun M2 => some ((), M2)))
set_option maxHeartbeats 4000000 in
set_option maxRecDepth 20000 in
theorem t_Tape_init_72 {X : KX} {M : Mm} (hI : (kt X).name = "<init>") (hrc : 1 ≤ (kr X).cells) (hrs : 60 ≤ (kr X).slots) : GO X md_Tape_init (QE X rvU (1, 60, 74, iniT 71)) 0 [some (rf (kG X) 72)] [] (0, 0, 73, iniT 70) M (f_Tape_init_72 M) := by
  unfold f_Tape_init_72
  refine g_aload_n e_Tape_init_0 rfl ?_
  refine g_objI e_Tape_init_1 ⟨w_287, w_20, w_21⟩ rfl ⟨by decide, Nat.le_of_ble_eq_true rfl⟩ ?_
  refine g_aload_n e_Tape_init_4 rfl ?_
  refine g_iconst (x := (-1 : Int32)) e_Tape_init_5 (by decide) ?_
  refine g_putL e_Tape_init_6 fp_Tape_11_ kq_72 (by decide) fj_7_0 rfl rfl (fun M1 => ?_)
  refine g_aload_n e_Tape_init_9 rfl ?_
  refine g_bipush (x := (60 : Int32)) e_Tape_init_10 (by decide) ?_
  refine g_newJ (N := 60) (c' := 1) (s' := 60) (n' := 74) e_Tape_init_12 w_300 kq_73 (by decide) (by decide) rfl rfl rfl ⟨Nat.le_trans (by decide) hrc, Nat.le_trans (by decide) hrs⟩ (fun M2 => ?_)
  refine g_putR (t' := 71) hI e_Tape_init_14 fr_Tape_15 kq_72 (by decide) fj_7_2 (show rkl[70]? = some (72, 2) from rfl) (fun v hv => by obtain ⟨a, rfl⟩ := hv; exact ⟨rfl, rfl⟩) rfl rfl ?_
  exact g_vret e_Tape_init_17 rfl
theorem c_Tape_init_72 {l : Launch} {G : KG} {M M' : Mm} (h : f_Tape_init_72 M = some ((), M')) : CT l G y_Tape_init md_Tape_init 1 60 [rf G 72] 73 (iniT 70) M none 74 (iniT 71) M' :=
  CT.ofI 0 (by decide) rfl (by show 1 ≤ 1; decide) rfl h (fun X _ hG hI h1 h2 => by subst hG; exact t_Tape_init_72 hI h1 h2)
theorem x_Tape_init_72 (M : Mm) : ∃ M', f_Tape_init_72 M = some ((), M') := by
  unfold f_Tape_init_72
  refine lT_ex ?_
  refine lT_ex ?_
  exact ⟨_, rfl⟩
def f_Tape_init_74 (M : Mm) : Option (Unit × Mm) := (lT (wI M 74 0 (-1 : Int32)) fun M1 => (lT (zr M1 75) fun M2 => some ((), M2)))
set_option maxHeartbeats 4000000 in
set_option maxRecDepth 20000 in
theorem t_Tape_init_74 {X : KX} {M : Mm} (hI : (kt X).name = "<init>") (hrc : 1 ≤ (kr X).cells) (hrs : 60 ≤ (kr X).slots) : GO X md_Tape_init (QE X rvU (1, 60, 76, iniT 73)) 0 [some (rf (kG X) 74)] [] (0, 0, 75, iniT 72) M (f_Tape_init_74 M) := by
  unfold f_Tape_init_74
  refine g_aload_n e_Tape_init_0 rfl ?_
  refine g_objI e_Tape_init_1 ⟨w_287, w_20, w_21⟩ rfl ⟨by decide, Nat.le_of_ble_eq_true rfl⟩ ?_
  refine g_aload_n e_Tape_init_4 rfl ?_
  refine g_iconst (x := (-1 : Int32)) e_Tape_init_5 (by decide) ?_
  refine g_putL e_Tape_init_6 fp_Tape_11_ kq_74 (by decide) fj_7_0 rfl rfl (fun M1 => ?_)
  refine g_aload_n e_Tape_init_9 rfl ?_
  refine g_bipush (x := (60 : Int32)) e_Tape_init_10 (by decide) ?_
  refine g_newJ (N := 60) (c' := 1) (s' := 60) (n' := 76) e_Tape_init_12 w_300 kq_75 (by decide) (by decide) rfl rfl rfl ⟨Nat.le_trans (by decide) hrc, Nat.le_trans (by decide) hrs⟩ (fun M2 => ?_)
  refine g_putR (t' := 73) hI e_Tape_init_14 fr_Tape_15 kq_74 (by decide) fj_7_2 (show rkl[72]? = some (74, 2) from rfl) (fun v hv => by obtain ⟨a, rfl⟩ := hv; exact ⟨rfl, rfl⟩) rfl rfl ?_
  exact g_vret e_Tape_init_17 rfl
theorem c_Tape_init_74 {l : Launch} {G : KG} {M M' : Mm} (h : f_Tape_init_74 M = some ((), M')) : CT l G y_Tape_init md_Tape_init 1 60 [rf G 74] 75 (iniT 72) M none 76 (iniT 73) M' :=
  CT.ofI 0 (by decide) rfl (by show 1 ≤ 1; decide) rfl h (fun X _ hG hI h1 h2 => by subst hG; exact t_Tape_init_74 hI h1 h2)
theorem x_Tape_init_74 (M : Mm) : ∃ M', f_Tape_init_74 M = some ((), M') := by
  unfold f_Tape_init_74
  refine lT_ex ?_
  refine lT_ex ?_
  exact ⟨_, rfl⟩
def f_Tape_init_76 (M : Mm) : Option (Unit × Mm) := (lT (wI M 76 0 (-1 : Int32)) fun M1 => (lT (zr M1 77) fun M2 => some ((), M2)))
set_option maxHeartbeats 4000000 in
set_option maxRecDepth 20000 in
theorem t_Tape_init_76 {X : KX} {M : Mm} (hI : (kt X).name = "<init>") (hrc : 1 ≤ (kr X).cells) (hrs : 60 ≤ (kr X).slots) : GO X md_Tape_init (QE X rvU (1, 60, 78, iniT 75)) 0 [some (rf (kG X) 76)] [] (0, 0, 77, iniT 74) M (f_Tape_init_76 M) := by
  unfold f_Tape_init_76
  refine g_aload_n e_Tape_init_0 rfl ?_
  refine g_objI e_Tape_init_1 ⟨w_287, w_20, w_21⟩ rfl ⟨by decide, Nat.le_of_ble_eq_true rfl⟩ ?_
  refine g_aload_n e_Tape_init_4 rfl ?_
  refine g_iconst (x := (-1 : Int32)) e_Tape_init_5 (by decide) ?_
  refine g_putL e_Tape_init_6 fp_Tape_11_ kq_76 (by decide) fj_7_0 rfl rfl (fun M1 => ?_)
  refine g_aload_n e_Tape_init_9 rfl ?_
  refine g_bipush (x := (60 : Int32)) e_Tape_init_10 (by decide) ?_
  refine g_newJ (N := 60) (c' := 1) (s' := 60) (n' := 78) e_Tape_init_12 w_300 kq_77 (by decide) (by decide) rfl rfl rfl ⟨Nat.le_trans (by decide) hrc, Nat.le_trans (by decide) hrs⟩ (fun M2 => ?_)
  refine g_putR (t' := 75) hI e_Tape_init_14 fr_Tape_15 kq_76 (by decide) fj_7_2 (show rkl[74]? = some (76, 2) from rfl) (fun v hv => by obtain ⟨a, rfl⟩ := hv; exact ⟨rfl, rfl⟩) rfl rfl ?_
  exact g_vret e_Tape_init_17 rfl
theorem c_Tape_init_76 {l : Launch} {G : KG} {M M' : Mm} (h : f_Tape_init_76 M = some ((), M')) : CT l G y_Tape_init md_Tape_init 1 60 [rf G 76] 77 (iniT 74) M none 78 (iniT 75) M' :=
  CT.ofI 0 (by decide) rfl (by show 1 ≤ 1; decide) rfl h (fun X _ hG hI h1 h2 => by subst hG; exact t_Tape_init_76 hI h1 h2)
theorem x_Tape_init_76 (M : Mm) : ∃ M', f_Tape_init_76 M = some ((), M') := by
  unfold f_Tape_init_76
  refine lT_ex ?_
  refine lT_ex ?_
  exact ⟨_, rfl⟩
def f_PS_init_0 (M : Mm) : Option (Unit × Mm) := (lT (zr M 1) fun M1 => (bD (f_State_init_1 M1) fun _ M2 => (lT (zr M2 27) fun M3 => (bD (f_State_init_27 M3) fun _ M4 => (lT (zr M4 53) fun M5 => (bD (f_Job_init_53 M5) fun _ M6 => (lT (zr M6 56) fun M7 => (bD (f_Text_init_56 M7) fun _ M8 => (lT (zr M8 65) fun M9 => (lT (zr M9 66) fun M10 => (bD (f_Tape_init_66 M10) fun _ M11 => (lT (zr M11 68) fun M12 => (bD (f_Tape_init_68 M12) fun _ M13 => (lT (zr M13 70) fun M14 => (bD (f_Tape_init_70 M14) fun _ M15 => (lT (zr M15 72) fun M16 => (bD (f_Tape_init_72 M16) fun _ M17 => (lT (zr M17 74) fun M18 => (bD (f_Tape_init_74 M18) fun _ M19 => (lT (zr M19 76) fun M20 => (bD (f_Tape_init_76 M20) fun _ M21 => some ((), M21))))))))))))))))))))))
set_option maxHeartbeats 4000000 in
set_option maxRecDepth 20000 in
theorem t_PS_init_0 {X : KX} {M : Mm} (hI : (kt X).name = "<init>") (hrc : 77 ≤ (kr X).cells) (hrs : 1287 ≤ (kr X).slots) : GO X md_PS_init (QE X rvU (77, 1287, 78, iniT 77)) 0 [some (rf (kG X) 0)] [] (0, 0, 1, iniT 0) M (f_PS_init_0 M) := by
  unfold f_PS_init_0
  refine g_aload_n e_PS_init_0 rfl ?_
  refine g_objI e_PS_init_1 ⟨w_19, w_20, w_21⟩ rfl ⟨by decide, Nat.le_of_ble_eq_true rfl⟩ ?_
  refine g_aload_n e_PS_init_4 rfl ?_
  refine g_new (c' := 1) (s' := 7) (n' := 2) e_PS_init_5 (show cls[6]? = some ("PressSheets$State", tC6, 7) from rfl) ⟨w_22, w_23, w_2⟩ kq_1 yC6 pY6 dV6 (by decide +kernel) rfl rfl rfl ⟨Nat.le_trans (by decide) hrc, Nat.le_trans (by decide) hrs⟩ (fun M1 => ?_)
  refine g_dup e_PS_init_8 rfl ?_
  refine g_callIN (mc := 25) (ms := 362) (c' := 26) (s' := 369) (As := []) (st := [rf (kG X) 1, rf (kG X) 0]) e_PS_init_9 in_PS_11 rfl rfl my_State_init (by decide) rfl rfl (Nat.le_of_ble_eq_true rfl) rfl rfl ⟨Nat.le_trans (by decide) hrc, Nat.le_trans (by decide) hrs⟩ (fun _ h => c_State_init_1 h) (fun M2 _ => ?_)
  refine g_putR (t' := 26) hI e_PS_init_12 fr_PS_12 kq_0 (by decide) fj_9_0 (show rkl[25]? = some (0, 0) from rfl) (fun v hv => by obtain ⟨a, rfl⟩ := hv; exact ⟨rfl, rfl⟩) rfl rfl ?_
  refine g_aload_n e_PS_init_15 rfl ?_
  refine g_new (c' := 27) (s' := 376) (n' := 28) e_PS_init_16 (show cls[6]? = some ("PressSheets$State", tC6, 7) from rfl) ⟨w_22, w_23, w_2⟩ kq_27 yC6 pY6 dV6 (by decide +kernel) rfl rfl rfl ⟨Nat.le_trans (by decide) hrc, Nat.le_trans (by decide) hrs⟩ (fun M3 => ?_)
  refine g_dup e_PS_init_19 rfl ?_
  refine g_callIN (mc := 25) (ms := 362) (c' := 52) (s' := 738) (As := []) (st := [rf (kG X) 27, rf (kG X) 0]) e_PS_init_20 in_PS_11 rfl rfl my_State_init (by decide) rfl rfl (Nat.le_of_ble_eq_true rfl) rfl rfl ⟨Nat.le_trans (by decide) hrc, Nat.le_trans (by decide) hrs⟩ (fun _ h => c_State_init_27 h) (fun M4 _ => ?_)
  refine g_putR (t' := 52) hI e_PS_init_23 fr_PS_18 kq_0 (by decide) fj_9_1 (show rkl[51]? = some (0, 1) from rfl) (fun v hv => by obtain ⟨a, rfl⟩ := hv; exact ⟨rfl, rfl⟩) rfl rfl ?_
  refine g_aload_n e_PS_init_26 rfl ?_
  refine g_new (c' := 53) (s' := 749) (n' := 54) e_PS_init_27 (show cls[0]? = some ("PressSheets$Job", tC0, 11) from rfl) ⟨w_251, w_29, w_3⟩ kq_53 yC0 pY0 dV0 (by decide +kernel) rfl rfl rfl ⟨Nat.le_trans (by decide) hrc, Nat.le_trans (by decide) hrs⟩ (fun M5 => ?_)
  refine g_dup e_PS_init_30 rfl ?_
  refine g_callI (mc := 2) (ms := 11) (c' := 55) (s' := 760) (As := []) (st := [rf (kG X) 53, rf (kG X) 0]) e_PS_init_31 ix_PS_23 rfl rfl my_Job_init (by decide) rfl rfl (Nat.le_of_ble_eq_true rfl) rfl rfl ⟨Nat.le_trans (by decide) hrc, Nat.le_trans (by decide) hrs⟩ (fun _ h => c_Job_init_53 h) (fun M6 _ => ?_)
  refine g_putR (t' := 55) hI e_PS_init_34 fr_PS_24 kq_0 (by decide) fj_9_3 (show rkl[54]? = some (0, 3) from rfl) (fun v hv => by obtain ⟨a, rfl⟩ := hv; exact ⟨rfl, rfl⟩) rfl rfl ?_
  refine g_aload_n e_PS_init_37 rfl ?_
  refine g_new (c' := 56) (s' := 765) (n' := 57) e_PS_init_38 (show cls[8]? = some ("PressSheets$Text", tC8, 5) from rfl) ⟨w_253, w_254, w_9⟩ kq_56 yC8 pY8 dV8 (by decide +kernel) rfl rfl rfl ⟨Nat.le_trans (by decide) hrc, Nat.le_trans (by decide) hrs⟩ (fun M7 => ?_)
  refine g_dup e_PS_init_41 rfl ?_
  refine g_callIN (mc := 8) (ms := 138) (c' := 64) (s' := 903) (As := []) (st := [rf (kG X) 56, rf (kG X) 0]) e_PS_init_42 in_PS_30 rfl rfl my_Text_init (by decide) rfl rfl (Nat.le_of_ble_eq_true rfl) rfl rfl ⟨Nat.le_trans (by decide) hrc, Nat.le_trans (by decide) hrs⟩ (fun _ h => c_Text_init_56 h) (fun M8 _ => ?_)
  refine g_putR (t' := 64) hI e_PS_init_45 fr_PS_31 kq_0 (by decide) fj_9_4 (show rkl[63]? = some (0, 4) from rfl) (fun v hv => by obtain ⟨a, rfl⟩ := hv; exact ⟨rfl, rfl⟩) rfl rfl ?_
  refine g_aload_n e_PS_init_48 rfl ?_
  refine g_bipush (x := (6 : Int32)) e_PS_init_49 (by decide) ?_
  refine g_newT (c' := 65) (s' := 909) (n' := 66) e_PS_init_51 w_281 kq_65 (by decide) (by decide +kernel) rfl rfl rfl ⟨Nat.le_trans (by decide) hrc, Nat.le_trans (by decide) hrs⟩ (fun M9 => ?_)
  refine g_dup e_PS_init_54 rfl ?_
  refine g_iconst (x := (0 : Int32)) e_PS_init_55 (by decide) ?_
  refine g_new (c' := 66) (s' := 912) (n' := 67) e_PS_init_56 (show cls[7]? = some ("PressSheets$Tape", tC7, 3) from rfl) ⟨w_281, w_283, w_10⟩ kq_66 yC7 pY7 dV7 (by decide +kernel) rfl rfl rfl ⟨Nat.le_trans (by decide) hrc, Nat.le_trans (by decide) hrs⟩ (fun M10 => ?_)
  refine g_dup e_PS_init_59 rfl ?_
  refine g_callIN (mc := 1) (ms := 60) (c' := 67) (s' := 972) (As := []) (st := [rf (kG X) 66, .int (0 : Int32), rf (kG X) 65, rf (kG X) 65, rf (kG X) 0]) e_PS_init_60 in_PS_37 rfl rfl my_Tape_init (by decide) rfl rfl (Nat.le_of_ble_eq_true rfl) rfl rfl ⟨Nat.le_trans (by decide) hrc, Nat.le_trans (by decide) hrs⟩ (fun _ h => c_Tape_init_66 h) (fun M11 _ => ?_)
  refine g_aast (j := 0) (t' := 66) e_PS_init_63 kq_65 (by decide) kq_66 (by decide) (by decide) (by decide) (show rkl[65]? = some (65, 0) from rfl) rfl rfl ?_
  refine g_dup e_PS_init_64 rfl ?_
  refine g_iconst (x := (1 : Int32)) e_PS_init_65 (by decide) ?_
  refine g_new (c' := 68) (s' := 975) (n' := 69) e_PS_init_66 (show cls[7]? = some ("PressSheets$Tape", tC7, 3) from rfl) ⟨w_281, w_283, w_10⟩ kq_68 yC7 pY7 dV7 (by decide +kernel) rfl rfl rfl ⟨Nat.le_trans (by decide) hrc, Nat.le_trans (by decide) hrs⟩ (fun M12 => ?_)
  refine g_dup e_PS_init_69 rfl ?_
  refine g_callIN (mc := 1) (ms := 60) (c' := 69) (s' := 1035) (As := []) (st := [rf (kG X) 68, .int (1 : Int32), rf (kG X) 65, rf (kG X) 65, rf (kG X) 0]) e_PS_init_70 in_PS_37 rfl rfl my_Tape_init (by decide) rfl rfl (Nat.le_of_ble_eq_true rfl) rfl rfl ⟨Nat.le_trans (by decide) hrc, Nat.le_trans (by decide) hrs⟩ (fun _ h => c_Tape_init_68 h) (fun M13 _ => ?_)
  refine g_aast (j := 1) (t' := 68) e_PS_init_73 kq_65 (by decide) kq_68 (by decide) (by decide) (by decide) (show rkl[67]? = some (65, 1) from rfl) rfl rfl ?_
  refine g_dup e_PS_init_74 rfl ?_
  refine g_iconst (x := (2 : Int32)) e_PS_init_75 (by decide) ?_
  refine g_new (c' := 70) (s' := 1038) (n' := 71) e_PS_init_76 (show cls[7]? = some ("PressSheets$Tape", tC7, 3) from rfl) ⟨w_281, w_283, w_10⟩ kq_70 yC7 pY7 dV7 (by decide +kernel) rfl rfl rfl ⟨Nat.le_trans (by decide) hrc, Nat.le_trans (by decide) hrs⟩ (fun M14 => ?_)
  refine g_dup e_PS_init_79 rfl ?_
  refine g_callIN (mc := 1) (ms := 60) (c' := 71) (s' := 1098) (As := []) (st := [rf (kG X) 70, .int (2 : Int32), rf (kG X) 65, rf (kG X) 65, rf (kG X) 0]) e_PS_init_80 in_PS_37 rfl rfl my_Tape_init (by decide) rfl rfl (Nat.le_of_ble_eq_true rfl) rfl rfl ⟨Nat.le_trans (by decide) hrc, Nat.le_trans (by decide) hrs⟩ (fun _ h => c_Tape_init_70 h) (fun M15 _ => ?_)
  refine g_aast (j := 2) (t' := 70) e_PS_init_83 kq_65 (by decide) kq_70 (by decide) (by decide) (by decide) (show rkl[69]? = some (65, 2) from rfl) rfl rfl ?_
  refine g_dup e_PS_init_84 rfl ?_
  refine g_iconst (x := (3 : Int32)) e_PS_init_85 (by decide) ?_
  refine g_new (c' := 72) (s' := 1101) (n' := 73) e_PS_init_86 (show cls[7]? = some ("PressSheets$Tape", tC7, 3) from rfl) ⟨w_281, w_283, w_10⟩ kq_72 yC7 pY7 dV7 (by decide +kernel) rfl rfl rfl ⟨Nat.le_trans (by decide) hrc, Nat.le_trans (by decide) hrs⟩ (fun M16 => ?_)
  refine g_dup e_PS_init_89 rfl ?_
  refine g_callIN (mc := 1) (ms := 60) (c' := 73) (s' := 1161) (As := []) (st := [rf (kG X) 72, .int (3 : Int32), rf (kG X) 65, rf (kG X) 65, rf (kG X) 0]) e_PS_init_90 in_PS_37 rfl rfl my_Tape_init (by decide) rfl rfl (Nat.le_of_ble_eq_true rfl) rfl rfl ⟨Nat.le_trans (by decide) hrc, Nat.le_trans (by decide) hrs⟩ (fun _ h => c_Tape_init_72 h) (fun M17 _ => ?_)
  refine g_aast (j := 3) (t' := 72) e_PS_init_93 kq_65 (by decide) kq_72 (by decide) (by decide) (by decide) (show rkl[71]? = some (65, 3) from rfl) rfl rfl ?_
  refine g_dup e_PS_init_94 rfl ?_
  refine g_iconst (x := (4 : Int32)) e_PS_init_95 (by decide) ?_
  refine g_new (c' := 74) (s' := 1164) (n' := 75) e_PS_init_96 (show cls[7]? = some ("PressSheets$Tape", tC7, 3) from rfl) ⟨w_281, w_283, w_10⟩ kq_74 yC7 pY7 dV7 (by decide +kernel) rfl rfl rfl ⟨Nat.le_trans (by decide) hrc, Nat.le_trans (by decide) hrs⟩ (fun M18 => ?_)
  refine g_dup e_PS_init_99 rfl ?_
  refine g_callIN (mc := 1) (ms := 60) (c' := 75) (s' := 1224) (As := []) (st := [rf (kG X) 74, .int (4 : Int32), rf (kG X) 65, rf (kG X) 65, rf (kG X) 0]) e_PS_init_100 in_PS_37 rfl rfl my_Tape_init (by decide) rfl rfl (Nat.le_of_ble_eq_true rfl) rfl rfl ⟨Nat.le_trans (by decide) hrc, Nat.le_trans (by decide) hrs⟩ (fun _ h => c_Tape_init_74 h) (fun M19 _ => ?_)
  refine g_aast (j := 4) (t' := 74) e_PS_init_103 kq_65 (by decide) kq_74 (by decide) (by decide) (by decide) (show rkl[73]? = some (65, 4) from rfl) rfl rfl ?_
  refine g_dup e_PS_init_104 rfl ?_
  refine g_iconst (x := (5 : Int32)) e_PS_init_105 (by decide) ?_
  refine g_new (c' := 76) (s' := 1227) (n' := 77) e_PS_init_106 (show cls[7]? = some ("PressSheets$Tape", tC7, 3) from rfl) ⟨w_281, w_283, w_10⟩ kq_76 yC7 pY7 dV7 (by decide +kernel) rfl rfl rfl ⟨Nat.le_trans (by decide) hrc, Nat.le_trans (by decide) hrs⟩ (fun M20 => ?_)
  refine g_dup e_PS_init_109 rfl ?_
  refine g_callIN (mc := 1) (ms := 60) (c' := 77) (s' := 1287) (As := []) (st := [rf (kG X) 76, .int (5 : Int32), rf (kG X) 65, rf (kG X) 65, rf (kG X) 0]) e_PS_init_110 in_PS_37 rfl rfl my_Tape_init (by decide) rfl rfl (Nat.le_of_ble_eq_true rfl) rfl rfl ⟨Nat.le_trans (by decide) hrc, Nat.le_trans (by decide) hrs⟩ (fun _ h => c_Tape_init_76 h) (fun M21 _ => ?_)
  refine g_aast (j := 5) (t' := 76) e_PS_init_113 kq_65 (by decide) kq_76 (by decide) (by decide) (by decide) (show rkl[75]? = some (65, 5) from rfl) rfl rfl ?_
  refine g_putR (t' := 77) hI e_PS_init_114 fr_PS_38 kq_0 (by decide) fj_9_5 (show rkl[76]? = some (0, 5) from rfl) (fun v hv => by obtain ⟨a, rfl⟩ := hv; exact ⟨rfl, rfl⟩) rfl rfl ?_
  exact g_vret e_PS_init_117 rfl
theorem c_PS_init_0 {l : Launch} {G : KG} {M M' : Mm} (h : f_PS_init_0 M = some ((), M')) : CT l G y_PS_init md_PS_init 77 1287 [rf G 0] 1 (iniT 0) M none 78 (iniT 77) M' :=
  CT.ofI 0 (by decide) rfl (by show 1 ≤ 1; decide) rfl h (fun X _ hG hI h1 h2 => by subst hG; exact t_PS_init_0 hI h1 h2)
theorem x_PS_init_0 (M : Mm) : ∃ M', f_PS_init_0 M = some ((), M') := by
  unfold f_PS_init_0
  refine lT_ex ?_
  refine bD_ex (x_State_init_1 _) (fun _ => ?_)
  refine lT_ex ?_
  refine bD_ex (x_State_init_27 _) (fun _ => ?_)
  refine lT_ex ?_
  refine bD_ex (x_Job_init_53 _) (fun _ => ?_)
  refine lT_ex ?_
  refine bD_ex (x_Text_init_56 _) (fun _ => ?_)
  refine lT_ex ?_
  refine lT_ex ?_
  refine bD_ex (x_Tape_init_66 _) (fun _ => ?_)
  refine lT_ex ?_
  refine bD_ex (x_Tape_init_68 _) (fun _ => ?_)
  refine lT_ex ?_
  refine bD_ex (x_Tape_init_70 _) (fun _ => ?_)
  refine lT_ex ?_
  refine bD_ex (x_Tape_init_72 _) (fun _ => ?_)
  refine lT_ex ?_
  refine bD_ex (x_Tape_init_74 _) (fun _ => ?_)
  refine lT_ex ?_
  refine bD_ex (x_Tape_init_76 _) (fun _ => ?_)
  exact ⟨_, rfl⟩
def f_MD_init_78 (M : Mm) : Option (Unit × Mm) := (lT (wI M 78 1 (1 : Int32)) fun M1 => (lT (wI M1 78 2 (4 : Int32)) fun M2 => (lT (wI M2 78 5 (100 : Int32)) fun M3 => (lT (wI M3 78 6 (1 : Int32)) fun M4 => (lT (zr M4 79) fun M5 => (lT (zr M5 80) fun M6 => (lT (zr M6 81) fun M7 => (lT (zr M7 82) fun M8 => (lT (zr M8 83) fun M9 => (lT (zr M9 84) fun M10 => (lT (zr M10 85) fun M11 => (lT (zr M11 86) fun M12 => (lT (zr M12 87) fun M13 => (lT (zr M13 88) fun M14 => (lT (zr M14 89) fun M15 => (lT (zr M15 90) fun M16 => (lT (zr M16 91) fun M17 => (lT (zr M17 92) fun M18 => (lT (zr M18 93) fun M19 => (lT (zr M19 94) fun M20 => (lT (zr M20 95) fun M21 => (lT (zr M21 96) fun M22 => (lT (zr M22 97) fun M23 => (lT (zr M23 98) fun M24 => (lT (zr M24 99) fun M25 => (lT (wI M25 96 0 (-1 : Int32)) fun M26 => (lT (wI M26 96 1 (-1 : Int32)) fun M27 => (lT (wI M27 96 2 (-1 : Int32)) fun M28 => (lT (wI M28 96 3 (-1 : Int32)) fun M29 => (lT (wI M29 96 4 (-1 : Int32)) fun M30 => (lT (wI M30 96 5 (-1 : Int32)) fun M31 => some ((), M31))))))))))))))))))))))))))))))))
set_option maxHeartbeats 4000000 in
set_option maxRecDepth 20000 in
theorem t_MD_init_78 {X : KX} {M : Mm} (hI : (kt X).name = "<init>") (hrc : 21 ≤ (kr X).cells) (hrs : 1389 ≤ (kr X).slots) : GO X md_MD_init (QE X rvU (21, 1389, 100, iniT 98)) 0 [some (rf (kG X) 78), none] [] (0, 0, 79, iniT 77) M (f_MD_init_78 M) := by
  unfold f_MD_init_78
  refine g_aload_n e_MD_init_0 rfl ?_
  refine g_objI e_MD_init_1 ⟨w_826, w_20, w_21⟩ rfl ⟨by decide, Nat.le_of_ble_eq_true rfl⟩ ?_
  refine g_aload_n e_MD_init_4 rfl ?_
  refine g_iconst (x := (1 : Int32)) e_MD_init_5 (by decide) ?_
  refine g_putL e_MD_init_6 fp_MD_9_ kq_78 (by decide) fj_10_1 rfl rfl (fun M1 => ?_)
  refine g_aload_n e_MD_init_9 rfl ?_
  refine g_iconst (x := (4 : Int32)) e_MD_init_10 (by decide) ?_
  refine g_putL e_MD_init_11 fp_MD_15_ kq_78 (by decide) fj_10_2 rfl rfl (fun M2 => ?_)
  refine g_aload_n e_MD_init_14 rfl ?_
  refine g_bipush (x := (100 : Int32)) e_MD_init_15 (by decide) ?_
  refine g_putL e_MD_init_17 fp_MD_18_ kq_78 (by decide) fj_10_5 rfl rfl (fun M3 => ?_)
  refine g_aload_n e_MD_init_20 rfl ?_
  refine g_iconst (x := (1 : Int32)) e_MD_init_21 (by decide) ?_
  refine g_putL e_MD_init_22 fp_MD_21_ kq_78 (by decide) fj_10_6 rfl rfl (fun M4 => ?_)
  refine g_aload_n e_MD_init_25 rfl ?_
  refine g_bipush (x := (16 : Int32)) e_MD_init_26 (by decide) ?_
  refine g_newI (N := 16) (c' := 1) (s' := 16) (n' := 80) e_MD_init_28 w_183 kq_79 (by decide) (by decide) rfl rfl rfl ⟨Nat.le_trans (by decide) hrc, Nat.le_trans (by decide) hrs⟩ (fun M5 => ?_)
  refine g_putR (t' := 78) hI e_MD_init_30 fr_MD_24 kq_78 (by decide) fj_10_7 (show rkl[77]? = some (78, 7) from rfl) (fun v hv => by obtain ⟨a, rfl⟩ := hv; exact ⟨rfl, rfl⟩) rfl rfl ?_
  refine g_aload_n e_MD_init_33 rfl ?_
  refine g_bipush (x := (16 : Int32)) e_MD_init_34 (by decide) ?_
  refine g_newI (N := 16) (c' := 2) (s' := 32) (n' := 81) e_MD_init_36 w_183 kq_80 (by decide) (by decide) rfl rfl rfl ⟨Nat.le_trans (by decide) hrc, Nat.le_trans (by decide) hrs⟩ (fun M6 => ?_)
  refine g_putR (t' := 79) hI e_MD_init_38 fr_MD_28 kq_78 (by decide) fj_10_8 (show rkl[78]? = some (78, 8) from rfl) (fun v hv => by obtain ⟨a, rfl⟩ := hv; exact ⟨rfl, rfl⟩) rfl rfl ?_
  refine g_aload_n e_MD_init_41 rfl ?_
  refine g_bipush (x := (16 : Int32)) e_MD_init_42 (by decide) ?_
  refine g_newI (N := 16) (c' := 3) (s' := 48) (n' := 82) e_MD_init_44 w_183 kq_81 (by decide) (by decide) rfl rfl rfl ⟨Nat.le_trans (by decide) hrc, Nat.le_trans (by decide) hrs⟩ (fun M7 => ?_)
  refine g_putR (t' := 80) hI e_MD_init_46 fr_MD_31 kq_78 (by decide) fj_10_9 (show rkl[79]? = some (78, 9) from rfl) (fun v hv => by obtain ⟨a, rfl⟩ := hv; exact ⟨rfl, rfl⟩) rfl rfl ?_
  refine g_aload_n e_MD_init_49 rfl ?_
  refine g_bipush (x := (16 : Int32)) e_MD_init_50 (by decide) ?_
  refine g_newI (N := 16) (c' := 4) (s' := 64) (n' := 83) e_MD_init_52 w_183 kq_82 (by decide) (by decide) rfl rfl rfl ⟨Nat.le_trans (by decide) hrc, Nat.le_trans (by decide) hrs⟩ (fun M8 => ?_)
  refine g_putR (t' := 81) hI e_MD_init_54 fr_MD_34 kq_78 (by decide) fj_10_10 (show rkl[80]? = some (78, 10) from rfl) (fun v hv => by obtain ⟨a, rfl⟩ := hv; exact ⟨rfl, rfl⟩) rfl rfl ?_
  refine g_aload_n e_MD_init_57 rfl ?_
  refine g_bipush (x := (16 : Int32)) e_MD_init_58 (by decide) ?_
  refine g_newI (N := 16) (c' := 5) (s' := 80) (n' := 84) e_MD_init_60 w_183 kq_83 (by decide) (by decide) rfl rfl rfl ⟨Nat.le_trans (by decide) hrc, Nat.le_trans (by decide) hrs⟩ (fun M9 => ?_)
  refine g_putR (t' := 82) hI e_MD_init_62 fr_MD_37 kq_78 (by decide) fj_10_11 (show rkl[81]? = some (78, 11) from rfl) (fun v hv => by obtain ⟨a, rfl⟩ := hv; exact ⟨rfl, rfl⟩) rfl rfl ?_
  refine g_aload_n e_MD_init_65 rfl ?_
  refine g_bipush (x := (16 : Int32)) e_MD_init_66 (by decide) ?_
  refine g_newI (N := 16) (c' := 6) (s' := 96) (n' := 85) e_MD_init_68 w_183 kq_84 (by decide) (by decide) rfl rfl rfl ⟨Nat.le_trans (by decide) hrc, Nat.le_trans (by decide) hrs⟩ (fun M10 => ?_)
  refine g_putR (t' := 83) hI e_MD_init_70 fr_MD_40 kq_78 (by decide) fj_10_12 (show rkl[82]? = some (78, 12) from rfl) (fun v hv => by obtain ⟨a, rfl⟩ := hv; exact ⟨rfl, rfl⟩) rfl rfl ?_
  refine g_aload_n e_MD_init_73 rfl ?_
  refine g_bipush (x := (40 : Int32)) e_MD_init_74 (by decide) ?_
  refine g_newI (N := 40) (c' := 7) (s' := 136) (n' := 86) e_MD_init_76 w_183 kq_85 (by decide) (by decide) rfl rfl rfl ⟨Nat.le_trans (by decide) hrc, Nat.le_trans (by decide) hrs⟩ (fun M11 => ?_)
  refine g_putR (t' := 84) hI e_MD_init_78 fr_MD_43 kq_78 (by decide) fj_10_15 (show rkl[83]? = some (78, 15) from rfl) (fun v hv => by obtain ⟨a, rfl⟩ := hv; exact ⟨rfl, rfl⟩) rfl rfl ?_
  refine g_aload_n e_MD_init_81 rfl ?_
  refine g_bipush (x := (64 : Int32)) e_MD_init_82 (by decide) ?_
  refine g_newI (N := 64) (c' := 8) (s' := 200) (n' := 87) e_MD_init_84 w_183 kq_86 (by decide) (by decide) rfl rfl rfl ⟨Nat.le_trans (by decide) hrc, Nat.le_trans (by decide) hrs⟩ (fun M12 => ?_)
  refine g_putR (t' := 85) hI e_MD_init_86 fr_MD_46 kq_78 (by decide) fj_10_17 (show rkl[84]? = some (78, 17) from rfl) (fun v hv => by obtain ⟨a, rfl⟩ := hv; exact ⟨rfl, rfl⟩) rfl rfl ?_
  refine g_aload_n e_MD_init_89 rfl ?_
  refine g_bipush (x := (60 : Int32)) e_MD_init_90 (by decide) ?_
  refine g_newI (N := 60) (c' := 9) (s' := 260) (n' := 88) e_MD_init_92 w_183 kq_87 (by decide) (by decide) rfl rfl rfl ⟨Nat.le_trans (by decide) hrc, Nat.le_trans (by decide) hrs⟩ (fun M13 => ?_)
  refine g_putR (t' := 86) hI e_MD_init_94 fr_MD_49 kq_78 (by decide) fj_10_19 (show rkl[85]? = some (78, 19) from rfl) (fun v hv => by obtain ⟨a, rfl⟩ := hv; exact ⟨rfl, rfl⟩) rfl rfl ?_
  refine g_aload_n e_MD_init_97 rfl ?_
  refine g_bipush (x := (60 : Int32)) e_MD_init_98 (by decide) ?_
  refine g_newI (N := 60) (c' := 10) (s' := 320) (n' := 89) e_MD_init_100 w_183 kq_88 (by decide) (by decide) rfl rfl rfl ⟨Nat.le_trans (by decide) hrc, Nat.le_trans (by decide) hrs⟩ (fun M14 => ?_)
  refine g_putR (t' := 87) hI e_MD_init_102 fr_MD_52 kq_78 (by decide) fj_10_20 (show rkl[86]? = some (78, 20) from rfl) (fun v hv => by obtain ⟨a, rfl⟩ := hv; exact ⟨rfl, rfl⟩) rfl rfl ?_
  refine g_aload_n e_MD_init_105 rfl ?_
  refine g_bipush (x := (60 : Int32)) e_MD_init_106 (by decide) ?_
  refine g_newI (N := 60) (c' := 11) (s' := 380) (n' := 90) e_MD_init_108 w_183 kq_89 (by decide) (by decide) rfl rfl rfl ⟨Nat.le_trans (by decide) hrc, Nat.le_trans (by decide) hrs⟩ (fun M15 => ?_)
  refine g_putR (t' := 88) hI e_MD_init_110 fr_MD_55 kq_78 (by decide) fj_10_21 (show rkl[87]? = some (78, 21) from rfl) (fun v hv => by obtain ⟨a, rfl⟩ := hv; exact ⟨rfl, rfl⟩) rfl rfl ?_
  refine g_aload_n e_MD_init_113 rfl ?_
  refine g_bipush (x := (20 : Int32)) e_MD_init_114 (by decide) ?_
  refine g_newI (N := 20) (c' := 12) (s' := 400) (n' := 91) e_MD_init_116 w_183 kq_90 (by decide) (by decide) rfl rfl rfl ⟨Nat.le_trans (by decide) hrc, Nat.le_trans (by decide) hrs⟩ (fun M16 => ?_)
  refine g_putR (t' := 89) hI e_MD_init_118 fr_MD_58 kq_78 (by decide) fj_10_27 (show rkl[88]? = some (78, 27) from rfl) (fun v hv => by obtain ⟨a, rfl⟩ := hv; exact ⟨rfl, rfl⟩) rfl rfl ?_
  refine g_aload_n e_MD_init_121 rfl ?_
  refine g_bipush (x := (16 : Int32)) e_MD_init_122 (by decide) ?_
  refine g_newI (N := 16) (c' := 13) (s' := 416) (n' := 92) e_MD_init_124 w_183 kq_91 (by decide) (by decide) rfl rfl rfl ⟨Nat.le_trans (by decide) hrc, Nat.le_trans (by decide) hrs⟩ (fun M17 => ?_)
  refine g_putR (t' := 90) hI e_MD_init_126 fr_MD_61 kq_78 (by decide) fj_10_29 (show rkl[89]? = some (78, 29) from rfl) (fun v hv => by obtain ⟨a, rfl⟩ := hv; exact ⟨rfl, rfl⟩) rfl rfl ?_
  refine g_aload_n e_MD_init_129 rfl ?_
  refine g_bipush (x := (100 : Int32)) e_MD_init_130 (by decide) ?_
  refine g_newI (N := 100) (c' := 14) (s' := 516) (n' := 93) e_MD_init_132 w_183 kq_92 (by decide) (by decide) rfl rfl rfl ⟨Nat.le_trans (by decide) hrc, Nat.le_trans (by decide) hrs⟩ (fun M18 => ?_)
  refine g_putR (t' := 91) hI e_MD_init_134 fr_MD_64 kq_78 (by decide) fj_10_31 (show rkl[90]? = some (78, 31) from rfl) (fun v hv => by obtain ⟨a, rfl⟩ := hv; exact ⟨rfl, rfl⟩) rfl rfl ?_
  refine g_aload_n e_MD_init_137 rfl ?_
  refine g_bipush (x := (30 : Int32)) e_MD_init_138 (by decide) ?_
  refine g_newI (N := 30) (c' := 15) (s' := 546) (n' := 94) e_MD_init_140 w_183 kq_93 (by decide) (by decide) rfl rfl rfl ⟨Nat.le_trans (by decide) hrc, Nat.le_trans (by decide) hrs⟩ (fun M19 => ?_)
  refine g_putR (t' := 92) hI e_MD_init_142 fr_MD_67 kq_78 (by decide) fj_10_34 (show rkl[91]? = some (78, 34) from rfl) (fun v hv => by obtain ⟨a, rfl⟩ := hv; exact ⟨rfl, rfl⟩) rfl rfl ?_
  refine g_aload_n e_MD_init_145 rfl ?_
  refine g_sipush (x := (400 : Int32)) e_MD_init_146 (by decide) ?_
  refine g_newI (N := 400) (c' := 16) (s' := 946) (n' := 95) e_MD_init_149 w_183 kq_94 (by decide) (by decide) rfl rfl rfl ⟨Nat.le_trans (by decide) hrc, Nat.le_trans (by decide) hrs⟩ (fun M20 => ?_)
  refine g_putR (t' := 93) hI e_MD_init_151 fr_MD_70 kq_78 (by decide) fj_10_35 (show rkl[92]? = some (78, 35) from rfl) (fun v hv => by obtain ⟨a, rfl⟩ := hv; exact ⟨rfl, rfl⟩) rfl rfl ?_
  refine g_aload_n e_MD_init_154 rfl ?_
  refine g_bipush (x := (11 : Int32)) e_MD_init_155 (by decide) ?_
  refine g_newI (N := 11) (c' := 17) (s' := 957) (n' := 96) e_MD_init_157 w_183 kq_95 (by decide) (by decide) rfl rfl rfl ⟨Nat.le_trans (by decide) hrc, Nat.le_trans (by decide) hrs⟩ (fun M21 => ?_)
  refine g_putR (t' := 94) hI e_MD_init_159 fr_MD_73 kq_78 (by decide) fj_10_37 (show rkl[93]? = some (78, 37) from rfl) (fun v hv => by obtain ⟨a, rfl⟩ := hv; exact ⟨rfl, rfl⟩) rfl rfl ?_
  refine g_aload_n e_MD_init_162 rfl ?_
  refine g_bipush (x := (6 : Int32)) e_MD_init_163 (by decide) ?_
  refine g_newI (N := 6) (c' := 18) (s' := 963) (n' := 97) e_MD_init_165 w_183 kq_96 (by decide) (by decide) rfl rfl rfl ⟨Nat.le_trans (by decide) hrc, Nat.le_trans (by decide) hrs⟩ (fun M22 => ?_)
  refine g_putR (t' := 95) hI e_MD_init_167 fr_MD_76 kq_78 (by decide) fj_10_38 (show rkl[94]? = some (78, 38) from rfl) (fun v hv => by obtain ⟨a, rfl⟩ := hv; exact ⟨rfl, rfl⟩) rfl rfl ?_
  refine g_aload_n e_MD_init_170 rfl ?_
  refine g_bipush (x := (6 : Int32)) e_MD_init_171 (by decide) ?_
  refine g_newI (N := 6) (c' := 19) (s' := 969) (n' := 98) e_MD_init_173 w_183 kq_97 (by decide) (by decide) rfl rfl rfl ⟨Nat.le_trans (by decide) hrc, Nat.le_trans (by decide) hrs⟩ (fun M23 => ?_)
  refine g_putR (t' := 96) hI e_MD_init_175 fr_MD_79 kq_78 (by decide) fj_10_39 (show rkl[95]? = some (78, 39) from rfl) (fun v hv => by obtain ⟨a, rfl⟩ := hv; exact ⟨rfl, rfl⟩) rfl rfl ?_
  refine g_aload_n e_MD_init_178 rfl ?_
  refine g_sipush (x := (360 : Int32)) e_MD_init_179 (by decide) ?_
  refine g_newJ (N := 360) (c' := 20) (s' := 1329) (n' := 99) e_MD_init_182 w_300 kq_98 (by decide) (by decide) rfl rfl rfl ⟨Nat.le_trans (by decide) hrc, Nat.le_trans (by decide) hrs⟩ (fun M24 => ?_)
  refine g_putR (t' := 97) hI e_MD_init_184 fr_MD_82 kq_78 (by decide) fj_10_40 (show rkl[96]? = some (78, 40) from rfl) (fun v hv => by obtain ⟨a, rfl⟩ := hv; exact ⟨rfl, rfl⟩) rfl rfl ?_
  refine g_aload_n e_MD_init_187 rfl ?_
  refine g_bipush (x := (60 : Int32)) e_MD_init_188 (by decide) ?_
  refine g_newJ (N := 60) (c' := 21) (s' := 1389) (n' := 100) e_MD_init_190 w_300 kq_99 (by decide) (by decide) rfl rfl rfl ⟨Nat.le_trans (by decide) hrc, Nat.le_trans (by decide) hrs⟩ (fun M25 => ?_)
  refine g_putR (t' := 98) hI e_MD_init_192 fr_MD_86 kq_78 (by decide) fj_10_41 (show rkl[97]? = some (78, 41) from rfl) (fun v hv => by obtain ⟨a, rfl⟩ := hv; exact ⟨rfl, rfl⟩) rfl rfl ?_
  refine g_iconst (x := (0 : Int32)) e_MD_init_195 (by decide) ?_
  refine g_istore_n e_MD_init_196 (by decide) rfl ?_
  refine g_iload_n e_MD_init_197 rfl ?_
  refine g_bipush (x := (6 : Int32)) e_MD_init_198 (by decide) ?_
  refine g_icmp_ge' e_MD_init_200 (fun h => absurd h (by decide)) (fun _ => ?_)
  refine g_aload_n e_MD_init_203 rfl ?_
  refine g_getR e_MD_init_204 fl_MD_76_ kq_78 (by decide) (by decide +kernel) fj_10_38 ?_
  refine g_iload_n e_MD_init_207 rfl ?_
  refine g_iconst (x := (-1 : Int32)) e_MD_init_208 (by decide) ?_
  refine g_iastK (n := 6) (i := 0) e_MD_init_209 kq_96 (by decide) (by decide) (by decide) (by decide) (fun M26 => ?_)
  refine g_iinc (y := (1 : Int32)) e_MD_init_210 rfl (by decide) (by decide) rfl ?_
  refine g_goto e_MD_init_213 ?_
  refine g_iload_n e_MD_init_197 rfl ?_
  refine g_bipush (x := (6 : Int32)) e_MD_init_198 (by decide) ?_
  refine g_icmp_ge' e_MD_init_200 (fun h => absurd h (by decide)) (fun _ => ?_)
  refine g_aload_n e_MD_init_203 rfl ?_
  refine g_getR e_MD_init_204 fl_MD_76_ kq_78 (by decide) (by decide +kernel) fj_10_38 ?_
  refine g_iload_n e_MD_init_207 rfl ?_
  refine g_iconst (x := (-1 : Int32)) e_MD_init_208 (by decide) ?_
  refine g_iastK (n := 6) (i := 1) e_MD_init_209 kq_96 (by decide) (by decide) (by decide) (by decide) (fun M27 => ?_)
  refine g_iinc (y := (2 : Int32)) e_MD_init_210 rfl (by decide) (by decide) rfl ?_
  refine g_goto e_MD_init_213 ?_
  refine g_iload_n e_MD_init_197 rfl ?_
  refine g_bipush (x := (6 : Int32)) e_MD_init_198 (by decide) ?_
  refine g_icmp_ge' e_MD_init_200 (fun h => absurd h (by decide)) (fun _ => ?_)
  refine g_aload_n e_MD_init_203 rfl ?_
  refine g_getR e_MD_init_204 fl_MD_76_ kq_78 (by decide) (by decide +kernel) fj_10_38 ?_
  refine g_iload_n e_MD_init_207 rfl ?_
  refine g_iconst (x := (-1 : Int32)) e_MD_init_208 (by decide) ?_
  refine g_iastK (n := 6) (i := 2) e_MD_init_209 kq_96 (by decide) (by decide) (by decide) (by decide) (fun M28 => ?_)
  refine g_iinc (y := (3 : Int32)) e_MD_init_210 rfl (by decide) (by decide) rfl ?_
  refine g_goto e_MD_init_213 ?_
  refine g_iload_n e_MD_init_197 rfl ?_
  refine g_bipush (x := (6 : Int32)) e_MD_init_198 (by decide) ?_
  refine g_icmp_ge' e_MD_init_200 (fun h => absurd h (by decide)) (fun _ => ?_)
  refine g_aload_n e_MD_init_203 rfl ?_
  refine g_getR e_MD_init_204 fl_MD_76_ kq_78 (by decide) (by decide +kernel) fj_10_38 ?_
  refine g_iload_n e_MD_init_207 rfl ?_
  refine g_iconst (x := (-1 : Int32)) e_MD_init_208 (by decide) ?_
  refine g_iastK (n := 6) (i := 3) e_MD_init_209 kq_96 (by decide) (by decide) (by decide) (by decide) (fun M29 => ?_)
  refine g_iinc (y := (4 : Int32)) e_MD_init_210 rfl (by decide) (by decide) rfl ?_
  refine g_goto e_MD_init_213 ?_
  refine g_iload_n e_MD_init_197 rfl ?_
  refine g_bipush (x := (6 : Int32)) e_MD_init_198 (by decide) ?_
  refine g_icmp_ge' e_MD_init_200 (fun h => absurd h (by decide)) (fun _ => ?_)
  refine g_aload_n e_MD_init_203 rfl ?_
  refine g_getR e_MD_init_204 fl_MD_76_ kq_78 (by decide) (by decide +kernel) fj_10_38 ?_
  refine g_iload_n e_MD_init_207 rfl ?_
  refine g_iconst (x := (-1 : Int32)) e_MD_init_208 (by decide) ?_
  refine g_iastK (n := 6) (i := 4) e_MD_init_209 kq_96 (by decide) (by decide) (by decide) (by decide) (fun M30 => ?_)
  refine g_iinc (y := (5 : Int32)) e_MD_init_210 rfl (by decide) (by decide) rfl ?_
  refine g_goto e_MD_init_213 ?_
  refine g_iload_n e_MD_init_197 rfl ?_
  refine g_bipush (x := (6 : Int32)) e_MD_init_198 (by decide) ?_
  refine g_icmp_ge' e_MD_init_200 (fun h => absurd h (by decide)) (fun _ => ?_)
  refine g_aload_n e_MD_init_203 rfl ?_
  refine g_getR e_MD_init_204 fl_MD_76_ kq_78 (by decide) (by decide +kernel) fj_10_38 ?_
  refine g_iload_n e_MD_init_207 rfl ?_
  refine g_iconst (x := (-1 : Int32)) e_MD_init_208 (by decide) ?_
  refine g_iastK (n := 6) (i := 5) e_MD_init_209 kq_96 (by decide) (by decide) (by decide) (by decide) (fun M31 => ?_)
  refine g_iinc (y := (6 : Int32)) e_MD_init_210 rfl (by decide) (by decide) rfl ?_
  refine g_goto e_MD_init_213 ?_
  refine g_iload_n e_MD_init_197 rfl ?_
  refine g_bipush (x := (6 : Int32)) e_MD_init_198 (by decide) ?_
  refine g_icmp_ge' e_MD_init_200 (fun _ => ?_) (fun h => absurd (by decide) h)
  exact g_vret e_MD_init_216 rfl
theorem c_MD_init_78 {l : Launch} {G : KG} {M M' : Mm} (h : f_MD_init_78 M = some ((), M')) : CT l G y_MD_init md_MD_init 21 1389 [rf G 78] 79 (iniT 77) M none 100 (iniT 98) M' :=
  CT.ofI 1 (by decide) rfl (by show 1 ≤ 2; decide) rfl h (fun X _ hG hI h1 h2 => by subst hG; exact t_MD_init_78 hI h1 h2)
theorem x_MD_init_78 (M : Mm) : ∃ M', f_MD_init_78 M = some ((), M') := by
  unfold f_MD_init_78
  refine lT_ex ?_
  refine lT_ex ?_
  refine lT_ex ?_
  refine lT_ex ?_
  refine lT_ex ?_
  refine lT_ex ?_
  refine lT_ex ?_
  refine lT_ex ?_
  refine lT_ex ?_
  refine lT_ex ?_
  refine lT_ex ?_
  refine lT_ex ?_
  refine lT_ex ?_
  refine lT_ex ?_
  refine lT_ex ?_
  refine lT_ex ?_
  refine lT_ex ?_
  refine lT_ex ?_
  refine lT_ex ?_
  refine lT_ex ?_
  refine lT_ex ?_
  refine lT_ex ?_
  refine lT_ex ?_
  refine lT_ex ?_
  refine lT_ex ?_
  refine lT_ex ?_
  refine lT_ex ?_
  refine lT_ex ?_
  refine lT_ex ?_
  refine lT_ex ?_
  refine lT_ex ?_
  exact ⟨_, rfl⟩
