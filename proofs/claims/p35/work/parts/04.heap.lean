/-! the rules of fields, arrays, calls and ends -/
theorem ce_obj {G : KG} {ini : Nat → Nat → Bool} {M : Mm} {k : Nat} (h : kD k < 50) : ce G ini M k = .inr (kD k, fvs (k0 G) (ini k) (M.1 k) k (fD (kD k))) := if_pos h
theorem ce_T {G : KG} {ini : Nat → Nat → Bool} {M : Mm} {k : Nat} (h : kD k = 50) : ce G ini M k = .inl (G.2.2.2.1, 6, .inr (.inr (.inr (.inr (fun j => if ini k j = true then some (k0 G + (k + 1 + 2 * j)) else none))))) := by
  unfold ce
  rw [if_neg (by omega), if_pos h]
theorem ce_I {G : KG} {ini : Nat → Nat → Bool} {M : Mm} {k n : Nat} (h : kD k = 100 + n) (h2 : n < 900) : ce G ini M k = .inl (G.2.1, n, .inl (M.1 k)) := by
  unfold ce
  rw [if_neg (by omega), if_neg (by omega), if_pos (by omega), show kD k - 100 = n by omega]
theorem ce_J {G : KG} {ini : Nat → Nat → Bool} {M : Mm} {k n : Nat} (h : kD k = 1000 + n) : ce G ini M k = .inl (G.2.2.1, n, .inr (.inl (M.2 k))) := by
  unfold ce
  rw [if_neg (by omega), if_neg (by omega), if_neg (by omega), show kD k - 1000 = n by omega]
theorem ce_cg {G : KG} {ini ini' : Nat → Nat → Bool} {M M' : Mm} {k : Nat} (h1 : M'.1 k = M.1 k) (h2 : M'.2 k = M.2 k) (h3 : ini' k = ini k) : ce G ini' M' k = ce G ini M k := by
  unfold ce
  rw [h1, h2, h3]
theorem wI_self (M : Mm) (k j : Nat) (v : Int32) : (wI M k j v).1 k = upd (M.1 k) j v := if_pos rfl
theorem wI_ne (M : Mm) {k q : Nat} (j : Nat) (v : Int32) (h : q ≠ k) : (wI M k j v).1 q = M.1 q := if_neg h
theorem wJ_self (M : Mm) (k j : Nat) (v : Int64) : (wJ M k j v).2 k = updL (M.2 k) j v := if_pos rfl
theorem wJ_ne (M : Mm) {k q : Nat} (j : Nat) (v : Int64) (h : q ≠ k) : (wJ M k j v).2 q = M.2 q := if_neg h
theorem fvs_len (b : Nat) (ini : Nat → Bool) (row : Nat → Int32) (k : Nat) (fl : List (Option Nat)) : (fvs b ini row k fl).length = fl.length := by simp [fvs]
theorem fvs_get {b : Nat} {ini : Nat → Bool} {row : Nat → Int32} {k : Nat} {fl : List (Option Nat)} {j : Nat} {x : Option Nat} (h : fl[j]? = some x) : (fvs b ini row k fl)[j]? = some (fval b ini row k x j) := by
  have hj : j < fl.length := (List.getElem?_eq_some_iff.mp h).1
  unfold fvs
  rw [List.getElem?_map, List.getElem?_range hj]
  show some (fval b ini row k (fl.getD j none) j) = _
  rw [List.getD_eq_getElem?_getD, h]
  rfl
theorem fvs_V {b : Nat} {ini : Nat → Bool} {row : Nat → Int32} {k : Nat} {fl : List (Option Nat)} {j : Nat} (hj : j < fl.length) : vp_V (fvs b ini row k fl) j = fval b ini row k (fl.getD j none) j := by
  have h : fl[j]? = some (fl.getD j none) := by
    rw [List.getD_eq_getElem?_getD, List.getElem?_eq_getElem hj]
    rfl
  unfold vp_V
  rw [List.getD_eq_getElem?_getD, fvs_get h]
  rfl
theorem fvs_set {b : Nat} {ini : Nat → Bool} {row : Nat → Int32} {k : Nat} {fl : List (Option Nat)} {j : Nat} (h : fl[j]? = some none) (x : Int32) : ∀ q, q < fl.length → updV (vp_V (fvs b ini row k fl)) j (.int x) q = vp_V (fvs b ini (upd row j x) k fl) q := by
  intro q hq
  rw [fvs_V hq]
  have hg : fl.getD j none = none := by rw [List.getD_eq_getElem?_getD, h]; rfl
  by_cases he : q = j
  · subst he
    rw [hg]; simp [updV, fval, upd]
  · simp only [updV, if_neg he, fvs_V hq]
    cases fl.getD q none with
    | none => simp [fval, upd, he]
    | some y => simp [fval]
theorem fvs_setR {b : Nat} {ini : Nat → Bool} {row : Nat → Int32} {k : Nat} {fl : List (Option Nat)} {j x : Nat} (h : fl[j]? = some (some x)) : ∀ q, q < fl.length → updV (vp_V (fvs b ini row k fl)) j (.ref (b + (k + x))) q = vp_V (fvs b (fun z => if z = j then true else ini z) row k fl) q := by
  intro q hq
  rw [fvs_V hq]
  have hg : fl.getD j none = some x := by rw [List.getD_eq_getElem?_getD, h]; rfl
  by_cases he : q = j
  · subst he
    rw [hg]; simp [updV, fval]
  · simp only [updV, if_neg he, fvs_V hq]
    cases fl.getD q none with
    | none => simp [fval]
    | some y => simp [fval, he]
theorem fD_len : ∀ (ci : Nat) (C : String) (T : u_T) (N : Nat), cls[ci]? = some (C, T, N) → (fD ci).length = N ∧ ci < 11 := by
  intro ci C T N h
  match ci, h with
  | 0, h => cases h; exact ⟨by decide, by decide⟩
  | 1, h => cases h; exact ⟨by decide, by decide⟩
  | 2, h => cases h; exact ⟨by decide, by decide⟩
  | 3, h => cases h; exact ⟨by decide, by decide⟩
  | 4, h => cases h; exact ⟨by decide, by decide⟩
  | 5, h => cases h; exact ⟨by decide, by decide⟩
  | 6, h => cases h; exact ⟨by decide, by decide⟩
  | 7, h => cases h; exact ⟨by decide, by decide⟩
  | 8, h => cases h; exact ⟨by decide, by decide⟩
  | 9, h => cases h; exact ⟨by decide, by decide⟩
  | 10, h => cases h; exact ⟨by decide, by decide⟩
  | _ + 11, h => cases h
theorem WD.one {G : KG} {n : Nat} {ini : Nat → Nat → Bool} {M : Mm} {H : Heap} (h : WD G n ini M H) {k : Nat} (hk : k < n) : va_P G.1 cls [(k0 G + k, ce G ini M k)] H := by
  intro i q hi
  match i, hi with
  | 0, hi => cases hi; exact h.2 k hk
  | _ + 1, hi => cases hi
theorem WD.put {G : KG} {n : Nat} {ini ini' : Nat → Nat → Bool} {M M' : Mm} {H H' : Heap} (h : WD G n ini M H) {k : Nat} (hz : H'.size = H.size) (ho : ∀ q, q ≠ k0 G + k → H'[q]? = H[q]?) (he : va_at G.1 cls (k0 G + k, ce G ini' M' k) H') (hc : ∀ q, q ≠ k → ce G ini' M' q = ce G ini M q) : WD G n ini' M' H' := by
  refine ⟨hz.trans h.1, fun q hq => ?_⟩
  by_cases hk : q = k
  · subst hk; exact he
  · rw [hc q hk]
    exact (h.2 q hq).kept (ho _ (by show k0 G + q ≠ k0 G + k; omega))
/-- the row of the tables that links a field -/
def FL (own : String) (idx ci j : Nat) : Prop := ∃ (C : String) (T : u_T) (N : Nat), cls[ci]? = some (C, T, N) ∧ j < N ∧ Cond.fieldLink own idx (T j).1 (T j).2.1 (T j).2.2.1 ∈ gtb
def FP (own : String) (idx ci j : Nat) (ty : FieldType) : Prop := ∃ (C : String) (T : u_T) (N : Nat), cls[ci]? = some (C, T, N) ∧ j < N ∧ Cond.fieldLink own idx (T j).1 (T j).2.1 (T j).2.2.1 ∈ gtb ∧ (T j).2.2.2 = false ∧ parseFieldDescriptor (T j).2.2.1 = some ty
def FU (Z : ZZ) : Prop := Z.2.2.1 = 100 ∧ ∀ k j, Z.2.2.2 k j = true
theorem kD_lt {k c : Nat} (h : kD k = c) (hc : c ≠ 99) : k < 100 := by
  rcases Nat.lt_or_ge k 100 with h1 | h1
  · exact h1
  · have : kD k = 99 := by
      unfold kD
      rw [List.getD_eq_getElem?_getD, List.getElem?_eq_none (by show kdl.length ≤ k; exact h1)]
      rfl
    omega
theorem FU.lt {Z : ZZ} (h : FU Z) {k c : Nat} (hk : kD k = c) (hc : c ≠ 99 := by decide) : k < Z.2.2.1 := by
  rw [h.1]; exact kD_lt hk hc
section HEAPR
variable {α β : Type} {X : KX} {d : MD} {Q : α → Mm → State → Prop} {pc pc' tgt idx : Nat} {off : Int} {ls : List (Option Value)} {st : List Value} {Z : ZZ} {M : Mm} {o o1 o2 : Option (α × Mm)} {x y : Int32} {u v : Int64} {i j k ci n : Nat}
theorem g_getI (hd : dc d.2.1 pc pc' (.getfield idx) 3) (hf : FL d.1 idx ci j) (hk : kD k = ci) (hn : k < Z.2.2.1) (hj : (fD ci)[j]? = some none) (kk : GO X d Q pc' ls (.int (M.1 k j) :: st) Z M o) : GO X d Q pc ls (rf (kG X) k :: st) Z M o := by
  obtain ⟨hd, rfl⟩ := hd
  obtain ⟨C, T, N, hcl, hN, hw⟩ := hf
  subst hk
  intro K r M' ho H locs lsA hW hS hL hc hs
  refine va_get (D := (kG X).1) (ws := [(k0 (kG X) + k, ce (kG X) Z.2.2.2 M k)]) (v := .int (M.1 k j)) K.1 K.2.1 K.2.2.2.2.2.1 (cK _ _ _ _ hcl).1 K.2.2.2.2.1 K.2.2.2.2.2.2.2.1.1 (hW.one hn) 0 (by show some _ = some _; rw [ce_obj (by have := (fD_len _ _ _ _ hcl).2; omega)]) hcl j hN (K.2.2.2.2.2.1 _ hw) (fun _ h => h) (fvs_get hj) hd (kk K r M' ho H locs lsA hW hS hL hc hs)
theorem g_getR {z : Nat} (hd : dc d.2.1 pc pc' (.getfield idx) 3) (hf : FL d.1 idx ci j) (hk : kD k = ci) (hn : k < Z.2.2.1) (hi : Z.2.2.2 k j = true) (hj : (fD ci)[j]? = some (some z)) (kk : GO X d Q pc' ls (rf (kG X) (k + z) :: st) Z M o) : GO X d Q pc ls (rf (kG X) k :: st) Z M o := by
  obtain ⟨hd, rfl⟩ := hd
  obtain ⟨C, T, N, hcl, hN, hw⟩ := hf
  subst hk
  intro K r M' ho H locs lsA hW hS hL hc hs
  refine va_get (D := (kG X).1) (ws := [(k0 (kG X) + k, ce (kG X) Z.2.2.2 M k)]) (v := rf (kG X) (k + z)) K.1 K.2.1 K.2.2.2.2.2.1 (cK _ _ _ _ hcl).1 K.2.2.2.2.1 K.2.2.2.2.2.2.2.1.1 (hW.one hn) 0 (by show some _ = some _; rw [ce_obj (by have := (fD_len _ _ _ _ hcl).2; omega)]) hcl j hN (K.2.2.2.2.2.1 _ hw) (fun _ h => h) ?_ hd (kk K r M' ho H locs lsA hW hS hL hc hs)
  rw [fvs_get hj]
  simp [fval, hi]
theorem g_putI {ty : FieldType} (hd : dc d.2.1 pc pc' (.putfield idx) 3) (hf : FP d.1 idx ci j ty) (hk : kD k = ci) (hn : k < Z.2.2.1) (hj : (fD ci)[j]? = some none) (hna : narrow ty (.int x) = .int x) (hfi : fits ty (.int x) = true) (kk : GO X d Q pc' ls st Z (wI M k j x) o) : GO X d Q pc ls (.int x :: rf (kG X) k :: st) Z M o := by
  obtain ⟨hd, rfl⟩ := hd
  obtain ⟨C, T, N, hcl, hN, hw, hfin, hpd⟩ := hf
  subst hk
  intro K r M' ho H locs lsA hW hS hL hc hs
  have hts := K.2.2.2.2.2.1
  obtain ⟨hin, hnm, ty0, hty⟩ := cK _ _ _ _ hcl
  have hKv := K.2.2.2.2.2.2.2.1.1
  obtain ⟨hlen, h11⟩ := fD_len _ _ _ _ hcl
  have hap := va_apart (own := d.1) hts hin ty0 hty hnm hKv hcl
  have hat := hW.2 k hn
  rw [ce_obj (by omega)] at hat
  obtain ⟨r0, h1, cell, q1, q2, q3, q4⟩ := hat
  have hr : r0 = (C, T, N) := Option.some.inj (h1.symm.trans hcl)
  subst hr
  obtain ⟨hSl, hfc, kC, hkC, hkind⟩ := hKv.1 _ _ hcl
  obtain ⟨cf, kf, fi, f, hi, hsl⟩ := hSl j hN
  have hlay := hts _ (hin _ (u_in_lay hN))
  unfold u_lay at hlay
  rw [if_neg (by rw [hfin]; decide)] at hlay
  have hst := (u_facts hfc hkC (u_lays hts hin hN) hi).1
  have h6 := u_store hfc hkC hkind hlay hi hpd hna hfi
  refine W.putK K.1 K.2.1 (f := f) ⟨K.2.2.2.2.1, hts _ hw, ⟨_, _, _, hi⟩, hst⟩ (by rw [q2]; exact h6) q1 q3 (by rw [hsl]; exact k2_hasslot (q4 j hN)) rfl rfl hd fun H' e1 e2 e3 => ?_
  rw [hsl] at e1 ⊢
  refine kk K r M' ho H' _ lsA (hW.put e2 e3 ?_ ?_) (hS.put e2 e3 (Nat.le_add_right _ _)) hL hc hs
  · rw [ce_obj (by omega), wI_self]
    exact ⟨_, hcl, t_OB.to (V := updV (vp_V (fvs (k0 (kG X)) (Z.2.2.2 k) (M.1 k) k (fD (kD k)))) j (.int x)) ⟨_, e1, q2, q3, t_set q4 hap hN (.int x)⟩ (fun q hq => fvs_set hj x q (by rw [hlen]; exact hq))⟩
  · intro q hq
    exact ce_cg (wI_ne M j x hq) rfl rfl
theorem g_iald (hd : dc d.2.1 pc pc' .iaload 1) (hk : kD k = 100 + n) (hr : n < 900) (hn : k < Z.2.2.1) (kk : GO X d Q pc' ls (.int (M.1 k x.toNatClampNeg) :: st) Z M o) (hin : vp_in x n) : GO X d Q pc ls (.int x :: rf (kG X) k :: st) Z M o := by
  obtain ⟨hd, rfl⟩ := hd
  intro K r M' ho H locs lsA hW hS hL hc hs
  exact va_iald (D := (kG X).1) (ws := [(k0 (kG X) + k, ce (kG X) Z.2.2.2 M k)]) (f := M.1 k) K.1 K.2.1 K.2.2.2.2.2.2.2.1.1 (hW.one hn) 0 0 (by show some _ = some _; rw [ce_I hk hr]) rfl hin hd (kk K r M' ho H locs lsA hW hS hL hc hs)
theorem g_lald (hd : dc d.2.1 pc pc' .laload 1) (hk : kD k = 1000 + n) (hn : k < Z.2.2.1) (kk : GO X d Q pc' ls (.long (M.2 k x.toNatClampNeg) :: st) Z M o) (hin : vp_in x n) : GO X d Q pc ls (.int x :: rf (kG X) k :: st) Z M o := by
  obtain ⟨hd, rfl⟩ := hd
  intro K r M' ho H locs lsA hW hS hL hc hs
  exact va_lald (D := (kG X).1) (ws := [(k0 (kG X) + k, ce (kG X) Z.2.2.2 M k)]) (f := M.2 k) K.1 K.2.1 K.2.2.2.2.2.2.2.1.1 (hW.one hn) 0 1 (by show some _ = some _; rw [ce_J hk]) rfl hin hd (kk K r M' ho H locs lsA hW hS hL hc hs)
theorem g_aald (hd : dc d.2.1 pc pc' .aaload 1) (hk : kD k = 50) (hn : k < Z.2.2.1) (hi : ∀ j, Z.2.2.2 k j = true) (kk : GO X d Q pc' ls (rf (kG X) (k + 1 + 2 * x.toNatClampNeg) :: st) Z M o) (hin : vp_in x 6) : GO X d Q pc ls (.int x :: rf (kG X) k :: st) Z M o := by
  obtain ⟨hd, rfl⟩ := hd
  intro K r M' ho H locs lsA hW hS hL hc hs
  refine va_aldq (D := (kG X).1) (ws := [(k0 (kG X) + k, ce (kG X) Z.2.2.2 M k)]) (f := fun j => if Z.2.2.2 k j = true then some (k0 (kG X) + (k + 1 + 2 * j)) else none) K.1 K.2.1 K.2.2.2.2.2.2.2.1.1 (hW.one hn) 0 2 (by show some _ = some _; rw [ce_T hk]) rfl hin hd ?_
  simp only [hi, if_true]
  exact kk K r M' ho H locs lsA hW hS hL hc hs
theorem g_alenI (hd : dc d.2.1 pc pc' .arraylength 1) (hk : kD k = 100 + n) (hr : n < 900) (hn : k < Z.2.2.1) (kk : GO X d Q pc' ls (.int (Int32.ofNat n) :: st) Z M o) : GO X d Q pc ls (rf (kG X) k :: st) Z M o := by
  obtain ⟨hd, rfl⟩ := hd
  intro K r M' ho H locs lsA hW hS hL hc hs
  exact va_alen (D := (kG X).1) (ws := [(k0 (kG X) + k, ce (kG X) Z.2.2.2 M k)]) K.1 K.2.1 K.2.2.2.2.2.2.2.1.1 (hW.one hn) 0 0 (by show some _ = some _; rw [ce_I hk hr]) rfl rfl hd (kk K r M' ho H locs lsA hW hS hL hc hs)
theorem g_alenJ (hd : dc d.2.1 pc pc' .arraylength 1) (hk : kD k = 1000 + n) (hn : k < Z.2.2.1) (kk : GO X d Q pc' ls (.int (Int32.ofNat n) :: st) Z M o) : GO X d Q pc ls (rf (kG X) k :: st) Z M o := by
  obtain ⟨hd, rfl⟩ := hd
  intro K r M' ho H locs lsA hW hS hL hc hs
  exact va_alen (D := (kG X).1) (ws := [(k0 (kG X) + k, ce (kG X) Z.2.2.2 M k)]) K.1 K.2.1 K.2.2.2.2.2.2.2.1.1 (hW.one hn) 0 1 (by show some _ = some _; rw [ce_J hk]) rfl rfl hd (kk K r M' ho H locs lsA hW hS hL hc hs)
theorem g_alenT (hd : dc d.2.1 pc pc' .arraylength 1) (hk : kD k = 50) (hn : k < Z.2.2.1) (kk : GO X d Q pc' ls (.int 6 :: st) Z M o) : GO X d Q pc ls (rf (kG X) k :: st) Z M o := by
  obtain ⟨hd, rfl⟩ := hd
  intro K r M' ho H locs lsA hW hS hL hc hs
  exact va_alen (D := (kG X).1) (ws := [(k0 (kG X) + k, ce (kG X) Z.2.2.2 M k)]) K.1 K.2.1 K.2.2.2.2.2.2.2.1.1 (hW.one hn) 0 2 (by show some _ = some _; rw [ce_T hk]) rfl rfl hd (kk K r M' ho H locs lsA hW hS hL hc hs)
theorem g_iast (hd : dc d.2.1 pc pc' .iastore 1) (hk : kD k = 100 + n) (hr : n < 900) (hn : k < Z.2.2.1) (kk : GO X d Q pc' ls st Z (wI M k x.toNatClampNeg y) o) (hin : vp_in x n) : GO X d Q pc ls (.int y :: .int x :: rf (kG X) k :: st) Z M o := by
  obtain ⟨hd, rfl⟩ := hd
  intro K r M' ho H locs lsA hW hS hL hc hs
  have hat := hW.2 k hn
  rw [ce_I hk hr] at hat
  refine W.iast K.1 K.2.1 hat ((K.2.2.2.2.2.2.2.1.1.2 0 _ rfl).1 n (fun j => .int (M.1 k j))) (fun q => by cases q) (by show ¬ (x < 0 ∨ (arrV _ _ _).slots.size ≤ _); rw [arrV_size]; exact hin) rfl rfl hd fun H1 e z oq => ?_
  refine kk K r M' ho H1 _ lsA (hW.put z oq ?_ (fun q hq => ce_cg (wI_ne M _ y hq) rfl rfl)) (hS.put z oq (Nat.le_add_right _ _)) hL hc hs
  rw [ce_I hk hr, wI_self]
  show H1[_]? = some (vp_cell _ _)
  rw [e, vp_cell_i, vp_cell_i, arrV_store]
  congr 2
  funext q
  by_cases hq : q = x.toNatClampNeg
  · subst hq
    simp [updV, upd]
  · simp [updV, upd, hq]
theorem g_last (hd : dc d.2.1 pc pc' .lastore 1) (hk : kD k = 1000 + n) (hn : k < Z.2.2.1) (kk : GO X d Q pc' ls st Z (wJ M k x.toNatClampNeg u) o) (hin : vp_in x n) : GO X d Q pc ls (.long u :: .int x :: rf (kG X) k :: st) Z M o := by
  obtain ⟨hd, rfl⟩ := hd
  intro K r M' ho H locs lsA hW hS hL hc hs
  have hat := hW.2 k hn
  rw [ce_J hk] at hat
  refine W.last K.1 K.2.1 hat ((K.2.2.2.2.2.2.2.1.1.2 1 _ rfl).1 n (fun j => .long (M.2 k j))) (fun q => by cases q) (by show ¬ (x < 0 ∨ (arrV _ _ _).slots.size ≤ _); rw [arrV_size]; exact hin) rfl rfl hd fun H1 e z oq => ?_
  refine kk K r M' ho H1 _ lsA (hW.put z oq ?_ (fun q hq => ce_cg rfl (wJ_ne M _ u hq) rfl)) (hS.put z oq (Nat.le_add_right _ _)) hL hc hs
  rw [ce_J hk, wJ_self]
  show H1[_]? = some (vp_cell _ _)
  rw [e, vp_cell_l, vp_cell_l, arrV_store]
  congr 2
  funext q
  by_cases hq : q = x.toNatClampNeg
  · subst hq
    simp [updV, updL]
  · simp [updV, updL, hq]
end HEAPR
