/-! a method's end, its contract, its beginning, calls -/
def QC (G : KG) (n : Nat) (ini : Nat → Nat → Bool) (v : Option Value) (M : Mm) : Array Value → State → Outcome → State → Prop := fun _ st oc t => oc = .returned v ∧ WD G n ini M t.heap ∧ va_F (KA G) st t
def QE {α : Type} (X : KX) (rv : α → Option Value) (Z : ZZ) : α → Mm → State → Prop := fun r M' => MQ (kb X) (QC (kG X) Z.2.2.1 Z.2.2.2 (rv r) M') (ka X) (ks X) Z.1 Z.2.1 (KA (kG X))
abbrev rvI (r : Int32) : Option Value := some (.int r)
abbrev rvJ (r : Int64) : Option Value := some (.long r)
abbrev rvU (_ : Unit) : Option Value := none
def rvO (G : KG) (r : Option Nat) : Option Value := some (rfo G r)
section ENDS
variable {α β : Type} {X : KX} {d : MD} {pc pc' : Nat} {ls : List (Option Value)} {Z : ZZ} {M : Mm} {x : Int32} {u : Int64}
theorem g_iret (hd : dc d.2.1 pc pc' .ireturn 1) (hr : d.2.2.2.1 = some .int) : GO X d (QE X rvI Z) pc ls [.int x] Z M (some (x, M)) := by
  obtain ⟨hd, rfl⟩ := hd
  intro K r M' ho H locs lsA hW hS hL hc hs
  cases ho
  exact W.iret K.1 K.2.1 (K.2.2.1.trans hr) (fun t ht hV => ⟨rfl, by rw [ht]; exact hW, hS.F ht⟩) hS.2.2 hd K.2.2.2.2.2.2.1
theorem g_zret (hd : dc d.2.1 pc pc' .ireturn 1) (hr : d.2.2.2.1 = some .boolean) (hx : x = 0 ∨ x = 1) : GO X d (QE X rvI Z) pc ls [.int x] Z M (some (x, M)) := by
  obtain ⟨hd, rfl⟩ := hd
  intro K r M' ho H locs lsA hW hS hL hc hs
  cases ho
  exact W.zret K.1 K.2.1 (K.2.2.1.trans hr) (by rcases hx with rfl | rfl <;> rfl) (fun t ht hV => ⟨rfl, by rw [ht]; exact hW, hS.F ht⟩) hS.2.2 hd K.2.2.2.2.2.2.1
theorem g_lret (hd : dc d.2.1 pc pc' .lreturn 1) (hr : d.2.2.2.1 = some .long) : GO X d (QE X rvJ Z) pc ls [.long u] Z M (some (u, M)) := by
  obtain ⟨hd, rfl⟩ := hd
  intro K r M' ho H locs lsA hW hS hL hc hs
  cases ho
  exact W.lret K.1 K.2.1 (K.2.2.1.trans hr) (fun t ht hV => ⟨rfl, by rw [ht]; exact hW, hS.F ht⟩) hS.2.2 hd K.2.2.2.2.2.2.1
theorem g_vret (hd : dc d.2.1 pc pc' .return_ 1) (hr : d.2.2.2.1 = none) : GO X d (QE X rvU Z) pc ls [] Z M (some ((), M)) := by
  obtain ⟨hd, rfl⟩ := hd
  intro K r M' ho H locs lsA hW hS hL hc hs
  cases ho
  exact W.vret K.1 K.2.1 (K.2.2.1.trans hr) (fun t ht hV => ⟨rfl, by rw [ht]; exact hW, hS.F ht⟩) hS.2.2 hd K.2.2.2.2.2.2.1
theorem g_aret {C : String} {k : Option Nat} {w : Value} (hd : dc d.2.1 pc pc' .areturn 1) (hr : d.2.2.2.1 = some (.object C)) (hw : w = rfo (kG X) k) : GO X d (QE X (rvO (kG X)) Z) pc ls [w] Z M (some (k, M)) := by
  obtain ⟨hd, rfl⟩ := hd
  intro K r M' ho H locs lsA hW hS hL hc hs
  cases ho
  subst hw
  exact W.aret K.1 K.2.1 (K.2.2.1.trans hr) (Or.inl ⟨C, rfl⟩) (by cases k with
    | none => exact Or.inl rfl
    | some k => exact Or.inr ⟨_, rfl⟩) (fun t ht hV => ⟨rfl, by rw [ht]; exact hW, hS.F ht⟩) hS.2.2 hd K.2.2.2.2.2.2.1
end ENDS
def WS (y : MethodName) (d : MD) : List Cond := Cond.code y d.2.1 d.2.2.1 d.2.2.2.1 :: gtb
def RM (d : MD) (mc ms : Nat) : Room := { frames := d.2.2.2.2.1, cells := mc, slots := ms, locals := d.2.2.2.2.2 }
/-- the contract: from these arguments and this memory the method answers v and leaves that memory -/
def CT (l : Launch) (G : KG) (y : MethodName) (d : MD) (mc ms : Nat) (av : List Value) (n : Nat) (ini : Nat → Nat → Bool) (M : Mm) (v : Option Value) (n' : Nat) (ini' : Nat → Nat → Bool) (M' : Mm) : Prop :=
  Met l y (WS y d) (RM d mc ms) (va_Pc av (fun U => WD G n ini M U.heap ∧ VK G U)) (QC G n' ini' v M') mc ms (KA G)
def ent (av : List Value) : List (Option Value) := av.flatMap (fun v => if v.category = 2 then [some v, none] else [some v])
theorem ent_ok : ∀ (av : List Value) (m i : Nat) (k : Nat) (v : Value), (ent av ++ List.replicate m none)[k]? = some (some v) → (i + k, v) ∈ lv_args i av
  | [], m, i, k, v, h => by
    simp [ent, List.getElem?_replicate] at h
  | a :: av, m, i, k, v, h => by
    have e : ent (a :: av) = (if a.category = 2 then [some a, none] else [some a]) ++ ent av := by simp [ent]
    rw [e] at h
    show (i + k, v) ∈ (i, a) :: lv_args (if a.category = 2 then i + 2 else i + 1) av
    by_cases hc : a.category = 2
    · rw [if_pos hc] at h ⊢
      match k, h with
      | 0, h => simp at h; subst h; exact List.mem_cons_self
      | 1, h => simp at h
      | k + 2, h =>
        have h2 : (ent av ++ List.replicate m none)[k]? = some (some v) := by simpa using h
        have := ent_ok av m (i + 2) k v h2
        rw [show i + (k + 2) = i + 2 + k by omega]
        exact List.mem_cons_of_mem _ this
    · rw [if_neg hc] at h ⊢
      match k, h with
      | 0, h => simp at h; subst h; exact List.mem_cons_self
      | k + 1, h =>
        have h2 : (ent av ++ List.replicate m none)[k]? = some (some v) := by simpa using h
        have := ent_ok av m (i + 1) k v h2
        rw [show i + (k + 1) = i + 1 + k by omega]
        exact List.mem_cons_of_mem _ this
theorem CT.of {α : Type} {l : Launch} {G : KG} {y : MethodName} {d : MD} {av : List Value} {Z Z' : ZZ} {M M' : Mm} {rv : α → Option Value} {r : α} {o : Option (α × Mm)} {ls : List (Option Value)} (m : Nat)
    (hy : plainName y.cls = true) (hown : d.1 = y.cls) (hz : Z.1 = 0 ∧ Z.2.1 = 0) (hargs : (lg_sl av).length ≤ d.2.2.1) (hls : ls = ent av ++ List.replicate m none) (ho : o = some (r, M'))
    (body : ∀ X : KX, kl X = l → kG X = G → GO X d (QE X rv Z') 0 ls [] Z M o) : CT l G y d Z'.1 Z'.2.1 av Z.2.2.1 Z.2.2.2 M (rv r) Z'.2.2.1 Z'.2.2.2 M' := by
  refine Met.ofW (cc := d.2.1) (maxL := d.2.2.1) (ret := d.2.2.2.1) hy rfl ?_
  intro p e s m0 args below meth c s₁ B hml hv
  obtain ⟨rfl, hW, hK⟩ := hv
  have hts := atoms_spec (ws := WS y d) B.pre
  have hl := lv_entry av hargs
  have he : entryFrame m0 av.toArray d.2.2.1 = F0 m0 0 ((lg_sl av ++ List.replicate (d.2.2.1 - (lg_sl av).length) Slot.unset).toArray) [] := by rw [lg_entry_eq]
  rw [he]
  have hb := body ((p, l, e, (headSpec (WS y d) (RM d Z'.1 Z'.2.1)).room, s, m0), (av.toArray, below, meth, c), G) rfl rfl
  have h0 := hb ⟨B.exec, B.bytes, B.returns, hml, by rw [hown]; exact findClass_of_methodNamed B.named, fun w hw => hts w (List.mem_cons_of_mem _ hw), B.notSynchronized, hK, Nat.le_refl _, Nat.le_refl _⟩ r M' ho s.heap [] _ hW va_S.rf ⟨_, hl, fun k v hk => by rw [hls] at hk; have := ent_ok av m 0 k v hk; rwa [Nat.zero_add] at this⟩ (by rw [hz.1]; exact Nat.zero_le _) (by rw [hz.2]; exact Nat.zero_le _)
  rw [hz.1, hz.2] at h0
  exact h0
/-- what the tables say of a method: its code, its class; how many arguments -/
def MY (y : MethodName) (d : MD) (na : Nat) : Prop := Cond.code y d.2.1 d.2.2.1 d.2.2.2.1 ∈ gtb ∧ Cond.initialized y.cls ∈ gtb ∧ (y.cls ≠ "java/lang/invoke/MethodHandle" ∧ y.cls ≠ "java/lang/invoke/VarHandle" ∧ (parseMethodDescriptor y.desc).map (fun d => d.parameters.length) = some na)
def MV (own : String) (idx : Nat) (y : MethodName) : Prop := Cond.methodLink own idx y ∈ gtb ∧ Cond.instanceMethod y ∈ gtb ∧ Cond.selects y.cls y y ∈ gtb
def MS (own : String) (idx : Nat) (y : MethodName) : Prop := Cond.methodLink own idx y ∈ gtb ∧ Cond.static y ∈ gtb
theorem VK.moved {G : KG} {s U : State} (h : VK G s) (hW : s.WarmedH U.vm) : VK G U := ⟨va_K.moved hW.alike h.1, fun q hq => va_Nw.warmM hW (h.2.1 q hq), va_AO.moved hW.alike h.2.2⟩
/-- a static method of a nest mate -/
def MN (own : String) (idx : Nat) (y : MethodName) (host : String) : Prop := (own, idx, y, host) ∈ ntb ∧ Cond.static y ∈ gtb
section CALLS
variable {α β : Type} {X : KX} {d dy : MD} {Q : α → Mm → State → Prop} {pc pc' idx na : Nat} {ls : List (Option Value)} {st st0 : List Value} {Z : ZZ} {M : Mm} {y : MethodName} {As : List Value} {rv : β → Option Value} {oc : Option (β × Mm)} {f : β → Mm → Option (α × Mm)} {k ci : Nat} {C : String} {T : u_T} {N : Nat}
theorem blind_WD {G : KG} {n : Nat} {ini : Nat → Nat → Bool} {M : Mm} {av : List Value} : FrameBlind (va_Pc av (fun U => WD G n ini M U.heap ∧ VK G U)) := by
  intro a U g mk ⟨h1, h2, h3⟩
  exact ⟨h1, h2, va_K.moved (u := U) (U := U.calling g mk a) (Vm.Alike.refl U.vm) h3.1, fun q hq => va_Nw.same rfl rfl (h3.2.1 q hq), va_AO.moved (u := U) (U := U.calling g mk a) (Vm.Alike.refl U.vm) h3.2.2⟩
theorem callB_ok (K : KOK X d) (hy : MY y dy na) (hl : Cond.methodLink d.1 idx y ∈ gtb) (hR : dy.2.2.2.2.1 + 1 ≤ d.2.2.2.2.1 ∧ 8 + (dy.2.2.1 + 11) + dy.2.2.2.2.2 ≤ d.2.2.2.2.2) (mc ms : Nat) : CallB (kr X) (ks X) (ka X) d.1 idx y dy.2.1 dy.2.2.1 dy.2.2.2.1 (WS y dy) (RM dy mc ms) mc ms na := by
  have hts := K.2.2.2.2.2.1
  refine callB_of na hts ?_ rfl rfl rfl (hts _ hy.2.1) (hts _ hl) hy.2.2 ⟨Nat.le_trans hR.1 K.2.2.2.2.2.2.2.2.1, Nat.le_trans hR.2 K.2.2.2.2.2.2.2.2.2⟩
  intro w hw
  rcases List.mem_cons.mp hw with rfl | hw
  · exact ⟨hy.1, good_of_word (gtb_good _ hy.1)⟩
  · exact ⟨hw, good_of_word (gtb_good _ hw)⟩
theorem g_callK {Z' : ZZ} {H : Heap} {locs : List Loc} {lsA : Array Slot} {r : α} {M' : Mm} {mc ms : Nat} {a : Array Value} {rc : β} {Mc : Mm}
    (run : va_Run (kp X) (kl X) (ke X) (kr X) (ks X) (km X) (ka X) (kb X) (kt X) (kc X) H locs Z.1 Z.2.1 mc ms (F0 (km X) pc lsA st0) st (QC (kG X) Z'.2.2.1 Z'.2.2.2 (rv rc) Mc a) (KA (kG X)))
    (hS : va_S (KA (kG X)) (ks X).heap H locs) (hZ : Z'.1 = Z.1 + mc ∧ Z'.2.1 = Z.2.1 + ms)
    (kk : ∀ (H1 : Heap) (locs1 : List Loc), WD (kG X) Z'.2.2.1 Z'.2.2.2 Mc H1 → va_S (KA (kG X)) (ks X).heap H1 locs1 → W (kp X) (kl X) (ke X) (kr X) (ks X) (km X) (ka X) (kb X) (kt X) (kc X) H1 locs1 Z'.1 Z'.2.1 (Q r M') (F0 (km X) (pc + 3) lsA ((rv rc).toList ++ st))) :
    W (kp X) (kl X) (ke X) (kr X) (ks X) (km X) (ka X) (kb X) (kt X) (kc X) H locs Z.1 Z.2.1 (Q r M') (F0 (km X) pc lsA st0) := by
  intro T0 hT XX
  obtain ⟨v, st₀, t, T', L, h0, X', hL, e1, e2, ⟨hv, hWt, hz, hk⟩, stp⟩ := run T0 hT XX
  cases hv
  rw [h0] at hz hk
  have hW' : WD (kG X) Z'.2.2.1 Z'.2.2.2 Mc T'.heap := by rw [e1]; exact hWt
  rw [← hZ.1, ← hZ.2] at X'
  obtain ⟨t2, a1, b1⟩ := kk T'.heap (locs ++ L) hW' ⟨Nat.le_trans hS.1 (by rw [e1]; exact hz), fun q h1 h2 => by rw [e1, hk q (Nat.lt_of_lt_of_le h1 hS.1) h2]; exact hS.2.1 q h1 h2, fun q hq => by
    rcases List.mem_append.mp hq with h | h
    · exact hS.2.2 q h
    · exact hL q h⟩ T' rfl X'
  exact ⟨t2, stp t2 a1, b1⟩
theorem g_callV (hd : dc d.2.1 pc pc' (.invokevirtual idx) 3) (hm : MV d.1 idx y) (hy : MY y dy na) (hR : dy.2.2.2.2.1 + 1 ≤ d.2.2.2.2.1 ∧ 8 + (dy.2.2.1 + 11) + dy.2.2.2.2.2 ≤ d.2.2.2.2.2)
    (hst : st0 = As.reverse ++ rf (kG X) k :: st) (hna : As.length = na) (hk : kD k = ci) (hn : k < Z.2.2.1) (hcl : cls[ci]? = some (y.cls, T, N)) (hcat : (st.map fun v => v.category).sum ≤ 8) (hlen : ls.length = d.2.2.1)
    (hct : ∀ r M', oc = some (r, M') → CT (kl X) (kG X) y dy 0 0 (rf (kG X) k :: As) Z.2.2.1 Z.2.2.2 M (rv r) Z.2.2.1 Z.2.2.2 M')
    (kk : ∀ r M', oc = some (r, M') → GO X d Q pc' ls ((rv r).toList ++ st) Z M' (f r M')) : GO X d Q pc ls st0 Z M (bD oc f) := by
  obtain ⟨hd, rfl⟩ := hd
  subst hst
  intro K r M' ho H locs lsA hW hS hL hc hs
  obtain ⟨rc, Mc, h1, h2⟩ := bD_some ho
  have hts := K.2.2.2.2.2.1
  have hKV := K.2.2.2.2.2.2.2.1
  have hKv := hKV.1
  refine g_callK (Z' := Z) (mc := 0) (ms := 0) (va_runV (As := As) (rest := st) ⟨K.1, K.2.1, K.2.2.2.1, K.2.2.2.2.1, hts⟩ (hct rc Mc h1) ⟨callB_ok K hy hm.1 hR 0 0, hts _ hm.2.1, hts _ hm.2.2⟩ ⟨blind_WD, va_recv hKv (hW.one hn) hcl (q0 := 0) (by subst hk; show some _ = some _; rw [ce_obj (by have := (fD_len _ _ _ _ hcl).2; omega)]), fun U hU hV => ⟨rfl, by rw [hU]; exact hW, hKV.moved hV⟩⟩ rfl hna (by obtain ⟨l, h, _⟩ := hL; exact h.1) rfl (lv_room hcat) hd ⟨hc, hs⟩) hS ⟨rfl, rfl⟩ fun H1 locs1 hW1 hS1 => ?_
  exact kk rc Mc h1 K r M' h2 H1 locs1 lsA hW1 hS1 hL hc hs
theorem g_callS (hd : dc d.2.1 pc pc' (.invokestatic idx) 3) (hm : MS d.1 idx y) (hy : MY y dy na) (hR : dy.2.2.2.2.1 + 1 ≤ d.2.2.2.2.1 ∧ 8 + (dy.2.2.1 + 11) + dy.2.2.2.2.2 ≤ d.2.2.2.2.2)
    (hst : st0 = As.reverse ++ st) (hna : As.length = na) (hcat : (st.map fun v => v.category).sum ≤ 8)
    (hct : ∀ r M', oc = some (r, M') → CT (kl X) (kG X) y dy 0 0 As Z.2.2.1 Z.2.2.2 M (rv r) Z.2.2.1 Z.2.2.2 M')
    (kk : ∀ r M', oc = some (r, M') → GO X d Q pc' ls ((rv r).toList ++ st) Z M' (f r M')) : GO X d Q pc ls st0 Z M (bD oc f) := by
  obtain ⟨hd, rfl⟩ := hd
  subst hst
  intro K r M' ho H locs lsA hW hS hL hc hs
  obtain ⟨rc, Mc, h1, h2⟩ := bD_some ho
  have hts := K.2.2.2.2.2.1
  have hKV := K.2.2.2.2.2.2.2.1
  have hKv := hKV.1
  refine g_callK (Z' := Z) (mc := 0) (ms := 0) (va_runS (As := As) (rest := st) ⟨K.1, K.2.1, K.2.2.2.1, K.2.2.2.2.1, hts⟩ (hct rc Mc h1) ⟨callB_ok K hy hm.1 hR 0 0, hts _ hm.2⟩ ⟨blind_WD, fun U hU hV => ⟨rfl, by rw [hU]; exact hW, hKV.moved hV⟩⟩ rfl hna (by obtain ⟨l, h, _⟩ := hL; exact h.1) rfl (lv_room hcat) hd ⟨hc, hs⟩) hS ⟨rfl, rfl⟩ fun H1 locs1 hW1 hS1 => ?_
  exact kk rc Mc h1 K r M' h2 H1 locs1 lsA hW1 hS1 hL hc hs
theorem callN_ok {host : String} (K : KOK X d) (hy : MY y dy na) (hl : (d.1, idx, y, host) ∈ ntb) (hR : dy.2.2.2.2.1 + 1 ≤ d.2.2.2.2.1 ∧ 8 + (dy.2.2.1 + 11) + dy.2.2.2.2.2 ≤ d.2.2.2.2.2) (mc ms : Nat) : va_CN (kr X) (ks X) (ka X) d.1 idx y host dy.2.1 dy.2.2.1 dy.2.2.2.1 (WS y dy) (RM dy mc ms) mc ms na := by
  have hts := K.2.2.2.2.2.1
  refine va_cnB na hts ?_ rfl rfl rfl (K.2.2.2.2.2.2.2.1.2.1 _ hl) (hts _ hy.2.1) hy.2.2 ⟨Nat.le_trans hR.1 K.2.2.2.2.2.2.2.2.1, Nat.le_trans hR.2 K.2.2.2.2.2.2.2.2.2⟩
  intro w hw
  rcases List.mem_cons.mp hw with rfl | hw
  · exact ⟨hy.1, good_of_word (gtb_good _ hy.1)⟩
  · exact ⟨hw, good_of_word (gtb_good _ hw)⟩
theorem g_callSN {host : String} (hd : dc d.2.1 pc pc' (.invokestatic idx) 3) (hm : MN d.1 idx y host) (hy : MY y dy na) (hR : dy.2.2.2.2.1 + 1 ≤ d.2.2.2.2.1 ∧ 8 + (dy.2.2.1 + 11) + dy.2.2.2.2.2 ≤ d.2.2.2.2.2)
    (hst : st0 = As.reverse ++ st) (hna : As.length = na) (hcat : (st.map fun v => v.category).sum ≤ 8)
    (hct : ∀ r M', oc = some (r, M') → CT (kl X) (kG X) y dy 0 0 As Z.2.2.1 Z.2.2.2 M (rv r) Z.2.2.1 Z.2.2.2 M')
    (kk : ∀ r M', oc = some (r, M') → GO X d Q pc' ls ((rv r).toList ++ st) Z M' (f r M')) : GO X d Q pc ls st0 Z M (bD oc f) := by
  obtain ⟨hd, rfl⟩ := hd
  subst hst
  intro K r M' ho H locs lsA hW hS hL hc hs
  obtain ⟨rc, Mc, h1, h2⟩ := bD_some ho
  have hts := K.2.2.2.2.2.1
  have hKV := K.2.2.2.2.2.2.2.1
  have hKv := hKV.1
  refine g_callK (Z' := Z) (mc := 0) (ms := 0) (va_runSN (As := As) (rest := st) ⟨K.1, K.2.1, K.2.2.2.1, K.2.2.2.2.1, hts⟩ (hct rc Mc h1) ⟨callN_ok K hy hm.1 hR 0 0, hts _ hm.2, trivial⟩ ⟨blind_WD, fun U hU hV => ⟨rfl, by rw [hU]; exact hW, hKV.moved hV⟩⟩ rfl hna (by obtain ⟨l, h, _⟩ := hL; exact h.1) rfl (lv_room hcat) hd ⟨hc, hs⟩) hS ⟨rfl, rfl⟩ fun H1 locs1 hW1 hS1 => ?_
  exact kk rc Mc h1 K r M' h2 H1 locs1 lsA hW1 hS1 hL hc hs
theorem g_mmax {x y : Int32} {o : Option (α × Mm)} (hd : dc d.2.1 pc pc' (.invokestatic idx) 3) (hl : Cond.methodLink d.1 idx Lib.Math.max.name ∈ gtb ∧ Cond.static Lib.Math.max.name ∈ gtb ∧ Cond.initialized "java/lang/Math" ∈ gtb ∧ Cond.code Lib.Math.max.name Lib.Math.max.code 2 (some .int) ∈ gtb)
    (hR : 1 ≤ d.2.2.2.2.1 ∧ (st.map fun v => v.category).sum + 13 ≤ d.2.2.2.2.2) (kk : GO X d Q pc' ls (.int (if x < y then y else x) :: st) Z M o) : GO X d Q pc ls (.int y :: .int x :: st) Z M o := by
  obtain ⟨hd, rfl⟩ := hd
  intro K r M' ho H locs lsA hW hS hL hc hs
  have hts := K.2.2.2.2.2.1
  exact va_mmax K.1 K.2.1 (by obtain ⟨l, h, _⟩ := hL; rw [K.2.2.2.1]; exact h.1.symm) K.2.2.2.2.1 (hts _ hl.1) (hts _ hl.2.1) (hts _ hl.2.2.1) (hts _ hl.2.2.2) (Nat.le_trans hR.1 K.2.2.2.2.2.2.2.2.1) (Nat.le_trans hR.2 K.2.2.2.2.2.2.2.2.2) hc hs hd (kk K r M' ho H locs lsA hW hS hL hc hs)
theorem g_mmin {x y : Int32} {o : Option (α × Mm)} (hd : dc d.2.1 pc pc' (.invokestatic idx) 3) (hl : Cond.methodLink d.1 idx Lib.Math.min.name ∈ gtb ∧ Cond.static Lib.Math.min.name ∈ gtb ∧ Cond.initialized "java/lang/Math" ∈ gtb ∧ Cond.code Lib.Math.min.name Lib.Math.min.code 2 (some .int) ∈ gtb)
    (hR : 1 ≤ d.2.2.2.2.1 ∧ (st.map fun v => v.category).sum + 13 ≤ d.2.2.2.2.2) (kk : GO X d Q pc' ls (.int (if y < x then y else x) :: st) Z M o) : GO X d Q pc ls (.int y :: .int x :: st) Z M o := by
  obtain ⟨hd, rfl⟩ := hd
  intro K r M' ho H locs lsA hW hS hL hc hs
  have hts := K.2.2.2.2.2.1
  exact va_mmin K.1 K.2.1 (by obtain ⟨l, h, _⟩ := hL; rw [K.2.2.2.1]; exact h.1.symm) K.2.2.2.2.1 (hts _ hl.1) (hts _ hl.2.1) (hts _ hl.2.2.1) (hts _ hl.2.2.2) (Nat.le_trans hR.1 K.2.2.2.2.2.2.2.2.1) (Nat.le_trans hR.2 K.2.2.2.2.2.2.2.2.2) hc hs hd (kk K r M' ho H locs lsA hW hS hL hc hs)
theorem g_have {o o2 : Option (α × Mm)} {lsq : List (Option Value)} {stq : List Value} {pq : Nat} (h1 : GO X d Q pq lsq stq Z M o) (h2 : GO X d Q pq lsq stq Z M o → GO X d Q pc ls st Z M o2) : GO X d Q pc ls st Z M o2 := h2 h1
theorem g_phi0 {o : Option (α × Mm)} (J : Nat) (lsJ : List (Option Value)) (stJ : List Value) (hj : GO X d Q J lsJ stJ Z M o) (hb : GO X d Q J lsJ stJ Z M o → GO X d Q pc ls st Z M o) : GO X d Q pc ls st Z M o := hb hj
theorem g_phi1 {t1 : Int32} {g : Int32 → Option (α × Mm)} (J : Nat) (lsJ : Int32 → List (Option Value)) (stJ : Int32 → List Value) (hj : ∀ x, GO X d Q J (lsJ x) (stJ x) Z M (g x)) (hb : (∀ x, GO X d Q J (lsJ x) (stJ x) Z M (g x)) → GO X d Q pc ls st Z M (lT t1 g)) : GO X d Q pc ls st Z M (lT t1 g) := hb hj
theorem g_phi2 {t1 t2 : Int32} {g : Int32 → Int32 → Option (α × Mm)} (J : Nat) (lsJ : Int32 → Int32 → List (Option Value)) (stJ : Int32 → Int32 → List Value) (hj : ∀ x y, GO X d Q J (lsJ x y) (stJ x y) Z M (g x y)) (hb : (∀ x y, GO X d Q J (lsJ x y) (stJ x y) Z M (g x y)) → GO X d Q pc ls st Z M (lT t1 fun x => lT t2 (g x))) : GO X d Q pc ls st Z M (lT t1 fun x => lT t2 (g x)) := hb hj
theorem g_phi3 {t1 t2 t3 : Int32} {g : Int32 → Int32 → Int32 → Option (α × Mm)} (J : Nat) (lsJ : Int32 → Int32 → Int32 → List (Option Value)) (stJ : Int32 → Int32 → Int32 → List Value) (hj : ∀ x y z, GO X d Q J (lsJ x y z) (stJ x y z) Z M (g x y z)) (hb : (∀ x y z, GO X d Q J (lsJ x y z) (stJ x y z) Z M (g x y z)) → GO X d Q pc ls st Z M (lT t1 fun x => lT t2 fun y => lT t3 (g x y))) : GO X d Q pc ls st Z M (lT t1 fun x => lT t2 fun y => lT t3 (g x y)) := hb hj
theorem g_phi4 {t1 t2 t3 t4 : Int32} {g : Int32 → Int32 → Int32 → Int32 → Option (α × Mm)} (J : Nat) (lsJ : Int32 → Int32 → Int32 → Int32 → List (Option Value)) (stJ : Int32 → Int32 → Int32 → Int32 → List Value) (hj : ∀ x y z w, GO X d Q J (lsJ x y z w) (stJ x y z w) Z M (g x y z w)) (hb : (∀ x y z w, GO X d Q J (lsJ x y z w) (stJ x y z w) Z M (g x y z w)) → GO X d Q pc ls st Z M (lT t1 fun x => lT t2 fun y => lT t3 fun z => lT t4 (g x y z))) : GO X d Q pc ls st Z M (lT t1 fun x => lT t2 fun y => lT t3 fun z => lT t4 (g x y z)) := hb hj
end CALLS
