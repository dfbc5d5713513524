/-! the judgement GO: from this place of the method the machine comes to the method's end with what the term o says; a rule an instruction -/
abbrev KG : Type := va_G × ClassId × ClassId × ClassId × Nat
abbrev KX : Type := (Program × Launch × Env × Room × State × MethodId) × (Array Value × List Frame × Method × Code) × KG
abbrev kp (X : KX) : Program := X.1.1
abbrev kl (X : KX) : Launch := X.1.2.1
abbrev ke (X : KX) : Env := X.1.2.2.1
abbrev kr (X : KX) : Room := X.1.2.2.2.1
abbrev ks (X : KX) : State := X.1.2.2.2.2.1
abbrev km (X : KX) : MethodId := X.1.2.2.2.2.2
abbrev ka (X : KX) : Array Value := X.2.1.1
abbrev kb (X : KX) : List Frame := X.2.1.2.1
abbrev kt (X : KX) : Method := X.2.1.2.2.1
abbrev kc (X : KX) : Code := X.2.1.2.2.2
abbrev kG (X : KX) : KG := X.2.2
abbrev k0 (G : KG) : Nat := G.2.2.2.2
abbrev rf (G : KG) (k : Nat) : Value := .ref (G.2.2.2.2 + k)
def rfo (G : KG) (k : Option Nat) : Value := match k with
  | none => .null
  | some k => rf G k
def fval (b : Nat) (ini : Nat → Bool) (row : Nat → Int32) (k : Nat) (o : Option Nat) (j : Nat) : Value := match o with
  | none => .int (row j)
  | some d => if ini j = true then .ref (b + (k + d)) else .null
def fvs (b : Nat) (ini : Nat → Bool) (row : Nat → Int32) (k : Nat) (fl : List (Option Nat)) : List Value := (List.range fl.length).map (fun j => fval b ini row k (fl.getD j none) j)
def ce (G : KG) (ini : Nat → Nat → Bool) (M : Mm) (k : Nat) : va_E :=
  if kD k < 50 then .inr (kD k, fvs (k0 G) (ini k) (M.1 k) k (fD (kD k)))
  else if kD k = 50 then .inl (G.2.2.2.1, 6, .inr (.inr (.inr (.inr (fun j => if ini k j = true then some (k0 G + (k + 1 + 2 * j)) else none)))))
  else if kD k < 1000 then .inl (G.2.1, kD k - 100, .inl (M.1 k))
  else .inl (G.2.2.1, kD k - 1000, .inr (.inl (M.2 k)))
def WD (G : KG) (n : Nat) (ini : Nat → Nat → Bool) (M : Mm) (H : Heap) : Prop := H.size = k0 G + n ∧ ∀ k, k < n → va_at G.1 cls (k0 G + k, ce G ini M k) H
abbrev tyl (G : KG) : List (ClassId × FieldType) := [(G.2.1, .int), (G.2.2.1, .long), (G.2.2.2.1, .object "PressSheets$Tape")]
/-- the calls of private members of a nest mate -/
def ntb : List (String × Nat × MethodName × String) := [("PressSheets", 11, ⟨"PressSheets$State", "<init>", "()V"⟩, "PressSheets"), ("PressSheets$Job", 23, ⟨"PressSheets$Leaf", "<init>", "()V"⟩, "PressSheets"), ("PressSheets$Job", 30, ⟨"PressSheets$Spot", "<init>", "()V"⟩, "PressSheets"), ("PressSheets$State", 20, ⟨"PressSheets$Press", "<init>", "()V"⟩, "PressSheets"), ("PressSheets$State", 27, ⟨"PressSheets$Plan", "<init>", "()V"⟩, "PressSheets"), ("PressSheets", 30, ⟨"PressSheets$Text", "<init>", "()V"⟩, "PressSheets"), ("PressSheets", 37, ⟨"PressSheets$Tape", "<init>", "()V"⟩, "PressSheets"), ("PressSheets$Spot", 65, ⟨"PressSheets", "cellOf", "(IIII)I"⟩, "PressSheets")]
def VK (G : KG) (U : State) : Prop := va_K G.1 cls (tyl G) U ∧ (∀ q ∈ ntb, va_Nw (.methodLinkNest q.1 q.2.1 q.2.2.1 q.2.2.2) U) ∧ va_AO "PressSheets$Tape" U
/-- a method: its class, bytes, locals, type; the frames and the locals' room that it wants -/
abbrev MD : Type := String × ByteArray × Nat × Option FieldType × Nat × Nat
def KOK (X : KX) (d : MD) : Prop := (kp X).tables.exec = Jvm.exec ∧ (kc X).code = d.2.1 ∧ (kt X).sig.returnType = d.2.2.2.1 ∧ (kc X).maxLocals = d.2.2.1 ∧ (ks X).vm.findClass d.1 = some (km X).cls ∧ (∀ w ∈ gtb, w.before (ka X) (ks X) = true) ∧ (kt X).locks = false ∧ VK (kG X) (ks X) ∧ d.2.2.2.2.1 ≤ (kr X).frames ∧ d.2.2.2.2.2 ≤ (kr X).locals
abbrev ZZ : Type := Nat × Nat × Nat × (Nat → Nat → Bool)
abbrev KA (G : KG) : Nat → Prop := fun q => k0 G ≤ q
def LV (lsA : Array Slot) (nL : Nat) (ls : List (Option Value)) : Prop := ∃ l, lv_has lsA nL l ∧ ∀ (k : Nat) (v : Value), ls[k]? = some (some v) → (k, v) ∈ l
def GO {α : Type} (X : KX) (d : MD) (Q : α → Mm → State → Prop) (pc : Nat) (ls : List (Option Value)) (st : List Value) (Z : ZZ) (M : Mm) (o : Option (α × Mm)) : Prop :=
  KOK X d → ∀ (r : α) (M' : Mm), o = some (r, M') → ∀ (H : Heap) (locs : List Loc) (lsA : Array Slot), WD (kG X) Z.2.2.1 Z.2.2.2 M H → va_S (KA (kG X)) (ks X).heap H locs → LV lsA d.2.2.1 ls → Z.1 ≤ (kr X).cells → Z.2.1 ≤ (kr X).slots →
    W (kp X) (kl X) (ke X) (kr X) (ks X) (km X) (ka X) (kb X) (kt X) (kc X) H locs Z.1 Z.2.1 (Q r M') (F0 (km X) pc lsA st)
/-- a decoded instruction, and where the next one is; a jump's target -/
def dc (cc : ByteArray) (pc pc' : Nat) (i : Instr) (len : Nat) : Prop := decode cc pc = .ok (i, len) ∧ pc + len = pc'
def dj (cc : ByteArray) (pc pc' tgt : Nat) (off : Int) (i : Instr) (len : Nat) : Prop := decode cc pc = .ok (i, len) ∧ pc + len = pc' ∧ (pc : Int) + off = (tgt : Int)
def lT {α β : Type} (a : α) (f : α → β) : β := f a
def bD {α β : Type} (x : Option (β × Mm)) (f : β → Mm → Option (α × Mm)) : Option (α × Mm) := match x with
  | none => none
  | some q => f q.1 q.2
theorem bD_some {α β : Type} {x : Option (β × Mm)} {f : β → Mm → Option (α × Mm)} {r : α × Mm} (h : bD x f = some r) : ∃ (a : β) (M : Mm), x = some (a, M) ∧ f a M = some r := by
  cases x with
  | none => cases h
  | some q => exact ⟨q.1, q.2, rfl, h⟩
theorem irem_eq (x y : Int32) : x - x / y * y = x % y := by
  apply Int32.toInt_inj.mp
  have h0 : ∀ z : Int32, z.toInt = z.toInt.bmod (2 ^ 32) := fun z => by simp
  have h := h0 (x % y)
  rw [h, Int32.toInt_mod, Int32.toInt_sub, Int32.toInt_mul, Int32.toInt_div, Int.tmod_def]
  simp [Int.mul_comm]
theorem lrem_eq (x y : Int64) : x - x / y * y = x % y := by
  apply Int64.toInt_inj.mp
  have h0 : ∀ z : Int64, z.toInt = z.toInt.bmod (2 ^ 64) := fun z => by simp
  have h := h0 (x % y)
  rw [h, Int64.toInt_mod, Int64.toInt_sub, Int64.toInt_mul, Int64.toInt_div, Int.tmod_def]
  simp [Int.mul_comm]
section RULES
variable {α β : Type} {X : KX} {d : MD} {Q : α → Mm → State → Prop} {pc pc' tgt idx : Nat} {off : Int} {ls : List (Option Value)} {st : List Value} {Z : ZZ} {M : Mm} {o o1 o2 : Option (α × Mm)} {x y : Int32} {u v : Int64} {i j k ci : Nat}
theorem g_weak {ls' : List (Option Value)} (h : ∀ (k : Nat) (v : Value), ls'[k]? = some (some v) → ls[k]? = some (some v)) (kk : GO X d Q pc ls' st Z M o) : GO X d Q pc ls st Z M o := by
  intro K r M' ho H locs lsA hW hS hL hc hs
  obtain ⟨l, h1, h2⟩ := hL
  exact kk K r M' ho H locs lsA hW hS ⟨l, h1, fun k v hk => h2 k v (h k v hk)⟩ hc hs
theorem g_none : GO X d Q pc ls st Z M none := fun _ _ _ h => by cases h
theorem g_ite {P : Prop} [Decidable P] (k1 : P → GO X d Q pc ls st Z M o1) (k2 : ¬ P → GO X d Q pc ls st Z M o2) : GO X d Q pc ls st Z M (if P then o1 else o2) := by
  by_cases h : P
  · rw [if_pos h]; exact k1 h
  · rw [if_neg h]; exact k2 h
theorem g_grd {P : Prop} [Decidable P] (k1 : P → GO X d Q pc ls st Z M o1) : GO X d Q pc ls st Z M (if P then o1 else none) := g_ite k1 (fun _ => g_none)
theorem g_lt {γ : Type} {a : γ} {f : γ → Option (α × Mm)} (kk : GO X d Q pc ls st Z M (f a)) : GO X d Q pc ls st Z M (lT a f) := kk
theorem g_pt {γ : Type} {P : Prop} [Decidable P] {a b : γ} {f : γ → Option (α × Mm)} (h : P) (kk : GO X d Q pc ls st Z M (lT a f)) : GO X d Q pc ls st Z M (lT (if P then a else b) f) := by rw [if_pos h]; exact kk
theorem g_pf {γ : Type} {P : Prop} [Decidable P] {a b : γ} {f : γ → Option (α × Mm)} (h : ¬ P) (kk : GO X d Q pc ls st Z M (lT b f)) : GO X d Q pc ls st Z M (lT (if P then a else b) f) := by rw [if_neg h]; exact kk
theorem LV.at {lsA : Array Slot} {nL : Nat} {ls : List (Option Value)} (h : LV lsA nL ls) {k : Nat} {v : Value} (hk : ls[k]? = some (some v)) : lsA[k]? = some (.val v) := by
  obtain ⟨l, h1, h2⟩ := h
  exact h1.2.2 _ (h2 k v hk)
def nlo (ls : List (Option Value)) (i : Nat) : Bool := match i with
  | 0 => true
  | j + 1 => match ls[j]? with
    | some (some v) => v.category == 1
    | _ => true
theorem LV.set1 {ls : List (Option Value)} {l : List (Nat × Value)} (hl : ∀ (k : Nat) (v : Value), ls[k]? = some (some v) → (k, v) ∈ l) {i : Nat} {v : Value} (hn : nlo ls i = true) :
    ∀ (k : Nat) (v' : Value), (ls.set i (some v))[k]? = some (some v') → (k, v') ∈ (i, v) :: l.filter (fun q => !(q.1 == i) && !(q.1 + 1 == i && q.2.category == 2)) := by
  intro k v' hk
  by_cases he : k = i
  · subst he
    have hlt : k < ls.length := by
      have := (List.getElem?_eq_some_iff.mp hk).1
      simpa using this
    rw [List.getElem?_set_self hlt] at hk
    cases hk
    exact List.mem_cons_self
  · rw [List.getElem?_set_ne (Ne.symm he)] at hk
    refine List.mem_cons_of_mem _ (List.mem_filter.mpr ⟨hl k v' hk, ?_⟩)
    have h1 : ¬ (k + 1 = i ∧ v'.category = 2) := by
      rintro ⟨rfl, h2⟩
      simp only [nlo, hk] at hn
      rw [h2] at hn
      cases hn
    simp only [Bool.and_eq_true, Bool.not_eq_true', beq_eq_false_iff_ne, ne_eq, Bool.and_eq_false_iff]
    refine ⟨he, ?_⟩
    by_cases h2 : k + 1 = i
    · exact Or.inr (fun h3 => h1 ⟨h2, h3⟩)
    · exact Or.inl h2
theorem LV.set2 {ls : List (Option Value)} {l : List (Nat × Value)} (hl : ∀ (k : Nat) (v : Value), ls[k]? = some (some v) → (k, v) ∈ l) {i : Nat} {v : Value} (hn : nlo ls i = true) :
    ∀ (k : Nat) (v' : Value), ((ls.set i (some v)).set (i + 1) none)[k]? = some (some v') → (k, v') ∈ (i, v) :: l.filter (fun q => !(q.1 == i) && (!(q.1 == i + 1) && !(q.1 + 1 == i && q.2.category == 2))) := by
  intro k v' hk
  by_cases hi : k = i + 1
  · subst hi
    by_cases hlt : i + 1 < ls.length
    · rw [List.getElem?_set_self (by simpa using hlt)] at hk
      cases hk
    · have := (List.getElem?_eq_some_iff.mp hk).1
      simp at this
      omega
  · rw [List.getElem?_set_ne (Ne.symm hi)] at hk
    have h0 := LV.set1 hl hn k v' hk
    rcases List.mem_cons.mp h0 with h0 | h0
    · rw [h0]; exact List.mem_cons_self
    · obtain ⟨h1, h2⟩ := List.mem_filter.mp h0
      refine List.mem_cons_of_mem _ (List.mem_filter.mpr ⟨h1, ?_⟩)
      simp only [Bool.and_eq_true] at h2 ⊢
      exact ⟨h2.1, by simpa using hi, h2.2⟩
/-! a local's load and store -/
theorem g_iload_n {n : Fin 4} (hd : dc d.2.1 pc pc' (.iload_n n) 1) (hv : ls[(n : Nat)]? = some (some (.int x))) (kk : GO X d Q pc' ls (.int x :: st) Z M o) : GO X d Q pc ls st Z M o := by
  obtain ⟨hd, rfl⟩ := hd
  intro K r M' ho H locs lsA hW hS hL hc hs
  exact lv_iload_n K.1 K.2.1 hd rfl (hL.at hv) (kk K r M' ho H locs lsA hW hS hL hc hs)
theorem g_iload (hd : dc d.2.1 pc pc' (.iload i) 2) (hv : ls[i]? = some (some (.int x))) (kk : GO X d Q pc' ls (.int x :: st) Z M o) : GO X d Q pc ls st Z M o := by
  obtain ⟨hd, rfl⟩ := hd
  intro K r M' ho H locs lsA hW hS hL hc hs
  exact lv_iload K.1 K.2.1 hd (hL.at hv) (kk K r M' ho H locs lsA hW hS hL hc hs)
theorem g_lload_n {n : Fin 4} (hd : dc d.2.1 pc pc' (.lload_n n) 1) (hv : ls[(n : Nat)]? = some (some (.long u))) (kk : GO X d Q pc' ls (.long u :: st) Z M o) : GO X d Q pc ls st Z M o := by
  obtain ⟨hd, rfl⟩ := hd
  intro K r M' ho H locs lsA hW hS hL hc hs
  exact lv_lload_n K.1 K.2.1 hd rfl (hL.at hv) (kk K r M' ho H locs lsA hW hS hL hc hs)
theorem g_lload (hd : dc d.2.1 pc pc' (.lload i) 2) (hv : ls[i]? = some (some (.long u))) (kk : GO X d Q pc' ls (.long u :: st) Z M o) : GO X d Q pc ls st Z M o := by
  obtain ⟨hd, rfl⟩ := hd
  intro K r M' ho H locs lsA hW hS hL hc hs
  exact lv_lload K.1 K.2.1 hd (hL.at hv) (kk K r M' ho H locs lsA hW hS hL hc hs)
theorem g_aload_n {n : Fin 4} (hd : dc d.2.1 pc pc' (.aload_n n) 1) (hv : ls[(n : Nat)]? = some (some (rf (kG X) k))) (kk : GO X d Q pc' ls (rf (kG X) k :: st) Z M o) : GO X d Q pc ls st Z M o := by
  obtain ⟨hd, rfl⟩ := hd
  intro K r M' ho H locs lsA hW hS hL hc hs
  exact lv_aload_n K.1 K.2.1 hd rfl (hL.at hv) (kk K r M' ho H locs lsA hW hS hL hc hs)
theorem g_aload (hd : dc d.2.1 pc pc' (.aload i) 2) (hv : ls[i]? = some (some (rf (kG X) k))) (kk : GO X d Q pc' ls (rf (kG X) k :: st) Z M o) : GO X d Q pc ls st Z M o := by
  obtain ⟨hd, rfl⟩ := hd
  intro K r M' ho H locs lsA hW hS hL hc hs
  exact lv_aload K.1 K.2.1 hd (hL.at hv) (kk K r M' ho H locs lsA hW hS hL hc hs)
theorem g_istore_n {n : Fin 4} (hd : dc d.2.1 pc pc' (.istore_n n) 1) (hn : (n : Nat) < d.2.2.1) (hg : nlo ls n = true) (kk : GO X d Q pc' (ls.set n (some (.int x))) st Z M o) : GO X d Q pc ls (.int x :: st) Z M o := by
  obtain ⟨hd, rfl⟩ := hd
  intro K r M' ho H locs lsA hW hS ⟨l, h1, h2⟩ hc hs
  exact lv_istore_n K.1 K.2.1 hd rfl h1 hn rfl (fun ls' h' => kk K r M' ho H locs ls' hW hS ⟨_, h', LV.set1 h2 hg⟩ hc hs)
theorem g_istore (hd : dc d.2.1 pc pc' (.istore i) 2) (hn : i < d.2.2.1) (hg : nlo ls i = true) (kk : GO X d Q pc' (ls.set i (some (.int x))) st Z M o) : GO X d Q pc ls (.int x :: st) Z M o := by
  obtain ⟨hd, rfl⟩ := hd
  intro K r M' ho H locs lsA hW hS ⟨l, h1, h2⟩ hc hs
  exact lv_istore K.1 K.2.1 hd h1 hn rfl (fun ls' h' => kk K r M' ho H locs ls' hW hS ⟨_, h', LV.set1 h2 hg⟩ hc hs)
theorem g_astore_n {n : Fin 4} (hd : dc d.2.1 pc pc' (.astore_n n) 1) (hn : (n : Nat) < d.2.2.1) (hg : nlo ls n = true) (kk : GO X d Q pc' (ls.set n (some (rf (kG X) k))) st Z M o) : GO X d Q pc ls (rf (kG X) k :: st) Z M o := by
  obtain ⟨hd, rfl⟩ := hd
  intro K r M' ho H locs lsA hW hS ⟨l, h1, h2⟩ hc hs
  exact lv_astore_n K.1 K.2.1 hd rfl h1 hn rfl (fun ls' h' => kk K r M' ho H locs ls' hW hS ⟨_, h', LV.set1 h2 hg⟩ hc hs)
theorem g_astore (hd : dc d.2.1 pc pc' (.astore i) 2) (hn : i < d.2.2.1) (hg : nlo ls i = true) (kk : GO X d Q pc' (ls.set i (some (rf (kG X) k))) st Z M o) : GO X d Q pc ls (rf (kG X) k :: st) Z M o := by
  obtain ⟨hd, rfl⟩ := hd
  intro K r M' ho H locs lsA hW hS ⟨l, h1, h2⟩ hc hs
  exact lv_astore K.1 K.2.1 hd h1 hn rfl (fun ls' h' => kk K r M' ho H locs ls' hW hS ⟨_, h', LV.set1 h2 hg⟩ hc hs)
theorem g_lstore_n {n : Fin 4} (hd : dc d.2.1 pc pc' (.lstore_n n) 1) (hn : (n : Nat) + 1 < d.2.2.1) (hg : nlo ls n = true) (kk : GO X d Q pc' ((ls.set n (some (.long u))).set (n + 1) none) st Z M o) : GO X d Q pc ls (.long u :: st) Z M o := by
  obtain ⟨hd, rfl⟩ := hd
  intro K r M' ho H locs lsA hW hS ⟨l, h1, h2⟩ hc hs
  exact lv_lstore_n K.1 K.2.1 hd rfl h1 hn rfl (fun ls' h' => kk K r M' ho H locs ls' hW hS ⟨_, h', LV.set2 h2 hg⟩ hc hs)
theorem g_lstore (hd : dc d.2.1 pc pc' (.lstore i) 2) (hn : i + 1 < d.2.2.1) (hg : nlo ls i = true) (kk : GO X d Q pc' ((ls.set i (some (.long u))).set (i + 1) none) st Z M o) : GO X d Q pc ls (.long u :: st) Z M o := by
  obtain ⟨hd, rfl⟩ := hd
  intro K r M' ho H locs lsA hW hS ⟨l, h1, h2⟩ hc hs
  exact lv_lstore K.1 K.2.1 hd h1 hn rfl (fun ls' h' => kk K r M' ho H locs ls' hW hS ⟨_, h', LV.set2 h2 hg⟩ hc hs)
theorem g_iinc {n : Int} (hd : dc d.2.1 pc pc' (.iinc i n) 3) (hv : ls[i]? = some (some (.int x))) (hy : x + Int32.ofInt n = y) (hn : i < d.2.2.1) (hg : nlo ls i = true) (kk : GO X d Q pc' (ls.set i (some (.int y))) st Z M o) : GO X d Q pc ls st Z M o := by
  obtain ⟨hd, rfl⟩ := hd
  intro K r M' ho H locs lsA hW hS ⟨l, h1, h2⟩ hc hs
  obtain ⟨q, hq⟩ := List.getElem?_of_mem (h2 _ _ hv)
  exact lv_iinc K.1 K.2.1 hd h1 hq hy hn rfl (fun ls' h' => kk K r M' ho H locs ls' hW hS ⟨_, h', LV.set1 h2 hg⟩ hc hs)
theorem g_iconst {n : Int} (hd : dc d.2.1 pc pc' (.iconst n) 1) (hx : Int32.ofInt n = x) (kk : GO X d Q pc' ls (.int x :: st) Z M o) : GO X d Q pc ls (st) Z M o := by
  obtain ⟨hd, rfl⟩ := hd
  intro K r M' ho H locs lsA hW hS hL hc hs
  exact lv_iconst K.1 K.2.1 hd hx (kk K r M' ho H locs lsA hW hS hL hc hs)
theorem g_bipush {n : Int} (hd : dc d.2.1 pc pc' (.bipush n) 2) (hx : (Int8.ofInt n).toInt32 = x) (kk : GO X d Q pc' ls (.int x :: st) Z M o) : GO X d Q pc ls (st) Z M o := by
  obtain ⟨hd, rfl⟩ := hd
  intro K r M' ho H locs lsA hW hS hL hc hs
  exact lv_bipush K.1 K.2.1 hd hx (kk K r M' ho H locs lsA hW hS hL hc hs)
theorem g_sipush {n : Int} (hd : dc d.2.1 pc pc' (.sipush n) 3) (hx : (Int16.ofInt n).toInt32 = x) (kk : GO X d Q pc' ls (.int x :: st) Z M o) : GO X d Q pc ls (st) Z M o := by
  obtain ⟨hd, rfl⟩ := hd
  intro K r M' ho H locs lsA hW hS hL hc hs
  exact lv_sipush K.1 K.2.1 hd hx (kk K r M' ho H locs lsA hW hS hL hc hs)
theorem g_lconst {n : Fin 2} (hd : dc d.2.1 pc pc' (.lconst n) 1) (hx : Int64.ofNat n.val = u) (kk : GO X d Q pc' ls (.long u :: st) Z M o) : GO X d Q pc ls (st) Z M o := by
  obtain ⟨hd, rfl⟩ := hd
  intro K r M' ho H locs lsA hW hS hL hc hs
  exact lv_lconst K.1 K.2.1 hd hx (kk K r M' ho H locs lsA hW hS hL hc hs)
theorem g_iadd (hd : dc d.2.1 pc pc' .iadd 1) (kk : GO X d Q pc' ls (.int (x + y) :: st) Z M o) : GO X d Q pc ls (.int y :: .int x :: st) Z M o := by
  obtain ⟨hd, rfl⟩ := hd
  intro K r M' ho H locs lsA hW hS hL hc hs
  exact lv_iadd K.1 K.2.1 hd (kk K r M' ho H locs lsA hW hS hL hc hs)
theorem g_isub (hd : dc d.2.1 pc pc' .isub 1) (kk : GO X d Q pc' ls (.int (x - y) :: st) Z M o) : GO X d Q pc ls (.int y :: .int x :: st) Z M o := by
  obtain ⟨hd, rfl⟩ := hd
  intro K r M' ho H locs lsA hW hS hL hc hs
  exact lv_isub K.1 K.2.1 hd (kk K r M' ho H locs lsA hW hS hL hc hs)
theorem g_imul (hd : dc d.2.1 pc pc' .imul 1) (kk : GO X d Q pc' ls (.int (x * y) :: st) Z M o) : GO X d Q pc ls (.int y :: .int x :: st) Z M o := by
  obtain ⟨hd, rfl⟩ := hd
  intro K r M' ho H locs lsA hW hS hL hc hs
  exact lv_imul K.1 K.2.1 hd (kk K r M' ho H locs lsA hW hS hL hc hs)
theorem g_iand (hd : dc d.2.1 pc pc' .iand 1) (kk : GO X d Q pc' ls (.int (x &&& y) :: st) Z M o) : GO X d Q pc ls (.int y :: .int x :: st) Z M o := by
  obtain ⟨hd, rfl⟩ := hd
  intro K r M' ho H locs lsA hW hS hL hc hs
  exact lv_iand K.1 K.2.1 hd (kk K r M' ho H locs lsA hW hS hL hc hs)
theorem g_ixor (hd : dc d.2.1 pc pc' .ixor 1) (kk : GO X d Q pc' ls (.int (x ^^^ y) :: st) Z M o) : GO X d Q pc ls (.int y :: .int x :: st) Z M o := by
  obtain ⟨hd, rfl⟩ := hd
  intro K r M' ho H locs lsA hW hS hL hc hs
  exact lv_ixor K.1 K.2.1 hd (kk K r M' ho H locs lsA hW hS hL hc hs)
theorem g_ishl (hd : dc d.2.1 pc pc' .ishl 1) (kk : GO X d Q pc' ls (.int (x <<< (y &&& 31)) :: st) Z M o) : GO X d Q pc ls (.int y :: .int x :: st) Z M o := by
  obtain ⟨hd, rfl⟩ := hd
  intro K r M' ho H locs lsA hW hS hL hc hs
  exact lv_ishl K.1 K.2.1 hd (kk K r M' ho H locs lsA hW hS hL hc hs)
theorem g_ishr (hd : dc d.2.1 pc pc' .ishr 1) (kk : GO X d Q pc' ls (.int (x >>> (y &&& 31)) :: st) Z M o) : GO X d Q pc ls (.int y :: .int x :: st) Z M o := by
  obtain ⟨hd, rfl⟩ := hd
  intro K r M' ho H locs lsA hW hS hL hc hs
  exact lv_ishr K.1 K.2.1 hd (kk K r M' ho H locs lsA hW hS hL hc hs)
theorem g_idiv (hd : dc d.2.1 pc pc' .idiv 1) (hne : ¬ y = 0) (kk : GO X d Q pc' ls (.int (x / y) :: st) Z M o) : GO X d Q pc ls (.int y :: .int x :: st) Z M o := by
  obtain ⟨hd, rfl⟩ := hd
  intro K r M' ho H locs lsA hW hS hL hc hs
  exact lv_idiv K.1 K.2.1 hd hne (kk K r M' ho H locs lsA hW hS hL hc hs)
theorem g_irem (hd : dc d.2.1 pc pc' .irem 1) (hne : ¬ y = 0) (kk : GO X d Q pc' ls (.int (x % y) :: st) Z M o) : GO X d Q pc ls (.int y :: .int x :: st) Z M o := by
  obtain ⟨hd, rfl⟩ := hd
  intro K r M' ho H locs lsA hW hS hL hc hs
  exact lv_irem K.1 K.2.1 hd hne (irem_eq x y ▸ kk K r M' ho H locs lsA hW hS hL hc hs)
theorem g_lmul (hd : dc d.2.1 pc pc' .lmul 1) (kk : GO X d Q pc' ls (.long (u * v) :: st) Z M o) : GO X d Q pc ls (.long v :: .long u :: st) Z M o := by
  obtain ⟨hd, rfl⟩ := hd
  intro K r M' ho H locs lsA hW hS hL hc hs
  exact lv_lmul K.1 K.2.1 hd (kk K r M' ho H locs lsA hW hS hL hc hs)
theorem g_land (hd : dc d.2.1 pc pc' .land 1) (kk : GO X d Q pc' ls (.long (u &&& v) :: st) Z M o) : GO X d Q pc ls (.long v :: .long u :: st) Z M o := by
  obtain ⟨hd, rfl⟩ := hd
  intro K r M' ho H locs lsA hW hS hL hc hs
  exact lv_land K.1 K.2.1 hd (kk K r M' ho H locs lsA hW hS hL hc hs)
theorem g_lor (hd : dc d.2.1 pc pc' .lor 1) (kk : GO X d Q pc' ls (.long (u ||| v) :: st) Z M o) : GO X d Q pc ls (.long v :: .long u :: st) Z M o := by
  obtain ⟨hd, rfl⟩ := hd
  intro K r M' ho H locs lsA hW hS hL hc hs
  exact lv_lor K.1 K.2.1 hd (kk K r M' ho H locs lsA hW hS hL hc hs)
theorem g_ldiv (hd : dc d.2.1 pc pc' .ldiv 1) (hne : ¬ v = 0) (kk : GO X d Q pc' ls (.long (u / v) :: st) Z M o) : GO X d Q pc ls (.long v :: .long u :: st) Z M o := by
  obtain ⟨hd, rfl⟩ := hd
  intro K r M' ho H locs lsA hW hS hL hc hs
  exact lv_ldiv K.1 K.2.1 hd hne (kk K r M' ho H locs lsA hW hS hL hc hs)
theorem g_lrem (hd : dc d.2.1 pc pc' .lrem 1) (hne : ¬ v = 0) (kk : GO X d Q pc' ls (.long (u % v) :: st) Z M o) : GO X d Q pc ls (.long v :: .long u :: st) Z M o := by
  obtain ⟨hd, rfl⟩ := hd
  intro K r M' ho H locs lsA hW hS hL hc hs
  exact lv_lrem K.1 K.2.1 hd hne (lrem_eq u v ▸ kk K r M' ho H locs lsA hW hS hL hc hs)
theorem g_lshl (hd : dc d.2.1 pc pc' .lshl 1) (kk : GO X d Q pc' ls (.long (u <<< (y.toInt64 &&& 63)) :: st) Z M o) : GO X d Q pc ls (.int y :: .long u :: st) Z M o := by
  obtain ⟨hd, rfl⟩ := hd
  intro K r M' ho H locs lsA hW hS hL hc hs
  exact lv_lshl K.1 K.2.1 hd rfl (kk K r M' ho H locs lsA hW hS hL hc hs)
theorem g_i2l (hd : dc d.2.1 pc pc' .i2l 1) (kk : GO X d Q pc' ls (.long x.toInt64 :: st) Z M o) : GO X d Q pc ls (.int x :: st) Z M o := by
  obtain ⟨hd, rfl⟩ := hd
  intro K r M' ho H locs lsA hW hS hL hc hs
  exact lv_i2l K.1 K.2.1 hd rfl (kk K r M' ho H locs lsA hW hS hL hc hs)
theorem g_l2i (hd : dc d.2.1 pc pc' .l2i 1) (kk : GO X d Q pc' ls (.int u.toInt32 :: st) Z M o) : GO X d Q pc ls (.long u :: st) Z M o := by
  obtain ⟨hd, rfl⟩ := hd
  intro K r M' ho H locs lsA hW hS hL hc hs
  exact lv_l2i K.1 K.2.1 hd rfl (kk K r M' ho H locs lsA hW hS hL hc hs)
theorem g_i2b (hd : dc d.2.1 pc pc' .i2b 1) (kk : GO X d Q pc' ls (.int x.toInt8.toInt32 :: st) Z M o) : GO X d Q pc ls (.int x :: st) Z M o := by
  obtain ⟨hd, rfl⟩ := hd
  intro K r M' ho H locs lsA hW hS hL hc hs
  exact lv_i2b K.1 K.2.1 hd rfl (kk K r M' ho H locs lsA hW hS hL hc hs)
theorem g_i2s (hd : dc d.2.1 pc pc' .i2s 1) (kk : GO X d Q pc' ls (.int x.toInt16.toInt32 :: st) Z M o) : GO X d Q pc ls (.int x :: st) Z M o := by
  obtain ⟨hd, rfl⟩ := hd
  intro K r M' ho H locs lsA hW hS hL hc hs
  exact lv_i2s K.1 K.2.1 hd rfl (kk K r M' ho H locs lsA hW hS hL hc hs)
theorem g_lcmp (hd : dc d.2.1 pc pc' .lcmp 1) (kk : GO X d Q pc' ls (.int (lg_cmp u v) :: st) Z M o) : GO X d Q pc ls (.long v :: .long u :: st) Z M o := by
  obtain ⟨hd, rfl⟩ := hd
  intro K r M' ho H locs lsA hW hS hL hc hs
  exact W.lcmp K.1 K.2.1 hd (kk K r M' ho H locs lsA hW hS hL hc hs)
theorem g_dup {w : Value} (hd : dc d.2.1 pc pc' .dup 1) (hw : w.category = 1) (kk : GO X d Q pc' ls (w :: w :: st) Z M o) : GO X d Q pc ls (w :: st) Z M o := by
  obtain ⟨hd, rfl⟩ := hd
  intro K r M' ho H locs lsA hW hS hL hc hs
  exact lv_dup K.1 K.2.1 hd hw (kk K r M' ho H locs lsA hW hS hL hc hs)
theorem g_pop {w : Value} (hd : dc d.2.1 pc pc' .pop 1) (hw : w.category = 1) (kk : GO X d Q pc' ls (st) Z M o) : GO X d Q pc ls (w :: st) Z M o := by
  obtain ⟨hd, rfl⟩ := hd
  intro K r M' ho H locs lsA hW hS hL hc hs
  exact lv_pop K.1 K.2.1 hd hw (kk K r M' ho H locs lsA hW hS hL hc hs)
theorem g_dup2 {w z : Value} (hd : dc d.2.1 pc pc' .dup2 1) (hw : w.category = 1) (hz : z.category = 1) (kk : GO X d Q pc' ls (w :: z :: w :: z :: st) Z M o) : GO X d Q pc ls (w :: z :: st) Z M o := by
  obtain ⟨hd, rfl⟩ := hd
  intro K r M' ho H locs lsA hW hS hL hc hs
  exact lv_dup2_11 K.1 K.2.1 hd hw hz (kk K r M' ho H locs lsA hW hS hL hc hs)
theorem g_null (hd : dc d.2.1 pc pc' .aconst_null 1) (kk : GO X d Q pc' ls (.null :: st) Z M o) : GO X d Q pc ls (st) Z M o := by
  obtain ⟨hd, rfl⟩ := hd
  intro K r M' ho H locs lsA hW hS hL hc hs
  exact lv_null K.1 K.2.1 hd (kk K r M' ho H locs lsA hW hS hL hc hs)
theorem g_ldc (hd : dc d.2.1 pc pc' (.ldc idx) 2) (hw : Cond.constant d.1 idx x ∈ gtb) (kk : GO X d Q pc' ls (.int x :: st) Z M o) : GO X d Q pc ls (st) Z M o := by
  obtain ⟨hd, rfl⟩ := hd
  intro K r M' ho H locs lsA hW hS hL hc hs
  exact lv_ldc K.1 K.2.1 K.2.2.2.2.1 (K.2.2.2.2.2.1 _ hw) hd (kk K r M' ho H locs lsA hW hS hL hc hs)
theorem g_ldc2 (hd : dc d.2.1 pc pc' (.ldc2_w idx) 3) (hw : Cond.constantLong d.1 idx u ∈ gtb) (kk : GO X d Q pc' ls (.long u :: st) Z M o) : GO X d Q pc ls (st) Z M o := by
  obtain ⟨hd, rfl⟩ := hd
  intro K r M' ho H locs lsA hW hS hL hc hs
  exact lv_ldc2 K.1 K.2.1 K.2.2.2.2.1 (K.2.2.2.2.2.1 _ hw) hd (kk K r M' ho H locs lsA hW hS hL hc hs)
theorem g_icmp_eq (hd : dj d.2.1 pc pc' tgt off (.if_icmp .eq off) 3) (kt : x = y → GO X d Q tgt ls st Z M o1) (kf : ¬ x = y → GO X d Q pc' ls st Z M o2) : GO X d Q pc ls (.int y :: .int x :: st) Z M (if x = y then o1 else o2) := by
  obtain ⟨hd, rfl, ht⟩ := hd
  intro K r M' ho H locs lsA hW hS hL hc hs
  exact lv_icmp_eq K.1 K.2.1 hd ht (fun h => kt h K r M' (by rw [if_pos h] at ho; exact ho) H locs lsA hW hS hL hc hs) (fun h => kf h K r M' (by rw [if_neg h] at ho; exact ho) H locs lsA hW hS hL hc hs)
theorem g_icmp_ne (hd : dj d.2.1 pc pc' tgt off (.if_icmp .ne off) 3) (kt : ¬ x = y → GO X d Q tgt ls st Z M o2) (kf : x = y → GO X d Q pc' ls st Z M o1) : GO X d Q pc ls (.int y :: .int x :: st) Z M (if x = y then o1 else o2) := by
  obtain ⟨hd, rfl, ht⟩ := hd
  intro K r M' ho H locs lsA hW hS hL hc hs
  exact lv_icmp_ne K.1 K.2.1 hd ht (fun h => kt h K r M' (by rw [if_neg h] at ho; exact ho) H locs lsA hW hS hL hc hs) (fun h => kf h K r M' (by rw [if_pos h] at ho; exact ho) H locs lsA hW hS hL hc hs)
theorem g_icmp_lt (hd : dj d.2.1 pc pc' tgt off (.if_icmp .lt off) 3) (kt : x < y → GO X d Q tgt ls st Z M o1) (kf : ¬ x < y → GO X d Q pc' ls st Z M o2) : GO X d Q pc ls (.int y :: .int x :: st) Z M (if x < y then o1 else o2) := by
  obtain ⟨hd, rfl, ht⟩ := hd
  intro K r M' ho H locs lsA hW hS hL hc hs
  exact lv_icmp_lt K.1 K.2.1 hd ht (fun h => kt h K r M' (by rw [if_pos h] at ho; exact ho) H locs lsA hW hS hL hc hs) (fun h => kf h K r M' (by rw [if_neg h] at ho; exact ho) H locs lsA hW hS hL hc hs)
theorem g_icmp_ge (hd : dj d.2.1 pc pc' tgt off (.if_icmp .ge off) 3) (kt : y ≤ x → GO X d Q tgt ls st Z M o1) (kf : ¬ y ≤ x → GO X d Q pc' ls st Z M o2) : GO X d Q pc ls (.int y :: .int x :: st) Z M (if y ≤ x then o1 else o2) := by
  obtain ⟨hd, rfl, ht⟩ := hd
  intro K r M' ho H locs lsA hW hS hL hc hs
  exact lv_icmp_ge K.1 K.2.1 hd ht (fun h => kt h K r M' (by rw [if_pos h] at ho; exact ho) H locs lsA hW hS hL hc hs) (fun h => kf h K r M' (by rw [if_neg h] at ho; exact ho) H locs lsA hW hS hL hc hs)
theorem g_icmp_gt (hd : dj d.2.1 pc pc' tgt off (.if_icmp .gt off) 3) (kt : y < x → GO X d Q tgt ls st Z M o1) (kf : ¬ y < x → GO X d Q pc' ls st Z M o2) : GO X d Q pc ls (.int y :: .int x :: st) Z M (if y < x then o1 else o2) := by
  obtain ⟨hd, rfl, ht⟩ := hd
  intro K r M' ho H locs lsA hW hS hL hc hs
  exact lv_icmp_gt K.1 K.2.1 hd ht (fun h => kt h K r M' (by rw [if_pos h] at ho; exact ho) H locs lsA hW hS hL hc hs) (fun h => kf h K r M' (by rw [if_neg h] at ho; exact ho) H locs lsA hW hS hL hc hs)
theorem g_icmp_le (hd : dj d.2.1 pc pc' tgt off (.if_icmp .le off) 3) (kt : x ≤ y → GO X d Q tgt ls st Z M o1) (kf : ¬ x ≤ y → GO X d Q pc' ls st Z M o2) : GO X d Q pc ls (.int y :: .int x :: st) Z M (if x ≤ y then o1 else o2) := by
  obtain ⟨hd, rfl, ht⟩ := hd
  intro K r M' ho H locs lsA hW hS hL hc hs
  exact lv_icmp_le K.1 K.2.1 hd ht (fun h => kt h K r M' (by rw [if_pos h] at ho; exact ho) H locs lsA hW hS hL hc hs) (fun h => kf h K r M' (by rw [if_neg h] at ho; exact ho) H locs lsA hW hS hL hc hs)
theorem g_if_eq (hd : dj d.2.1 pc pc' tgt off (.ifCond .eq off) 3) (kt : x = 0 → GO X d Q tgt ls st Z M o1) (kf : ¬ x = 0 → GO X d Q pc' ls st Z M o2) : GO X d Q pc ls (.int x :: st) Z M (if x = 0 then o1 else o2) := by
  obtain ⟨hd, rfl, ht⟩ := hd
  intro K r M' ho H locs lsA hW hS hL hc hs
  exact lv_if_eq K.1 K.2.1 hd ht (fun h => kt h K r M' (by rw [if_pos h] at ho; exact ho) H locs lsA hW hS hL hc hs) (fun h => kf h K r M' (by rw [if_neg h] at ho; exact ho) H locs lsA hW hS hL hc hs)
theorem g_if_ne (hd : dj d.2.1 pc pc' tgt off (.ifCond .ne off) 3) (kt : ¬ x = 0 → GO X d Q tgt ls st Z M o2) (kf : x = 0 → GO X d Q pc' ls st Z M o1) : GO X d Q pc ls (.int x :: st) Z M (if x = 0 then o1 else o2) := by
  obtain ⟨hd, rfl, ht⟩ := hd
  intro K r M' ho H locs lsA hW hS hL hc hs
  exact lv_if_ne K.1 K.2.1 hd ht (fun h => kt h K r M' (by rw [if_neg h] at ho; exact ho) H locs lsA hW hS hL hc hs) (fun h => kf h K r M' (by rw [if_pos h] at ho; exact ho) H locs lsA hW hS hL hc hs)
theorem g_if_lt (hd : dj d.2.1 pc pc' tgt off (.ifCond .lt off) 3) (kt : x < 0 → GO X d Q tgt ls st Z M o1) (kf : ¬ x < 0 → GO X d Q pc' ls st Z M o2) : GO X d Q pc ls (.int x :: st) Z M (if x < 0 then o1 else o2) := by
  obtain ⟨hd, rfl, ht⟩ := hd
  intro K r M' ho H locs lsA hW hS hL hc hs
  exact lv_if_lt K.1 K.2.1 hd ht (fun h => kt h K r M' (by rw [if_pos h] at ho; exact ho) H locs lsA hW hS hL hc hs) (fun h => kf h K r M' (by rw [if_neg h] at ho; exact ho) H locs lsA hW hS hL hc hs)
theorem g_if_ge (hd : dj d.2.1 pc pc' tgt off (.ifCond .ge off) 3) (kt : 0 ≤ x → GO X d Q tgt ls st Z M o1) (kf : ¬ 0 ≤ x → GO X d Q pc' ls st Z M o2) : GO X d Q pc ls (.int x :: st) Z M (if 0 ≤ x then o1 else o2) := by
  obtain ⟨hd, rfl, ht⟩ := hd
  intro K r M' ho H locs lsA hW hS hL hc hs
  exact lv_if_ge K.1 K.2.1 hd ht (fun h => kt h K r M' (by rw [if_pos h] at ho; exact ho) H locs lsA hW hS hL hc hs) (fun h => kf h K r M' (by rw [if_neg h] at ho; exact ho) H locs lsA hW hS hL hc hs)
theorem g_if_gt (hd : dj d.2.1 pc pc' tgt off (.ifCond .gt off) 3) (kt : 0 < x → GO X d Q tgt ls st Z M o1) (kf : ¬ 0 < x → GO X d Q pc' ls st Z M o2) : GO X d Q pc ls (.int x :: st) Z M (if 0 < x then o1 else o2) := by
  obtain ⟨hd, rfl, ht⟩ := hd
  intro K r M' ho H locs lsA hW hS hL hc hs
  exact lv_if_gt K.1 K.2.1 hd ht (fun h => kt h K r M' (by rw [if_pos h] at ho; exact ho) H locs lsA hW hS hL hc hs) (fun h => kf h K r M' (by rw [if_neg h] at ho; exact ho) H locs lsA hW hS hL hc hs)
theorem g_if_le (hd : dj d.2.1 pc pc' tgt off (.ifCond .le off) 3) (kt : x ≤ 0 → GO X d Q tgt ls st Z M o1) (kf : ¬ x ≤ 0 → GO X d Q pc' ls st Z M o2) : GO X d Q pc ls (.int x :: st) Z M (if x ≤ 0 then o1 else o2) := by
  obtain ⟨hd, rfl, ht⟩ := hd
  intro K r M' ho H locs lsA hW hS hL hc hs
  exact lv_if_le K.1 K.2.1 hd ht (fun h => kt h K r M' (by rw [if_pos h] at ho; exact ho) H locs lsA hW hS hL hc hs) (fun h => kf h K r M' (by rw [if_neg h] at ho; exact ho) H locs lsA hW hS hL hc hs)
theorem g_goto (hd : dj d.2.1 pc pc' tgt off (.goto off) 3) (kk : GO X d Q tgt ls st Z M o) : GO X d Q pc ls st Z M o := by
  obtain ⟨hd, rfl, ht⟩ := hd
  intro K r M' ho H locs lsA hW hS hL hc hs
  exact lv_goto K.1 K.2.1 hd ht (kk K r M' ho H locs lsA hW hS hL hc hs)
theorem g_ifnull (hd : dj d.2.1 pc pc' tgt off (.ifnull off) 3) (kk : GO X d Q pc' ls st Z M o) : GO X d Q pc ls (rf (kG X) k :: st) Z M o := by
  obtain ⟨hd, rfl, ht⟩ := hd
  intro K r M' ho H locs lsA hW hS hL hc hs
  exact lv_ifnull K.1 K.2.1 hd (kk K r M' ho H locs lsA hW hS hL hc hs)
theorem g_ifnullN (hd : dj d.2.1 pc pc' tgt off (.ifnull off) 3) (kk : GO X d Q tgt ls st Z M o) : GO X d Q pc ls (.null :: st) Z M o := by
  obtain ⟨hd, rfl, ht⟩ := hd
  intro K r M' ho H locs lsA hW hS hL hc hs
  exact lv_ifnullN K.1 K.2.1 hd ht (kk K r M' ho H locs lsA hW hS hL hc hs)
theorem g_ifnonnull (hd : dj d.2.1 pc pc' tgt off (.ifnonnull off) 3) (kk : GO X d Q tgt ls st Z M o) : GO X d Q pc ls (rf (kG X) k :: st) Z M o := by
  obtain ⟨hd, rfl, ht⟩ := hd
  intro K r M' ho H locs lsA hW hS hL hc hs
  exact lv_ifnonnull K.1 K.2.1 hd ht (kk K r M' ho H locs lsA hW hS hL hc hs)
theorem g_ifnonnullN (hd : dj d.2.1 pc pc' tgt off (.ifnonnull off) 3) (kk : GO X d Q pc' ls st Z M o) : GO X d Q pc ls (.null :: st) Z M o := by
  obtain ⟨hd, rfl, ht⟩ := hd
  intro K r M' ho H locs lsA hW hS hL hc hs
  exact lv_ifnonnullN K.1 K.2.1 hd (kk K r M' ho H locs lsA hW hS hL hc hs)
theorem g_tswI {dflt lo hi : Int} {offs : Array Int} {len : Nat} (hd : decode d.2.1 pc = .ok (.tableswitch dflt lo hi offs, len)) (c : Int32) (hx : x = c) (h : ¬ c.toInt < lo ∧ ¬ hi < c.toInt ∧ offs[(c.toInt - lo).toNat]? = some off ∧ (pc : Int) + off = (tgt : Int)) (kk : GO X d Q tgt ls st Z M o) : GO X d Q pc ls (.int x :: st) Z M o := by
  subst hx
  intro K r M' ho H locs lsA hW hS hL hc hs
  exact lv_tableIn K.1 K.2.1 hd h.1 h.2.1 h.2.2.1 h.2.2.2 (kk K r M' ho H locs lsA hW hS hL hc hs)
theorem g_tswO {dflt lo hi : Int} {offs : Array Int} {len : Nat} (hd : decode d.2.1 pc = .ok (.tableswitch dflt lo hi offs, len)) (ht : (pc : Int) + dflt = (tgt : Int)) (h : x.toInt < lo ∨ hi < x.toInt) (kk : GO X d Q tgt ls st Z M o) : GO X d Q pc ls (.int x :: st) Z M o := by
  intro K r M' ho H locs lsA hW hS hL hc hs
  exact lv_tableOut K.1 K.2.1 hd h ht (kk K r M' ho H locs lsA hW hS hL hc hs)
theorem g_lsw {dflt : Int} {ps : Array (Int × Int)} {len : Nat} (hd : decode d.2.1 pc = .ok (.lookupswitch dflt ps, len)) (hp : (ps.toList.zip (ps.toList.drop 1)).all (fun (a, next) => a.1 < next.1) = true) (ho' : Op.lookupswitch.offset ps.toList dflt x.toInt = off) (ht : (pc : Int) + off = (tgt : Int)) (kk : GO X d Q tgt ls st Z M o) : GO X d Q pc ls (.int x :: st) Z M o := by
  intro K r M' ho H locs lsA hW hS hL hc hs
  exact lv_lookup K.1 K.2.1 hd hp ho' ht (kk K r M' ho H locs lsA hW hS hL hc hs)
theorem sw_out {lo hi : Int} {x : Int32} (h : ∀ c : Int, lo ≤ c → c ≤ hi → ¬ x = Int32.ofInt c) : x.toInt < lo ∨ hi < x.toInt := by
  by_cases h1 : x.toInt < lo
  · exact Or.inl h1
  · by_cases h2 : hi < x.toInt
    · exact Or.inr h2
    · exact absurd (by simp) (h x.toInt (by omega) (by omega))
end RULES
