/-! ===== the little machine: a value is an int, a long, null, a cell of the world (by its number) or one outside (by its name); the world is a list of shapes and what each place holds ===== -/
abbrev dt_MV : Type := Int ⊕ (Int ⊕ Option (Nat ⊕ Nat))
abbrev dt_I (x : Int) : dt_MV := .inl x
abbrev dt_L (x : Int) : dt_MV := .inr (.inl x)
abbrev dt_R (n : Nat) : dt_MV := .inr (.inr (some (.inl n)))
abbrev dt_S (n : Nat) : dt_MV := .inr (.inr (some (.inr n)))
abbrev dt_N : dt_MV := .inr (.inr none)
/-- an object: its class, its fields' tags (0 int, 1 long, 2 a cell that may change (below 0: null), 3 null, n + 4 the cell n); an array: 0 of ints, 1 of booleans, its length -/
abbrev dt_Shp : Type := (Nat × List Nat) ⊕ (Nat × Nat)
abbrev dt_Mem : Type := Nat → Nat → Int
abbrev dt_MD : Type := MethodName × ByteArray × Nat × Option FieldType
def dt_tr (B : Nat) (S : Nat → Nat) : dt_MV → Value
  | .inl x => .int (Int32.ofInt x)
  | .inr (.inl x) => .long (Int64.ofInt x)
  | .inr (.inr none) => .null
  | .inr (.inr (some (.inl n))) => .ref (B + n)
  | .inr (.inr (some (.inr n))) => .ref (S n)
def dt_rd (t : Nat) (x : Int) : dt_MV := match t with
  | 0 => dt_I x
  | 1 => dt_L x
  | 2 => if x < 0 then dt_N else dt_R x.toNat
  | 3 => dt_N
  | n + 4 => dt_R n
def dt_fl (B : Nat) (S : Nat → Nat) (f : Nat → Int) (tags : List Nat) : List Value := tags.mapIdx (fun k t => dt_tr B S (dt_rd t (f k)))
def dt_cell (B : Nat) (S : Nat → Nat) (dA : Nat → ClassId) (x : dt_Shp) (f : Nat → Int) : va_E := match x with
  | .inl o => .inr (o.1, dt_fl B S f o.2)
  | .inr a => .inl (dA a.1, a.2, .inl (fun j => Int32.ofInt (f j)))
def dt_ws (B : Nat) (S : Nat → Nat) (dA : Nat → ClassId) (sh : List dt_Shp) (σ : dt_Mem) : va_W := sh.mapIdx (fun a x => (B + a, dt_cell B S dA x (σ a)))
/-- a write -/
def dt_up (σ : dt_Mem) (a k : Nat) (v : Int) : dt_Mem := fun b j => if b = a then (if j = k then v else σ a j) else σ b j
abbrev dt_in32 (x : Int) : Prop := -2147483648 ≤ x ∧ x < 2147483648
abbrev dt_in64 (x : Int) : Prop := -9223372036854775808 ≤ x ∧ x < 9223372036854775808
def dt_wf (σ : dt_Mem) : Prop := ∀ a k, dt_in32 (σ a k)
theorem dt_wf.up {σ : dt_Mem} (h : dt_wf σ) {a k : Nat} {v : Int} (hv : dt_in32 v) : dt_wf (dt_up σ a k v) := by
  intro b j
  unfold dt_up
  split
  · split
    · exact hv
    · exact h a j
  · exact h b j
def dt_si : Nat → Nat := fun i => [39, 64, 102, 104, 106, 108, 110, 49].getD i 0
def dt_tx : Nat → String := fun i => ["tongue", "word", "plain", "count", "lent", "double", "oath", "person"].getD i ""
def dt_bt : List (List Int32) := [[116, 111, 110, 103, 117, 101], [119, 111, 114, 100], [112, 108, 97, 105, 110], [99, 111, 117, 110, 116], [108, 101, 110, 116], [100, 111, 117, 98, 108, 101], [111, 97, 116, 104], [112, 101, 114, 115, 111, 110]]
def dt_ln : List Nat := [6, 4, 5, 5, 4, 6, 4, 6]
def dt_cst : List (String × String) := [("DayTongues$CountingWord", "DayTongues$PlainWord"), ("DayTongues$LentWord", "DayTongues$PlainWord"), ("DayTongues$LentWord", "DayTongues$CountingWord"), ("DayTongues$OathWord", "DayTongues$DoubleWord")]
def dt_wds : List String := ["DayTongues$Word", "DayTongues$PlainWord", "DayTongues$CountingWord", "DayTongues$LentWord", "DayTongues$DoubleWord", "DayTongues$OathWord"]
/-- pairs of kinds of words, the first no such one -/
def dt_nct : List (String × String) := (dt_wds.flatMap fun a => dt_wds.map fun b => (a, b)).filter fun q => !(q.2 == "DayTongues$Word") && !(q.1 == q.2) && !(dt_cst.contains q)
/-- what is known of all that lies outside the world: String constants, statics, which classes are which -/
def dt_GK (S : Nat → Nat) (B : Nat) (U : State) (H : Heap) : Prop :=
  vk_S 8 dt_ln dt_bt (fun i => S (2 * i)) (fun i => S (2 * i + 1)) (fun q => B ≤ q) U H ∧
  (∀ i : Nat, i < 8 → vk_R "DayTongues$Tape" (dt_si i) (dt_tx i) (S (2 * i)) U) ∧
  va_Z "java/lang/String" "COMPACT_STRINGS" "Z" (.int 1) (fun q => B ≤ q) U H ∧
  (∃ r : Option Nat, va_Z "jdk/internal/util/Preconditions" "SIOOBE_FORMATTER" "Ljava/util/function/BiFunction;" (va_rf r) (fun q => B ≤ q) U H ∧ (r = none ∨ r = some (S 16))) ∧
  (∀ q ∈ dt_cst, va_Nw (.castable q.1 q.2) U) ∧ (∀ q ∈ dt_nct, va_Nc q.1 q.2 U)
theorem dt_GK.moved {S : Nat → Nat} {B : Nat} {s U : State} {H H1 : Heap} (hW : s.WarmedH U.vm) (h : dt_GK S B s H) (hq : ∀ a : Nat, a < H.size → ¬ B ≤ a → H1[a]? = H[a]?) : dt_GK S B U H1 := by
  obtain ⟨h1, h2, h3, ⟨r, h4, h4r⟩, h5, h6⟩ := h
  exact ⟨(vk_S.moved hW.alike h1).kept hq, fun i hi => (h2 i hi).warm hW, (va_Z.moved hW.alike h3).kept hq, ⟨r, (va_Z.moved hW.alike h4).kept hq, h4r⟩, fun q hq => va_Nw.warmC hW (h5 q hq), fun q hq => va_Nc.moved hW.alike (h6 q hq)⟩
theorem dt_GK.same {S : Nat → Nat} {B : Nat} {s U : State} {H : Heap} (hv : U.vm = s.vm) (h : dt_GK S B s H) : dt_GK S B U H := by
  obtain ⟨h1, h2, h3, ⟨r, h4, h4r⟩, h5, h6⟩ := h
  have hA : s.vm.Alike U.vm := by rw [hv]; exact Vm.Alike.refl _
  exact ⟨vk_S.moved hA h1, fun i hi => vk_R.same hv (h2 i hi), va_Z.moved hA h3, ⟨r, va_Z.moved hA h4, h4r⟩, fun q hq => va_tabs rfl hv.symm (h5 q hq), fun q hq => va_Nc.moved hA (h6 q hq)⟩
/-- what stands fixed while a method runs -/
def dt_Fix (M : dt_MD) (p : Program) (s : State) (m : MethodId) (args : Array Value) (meth : Method) (c : Code) (D : va_G) (dA : Nat → ClassId) (S : Nat → Nat) (B : Nat) : Prop :=
  p.tables.exec = Jvm.exec ∧ c.code = M.2.1 ∧ c.maxLocals = M.2.2.1 ∧ meth.sig.returnType = M.2.2.2 ∧ s.vm.findClass M.1.cls = some m.cls ∧ meth.name = M.1.name ∧ (∀ w ∈ dt_tbl, w.before args s = true) ∧ meth.locks = false ∧ va_K D dt_cls [(dA 0, .int), (dA 1, .boolean)] s ∧ dt_GK S B s s.heap ∧ B ≤ s.heap.size
def dt_lv (B : Nat) (S : Nat → Nat) (lsA : Array Slot) (nL : Nat) (ls : List (Option dt_MV)) : Prop := lsA.size = nL ∧ lv_wf lsA ∧ ∀ (i : Nat) (v : dt_MV), ls[i]? = some (some v) → lsA[i]? = some (.val (dt_tr B S v))
/-- the context of a walk: which launch, state, arguments, and to what end -/
abbrev dt_Cx : Type := Launch → State → MethodId → Array Value → List Frame → va_G → (Nat → ClassId) → (Nat → Nat) → Nat → (State → Prop) → Prop
def dt_Rep (B : Nat) (S : Nat → Nat) (D : va_G) (dA : Nat → ClassId) (sh : List dt_Shp) (σ : dt_Mem) (H : Heap) : Prop := dt_wf σ ∧ H.size = B + sh.length ∧ va_P D dt_cls (dt_ws B S dA sh σ) H
/-- the walk from here: pc, locals, stack, world -/
def dt_V (M : dt_MD) (R : Room) (C : dt_Cx) (kc ks : Nat) (pc : Nat) (ls : List (Option dt_MV)) (st : List dt_MV) (sh : List dt_Shp) (σ : dt_Mem) : Prop :=
  ∀ (p : Program) (l : Launch) (e : Env) (s : State) (m : MethodId) (args : Array Value) (below : List Frame) (meth : Method) (c : Code) (D : va_G) (dA : Nat → ClassId) (S : Nat → Nat) (B : Nat) (H : Heap) (locs : List Loc) (lsA : Array Slot) (Z : State → Prop),
    dt_Fix M p s m args meth c D dA S B → C l s m args below D dA S B Z → dt_Rep B S D dA sh σ H → va_S (fun q => B ≤ q) s.heap H locs → dt_lv B S lsA M.2.2.1 ls →
    W p l e R s m args below meth c H locs kc ks Z (F0 m pc lsA (st.map (dt_tr B S)))
/-- what a method's end says -/
def dt_Qc (Q : Option dt_MV → List dt_Shp → dt_Mem → Prop) (D : va_G) (dA : Nat → ClassId) (S : Nat → Nat) (B : Nat) : Array Value → State → Outcome → State → Prop := fun _ st o t =>
  (∃ (v : Option dt_MV) (sh : List dt_Shp) (σ : dt_Mem), o = .returned (v.map (dt_tr B S)) ∧ Q v sh σ ∧ dt_Rep B S D dA sh σ t.heap) ∧ va_F (fun q => B ≤ q) st t
def dt_MC (Q : Option dt_MV → List dt_Shp → dt_Mem → Prop) (mc ms : Nat) : dt_Cx := fun _ s _ args below D dA S B Z => Z = MQ below (dt_Qc Q D dA S B) args s mc ms (fun q => B ≤ q)
def dt_rm (d mc ms : Nat) : Room := { frames := d, cells := mc, slots := ms, locals := 40 * d }
/-- a method's contract: from arguments and a world, to what -/
def dt_Sp (M : dt_MD) (d mc ms : Nat) (av : List dt_MV) (sh : List dt_Shp) (σ : dt_Mem) (Q : Option dt_MV → List dt_Shp → dt_Mem → Prop) : Prop :=
  ∀ (l : Launch) (D : va_G) (dA : Nat → ClassId) (S : Nat → Nat) (B : Nat),
    Met l M.1 (.code M.1 M.2.1 M.2.2.1 M.2.2.2 :: dt_tbl) (dt_rm d mc ms) (va_Pc (av.map (dt_tr B S)) (fun U => dt_Rep B S D dA sh σ U.heap ∧ va_K D dt_cls [(dA 0, .int), (dA 1, .boolean)] U ∧ dt_GK S B U U.heap)) (dt_Qc Q D dA S B) mc ms (fun q => B ≤ q)
/-! worlds -/
theorem dt_ws_at {B : Nat} {S : Nat → Nat} {dA : Nat → ClassId} {sh : List dt_Shp} {σ : dt_Mem} {a : Nat} {x : dt_Shp} (h : sh[a]? = some x) : (dt_ws B S dA sh σ)[a]? = some (B + a, dt_cell B S dA x (σ a)) := by
  simp [dt_ws, h]
theorem dt_ws_len {B : Nat} {S : Nat → Nat} {dA : Nat → ClassId} {sh : List dt_Shp} {σ : dt_Mem} : (dt_ws B S dA sh σ).length = sh.length := by
  simp [dt_ws]
theorem dt_ws_D {B : Nat} {S : Nat → Nat} {dA : Nat → ClassId} {sh : List dt_Shp} {σ : dt_Mem} : va_D (fun q => B ≤ q) (dt_ws B S dA sh σ) := by
  have key : ∀ (k : Nat) (q : Nat × va_E), (dt_ws B S dA sh σ)[k]? = some q → q.1 = B + k := by
    intro k q hk
    simp only [dt_ws, List.getElem?_mapIdx, Option.map_eq_some_iff] at hk
    obtain ⟨x, -, rfl⟩ := hk
    rfl
  refine ⟨fun i j p q hi hj hpq => ?_, fun k q hk => ?_⟩
  · rw [key i p hi, key j q hj] at hpq
    omega
  · show B ≤ q.1
    rw [key k q hk]
    omega
theorem dt_fl_at {B : Nat} {S : Nat → Nat} {f : Nat → Int} {tags : List Nat} {k t : Nat} (h : tags[k]? = some t) : (dt_fl B S f tags)[k]? = some (dt_tr B S (dt_rd t (f k))) := by
  simp [dt_fl, h]
theorem dt_fl_len {B : Nat} {S : Nat → Nat} {f : Nat → Int} {tags : List Nat} : (dt_fl B S f tags).length = tags.length := by
  simp [dt_fl]
theorem dt_ext {l l' : List (Nat × va_E)} (h : ∀ i : Nat, l[i]? = l'[i]?) : l = l' := List.ext_getElem? h
/-- a cell's new content, in the list of cells -/
theorem dt_ws_set {B : Nat} {S : Nat → Nat} {dA : Nat → ClassId} {sh sh' : List dt_Shp} {σ σ' : dt_Mem} {a : Nat} {x : dt_Shp} (hx : a < sh.length) (hs : sh' = sh.set a x) (ho : ∀ b, b ≠ a → σ' b = σ b) :
    (dt_ws B S dA sh σ).set a (B + a, dt_cell B S dA x (σ' a)) = dt_ws B S dA sh' σ' := by
  subst hs
  refine dt_ext fun i => ?_
  by_cases hi : i = a
  · subst hi
    simp [dt_ws, hx]
  · rw [List.getElem?_set_ne (Ne.symm hi)]
    simp only [dt_ws, List.getElem?_mapIdx, List.getElem?_set_ne (Ne.symm hi)]
    rw [ho i hi]
theorem dt_fl_set {B : Nat} {S : Nat → Nat} {f f' : Nat → Int} {tags : List Nat} {k t : Nat} {v : Value} (hk : k < tags.length) (hv : v = dt_tr B S (dt_rd t (f' k))) (ho : ∀ j, j ≠ k → f' j = f j) :
    (dt_fl B S f tags).set k v = dt_fl B S f' (tags.set k t) := by
  subst hv
  refine List.ext_getElem? fun i => ?_
  by_cases hi : i = k
  · subst hi
    simp [dt_fl, hk]
  · rw [List.getElem?_set_ne (Ne.symm hi)]
    simp only [dt_fl, List.getElem?_mapIdx, List.getElem?_set_ne (Ne.symm hi)]
    rw [ho i hi]
theorem dt_set_self {α : Type} {l : List α} {a : Nat} {x : α} (h : l[a]? = some x) : l.set a x = l := by
  refine List.ext_getElem? fun i => ?_
  by_cases hi : i = a
  · subst hi
    have hl := (List.getElem?_eq_some_iff.mp h).1
    rw [List.getElem?_set_self hl, h]
  · rw [List.getElem?_set_ne (Ne.symm hi)]
/-! numbers -/
theorem dt_lt {x y : Int} (hx : dt_in32 x) (hy : dt_in32 y) : Int32.ofInt x < Int32.ofInt y ↔ x < y := by
  rw [Int32.lt_iff_toInt_lt, Int32.toInt_ofInt_of_le hx.1 hx.2, Int32.toInt_ofInt_of_le hy.1 hy.2]
theorem dt_le {x y : Int} (hx : dt_in32 x) (hy : dt_in32 y) : Int32.ofInt x ≤ Int32.ofInt y ↔ x ≤ y := by
  rw [Int32.le_iff_toInt_le, Int32.toInt_ofInt_of_le hx.1 hx.2, Int32.toInt_ofInt_of_le hy.1 hy.2]
theorem dt_eq {x y : Int} (hx : dt_in32 x) (hy : dt_in32 y) : Int32.ofInt x = Int32.ofInt y ↔ x = y := by
  rw [← Int32.toInt_inj, Int32.toInt_ofInt_of_le hx.1 hx.2, Int32.toInt_ofInt_of_le hy.1 hy.2]
theorem dt_toInt {x : Int} (hx : dt_in32 x) : (Int32.ofInt x).toInt = x := Int32.toInt_ofInt_of_le hx.1 hx.2
theorem dt_vpin {i : Int} {n : Nat} (hi : dt_in32 i) (h0 : 0 ≤ i) (h1 : i < n) : vp_in (Int32.ofInt i) n := by
  rw [vp_in_iff, dt_toInt hi]
  exact ⟨h0, h1⟩
theorem dt_cl {i : Int} (hi : dt_in32 i) : (Int32.ofInt i).toNatClampNeg = i.toNat := by
  show (Int32.ofInt i).toInt.toNat = _
  rw [dt_toInt hi]
theorem dt_0 : (0 : Int32) = Int32.ofInt 0 := by decide
theorem dt_z : dt_in32 0 := by decide

