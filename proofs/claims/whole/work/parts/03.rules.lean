section DTR
variable {M : dt_MD} {R : Room} {C : dt_Cx} {kc ks pc : Nat} {ls : List (Option dt_MV)} {st : List dt_MV} {sh : List dt_Shp} {σ : dt_Mem}
/-! integer operations that have no plain words -/
def dj_and (x y : Int) : Int := (Int32.ofInt x &&& Int32.ofInt y).toInt
def dj_or (x y : Int) : Int := (Int32.ofInt x ||| Int32.ofInt y).toInt
def dj_xor (x y : Int) : Int := (Int32.ofInt x ^^^ Int32.ofInt y).toInt
def dj_shl (x y : Int) : Int := (Int32.ofInt x <<< (Int32.ofInt y &&& 31)).toInt
def dj_shr (x y : Int) : Int := (Int32.ofInt x >>> (Int32.ofInt y &&& 31)).toInt
def dj_ushr (x y : Int) : Int := ((Int32.ofInt x).toUInt32 >>> ((Int32.ofInt y).toUInt32 &&& Int32.toUInt32 31)).toInt32.toInt
def dj_rem (x y : Int) : Int := (Int32.ofInt x - Int32.ofInt x / Int32.ofInt y * Int32.ofInt y).toInt
def dj_i2b (x : Int) : Int := (Int32.ofInt x).toInt8.toInt32.toInt
def dj_i2s (x : Int) : Int := (Int32.ofInt x).toInt16.toInt32.toInt
def dj_i2c (x : Int) : Int := ((Int32.ofInt x).toUInt32 % 65536).toInt32.toInt
def dj_land (x y : Int) : Int := (Int64.ofInt x &&& Int64.ofInt y).toInt
def dj_lor (x y : Int) : Int := (Int64.ofInt x ||| Int64.ofInt y).toInt
def dj_lshl (x y : Int) : Int := (Int64.ofInt x <<< ((Int32.ofInt y).toInt64 &&& 63)).toInt
def dj_lshr (x y : Int) : Int := (Int64.ofInt x >>> ((Int32.ofInt y).toInt64 &&& 63)).toInt
def dj_lrem (x y : Int) : Int := (Int64.ofInt x - Int64.ofInt x / Int64.ofInt y * Int64.ofInt y).toInt
def dj_cmp (x y : Int) : Int := if y < x then 1 else if x = y then 0 else -1
theorem dt_cmp_eq {x y : Int} (hx : dt_in64 x) (hy : dt_in64 y) : lg_cmp (Int64.ofInt x) (Int64.ofInt y) = Int32.ofInt (dj_cmp x y) := by
  have ex : (Int64.ofInt x).toInt = x := Int64.toInt_ofInt_of_le hx.1 hx.2
  have ey : (Int64.ofInt y).toInt = y := Int64.toInt_ofInt_of_le hy.1 hy.2
  unfold lg_cmp dj_cmp
  simp only [gt_iff_lt, Int64.lt_iff_toInt_lt, ← Int64.toInt_inj, ex, ey]
  split
  · rfl
  · split <;> rfl
theorem dt_i2l_eq {x : Int} (hx : dt_in32 x) : (Int32.ofInt x).toInt64 = Int64.ofInt x := by
  apply Int64.toInt_inj.mp
  rw [Int32.toInt_toInt64, dt_toInt hx, Int64.toInt_ofInt_of_le (by have := hx.1; omega) (by have := hx.2; omega)]
/-! locals -/
def dt_nol (ls : List (Option dt_MV)) (i : Nat) : Bool := match i with
  | 0 => true
  | j + 1 => match ls[j]? with
    | some (some (.inr (.inl _))) => false
    | _ => true
def dt_prs (B : Nat) (S : Nat → Nat) (ls : List (Option dt_MV)) : List (Nat × Value) := (List.range ls.length).filterMap fun i => match ls[i]? with
  | some (some v) => some (i, dt_tr B S v)
  | _ => none
theorem dt_prs_in {B : Nat} {S : Nat → Nat} {ls : List (Option dt_MV)} {i : Nat} {v : dt_MV} (h : ls[i]? = some (some v)) : (i, dt_tr B S v) ∈ dt_prs B S ls := by
  have hl := (List.getElem?_eq_some_iff.mp h).1
  exact List.mem_filterMap.mpr ⟨i, List.mem_range.mpr hl, by simp only [h]⟩
theorem dt_lv.has {B : Nat} {S : Nat → Nat} {lsA : Array Slot} {nL : Nat} {ls : List (Option dt_MV)} (L : dt_lv B S lsA nL ls) : lv_has lsA nL (dt_prs B S ls) := by
  refine ⟨L.1, L.2.1, fun q hq => ?_⟩
  obtain ⟨i, -, hi⟩ := List.mem_filterMap.mp hq
  cases hv : ls[i]? with
  | none => rw [hv] at hi; cases hi
  | some o =>
    rw [hv] at hi
    cases o with
    | none => cases hi
    | some v =>
      cases hi
      exact L.2.2 i v hv
theorem dt_cat2 {B : Nat} {S : Nat → Nat} {v : dt_MV} (h : (dt_tr B S v).category = 2) : ∃ x, v = dt_L x := by
  rcases v with x | x | x
  · cases h
  · exact ⟨x, rfl⟩
  · rcases x with _ | x | x <;> cases h
theorem dt_lv.set1 {B : Nat} {S : Nat → Nat} {lsA : Array Slot} {nL i : Nat} {ls : List (Option dt_MV)} {v : dt_MV} (hw : dt_nol ls i = true)
    (h : lv_has lsA nL ((i, dt_tr B S v) :: (dt_prs B S ls).filter (fun q => !(q.1 == i) && !(q.1 + 1 == i && q.2.category == 2)))) : dt_lv B S lsA nL (ls.set i (some v)) := by
  refine ⟨h.1, h.2.1, fun j w hj => ?_⟩
  by_cases hji : j = i
  · subst hji
    have hl : j < ls.length := by
      have := (List.getElem?_eq_some_iff.mp hj).1
      simpa using this
    rw [List.getElem?_set_self hl] at hj
    have e : v = w := Option.some.inj (Option.some.inj hj)
    rw [← e]
    exact h.2.2 (j, dt_tr B S v) List.mem_cons_self
  · rw [List.getElem?_set_ne (Ne.symm hji)] at hj
    refine h.2.2 (j, dt_tr B S w) (List.mem_cons_of_mem _ (List.mem_filter.mpr ⟨dt_prs_in hj, ?_⟩))
    simp only [Bool.and_eq_true, Bool.not_eq_true', beq_eq_false_iff_ne, ne_eq, Bool.and_eq_false_iff]
    refine ⟨hji, ?_⟩
    by_cases hc : (dt_tr B S w).category = 2
    · left
      intro e
      subst e
      obtain ⟨x, rfl⟩ := dt_cat2 hc
      simp [dt_nol, hj] at hw
    · exact Or.inr hc
theorem dt_lv.set2 {B : Nat} {S : Nat → Nat} {lsA : Array Slot} {nL i : Nat} {ls : List (Option dt_MV)} {v : dt_MV} (hw : dt_nol ls i = true)
    (h : lv_has lsA nL ((i, dt_tr B S v) :: (dt_prs B S ls).filter (fun q => !(q.1 == i) && (!(q.1 == i + 1) && !(q.1 + 1 == i && q.2.category == 2))))) : dt_lv B S lsA nL ((ls.set i (some v)).set (i + 1) none) := by
  refine ⟨h.1, h.2.1, fun j w hj => ?_⟩
  by_cases hj1 : j = i + 1
  · subst hj1
    rw [List.getElem?_set] at hj
    simp at hj
  · rw [List.getElem?_set_ne (Ne.symm hj1)] at hj
    by_cases hji : j = i
    · subst hji
      have hl : j < ls.length := by
        have := (List.getElem?_eq_some_iff.mp hj).1
        simpa using this
      rw [List.getElem?_set_self hl] at hj
      have e : v = w := Option.some.inj (Option.some.inj hj)
      rw [← e]
      exact h.2.2 (j, dt_tr B S v) List.mem_cons_self
    · rw [List.getElem?_set_ne (Ne.symm hji)] at hj
      refine h.2.2 (j, dt_tr B S w) (List.mem_cons_of_mem _ (List.mem_filter.mpr ⟨dt_prs_in hj, ?_⟩))
      simp only [Bool.and_eq_true, Bool.not_eq_true', beq_eq_false_iff_ne, ne_eq, Bool.and_eq_false_iff]
      refine ⟨hji, hj1, ?_⟩
      by_cases hc : (dt_tr B S w).category = 2
      · left
        intro e
        subst e
        obtain ⟨x, rfl⟩ := dt_cat2 hc
        simp [dt_nol, hj] at hw
      · exact Or.inr hc
/-! facts that a walk may use -/
theorem dt_wfV {st : List dt_MV} (k : dt_wf σ → dt_V M R C kc ks pc ls st sh σ) : dt_V M R C kc ks pc ls st sh σ := fun p l e s m args below meth c D dA S B H locs lsA Z F X P hS L => k P.1 p l e s m args below meth c D dA S B H locs lsA Z F X P hS L
theorem dt_wk {st : List dt_MV} {kc' ks' : Nat} (h1 : kc ≤ kc') (h2 : ks ≤ ks') (k : dt_V M R C kc' ks' pc ls st sh σ) : dt_V M R C kc ks pc ls st sh σ := fun p l e s m args below meth c D dA S B H locs lsA Z F X P hS L => W.widen h1 h2 (k p l e s m args below meth c D dA S B H locs lsA Z F X P hS L)
/-- fewer locals known -/
theorem dt_ls {st : List dt_MV} {ls' : List (Option dt_MV)} (h : ∀ (i : Nat) (v : dt_MV), ls'[i]? = some (some v) → ls[i]? = some (some v)) (k : dt_V M R C kc ks pc ls' st sh σ) : dt_V M R C kc ks pc ls st sh σ := fun p l e s m args below meth c D dA S B H locs lsA Z F X P hS L => k p l e s m args below meth c D dA S B H locs lsA Z F X P hS ⟨L.1, L.2.1, fun i v h' => L.2.2 i v (h i v h')⟩

theorem dt_iconst {n : Int} (hd : decode M.2.1 pc = .ok (.iconst n, 1)) (k : dt_V M R C kc ks (pc + 1) (ls) (dt_I n :: st) sh σ) : dt_V M R C kc ks pc ls (st) sh σ :=
  fun p l e s m args below meth c D dA S B H locs lsA Z F X P hS L => lv_iconst F.1 F.2.1 hd rfl (k p l e s m args below meth c D dA S B H locs lsA Z F X P hS L)
theorem dt_bipush {n : Int} (hd : decode M.2.1 pc = .ok (.bipush n, 2)) (hv : (Int8.ofInt n).toInt32 = Int32.ofInt n) (k : dt_V M R C kc ks (pc + 2) (ls) (dt_I n :: st) sh σ) : dt_V M R C kc ks pc ls (st) sh σ :=
  fun p l e s m args below meth c D dA S B H locs lsA Z F X P hS L => lv_bipush F.1 F.2.1 hd hv (k p l e s m args below meth c D dA S B H locs lsA Z F X P hS L)
theorem dt_sipush {n : Int} (hd : decode M.2.1 pc = .ok (.sipush n, 3)) (hv : (Int16.ofInt n).toInt32 = Int32.ofInt n) (k : dt_V M R C kc ks (pc + 3) (ls) (dt_I n :: st) sh σ) : dt_V M R C kc ks pc ls (st) sh σ :=
  fun p l e s m args below meth c D dA S B H locs lsA Z F X P hS L => lv_sipush F.1 F.2.1 hd hv (k p l e s m args below meth c D dA S B H locs lsA Z F X P hS L)
theorem dt_lconst {n : Fin 2} {x : Int} (hd : decode M.2.1 pc = .ok (.lconst n, 1)) (hv : Int64.ofNat (n : Nat) = Int64.ofInt x) (k : dt_V M R C kc ks (pc + 1) (ls) (dt_L x :: st) sh σ) : dt_V M R C kc ks pc ls (st) sh σ :=
  fun p l e s m args below meth c D dA S B H locs lsA Z F X P hS L => lv_lconst F.1 F.2.1 hd hv (k p l e s m args below meth c D dA S B H locs lsA Z F X P hS L)
theorem dt_ldc {idx : Nat} {x : Int} (hd : decode M.2.1 pc = .ok (.ldc idx, 2)) (hm : Cond.constant M.1.cls idx (Int32.ofInt x) ∈ dt_tbl) (k : dt_V M R C kc ks (pc + 2) (ls) (dt_I x :: st) sh σ) : dt_V M R C kc ks pc ls (st) sh σ :=
  fun p l e s m args below meth c D dA S B H locs lsA Z F X P hS L => lv_ldc F.1 F.2.1 F.2.2.2.2.1 (F.2.2.2.2.2.2.1 _ hm) hd (k p l e s m args below meth c D dA S B H locs lsA Z F X P hS L)
theorem dt_ldcw {idx : Nat} {x : Int} (hd : decode M.2.1 pc = .ok (.ldc_w idx, 3)) (hm : Cond.constant M.1.cls idx (Int32.ofInt x) ∈ dt_tbl) (k : dt_V M R C kc ks (pc + 3) (ls) (dt_I x :: st) sh σ) : dt_V M R C kc ks pc ls (st) sh σ :=
  fun p l e s m args below meth c D dA S B H locs lsA Z F X P hS L => lv_ldcw F.1 F.2.1 F.2.2.2.2.1 (F.2.2.2.2.2.2.1 _ hm) hd (k p l e s m args below meth c D dA S B H locs lsA Z F X P hS L)
theorem dt_ldc2 {idx : Nat} {x : Int} (hd : decode M.2.1 pc = .ok (.ldc2_w idx, 3)) (hm : Cond.constantLong M.1.cls idx (Int64.ofInt x) ∈ dt_tbl) (k : dt_V M R C kc ks (pc + 3) (ls) (dt_L x :: st) sh σ) : dt_V M R C kc ks pc ls (st) sh σ :=
  fun p l e s m args below meth c D dA S B H locs lsA Z F X P hS L => lv_ldc2 F.1 F.2.1 F.2.2.2.2.1 (F.2.2.2.2.2.2.1 _ hm) hd (k p l e s m args below meth c D dA S B H locs lsA Z F X P hS L)
theorem dt_ldcS {idx : Nat} (i : Nat) (hd : decode M.2.1 pc = .ok (.ldc idx, 2)) (hi : i < 8) (hc : M.1.cls = "DayTongues$Tape") (hx : idx = dt_si i) (k : dt_V M R C kc ks (pc + 2) (ls) (dt_S (2 * i) :: st) sh σ) : dt_V M R C kc ks pc ls (st) sh σ :=
  fun p l e s m args below meth c D dA S B H locs lsA Z F X P hS L => va_ldcS F.1 F.2.1 F.2.2.2.2.1 (by rw [hc, hx]; exact F.2.2.2.2.2.2.2.2.2.1.2.1 i hi) hd (k p l e s m args below meth c D dA S B H locs lsA Z F X P hS L)
theorem dt_iloadn {q : Fin 4} {i : Nat} {x : Int} (hd : decode M.2.1 pc = .ok (.iload_n q, 1)) (hi : (q : Nat) = i) (hl : ls[i]? = some (some (dt_I x))) (k : dt_V M R C kc ks (pc + 1) (ls) (dt_I x :: st) sh σ) : dt_V M R C kc ks pc ls (st) sh σ :=
  fun p l e s m args below meth c D dA S B H locs lsA Z F X P hS L => lv_iload_n F.1 F.2.1 hd hi (L.2.2 i _ hl) (k p l e s m args below meth c D dA S B H locs lsA Z F X P hS L)
theorem dt_iload {i : Nat} {x : Int} (hd : decode M.2.1 pc = .ok (.iload i, 2)) (hl : ls[i]? = some (some (dt_I x))) (k : dt_V M R C kc ks (pc + 2) (ls) (dt_I x :: st) sh σ) : dt_V M R C kc ks pc ls (st) sh σ :=
  fun p l e s m args below meth c D dA S B H locs lsA Z F X P hS L => lv_iload F.1 F.2.1 hd (L.2.2 i _ hl) (k p l e s m args below meth c D dA S B H locs lsA Z F X P hS L)
theorem dt_lloadn {q : Fin 4} {i : Nat} {x : Int} (hd : decode M.2.1 pc = .ok (.lload_n q, 1)) (hi : (q : Nat) = i) (hl : ls[i]? = some (some (dt_L x))) (k : dt_V M R C kc ks (pc + 1) (ls) (dt_L x :: st) sh σ) : dt_V M R C kc ks pc ls (st) sh σ :=
  fun p l e s m args below meth c D dA S B H locs lsA Z F X P hS L => lv_lload_n F.1 F.2.1 hd hi (L.2.2 i _ hl) (k p l e s m args below meth c D dA S B H locs lsA Z F X P hS L)
theorem dt_lload {i : Nat} {x : Int} (hd : decode M.2.1 pc = .ok (.lload i, 2)) (hl : ls[i]? = some (some (dt_L x))) (k : dt_V M R C kc ks (pc + 2) (ls) (dt_L x :: st) sh σ) : dt_V M R C kc ks pc ls (st) sh σ :=
  fun p l e s m args below meth c D dA S B H locs lsA Z F X P hS L => lv_lload F.1 F.2.1 hd (L.2.2 i _ hl) (k p l e s m args below meth c D dA S B H locs lsA Z F X P hS L)
theorem dt_aloadn {q : Fin 4} {i x : Nat} (hd : decode M.2.1 pc = .ok (.aload_n q, 1)) (hi : (q : Nat) = i) (hl : ls[i]? = some (some (dt_R x))) (k : dt_V M R C kc ks (pc + 1) (ls) (dt_R x :: st) sh σ) : dt_V M R C kc ks pc ls (st) sh σ :=
  fun p l e s m args below meth c D dA S B H locs lsA Z F X P hS L => lv_aload_n F.1 F.2.1 hd hi (L.2.2 i _ hl) (k p l e s m args below meth c D dA S B H locs lsA Z F X P hS L)
theorem dt_aload {i x : Nat} (hd : decode M.2.1 pc = .ok (.aload i, 2)) (hl : ls[i]? = some (some (dt_R x))) (k : dt_V M R C kc ks (pc + 2) (ls) (dt_R x :: st) sh σ) : dt_V M R C kc ks pc ls (st) sh σ :=
  fun p l e s m args below meth c D dA S B H locs lsA Z F X P hS L => lv_aload F.1 F.2.1 hd (L.2.2 i _ hl) (k p l e s m args below meth c D dA S B H locs lsA Z F X P hS L)
theorem dt_astoren {q : Fin 4} {i x : Nat} (hd : decode M.2.1 pc = .ok (.astore_n q, 1)) (hi : (q : Nat) = i) (hn : i < M.2.2.1) (hw : dt_nol ls i = true) (k : dt_V M R C kc ks (pc + 1) (ls.set i (some (dt_R x))) (st) sh σ) : dt_V M R C kc ks pc ls (dt_R x :: st) sh σ :=
  fun p l e s m args below meth c D dA S B H locs lsA Z F X P hS L => lv_astore_n F.1 F.2.1 hd hi L.has hn rfl (fun lsB hB => k p l e s m args below meth c D dA S B H locs lsB Z F X P hS (dt_lv.set1 hw hB))
theorem dt_astore {i x : Nat} (hd : decode M.2.1 pc = .ok (.astore i, 2)) (hn : i < M.2.2.1) (hw : dt_nol ls i = true) (k : dt_V M R C kc ks (pc + 2) (ls.set i (some (dt_R x))) (st) sh σ) : dt_V M R C kc ks pc ls (dt_R x :: st) sh σ :=
  fun p l e s m args below meth c D dA S B H locs lsA Z F X P hS L => lv_astore F.1 F.2.1 hd L.has hn rfl (fun lsB hB => k p l e s m args below meth c D dA S B H locs lsB Z F X P hS (dt_lv.set1 hw hB))
theorem dt_aloadSn {q : Fin 4} {i x : Nat} (hd : decode M.2.1 pc = .ok (.aload_n q, 1)) (hi : (q : Nat) = i) (hl : ls[i]? = some (some (dt_S x))) (k : dt_V M R C kc ks (pc + 1) (ls) (dt_S x :: st) sh σ) : dt_V M R C kc ks pc ls (st) sh σ :=
  fun p l e s m args below meth c D dA S B H locs lsA Z F X P hS L => lv_aload_n F.1 F.2.1 hd hi (L.2.2 i _ hl) (k p l e s m args below meth c D dA S B H locs lsA Z F X P hS L)
theorem dt_aloadS {i x : Nat} (hd : decode M.2.1 pc = .ok (.aload i, 2)) (hl : ls[i]? = some (some (dt_S x))) (k : dt_V M R C kc ks (pc + 2) (ls) (dt_S x :: st) sh σ) : dt_V M R C kc ks pc ls (st) sh σ :=
  fun p l e s m args below meth c D dA S B H locs lsA Z F X P hS L => lv_aload F.1 F.2.1 hd (L.2.2 i _ hl) (k p l e s m args below meth c D dA S B H locs lsA Z F X P hS L)
theorem dt_astoreSn {q : Fin 4} {i x : Nat} (hd : decode M.2.1 pc = .ok (.astore_n q, 1)) (hi : (q : Nat) = i) (hn : i < M.2.2.1) (hw : dt_nol ls i = true) (k : dt_V M R C kc ks (pc + 1) (ls.set i (some (dt_S x))) (st) sh σ) : dt_V M R C kc ks pc ls (dt_S x :: st) sh σ :=
  fun p l e s m args below meth c D dA S B H locs lsA Z F X P hS L => lv_astore_n F.1 F.2.1 hd hi L.has hn rfl (fun lsB hB => k p l e s m args below meth c D dA S B H locs lsB Z F X P hS (dt_lv.set1 hw hB))
theorem dt_astoreS {i x : Nat} (hd : decode M.2.1 pc = .ok (.astore i, 2)) (hn : i < M.2.2.1) (hw : dt_nol ls i = true) (k : dt_V M R C kc ks (pc + 2) (ls.set i (some (dt_S x))) (st) sh σ) : dt_V M R C kc ks pc ls (dt_S x :: st) sh σ :=
  fun p l e s m args below meth c D dA S B H locs lsA Z F X P hS L => lv_astore F.1 F.2.1 hd L.has hn rfl (fun lsB hB => k p l e s m args below meth c D dA S B H locs lsB Z F X P hS (dt_lv.set1 hw hB))
theorem dt_istoren {q : Fin 4} {i : Nat} {x : Int} (hd : decode M.2.1 pc = .ok (.istore_n q, 1)) (hi : (q : Nat) = i) (hn : i < M.2.2.1) (hw : dt_nol ls i = true) (k : dt_V M R C kc ks (pc + 1) (ls.set i (some (dt_I x))) (st) sh σ) : dt_V M R C kc ks pc ls (dt_I x :: st) sh σ :=
  fun p l e s m args below meth c D dA S B H locs lsA Z F X P hS L => lv_istore_n F.1 F.2.1 hd hi L.has hn rfl (fun lsB hB => k p l e s m args below meth c D dA S B H locs lsB Z F X P hS (dt_lv.set1 hw hB))
theorem dt_istore {i : Nat} {x : Int} (hd : decode M.2.1 pc = .ok (.istore i, 2)) (hn : i < M.2.2.1) (hw : dt_nol ls i = true) (k : dt_V M R C kc ks (pc + 2) (ls.set i (some (dt_I x))) (st) sh σ) : dt_V M R C kc ks pc ls (dt_I x :: st) sh σ :=
  fun p l e s m args below meth c D dA S B H locs lsA Z F X P hS L => lv_istore F.1 F.2.1 hd L.has hn rfl (fun lsB hB => k p l e s m args below meth c D dA S B H locs lsB Z F X P hS (dt_lv.set1 hw hB))
theorem dt_lstoren {q : Fin 4} {i : Nat} {x : Int} (hd : decode M.2.1 pc = .ok (.lstore_n q, 1)) (hi : (q : Nat) = i) (hn : i + 1 < M.2.2.1) (hw : dt_nol ls i = true) (k : dt_V M R C kc ks (pc + 1) ((ls.set i (some (dt_L x))).set (i + 1) none) (st) sh σ) : dt_V M R C kc ks pc ls (dt_L x :: st) sh σ :=
  fun p l e s m args below meth c D dA S B H locs lsA Z F X P hS L => lv_lstore_n F.1 F.2.1 hd hi L.has hn rfl (fun lsB hB => k p l e s m args below meth c D dA S B H locs lsB Z F X P hS (dt_lv.set2 hw hB))
theorem dt_iinc {i : Nat} {n x : Int} (hd : decode M.2.1 pc = .ok (.iinc i n, 3)) (hl : ls[i]? = some (some (dt_I x))) (hn : i < M.2.2.1) (hw : dt_nol ls i = true) (k : dt_V M R C kc ks (pc + 3) (ls.set i (some (dt_I (x + n)))) st sh σ) : dt_V M R C kc ks pc ls st sh σ := by
  intro p l e s m args below meth c D dA S B H locs lsA Z F X P hS L
  obtain ⟨j, hj⟩ := List.getElem?_of_mem (dt_prs_in (B := B) (S := S) hl)
  exact lv_iinc F.1 F.2.1 hd L.has (k := j) hj (Int32.ofInt_add x n).symm hn rfl (fun lsB hB => k p l e s m args below meth c D dA S B H locs lsB Z F X P hS (dt_lv.set1 hw hB))
theorem dt_iadd {x y : Int} (hd : decode M.2.1 pc = .ok (.iadd, 1)) (k : dt_V M R C kc ks (pc + 1) ls (dt_I (x + y) :: st) sh σ) : dt_V M R C kc ks pc ls (dt_I y :: dt_I x :: st) sh σ := by
  intro p l e s m args below meth c D dA S B H locs lsA Z F X P hS L
  have h := k p l e s m args below meth c D dA S B H locs lsA Z F X P hS L
  refine lv_iadd F.1 F.2.1 hd ?_
  rw [← Int32.ofInt_add]; exact h
theorem dt_isub {x y : Int} (hd : decode M.2.1 pc = .ok (.isub, 1)) (k : dt_V M R C kc ks (pc + 1) ls (dt_I (x - y) :: st) sh σ) : dt_V M R C kc ks pc ls (dt_I y :: dt_I x :: st) sh σ := by
  intro p l e s m args below meth c D dA S B H locs lsA Z F X P hS L
  have h := k p l e s m args below meth c D dA S B H locs lsA Z F X P hS L
  refine lv_isub F.1 F.2.1 hd ?_
  rw [← Int32.ofInt_sub]; exact h
theorem dt_imul {x y : Int} (hd : decode M.2.1 pc = .ok (.imul, 1)) (k : dt_V M R C kc ks (pc + 1) ls (dt_I (x * y) :: st) sh σ) : dt_V M R C kc ks pc ls (dt_I y :: dt_I x :: st) sh σ := by
  intro p l e s m args below meth c D dA S B H locs lsA Z F X P hS L
  have h := k p l e s m args below meth c D dA S B H locs lsA Z F X P hS L
  refine lv_imul F.1 F.2.1 hd ?_
  rw [← Int32.ofInt_mul]; exact h
theorem dt_ineg {x y : Int} (hd : decode M.2.1 pc = .ok (.ineg, 1)) (k : dt_V M R C kc ks (pc + 1) ls (dt_I (-x) :: st) sh σ) : dt_V M R C kc ks pc ls (dt_I x :: st) sh σ := by
  intro p l e s m args below meth c D dA S B H locs lsA Z F X P hS L
  have h := k p l e s m args below meth c D dA S B H locs lsA Z F X P hS L
  refine lv_ineg F.1 F.2.1 hd ?_
  rw [← Int32.ofInt_neg]; exact h
theorem dt_iand {x y : Int} (hd : decode M.2.1 pc = .ok (.iand, 1)) (k : dt_V M R C kc ks (pc + 1) ls (dt_I (dj_and x y) :: st) sh σ) : dt_V M R C kc ks pc ls (dt_I y :: dt_I x :: st) sh σ := by
  intro p l e s m args below meth c D dA S B H locs lsA Z F X P hS L
  have h := k p l e s m args below meth c D dA S B H locs lsA Z F X P hS L
  refine lv_iand F.1 F.2.1 hd ?_
  have e : dt_tr B S (dt_I (dj_and x y)) = _ := congrArg Value.int (Int32.ofInt_toInt _)
  rw [List.map_cons, e] at h
  exact h
theorem dt_ior {x y : Int} (hd : decode M.2.1 pc = .ok (.ior, 1)) (k : dt_V M R C kc ks (pc + 1) ls (dt_I (dj_or x y) :: st) sh σ) : dt_V M R C kc ks pc ls (dt_I y :: dt_I x :: st) sh σ := by
  intro p l e s m args below meth c D dA S B H locs lsA Z F X P hS L
  have h := k p l e s m args below meth c D dA S B H locs lsA Z F X P hS L
  refine lv_ior F.1 F.2.1 hd ?_
  have e : dt_tr B S (dt_I (dj_or x y)) = _ := congrArg Value.int (Int32.ofInt_toInt _)
  rw [List.map_cons, e] at h
  exact h
theorem dt_ixor {x y : Int} (hd : decode M.2.1 pc = .ok (.ixor, 1)) (k : dt_V M R C kc ks (pc + 1) ls (dt_I (dj_xor x y) :: st) sh σ) : dt_V M R C kc ks pc ls (dt_I y :: dt_I x :: st) sh σ := by
  intro p l e s m args below meth c D dA S B H locs lsA Z F X P hS L
  have h := k p l e s m args below meth c D dA S B H locs lsA Z F X P hS L
  refine lv_ixor F.1 F.2.1 hd ?_
  have e : dt_tr B S (dt_I (dj_xor x y)) = _ := congrArg Value.int (Int32.ofInt_toInt _)
  rw [List.map_cons, e] at h
  exact h
theorem dt_ishl {x y : Int} (hd : decode M.2.1 pc = .ok (.ishl, 1)) (k : dt_V M R C kc ks (pc + 1) ls (dt_I (dj_shl x y) :: st) sh σ) : dt_V M R C kc ks pc ls (dt_I y :: dt_I x :: st) sh σ := by
  intro p l e s m args below meth c D dA S B H locs lsA Z F X P hS L
  have h := k p l e s m args below meth c D dA S B H locs lsA Z F X P hS L
  refine lv_ishl F.1 F.2.1 hd ?_
  have e : dt_tr B S (dt_I (dj_shl x y)) = _ := congrArg Value.int (Int32.ofInt_toInt _)
  rw [List.map_cons, e] at h
  exact h
theorem dt_ishr {x y : Int} (hd : decode M.2.1 pc = .ok (.ishr, 1)) (k : dt_V M R C kc ks (pc + 1) ls (dt_I (dj_shr x y) :: st) sh σ) : dt_V M R C kc ks pc ls (dt_I y :: dt_I x :: st) sh σ := by
  intro p l e s m args below meth c D dA S B H locs lsA Z F X P hS L
  have h := k p l e s m args below meth c D dA S B H locs lsA Z F X P hS L
  refine lv_ishr F.1 F.2.1 hd ?_
  have e : dt_tr B S (dt_I (dj_shr x y)) = _ := congrArg Value.int (Int32.ofInt_toInt _)
  rw [List.map_cons, e] at h
  exact h
theorem dt_iushr {x y : Int} (hd : decode M.2.1 pc = .ok (.iushr, 1)) (k : dt_V M R C kc ks (pc + 1) ls (dt_I (dj_ushr x y) :: st) sh σ) : dt_V M R C kc ks pc ls (dt_I y :: dt_I x :: st) sh σ := by
  intro p l e s m args below meth c D dA S B H locs lsA Z F X P hS L
  have h := k p l e s m args below meth c D dA S B H locs lsA Z F X P hS L
  refine lv_iushr F.1 F.2.1 hd rfl ?_
  have e : dt_tr B S (dt_I (dj_ushr x y)) = _ := congrArg Value.int (Int32.ofInt_toInt _)
  rw [List.map_cons, e] at h
  exact h
theorem dt_irem {x y : Int} (hd : decode M.2.1 pc = .ok (.irem, 1)) (hy : dt_in32 y) (h0 : y ≠ 0) (k : dt_V M R C kc ks (pc + 1) ls (dt_I (dj_rem x y) :: st) sh σ) : dt_V M R C kc ks pc ls (dt_I y :: dt_I x :: st) sh σ := by
  intro p l e s m args below meth c D dA S B H locs lsA Z F X P hS L
  have h := k p l e s m args below meth c D dA S B H locs lsA Z F X P hS L
  refine lv_irem F.1 F.2.1 hd (fun q => h0 ((dt_eq hy dt_z).mp (by rw [q, dt_0]))) ?_
  have e : dt_tr B S (dt_I (dj_rem x y)) = _ := congrArg Value.int (Int32.ofInt_toInt _)
  rw [List.map_cons, e] at h
  exact h
theorem dt_i2b {x y : Int} (hd : decode M.2.1 pc = .ok (.i2b, 1)) (k : dt_V M R C kc ks (pc + 1) ls (dt_I (dj_i2b x) :: st) sh σ) : dt_V M R C kc ks pc ls (dt_I x :: st) sh σ := by
  intro p l e s m args below meth c D dA S B H locs lsA Z F X P hS L
  have h := k p l e s m args below meth c D dA S B H locs lsA Z F X P hS L
  refine lv_i2b F.1 F.2.1 hd rfl ?_
  have e : dt_tr B S (dt_I (dj_i2b x)) = _ := congrArg Value.int (Int32.ofInt_toInt _)
  rw [List.map_cons, e] at h
  exact h
theorem dt_i2s {x y : Int} (hd : decode M.2.1 pc = .ok (.i2s, 1)) (k : dt_V M R C kc ks (pc + 1) ls (dt_I (dj_i2s x) :: st) sh σ) : dt_V M R C kc ks pc ls (dt_I x :: st) sh σ := by
  intro p l e s m args below meth c D dA S B H locs lsA Z F X P hS L
  have h := k p l e s m args below meth c D dA S B H locs lsA Z F X P hS L
  refine lv_i2s F.1 F.2.1 hd rfl ?_
  have e : dt_tr B S (dt_I (dj_i2s x)) = _ := congrArg Value.int (Int32.ofInt_toInt _)
  rw [List.map_cons, e] at h
  exact h
theorem dt_i2c {x y : Int} (hd : decode M.2.1 pc = .ok (.i2c, 1)) (k : dt_V M R C kc ks (pc + 1) ls (dt_I (dj_i2c x) :: st) sh σ) : dt_V M R C kc ks pc ls (dt_I x :: st) sh σ := by
  intro p l e s m args below meth c D dA S B H locs lsA Z F X P hS L
  have h := k p l e s m args below meth c D dA S B H locs lsA Z F X P hS L
  refine lv_i2c F.1 F.2.1 hd rfl ?_
  have e : dt_tr B S (dt_I (dj_i2c x)) = _ := congrArg Value.int (Int32.ofInt_toInt _)
  rw [List.map_cons, e] at h
  exact h
theorem dt_i2l {x y : Int} (hd : decode M.2.1 pc = .ok (.i2l, 1)) (hx : dt_in32 x) (k : dt_V M R C kc ks (pc + 1) ls (dt_L x :: st) sh σ) : dt_V M R C kc ks pc ls (dt_I x :: st) sh σ := by
  intro p l e s m args below meth c D dA S B H locs lsA Z F X P hS L
  have h := k p l e s m args below meth c D dA S B H locs lsA Z F X P hS L
  refine lv_i2l F.1 F.2.1 hd (dt_i2l_eq hx) ?_
  exact h
theorem dt_l2i {x y : Int} (hd : decode M.2.1 pc = .ok (.l2i, 1)) (k : dt_V M R C kc ks (pc + 1) ls (dt_I x :: st) sh σ) : dt_V M R C kc ks pc ls (dt_L x :: st) sh σ := by
  intro p l e s m args below meth c D dA S B H locs lsA Z F X P hS L
  have h := k p l e s m args below meth c D dA S B H locs lsA Z F X P hS L
  refine lv_l2i F.1 F.2.1 hd Int64.toInt32_ofInt ?_
  exact h
theorem dt_ladd {x y : Int} (hd : decode M.2.1 pc = .ok (.ladd, 1)) (k : dt_V M R C kc ks (pc + 1) ls (dt_L (x + y) :: st) sh σ) : dt_V M R C kc ks pc ls (dt_L y :: dt_L x :: st) sh σ := by
  intro p l e s m args below meth c D dA S B H locs lsA Z F X P hS L
  have h := k p l e s m args below meth c D dA S B H locs lsA Z F X P hS L
  refine lv_ladd F.1 F.2.1 hd ?_
  rw [← Int64.ofInt_add]; exact h
theorem dt_lmul {x y : Int} (hd : decode M.2.1 pc = .ok (.lmul, 1)) (k : dt_V M R C kc ks (pc + 1) ls (dt_L (x * y) :: st) sh σ) : dt_V M R C kc ks pc ls (dt_L y :: dt_L x :: st) sh σ := by
  intro p l e s m args below meth c D dA S B H locs lsA Z F X P hS L
  have h := k p l e s m args below meth c D dA S B H locs lsA Z F X P hS L
  refine lv_lmul F.1 F.2.1 hd ?_
  rw [← Int64.ofInt_mul]; exact h
theorem dt_land {x y : Int} (hd : decode M.2.1 pc = .ok (.land, 1)) (k : dt_V M R C kc ks (pc + 1) ls (dt_L (dj_land x y) :: st) sh σ) : dt_V M R C kc ks pc ls (dt_L y :: dt_L x :: st) sh σ := by
  intro p l e s m args below meth c D dA S B H locs lsA Z F X P hS L
  have h := k p l e s m args below meth c D dA S B H locs lsA Z F X P hS L
  refine lv_land F.1 F.2.1 hd ?_
  have e : dt_tr B S (dt_L (dj_land x y)) = _ := congrArg Value.long (Int64.ofInt_toInt _)
  rw [List.map_cons, e] at h
  exact h
theorem dt_lor {x y : Int} (hd : decode M.2.1 pc = .ok (.lor, 1)) (k : dt_V M R C kc ks (pc + 1) ls (dt_L (dj_lor x y) :: st) sh σ) : dt_V M R C kc ks pc ls (dt_L y :: dt_L x :: st) sh σ := by
  intro p l e s m args below meth c D dA S B H locs lsA Z F X P hS L
  have h := k p l e s m args below meth c D dA S B H locs lsA Z F X P hS L
  refine lv_lor F.1 F.2.1 hd ?_
  have e : dt_tr B S (dt_L (dj_lor x y)) = _ := congrArg Value.long (Int64.ofInt_toInt _)
  rw [List.map_cons, e] at h
  exact h
theorem dt_lshl {x y : Int} (hd : decode M.2.1 pc = .ok (.lshl, 1)) (k : dt_V M R C kc ks (pc + 1) ls (dt_L (dj_lshl x y) :: st) sh σ) : dt_V M R C kc ks pc ls (dt_I y :: dt_L x :: st) sh σ := by
  intro p l e s m args below meth c D dA S B H locs lsA Z F X P hS L
  have h := k p l e s m args below meth c D dA S B H locs lsA Z F X P hS L
  refine lv_lshl F.1 F.2.1 hd rfl ?_
  have e : dt_tr B S (dt_L (dj_lshl x y)) = _ := congrArg Value.long (Int64.ofInt_toInt _)
  rw [List.map_cons, e] at h
  exact h
theorem dt_lshr {x y : Int} (hd : decode M.2.1 pc = .ok (.lshr, 1)) (k : dt_V M R C kc ks (pc + 1) ls (dt_L (dj_lshr x y) :: st) sh σ) : dt_V M R C kc ks pc ls (dt_I y :: dt_L x :: st) sh σ := by
  intro p l e s m args below meth c D dA S B H locs lsA Z F X P hS L
  have h := k p l e s m args below meth c D dA S B H locs lsA Z F X P hS L
  refine lv_lshr F.1 F.2.1 hd rfl ?_
  have e : dt_tr B S (dt_L (dj_lshr x y)) = _ := congrArg Value.long (Int64.ofInt_toInt _)
  rw [List.map_cons, e] at h
  exact h
theorem dt_lrem {x y : Int} (hd : decode M.2.1 pc = .ok (.lrem, 1)) (hy : dt_in64 y) (h0 : y ≠ 0) (k : dt_V M R C kc ks (pc + 1) ls (dt_L (dj_lrem x y) :: st) sh σ) : dt_V M R C kc ks pc ls (dt_L y :: dt_L x :: st) sh σ := by
  intro p l e s m args below meth c D dA S B H locs lsA Z F X P hS L
  have h := k p l e s m args below meth c D dA S B H locs lsA Z F X P hS L
  refine lv_lrem F.1 F.2.1 hd (fun q => h0 (by have e := congrArg Int64.toInt q; rw [Int64.toInt_ofInt_of_le hy.1 hy.2] at e; exact e)) ?_
  have e : dt_tr B S (dt_L (dj_lrem x y)) = _ := congrArg Value.long (Int64.ofInt_toInt _)
  rw [List.map_cons, e] at h
  exact h
theorem dt_lcmp {x y : Int} (hd : decode M.2.1 pc = .ok (.lcmp, 1)) (hx : dt_in64 x) (hy : dt_in64 y) (k : dt_V M R C kc ks (pc + 1) ls (dt_I (dj_cmp x y) :: st) sh σ) : dt_V M R C kc ks pc ls (dt_L y :: dt_L x :: st) sh σ := by
  intro p l e s m args below meth c D dA S B H locs lsA Z F X P hS L
  have h := k p l e s m args below meth c D dA S B H locs lsA Z F X P hS L
  refine W.lcmp F.1 F.2.1 hd ?_
  rw [dt_cmp_eq hx hy]; exact h
theorem dt_dupI {x : Int} (hd : decode M.2.1 pc = .ok (.dup, 1)) (k : dt_V M R C kc ks (pc + 1) (ls) (dt_I x :: dt_I x :: st) sh σ) : dt_V M R C kc ks pc ls (dt_I x :: st) sh σ :=
  fun p l e s m args below meth c D dA S B H locs lsA Z F X P hS L => lv_dup F.1 F.2.1 hd rfl (k p l e s m args below meth c D dA S B H locs lsA Z F X P hS L)
theorem dt_dupR {x : Nat} (hd : decode M.2.1 pc = .ok (.dup, 1)) (k : dt_V M R C kc ks (pc + 1) (ls) (dt_R x :: dt_R x :: st) sh σ) : dt_V M R C kc ks pc ls (dt_R x :: st) sh σ :=
  fun p l e s m args below meth c D dA S B H locs lsA Z F X P hS L => lv_dup F.1 F.2.1 hd rfl (k p l e s m args below meth c D dA S B H locs lsA Z F X P hS L)
theorem dt_dupxI {x : Int} {y : Nat} (hd : decode M.2.1 pc = .ok (.dup_x1, 1)) (k : dt_V M R C kc ks (pc + 1) (ls) (dt_I x :: dt_R y :: dt_I x :: st) sh σ) : dt_V M R C kc ks pc ls (dt_I x :: dt_R y :: st) sh σ :=
  fun p l e s m args below meth c D dA S B H locs lsA Z F X P hS L => lv_dup_x1 F.1 F.2.1 hd rfl rfl (k p l e s m args below meth c D dA S B H locs lsA Z F X P hS L)
theorem dt_dup2 {x : Int} {y : Nat} (hd : decode M.2.1 pc = .ok (.dup2, 1)) (k : dt_V M R C kc ks (pc + 1) (ls) (dt_I x :: dt_R y :: dt_I x :: dt_R y :: st) sh σ) : dt_V M R C kc ks pc ls (dt_I x :: dt_R y :: st) sh σ :=
  fun p l e s m args below meth c D dA S B H locs lsA Z F X P hS L => lv_dup2_11 F.1 F.2.1 hd rfl rfl (k p l e s m args below meth c D dA S B H locs lsA Z F X P hS L)
theorem dt_popI {x : Int} (hd : decode M.2.1 pc = .ok (.pop, 1)) (k : dt_V M R C kc ks (pc + 1) (ls) (st) sh σ) : dt_V M R C kc ks pc ls (dt_I x :: st) sh σ :=
  fun p l e s m args below meth c D dA S B H locs lsA Z F X P hS L => lv_pop F.1 F.2.1 hd rfl (k p l e s m args below meth c D dA S B H locs lsA Z F X P hS L)
theorem dt_null  (hd : decode M.2.1 pc = .ok (.aconst_null, 1)) (k : dt_V M R C kc ks (pc + 1) (ls) (dt_N :: st) sh σ) : dt_V M R C kc ks pc ls (st) sh σ :=
  fun p l e s m args below meth c D dA S B H locs lsA Z F X P hS L => lv_null F.1 F.2.1 hd  (k p l e s m args below meth c D dA S B H locs lsA Z F X P hS L)
theorem dt_if_eq {x : Int} {off : Int} {tgt : Nat} (hd : decode M.2.1 pc = .ok (.ifCond .eq off, 3)) (ht : (pc : Int) + off = (tgt : Int)) (hx : dt_in32 x) (kt : x = 0 → dt_V M R C kc ks tgt ls st sh σ) (kf : ¬ x = 0 → dt_V M R C kc ks (pc + 3) ls st sh σ) : dt_V M R C kc ks pc ls (dt_I x :: st) sh σ :=
  fun p l e s m args below meth c D dA S B H locs lsA Z F X P hS L => lv_if_eq F.1 F.2.1 hd ht (fun q => kt ((dt_eq hx dt_z).mp q) p l e s m args below meth c D dA S B H locs lsA Z F X P hS L) (fun q => kf ((fun z => q ((dt_eq hx dt_z).mpr z))) p l e s m args below meth c D dA S B H locs lsA Z F X P hS L)
theorem dt_cm_eq {x y : Int} {off : Int} {tgt : Nat} (hd : decode M.2.1 pc = .ok (.if_icmp .eq off, 3)) (ht : (pc : Int) + off = (tgt : Int)) (hx : dt_in32 x) (hy : dt_in32 y) (kt : x = y → dt_V M R C kc ks tgt ls st sh σ) (kf : ¬ x = y → dt_V M R C kc ks (pc + 3) ls st sh σ) : dt_V M R C kc ks pc ls (dt_I y :: dt_I x :: st) sh σ :=
  fun p l e s m args below meth c D dA S B H locs lsA Z F X P hS L => lv_icmp_eq F.1 F.2.1 hd ht (fun q => kt ((dt_eq hx hy).mp q) p l e s m args below meth c D dA S B H locs lsA Z F X P hS L) (fun q => kf ((fun z => q ((dt_eq hx hy).mpr z))) p l e s m args below meth c D dA S B H locs lsA Z F X P hS L)
theorem dt_if_ne {x : Int} {off : Int} {tgt : Nat} (hd : decode M.2.1 pc = .ok (.ifCond .ne off, 3)) (ht : (pc : Int) + off = (tgt : Int)) (hx : dt_in32 x) (kt : ¬ x = 0 → dt_V M R C kc ks tgt ls st sh σ) (kf : x = 0 → dt_V M R C kc ks (pc + 3) ls st sh σ) : dt_V M R C kc ks pc ls (dt_I x :: st) sh σ :=
  fun p l e s m args below meth c D dA S B H locs lsA Z F X P hS L => lv_if_ne F.1 F.2.1 hd ht (fun q => kt ((not_congr (dt_eq hx dt_z)).mp q) p l e s m args below meth c D dA S B H locs lsA Z F X P hS L) (fun q => kf ((dt_eq hx dt_z).mp q) p l e s m args below meth c D dA S B H locs lsA Z F X P hS L)
theorem dt_cm_ne {x y : Int} {off : Int} {tgt : Nat} (hd : decode M.2.1 pc = .ok (.if_icmp .ne off, 3)) (ht : (pc : Int) + off = (tgt : Int)) (hx : dt_in32 x) (hy : dt_in32 y) (kt : ¬ x = y → dt_V M R C kc ks tgt ls st sh σ) (kf : x = y → dt_V M R C kc ks (pc + 3) ls st sh σ) : dt_V M R C kc ks pc ls (dt_I y :: dt_I x :: st) sh σ :=
  fun p l e s m args below meth c D dA S B H locs lsA Z F X P hS L => lv_icmp_ne F.1 F.2.1 hd ht (fun q => kt ((not_congr (dt_eq hx hy)).mp q) p l e s m args below meth c D dA S B H locs lsA Z F X P hS L) (fun q => kf ((dt_eq hx hy).mp q) p l e s m args below meth c D dA S B H locs lsA Z F X P hS L)
theorem dt_if_lt {x : Int} {off : Int} {tgt : Nat} (hd : decode M.2.1 pc = .ok (.ifCond .lt off, 3)) (ht : (pc : Int) + off = (tgt : Int)) (hx : dt_in32 x) (kt : x < 0 → dt_V M R C kc ks tgt ls st sh σ) (kf : ¬ x < 0 → dt_V M R C kc ks (pc + 3) ls st sh σ) : dt_V M R C kc ks pc ls (dt_I x :: st) sh σ :=
  fun p l e s m args below meth c D dA S B H locs lsA Z F X P hS L => lv_if_lt F.1 F.2.1 hd ht (fun q => kt ((dt_lt hx dt_z).mp q) p l e s m args below meth c D dA S B H locs lsA Z F X P hS L) (fun q => kf ((fun z => q ((dt_lt hx dt_z).mpr z))) p l e s m args below meth c D dA S B H locs lsA Z F X P hS L)
theorem dt_cm_lt {x y : Int} {off : Int} {tgt : Nat} (hd : decode M.2.1 pc = .ok (.if_icmp .lt off, 3)) (ht : (pc : Int) + off = (tgt : Int)) (hx : dt_in32 x) (hy : dt_in32 y) (kt : x < y → dt_V M R C kc ks tgt ls st sh σ) (kf : ¬ x < y → dt_V M R C kc ks (pc + 3) ls st sh σ) : dt_V M R C kc ks pc ls (dt_I y :: dt_I x :: st) sh σ :=
  fun p l e s m args below meth c D dA S B H locs lsA Z F X P hS L => lv_icmp_lt F.1 F.2.1 hd ht (fun q => kt ((dt_lt hx hy).mp q) p l e s m args below meth c D dA S B H locs lsA Z F X P hS L) (fun q => kf ((fun z => q ((dt_lt hx hy).mpr z))) p l e s m args below meth c D dA S B H locs lsA Z F X P hS L)
theorem dt_if_ge {x : Int} {off : Int} {tgt : Nat} (hd : decode M.2.1 pc = .ok (.ifCond .ge off, 3)) (ht : (pc : Int) + off = (tgt : Int)) (hx : dt_in32 x) (kt : 0 ≤ x → dt_V M R C kc ks tgt ls st sh σ) (kf : ¬ 0 ≤ x → dt_V M R C kc ks (pc + 3) ls st sh σ) : dt_V M R C kc ks pc ls (dt_I x :: st) sh σ :=
  fun p l e s m args below meth c D dA S B H locs lsA Z F X P hS L => lv_if_ge F.1 F.2.1 hd ht (fun q => kt ((dt_le dt_z hx).mp q) p l e s m args below meth c D dA S B H locs lsA Z F X P hS L) (fun q => kf ((fun z => q ((dt_le dt_z hx).mpr z))) p l e s m args below meth c D dA S B H locs lsA Z F X P hS L)
theorem dt_cm_ge {x y : Int} {off : Int} {tgt : Nat} (hd : decode M.2.1 pc = .ok (.if_icmp .ge off, 3)) (ht : (pc : Int) + off = (tgt : Int)) (hx : dt_in32 x) (hy : dt_in32 y) (kt : y ≤ x → dt_V M R C kc ks tgt ls st sh σ) (kf : ¬ y ≤ x → dt_V M R C kc ks (pc + 3) ls st sh σ) : dt_V M R C kc ks pc ls (dt_I y :: dt_I x :: st) sh σ :=
  fun p l e s m args below meth c D dA S B H locs lsA Z F X P hS L => lv_icmp_ge F.1 F.2.1 hd ht (fun q => kt ((dt_le hy hx).mp q) p l e s m args below meth c D dA S B H locs lsA Z F X P hS L) (fun q => kf ((fun z => q ((dt_le hy hx).mpr z))) p l e s m args below meth c D dA S B H locs lsA Z F X P hS L)
theorem dt_if_gt {x : Int} {off : Int} {tgt : Nat} (hd : decode M.2.1 pc = .ok (.ifCond .gt off, 3)) (ht : (pc : Int) + off = (tgt : Int)) (hx : dt_in32 x) (kt : 0 < x → dt_V M R C kc ks tgt ls st sh σ) (kf : ¬ 0 < x → dt_V M R C kc ks (pc + 3) ls st sh σ) : dt_V M R C kc ks pc ls (dt_I x :: st) sh σ :=
  fun p l e s m args below meth c D dA S B H locs lsA Z F X P hS L => lv_if_gt F.1 F.2.1 hd ht (fun q => kt ((dt_lt dt_z hx).mp q) p l e s m args below meth c D dA S B H locs lsA Z F X P hS L) (fun q => kf ((fun z => q ((dt_lt dt_z hx).mpr z))) p l e s m args below meth c D dA S B H locs lsA Z F X P hS L)
theorem dt_cm_gt {x y : Int} {off : Int} {tgt : Nat} (hd : decode M.2.1 pc = .ok (.if_icmp .gt off, 3)) (ht : (pc : Int) + off = (tgt : Int)) (hx : dt_in32 x) (hy : dt_in32 y) (kt : y < x → dt_V M R C kc ks tgt ls st sh σ) (kf : ¬ y < x → dt_V M R C kc ks (pc + 3) ls st sh σ) : dt_V M R C kc ks pc ls (dt_I y :: dt_I x :: st) sh σ :=
  fun p l e s m args below meth c D dA S B H locs lsA Z F X P hS L => lv_icmp_gt F.1 F.2.1 hd ht (fun q => kt ((dt_lt hy hx).mp q) p l e s m args below meth c D dA S B H locs lsA Z F X P hS L) (fun q => kf ((fun z => q ((dt_lt hy hx).mpr z))) p l e s m args below meth c D dA S B H locs lsA Z F X P hS L)
theorem dt_if_le {x : Int} {off : Int} {tgt : Nat} (hd : decode M.2.1 pc = .ok (.ifCond .le off, 3)) (ht : (pc : Int) + off = (tgt : Int)) (hx : dt_in32 x) (kt : x ≤ 0 → dt_V M R C kc ks tgt ls st sh σ) (kf : ¬ x ≤ 0 → dt_V M R C kc ks (pc + 3) ls st sh σ) : dt_V M R C kc ks pc ls (dt_I x :: st) sh σ :=
  fun p l e s m args below meth c D dA S B H locs lsA Z F X P hS L => lv_if_le F.1 F.2.1 hd ht (fun q => kt ((dt_le hx dt_z).mp q) p l e s m args below meth c D dA S B H locs lsA Z F X P hS L) (fun q => kf ((fun z => q ((dt_le hx dt_z).mpr z))) p l e s m args below meth c D dA S B H locs lsA Z F X P hS L)
theorem dt_cm_le {x y : Int} {off : Int} {tgt : Nat} (hd : decode M.2.1 pc = .ok (.if_icmp .le off, 3)) (ht : (pc : Int) + off = (tgt : Int)) (hx : dt_in32 x) (hy : dt_in32 y) (kt : x ≤ y → dt_V M R C kc ks tgt ls st sh σ) (kf : ¬ x ≤ y → dt_V M R C kc ks (pc + 3) ls st sh σ) : dt_V M R C kc ks pc ls (dt_I y :: dt_I x :: st) sh σ :=
  fun p l e s m args below meth c D dA S B H locs lsA Z F X P hS L => lv_icmp_le F.1 F.2.1 hd ht (fun q => kt ((dt_le hx hy).mp q) p l e s m args below meth c D dA S B H locs lsA Z F X P hS L) (fun q => kf ((fun z => q ((dt_le hx hy).mpr z))) p l e s m args below meth c D dA S B H locs lsA Z F X P hS L)
theorem dt_goto {off : Int} {tgt : Nat} (hd : decode M.2.1 pc = .ok (.goto off, 3)) (ht : (pc : Int) + off = (tgt : Int)) (k : dt_V M R C kc ks tgt ls st sh σ) : dt_V M R C kc ks pc ls st sh σ :=
  fun p l e s m args below meth c D dA S B H locs lsA Z F X P hS L => lv_goto F.1 F.2.1 hd ht (k p l e s m args below meth c D dA S B H locs lsA Z F X P hS L)
theorem dt_nnullR {x : Nat} {off : Int} {tgt : Nat} (hd : decode M.2.1 pc = .ok (.ifnonnull off, 3)) (ht : (pc : Int) + off = (tgt : Int)) (k : dt_V M R C kc ks tgt ls st sh σ) : dt_V M R C kc ks pc ls (dt_R x :: st) sh σ :=
  fun p l e s m args below meth c D dA S B H locs lsA Z F X P hS L => lv_ifnonnull F.1 F.2.1 hd ht (k p l e s m args below meth c D dA S B H locs lsA Z F X P hS L)
theorem dt_nnullN {off : Int} (hd : decode M.2.1 pc = .ok (.ifnonnull off, 3)) (k : dt_V M R C kc ks (pc + 3) ls st sh σ) : dt_V M R C kc ks pc ls (dt_N :: st) sh σ :=
  fun p l e s m args below meth c D dA S B H locs lsA Z F X P hS L => lv_ifnonnullN F.1 F.2.1 hd (k p l e s m args below meth c D dA S B H locs lsA Z F X P hS L)
theorem dt_tblO {dflt lo hi : Int} {offs : Array Int} {len : Nat} {x : Int} {tgt : Nat} (hd : decode M.2.1 pc = .ok (.tableswitch dflt lo hi offs, len)) (hx : dt_in32 x) (h : x < lo ∨ hi < x) (ht : (pc : Int) + dflt = (tgt : Int)) (k : dt_V M R C kc ks tgt ls st sh σ) : dt_V M R C kc ks pc ls (dt_I x :: st) sh σ :=
  fun p l e s m args below meth c D dA S B H locs lsA Z F X P hS L => lv_tableOut F.1 F.2.1 hd (by rw [dt_toInt hx]; exact h) ht (k p l e s m args below meth c D dA S B H locs lsA Z F X P hS L)
theorem dt_tblI {dflt lo hi : Int} {offs : Array Int} {len : Nat} {x : Int} {off : Int} {tgt : Nat} (hd : decode M.2.1 pc = .ok (.tableswitch dflt lo hi offs, len)) (hx : dt_in32 x) (h1 : ¬ x < lo) (h2 : ¬ hi < x) (ho : offs[(x - lo).toNat]? = some off) (ht : (pc : Int) + off = (tgt : Int)) (k : dt_V M R C kc ks tgt ls st sh σ) : dt_V M R C kc ks pc ls (dt_I x :: st) sh σ :=
  fun p l e s m args below meth c D dA S B H locs lsA Z F X P hS L => lv_tableIn F.1 F.2.1 hd (by rw [dt_toInt hx]; exact h1) (by rw [dt_toInt hx]; exact h2) (by rw [dt_toInt hx]; exact ho) ht (k p l e s m args below meth c D dA S B H locs lsA Z F X P hS L)
theorem dt_vput {p : Program} {l : Launch} {e : Env} {s : State} {m : MethodId} {args : Array Value} {below : List Frame} {meth : Method} {c : Code} {H H0 : Heap} {locs : List Loc} {cells slots : Nat} {Z : State → Prop} {cc : ByteArray} {lsA : Array Slot} {rest : List Value} {D : va_G} {cl : List vw_C} {Ad : Nat → Prop} {a : Nat} {tys : List (ClassId × FieldType)} {ws : va_W} {fin : Bool}
    (hexec : p.tables.exec = Jvm.exec) (hb : c.code = cc) {own ref Cn : String} {T : u_T} {N ci index : Nat} {Ts : List Cond} (hts : ∀ w ∈ Ts, w.before args s = true) (hin : ∀ w ∈ u_ws Cn T N, w ∈ Ts) (ty0 : Nat → FieldType) (hty : ∀ k, k < N → parseFieldDescriptor (T k).2.2.1 = some (ty0 k)) (hnm : ∀ a, a < N → ∀ b, b < N → a ≠ b → (T a).2.1 ≠ (T b).2.1) (hown : s.vm.findClass own = some m.cls) (hK : va_K D cl tys s) (hP : va_P D cl ws H) (hD : va_D Ad ws) (hS0 : va_S Ad H0 H locs) (q0 : Nat) {fs : List Value} (he : ws[q0]? = some (a, .inr (ci, fs))) (hc : cl[ci]? = some (Cn, T, N)) (k : Nat) (hk : k < N) (hlink : (Cond.fieldLink own index ref (T k).2.1 (T k).2.2.1).before args s = true) (hsame : ∀ x, s.fieldFound? (T k).1 (T k).2.1 (T k).2.2.1 = some x → s.fieldFound? ref (T k).2.1 (T k).2.2.1 = some x) (hfin : (T k).2.2.2 = fin) (hfc : fin = false ∨ (meth.name = "<init>" ∧ (T k).1 = own)) {ty : FieldType} {v : Value} (hd : parseFieldDescriptor (T k).2.2.1 = some ty) (hn : narrow ty v = v) (hfit : fits ty v = true) (hl : k < fs.length)
    (hdg : decode cc pc = .ok (.putfield index, 3)) (kk : ∀ (H1 : Heap) (locs1 : List Loc), va_P D cl (ws.set q0 (a, .inr (ci, fs.set k v))) H1 → va_S Ad H0 H1 locs1 → H1.size = H.size → W p l e R s m args below meth c H1 locs1 cells slots Z (F0 m (pc + 3) lsA rest)) : W p l e R s m args below meth c H locs cells slots Z (F0 m pc lsA (v :: .ref a :: rest)) := by
  have hap := va_apart (own := own) hts hin ty0 hty hnm hK hc
  obtain ⟨r, h1, cell, q1, q2, q3, q4⟩ := hP q0 _ he
  have hr : r = (Cn, T, N) := Option.some.inj (h1.symm.trans hc)
  subst hr
  obtain ⟨hS, hfc2, kC, hkC, hkind⟩ := hK.1 ci _ hc
  obtain ⟨cf, kf, fi, f, hi, hsl⟩ := hS k hk
  have hlay := hts _ (hin _ (u_in_lay hk))
  have hst := (u_facts hfc2 hkC (u_lays hts hin hk) hi).1
  have fin2 : ∀ (H1 : Heap) (L : List Loc), H1[a]? = some (cell.setSlot f.slot v) → H1.size = H.size → (∀ q, q ≠ a → H1[q]? = H[q]?) → va_S Ad H0 H1 L → W p l e R s m args below meth c H1 L cells slots Z (F0 m (pc + 3) lsA rest) := fun H1 L e1 e2 e3 hS1 => by
    rw [hsl] at e1
    exact kk H1 L (hP.set hD he ⟨_, hc, t_OB.to (V := updV (vp_V fs) k v) ⟨_, e1, q2, q3, t_set q4 hap hk v⟩ (fun j _ => vp_updV_set hl v j)⟩ e3) hS1 e2
  rcases hfc with hfc | ⟨hin2, hdecl⟩
  · unfold u_lay at hlay
    rw [if_neg (by rw [hfin, hfc]; decide)] at hlay
    have h6 := u_store hfc2 hkC hkind hlay hi hd hn hfit
    exact W.putK hexec hb (f := f) ⟨hown, hlink, ⟨_, _, _, hsame _ hi⟩, hst⟩ (by rw [q2]; exact h6) q1 q3 (by rw [hsl]; exact k2_hasslot (q4 k hk)) rfl rfl hdg fun H1 e1 e2 e3 => fin2 H1 _ e1 e2 e3 (hS0.put e2 e3 (hD.2 q0 _ he))
  · cases fin with
    | false =>
      unfold u_lay at hlay
      rw [if_neg (by rw [hfin]; decide)] at hlay
      have h6 := u_store hfc2 hkC hkind hlay hi hd hn hfit
      exact W.putK hexec hb (f := f) ⟨hown, hlink, ⟨_, _, _, hsame _ hi⟩, hst⟩ (by rw [q2]; exact h6) q1 q3 (by rw [hsl]; exact k2_hasslot (q4 k hk)) rfl rfl hdg fun H1 e1 e2 e3 => fin2 H1 _ e1 e2 e3 (hS0.put e2 e3 (hD.2 q0 _ he))
    | true =>
      unfold u_lay at hlay
      rw [if_pos hfin] at hlay
      have hcf : m.cls = cf := by
        obtain ⟨_, _, c', _, _, _, -, -, hf', -, -, -, hown2, -⟩ := Cond.laysFinal_spec hlay
        have e1 : c' = cf := by have := hi.symm.trans hf'; simp at this; exact this.1.symm
        rw [hdecl] at hown2
        rw [← e1]; exact Option.some.inj (hown.symm.trans hown2)
      have h6 := u_fits hfc2 hkC hkind (Or.inr hlay) hi hd hn hfit
      exact W.putFinK hexec hb hown hlink (hsame _ hi) hst hcf hin2 (by rw [q2]; exact h6) q1 q3 (by rw [hsl]; exact k2_hasslot (q4 k hk)) rfl rfl hdg fun H1 e1 e2 e3 => fin2 H1 _ e1 e2 e3 (hS0.put e2 e3 (hD.2 q0 _ he))
/-! fields -/
def dt_fd (own : String) (idx ci k : Nat) : Prop := ∃ (Cn : String) (T : u_T) (N : Nat), dt_cls[ci]? = some (Cn, T, N) ∧ k < N ∧ Cond.fieldLink own idx (T k).1 (T k).2.1 (T k).2.2.1 ∈ dt_tbl
def dt_fw (own : String) (idx ci k : Nat) (ty : FieldType) : Prop := ∃ (Cn : String) (T : u_T) (N : Nat), dt_cls[ci]? = some (Cn, T, N) ∧ k < N ∧ Cond.fieldLink own idx (T k).1 (T k).2.1 (T k).2.2.1 ∈ dt_tbl ∧ (T k).2.2.2 = false ∧ parseFieldDescriptor (T k).2.2.1 = some ty
def dt_ff (own : String) (idx ci k : Nat) (ty : FieldType) : Prop := ∃ (Cn : String) (T : u_T) (N : Nat), dt_cls[ci]? = some (Cn, T, N) ∧ k < N ∧ Cond.fieldLink own idx (T k).1 (T k).2.1 (T k).2.2.1 ∈ dt_tbl ∧ (T k).2.2.2 = true ∧ (T k).1 = own ∧ parseFieldDescriptor (T k).2.2.1 = some ty
theorem dt_get {a idx ci n t : Nat} {tags : List Nat} (hd : decode M.2.1 pc = .ok (.getfield idx, 3)) (hf : dt_fd M.1.cls idx ci n) (hs : sh[a]? = some (.inl (ci, tags))) (ht : tags[n]? = some t) (k : dt_V M R C kc ks (pc + 3) ls (dt_rd t (σ a n) :: st) sh σ) : dt_V M R C kc ks pc ls (dt_R a :: st) sh σ := by
  intro p l e s m args below meth c D dA S B H locs lsA Z F X P hS L
  obtain ⟨Cn, T, N, h1, h2, h3⟩ := hf
  exact va_get F.1 F.2.1 F.2.2.2.2.2.2.1 (dt_clok_of ci _ h1).2.2 F.2.2.2.2.1 F.2.2.2.2.2.2.2.2.1 P.2.2 a (dt_ws_at hs) h1 n h2 (F.2.2.2.2.2.2.1 _ h3) (fun _ h => h) (dt_fl_at ht) hd (k p l e s m args below meth c D dA S B H locs lsA Z F X P hS L)
theorem dt_getI {a idx ci n : Nat} {tags : List Nat} (hd : decode M.2.1 pc = .ok (.getfield idx, 3)) (hf : dt_fd M.1.cls idx ci n) (hs : sh[a]? = some (.inl (ci, tags))) (ht : tags[n]? = some 0) (k : dt_V M R C kc ks (pc + 3) ls (dt_I (σ a n) :: st) sh σ) : dt_V M R C kc ks pc ls (dt_R a :: st) sh σ := dt_get hd hf hs ht k
theorem dt_getL {a idx ci n : Nat} {tags : List Nat} (hd : decode M.2.1 pc = .ok (.getfield idx, 3)) (hf : dt_fd M.1.cls idx ci n) (hs : sh[a]? = some (.inl (ci, tags))) (ht : tags[n]? = some 1) (k : dt_V M R C kc ks (pc + 3) ls (dt_L (σ a n) :: st) sh σ) : dt_V M R C kc ks pc ls (dt_R a :: st) sh σ := dt_get hd hf hs ht k
theorem dt_getR {a idx ci n b : Nat} {tags : List Nat} (hd : decode M.2.1 pc = .ok (.getfield idx, 3)) (hf : dt_fd M.1.cls idx ci n) (hs : sh[a]? = some (.inl (ci, tags))) (ht : tags[n]? = some (b + 4)) (k : dt_V M R C kc ks (pc + 3) ls (dt_R b :: st) sh σ) : dt_V M R C kc ks pc ls (dt_R a :: st) sh σ := dt_get hd hf hs ht k
theorem dt_put0 {a idx ci n t t' : Nat} {ty : FieldType} {tags : List Nat} {v : dt_MV} {x : Int} (hd : decode M.2.1 pc = .ok (.putfield idx, 3)) (hf : dt_fw M.1.cls idx ci n ty ∨ (dt_ff M.1.cls idx ci n ty ∧ M.1.name = "<init>")) (hs : sh[a]? = some (.inl (ci, tags))) (ht : tags[n]? = some t) (hx : dt_in32 x) (hv : v = dt_rd t' x) (hfit : ∀ B S, narrow ty (dt_tr B S v) = dt_tr B S v ∧ fits ty (dt_tr B S v) = true) (k : dt_V M R C kc ks (pc + 3) ls st (sh.set a (.inl (ci, tags.set n t'))) (dt_up σ a n x)) : dt_V M R C kc ks pc ls (v :: dt_R a :: st) sh σ := by
  intro p l e s m args below meth c D dA S B H locs lsA Z F X P hS L
  have hl : n < tags.length := (List.getElem?_eq_some_iff.mp ht).1
  have ha : a < sh.length := (List.getElem?_eq_some_iff.mp hs).1
  have key : (dt_ws B S dA sh σ).set a (B + a, .inr (ci, (dt_fl B S (σ a) tags).set n (dt_tr B S v))) = dt_ws B S dA (sh.set a (.inl (ci, tags.set n t'))) (dt_up σ a n x) := by
    rw [← dt_ws_set (σ := σ) ha rfl (fun b hb => by unfold dt_up; funext j; rw [if_neg hb])]
    congr 2
    show Sum.inr (ci, _) = Sum.inr (ci, _)
    rw [dt_fl_set (f' := dt_up σ a n x a) (t := t') hl (by rw [hv]; simp [dt_up]) (fun j hj => by simp [dt_up, hj])]
  have fin : ∀ (H1 : Heap) (locs1 : List Loc), va_P D dt_cls ((dt_ws B S dA sh σ).set a (B + a, .inr (ci, (dt_fl B S (σ a) tags).set n (dt_tr B S v)))) H1 → va_S (fun q => B ≤ q) s.heap H1 locs1 → H1.size = H.size → W p l e R s m args below meth c H1 locs1 kc ks Z (F0 m (pc + 3) lsA (st.map (dt_tr B S))) := fun H1 locs1 hP1 hS1 hz =>
    k p l e s m args below meth c D dA S B H1 locs1 lsA Z F X ⟨P.1.up hx, by rw [hz, P.2.1, List.length_set], by rw [← key]; exact hP1⟩ hS1 L
  rcases hf with hf | ⟨hf, hi⟩
  · obtain ⟨Cn, T, N, h1, h2, h3, h4, h5⟩ := hf
    obtain ⟨c1, c2, c3⟩ := dt_clok_of ci _ h1
    exact dt_vput F.1 F.2.1 F.2.2.2.2.2.2.1 c3 _ c2 c1 F.2.2.2.2.1 F.2.2.2.2.2.2.2.2.1 P.2.2 dt_ws_D hS a (dt_ws_at hs) h1 n h2 (F.2.2.2.2.2.2.1 _ h3) (fun _ h => h) h4 (Or.inl rfl) h5 (hfit B S).1 (hfit B S).2 (by rw [dt_fl_len]; exact hl) hd fin
  · obtain ⟨Cn, T, N, h1, h2, h3, h4, h5, h6⟩ := hf
    obtain ⟨c1, c2, c3⟩ := dt_clok_of ci _ h1
    exact dt_vput F.1 F.2.1 F.2.2.2.2.2.2.1 c3 _ c2 c1 F.2.2.2.2.1 F.2.2.2.2.2.2.2.2.1 P.2.2 dt_ws_D hS a (dt_ws_at hs) h1 n h2 (F.2.2.2.2.2.2.1 _ h3) (fun _ h => h) h4 (Or.inr ⟨F.2.2.2.2.2.1.trans hi, h5⟩) h6 (hfit B S).1 (hfit B S).2 (by rw [dt_fl_len]; exact hl) hd fin
theorem dt_putI {a idx ci n : Nat} {tags : List Nat} {x : Int} (hd : decode M.2.1 pc = .ok (.putfield idx, 3)) (hf : dt_fw M.1.cls idx ci n .int) (hs : sh[a]? = some (.inl (ci, tags))) (ht : tags[n]? = some 0) (hx : dt_in32 x) (k : dt_V M R C kc ks (pc + 3) ls st sh (dt_up σ a n x)) : dt_V M R C kc ks pc ls (dt_I x :: dt_R a :: st) sh σ := by
  refine dt_put0 (t' := 0) (x := x) hd (Or.inl hf) hs ht hx rfl (fun B S => ⟨rfl, rfl⟩) ?_
  rw [dt_set_self ht, dt_set_self hs]
  exact k
theorem dt_putZ {a idx ci n : Nat} {tags : List Nat} {x : Int} (hd : decode M.2.1 pc = .ok (.putfield idx, 3)) (hf : dt_fw M.1.cls idx ci n .boolean) (hs : sh[a]? = some (.inl (ci, tags))) (ht : tags[n]? = some 0) (hx : x = 0 ∨ x = 1) (k : dt_V M R C kc ks (pc + 3) ls st sh (dt_up σ a n x)) : dt_V M R C kc ks pc ls (dt_I x :: dt_R a :: st) sh σ := by
  refine dt_put0 (t' := 0) (x := x) hd (Or.inl hf) hs ht (by rcases hx with rfl | rfl <;> decide) rfl (fun B S => by rcases hx with rfl | rfl <;> exact ⟨rfl, rfl⟩) ?_
  rw [dt_set_self ht, dt_set_self hs]
  exact k
theorem dt_putL {a idx ci n : Nat} {tags : List Nat} {x : Int} (hd : decode M.2.1 pc = .ok (.putfield idx, 3)) (hf : dt_fw M.1.cls idx ci n .long) (hs : sh[a]? = some (.inl (ci, tags))) (ht : tags[n]? = some 1) (hx : dt_in32 x) (k : dt_V M R C kc ks (pc + 3) ls st sh (dt_up σ a n x)) : dt_V M R C kc ks pc ls (dt_L x :: dt_R a :: st) sh σ := by
  refine dt_put0 (t' := 1) (x := x) hd (Or.inl hf) hs ht hx rfl (fun B S => ⟨rfl, rfl⟩) ?_
  rw [dt_set_self ht, dt_set_self hs]
  exact k
/-- a field that may change: a cell -/
theorem dt_putD {a idx ci n : Nat} {tags : List Nat} {x : Nat} {Cn : String} (hd : decode M.2.1 pc = .ok (.putfield idx, 3)) (hf : dt_fw M.1.cls idx ci n (.object Cn)) (hs : sh[a]? = some (.inl (ci, tags))) (ht : tags[n]? = some 2) (hx : dt_in32 x) (k : dt_V M R C kc ks (pc + 3) ls st sh (dt_up σ a n x)) : dt_V M R C kc ks pc ls (dt_R x :: dt_R a :: st) sh σ := by
  refine dt_put0 (t' := 2) (x := x) hd (Or.inl hf) hs ht hx (by simp [dt_rd]) (fun B S => ⟨rfl, rfl⟩) ?_
  rw [dt_set_self ht, dt_set_self hs]
  exact k
/-- null into such a field: it is one that may change from now on -/
theorem dt_putN {a idx ci n t : Nat} {tags : List Nat} {Cn : String} (hd : decode M.2.1 pc = .ok (.putfield idx, 3)) (hf : dt_fw M.1.cls idx ci n (.object Cn)) (hs : sh[a]? = some (.inl (ci, tags))) (ht : tags[n]? = some t) (k : dt_V M R C kc ks (pc + 3) ls st (sh.set a (.inl (ci, tags.set n 2))) (dt_up σ a n (-1))) : dt_V M R C kc ks pc ls (dt_N :: dt_R a :: st) sh σ :=
  dt_put0 (t' := 2) (x := -1) hd (Or.inl hf) hs ht (by decide) rfl (fun B S => ⟨rfl, rfl⟩) k
/-- a final field, in a constructor -/
theorem dt_fputI {a idx ci n : Nat} {tags : List Nat} {x : Int} (hd : decode M.2.1 pc = .ok (.putfield idx, 3)) (hf : dt_ff M.1.cls idx ci n .int) (hi : M.1.name = "<init>") (hs : sh[a]? = some (.inl (ci, tags))) (ht : tags[n]? = some 0) (hx : dt_in32 x) (k : dt_V M R C kc ks (pc + 3) ls st sh (dt_up σ a n x)) : dt_V M R C kc ks pc ls (dt_I x :: dt_R a :: st) sh σ := by
  refine dt_put0 (t' := 0) (x := x) hd (Or.inr ⟨hf, hi⟩) hs ht hx rfl (fun B S => ⟨rfl, rfl⟩) ?_
  rw [dt_set_self ht, dt_set_self hs]
  exact k
theorem dt_fputR {a idx ci n t b : Nat} {tags : List Nat} {ty : FieldType} (hd : decode M.2.1 pc = .ok (.putfield idx, 3)) (hf : dt_ff M.1.cls idx ci n ty) (hi : M.1.name = "<init>") (hty : narrow ty (.ref 0) = .ref 0 ∧ ∀ z, fits ty (.ref z) = true) (hs : sh[a]? = some (.inl (ci, tags))) (ht : tags[n]? = some t) (k : dt_V M R C kc ks (pc + 3) ls st (sh.set a (.inl (ci, tags.set n (b + 4)))) (dt_up σ a n 0)) : dt_V M R C kc ks pc ls (dt_R b :: dt_R a :: st) sh σ :=
  dt_put0 (t' := b + 4) (x := 0) hd (Or.inr ⟨hf, hi⟩) hs ht (by decide) rfl (fun B S => ⟨by cases ty <;> rfl, hty.2 _⟩) k

end DTR
