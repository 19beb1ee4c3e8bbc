
/-! tokens: sort (0 end, 1 name, 2 number, 3 sign, 4 none), where it begins, where it ends -/
def tBl (c : Nat) : Bool := decide (c = 32 ∨ c = 10)
def tLe (c : Nat) : Bool := decide (97 ≤ c ∧ c ≤ 122)
def tFi (c : Nat) : Bool := decide (48 ≤ c ∧ c ≤ 57)
theorem tBl_i {c : Nat} : tBl c = true ↔ c = 32 ∨ c = 10 := decide_eq_true_iff
theorem tLe_i {c : Nat} : tLe c = true ↔ 97 ≤ c ∧ c ≤ 122 := decide_eq_true_iff
theorem tFi_i {c : Nat} : tFi c = true ↔ 48 ≤ c ∧ c ≤ 57 := decide_eq_true_iff
def tRun (p : Nat → Bool) (T : List Nat) (i : Nat) : Nat := i + ((T.drop i).takeWhile p).length
theorem tRun_y {p : Nat → Bool} {T : List Nat} {i x : Nat} (h : T[i]? = some x) (hp : p x = true) : tRun p T i = tRun p T (i + 1) := by
  obtain ⟨hi, hx⟩ := List.getElem?_eq_some_iff.mp h
  unfold tRun
  rw [List.drop_eq_getElem_cons hi, hx, List.takeWhile_cons_of_pos hp, List.length_cons]
  omega
theorem tRun_n {p : Nat → Bool} {T : List Nat} {i x : Nat} (h : T[i]? = some x) (hp : ¬ p x = true) : tRun p T i = i := by
  obtain ⟨hi, hx⟩ := List.getElem?_eq_some_iff.mp h
  unfold tRun
  rw [List.drop_eq_getElem_cons hi, hx, List.takeWhile_cons_of_neg hp]
  rfl
theorem tRun_e {p : Nat → Bool} {T : List Nat} {i : Nat} (h : T.length ≤ i) : tRun p T i = i := by
  unfold tRun
  rw [List.drop_of_length_le h]
  rfl
def tk (T : List Nat) (i : Nat) : Nat × Nat × Nat := match T[tRun tBl T i]? with
  | none => (0, tRun tBl T i, tRun tBl T i)
  | some c => if tLe c = true then (1, tRun tBl T i, tRun tLe T (tRun tBl T i + 1)) else if tFi c = true then (if tRun tFi T (tRun tBl T i + 1) - tRun tBl T i ≤ 3 then 2 else 4, tRun tBl T i, tRun tFi T (tRun tBl T i + 1)) else (if c = 59 then 3 else 4, tRun tBl T i, tRun tBl T i + 1)
theorem tk_e {T : List Nat} {i j : Nat} (hJ : tRun tBl T i = j) (h : T.length ≤ j) : tk T i = (0, j, j) := by
  unfold tk
  rw [hJ, List.getElem?_eq_none h]
theorem tk_n {T : List Nat} {i j x e : Nat} (hJ : tRun tBl T i = j) (hx : T[j]? = some x) (hl : tLe x = true) (he : tRun tLe T (j + 1) = e) : tk T i = (1, j, e) := by
  unfold tk
  rw [hJ, hx]
  simp only
  rw [if_pos hl, he]
theorem tk_f {T : List Nat} {i j x e : Nat} (hJ : tRun tBl T i = j) (hx : T[j]? = some x) (hl : ¬ tLe x = true) (hf : tFi x = true) (he : tRun tFi T (j + 1) = e) : tk T i = (if e - j ≤ 3 then 2 else 4, j, e) := by
  unfold tk
  rw [hJ, hx]
  simp only
  rw [if_neg hl, if_pos hf, he]
theorem tk_s {T : List Nat} {i j x : Nat} (hJ : tRun tBl T i = j) (hx : T[j]? = some x) (hl : ¬ tLe x = true) (hf : ¬ tFi x = true) : tk T i = (if x = 59 then 3 else 4, j, j + 1) := by
  unfold tk
  rw [hJ, hx]
  simp only
  rw [if_neg hl, if_neg hf]
/-- the class's notes of its token may differ -/
def tF (σ σ1 : dt_Mem) : Prop := ∀ b k, (b ≠ 5 ∨ k < 2) → σ1 b k = σ b k
theorem tF.up {σ σ1 : dt_Mem} (h : tF σ σ1) {k : Nat} {v : Int} (hk : 2 ≤ k) : tF σ (dt_up σ1 5 k v) := fun b j hb => by rw [dt_up_ne (by omega)]; exact h b j hb
theorem tF.T {σ σ1 : dt_Mem} {T : List Nat} (h : tF σ σ1) (hT : cTape σ T) : cTape σ1 T := hT.kept (h 5 1 (by decide)) (funext fun k => h 6 k (Or.inl (by decide)))
theorem tF.tr {σ σ1 σ2 : dt_Mem} (h : tF σ σ1) (g : tF σ1 σ2) : tF σ σ2 := fun b k hb => (g b k hb).trans (h b k hb)
theorem s_X9_isBlank {sh : List dt_Shp} {σ : dt_Mem} {c : Nat} (hc : c < 256) : dt_Sp mX9_isBlank 0 0 0 [dt_I (c : Int)] sh σ (fun v sh2 σ2 => v = some (dt_I (dt_b (tBl c = true))) ∧ sh2 = sh ∧ σ2 = σ) := by
  refine dt_Sp_of (by decide) (Nat.le_of_ble_eq_true rfl) ?_
  refine dt_wfV fun hwf => ?_
  show dt_V _ _ _ 0 0 0 [some (dt_I (c : Int))] [] _ _
  refine dt_iloadn dX9_isBlank_0 rfl rfl ?_
  refine dt_bipush dX9_isBlank_1 (by decide) ?_
  refine dt_cm_eq (tgt := 12) dX9_isBlank_3 (by decide) (by first | assumption | exact hwf _ _ | exact dt_b32 _ | omega | exact ⟨by omega, by omega⟩ | decide | exact ⟨by simp (disch := omega) only [dt_up_s, dt_up_k, dt_up_n]; omega, by simp (disch := omega) only [dt_up_s, dt_up_k, dt_up_n]; omega⟩) (by first | assumption | exact hwf _ _ | exact dt_b32 _ | omega | exact ⟨by omega, by omega⟩ | decide | exact ⟨by simp (disch := omega) only [dt_up_s, dt_up_k, dt_up_n]; omega, by simp (disch := omega) only [dt_up_s, dt_up_k, dt_up_n]; omega⟩) (fun c1 => ?_) (fun c1 => ?_)
  · skip
    refine dt_iconst dX9_isBlank_12 ?_
    refine dt_goto (tgt := 17) dX9_isBlank_13 (by decide) ?_
    refine dt_zret dX9_isBlank_17 rfl (by decide) (by decide) (by first | exact Or.inl rfl | exact Or.inr rfl | assumption | omega) ?_
    first | exact ⟨by rw [dt_bT (tBl_i.mpr (by omega))], rfl, rfl⟩ | exact ⟨by rw [dt_bF (fun q => by have := tBl_i.mp q; omega)], rfl, rfl⟩
  · skip
    refine dt_iloadn dX9_isBlank_6 rfl rfl ?_
    refine dt_bipush dX9_isBlank_7 (by decide) ?_
    refine dt_cm_ne (tgt := 16) dX9_isBlank_9 (by decide) (by first | assumption | exact hwf _ _ | exact dt_b32 _ | omega | exact ⟨by omega, by omega⟩ | decide | exact ⟨by simp (disch := omega) only [dt_up_s, dt_up_k, dt_up_n]; omega, by simp (disch := omega) only [dt_up_s, dt_up_k, dt_up_n]; omega⟩) (by first | assumption | exact hwf _ _ | exact dt_b32 _ | omega | exact ⟨by omega, by omega⟩ | decide | exact ⟨by simp (disch := omega) only [dt_up_s, dt_up_k, dt_up_n]; omega, by simp (disch := omega) only [dt_up_s, dt_up_k, dt_up_n]; omega⟩) (fun c2 => ?_) (fun c2 => ?_)
    · skip
      refine dt_iconst dX9_isBlank_16 ?_
      refine dt_zret dX9_isBlank_17 rfl (by decide) (by decide) (by first | exact Or.inl rfl | exact Or.inr rfl | assumption | omega) ?_
      first | exact ⟨by rw [dt_bT (tBl_i.mpr (by omega))], rfl, rfl⟩ | exact ⟨by rw [dt_bF (fun q => by have := tBl_i.mp q; omega)], rfl, rfl⟩
    · skip
      refine dt_iconst dX9_isBlank_12 ?_
      refine dt_goto (tgt := 17) dX9_isBlank_13 (by decide) ?_
      refine dt_zret dX9_isBlank_17 rfl (by decide) (by decide) (by first | exact Or.inl rfl | exact Or.inr rfl | assumption | omega) ?_
      first | exact ⟨by rw [dt_bT (tBl_i.mpr (by omega))], rfl, rfl⟩ | exact ⟨by rw [dt_bF (fun q => by have := tBl_i.mp q; omega)], rfl, rfl⟩
theorem s_X9_isLetter {sh : List dt_Shp} {σ : dt_Mem} {c : Nat} (hc : c < 256) : dt_Sp mX9_isLetter 0 0 0 [dt_I (c : Int)] sh σ (fun v sh2 σ2 => v = some (dt_I (dt_b (tLe c = true))) ∧ sh2 = sh ∧ σ2 = σ) := by
  refine dt_Sp_of (by decide) (Nat.le_of_ble_eq_true rfl) ?_
  refine dt_wfV fun hwf => ?_
  show dt_V _ _ _ 0 0 0 [some (dt_I (c : Int))] [] _ _
  refine dt_bipush dX9_isLetter_0 (by decide) ?_
  refine dt_iloadn dX9_isLetter_2 rfl rfl ?_
  refine dt_cm_gt (tgt := 16) dX9_isLetter_3 (by decide) (by first | assumption | exact hwf _ _ | exact dt_b32 _ | omega | exact ⟨by omega, by omega⟩ | decide | exact ⟨by simp (disch := omega) only [dt_up_s, dt_up_k, dt_up_n]; omega, by simp (disch := omega) only [dt_up_s, dt_up_k, dt_up_n]; omega⟩) (by first | assumption | exact hwf _ _ | exact dt_b32 _ | omega | exact ⟨by omega, by omega⟩ | decide | exact ⟨by simp (disch := omega) only [dt_up_s, dt_up_k, dt_up_n]; omega, by simp (disch := omega) only [dt_up_s, dt_up_k, dt_up_n]; omega⟩) (fun c1 => ?_) (fun c1 => ?_)
  · skip
    refine dt_iconst dX9_isLetter_16 ?_
    refine dt_zret dX9_isLetter_17 rfl (by decide) (by decide) (by first | exact Or.inl rfl | exact Or.inr rfl | assumption | omega) ?_
    first | exact ⟨by rw [dt_bT (tLe_i.mpr (by omega))], rfl, rfl⟩ | exact ⟨by rw [dt_bF (fun q => by have := tLe_i.mp q; omega)], rfl, rfl⟩
  · skip
    refine dt_iloadn dX9_isLetter_6 rfl rfl ?_
    refine dt_bipush dX9_isLetter_7 (by decide) ?_
    refine dt_cm_gt (tgt := 16) dX9_isLetter_9 (by decide) (by first | assumption | exact hwf _ _ | exact dt_b32 _ | omega | exact ⟨by omega, by omega⟩ | decide | exact ⟨by simp (disch := omega) only [dt_up_s, dt_up_k, dt_up_n]; omega, by simp (disch := omega) only [dt_up_s, dt_up_k, dt_up_n]; omega⟩) (by first | assumption | exact hwf _ _ | exact dt_b32 _ | omega | exact ⟨by omega, by omega⟩ | decide | exact ⟨by simp (disch := omega) only [dt_up_s, dt_up_k, dt_up_n]; omega, by simp (disch := omega) only [dt_up_s, dt_up_k, dt_up_n]; omega⟩) (fun c2 => ?_) (fun c2 => ?_)
    · skip
      refine dt_iconst dX9_isLetter_16 ?_
      refine dt_zret dX9_isLetter_17 rfl (by decide) (by decide) (by first | exact Or.inl rfl | exact Or.inr rfl | assumption | omega) ?_
      first | exact ⟨by rw [dt_bT (tLe_i.mpr (by omega))], rfl, rfl⟩ | exact ⟨by rw [dt_bF (fun q => by have := tLe_i.mp q; omega)], rfl, rfl⟩
    · skip
      refine dt_iconst dX9_isLetter_12 ?_
      refine dt_goto (tgt := 17) dX9_isLetter_13 (by decide) ?_
      refine dt_zret dX9_isLetter_17 rfl (by decide) (by decide) (by first | exact Or.inl rfl | exact Or.inr rfl | assumption | omega) ?_
      first | exact ⟨by rw [dt_bT (tLe_i.mpr (by omega))], rfl, rfl⟩ | exact ⟨by rw [dt_bF (fun q => by have := tLe_i.mp q; omega)], rfl, rfl⟩
theorem s_X9_isFigure {sh : List dt_Shp} {σ : dt_Mem} {c : Nat} (hc : c < 256) : dt_Sp mX9_isFigure 0 0 0 [dt_I (c : Int)] sh σ (fun v sh2 σ2 => v = some (dt_I (dt_b (tFi c = true))) ∧ sh2 = sh ∧ σ2 = σ) := by
  refine dt_Sp_of (by decide) (Nat.le_of_ble_eq_true rfl) ?_
  refine dt_wfV fun hwf => ?_
  show dt_V _ _ _ 0 0 0 [some (dt_I (c : Int))] [] _ _
  refine dt_bipush dX9_isFigure_0 (by decide) ?_
  refine dt_iloadn dX9_isFigure_2 rfl rfl ?_
  refine dt_cm_gt (tgt := 16) dX9_isFigure_3 (by decide) (by first | assumption | exact hwf _ _ | exact dt_b32 _ | omega | exact ⟨by omega, by omega⟩ | decide | exact ⟨by simp (disch := omega) only [dt_up_s, dt_up_k, dt_up_n]; omega, by simp (disch := omega) only [dt_up_s, dt_up_k, dt_up_n]; omega⟩) (by first | assumption | exact hwf _ _ | exact dt_b32 _ | omega | exact ⟨by omega, by omega⟩ | decide | exact ⟨by simp (disch := omega) only [dt_up_s, dt_up_k, dt_up_n]; omega, by simp (disch := omega) only [dt_up_s, dt_up_k, dt_up_n]; omega⟩) (fun c1 => ?_) (fun c1 => ?_)
  · skip
    refine dt_iconst dX9_isFigure_16 ?_
    refine dt_zret dX9_isFigure_17 rfl (by decide) (by decide) (by first | exact Or.inl rfl | exact Or.inr rfl | assumption | omega) ?_
    first | exact ⟨by rw [dt_bT (tFi_i.mpr (by omega))], rfl, rfl⟩ | exact ⟨by rw [dt_bF (fun q => by have := tFi_i.mp q; omega)], rfl, rfl⟩
  · skip
    refine dt_iloadn dX9_isFigure_6 rfl rfl ?_
    refine dt_bipush dX9_isFigure_7 (by decide) ?_
    refine dt_cm_gt (tgt := 16) dX9_isFigure_9 (by decide) (by first | assumption | exact hwf _ _ | exact dt_b32 _ | omega | exact ⟨by omega, by omega⟩ | decide | exact ⟨by simp (disch := omega) only [dt_up_s, dt_up_k, dt_up_n]; omega, by simp (disch := omega) only [dt_up_s, dt_up_k, dt_up_n]; omega⟩) (by first | assumption | exact hwf _ _ | exact dt_b32 _ | omega | exact ⟨by omega, by omega⟩ | decide | exact ⟨by simp (disch := omega) only [dt_up_s, dt_up_k, dt_up_n]; omega, by simp (disch := omega) only [dt_up_s, dt_up_k, dt_up_n]; omega⟩) (fun c2 => ?_) (fun c2 => ?_)
    · skip
      refine dt_iconst dX9_isFigure_16 ?_
      refine dt_zret dX9_isFigure_17 rfl (by decide) (by decide) (by first | exact Or.inl rfl | exact Or.inr rfl | assumption | omega) ?_
      first | exact ⟨by rw [dt_bT (tFi_i.mpr (by omega))], rfl, rfl⟩ | exact ⟨by rw [dt_bF (fun q => by have := tFi_i.mp q; omega)], rfl, rfl⟩
    · skip
      refine dt_iconst dX9_isFigure_12 ?_
      refine dt_goto (tgt := 17) dX9_isFigure_13 (by decide) ?_
      refine dt_zret dX9_isFigure_17 rfl (by decide) (by decide) (by first | exact Or.inl rfl | exact Or.inr rfl | assumption | omega) ?_
      first | exact ⟨by rw [dt_bT (tFi_i.mpr (by omega))], rfl, rfl⟩ | exact ⟨by rw [dt_bF (fun q => by have := tFi_i.mp q; omega)], rfl, rfl⟩
theorem s_X9_at {ex : List dt_Shp} {σ : dt_Mem} {T : List Nat} {i x : Nat} (hT : cTape σ T) (hx : T[i]? = some x) : dt_Sp mX9_at 0 0 0 [dt_R 5, dt_I (i : Int)] (dt_SH ++ ex) σ (fun v sh2 σ2 => v = some (dt_I (x : Int)) ∧ sh2 = dt_SH ++ ex ∧ σ2 = σ) := by
  refine dt_Sp_of (by decide) (Nat.le_of_ble_eq_true rfl) ?_
  refine dt_wfV fun hwf => ?_
  have e1 := hT.2.2.1
  have e2 := hT.1
  have e3 := dt_gl hx
  have e4 := hT.2.2.2 i x hx
  show dt_V _ _ _ 0 0 0 [some (dt_R 5), some (dt_I (i : Int))] [] _ _
  refine dt_iconst dX9_at_0 ?_
  refine dt_iloadn dX9_at_1 rfl rfl ?_
  refine dt_cm_gt (tgt := 29) dX9_at_2 (by decide) (by first | assumption | exact hwf _ _ | exact dt_b32 _ | omega | exact ⟨by omega, by omega⟩ | decide | exact ⟨by simp (disch := omega) only [dt_up_s, dt_up_k, dt_up_n]; omega, by simp (disch := omega) only [dt_up_s, dt_up_k, dt_up_n]; omega⟩) (by first | assumption | exact hwf _ _ | exact dt_b32 _ | omega | exact ⟨by omega, by omega⟩ | decide | exact ⟨by simp (disch := omega) only [dt_up_s, dt_up_k, dt_up_n]; omega, by simp (disch := omega) only [dt_up_s, dt_up_k, dt_up_n]; omega⟩) (fun c1 => ?_) (fun c1 => ?_)
  · skip
    first | exact absurd c1 (by omega) | exact absurd c1 (by decide) | exact absurd rfl c1
  · skip
    refine dt_iloadn dX9_at_5 rfl rfl ?_
    refine dt_aloadn dX9_at_6 rfl rfl ?_
    refine dt_getI dX9_at_7 pg_X9_18_9 rfl rfl ?_
    refine dt_cm_ge (tgt := 29) dX9_at_10 (by decide) (by first | assumption | exact hwf _ _ | exact dt_b32 _ | omega | exact ⟨by omega, by omega⟩ | decide | exact ⟨by simp (disch := omega) only [dt_up_s, dt_up_k, dt_up_n]; omega, by simp (disch := omega) only [dt_up_s, dt_up_k, dt_up_n]; omega⟩) (by first | assumption | exact hwf _ _ | exact dt_b32 _ | omega | exact ⟨by omega, by omega⟩ | decide | exact ⟨by simp (disch := omega) only [dt_up_s, dt_up_k, dt_up_n]; omega, by simp (disch := omega) only [dt_up_s, dt_up_k, dt_up_n]; omega⟩) (fun c2 => ?_) (fun c2 => ?_)
    · skip
      first | exact absurd c2 (by omega) | exact absurd c2 (by decide) | exact absurd rfl c2
    · skip
      refine dt_iloadn dX9_at_13 rfl rfl ?_
      refine dt_sipush dX9_at_14 (by decide) ?_
      refine dt_cm_ge (tgt := 29) dX9_at_17 (by decide) (by first | assumption | exact hwf _ _ | exact dt_b32 _ | omega | exact ⟨by omega, by omega⟩ | decide | exact ⟨by simp (disch := omega) only [dt_up_s, dt_up_k, dt_up_n]; omega, by simp (disch := omega) only [dt_up_s, dt_up_k, dt_up_n]; omega⟩) (by first | assumption | exact hwf _ _ | exact dt_b32 _ | omega | exact ⟨by omega, by omega⟩ | decide | exact ⟨by simp (disch := omega) only [dt_up_s, dt_up_k, dt_up_n]; omega, by simp (disch := omega) only [dt_up_s, dt_up_k, dt_up_n]; omega⟩) (fun c3 => ?_) (fun c3 => ?_)
      · skip
        first | exact absurd c3 (by omega) | exact absurd c3 (by decide) | exact absurd rfl c3
      · skip
        refine dt_aloadn dX9_at_20 rfl rfl ?_
        refine dt_getR dX9_at_21 pg_X9_11_9 rfl rfl ?_
        refine dt_iloadn dX9_at_24 rfl rfl ?_
        refine dt_iald dX9_at_25 rfl (by first | omega | (simp (disch := omega) only [dt_up_s, dt_up_k, dt_up_n]; omega)) (by first | omega | (simp (disch := omega) only [dt_up_s, dt_up_k, dt_up_n]; omega)) (by decide) ?_
        refine dt_goto (tgt := 30) dX9_at_26 (by decide) ?_
        refine dt_iret dX9_at_30 rfl (by decide) (by decide) ?_
        exact ⟨by rw [Int.toNat_natCast, e4], rfl, rfl⟩
theorem s_X9_next {ex : List dt_Shp} {σ : dt_Mem} {T : List Nat} {i : Nat} (hT : cTape σ T) (hi : σ 5 4 = i) (hil : i ≤ T.length) : dt_Sp mX9_next 1 0 0 [dt_R 5] (dt_SH ++ ex) σ (fun v sh2 σ2 => v = none ∧ sh2 = dt_SH ++ ex ∧ tF σ σ2 ∧ σ2 5 2 = (tk T i).1 ∧ σ2 5 3 = (tk T i).2.1 ∧ σ2 5 4 = (tk T i).2.2) := by
  refine dt_Sp_of (by decide) (Nat.le_of_ble_eq_true rfl) ?_
  refine dt_wfV fun hwf => ?_
  have e1 := hT.2.2.1
  have e2 := hT.1
  show dt_V _ _ _ 0 0 0 [some (dt_R 5)] [] _ _
  refine dt_aloadn dX9_next_0 rfl rfl ?_
  refine dt_aloadn dX9_next_1 rfl rfl ?_
  refine dt_getI dX9_next_2 pg_X9_25_9 rfl rfl ?_
  rw [hi]
  refine dt_wfV fun hwf => ?_
  refine dt_putI dX9_next_5 pw_X9_22_9 rfl rfl (by first | assumption | exact hwf _ _ | exact dt_b32 _ | omega | exact ⟨by omega, by omega⟩ | decide | exact ⟨by simp (disch := omega) only [dt_up_s, dt_up_k, dt_up_n]; omega, by simp (disch := omega) only [dt_up_s, dt_up_k, dt_up_n]; omega⟩) ?_
  have lp8 : ∀ (fu : Nat) (j : Nat) (σ1 : dt_Mem), (T.length : Int) - j < (fu : Int) → (j ≤ T.length) → (tF σ σ1) → (σ1 5 3 = j) → (tRun tBl T j = tRun tBl T i) →  dt_V mX9_next (dt_rm 1 0 0) (dt_MC (fun v sh2 σ2 => v = none ∧ sh2 = dt_SH ++ ex ∧ tF σ σ2 ∧ σ2 5 2 = (tk T i).1 ∧ σ2 5 3 = (tk T i).2.1 ∧ σ2 5 4 = (tk T i).2.2) 0 0) 0 0 8 [some (dt_R 5)] [] (dt_SH ++ ex) σ1 := by
    intro fu
    induction fu with
    | zero =>
      intro j σ1 hm hj hf hb hr
      exfalso
      omega
    | succ fu ih =>
      intro j σ1 hm hj hf hb hr
      refine dt_wfV fun hwf => ?_
      have hT1 := hf.T hT
      have z1 := hT1.2.2.1
      refine dt_aloadn dX9_next_8 rfl rfl ?_
      refine dt_getI dX9_next_9 pg_X9_22_9 rfl rfl ?_
      refine dt_aloadn dX9_next_12 rfl rfl ?_
      refine dt_getI dX9_next_13 pg_X9_18_9 rfl rfl ?_
      refine dt_cm_ge (tgt := 46) dX9_next_16 (by decide) (by first | assumption | exact hwf _ _ | exact dt_b32 _ | omega | exact ⟨by omega, by omega⟩ | decide | exact ⟨by simp (disch := omega) only [dt_up_s, dt_up_k, dt_up_n]; omega, by simp (disch := omega) only [dt_up_s, dt_up_k, dt_up_n]; omega⟩) (by first | assumption | exact hwf _ _ | exact dt_b32 _ | omega | exact ⟨by omega, by omega⟩ | decide | exact ⟨by simp (disch := omega) only [dt_up_s, dt_up_k, dt_up_n]; omega, by simp (disch := omega) only [dt_up_s, dt_up_k, dt_up_n]; omega⟩) (fun c1 => ?_) (fun c1 => ?_)
      · skip
        have hJ : tRun tBl T i = j := by rw [← hr]; exact tRun_e (by omega)
        refine dt_aloadn dX9_next_46 rfl rfl ?_
        refine dt_aloadn dX9_next_47 rfl rfl ?_
        refine dt_getI dX9_next_48 pg_X9_22_9 rfl rfl ?_
        refine dt_iconst dX9_next_51 ?_
        refine dt_iadd dX9_next_52 ?_
        refine dt_wfV fun hwf => ?_
        refine dt_putI dX9_next_53 pw_X9_25_9 rfl rfl (by first | assumption | exact hwf _ _ | exact dt_b32 _ | omega | exact ⟨by omega, by omega⟩ | decide | exact ⟨by simp (disch := omega) only [dt_up_s, dt_up_k, dt_up_n]; omega, by simp (disch := omega) only [dt_up_s, dt_up_k, dt_up_n]; omega⟩) ?_
        obtain ⟨σ3, h3⟩ : ∃ z, z = dt_up σ1 5 4 (σ1 5 3 + 1) := ⟨_, rfl⟩
        rw [← h3]
        have f3 : tF σ σ3 := h3 ▸ hf.up (by decide)
        have b3 : σ3 5 3 = j := by rw [h3, dt_up_k (by decide)]; exact hb
        have n3 : σ3 5 4 = (j + 1 : Nat) := by rw [h3, dt_up_s, hb]; rfl
        have hT3 := f3.T hT
        have q1 := hT3.2.2.1
        clear h3
        refine dt_wfV fun hwf => ?_
        refine dt_aloadn dX9_next_56 rfl rfl ?_
        refine dt_getI dX9_next_57 pg_X9_22_9 rfl rfl ?_
        refine dt_aloadn dX9_next_60 rfl rfl ?_
        refine dt_getI dX9_next_61 pg_X9_18_9 rfl rfl ?_
        refine dt_cm_lt (tgt := 83) dX9_next_64 (by decide) (by first | assumption | exact hwf _ _ | exact dt_b32 _ | omega | exact ⟨by omega, by omega⟩ | decide | exact ⟨by simp (disch := omega) only [dt_up_s, dt_up_k, dt_up_n]; omega, by simp (disch := omega) only [dt_up_s, dt_up_k, dt_up_n]; omega⟩) (by first | assumption | exact hwf _ _ | exact dt_b32 _ | omega | exact ⟨by omega, by omega⟩ | decide | exact ⟨by simp (disch := omega) only [dt_up_s, dt_up_k, dt_up_n]; omega, by simp (disch := omega) only [dt_up_s, dt_up_k, dt_up_n]; omega⟩) (fun c2 => ?_) (fun c2 => ?_)
        · skip
          first | exact absurd c2 (by omega) | exact absurd c2 (by decide) | exact absurd rfl c2
        · skip
          refine dt_aloadn dX9_next_67 rfl rfl ?_
          refine dt_aloadn dX9_next_68 rfl rfl ?_
          refine dt_getI dX9_next_69 pg_X9_22_9 rfl rfl ?_
          refine dt_wfV fun hwf => ?_
          refine dt_putI dX9_next_72 pw_X9_25_9 rfl rfl (by first | assumption | exact hwf _ _ | exact dt_b32 _ | omega | exact ⟨by omega, by omega⟩ | decide | exact ⟨by simp (disch := omega) only [dt_up_s, dt_up_k, dt_up_n]; omega, by simp (disch := omega) only [dt_up_s, dt_up_k, dt_up_n]; omega⟩) ?_
          refine dt_aloadn dX9_next_75 rfl rfl ?_
          refine dt_iconst dX9_next_76 ?_
          refine dt_wfV fun hwf => ?_
          refine dt_putI dX9_next_77 pw_X9_28_9 rfl rfl (by first | assumption | exact hwf _ _ | exact dt_b32 _ | omega | exact ⟨by omega, by omega⟩ | decide | exact ⟨by simp (disch := omega) only [dt_up_s, dt_up_k, dt_up_n]; omega, by simp (disch := omega) only [dt_up_s, dt_up_k, dt_up_n]; omega⟩) ?_
          refine dt_goto (tgt := 239) dX9_next_80 (by decide) ?_
          refine dt_vret dX9_next_239 rfl (by decide) (by decide) ?_
          refine ⟨rfl, rfl, (f3.up (by decide)).up (by decide), ?_, ?_, ?_⟩
          · rw [tk_e hJ (by omega)]; exact dt_up_s
          · rw [tk_e hJ (by omega), dt_up_k (by decide), dt_up_k (by decide)]; exact b3
          · rw [tk_e hJ (by omega), dt_up_k (by decide), dt_up_s]; exact b3
      · skip
        obtain ⟨x, hx⟩ := dt_lg (l := T) (i := j) (by omega)
        have hjl := dt_gl hx
        refine dt_aloadn dX9_next_19 rfl rfl ?_
        refine dt_aloadn dX9_next_20 rfl rfl ?_
        refine dt_getI dX9_next_21 pg_X9_22_9 rfl rfl ?_
        rw [hb]
        refine dt_xV dX9_next_24 pc_X9_112 rfl (s_X9_at hT1 hx) rfl rfl ⟨by decide, by decide⟩ rfl rfl (Nat.le_of_ble_eq_true rfl) ⟨by decide, by decide⟩ (dt_k3 ?_)
        refine dt_xS dX9_next_27 pc_X9_115 (s_X9_isBlank (hT.2.1 x (List.mem_of_getElem? hx))) rfl rfl ⟨by decide, by decide⟩ (Nat.le_of_ble_eq_true rfl) ⟨by decide, by decide⟩ (dt_k3 ?_)
        refine dt_if_eq (tgt := 46) dX9_next_30 (by decide) (by first | assumption | exact hwf _ _ | exact dt_b32 _ | omega | exact ⟨by omega, by omega⟩ | decide | exact ⟨by simp (disch := omega) only [dt_up_s, dt_up_k, dt_up_n]; omega, by simp (disch := omega) only [dt_up_s, dt_up_k, dt_up_n]; omega⟩) (fun c3 => ?_) (fun c3 => ?_)
        · skip
          try simp only [dt_b0, dt_b1, Decidable.not_not, Classical.not_not] at c3
          have hJ : tRun tBl T i = j := by rw [← hr]; exact tRun_n hx (by assumption)
          refine dt_aloadn dX9_next_46 rfl rfl ?_
          refine dt_aloadn dX9_next_47 rfl rfl ?_
          refine dt_getI dX9_next_48 pg_X9_22_9 rfl rfl ?_
          refine dt_iconst dX9_next_51 ?_
          refine dt_iadd dX9_next_52 ?_
          refine dt_wfV fun hwf => ?_
          refine dt_putI dX9_next_53 pw_X9_25_9 rfl rfl (by first | assumption | exact hwf _ _ | exact dt_b32 _ | omega | exact ⟨by omega, by omega⟩ | decide | exact ⟨by simp (disch := omega) only [dt_up_s, dt_up_k, dt_up_n]; omega, by simp (disch := omega) only [dt_up_s, dt_up_k, dt_up_n]; omega⟩) ?_
          obtain ⟨σ3, h3⟩ : ∃ z, z = dt_up σ1 5 4 (σ1 5 3 + 1) := ⟨_, rfl⟩
          rw [← h3]
          have f3 : tF σ σ3 := h3 ▸ hf.up (by decide)
          have b3 : σ3 5 3 = j := by rw [h3, dt_up_k (by decide)]; exact hb
          have n3 : σ3 5 4 = (j + 1 : Nat) := by rw [h3, dt_up_s, hb]; rfl
          have hT3 := f3.T hT
          have q1 := hT3.2.2.1
          clear h3
          refine dt_wfV fun hwf => ?_
          refine dt_aloadn dX9_next_56 rfl rfl ?_
          refine dt_getI dX9_next_57 pg_X9_22_9 rfl rfl ?_
          refine dt_aloadn dX9_next_60 rfl rfl ?_
          refine dt_getI dX9_next_61 pg_X9_18_9 rfl rfl ?_
          refine dt_cm_lt (tgt := 83) dX9_next_64 (by decide) (by first | assumption | exact hwf _ _ | exact dt_b32 _ | omega | exact ⟨by omega, by omega⟩ | decide | exact ⟨by simp (disch := omega) only [dt_up_s, dt_up_k, dt_up_n]; omega, by simp (disch := omega) only [dt_up_s, dt_up_k, dt_up_n]; omega⟩) (by first | assumption | exact hwf _ _ | exact dt_b32 _ | omega | exact ⟨by omega, by omega⟩ | decide | exact ⟨by simp (disch := omega) only [dt_up_s, dt_up_k, dt_up_n]; omega, by simp (disch := omega) only [dt_up_s, dt_up_k, dt_up_n]; omega⟩) (fun c4 => ?_) (fun c4 => ?_)
          · skip
            refine dt_aloadn dX9_next_83 rfl rfl ?_
            refine dt_aloadn dX9_next_84 rfl rfl ?_
            refine dt_getI dX9_next_85 pg_X9_22_9 rfl rfl ?_
            rw [b3]
            refine dt_xV dX9_next_88 pc_X9_112 rfl (s_X9_at hT3 hx) rfl rfl ⟨by decide, by decide⟩ rfl rfl (Nat.le_of_ble_eq_true rfl) ⟨by decide, by decide⟩ (dt_k3 ?_)
            refine dt_xS dX9_next_91 pc_X9_119 (s_X9_isLetter (hT.2.1 x (List.mem_of_getElem? hx))) rfl rfl ⟨by decide, by decide⟩ (Nat.le_of_ble_eq_true rfl) ⟨by decide, by decide⟩ (dt_k3 ?_)
            refine dt_if_eq (tgt := 140) dX9_next_94 (by decide) (by first | assumption | exact hwf _ _ | exact dt_b32 _ | omega | exact ⟨by omega, by omega⟩ | decide | exact ⟨by simp (disch := omega) only [dt_up_s, dt_up_k, dt_up_n]; omega, by simp (disch := omega) only [dt_up_s, dt_up_k, dt_up_n]; omega⟩) (fun c5 => ?_) (fun c5 => ?_)
            · skip
              try simp only [dt_b0, dt_b1, Decidable.not_not, Classical.not_not] at c5
              have hle : ¬ tLe x = true := by assumption
              refine dt_aloadn dX9_next_140 rfl rfl ?_
              refine dt_aloadn dX9_next_141 rfl rfl ?_
              refine dt_getI dX9_next_142 pg_X9_22_9 rfl rfl ?_
              rw [b3]
              refine dt_xV dX9_next_145 pc_X9_112 rfl (s_X9_at hT3 hx) rfl rfl ⟨by decide, by decide⟩ rfl rfl (Nat.le_of_ble_eq_true rfl) ⟨by decide, by decide⟩ (dt_k3 ?_)
              refine dt_xS dX9_next_148 pc_X9_122 (s_X9_isFigure (hT.2.1 x (List.mem_of_getElem? hx))) rfl rfl ⟨by decide, by decide⟩ (Nat.le_of_ble_eq_true rfl) ⟨by decide, by decide⟩ (dt_k3 ?_)
              refine dt_if_eq (tgt := 217) dX9_next_151 (by decide) (by first | assumption | exact hwf _ _ | exact dt_b32 _ | omega | exact ⟨by omega, by omega⟩ | decide | exact ⟨by simp (disch := omega) only [dt_up_s, dt_up_k, dt_up_n]; omega, by simp (disch := omega) only [dt_up_s, dt_up_k, dt_up_n]; omega⟩) (fun c6 => ?_) (fun c6 => ?_)
              · skip
                try simp only [dt_b0, dt_b1, Decidable.not_not, Classical.not_not] at c6
                have hfi : ¬ tFi x = true := by assumption
                refine dt_aloadn dX9_next_217 rfl rfl ?_
                refine dt_aloadn dX9_next_218 rfl rfl ?_
                refine dt_aloadn dX9_next_219 rfl rfl ?_
                refine dt_getI dX9_next_220 pg_X9_22_9 rfl rfl ?_
                rw [b3]
                refine dt_xV dX9_next_223 pc_X9_112 rfl (s_X9_at hT3 hx) rfl rfl ⟨by decide, by decide⟩ rfl rfl (Nat.le_of_ble_eq_true rfl) ⟨by decide, by decide⟩ (dt_k3 ?_)
                refine dt_bipush dX9_next_226 (by decide) ?_
                refine dt_cm_ne (tgt := 235) dX9_next_228 (by decide) ⟨by omega, by have := (hT.2.1 x (List.mem_of_getElem? hx)); omega⟩ (by first | assumption | exact hwf _ _ | exact dt_b32 _ | omega | exact ⟨by omega, by omega⟩ | decide | exact ⟨by simp (disch := omega) only [dt_up_s, dt_up_k, dt_up_n]; omega, by simp (disch := omega) only [dt_up_s, dt_up_k, dt_up_n]; omega⟩) (fun c7 => ?_) (fun c7 => ?_)
                · skip
                  refine dt_iconst dX9_next_235 ?_
                  refine dt_wfV fun hwf => ?_
                  refine dt_putI dX9_next_236 pw_X9_28_9 rfl rfl (by first | assumption | exact hwf _ _ | exact dt_b32 _ | omega | exact ⟨by omega, by omega⟩ | decide | exact ⟨by simp (disch := omega) only [dt_up_s, dt_up_k, dt_up_n]; omega, by simp (disch := omega) only [dt_up_s, dt_up_k, dt_up_n]; omega⟩) ?_
                  refine dt_vret dX9_next_239 rfl (by decide) (by decide) ?_
                  refine ⟨rfl, rfl, f3.up (by decide), ?_, ?_, ?_⟩
                  · rw [tk_s hJ hx hle hfi]; first | (rw [dt_up_s, if_pos (by omega)]; rfl) | (rw [dt_up_s, if_neg (by omega)]; rfl)
                  · rw [tk_s hJ hx hle hfi, dt_up_k (by decide)]; exact b3
                  · rw [tk_s hJ hx hle hfi, dt_up_k (by decide)]; exact n3
                · skip
                  refine dt_iconst dX9_next_231 ?_
                  refine dt_goto (tgt := 236) dX9_next_232 (by decide) ?_
                  refine dt_wfV fun hwf => ?_
                  refine dt_putI dX9_next_236 pw_X9_28_9 rfl rfl (by first | assumption | exact hwf _ _ | exact dt_b32 _ | omega | exact ⟨by omega, by omega⟩ | decide | exact ⟨by simp (disch := omega) only [dt_up_s, dt_up_k, dt_up_n]; omega, by simp (disch := omega) only [dt_up_s, dt_up_k, dt_up_n]; omega⟩) ?_
                  refine dt_vret dX9_next_239 rfl (by decide) (by decide) ?_
                  refine ⟨rfl, rfl, f3.up (by decide), ?_, ?_, ?_⟩
                  · rw [tk_s hJ hx hle hfi]; first | (rw [dt_up_s, if_pos (by omega)]; rfl) | (rw [dt_up_s, if_neg (by omega)]; rfl)
                  · rw [tk_s hJ hx hle hfi, dt_up_k (by decide)]; exact b3
                  · rw [tk_s hJ hx hle hfi, dt_up_k (by decide)]; exact n3
              · skip
                try simp only [dt_b0, dt_b1, Decidable.not_not, Classical.not_not] at c6
                have hfi : tFi x = true := by assumption
                have lp154 : ∀ (fu : Nat) (e : Nat) (σ4 : dt_Mem), (T.length : Int) - e < (fu : Int) → (e ≤ T.length) → (tF σ σ4) → (σ4 5 3 = j) → (σ4 5 4 = e) → (tRun tFi T e = tRun tFi T (j + 1)) →  dt_V mX9_next (dt_rm 1 0 0) (dt_MC (fun v sh2 σ2 => v = none ∧ sh2 = dt_SH ++ ex ∧ tF σ σ2 ∧ σ2 5 2 = (tk T i).1 ∧ σ2 5 3 = (tk T i).2.1 ∧ σ2 5 4 = (tk T i).2.2) 0 0) 0 0 154 [some (dt_R 5)] [] (dt_SH ++ ex) σ4 := by
                  intro fu
                  induction fu with
                  | zero =>
                    intro e σ4 hm he f4 b4 n4 r4
                    exfalso
                    omega
                  | succ fu ih =>
                    intro e σ4 hm he f4 b4 n4 r4
                    refine dt_wfV fun hwf => ?_
                    have z1 := (f4.T hT).2.2.1
                    refine dt_aloadn dX9_next_154 rfl rfl ?_
                    refine dt_getI dX9_next_155 pg_X9_25_9 rfl rfl ?_
                    refine dt_aloadn dX9_next_158 rfl rfl ?_
                    refine dt_getI dX9_next_159 pg_X9_18_9 rfl rfl ?_
                    refine dt_cm_ge (tgt := 192) dX9_next_162 (by decide) (by first | assumption | exact hwf _ _ | exact dt_b32 _ | omega | exact ⟨by omega, by omega⟩ | decide | exact ⟨by simp (disch := omega) only [dt_up_s, dt_up_k, dt_up_n]; omega, by simp (disch := omega) only [dt_up_s, dt_up_k, dt_up_n]; omega⟩) (by first | assumption | exact hwf _ _ | exact dt_b32 _ | omega | exact ⟨by omega, by omega⟩ | decide | exact ⟨by simp (disch := omega) only [dt_up_s, dt_up_k, dt_up_n]; omega, by simp (disch := omega) only [dt_up_s, dt_up_k, dt_up_n]; omega⟩) (fun c8 => ?_) (fun c8 => ?_)
                    · skip
                      have hE : tRun tFi T (j + 1) = e := by rw [← r4]; exact tRun_e (by omega)
                      refine dt_aloadn dX9_next_192 rfl rfl ?_
                      refine dt_aloadn dX9_next_193 rfl rfl ?_
                      refine dt_getI dX9_next_194 pg_X9_25_9 rfl rfl ?_
                      refine dt_aloadn dX9_next_197 rfl rfl ?_
                      refine dt_getI dX9_next_198 pg_X9_22_9 rfl rfl ?_
                      refine dt_isub dX9_next_201 ?_
                      refine dt_iconst dX9_next_202 ?_
                      refine dt_cm_gt (tgt := 210) dX9_next_203 (by decide) (by first | assumption | exact hwf _ _ | exact dt_b32 _ | omega | exact ⟨by omega, by omega⟩ | decide | exact ⟨by simp (disch := omega) only [dt_up_s, dt_up_k, dt_up_n]; omega, by simp (disch := omega) only [dt_up_s, dt_up_k, dt_up_n]; omega⟩) (by first | assumption | exact hwf _ _ | exact dt_b32 _ | omega | exact ⟨by omega, by omega⟩ | decide | exact ⟨by simp (disch := omega) only [dt_up_s, dt_up_k, dt_up_n]; omega, by simp (disch := omega) only [dt_up_s, dt_up_k, dt_up_n]; omega⟩) (fun c9 => ?_) (fun c9 => ?_)
                      · skip
                        refine dt_iconst dX9_next_210 ?_
                        refine dt_wfV fun hwf => ?_
                        refine dt_putI dX9_next_211 pw_X9_28_9 rfl rfl (by first | assumption | exact hwf _ _ | exact dt_b32 _ | omega | exact ⟨by omega, by omega⟩ | decide | exact ⟨by simp (disch := omega) only [dt_up_s, dt_up_k, dt_up_n]; omega, by simp (disch := omega) only [dt_up_s, dt_up_k, dt_up_n]; omega⟩) ?_
                        refine dt_goto (tgt := 239) dX9_next_214 (by decide) ?_
                        refine dt_vret dX9_next_239 rfl (by decide) (by decide) ?_
                        refine ⟨rfl, rfl, f4.up (by decide), ?_, ?_, ?_⟩
                        · rw [tk_f hJ hx hle hfi hE]; first | (rw [dt_up_s, if_pos (by omega)]; rfl) | (rw [dt_up_s, if_neg (by omega)]; rfl)
                        · rw [tk_f hJ hx hle hfi hE, dt_up_k (by decide)]; exact b4
                        · rw [tk_f hJ hx hle hfi hE, dt_up_k (by decide)]; exact n4
                      · skip
                        refine dt_iconst dX9_next_206 ?_
                        refine dt_goto (tgt := 211) dX9_next_207 (by decide) ?_
                        refine dt_wfV fun hwf => ?_
                        refine dt_putI dX9_next_211 pw_X9_28_9 rfl rfl (by first | assumption | exact hwf _ _ | exact dt_b32 _ | omega | exact ⟨by omega, by omega⟩ | decide | exact ⟨by simp (disch := omega) only [dt_up_s, dt_up_k, dt_up_n]; omega, by simp (disch := omega) only [dt_up_s, dt_up_k, dt_up_n]; omega⟩) ?_
                        refine dt_goto (tgt := 239) dX9_next_214 (by decide) ?_
                        refine dt_vret dX9_next_239 rfl (by decide) (by decide) ?_
                        refine ⟨rfl, rfl, f4.up (by decide), ?_, ?_, ?_⟩
                        · rw [tk_f hJ hx hle hfi hE]; first | (rw [dt_up_s, if_pos (by omega)]; rfl) | (rw [dt_up_s, if_neg (by omega)]; rfl)
                        · rw [tk_f hJ hx hle hfi hE, dt_up_k (by decide)]; exact b4
                        · rw [tk_f hJ hx hle hfi hE, dt_up_k (by decide)]; exact n4
                    · skip
                      obtain ⟨y, hy⟩ := dt_lg (l := T) (i := e) (by omega)
                      refine dt_aloadn dX9_next_165 rfl rfl ?_
                      refine dt_aloadn dX9_next_166 rfl rfl ?_
                      refine dt_getI dX9_next_167 pg_X9_25_9 rfl rfl ?_
                      rw [n4]
                      refine dt_xV dX9_next_170 pc_X9_112 rfl (s_X9_at (f4.T hT) hy) rfl rfl ⟨by decide, by decide⟩ rfl rfl (Nat.le_of_ble_eq_true rfl) ⟨by decide, by decide⟩ (dt_k3 ?_)
                      refine dt_xS dX9_next_173 pc_X9_122 (s_X9_isFigure (hT.2.1 y (List.mem_of_getElem? hy))) rfl rfl ⟨by decide, by decide⟩ (Nat.le_of_ble_eq_true rfl) ⟨by decide, by decide⟩ (dt_k3 ?_)
                      refine dt_if_eq (tgt := 192) dX9_next_176 (by decide) (by first | assumption | exact hwf _ _ | exact dt_b32 _ | omega | exact ⟨by omega, by omega⟩ | decide | exact ⟨by simp (disch := omega) only [dt_up_s, dt_up_k, dt_up_n]; omega, by simp (disch := omega) only [dt_up_s, dt_up_k, dt_up_n]; omega⟩) (fun c10 => ?_) (fun c10 => ?_)
                      · skip
                        try simp only [dt_b0, dt_b1, Decidable.not_not, Classical.not_not] at c10
                        have hE : tRun tFi T (j + 1) = e := by rw [← r4]; exact tRun_n hy (by assumption)
                        refine dt_aloadn dX9_next_192 rfl rfl ?_
                        refine dt_aloadn dX9_next_193 rfl rfl ?_
                        refine dt_getI dX9_next_194 pg_X9_25_9 rfl rfl ?_
                        refine dt_aloadn dX9_next_197 rfl rfl ?_
                        refine dt_getI dX9_next_198 pg_X9_22_9 rfl rfl ?_
                        refine dt_isub dX9_next_201 ?_
                        refine dt_iconst dX9_next_202 ?_
                        refine dt_cm_gt (tgt := 210) dX9_next_203 (by decide) (by first | assumption | exact hwf _ _ | exact dt_b32 _ | omega | exact ⟨by omega, by omega⟩ | decide | exact ⟨by simp (disch := omega) only [dt_up_s, dt_up_k, dt_up_n]; omega, by simp (disch := omega) only [dt_up_s, dt_up_k, dt_up_n]; omega⟩) (by first | assumption | exact hwf _ _ | exact dt_b32 _ | omega | exact ⟨by omega, by omega⟩ | decide | exact ⟨by simp (disch := omega) only [dt_up_s, dt_up_k, dt_up_n]; omega, by simp (disch := omega) only [dt_up_s, dt_up_k, dt_up_n]; omega⟩) (fun c11 => ?_) (fun c11 => ?_)
                        · skip
                          refine dt_iconst dX9_next_210 ?_
                          refine dt_wfV fun hwf => ?_
                          refine dt_putI dX9_next_211 pw_X9_28_9 rfl rfl (by first | assumption | exact hwf _ _ | exact dt_b32 _ | omega | exact ⟨by omega, by omega⟩ | decide | exact ⟨by simp (disch := omega) only [dt_up_s, dt_up_k, dt_up_n]; omega, by simp (disch := omega) only [dt_up_s, dt_up_k, dt_up_n]; omega⟩) ?_
                          refine dt_goto (tgt := 239) dX9_next_214 (by decide) ?_
                          refine dt_vret dX9_next_239 rfl (by decide) (by decide) ?_
                          refine ⟨rfl, rfl, f4.up (by decide), ?_, ?_, ?_⟩
                          · rw [tk_f hJ hx hle hfi hE]; first | (rw [dt_up_s, if_pos (by omega)]; rfl) | (rw [dt_up_s, if_neg (by omega)]; rfl)
                          · rw [tk_f hJ hx hle hfi hE, dt_up_k (by decide)]; exact b4
                          · rw [tk_f hJ hx hle hfi hE, dt_up_k (by decide)]; exact n4
                        · skip
                          refine dt_iconst dX9_next_206 ?_
                          refine dt_goto (tgt := 211) dX9_next_207 (by decide) ?_
                          refine dt_wfV fun hwf => ?_
                          refine dt_putI dX9_next_211 pw_X9_28_9 rfl rfl (by first | assumption | exact hwf _ _ | exact dt_b32 _ | omega | exact ⟨by omega, by omega⟩ | decide | exact ⟨by simp (disch := omega) only [dt_up_s, dt_up_k, dt_up_n]; omega, by simp (disch := omega) only [dt_up_s, dt_up_k, dt_up_n]; omega⟩) ?_
                          refine dt_goto (tgt := 239) dX9_next_214 (by decide) ?_
                          refine dt_vret dX9_next_239 rfl (by decide) (by decide) ?_
                          refine ⟨rfl, rfl, f4.up (by decide), ?_, ?_, ?_⟩
                          · rw [tk_f hJ hx hle hfi hE]; first | (rw [dt_up_s, if_pos (by omega)]; rfl) | (rw [dt_up_s, if_neg (by omega)]; rfl)
                          · rw [tk_f hJ hx hle hfi hE, dt_up_k (by decide)]; exact b4
                          · rw [tk_f hJ hx hle hfi hE, dt_up_k (by decide)]; exact n4
                      · skip
                        try simp only [dt_b0, dt_b1, Decidable.not_not, Classical.not_not] at c10
                        have hel := dt_gl hy
                        refine dt_aloadn dX9_next_179 rfl rfl ?_
                        refine dt_dupR dX9_next_180 ?_
                        refine dt_getI dX9_next_181 pg_X9_25_9 rfl rfl ?_
                        refine dt_iconst dX9_next_184 ?_
                        refine dt_iadd dX9_next_185 ?_
                        refine dt_wfV fun hwf => ?_
                        refine dt_putI dX9_next_186 pw_X9_25_9 rfl rfl (by first | assumption | exact hwf _ _ | exact dt_b32 _ | omega | exact ⟨by omega, by omega⟩ | decide | exact ⟨by simp (disch := omega) only [dt_up_s, dt_up_k, dt_up_n]; omega, by simp (disch := omega) only [dt_up_s, dt_up_k, dt_up_n]; omega⟩) ?_
                        refine dt_goto (tgt := 154) dX9_next_189 (by decide) ?_
                        exact dt_lb (ih (e + 1) _ (by omega) (by omega) (f4.up (by decide)) ((dt_up_k (by decide)).trans b4) (by rw [dt_up_s, n4]; rfl) (by rw [← r4]; exact (tRun_y hy (by assumption)).symm)) ⟨rfl, trivial⟩
                exact dt_lb (lp154 501 (j + 1) σ3 (by omega) (by omega) f3 b3 n3 rfl) ⟨rfl, trivial⟩
            · skip
              try simp only [dt_b0, dt_b1, Decidable.not_not, Classical.not_not] at c5
              have hle : tLe x = true := by assumption
              refine dt_aloadn dX9_next_97 rfl rfl ?_
              refine dt_iconst dX9_next_98 ?_
              refine dt_wfV fun hwf => ?_
              refine dt_putI dX9_next_99 pw_X9_28_9 rfl rfl (by first | assumption | exact hwf _ _ | exact dt_b32 _ | omega | exact ⟨by omega, by omega⟩ | decide | exact ⟨by simp (disch := omega) only [dt_up_s, dt_up_k, dt_up_n]; omega, by simp (disch := omega) only [dt_up_s, dt_up_k, dt_up_n]; omega⟩) ?_
              have lp102 : ∀ (fu : Nat) (e : Nat) (σ4 : dt_Mem), (T.length : Int) - e < (fu : Int) → (e ≤ T.length) → (tF σ σ4) → (σ4 5 2 = 1) → (σ4 5 3 = j) → (σ4 5 4 = e) → (tRun tLe T e = tRun tLe T (j + 1)) →  dt_V mX9_next (dt_rm 1 0 0) (dt_MC (fun v sh2 σ2 => v = none ∧ sh2 = dt_SH ++ ex ∧ tF σ σ2 ∧ σ2 5 2 = (tk T i).1 ∧ σ2 5 3 = (tk T i).2.1 ∧ σ2 5 4 = (tk T i).2.2) 0 0) 0 0 102 [some (dt_R 5)] [] (dt_SH ++ ex) σ4 := by
                intro fu
                induction fu with
                | zero =>
                  intro e σ4 hm he f4 s4 b4 n4 r4
                  exfalso
                  omega
                | succ fu ih =>
                  intro e σ4 hm he f4 s4 b4 n4 r4
                  refine dt_wfV fun hwf => ?_
                  have z1 := (f4.T hT).2.2.1
                  refine dt_aloadn dX9_next_102 rfl rfl ?_
                  refine dt_getI dX9_next_103 pg_X9_25_9 rfl rfl ?_
                  refine dt_aloadn dX9_next_106 rfl rfl ?_
                  refine dt_getI dX9_next_107 pg_X9_18_9 rfl rfl ?_
                  refine dt_cm_ge (tgt := 239) dX9_next_110 (by decide) (by first | assumption | exact hwf _ _ | exact dt_b32 _ | omega | exact ⟨by omega, by omega⟩ | decide | exact ⟨by simp (disch := omega) only [dt_up_s, dt_up_k, dt_up_n]; omega, by simp (disch := omega) only [dt_up_s, dt_up_k, dt_up_n]; omega⟩) (by first | assumption | exact hwf _ _ | exact dt_b32 _ | omega | exact ⟨by omega, by omega⟩ | decide | exact ⟨by simp (disch := omega) only [dt_up_s, dt_up_k, dt_up_n]; omega, by simp (disch := omega) only [dt_up_s, dt_up_k, dt_up_n]; omega⟩) (fun c12 => ?_) (fun c12 => ?_)
                  · skip
                    have hE : tRun tLe T (j + 1) = e := by rw [← r4]; exact tRun_e (by omega)
                    refine dt_vret dX9_next_239 rfl (by decide) (by decide) ?_
                    refine ⟨rfl, rfl, f4, ?_, ?_, ?_⟩
                    · rw [tk_n hJ hx hle hE]; exact s4
                    · rw [tk_n hJ hx hle hE]; exact b4
                    · rw [tk_n hJ hx hle hE]; exact n4
                  · skip
                    obtain ⟨y, hy⟩ := dt_lg (l := T) (i := e) (by omega)
                    refine dt_aloadn dX9_next_113 rfl rfl ?_
                    refine dt_aloadn dX9_next_114 rfl rfl ?_
                    refine dt_getI dX9_next_115 pg_X9_25_9 rfl rfl ?_
                    rw [n4]
                    refine dt_xV dX9_next_118 pc_X9_112 rfl (s_X9_at (f4.T hT) hy) rfl rfl ⟨by decide, by decide⟩ rfl rfl (Nat.le_of_ble_eq_true rfl) ⟨by decide, by decide⟩ (dt_k3 ?_)
                    refine dt_xS dX9_next_121 pc_X9_119 (s_X9_isLetter (hT.2.1 y (List.mem_of_getElem? hy))) rfl rfl ⟨by decide, by decide⟩ (Nat.le_of_ble_eq_true rfl) ⟨by decide, by decide⟩ (dt_k3 ?_)
                    refine dt_if_eq (tgt := 239) dX9_next_124 (by decide) (by first | assumption | exact hwf _ _ | exact dt_b32 _ | omega | exact ⟨by omega, by omega⟩ | decide | exact ⟨by simp (disch := omega) only [dt_up_s, dt_up_k, dt_up_n]; omega, by simp (disch := omega) only [dt_up_s, dt_up_k, dt_up_n]; omega⟩) (fun c13 => ?_) (fun c13 => ?_)
                    · skip
                      try simp only [dt_b0, dt_b1, Decidable.not_not, Classical.not_not] at c13
                      have hE : tRun tLe T (j + 1) = e := by rw [← r4]; exact tRun_n hy (by assumption)
                      refine dt_vret dX9_next_239 rfl (by decide) (by decide) ?_
                      refine ⟨rfl, rfl, f4, ?_, ?_, ?_⟩
                      · rw [tk_n hJ hx hle hE]; exact s4
                      · rw [tk_n hJ hx hle hE]; exact b4
                      · rw [tk_n hJ hx hle hE]; exact n4
                    · skip
                      try simp only [dt_b0, dt_b1, Decidable.not_not, Classical.not_not] at c13
                      have hel := dt_gl hy
                      refine dt_aloadn dX9_next_127 rfl rfl ?_
                      refine dt_dupR dX9_next_128 ?_
                      refine dt_getI dX9_next_129 pg_X9_25_9 rfl rfl ?_
                      refine dt_iconst dX9_next_132 ?_
                      refine dt_iadd dX9_next_133 ?_
                      refine dt_wfV fun hwf => ?_
                      refine dt_putI dX9_next_134 pw_X9_25_9 rfl rfl (by first | assumption | exact hwf _ _ | exact dt_b32 _ | omega | exact ⟨by omega, by omega⟩ | decide | exact ⟨by simp (disch := omega) only [dt_up_s, dt_up_k, dt_up_n]; omega, by simp (disch := omega) only [dt_up_s, dt_up_k, dt_up_n]; omega⟩) ?_
                      refine dt_goto (tgt := 102) dX9_next_137 (by decide) ?_
                      exact dt_lb (ih (e + 1) _ (by omega) (by omega) (f4.up (by decide)) ((dt_up_k (by decide)).trans s4) ((dt_up_k (by decide)).trans b4) (by rw [dt_up_s, n4]; rfl) (by rw [← r4]; exact (tRun_y hy (by assumption)).symm)) ⟨rfl, trivial⟩
              exact dt_lb (lp102 501 (j + 1) _ (by omega) (by omega) (f3.up (by decide)) dt_up_s ((dt_up_k (by decide)).trans b3) ((dt_up_k (by decide)).trans n3) rfl) ⟨rfl, trivial⟩
          · skip
            first | exact absurd c4 (by omega) | exact absurd c4 (by decide) | exact absurd rfl c4
        · skip
          try simp only [dt_b0, dt_b1, Decidable.not_not, Classical.not_not] at c3
          refine dt_aloadn dX9_next_33 rfl rfl ?_
          refine dt_dupR dX9_next_34 ?_
          refine dt_getI dX9_next_35 pg_X9_22_9 rfl rfl ?_
          refine dt_iconst dX9_next_38 ?_
          refine dt_iadd dX9_next_39 ?_
          refine dt_wfV fun hwf => ?_
          refine dt_putI dX9_next_40 pw_X9_22_9 rfl rfl (by first | assumption | exact hwf _ _ | exact dt_b32 _ | omega | exact ⟨by omega, by omega⟩ | decide | exact ⟨by simp (disch := omega) only [dt_up_s, dt_up_k, dt_up_n]; omega, by simp (disch := omega) only [dt_up_s, dt_up_k, dt_up_n]; omega⟩) ?_
          refine dt_goto (tgt := 8) dX9_next_43 (by decide) ?_
          exact dt_lb (ih (j + 1) _ (by omega) (by omega) (hf.up (by decide)) (by rw [dt_up_s, hb]; rfl) (by rw [← hr]; exact (tRun_y hx (by assumption)).symm)) ⟨rfl, trivial⟩
  exact dt_lb (lp8 501 i _ (by omega) hil ((show tF σ σ from fun _ _ _ => rfl).up (by decide)) dt_up_s rfl) ⟨rfl, trivial⟩
/-! the reference's tokens -/
def rF (σ σ1 : dt_Mem) : Prop := ∀ b k, (b ≠ 40 ∨ k < 12 ∨ 15 < k) → σ1 b k = σ b k
theorem rF.up {σ σ1 : dt_Mem} (h : rF σ σ1) {k : Nat} {v : Int} (h1 : 12 ≤ k) (h2 : k ≤ 15) : rF σ (dt_up σ1 40 k v) := fun b j hb => by rw [dt_up_ne (by omega)]; exact h b j hb
theorem rF.tr {σ σ1 σ2 : dt_Mem} (h : rF σ σ1) (g : rF σ1 σ2) : rF σ σ2 := fun b k hb => (g b k hb).trans (h b k hb)
/-- the text that is read -/
def rL (σ : dt_Mem) (T : List Nat) : Prop := σ 40 11 = T.length ∧ T.length ≤ 500 ∧ (∀ x ∈ T, x < 256) ∧ ∀ (i x : Nat), T[i]? = some x → σ 46 i = x
theorem rF.L {σ σ1 : dt_Mem} {T : List Nat} (h : rF σ σ1) (hT : rL σ T) : rL σ1 T := ⟨(h 40 11 (by decide)).trans hT.1, hT.2.1, hT.2.2.1, fun i x hx => (h 46 i (Or.inl (by decide))).trans (hT.2.2.2 i x hx)⟩
def rB (T : List Nat) (i : Nat) : Int := match T[i]? with
  | some x => (x : Int)
  | none => -1000000
theorem rB_some {T : List Nat} {i x : Nat} (h : T[i]? = some x) : rB T i = x := by
  unfold rB
  rw [h]
theorem rB_none {T : List Nat} {i : Nat} (h : T.length ≤ i) : rB T i = -1000000 := by
  unfold rB
  rw [List.getElem?_eq_none h]
theorem rB_c (T : List Nat) (i : Nat) : (T.length ≤ i ∧ rB T i = -1000000) ∨ ∃ x, T[i]? = some x ∧ rB T i = x ∧ i < T.length := by
  rcases Nat.lt_or_ge i T.length with h | h
  · obtain ⟨x, hx⟩ := dt_lg h
    exact Or.inr ⟨x, hx, rB_some hx, h⟩
  · exact Or.inl ⟨h, rB_none h⟩
theorem rB_in {T : List Nat} (hT : ∀ x ∈ T, x < 256) (i : Nat) : dt_in32 (rB T i) := by
  rcases rB_c T i with ⟨-, h⟩ | ⟨x, hx, h, -⟩
  · rw [h]; decide
  · have := hT x (List.mem_of_getElem? hx)
    rw [h]
    exact ⟨by omega, by omega⟩
theorem rB_bl {T : List Nat} {i : Nat} (h : rB T i = 32 ∨ rB T i = 10) : i < T.length ∧ tRun tBl T i = tRun tBl T (i + 1) := by
  rcases rB_c T i with ⟨-, g⟩ | ⟨x, hx, g, l⟩
  · omega
  · exact ⟨l, tRun_y hx (tBl_i.mpr (by omega))⟩
theorem rB_nb {T : List Nat} {i : Nat} (h1 : ¬ rB T i = 32) (h2 : ¬ rB T i = 10) : tRun tBl T i = i := by
  rcases rB_c T i with ⟨l, -⟩ | ⟨x, hx, g, l⟩
  · exact tRun_e l
  · exact tRun_n hx (fun q => by have := tBl_i.mp q; omega)
theorem rB_le {T : List Nat} {i : Nat} (h : 97 ≤ rB T i ∧ rB T i ≤ 122) : i < T.length ∧ tRun tLe T i = tRun tLe T (i + 1) := by
  rcases rB_c T i with ⟨-, g⟩ | ⟨x, hx, g, l⟩
  · omega
  · exact ⟨l, tRun_y hx (tLe_i.mpr (by omega))⟩
theorem rB_nle {T : List Nat} {i : Nat} (h : ¬ (97 ≤ rB T i ∧ rB T i ≤ 122)) : tRun tLe T i = i := by
  rcases rB_c T i with ⟨l, -⟩ | ⟨x, hx, g, l⟩
  · exact tRun_e l
  · exact tRun_n hx (fun q => by have := tLe_i.mp q; omega)
theorem rB_fi {T : List Nat} {i : Nat} (h : 48 ≤ rB T i ∧ rB T i ≤ 57) : i < T.length ∧ tRun tFi T i = tRun tFi T (i + 1) := by
  rcases rB_c T i with ⟨-, g⟩ | ⟨x, hx, g, l⟩
  · omega
  · exact ⟨l, tRun_y hx (tFi_i.mpr (by omega))⟩
theorem rB_nfi {T : List Nat} {i : Nat} (h : ¬ (48 ≤ rB T i ∧ rB T i ≤ 57)) : tRun tFi T i = i := by
  rcases rB_c T i with ⟨l, -⟩ | ⟨x, hx, g, l⟩
  · exact tRun_e l
  · exact tRun_n hx (fun q => by have := tFi_i.mp q; omega)
def rS (s : Nat) : Int := if s = 0 then 1 else if s = 1 then 2 else if s = 2 then 3 else if s = 3 then 4 else 0
theorem s_X12_isLetter {sh : List dt_Shp} {σ : dt_Mem} {c : Int} (hc : dt_in32 c) : dt_Sp mX12_isLetter 0 0 0 [dt_I c] sh σ (fun v sh2 σ2 => v = some (dt_I (dt_b (97 ≤ c ∧ c ≤ 122))) ∧ sh2 = sh ∧ σ2 = σ) := by
  refine dt_Sp_of (by decide) (Nat.le_of_ble_eq_true rfl) ?_
  refine dt_wfV fun hwf => ?_
  show dt_V _ _ _ 0 0 0 [some (dt_I c)] [] _ _
  refine dt_iloadn dX12_isLetter_0 rfl rfl ?_
  refine dt_bipush dX12_isLetter_1 (by decide) ?_
  refine dt_cm_lt (tgt := 16) dX12_isLetter_3 (by decide) (by first | assumption | exact hwf _ _ | exact dt_b32 _ | omega | exact ⟨by omega, by omega⟩ | decide | exact ⟨by simp (disch := omega) only [dt_up_s, dt_up_k, dt_up_n]; omega, by simp (disch := omega) only [dt_up_s, dt_up_k, dt_up_n]; omega⟩) (by first | assumption | exact hwf _ _ | exact dt_b32 _ | omega | exact ⟨by omega, by omega⟩ | decide | exact ⟨by simp (disch := omega) only [dt_up_s, dt_up_k, dt_up_n]; omega, by simp (disch := omega) only [dt_up_s, dt_up_k, dt_up_n]; omega⟩) (fun c1 => ?_) (fun c1 => ?_)
  · skip
    refine dt_iconst dX12_isLetter_16 ?_
    refine dt_zret dX12_isLetter_17 rfl (by decide) (by decide) (by first | exact Or.inl rfl | exact Or.inr rfl | assumption | omega) ?_
    first | exact ⟨by rw [dt_bT (by omega)], rfl, rfl⟩ | exact ⟨by rw [dt_bF (by omega)], rfl, rfl⟩
  · skip
    refine dt_iloadn dX12_isLetter_6 rfl rfl ?_
    refine dt_bipush dX12_isLetter_7 (by decide) ?_
    refine dt_cm_gt (tgt := 16) dX12_isLetter_9 (by decide) (by first | assumption | exact hwf _ _ | exact dt_b32 _ | omega | exact ⟨by omega, by omega⟩ | decide | exact ⟨by simp (disch := omega) only [dt_up_s, dt_up_k, dt_up_n]; omega, by simp (disch := omega) only [dt_up_s, dt_up_k, dt_up_n]; omega⟩) (by first | assumption | exact hwf _ _ | exact dt_b32 _ | omega | exact ⟨by omega, by omega⟩ | decide | exact ⟨by simp (disch := omega) only [dt_up_s, dt_up_k, dt_up_n]; omega, by simp (disch := omega) only [dt_up_s, dt_up_k, dt_up_n]; omega⟩) (fun c2 => ?_) (fun c2 => ?_)
    · skip
      refine dt_iconst dX12_isLetter_16 ?_
      refine dt_zret dX12_isLetter_17 rfl (by decide) (by decide) (by first | exact Or.inl rfl | exact Or.inr rfl | assumption | omega) ?_
      first | exact ⟨by rw [dt_bT (by omega)], rfl, rfl⟩ | exact ⟨by rw [dt_bF (by omega)], rfl, rfl⟩
    · skip
      refine dt_iconst dX12_isLetter_12 ?_
      refine dt_goto (tgt := 17) dX12_isLetter_13 (by decide) ?_
      refine dt_zret dX12_isLetter_17 rfl (by decide) (by decide) (by first | exact Or.inl rfl | exact Or.inr rfl | assumption | omega) ?_
      first | exact ⟨by rw [dt_bT (by omega)], rfl, rfl⟩ | exact ⟨by rw [dt_bF (by omega)], rfl, rfl⟩
theorem s_X12_isFigure {sh : List dt_Shp} {σ : dt_Mem} {c : Int} (hc : dt_in32 c) : dt_Sp mX12_isFigure 0 0 0 [dt_I c] sh σ (fun v sh2 σ2 => v = some (dt_I (dt_b (48 ≤ c ∧ c ≤ 57))) ∧ sh2 = sh ∧ σ2 = σ) := by
  refine dt_Sp_of (by decide) (Nat.le_of_ble_eq_true rfl) ?_
  refine dt_wfV fun hwf => ?_
  show dt_V _ _ _ 0 0 0 [some (dt_I c)] [] _ _
  refine dt_iloadn dX12_isFigure_0 rfl rfl ?_
  refine dt_bipush dX12_isFigure_1 (by decide) ?_
  refine dt_cm_lt (tgt := 16) dX12_isFigure_3 (by decide) (by first | assumption | exact hwf _ _ | exact dt_b32 _ | omega | exact ⟨by omega, by omega⟩ | decide | exact ⟨by simp (disch := omega) only [dt_up_s, dt_up_k, dt_up_n]; omega, by simp (disch := omega) only [dt_up_s, dt_up_k, dt_up_n]; omega⟩) (by first | assumption | exact hwf _ _ | exact dt_b32 _ | omega | exact ⟨by omega, by omega⟩ | decide | exact ⟨by simp (disch := omega) only [dt_up_s, dt_up_k, dt_up_n]; omega, by simp (disch := omega) only [dt_up_s, dt_up_k, dt_up_n]; omega⟩) (fun c1 => ?_) (fun c1 => ?_)
  · skip
    refine dt_iconst dX12_isFigure_16 ?_
    refine dt_zret dX12_isFigure_17 rfl (by decide) (by decide) (by first | exact Or.inl rfl | exact Or.inr rfl | assumption | omega) ?_
    first | exact ⟨by rw [dt_bT (by omega)], rfl, rfl⟩ | exact ⟨by rw [dt_bF (by omega)], rfl, rfl⟩
  · skip
    refine dt_iloadn dX12_isFigure_6 rfl rfl ?_
    refine dt_bipush dX12_isFigure_7 (by decide) ?_
    refine dt_cm_gt (tgt := 16) dX12_isFigure_9 (by decide) (by first | assumption | exact hwf _ _ | exact dt_b32 _ | omega | exact ⟨by omega, by omega⟩ | decide | exact ⟨by simp (disch := omega) only [dt_up_s, dt_up_k, dt_up_n]; omega, by simp (disch := omega) only [dt_up_s, dt_up_k, dt_up_n]; omega⟩) (by first | assumption | exact hwf _ _ | exact dt_b32 _ | omega | exact ⟨by omega, by omega⟩ | decide | exact ⟨by simp (disch := omega) only [dt_up_s, dt_up_k, dt_up_n]; omega, by simp (disch := omega) only [dt_up_s, dt_up_k, dt_up_n]; omega⟩) (fun c2 => ?_) (fun c2 => ?_)
    · skip
      refine dt_iconst dX12_isFigure_16 ?_
      refine dt_zret dX12_isFigure_17 rfl (by decide) (by decide) (by first | exact Or.inl rfl | exact Or.inr rfl | assumption | omega) ?_
      first | exact ⟨by rw [dt_bT (by omega)], rfl, rfl⟩ | exact ⟨by rw [dt_bF (by omega)], rfl, rfl⟩
    · skip
      refine dt_iconst dX12_isFigure_12 ?_
      refine dt_goto (tgt := 17) dX12_isFigure_13 (by decide) ?_
      refine dt_zret dX12_isFigure_17 rfl (by decide) (by decide) (by first | exact Or.inl rfl | exact Or.inr rfl | assumption | omega) ?_
      first | exact ⟨by rw [dt_bT (by omega)], rfl, rfl⟩ | exact ⟨by rw [dt_bF (by omega)], rfl, rfl⟩
theorem s_X12_byteAt {ex : List dt_Shp} {σ : dt_Mem} {T : List Nat} {i : Nat} (hT : rL σ T) (hi : i < 1000) : dt_Sp mX12_byteAt 0 0 0 [dt_R 40, dt_I (i : Int)] (dt_SH ++ ex) σ (fun v sh2 σ2 => v = some (dt_I (rB T i)) ∧ sh2 = dt_SH ++ ex ∧ σ2 = σ) := by
  refine dt_Sp_of (by decide) (Nat.le_of_ble_eq_true rfl) ?_
  refine dt_wfV fun hwf => ?_
  have e1 := hT.1
  have e2 := hT.2.1
  show dt_V _ _ _ 0 0 0 [some (dt_R 40), some (dt_I (i : Int))] [] _ _
  refine dt_iloadn dX12_byteAt_0 rfl rfl ?_
  refine dt_aloadn dX12_byteAt_1 rfl rfl ?_
  refine dt_getI dX12_byteAt_2 pg_X12_86_12 rfl rfl ?_
  refine dt_cm_ge (tgt := 17) dX12_byteAt_5 (by decide) (by first | assumption | exact hwf _ _ | exact dt_b32 _ | omega | exact ⟨by omega, by omega⟩ | decide | exact ⟨by simp (disch := omega) only [dt_up_s, dt_up_k, dt_up_n]; omega, by simp (disch := omega) only [dt_up_s, dt_up_k, dt_up_n]; omega⟩) (by first | assumption | exact hwf _ _ | exact dt_b32 _ | omega | exact ⟨by omega, by omega⟩ | decide | exact ⟨by simp (disch := omega) only [dt_up_s, dt_up_k, dt_up_n]; omega, by simp (disch := omega) only [dt_up_s, dt_up_k, dt_up_n]; omega⟩) (fun c1 => ?_) (fun c1 => ?_)
  · skip
    refine dt_ldc dX12_byteAt_17 pk_X12_89 ?_
    refine dt_iret dX12_byteAt_19 rfl (by decide) (by decide) ?_
    first | exact ⟨by rw [rB_some hx, Int.toNat_natCast, e3], rfl, rfl⟩ | exact ⟨by rw [rB_none (by omega)], rfl, rfl⟩
  · skip
    obtain ⟨x, hx⟩ := dt_lg (l := T) (i := i) (by omega)
    have e3 := hT.2.2.2 i x hx
    refine dt_aloadn dX12_byteAt_8 rfl rfl ?_
    refine dt_getR dX12_byteAt_9 pg_X12_25_12 rfl rfl ?_
    refine dt_iloadn dX12_byteAt_12 rfl rfl ?_
    refine dt_iald dX12_byteAt_13 rfl (by first | omega | (simp (disch := omega) only [dt_up_s, dt_up_k, dt_up_n]; omega)) (by first | omega | (simp (disch := omega) only [dt_up_s, dt_up_k, dt_up_n]; omega)) (by decide) ?_
    refine dt_goto (tgt := 19) dX12_byteAt_14 (by decide) ?_
    refine dt_iret dX12_byteAt_19 rfl (by decide) (by decide) ?_
    first | exact ⟨by rw [rB_some hx, Int.toNat_natCast, e3], rfl, rfl⟩ | exact ⟨by rw [rB_none (by omega)], rfl, rfl⟩
theorem s_X12_next {ex : List dt_Shp} {σ : dt_Mem} {T : List Nat} {i : Nat} (hT : rL σ T) (hi : σ 40 12 = i) (hil : i ≤ T.length) : dt_Sp mX12_next 1 0 0 [dt_R 40] (dt_SH ++ ex) σ (fun v sh2 σ2 => v = none ∧ sh2 = dt_SH ++ ex ∧ rF σ σ2 ∧ σ2 40 13 = rS (tk T i).1 ∧ σ2 40 14 = (tk T i).2.1 ∧ σ2 40 15 = (tk T i).2.2 ∧ σ2 40 12 = (tk T i).2.2) := by
  refine dt_Sp_of (by decide) (Nat.le_of_ble_eq_true rfl) ?_
  refine dt_wfV fun hwf => ?_
  have e1 := hT.1
  have e2 := hT.2.1
  show dt_V _ _ _ 0 0 0 [some (dt_R 40), none] [] _ _
  have lp0 : ∀ (fu : Nat) (j : Nat) (σ1 : dt_Mem), (T.length : Int) - j < (fu : Int) → (j ≤ T.length) → (rF σ σ1) → (σ1 40 12 = j) → (tRun tBl T j = tRun tBl T i) →  dt_V mX12_next (dt_rm 1 0 0) (dt_MC (fun v sh2 σ2 => v = none ∧ sh2 = dt_SH ++ ex ∧ rF σ σ2 ∧ σ2 40 13 = rS (tk T i).1 ∧ σ2 40 14 = (tk T i).2.1 ∧ σ2 40 15 = (tk T i).2.2 ∧ σ2 40 12 = (tk T i).2.2) 0 0) 0 0 0 [some (dt_R 40), none] [] (dt_SH ++ ex) σ1 := by
    intro fu
    induction fu with
    | zero =>
      intro j σ1 hm hj hf hb hr
      exfalso
      omega
    | succ fu ih =>
      intro j σ1 hm hj hf hb hr
      refine dt_wfV fun hwf => ?_
      refine dt_aloadn dX12_next_0 rfl rfl ?_
      refine dt_aloadn dX12_next_1 rfl rfl ?_
      refine dt_getI dX12_next_2 pg_X12_90_12 rfl rfl ?_
      rw [hb]
      refine dt_xV dX12_next_5 pc_X12_93 rfl (s_X12_byteAt (hf.L hT) (by omega)) rfl rfl ⟨by decide, by decide⟩ rfl rfl (Nat.le_of_ble_eq_true rfl) ⟨by decide, by decide⟩ (dt_k3 ?_)
      refine dt_bipush dX12_next_8 (by decide) ?_
      refine dt_cm_eq (tgt := 26) dX12_next_10 (by decide) (rB_in hT.2.2.1 _) (by first | assumption | exact hwf _ _ | exact dt_b32 _ | omega | exact ⟨by omega, by omega⟩ | decide | exact ⟨by simp (disch := omega) only [dt_up_s, dt_up_k, dt_up_n]; omega, by simp (disch := omega) only [dt_up_s, dt_up_k, dt_up_n]; omega⟩) (fun c1 => ?_) (fun c1 => ?_)
      · skip
        obtain ⟨hjl, hrr⟩ := rB_bl (T := T) (i := j) (by omega)
        refine dt_aloadn dX12_next_26 rfl rfl ?_
        refine dt_dupR dX12_next_27 ?_
        refine dt_getI dX12_next_28 pg_X12_90_12 rfl rfl ?_
        refine dt_iconst dX12_next_31 ?_
        refine dt_iadd dX12_next_32 ?_
        refine dt_wfV fun hwf => ?_
        refine dt_putI dX12_next_33 pw_X12_90_12 rfl rfl (by first | assumption | exact hwf _ _ | exact dt_b32 _ | omega | exact ⟨by omega, by omega⟩ | decide | exact ⟨by simp (disch := omega) only [dt_up_s, dt_up_k, dt_up_n]; omega, by simp (disch := omega) only [dt_up_s, dt_up_k, dt_up_n]; omega⟩) ?_
        refine dt_goto (tgt := 0) dX12_next_36 (by decide) ?_
        exact dt_lb (ih (j + 1) _ (by omega) (by omega) (hf.up (by decide) (by decide)) (by rw [dt_up_s, hb]; rfl) (by rw [← hr]; exact hrr.symm)) ⟨rfl, trivial⟩
      · skip
        refine dt_aloadn dX12_next_13 rfl rfl ?_
        refine dt_aloadn dX12_next_14 rfl rfl ?_
        refine dt_getI dX12_next_15 pg_X12_90_12 rfl rfl ?_
        rw [hb]
        refine dt_xV dX12_next_18 pc_X12_93 rfl (s_X12_byteAt (hf.L hT) (by omega)) rfl rfl ⟨by decide, by decide⟩ rfl rfl (Nat.le_of_ble_eq_true rfl) ⟨by decide, by decide⟩ (dt_k3 ?_)
        refine dt_bipush dX12_next_21 (by decide) ?_
        refine dt_cm_ne (tgt := 39) dX12_next_23 (by decide) (rB_in hT.2.2.1 _) (by first | assumption | exact hwf _ _ | exact dt_b32 _ | omega | exact ⟨by omega, by omega⟩ | decide | exact ⟨by simp (disch := omega) only [dt_up_s, dt_up_k, dt_up_n]; omega, by simp (disch := omega) only [dt_up_s, dt_up_k, dt_up_n]; omega⟩) (fun c2 => ?_) (fun c2 => ?_)
        · skip
          have hJ : tRun tBl T i = j := by rw [← hr]; exact rB_nb (by assumption) (by assumption)
          refine dt_aloadn dX12_next_39 rfl rfl ?_
          refine dt_aloadn dX12_next_40 rfl rfl ?_
          refine dt_getI dX12_next_41 pg_X12_90_12 rfl rfl ?_
          rw [hb]
          refine dt_wfV fun hwf => ?_
          refine dt_putI dX12_next_44 pw_X12_96_12 rfl rfl (by first | assumption | exact hwf _ _ | exact dt_b32 _ | omega | exact ⟨by omega, by omega⟩ | decide | exact ⟨by simp (disch := omega) only [dt_up_s, dt_up_k, dt_up_n]; omega, by simp (disch := omega) only [dt_up_s, dt_up_k, dt_up_n]; omega⟩) ?_
          obtain ⟨σ3, h3⟩ : ∃ z, z = dt_up σ1 40 14 (j : Int) := ⟨_, rfl⟩
          rw [← h3]
          have f3 : rF σ σ3 := h3 ▸ hf.up (by decide) (by decide)
          have b3 : σ3 40 14 = j := by rw [h3, dt_up_s]
          have n3 : σ3 40 12 = j := by rw [h3, dt_up_k (by decide)]; exact hb
          have hT3 := f3.L hT
          clear h3
          refine dt_wfV fun hwf => ?_
          refine dt_aloadn dX12_next_47 rfl rfl ?_
          refine dt_aloadn dX12_next_48 rfl rfl ?_
          refine dt_getI dX12_next_49 pg_X12_90_12 rfl rfl ?_
          rw [n3]
          refine dt_xV dX12_next_52 pc_X12_93 rfl (s_X12_byteAt hT3 (by omega)) rfl rfl ⟨by decide, by decide⟩ rfl rfl (Nat.le_of_ble_eq_true rfl) ⟨by decide, by decide⟩ (dt_k3 ?_)
          refine dt_istoren dX12_next_55 rfl (by decide) rfl ?_
          dsimp only [List.set]
          refine dt_iloadn dX12_next_56 rfl rfl ?_
          refine dt_ldc dX12_next_57 pk_X12_89 ?_
          refine dt_cm_ne (tgt := 70) dX12_next_59 (by decide) (rB_in hT.2.2.1 _) (by first | assumption | exact hwf _ _ | exact dt_b32 _ | omega | exact ⟨by omega, by omega⟩ | decide | exact ⟨by simp (disch := omega) only [dt_up_s, dt_up_k, dt_up_n]; omega, by simp (disch := omega) only [dt_up_s, dt_up_k, dt_up_n]; omega⟩) (fun c3 => ?_) (fun c3 => ?_)
          · skip
            obtain ⟨hend, -⟩ | ⟨x, hx, hx2, hjl⟩ := rB_c T j
            · exact absurd (rB_none hend) (by assumption)
            have hx8 := hT.2.2.1 x (List.mem_of_getElem? hx)
            rw [hx2]
            refine dt_iloadn dX12_next_70 rfl rfl ?_
            refine dt_xS dX12_next_71 pc_X12_102 (s_X12_isLetter (by first | assumption | exact hwf _ _ | exact dt_b32 _ | omega | exact ⟨by omega, by omega⟩ | decide | exact ⟨by simp (disch := omega) only [dt_up_s, dt_up_k, dt_up_n]; omega, by simp (disch := omega) only [dt_up_s, dt_up_k, dt_up_n]; omega⟩)) rfl rfl ⟨by decide, by decide⟩ (Nat.le_of_ble_eq_true rfl) ⟨by decide, by decide⟩ (dt_k3 ?_)
            refine dt_if_eq (tgt := 112) dX12_next_74 (by decide) (by first | assumption | exact hwf _ _ | exact dt_b32 _ | omega | exact ⟨by omega, by omega⟩ | decide | exact ⟨by simp (disch := omega) only [dt_up_s, dt_up_k, dt_up_n]; omega, by simp (disch := omega) only [dt_up_s, dt_up_k, dt_up_n]; omega⟩) (fun c4 => ?_) (fun c4 => ?_)
            · skip
              try simp only [dt_b0, dt_b1, Decidable.not_not, Classical.not_not] at c4
              have hle : ¬ tLe x = true := fun q => by have := tLe_i.mp q; omega
              refine dt_iloadn dX12_next_112 rfl rfl ?_
              refine dt_xS dX12_next_113 pc_X12_105 (s_X12_isFigure (by first | assumption | exact hwf _ _ | exact dt_b32 _ | omega | exact ⟨by omega, by omega⟩ | decide | exact ⟨by simp (disch := omega) only [dt_up_s, dt_up_k, dt_up_n]; omega, by simp (disch := omega) only [dt_up_s, dt_up_k, dt_up_n]; omega⟩)) rfl rfl ⟨by decide, by decide⟩ (Nat.le_of_ble_eq_true rfl) ⟨by decide, by decide⟩ (dt_k3 ?_)
              refine dt_if_eq (tgt := 171) dX12_next_116 (by decide) (by first | assumption | exact hwf _ _ | exact dt_b32 _ | omega | exact ⟨by omega, by omega⟩ | decide | exact ⟨by simp (disch := omega) only [dt_up_s, dt_up_k, dt_up_n]; omega, by simp (disch := omega) only [dt_up_s, dt_up_k, dt_up_n]; omega⟩) (fun c5 => ?_) (fun c5 => ?_)
              · skip
                try simp only [dt_b0, dt_b1, Decidable.not_not, Classical.not_not] at c5
                have hfi : ¬ tFi x = true := fun q => by have := tFi_i.mp q; omega
                refine dt_aloadn dX12_next_171 rfl rfl ?_
                refine dt_dupR dX12_next_172 ?_
                refine dt_getI dX12_next_173 pg_X12_90_12 rfl rfl ?_
                refine dt_iconst dX12_next_176 ?_
                refine dt_iadd dX12_next_177 ?_
                refine dt_wfV fun hwf => ?_
                refine dt_putI dX12_next_178 pw_X12_90_12 rfl rfl (by first | assumption | exact hwf _ _ | exact dt_b32 _ | omega | exact ⟨by omega, by omega⟩ | decide | exact ⟨by simp (disch := omega) only [dt_up_s, dt_up_k, dt_up_n]; omega, by simp (disch := omega) only [dt_up_s, dt_up_k, dt_up_n]; omega⟩) ?_
                refine dt_aloadn dX12_next_181 rfl rfl ?_
                refine dt_iloadn dX12_next_182 rfl rfl ?_
                refine dt_bipush dX12_next_183 (by decide) ?_
                refine dt_cm_ne (tgt := 192) dX12_next_185 (by decide) (by first | assumption | exact hwf _ _ | exact dt_b32 _ | omega | exact ⟨by omega, by omega⟩ | decide | exact ⟨by simp (disch := omega) only [dt_up_s, dt_up_k, dt_up_n]; omega, by simp (disch := omega) only [dt_up_s, dt_up_k, dt_up_n]; omega⟩) (by first | assumption | exact hwf _ _ | exact dt_b32 _ | omega | exact ⟨by omega, by omega⟩ | decide | exact ⟨by simp (disch := omega) only [dt_up_s, dt_up_k, dt_up_n]; omega, by simp (disch := omega) only [dt_up_s, dt_up_k, dt_up_n]; omega⟩) (fun c6 => ?_) (fun c6 => ?_)
                · skip
                  refine dt_iconst dX12_next_192 ?_
                  refine dt_wfV fun hwf => ?_
                  refine dt_putI dX12_next_193 pw_X12_99_12 rfl rfl (by first | assumption | exact hwf _ _ | exact dt_b32 _ | omega | exact ⟨by omega, by omega⟩ | decide | exact ⟨by simp (disch := omega) only [dt_up_s, dt_up_k, dt_up_n]; omega, by simp (disch := omega) only [dt_up_s, dt_up_k, dt_up_n]; omega⟩) ?_
                  refine dt_aloadn dX12_next_196 rfl rfl ?_
                  refine dt_aloadn dX12_next_197 rfl rfl ?_
                  refine dt_getI dX12_next_198 pg_X12_90_12 rfl rfl ?_
                  refine dt_wfV fun hwf => ?_
                  refine dt_putI dX12_next_201 pw_X12_108_12 rfl rfl (by first | assumption | exact hwf _ _ | exact dt_b32 _ | omega | exact ⟨by omega, by omega⟩ | decide | exact ⟨by simp (disch := omega) only [dt_up_s, dt_up_k, dt_up_n]; omega, by simp (disch := omega) only [dt_up_s, dt_up_k, dt_up_n]; omega⟩) ?_
                  refine dt_vret dX12_next_204 rfl (by decide) (by decide) ?_
                  refine ⟨rfl, rfl, (((f3.up (by decide) (by decide)).up (by decide) (by decide)).up (by decide) (by decide)), ?_, ?_, ?_, ?_⟩
                  · rw [tk_s hJ hx hle hfi]; simp (disch := decide) only [dt_up_s, dt_up_k]; first | (rw [if_pos (by omega)]; rfl) | (rw [if_neg (by omega)]; rfl)
                  · rw [tk_s hJ hx hle hfi]; simp (disch := decide) only [dt_up_s, dt_up_k]; first | exact b3 | exact n3 | exact b4 | exact n4 | (rw [n3]; rfl)
                  · rw [tk_s hJ hx hle hfi]; simp (disch := decide) only [dt_up_s, dt_up_k]; first | exact b3 | exact n3 | exact b4 | exact n4 | (rw [n3]; rfl)
                  · rw [tk_s hJ hx hle hfi]; simp (disch := decide) only [dt_up_s, dt_up_k]; first | exact b3 | exact n3 | exact b4 | exact n4 | (rw [n3]; rfl)
                · skip
                  refine dt_iconst dX12_next_188 ?_
                  refine dt_goto (tgt := 193) dX12_next_189 (by decide) ?_
                  refine dt_wfV fun hwf => ?_
                  refine dt_putI dX12_next_193 pw_X12_99_12 rfl rfl (by first | assumption | exact hwf _ _ | exact dt_b32 _ | omega | exact ⟨by omega, by omega⟩ | decide | exact ⟨by simp (disch := omega) only [dt_up_s, dt_up_k, dt_up_n]; omega, by simp (disch := omega) only [dt_up_s, dt_up_k, dt_up_n]; omega⟩) ?_
                  refine dt_aloadn dX12_next_196 rfl rfl ?_
                  refine dt_aloadn dX12_next_197 rfl rfl ?_
                  refine dt_getI dX12_next_198 pg_X12_90_12 rfl rfl ?_
                  refine dt_wfV fun hwf => ?_
                  refine dt_putI dX12_next_201 pw_X12_108_12 rfl rfl (by first | assumption | exact hwf _ _ | exact dt_b32 _ | omega | exact ⟨by omega, by omega⟩ | decide | exact ⟨by simp (disch := omega) only [dt_up_s, dt_up_k, dt_up_n]; omega, by simp (disch := omega) only [dt_up_s, dt_up_k, dt_up_n]; omega⟩) ?_
                  refine dt_vret dX12_next_204 rfl (by decide) (by decide) ?_
                  refine ⟨rfl, rfl, (((f3.up (by decide) (by decide)).up (by decide) (by decide)).up (by decide) (by decide)), ?_, ?_, ?_, ?_⟩
                  · rw [tk_s hJ hx hle hfi]; simp (disch := decide) only [dt_up_s, dt_up_k]; first | (rw [if_pos (by omega)]; rfl) | (rw [if_neg (by omega)]; rfl)
                  · rw [tk_s hJ hx hle hfi]; simp (disch := decide) only [dt_up_s, dt_up_k]; first | exact b3 | exact n3 | exact b4 | exact n4 | (rw [n3]; rfl)
                  · rw [tk_s hJ hx hle hfi]; simp (disch := decide) only [dt_up_s, dt_up_k]; first | exact b3 | exact n3 | exact b4 | exact n4 | (rw [n3]; rfl)
                  · rw [tk_s hJ hx hle hfi]; simp (disch := decide) only [dt_up_s, dt_up_k]; first | exact b3 | exact n3 | exact b4 | exact n4 | (rw [n3]; rfl)
              · skip
                try simp only [dt_b0, dt_b1, Decidable.not_not, Classical.not_not] at c5
                have hfi : tFi x = true := tFi_i.mpr (by omega)
                have lp119 : ∀ (fu : Nat) (e : Nat) (σ4 : dt_Mem), (T.length : Int) - e < (fu : Int) → (e ≤ T.length) → (j ≤ e) → (rF σ σ4) → (σ4 40 14 = j) → (σ4 40 12 = e) → (tRun tFi T e = tRun tFi T (j + 1)) →  dt_V mX12_next (dt_rm 1 0 0) (dt_MC (fun v sh2 σ2 => v = none ∧ sh2 = dt_SH ++ ex ∧ rF σ σ2 ∧ σ2 40 13 = rS (tk T i).1 ∧ σ2 40 14 = (tk T i).2.1 ∧ σ2 40 15 = (tk T i).2.2 ∧ σ2 40 12 = (tk T i).2.2) 0 0) 0 0 119 [some (dt_R 40), none] [] (dt_SH ++ ex) σ4 := by
                  intro fu
                  induction fu with
                  | zero =>
                    intro e σ4 hm he hje f4 b4 n4 r4
                    exfalso
                    omega
                  | succ fu ih =>
                    intro e σ4 hm he hje f4 b4 n4 r4
                    refine dt_wfV fun hwf => ?_
                    refine dt_aloadn dX12_next_119 rfl rfl ?_
                    refine dt_aloadn dX12_next_120 rfl rfl ?_
                    refine dt_getI dX12_next_121 pg_X12_90_12 rfl rfl ?_
                    rw [n4]
                    refine dt_xV dX12_next_124 pc_X12_93 rfl (s_X12_byteAt (f4.L hT) (by omega)) rfl rfl ⟨by decide, by decide⟩ rfl rfl (Nat.le_of_ble_eq_true rfl) ⟨by decide, by decide⟩ (dt_k3 ?_)
                    refine dt_xS dX12_next_127 pc_X12_105 (s_X12_isFigure (rB_in hT.2.2.1 _)) rfl rfl ⟨by decide, by decide⟩ (Nat.le_of_ble_eq_true rfl) ⟨by decide, by decide⟩ (dt_k3 ?_)
                    refine dt_if_eq (tgt := 146) dX12_next_130 (by decide) (by first | assumption | exact hwf _ _ | exact dt_b32 _ | omega | exact ⟨by omega, by omega⟩ | decide | exact ⟨by simp (disch := omega) only [dt_up_s, dt_up_k, dt_up_n]; omega, by simp (disch := omega) only [dt_up_s, dt_up_k, dt_up_n]; omega⟩) (fun c7 => ?_) (fun c7 => ?_)
                    · skip
                      try simp only [dt_b0, dt_b1, Decidable.not_not, Classical.not_not] at c7
                      have hE : tRun tFi T (j + 1) = e := by rw [← r4]; exact rB_nfi (by assumption)
                      refine dt_aloadn dX12_next_146 rfl rfl ?_
                      refine dt_aloadn dX12_next_147 rfl rfl ?_
                      refine dt_getI dX12_next_148 pg_X12_90_12 rfl rfl ?_
                      refine dt_aloadn dX12_next_151 rfl rfl ?_
                      refine dt_getI dX12_next_152 pg_X12_96_12 rfl rfl ?_
                      refine dt_isub dX12_next_155 ?_
                      refine dt_iconst dX12_next_156 ?_
                      refine dt_cm_le (tgt := 164) dX12_next_157 (by decide) (by first | assumption | exact hwf _ _ | exact dt_b32 _ | omega | exact ⟨by omega, by omega⟩ | decide | exact ⟨by simp (disch := omega) only [dt_up_s, dt_up_k, dt_up_n]; omega, by simp (disch := omega) only [dt_up_s, dt_up_k, dt_up_n]; omega⟩) (by first | assumption | exact hwf _ _ | exact dt_b32 _ | omega | exact ⟨by omega, by omega⟩ | decide | exact ⟨by simp (disch := omega) only [dt_up_s, dt_up_k, dt_up_n]; omega, by simp (disch := omega) only [dt_up_s, dt_up_k, dt_up_n]; omega⟩) (fun c8 => ?_) (fun c8 => ?_)
                      · skip
                        refine dt_iconst dX12_next_164 ?_
                        refine dt_wfV fun hwf => ?_
                        refine dt_putI dX12_next_165 pw_X12_99_12 rfl rfl (by first | assumption | exact hwf _ _ | exact dt_b32 _ | omega | exact ⟨by omega, by omega⟩ | decide | exact ⟨by simp (disch := omega) only [dt_up_s, dt_up_k, dt_up_n]; omega, by simp (disch := omega) only [dt_up_s, dt_up_k, dt_up_n]; omega⟩) ?_
                        refine dt_goto (tgt := 196) dX12_next_168 (by decide) ?_
                        refine dt_aloadn dX12_next_196 rfl rfl ?_
                        refine dt_aloadn dX12_next_197 rfl rfl ?_
                        refine dt_getI dX12_next_198 pg_X12_90_12 rfl rfl ?_
                        refine dt_wfV fun hwf => ?_
                        refine dt_putI dX12_next_201 pw_X12_108_12 rfl rfl (by first | assumption | exact hwf _ _ | exact dt_b32 _ | omega | exact ⟨by omega, by omega⟩ | decide | exact ⟨by simp (disch := omega) only [dt_up_s, dt_up_k, dt_up_n]; omega, by simp (disch := omega) only [dt_up_s, dt_up_k, dt_up_n]; omega⟩) ?_
                        refine dt_vret dX12_next_204 rfl (by decide) (by decide) ?_
                        refine ⟨rfl, rfl, ((f4.up (by decide) (by decide)).up (by decide) (by decide)), ?_, ?_, ?_, ?_⟩
                        · rw [tk_f hJ hx hle hfi hE]; simp (disch := decide) only [dt_up_s, dt_up_k]; first | (rw [if_pos (by omega)]; rfl) | (rw [if_neg (by omega)]; rfl)
                        · rw [tk_f hJ hx hle hfi hE]; simp (disch := decide) only [dt_up_s, dt_up_k]; first | exact b3 | exact n3 | exact b4 | exact n4 | (rw [n3]; rfl)
                        · rw [tk_f hJ hx hle hfi hE]; simp (disch := decide) only [dt_up_s, dt_up_k]; first | exact b3 | exact n3 | exact b4 | exact n4 | (rw [n3]; rfl)
                        · rw [tk_f hJ hx hle hfi hE]; simp (disch := decide) only [dt_up_s, dt_up_k]; first | exact b3 | exact n3 | exact b4 | exact n4 | (rw [n3]; rfl)
                      · skip
                        refine dt_iconst dX12_next_160 ?_
                        refine dt_goto (tgt := 165) dX12_next_161 (by decide) ?_
                        refine dt_wfV fun hwf => ?_
                        refine dt_putI dX12_next_165 pw_X12_99_12 rfl rfl (by first | assumption | exact hwf _ _ | exact dt_b32 _ | omega | exact ⟨by omega, by omega⟩ | decide | exact ⟨by simp (disch := omega) only [dt_up_s, dt_up_k, dt_up_n]; omega, by simp (disch := omega) only [dt_up_s, dt_up_k, dt_up_n]; omega⟩) ?_
                        refine dt_goto (tgt := 196) dX12_next_168 (by decide) ?_
                        refine dt_aloadn dX12_next_196 rfl rfl ?_
                        refine dt_aloadn dX12_next_197 rfl rfl ?_
                        refine dt_getI dX12_next_198 pg_X12_90_12 rfl rfl ?_
                        refine dt_wfV fun hwf => ?_
                        refine dt_putI dX12_next_201 pw_X12_108_12 rfl rfl (by first | assumption | exact hwf _ _ | exact dt_b32 _ | omega | exact ⟨by omega, by omega⟩ | decide | exact ⟨by simp (disch := omega) only [dt_up_s, dt_up_k, dt_up_n]; omega, by simp (disch := omega) only [dt_up_s, dt_up_k, dt_up_n]; omega⟩) ?_
                        refine dt_vret dX12_next_204 rfl (by decide) (by decide) ?_
                        refine ⟨rfl, rfl, ((f4.up (by decide) (by decide)).up (by decide) (by decide)), ?_, ?_, ?_, ?_⟩
                        · rw [tk_f hJ hx hle hfi hE]; simp (disch := decide) only [dt_up_s, dt_up_k]; first | (rw [if_pos (by omega)]; rfl) | (rw [if_neg (by omega)]; rfl)
                        · rw [tk_f hJ hx hle hfi hE]; simp (disch := decide) only [dt_up_s, dt_up_k]; first | exact b3 | exact n3 | exact b4 | exact n4 | (rw [n3]; rfl)
                        · rw [tk_f hJ hx hle hfi hE]; simp (disch := decide) only [dt_up_s, dt_up_k]; first | exact b3 | exact n3 | exact b4 | exact n4 | (rw [n3]; rfl)
                        · rw [tk_f hJ hx hle hfi hE]; simp (disch := decide) only [dt_up_s, dt_up_k]; first | exact b3 | exact n3 | exact b4 | exact n4 | (rw [n3]; rfl)
                    · skip
                      try simp only [dt_b0, dt_b1, Decidable.not_not, Classical.not_not] at c7
                      obtain ⟨hel, hrr⟩ := rB_fi (by assumption)
                      refine dt_aloadn dX12_next_133 rfl rfl ?_
                      refine dt_dupR dX12_next_134 ?_
                      refine dt_getI dX12_next_135 pg_X12_90_12 rfl rfl ?_
                      refine dt_iconst dX12_next_138 ?_
                      refine dt_iadd dX12_next_139 ?_
                      refine dt_wfV fun hwf => ?_
                      refine dt_putI dX12_next_140 pw_X12_90_12 rfl rfl (by first | assumption | exact hwf _ _ | exact dt_b32 _ | omega | exact ⟨by omega, by omega⟩ | decide | exact ⟨by simp (disch := omega) only [dt_up_s, dt_up_k, dt_up_n]; omega, by simp (disch := omega) only [dt_up_s, dt_up_k, dt_up_n]; omega⟩) ?_
                      refine dt_goto (tgt := 119) dX12_next_143 (by decide) ?_
                      exact dt_lb (ih (e + 1) _ (by omega) (by omega) (by omega) (f4.up (by decide) (by decide)) ((dt_up_k (by decide)).trans b4) (by rw [dt_up_s, n4]; rfl) (by rw [← r4]; exact hrr.symm)) ⟨rfl, trivial⟩
                exact dt_lb (lp119 501 j σ3 (by omega) (by omega) (Nat.le_refl j) f3 b3 n3 (tRun_y hx hfi)) ⟨rfl, trivial⟩
            · skip
              try simp only [dt_b0, dt_b1, Decidable.not_not, Classical.not_not] at c4
              have hle : tLe x = true := tLe_i.mpr (by omega)
              have lp77 : ∀ (fu : Nat) (e : Nat) (σ4 : dt_Mem), (T.length : Int) - e < (fu : Int) → (e ≤ T.length) → (j ≤ e) → (rF σ σ4) → (σ4 40 14 = j) → (σ4 40 12 = e) → (tRun tLe T e = tRun tLe T (j + 1)) →  dt_V mX12_next (dt_rm 1 0 0) (dt_MC (fun v sh2 σ2 => v = none ∧ sh2 = dt_SH ++ ex ∧ rF σ σ2 ∧ σ2 40 13 = rS (tk T i).1 ∧ σ2 40 14 = (tk T i).2.1 ∧ σ2 40 15 = (tk T i).2.2 ∧ σ2 40 12 = (tk T i).2.2) 0 0) 0 0 77 [some (dt_R 40), none] [] (dt_SH ++ ex) σ4 := by
                intro fu
                induction fu with
                | zero =>
                  intro e σ4 hm he hje f4 b4 n4 r4
                  exfalso
                  omega
                | succ fu ih =>
                  intro e σ4 hm he hje f4 b4 n4 r4
                  refine dt_wfV fun hwf => ?_
                  refine dt_aloadn dX12_next_77 rfl rfl ?_
                  refine dt_aloadn dX12_next_78 rfl rfl ?_
                  refine dt_getI dX12_next_79 pg_X12_90_12 rfl rfl ?_
                  rw [n4]
                  refine dt_xV dX12_next_82 pc_X12_93 rfl (s_X12_byteAt (f4.L hT) (by omega)) rfl rfl ⟨by decide, by decide⟩ rfl rfl (Nat.le_of_ble_eq_true rfl) ⟨by decide, by decide⟩ (dt_k3 ?_)
                  refine dt_xS dX12_next_85 pc_X12_102 (s_X12_isLetter (rB_in hT.2.2.1 _)) rfl rfl ⟨by decide, by decide⟩ (Nat.le_of_ble_eq_true rfl) ⟨by decide, by decide⟩ (dt_k3 ?_)
                  refine dt_if_eq (tgt := 104) dX12_next_88 (by decide) (by first | assumption | exact hwf _ _ | exact dt_b32 _ | omega | exact ⟨by omega, by omega⟩ | decide | exact ⟨by simp (disch := omega) only [dt_up_s, dt_up_k, dt_up_n]; omega, by simp (disch := omega) only [dt_up_s, dt_up_k, dt_up_n]; omega⟩) (fun c9 => ?_) (fun c9 => ?_)
                  · skip
                    try simp only [dt_b0, dt_b1, Decidable.not_not, Classical.not_not] at c9
                    have hE : tRun tLe T (j + 1) = e := by rw [← r4]; exact rB_nle (by assumption)
                    refine dt_aloadn dX12_next_104 rfl rfl ?_
                    refine dt_iconst dX12_next_105 ?_
                    refine dt_wfV fun hwf => ?_
                    refine dt_putI dX12_next_106 pw_X12_99_12 rfl rfl (by first | assumption | exact hwf _ _ | exact dt_b32 _ | omega | exact ⟨by omega, by omega⟩ | decide | exact ⟨by simp (disch := omega) only [dt_up_s, dt_up_k, dt_up_n]; omega, by simp (disch := omega) only [dt_up_s, dt_up_k, dt_up_n]; omega⟩) ?_
                    refine dt_goto (tgt := 196) dX12_next_109 (by decide) ?_
                    refine dt_aloadn dX12_next_196 rfl rfl ?_
                    refine dt_aloadn dX12_next_197 rfl rfl ?_
                    refine dt_getI dX12_next_198 pg_X12_90_12 rfl rfl ?_
                    refine dt_wfV fun hwf => ?_
                    refine dt_putI dX12_next_201 pw_X12_108_12 rfl rfl (by first | assumption | exact hwf _ _ | exact dt_b32 _ | omega | exact ⟨by omega, by omega⟩ | decide | exact ⟨by simp (disch := omega) only [dt_up_s, dt_up_k, dt_up_n]; omega, by simp (disch := omega) only [dt_up_s, dt_up_k, dt_up_n]; omega⟩) ?_
                    refine dt_vret dX12_next_204 rfl (by decide) (by decide) ?_
                    refine ⟨rfl, rfl, ((f4.up (by decide) (by decide)).up (by decide) (by decide)), ?_, ?_, ?_, ?_⟩
                    · rw [tk_n hJ hx hle hE]; simp (disch := decide) only [dt_up_s, dt_up_k]; rfl
                    · rw [tk_n hJ hx hle hE]; simp (disch := decide) only [dt_up_s, dt_up_k]; first | exact b3 | exact n3 | exact b4 | exact n4 | (rw [n3]; rfl)
                    · rw [tk_n hJ hx hle hE]; simp (disch := decide) only [dt_up_s, dt_up_k]; first | exact b3 | exact n3 | exact b4 | exact n4 | (rw [n3]; rfl)
                    · rw [tk_n hJ hx hle hE]; simp (disch := decide) only [dt_up_s, dt_up_k]; first | exact b3 | exact n3 | exact b4 | exact n4 | (rw [n3]; rfl)
                  · skip
                    try simp only [dt_b0, dt_b1, Decidable.not_not, Classical.not_not] at c9
                    obtain ⟨hel, hrr⟩ := rB_le (by assumption)
                    refine dt_aloadn dX12_next_91 rfl rfl ?_
                    refine dt_dupR dX12_next_92 ?_
                    refine dt_getI dX12_next_93 pg_X12_90_12 rfl rfl ?_
                    refine dt_iconst dX12_next_96 ?_
                    refine dt_iadd dX12_next_97 ?_
                    refine dt_wfV fun hwf => ?_
                    refine dt_putI dX12_next_98 pw_X12_90_12 rfl rfl (by first | assumption | exact hwf _ _ | exact dt_b32 _ | omega | exact ⟨by omega, by omega⟩ | decide | exact ⟨by simp (disch := omega) only [dt_up_s, dt_up_k, dt_up_n]; omega, by simp (disch := omega) only [dt_up_s, dt_up_k, dt_up_n]; omega⟩) ?_
                    refine dt_goto (tgt := 77) dX12_next_101 (by decide) ?_
                    exact dt_lb (ih (e + 1) _ (by omega) (by omega) (by omega) (f4.up (by decide) (by decide)) ((dt_up_k (by decide)).trans b4) (by rw [dt_up_s, n4]; rfl) (by rw [← r4]; exact hrr.symm)) ⟨rfl, trivial⟩
              exact dt_lb (lp77 501 j σ3 (by omega) (by omega) (Nat.le_refl j) f3 b3 n3 (tRun_y hx hle)) ⟨rfl, trivial⟩
          · skip
            have hend : T.length ≤ j := by
              rcases rB_c T j with ⟨q, -⟩ | ⟨x, hx, hx2, hjl⟩
              · exact q
              · omega
            refine dt_aloadn dX12_next_62 rfl rfl ?_
            refine dt_iconst dX12_next_63 ?_
            refine dt_wfV fun hwf => ?_
            refine dt_putI dX12_next_64 pw_X12_99_12 rfl rfl (by first | assumption | exact hwf _ _ | exact dt_b32 _ | omega | exact ⟨by omega, by omega⟩ | decide | exact ⟨by simp (disch := omega) only [dt_up_s, dt_up_k, dt_up_n]; omega, by simp (disch := omega) only [dt_up_s, dt_up_k, dt_up_n]; omega⟩) ?_
            refine dt_goto (tgt := 196) dX12_next_67 (by decide) ?_
            refine dt_aloadn dX12_next_196 rfl rfl ?_
            refine dt_aloadn dX12_next_197 rfl rfl ?_
            refine dt_getI dX12_next_198 pg_X12_90_12 rfl rfl ?_
            refine dt_wfV fun hwf => ?_
            refine dt_putI dX12_next_201 pw_X12_108_12 rfl rfl (by first | assumption | exact hwf _ _ | exact dt_b32 _ | omega | exact ⟨by omega, by omega⟩ | decide | exact ⟨by simp (disch := omega) only [dt_up_s, dt_up_k, dt_up_n]; omega, by simp (disch := omega) only [dt_up_s, dt_up_k, dt_up_n]; omega⟩) ?_
            refine dt_vret dX12_next_204 rfl (by decide) (by decide) ?_
            refine ⟨rfl, rfl, ((f3.up (by decide) (by decide)).up (by decide) (by decide)), ?_, ?_, ?_, ?_⟩
            · rw [tk_e hJ hend]; simp (disch := decide) only [dt_up_s, dt_up_k]; rfl
            · rw [tk_e hJ hend]; simp (disch := decide) only [dt_up_s, dt_up_k]; first | exact b3 | exact n3 | exact b4 | exact n4 | (rw [n3]; rfl)
            · rw [tk_e hJ hend]; simp (disch := decide) only [dt_up_s, dt_up_k]; first | exact b3 | exact n3 | exact b4 | exact n4 | (rw [n3]; rfl)
            · rw [tk_e hJ hend]; simp (disch := decide) only [dt_up_s, dt_up_k]; first | exact b3 | exact n3 | exact b4 | exact n4 | (rw [n3]; rfl)
        · skip
          obtain ⟨hjl, hrr⟩ := rB_bl (T := T) (i := j) (by omega)
          refine dt_aloadn dX12_next_26 rfl rfl ?_
          refine dt_dupR dX12_next_27 ?_
          refine dt_getI dX12_next_28 pg_X12_90_12 rfl rfl ?_
          refine dt_iconst dX12_next_31 ?_
          refine dt_iadd dX12_next_32 ?_
          refine dt_wfV fun hwf => ?_
          refine dt_putI dX12_next_33 pw_X12_90_12 rfl rfl (by first | assumption | exact hwf _ _ | exact dt_b32 _ | omega | exact ⟨by omega, by omega⟩ | decide | exact ⟨by simp (disch := omega) only [dt_up_s, dt_up_k, dt_up_n]; omega, by simp (disch := omega) only [dt_up_s, dt_up_k, dt_up_n]; omega⟩) ?_
          refine dt_goto (tgt := 0) dX12_next_36 (by decide) ?_
          exact dt_lb (ih (j + 1) _ (by omega) (by omega) (hf.up (by decide) (by decide)) (by rw [dt_up_s, hb]; rfl) (by rw [← hr]; exact hrr.symm)) ⟨rfl, trivial⟩
  exact dt_lb (lp0 501 i σ (by omega) hil (fun _ _ _ => rfl) hi rfl) ⟨rfl, trivial⟩
