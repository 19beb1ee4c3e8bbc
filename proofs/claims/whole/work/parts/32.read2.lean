
theorem tk_ok {T : List Nat} {i : Nat} (hi : i ≤ T.length) : (tk T i).2.1 ≤ (tk T i).2.2 ∧ (tk T i).2.2 ≤ T.length ∧ (tk T i).1 ≤ 4 ∧ ((tk T i).1 = 2 → (tk T i).2.2 - (tk T i).2.1 ≤ 3 ∧ ∀ k, (tk T i).2.1 ≤ k → k < (tk T i).2.2 → ∃ x, T[k]? = some x ∧ 48 ≤ x ∧ x ≤ 57) ∧ ((tk T i).1 = 1 → ∀ k, (tk T i).2.1 ≤ k → k < (tk T i).2.2 → ∃ x, T[k]? = some x ∧ 97 ≤ x ∧ x ≤ 122) := by
  obtain ⟨a1, a2, -⟩ := tRun_ok tBl T (T.length - i) i (Nat.le_refl _) hi
  obtain ⟨j, hJ⟩ : ∃ j, tRun tBl T i = j := ⟨_, rfl⟩
  rw [hJ] at a1 a2
  rcases Nat.lt_or_ge j T.length with hl | hl
  · obtain ⟨x, hx⟩ := dt_lg hl
    by_cases g1 : tLe x = true
    · obtain ⟨b1, b2, b3⟩ := tRun_ok tLe T (T.length - (j + 1)) (j + 1) (Nat.le_refl _) hl
      rw [tk_n hJ hx g1 rfl]
      refine ⟨by show j ≤ tRun tLe T (j + 1); omega, b2, by show 1 ≤ 4; decide, fun h => by have h : (1 : Nat) = 2 := h; omega, fun _ k h1 h2 => ?_⟩
      have h1 : j ≤ k := h1
      by_cases e : k = j
      · subst e; exact ⟨x, hx, tLe_i.mp g1⟩
      · obtain ⟨y, hy, hp⟩ := b3 k (by omega) h2
        exact ⟨y, hy, tLe_i.mp hp⟩
    · by_cases g2 : tFi x = true
      · obtain ⟨b1, b2, b3⟩ := tRun_ok tFi T (T.length - (j + 1)) (j + 1) (Nat.le_refl _) hl
        rw [tk_f hJ hx g1 g2 rfl]
        refine ⟨by show j ≤ tRun tFi T (j + 1); omega, b2, by show (if _ then 2 else 4) ≤ 4; split <;> decide, fun h => ⟨?_, fun k h1 h2 => ?_⟩, fun h => ?_⟩
        · have h : (if tRun tFi T (j + 1) - j ≤ 3 then 2 else 4) = 2 := h
          by_cases q : tRun tFi T (j + 1) - j ≤ 3
          · exact q
          · rw [if_neg q] at h; omega
        · have h1 : j ≤ k := h1
          by_cases e : k = j
          · subst e; exact ⟨x, hx, tFi_i.mp g2⟩
          · obtain ⟨y, hy, hp⟩ := b3 k (by omega) h2
            exact ⟨y, hy, tFi_i.mp hp⟩
        · have h : (if tRun tFi T (j + 1) - j ≤ 3 then 2 else 4) = 1 := h
          split at h <;> omega
      · rw [tk_s hJ hx g1 g2]
        have z : ∀ n : Nat, (if x = 59 then 3 else 4) = n → n = 3 ∨ n = 4 := fun n h => by split at h <;> omega
        refine ⟨by show j ≤ j + 1; omega, hl, by show (if _ then 3 else 4) ≤ 4; split <;> decide, fun h => by have := z 2 h; omega, fun h => by have := z 1 h; omega⟩
  · rw [tk_e hJ hl]
    exact ⟨Nat.le_refl _, a2, by show 0 ≤ 4; decide, fun h => by have h : (0 : Nat) = 2 := h; omega, fun h => by have h : (0 : Nat) = 1 := h; omega⟩
/-- the class reads T, its token is t -/
def cK (σ : dt_Mem) (T : List Nat) (t : Tok) : Prop := cTape σ T ∧ (σ 5 2 = t.1 ∧ σ 5 3 = t.2.1 ∧ σ 5 4 = t.2.2) ∧ ∃ q, q ≤ T.length ∧ t = tk T q
theorem cK.ok {σ : dt_Mem} {T : List Nat} {t : Tok} (h : cK σ T t) : t.2.1 ≤ t.2.2 ∧ t.2.2 ≤ T.length ∧ t.1 ≤ 4 ∧ (t.1 = 2 → t.2.2 - t.2.1 ≤ 3 ∧ ∀ k, t.2.1 ≤ k → k < t.2.2 → ∃ x, T[k]? = some x ∧ 48 ≤ x ∧ x ≤ 57) ∧ (t.1 = 1 → ∀ k, t.2.1 ≤ k → k < t.2.2 → ∃ x, T[k]? = some x ∧ 97 ≤ x ∧ x ≤ 122) := by
  obtain ⟨-, -, q, hq, rfl⟩ := h
  exact tk_ok hq
theorem nV_le (T : List Nat) (b : Nat) : ∀ n, (∀ k, k < n → T.getD (b + k) 0 ≤ 57) → nV T b n < 10 ^ n
  | 0, _ => Nat.zero_lt_one
  | n + 1, h => by
    have a := nV_le T b n (fun k hk => h k (by omega))
    have c := h n (by omega)
    simp only [nV, Nat.pow_succ]
    omega
theorem s_X9_isName {ex : List dt_Shp} {σ : dt_Mem} {T : List Nat} {t : Tok} {i : Nat} (hK : cK σ T t) (hi : i < 8) : dt_Sp mX9_isName 4 0 0 [dt_R 5, dt_S (2 * i)] (dt_SH ++ ex) σ (fun v sh2 σ2 => v = some (dt_I (dt_b (isN T t i = true))) ∧ sh2 = dt_SH ++ ex ∧ σ2 = σ) := by
  refine dt_Sp_of (by decide) (Nat.le_of_ble_eq_true rfl) ?_
  refine dt_wfV fun hwf => ?_
  obtain ⟨k1, k2, k3, k4, k5⟩ := hK.ok
  obtain ⟨hT, ⟨s1, s2, s3⟩, -⟩ := id hK
  have e1 := hT.2.2.1
  have e2 := hT.1
  obtain ⟨l1, l2, l3⟩ := dt_ln_k i hi
  show dt_V _ _ _ 0 0 0 [some (dt_R 5), some (dt_S (2 * i)), none] [] _ _
  refine dt_aloadn dX9_isName_0 rfl rfl ?_
  refine dt_getI dX9_isName_1 pg_X9_28_9 rfl rfl ?_
  refine dt_iconst dX9_isName_4 ?_
  refine dt_cm_ne (tgt := 24) dX9_isName_5 (by decide) (by first | assumption | exact hwf _ _ | exact dt_b32 _ | omega | exact ⟨by omega, by omega⟩ | decide | exact ⟨by simp (disch := omega) only [dt_up_s, dt_up_k, dt_up_n]; omega, by simp (disch := omega) only [dt_up_s, dt_up_k, dt_up_n]; omega⟩) (by first | assumption | exact hwf _ _ | exact dt_b32 _ | omega | exact ⟨by omega, by omega⟩ | decide | exact ⟨by simp (disch := omega) only [dt_up_s, dt_up_k, dt_up_n]; omega, by simp (disch := omega) only [dt_up_s, dt_up_k, dt_up_n]; omega⟩) (fun c1 => ?_) (fun c1 => ?_)
  · skip
    refine dt_iconst dX9_isName_24 ?_
    refine dt_zret dX9_isName_25 rfl (by decide) (by decide) (by first | exact Or.inl rfl | exact Or.inr rfl | assumption | omega) ?_
    first | exact ⟨by rw [dt_bF (fun z => by have w := (isN_i.mp z).1; omega)], rfl, rfl⟩ | exact ⟨by rw [dt_bF (fun z => by have w := (isN_i.mp z).2.1; omega)], rfl, rfl⟩
  · skip
    refine dt_aloadn dX9_isName_8 rfl rfl ?_
    refine dt_getI dX9_isName_9 pg_X9_25_9 rfl rfl ?_
    refine dt_aloadn dX9_isName_12 rfl rfl ?_
    refine dt_getI dX9_isName_13 pg_X9_22_9 rfl rfl ?_
    refine dt_isub dX9_isName_16 ?_
    refine dt_aloadSn dX9_isName_17 rfl rfl ?_
    refine dt_xStr hi dX9_isName_18 pc_X9_125 rfl (s_J0_length_8abf5 hi) rfl rfl ⟨by decide, by decide⟩ (Nat.le_of_ble_eq_true rfl) ⟨by decide, by decide⟩ (dt_k3 ?_)
    refine dt_cm_eq (tgt := 26) dX9_isName_21 (by decide) (by first | assumption | exact hwf _ _ | exact dt_b32 _ | omega | exact ⟨by omega, by omega⟩ | decide | exact ⟨by simp (disch := omega) only [dt_up_s, dt_up_k, dt_up_n]; omega, by simp (disch := omega) only [dt_up_s, dt_up_k, dt_up_n]; omega⟩) (by first | assumption | exact hwf _ _ | exact dt_b32 _ | omega | exact ⟨by omega, by omega⟩ | decide | exact ⟨by simp (disch := omega) only [dt_up_s, dt_up_k, dt_up_n]; omega, by simp (disch := omega) only [dt_up_s, dt_up_k, dt_up_n]; omega⟩) (fun c2 => ?_) (fun c2 => ?_)
    · skip
      refine dt_iconst dX9_isName_26 ?_
      refine dt_istoren dX9_isName_27 rfl (by decide) rfl ?_
      dsimp only [List.set]
      have lp28 : ∀ (fu : Nat) (q : Nat), (dt_ln.getD i 0 : Int) - q < (fu : Int) → (q ≤ dt_ln.getD i 0) → (∀ j, j < q → ((T.getD (t.2.1 + j) 0 : Nat) : Int) = dt_ch i j) →  dt_V mX9_isName (dt_rm 4 0 0) (dt_MC (fun v sh2 σ2 => v = some (dt_I (dt_b (isN T t i = true))) ∧ sh2 = dt_SH ++ ex ∧ σ2 = σ) 0 0) 0 0 28 [some (dt_R 5), some (dt_S (2 * i)), some (dt_I (q : Int))] [] (dt_SH ++ ex) σ := by
        intro fu
        induction fu with
        | zero =>
          intro q hm hq ha
          exfalso
          omega
        | succ fu ih =>
          intro q hm hq ha
          refine dt_wfV fun hwf => ?_
          refine dt_iloadn dX9_isName_28 rfl rfl ?_
          refine dt_aloadSn dX9_isName_29 rfl rfl ?_
          refine dt_xStr hi dX9_isName_30 pc_X9_125 rfl (s_J0_length_8abf5 hi) rfl rfl ⟨by decide, by decide⟩ (Nat.le_of_ble_eq_true rfl) ⟨by decide, by decide⟩ (dt_k3 ?_)
          refine dt_cm_ge (tgt := 62) dX9_isName_33 (by decide) (by first | assumption | exact hwf _ _ | exact dt_b32 _ | omega | exact ⟨by omega, by omega⟩ | decide | exact ⟨by simp (disch := omega) only [dt_up_s, dt_up_k, dt_up_n]; omega, by simp (disch := omega) only [dt_up_s, dt_up_k, dt_up_n]; omega⟩) (by first | assumption | exact hwf _ _ | exact dt_b32 _ | omega | exact ⟨by omega, by omega⟩ | decide | exact ⟨by simp (disch := omega) only [dt_up_s, dt_up_k, dt_up_n]; omega, by simp (disch := omega) only [dt_up_s, dt_up_k, dt_up_n]; omega⟩) (fun c3 => ?_) (fun c3 => ?_)
          · skip
            refine dt_iconst dX9_isName_62 ?_
            refine dt_zret dX9_isName_63 rfl (by decide) (by decide) (by first | exact Or.inl rfl | exact Or.inr rfl | assumption | omega) ?_
            exact ⟨by rw [dt_bT (isN_i.mpr ⟨by omega, by omega, fun j hj => ha j (by omega)⟩)], rfl, rfl⟩
          · skip
            obtain ⟨x, hx⟩ := dt_lg (l := T) (i := t.2.1 + q) (by omega)
            have hx8 := hT.2.1 x (List.mem_of_getElem? hx)
            obtain ⟨h1c, h2c, h3c, h4c⟩ := dt_ch_k i hi q (by omega)
            refine dt_aloadn dX9_isName_36 rfl rfl ?_
            refine dt_aloadn dX9_isName_37 rfl rfl ?_
            refine dt_getI dX9_isName_38 pg_X9_22_9 rfl rfl ?_
            refine dt_iloadn dX9_isName_41 rfl rfl ?_
            refine dt_iadd dX9_isName_42 ?_
            rw [s2, show (t.2.1 : Int) + (q : Int) = ((t.2.1 + q : Nat) : Int) by omega]
            refine dt_xV dX9_isName_43 pc_X9_112 rfl (s_X9_at hT hx) rfl rfl ⟨by decide, by decide⟩ rfl rfl (Nat.le_of_ble_eq_true rfl) ⟨by decide, by decide⟩ (dt_k3 ?_)
            refine dt_aloadSn dX9_isName_46 rfl rfl ?_
            refine dt_iloadn dX9_isName_47 rfl rfl ?_
            refine dt_xStr hi dX9_isName_48 pc_X9_130 rfl (s_J0_charAt_5068e hi (by omega) (by omega)) rfl rfl ⟨by decide, by decide⟩ (Nat.le_of_ble_eq_true rfl) ⟨by decide, by decide⟩ (dt_k3 ?_)
            rw [Int.toNat_natCast]
            refine dt_cm_eq (tgt := 56) dX9_isName_51 (by decide) (by first | assumption | exact hwf _ _ | exact dt_b32 _ | omega | exact ⟨by omega, by omega⟩ | decide | exact ⟨by simp (disch := omega) only [dt_up_s, dt_up_k, dt_up_n]; omega, by simp (disch := omega) only [dt_up_s, dt_up_k, dt_up_n]; omega⟩) (by first | assumption | exact hwf _ _ | exact dt_b32 _ | omega | exact ⟨by omega, by omega⟩ | decide | exact ⟨by simp (disch := omega) only [dt_up_s, dt_up_k, dt_up_n]; omega, by simp (disch := omega) only [dt_up_s, dt_up_k, dt_up_n]; omega⟩) (fun c4 => ?_) (fun c4 => ?_)
            · skip
              have hnx : ∀ j, j < q + 1 → ((T.getD (t.2.1 + j) 0 : Nat) : Int) = dt_ch i j := fun j hj => by
                by_cases e : j = q
                · rw [e, dt_gd hx]; assumption
                · exact ha j (by omega)
              refine dt_iinc dX9_isName_56 rfl (by decide) rfl ?_
              dsimp only [List.set]
              refine dt_goto (tgt := 28) dX9_isName_59 (by decide) ?_
              exact dt_lb (ih (q + 1) (by omega) (by omega) hnx) ⟨rfl, rfl, rfl, trivial⟩
            · skip
              refine dt_iconst dX9_isName_54 ?_
              refine dt_zret dX9_isName_55 rfl (by decide) (by decide) (by first | exact Or.inl rfl | exact Or.inr rfl | assumption | omega) ?_
              exact ⟨by rw [dt_bF (fun z => by have w := (isN_i.mp z).2.2 q (by omega); rw [dt_gd hx] at w; omega)], rfl, rfl⟩
      exact dt_lb (lp28 9 0 (by omega) (by omega) (fun j hj => absurd hj (Nat.not_lt_zero j))) ⟨rfl, rfl, rfl, trivial⟩
    · skip
      refine dt_iconst dX9_isName_24 ?_
      refine dt_zret dX9_isName_25 rfl (by decide) (by decide) (by first | exact Or.inl rfl | exact Or.inr rfl | assumption | omega) ?_
      first | exact ⟨by rw [dt_bF (fun z => by have w := (isN_i.mp z).1; omega)], rfl, rfl⟩ | exact ⟨by rw [dt_bF (fun z => by have w := (isN_i.mp z).2.1; omega)], rfl, rfl⟩
theorem s_X9_number {ex : List dt_Shp} {σ : dt_Mem} {T : List Nat} {t : Tok} (hK : cK σ T t) (h2 : t.1 = 2) : dt_Sp mX9_number 1 0 0 [dt_R 5] (dt_SH ++ ex) σ (fun v sh2 σ2 => v = some (dt_I ((nT T t : Nat) : Int)) ∧ sh2 = dt_SH ++ ex ∧ σ2 = σ) := by
  refine dt_Sp_of (by decide) (Nat.le_of_ble_eq_true rfl) ?_
  refine dt_wfV fun hwf => ?_
  obtain ⟨k1, k2, k3, k4, k5⟩ := hK.ok
  obtain ⟨hT, ⟨s1, s2, s3⟩, -⟩ := id hK
  have e1 := hT.2.2.1
  have e2 := hT.1
  obtain ⟨k6, k7⟩ := k4 h2
  show dt_V _ _ _ 0 0 0 [some (dt_R 5), none, none] [] _ _
  refine dt_iconst dX9_number_0 ?_
  refine dt_istoren dX9_number_1 rfl (by decide) rfl ?_
  dsimp only [List.set]
  refine dt_aloadn dX9_number_2 rfl rfl ?_
  refine dt_getI dX9_number_3 pg_X9_22_9 rfl rfl ?_
  refine dt_istoren dX9_number_6 rfl (by decide) rfl ?_
  dsimp only [List.set]
  have lp7 : ∀ (fu : Nat) (q : Nat), (t.2.2 : Int) - t.2.1 - q < (fu : Int) → (t.2.1 + q ≤ t.2.2) → (nV T t.2.1 q < 1000) →  dt_V mX9_number (dt_rm 1 0 0) (dt_MC (fun v sh2 σ2 => v = some (dt_I ((nT T t : Nat) : Int)) ∧ sh2 = dt_SH ++ ex ∧ σ2 = σ) 0 0) 0 0 7 [some (dt_R 5), some (dt_I ((nV T t.2.1 q : Nat) : Int)), some (dt_I ((t.2.1 + q : Nat) : Int))] [] (dt_SH ++ ex) σ := by
    intro fu
    induction fu with
    | zero =>
      intro q hm hq hv
      exfalso
      omega
    | succ fu ih =>
      intro q hm hq hv
      refine dt_wfV fun hwf => ?_
      refine dt_iloadn dX9_number_7 rfl rfl ?_
      refine dt_aloadn dX9_number_8 rfl rfl ?_
      refine dt_getI dX9_number_9 pg_X9_25_9 rfl rfl ?_
      refine dt_cm_ge (tgt := 35) dX9_number_12 (by decide) (by first | assumption | exact hwf _ _ | exact dt_b32 _ | omega | exact ⟨by omega, by omega⟩ | decide | exact ⟨by simp (disch := omega) only [dt_up_s, dt_up_k, dt_up_n]; omega, by simp (disch := omega) only [dt_up_s, dt_up_k, dt_up_n]; omega⟩) (by first | assumption | exact hwf _ _ | exact dt_b32 _ | omega | exact ⟨by omega, by omega⟩ | decide | exact ⟨by simp (disch := omega) only [dt_up_s, dt_up_k, dt_up_n]; omega, by simp (disch := omega) only [dt_up_s, dt_up_k, dt_up_n]; omega⟩) (fun c1 => ?_) (fun c1 => ?_)
      · skip
        refine dt_iloadn dX9_number_35 rfl rfl ?_
        refine dt_iret dX9_number_36 rfl (by decide) (by decide) ?_
        exact ⟨by rw [show q = t.2.2 - t.2.1 by omega]; rfl, rfl, rfl⟩
      · skip
        obtain ⟨x, hx, x1, x2⟩ := k7 (t.2.1 + q) (by omega) (by omega)
        have hne : ((nV T t.2.1 q : Nat) : Int) * 10 + (x : Int) - 48 = ((nV T t.2.1 (q + 1) : Nat) : Int) := by
          show _ = ((nV T t.2.1 q * 10 + (T.getD (t.2.1 + q) 0 - 48) : Nat) : Int)
          rw [dt_gd hx]
          omega
        have hnv : nV T t.2.1 (q + 1) < 1000 := by
          have h := nV_le T t.2.1 (q + 1) (fun k hk => by
            obtain ⟨y, hy, -, y2⟩ := k7 (t.2.1 + k) (by omega) (by omega)
            rw [dt_gd hy]; exact y2)
          exact Nat.lt_of_lt_of_le h (Nat.pow_le_pow_right (by decide) (show q + 1 ≤ 3 by omega))
        refine dt_iloadn dX9_number_15 rfl rfl ?_
        refine dt_bipush dX9_number_16 (by decide) ?_
        refine dt_imul dX9_number_18 ?_
        refine dt_aloadn dX9_number_19 rfl rfl ?_
        refine dt_iloadn dX9_number_20 rfl rfl ?_
        refine dt_xV dX9_number_21 pc_X9_112 rfl (s_X9_at hT hx) rfl rfl ⟨by decide, by decide⟩ rfl rfl (Nat.le_of_ble_eq_true rfl) ⟨by decide, by decide⟩ (dt_k3 ?_)
        refine dt_iadd dX9_number_24 ?_
        refine dt_bipush dX9_number_25 (by decide) ?_
        refine dt_isub dX9_number_27 ?_
        refine dt_istoren dX9_number_28 rfl (by decide) rfl ?_
        dsimp only [List.set]
        refine dt_iinc dX9_number_29 rfl (by decide) rfl ?_
        dsimp only [List.set]
        refine dt_goto (tgt := 7) dX9_number_32 (by decide) ?_
        exact dt_lb (ih (q + 1) (by omega) (by omega) hnv) ⟨rfl, (dt_ie hne), (dt_ie (by omega)), trivial⟩
  exact dt_lb (lp7 501 0 (by omega) (by omega) (by show 0 < 1000; decide)) ⟨rfl, rfl, (dt_ie (by omega)), trivial⟩
