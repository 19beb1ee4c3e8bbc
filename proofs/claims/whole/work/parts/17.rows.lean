
/-- the cells of the class (0 to 39) and of the reference (40 to 54), as they stand once both are made -/
def dt_SH : List dt_Shp := [.inl (11, [5, 9, 11, 17, 23, 29, 35, 43, 2, 0, 0]), .inl (7, [6, 7, 8]), .inr (0, 8), .inr (0, 8), .inr (0, 320), .inl (9, [10, 0, 0, 0, 0]), .inr (0, 500), .inl (6, [12, 13, 14, 15, 16, 0, 0, 0]), .inr (0, 7), .inr (0, 56), .inr (0, 56), .inr (0, 168), .inr (0, 8), .inl (6, [18, 19, 20, 21, 22, 0, 0, 0]), .inr (0, 7), .inr (0, 56), .inr (0, 56), .inr (0, 168), .inr (0, 8), .inl (6, [24, 25, 26, 27, 28, 0, 0, 0]), .inr (0, 7), .inr (0, 56), .inr (0, 56), .inr (0, 168), .inr (0, 8), .inl (6, [30, 31, 32, 33, 34, 0, 0, 0]), .inr (0, 7), .inr (0, 56), .inr (0, 56), .inr (0, 168), .inr (0, 8), .inl (8, [11, 36, 37, 38, 39, 40, 41, 42]), .inr (1, 256), .inr (1, 256), .inr (1, 256), .inr (0, 256), .inr (0, 256), .inr (0, 8), .inr (0, 8), .inl (4, [11]), .inl (12, [0, 0, 45, 46, 47, 48, 49, 0, 50, 0, 0, 0, 0, 0, 0, 0, 0, 0, 1, 51, 52, 53, 54, 55, 0, 0, 56, 57, 58, 0]), .inr (0, 8), .inr (0, 8), .inr (0, 320), .inr (0, 298), .inr (0, 298), .inr (0, 500), .inr (1, 256), .inr (1, 256), .inr (0, 256), .inr (0, 8), .inr (1, 256), .inr (1, 2), .inr (0, 596), .inr (0, 16)]
theorem dt_SH_len : dt_SH.length = 55 := rfl
theorem dt_p7 {ex : List dt_Shp} : dt_pSh (dt_SH ++ ex) 7 := ⟨rfl, rfl, rfl, rfl, rfl, rfl⟩
theorem dt_p13 {ex : List dt_Shp} : dt_pSh (dt_SH ++ ex) 13 := ⟨rfl, rfl, rfl, rfl, rfl, rfl⟩
theorem dt_p19 {ex : List dt_Shp} : dt_pSh (dt_SH ++ ex) 19 := ⟨rfl, rfl, rfl, rfl, rfl, rfl⟩
theorem dt_p25 {ex : List dt_Shp} : dt_pSh (dt_SH ++ ex) 25 := ⟨rfl, rfl, rfl, rfl, rfl, rfl⟩
/-- a stretch that is filled -/
def dt_fil (σ : dt_Mem) (a lo i : Nat) (v : Nat → Int) : dt_Mem := fun b j => if b = a ∧ lo ≤ j ∧ j < lo + i then v j else σ b j
theorem dt_fil_0 (σ : dt_Mem) (a lo : Nat) (v : Nat → Int) : dt_fil σ a lo 0 v = σ := by
  funext b j
  unfold dt_fil
  rw [if_neg (by omega)]
theorem dt_fil_s (σ : dt_Mem) (a lo i : Nat) (v : Nat → Int) : dt_up (dt_fil σ a lo i v) a (lo + i) (v (lo + i)) = dt_fil σ a lo (i + 1) v := by
  funext b j
  unfold dt_up dt_fil
  by_cases hb : b = a
  · subst hb
    by_cases hj : j = lo + i
    · subst hj
      rw [if_pos rfl, if_pos rfl, if_pos ⟨rfl, by omega, by omega⟩]
    · rw [if_pos rfl, if_neg hj]
      by_cases h : lo ≤ j ∧ j < lo + i
      · rw [if_pos ⟨rfl, h.1, h.2⟩, if_pos ⟨rfl, by omega, by omega⟩]
      · rw [if_neg (fun q => h q.2), if_neg (fun q => h ⟨q.2.1, by omega⟩)]
  · rw [if_neg hb, if_neg (fun q => hb q.1), if_neg (fun q => hb q.1)]
theorem dt_fil_o {σ : dt_Mem} {a lo i b : Nat} {v : Nat → Int} (h : b ≠ a) : dt_fil σ a lo i v b = σ b := by
  funext j
  unfold dt_fil
  rw [if_neg (fun q => h q.1)]
theorem dt_fil_in {σ : dt_Mem} {a lo i j : Nat} {v : Nat → Int} (h1 : lo ≤ j) (h2 : j < lo + i) : dt_fil σ a lo i v a j = v j := if_pos ⟨rfl, h1, h2⟩
theorem dt_fil_out {σ : dt_Mem} {a lo i j : Nat} {v : Nat → Int} (h : j < lo ∨ lo + i ≤ j) : dt_fil σ a lo i v a j = σ a j := if_neg (fun q => by omega)
def cHP (σ : dt_Mem) (r i n : Int) : Prop := 0 ≤ i ∧ 0 ≤ n ∧ n ≤ σ 3 r.toNat ∧ i ≤ σ 3 r.toNat - n
def cLow (l v : Int) : Int := if l = 0 then dj_i2b v else if l = 1 then dj_i2s v else v
theorem cLow_in {l v : Int} (h : dt_in32 v) : dt_in32 (cLow l v) := by
  unfold cLow
  split
  · exact ⟨Int32.le_toInt _, Int32.toInt_lt _⟩
  · split
    · exact ⟨Int32.le_toInt _, Int32.toInt_lt _⟩
    · exact h
def cMany (σ : dt_Mem) : Nat → Int
  | 0 => 0
  | r + 1 => cMany σ r + if σ 2 r = -1 then 0 else 1
theorem cMany_in (σ : dt_Mem) : ∀ n : Nat, 0 ≤ cMany σ n ∧ cMany σ n ≤ n
  | 0 => ⟨Int.le_refl _, Int.le_refl _⟩
  | r + 1 => by
    have h := cMany_in σ r
    unfold cMany
    split <;> omega
theorem s_X7_isOne {sh : List dt_Shp} {σ : dt_Mem} {r : Int} (hr : dt_in32 r) : dt_Sp mX7_isOne 0 0 0 [dt_I r] sh σ (fun v sh2 σ2 => v = some (dt_I (dt_b (0 ≤ r ∧ r < 8))) ∧ sh2 = sh ∧ σ2 = σ) := by
  refine dt_Sp_of (by decide) (Nat.le_of_ble_eq_true rfl) ?_
  refine dt_wfV fun hwf => ?_
  show dt_V _ _ _ 0 0 0 [some (dt_I r)] [] _ _
  refine dt_iconst dX7_isOne_0 ?_
  refine dt_iloadn dX7_isOne_1 rfl rfl ?_
  refine dt_cm_gt (tgt := 15) dX7_isOne_2 (by decide) (by first | assumption | exact hwf _ _ | exact dt_b32 _ | omega | exact ⟨by omega, by omega⟩ | decide | exact ⟨by simp (disch := omega) only [dt_up_s, dt_up_k, dt_up_n]; omega, by simp (disch := omega) only [dt_up_s, dt_up_k, dt_up_n]; omega⟩) (by first | assumption | exact hwf _ _ | exact dt_b32 _ | omega | exact ⟨by omega, by omega⟩ | decide | exact ⟨by simp (disch := omega) only [dt_up_s, dt_up_k, dt_up_n]; omega, by simp (disch := omega) only [dt_up_s, dt_up_k, dt_up_n]; omega⟩) (fun c1 => ?_) (fun c1 => ?_)
  · skip
    refine dt_iconst dX7_isOne_15 ?_
    refine dt_zret dX7_isOne_16 rfl (by decide) (by decide) (by first | exact Or.inl rfl | exact Or.inr rfl | assumption | omega) ?_
    first | exact ⟨by rw [dt_bT (by omega)], rfl, rfl⟩ | exact ⟨by rw [dt_bF (by omega)], rfl, rfl⟩
  · skip
    refine dt_iloadn dX7_isOne_5 rfl rfl ?_
    refine dt_bipush dX7_isOne_6 (by decide) ?_
    refine dt_cm_ge (tgt := 15) dX7_isOne_8 (by decide) (by first | assumption | exact hwf _ _ | exact dt_b32 _ | omega | exact ⟨by omega, by omega⟩ | decide | exact ⟨by simp (disch := omega) only [dt_up_s, dt_up_k, dt_up_n]; omega, by simp (disch := omega) only [dt_up_s, dt_up_k, dt_up_n]; omega⟩) (by first | assumption | exact hwf _ _ | exact dt_b32 _ | omega | exact ⟨by omega, by omega⟩ | decide | exact ⟨by simp (disch := omega) only [dt_up_s, dt_up_k, dt_up_n]; omega, by simp (disch := omega) only [dt_up_s, dt_up_k, dt_up_n]; omega⟩) (fun c2 => ?_) (fun c2 => ?_)
    · skip
      refine dt_iconst dX7_isOne_15 ?_
      refine dt_zret dX7_isOne_16 rfl (by decide) (by decide) (by first | exact Or.inl rfl | exact Or.inr rfl | assumption | omega) ?_
      first | exact ⟨by rw [dt_bT (by omega)], rfl, rfl⟩ | exact ⟨by rw [dt_bF (by omega)], rfl, rfl⟩
    · skip
      refine dt_iconst dX7_isOne_11 ?_
      refine dt_goto (tgt := 16) dX7_isOne_12 (by decide) ?_
      refine dt_zret dX7_isOne_16 rfl (by decide) (by decide) (by first | exact Or.inl rfl | exact Or.inr rfl | assumption | omega) ?_
      first | exact ⟨by rw [dt_bT (by omega)], rfl, rfl⟩ | exact ⟨by rw [dt_bF (by omega)], rfl, rfl⟩
theorem s_X7_laneOf {ex : List dt_Shp} {σ : dt_Mem} {r : Int} (h1 : 0 ≤ r) (h2 : r < 8) : dt_Sp mX7_laneOf 1 0 0 [dt_R 1, dt_I r] (dt_SH ++ ex) σ (fun v sh2 σ2 => v = some (dt_I (σ 2 r.toNat)) ∧ sh2 = dt_SH ++ ex ∧ σ2 = σ) := by
  refine dt_Sp_of (by decide) (Nat.le_of_ble_eq_true rfl) ?_
  refine dt_wfV fun hwf => ?_
  show dt_V _ _ _ 0 0 0 [some (dt_R 1), some (dt_I r)] [] _ _
  refine dt_iloadn dX7_laneOf_0 rfl rfl ?_
  refine dt_xS dX7_laneOf_1 pc_X7_23 (s_X7_isOne (by first | assumption | exact hwf _ _ | exact dt_b32 _ | omega | exact ⟨by omega, by omega⟩ | decide | exact ⟨by simp (disch := omega) only [dt_up_s, dt_up_k, dt_up_n]; omega, by simp (disch := omega) only [dt_up_s, dt_up_k, dt_up_n]; omega⟩)) rfl rfl ⟨by decide, by decide⟩ (Nat.le_of_ble_eq_true rfl) ⟨by decide, by decide⟩ (dt_k3 ?_)
  refine dt_if_eq (tgt := 16) dX7_laneOf_4 (by decide) (by first | assumption | exact hwf _ _ | exact dt_b32 _ | omega | exact ⟨by omega, by omega⟩ | decide | exact ⟨by simp (disch := omega) only [dt_up_s, dt_up_k, dt_up_n]; omega, by simp (disch := omega) only [dt_up_s, dt_up_k, dt_up_n]; omega⟩) (fun c1 => ?_) (fun c1 => ?_)
  · skip
    try simp only [dt_b0, dt_b1, Decidable.not_not, Classical.not_not] at c1
    exact absurd ⟨h1, h2⟩ c1
  · skip
    try simp only [dt_b0, dt_b1, Decidable.not_not, Classical.not_not] at c1
    refine dt_aloadn dX7_laneOf_7 rfl rfl ?_
    refine dt_getR dX7_laneOf_8 pg_X7_9_7 rfl rfl ?_
    refine dt_iloadn dX7_laneOf_11 rfl rfl ?_
    refine dt_iald dX7_laneOf_12 rfl (by first | omega | (simp (disch := omega) only [dt_up_s, dt_up_k, dt_up_n]; omega)) (by first | omega | (simp (disch := omega) only [dt_up_s, dt_up_k, dt_up_n]; omega)) (by decide) ?_
    refine dt_goto (tgt := 17) dX7_laneOf_13 (by decide) ?_
    refine dt_iret dX7_laneOf_17 rfl (by decide) (by decide) ?_
    exact ⟨rfl, rfl, rfl⟩
theorem s_X7_sizeOf {ex : List dt_Shp} {σ : dt_Mem} {r : Int} (h1 : 0 ≤ r) (h2 : r < 8) : dt_Sp mX7_sizeOf 1 0 0 [dt_R 1, dt_I r] (dt_SH ++ ex) σ (fun v sh2 σ2 => v = some (dt_I (σ 3 r.toNat)) ∧ sh2 = dt_SH ++ ex ∧ σ2 = σ) := by
  refine dt_Sp_of (by decide) (Nat.le_of_ble_eq_true rfl) ?_
  refine dt_wfV fun hwf => ?_
  show dt_V _ _ _ 0 0 0 [some (dt_R 1), some (dt_I r)] [] _ _
  refine dt_iloadn dX7_sizeOf_0 rfl rfl ?_
  refine dt_xS dX7_sizeOf_1 pc_X7_23 (s_X7_isOne (by first | assumption | exact hwf _ _ | exact dt_b32 _ | omega | exact ⟨by omega, by omega⟩ | decide | exact ⟨by simp (disch := omega) only [dt_up_s, dt_up_k, dt_up_n]; omega, by simp (disch := omega) only [dt_up_s, dt_up_k, dt_up_n]; omega⟩)) rfl rfl ⟨by decide, by decide⟩ (Nat.le_of_ble_eq_true rfl) ⟨by decide, by decide⟩ (dt_k3 ?_)
  refine dt_if_eq (tgt := 16) dX7_sizeOf_4 (by decide) (by first | assumption | exact hwf _ _ | exact dt_b32 _ | omega | exact ⟨by omega, by omega⟩ | decide | exact ⟨by simp (disch := omega) only [dt_up_s, dt_up_k, dt_up_n]; omega, by simp (disch := omega) only [dt_up_s, dt_up_k, dt_up_n]; omega⟩) (fun c1 => ?_) (fun c1 => ?_)
  · skip
    try simp only [dt_b0, dt_b1, Decidable.not_not, Classical.not_not] at c1
    exact absurd ⟨h1, h2⟩ c1
  · skip
    try simp only [dt_b0, dt_b1, Decidable.not_not, Classical.not_not] at c1
    refine dt_aloadn dX7_sizeOf_7 rfl rfl ?_
    refine dt_getR dX7_sizeOf_8 pg_X7_13_7 rfl rfl ?_
    refine dt_iloadn dX7_sizeOf_11 rfl rfl ?_
    refine dt_iald dX7_sizeOf_12 rfl (by first | omega | (simp (disch := omega) only [dt_up_s, dt_up_k, dt_up_n]; omega)) (by first | omega | (simp (disch := omega) only [dt_up_s, dt_up_k, dt_up_n]; omega)) (by decide) ?_
    refine dt_goto (tgt := 17) dX7_sizeOf_13 (by decide) ?_
    refine dt_iret dX7_sizeOf_17 rfl (by decide) (by decide) ?_
    exact ⟨rfl, rfl, rfl⟩
theorem s_X7_isMissing {ex : List dt_Shp} {σ : dt_Mem} {r : Int} (h1 : 0 ≤ r) (h2 : r < 8) : dt_Sp mX7_isMissing 2 0 0 [dt_R 1, dt_I r] (dt_SH ++ ex) σ (fun v sh2 σ2 => v = some (dt_I (dt_b (σ 2 r.toNat = -1))) ∧ sh2 = dt_SH ++ ex ∧ σ2 = σ) := by
  refine dt_Sp_of (by decide) (Nat.le_of_ble_eq_true rfl) ?_
  refine dt_wfV fun hwf => ?_
  show dt_V _ _ _ 0 0 0 [some (dt_R 1), some (dt_I r)] [] _ _
  refine dt_aloadn dX7_isMissing_0 rfl rfl ?_
  refine dt_iloadn dX7_isMissing_1 rfl rfl ?_
  refine dt_xV dX7_isMissing_2 pc_X7_19 rfl (s_X7_laneOf (by first | assumption | exact hwf _ _ | exact dt_b32 _ | omega | exact ⟨by omega, by omega⟩ | decide | exact ⟨by simp (disch := omega) only [dt_up_s, dt_up_k, dt_up_n]; omega, by simp (disch := omega) only [dt_up_s, dt_up_k, dt_up_n]; omega⟩) (by first | assumption | exact hwf _ _ | exact dt_b32 _ | omega | exact ⟨by omega, by omega⟩ | decide | exact ⟨by simp (disch := omega) only [dt_up_s, dt_up_k, dt_up_n]; omega, by simp (disch := omega) only [dt_up_s, dt_up_k, dt_up_n]; omega⟩)) rfl rfl ⟨by decide, by decide⟩ rfl rfl (Nat.le_of_ble_eq_true rfl) ⟨by decide, by decide⟩ (dt_k3 ?_)
  refine dt_iconst dX7_isMissing_5 ?_
  refine dt_cm_ne (tgt := 13) dX7_isMissing_6 (by decide) (by first | assumption | exact hwf _ _ | exact dt_b32 _ | omega | exact ⟨by omega, by omega⟩ | decide | exact ⟨by simp (disch := omega) only [dt_up_s, dt_up_k, dt_up_n]; omega, by simp (disch := omega) only [dt_up_s, dt_up_k, dt_up_n]; omega⟩) (by first | assumption | exact hwf _ _ | exact dt_b32 _ | omega | exact ⟨by omega, by omega⟩ | decide | exact ⟨by simp (disch := omega) only [dt_up_s, dt_up_k, dt_up_n]; omega, by simp (disch := omega) only [dt_up_s, dt_up_k, dt_up_n]; omega⟩) (fun c1 => ?_) (fun c1 => ?_)
  · skip
    refine dt_iconst dX7_isMissing_13 ?_
    refine dt_zret dX7_isMissing_14 rfl (by decide) (by decide) (by first | exact Or.inl rfl | exact Or.inr rfl | assumption | omega) ?_
    first | exact ⟨by rw [dt_bT (by omega)], rfl, rfl⟩ | exact ⟨by rw [dt_bF (by omega)], rfl, rfl⟩
  · skip
    refine dt_iconst dX7_isMissing_9 ?_
    refine dt_goto (tgt := 14) dX7_isMissing_10 (by decide) ?_
    refine dt_zret dX7_isMissing_14 rfl (by decide) (by decide) (by first | exact Or.inl rfl | exact Or.inr rfl | assumption | omega) ?_
    first | exact ⟨by rw [dt_bT (by omega)], rfl, rfl⟩ | exact ⟨by rw [dt_bF (by omega)], rfl, rfl⟩
theorem s_X7_hasPlaces {ex : List dt_Shp} {σ : dt_Mem} {r i n : Int} (h1 : 0 ≤ r) (h2 : r < 8) (hi : dt_in32 i) (hn : dt_in32 n) : dt_Sp mX7_hasPlaces 2 0 0 [dt_R 1, dt_I r, dt_I i, dt_I n] (dt_SH ++ ex) σ (fun v sh2 σ2 => v = some (dt_I (dt_b (cHP σ r i n))) ∧ sh2 = dt_SH ++ ex ∧ σ2 = σ) := by
  refine dt_Sp_of (by decide) (Nat.le_of_ble_eq_true rfl) ?_
  refine dt_wfV fun hwf => ?_
  have hs := hwf 3 r.toNat
  obtain ⟨hs1, hs2⟩ := hs
  show dt_V _ _ _ 0 0 0 [some (dt_R 1), some (dt_I r), some (dt_I i), some (dt_I n)] [] _ _
  refine dt_iloadn dX7_hasPlaces_0 rfl rfl ?_
  refine dt_if_lt (tgt := 32) dX7_hasPlaces_1 (by decide) (by first | assumption | exact hwf _ _ | exact dt_b32 _ | omega | exact ⟨by omega, by omega⟩ | decide | exact ⟨by simp (disch := omega) only [dt_up_s, dt_up_k, dt_up_n]; omega, by simp (disch := omega) only [dt_up_s, dt_up_k, dt_up_n]; omega⟩) (fun c1 => ?_) (fun c1 => ?_)
  · skip
    refine dt_iconst dX7_hasPlaces_32 ?_
    refine dt_zret dX7_hasPlaces_33 rfl (by decide) (by decide) (by first | exact Or.inl rfl | exact Or.inr rfl | assumption | omega) ?_
    first | exact ⟨by rw [dt_bT (by unfold cHP; omega)], rfl, rfl⟩ | exact ⟨by rw [dt_bF (by unfold cHP; omega)], rfl, rfl⟩
  · skip
    refine dt_iloadn dX7_hasPlaces_4 rfl rfl ?_
    refine dt_if_lt (tgt := 32) dX7_hasPlaces_5 (by decide) (by first | assumption | exact hwf _ _ | exact dt_b32 _ | omega | exact ⟨by omega, by omega⟩ | decide | exact ⟨by simp (disch := omega) only [dt_up_s, dt_up_k, dt_up_n]; omega, by simp (disch := omega) only [dt_up_s, dt_up_k, dt_up_n]; omega⟩) (fun c2 => ?_) (fun c2 => ?_)
    · skip
      refine dt_iconst dX7_hasPlaces_32 ?_
      refine dt_zret dX7_hasPlaces_33 rfl (by decide) (by decide) (by first | exact Or.inl rfl | exact Or.inr rfl | assumption | omega) ?_
      first | exact ⟨by rw [dt_bT (by unfold cHP; omega)], rfl, rfl⟩ | exact ⟨by rw [dt_bF (by unfold cHP; omega)], rfl, rfl⟩
    · skip
      refine dt_iloadn dX7_hasPlaces_8 rfl rfl ?_
      refine dt_aloadn dX7_hasPlaces_9 rfl rfl ?_
      refine dt_iloadn dX7_hasPlaces_10 rfl rfl ?_
      refine dt_xV dX7_hasPlaces_11 pc_X7_30 rfl (s_X7_sizeOf (by first | assumption | exact hwf _ _ | exact dt_b32 _ | omega | exact ⟨by omega, by omega⟩ | decide | exact ⟨by simp (disch := omega) only [dt_up_s, dt_up_k, dt_up_n]; omega, by simp (disch := omega) only [dt_up_s, dt_up_k, dt_up_n]; omega⟩) (by first | assumption | exact hwf _ _ | exact dt_b32 _ | omega | exact ⟨by omega, by omega⟩ | decide | exact ⟨by simp (disch := omega) only [dt_up_s, dt_up_k, dt_up_n]; omega, by simp (disch := omega) only [dt_up_s, dt_up_k, dt_up_n]; omega⟩)) rfl rfl ⟨by decide, by decide⟩ rfl rfl (Nat.le_of_ble_eq_true rfl) ⟨by decide, by decide⟩ (dt_k3 ?_)
      refine dt_cm_gt (tgt := 32) dX7_hasPlaces_14 (by decide) (by first | assumption | exact hwf _ _ | exact dt_b32 _ | omega | exact ⟨by omega, by omega⟩ | decide | exact ⟨by simp (disch := omega) only [dt_up_s, dt_up_k, dt_up_n]; omega, by simp (disch := omega) only [dt_up_s, dt_up_k, dt_up_n]; omega⟩) (by first | assumption | exact hwf _ _ | exact dt_b32 _ | omega | exact ⟨by omega, by omega⟩ | decide | exact ⟨by simp (disch := omega) only [dt_up_s, dt_up_k, dt_up_n]; omega, by simp (disch := omega) only [dt_up_s, dt_up_k, dt_up_n]; omega⟩) (fun c3 => ?_) (fun c3 => ?_)
      · skip
        refine dt_iconst dX7_hasPlaces_32 ?_
        refine dt_zret dX7_hasPlaces_33 rfl (by decide) (by decide) (by first | exact Or.inl rfl | exact Or.inr rfl | assumption | omega) ?_
        first | exact ⟨by rw [dt_bT (by unfold cHP; omega)], rfl, rfl⟩ | exact ⟨by rw [dt_bF (by unfold cHP; omega)], rfl, rfl⟩
      · skip
        refine dt_iloadn dX7_hasPlaces_17 rfl rfl ?_
        refine dt_aloadn dX7_hasPlaces_18 rfl rfl ?_
        refine dt_iloadn dX7_hasPlaces_19 rfl rfl ?_
        refine dt_xV dX7_hasPlaces_20 pc_X7_30 rfl (s_X7_sizeOf (by first | assumption | exact hwf _ _ | exact dt_b32 _ | omega | exact ⟨by omega, by omega⟩ | decide | exact ⟨by simp (disch := omega) only [dt_up_s, dt_up_k, dt_up_n]; omega, by simp (disch := omega) only [dt_up_s, dt_up_k, dt_up_n]; omega⟩) (by first | assumption | exact hwf _ _ | exact dt_b32 _ | omega | exact ⟨by omega, by omega⟩ | decide | exact ⟨by simp (disch := omega) only [dt_up_s, dt_up_k, dt_up_n]; omega, by simp (disch := omega) only [dt_up_s, dt_up_k, dt_up_n]; omega⟩)) rfl rfl ⟨by decide, by decide⟩ rfl rfl (Nat.le_of_ble_eq_true rfl) ⟨by decide, by decide⟩ (dt_k3 ?_)
        refine dt_iloadn dX7_hasPlaces_23 rfl rfl ?_
        refine dt_isub dX7_hasPlaces_24 ?_
        refine dt_cm_gt (tgt := 32) dX7_hasPlaces_25 (by decide) (by first | assumption | exact hwf _ _ | exact dt_b32 _ | omega | exact ⟨by omega, by omega⟩ | decide | exact ⟨by simp (disch := omega) only [dt_up_s, dt_up_k, dt_up_n]; omega, by simp (disch := omega) only [dt_up_s, dt_up_k, dt_up_n]; omega⟩) (by first | assumption | exact hwf _ _ | exact dt_b32 _ | omega | exact ⟨by omega, by omega⟩ | decide | exact ⟨by simp (disch := omega) only [dt_up_s, dt_up_k, dt_up_n]; omega, by simp (disch := omega) only [dt_up_s, dt_up_k, dt_up_n]; omega⟩) (fun c4 => ?_) (fun c4 => ?_)
        · skip
          refine dt_iconst dX7_hasPlaces_32 ?_
          refine dt_zret dX7_hasPlaces_33 rfl (by decide) (by decide) (by first | exact Or.inl rfl | exact Or.inr rfl | assumption | omega) ?_
          first | exact ⟨by rw [dt_bT (by unfold cHP; omega)], rfl, rfl⟩ | exact ⟨by rw [dt_bF (by unfold cHP; omega)], rfl, rfl⟩
        · skip
          refine dt_iconst dX7_hasPlaces_28 ?_
          refine dt_goto (tgt := 33) dX7_hasPlaces_29 (by decide) ?_
          refine dt_zret dX7_hasPlaces_33 rfl (by decide) (by decide) (by first | exact Or.inl rfl | exact Or.inr rfl | assumption | omega) ?_
          first | exact ⟨by rw [dt_bT (by unfold cHP; omega)], rfl, rfl⟩ | exact ⟨by rw [dt_bF (by unfold cHP; omega)], rfl, rfl⟩
theorem s_X7_item {ex : List dt_Shp} {σ : dt_Mem} {r i : Int} (h1 : 0 ≤ r) (h2 : r < 8) (hp : cHP σ r i 1) (hs : σ 3 r.toNat ≤ 40) : dt_Sp mX7_item 3 0 0 [dt_R 1, dt_I r, dt_I i] (dt_SH ++ ex) σ (fun v sh2 σ2 => v = some (dt_I (σ 4 (r * 40 + i).toNat)) ∧ sh2 = dt_SH ++ ex ∧ σ2 = σ) := by
  refine dt_Sp_of (by decide) (Nat.le_of_ble_eq_true rfl) ?_
  refine dt_wfV fun hwf => ?_
  obtain ⟨hp1, hp2, hp3, hp4⟩ := id hp
  show dt_V _ _ _ 0 0 0 [some (dt_R 1), some (dt_I r), some (dt_I i)] [] _ _
  refine dt_aloadn dX7_item_0 rfl rfl ?_
  refine dt_iloadn dX7_item_1 rfl rfl ?_
  refine dt_iloadn dX7_item_2 rfl rfl ?_
  refine dt_iconst dX7_item_3 ?_
  refine dt_xV dX7_item_4 pc_X7_33 rfl (s_X7_hasPlaces (by first | assumption | exact hwf _ _ | exact dt_b32 _ | omega | exact ⟨by omega, by omega⟩ | decide | exact ⟨by simp (disch := omega) only [dt_up_s, dt_up_k, dt_up_n]; omega, by simp (disch := omega) only [dt_up_s, dt_up_k, dt_up_n]; omega⟩) (by first | assumption | exact hwf _ _ | exact dt_b32 _ | omega | exact ⟨by omega, by omega⟩ | decide | exact ⟨by simp (disch := omega) only [dt_up_s, dt_up_k, dt_up_n]; omega, by simp (disch := omega) only [dt_up_s, dt_up_k, dt_up_n]; omega⟩) (by first | assumption | exact hwf _ _ | exact dt_b32 _ | omega | exact ⟨by omega, by omega⟩ | decide | exact ⟨by simp (disch := omega) only [dt_up_s, dt_up_k, dt_up_n]; omega, by simp (disch := omega) only [dt_up_s, dt_up_k, dt_up_n]; omega⟩) (by first | assumption | exact hwf _ _ | exact dt_b32 _ | omega | exact ⟨by omega, by omega⟩ | decide | exact ⟨by simp (disch := omega) only [dt_up_s, dt_up_k, dt_up_n]; omega, by simp (disch := omega) only [dt_up_s, dt_up_k, dt_up_n]; omega⟩)) rfl rfl ⟨by decide, by decide⟩ rfl rfl (Nat.le_of_ble_eq_true rfl) ⟨by decide, by decide⟩ (dt_k3 ?_)
  refine dt_if_eq (tgt := 24) dX7_item_7 (by decide) (by first | assumption | exact hwf _ _ | exact dt_b32 _ | omega | exact ⟨by omega, by omega⟩ | decide | exact ⟨by simp (disch := omega) only [dt_up_s, dt_up_k, dt_up_n]; omega, by simp (disch := omega) only [dt_up_s, dt_up_k, dt_up_n]; omega⟩) (fun c1 => ?_) (fun c1 => ?_)
  · skip
    try simp only [dt_b0, dt_b1, Decidable.not_not, Classical.not_not] at c1
    exact absurd hp c1
  · skip
    try simp only [dt_b0, dt_b1, Decidable.not_not, Classical.not_not] at c1
    refine dt_aloadn dX7_item_10 rfl rfl ?_
    refine dt_getR dX7_item_11 pg_X7_16_7 rfl rfl ?_
    refine dt_iloadn dX7_item_14 rfl rfl ?_
    refine dt_bipush dX7_item_15 (by decide) ?_
    refine dt_imul dX7_item_17 ?_
    refine dt_iloadn dX7_item_18 rfl rfl ?_
    refine dt_iadd dX7_item_19 ?_
    refine dt_iald dX7_item_20 rfl (by first | omega | (simp (disch := omega) only [dt_up_s, dt_up_k, dt_up_n]; omega)) (by first | omega | (simp (disch := omega) only [dt_up_s, dt_up_k, dt_up_n]; omega)) (by decide) ?_
    refine dt_goto (tgt := 25) dX7_item_21 (by decide) ?_
    refine dt_iret dX7_item_25 rfl (by decide) (by decide) ?_
    exact ⟨rfl, rfl, rfl⟩
theorem s_X7_lowestBits {sh : List dt_Shp} {σ : dt_Mem} {l v0 : Int} (hl : dt_in32 l) (hv : dt_in32 v0) : dt_Sp mX7_lowestBits 0 0 0 [dt_I l, dt_I v0] sh σ (fun v sh2 σ2 => v = some (dt_I (cLow l v0)) ∧ sh2 = sh ∧ σ2 = σ) := by
  refine dt_Sp_of (by decide) (Nat.le_of_ble_eq_true rfl) ?_
  refine dt_wfV fun hwf => ?_
  show dt_V _ _ _ 0 0 0 [some (dt_I l), some (dt_I v0)] [] _ _
  refine dt_iloadn dX7_lowestBits_0 rfl rfl ?_
  refine dt_if_ne (tgt := 7) dX7_lowestBits_1 (by decide) (by first | assumption | exact hwf _ _ | exact dt_b32 _ | omega | exact ⟨by omega, by omega⟩ | decide | exact ⟨by simp (disch := omega) only [dt_up_s, dt_up_k, dt_up_n]; omega, by simp (disch := omega) only [dt_up_s, dt_up_k, dt_up_n]; omega⟩) (fun c1 => ?_) (fun c1 => ?_)
  · skip
    refine dt_iloadn dX7_lowestBits_7 rfl rfl ?_
    refine dt_iconst dX7_lowestBits_8 ?_
    refine dt_cm_ne (tgt := 17) dX7_lowestBits_9 (by decide) (by first | assumption | exact hwf _ _ | exact dt_b32 _ | omega | exact ⟨by omega, by omega⟩ | decide | exact ⟨by simp (disch := omega) only [dt_up_s, dt_up_k, dt_up_n]; omega, by simp (disch := omega) only [dt_up_s, dt_up_k, dt_up_n]; omega⟩) (by first | assumption | exact hwf _ _ | exact dt_b32 _ | omega | exact ⟨by omega, by omega⟩ | decide | exact ⟨by simp (disch := omega) only [dt_up_s, dt_up_k, dt_up_n]; omega, by simp (disch := omega) only [dt_up_s, dt_up_k, dt_up_n]; omega⟩) (fun c2 => ?_) (fun c2 => ?_)
    · skip
      refine dt_iloadn dX7_lowestBits_17 rfl rfl ?_
      refine dt_iret dX7_lowestBits_18 rfl (by decide) (by decide) ?_
      refine ⟨?_, rfl, rfl⟩
      unfold cLow
      repeat (first | rw [if_pos (by omega)] | rw [if_neg (by omega)])
    · skip
      refine dt_iloadn dX7_lowestBits_12 rfl rfl ?_
      refine dt_ui2s dX7_lowestBits_13 ?_
      refine dt_goto (tgt := 18) dX7_lowestBits_14 (by decide) ?_
      refine dt_iret dX7_lowestBits_18 rfl (by decide) (by decide) ?_
      refine ⟨?_, rfl, rfl⟩
      unfold cLow
      repeat (first | rw [if_pos (by omega)] | rw [if_neg (by omega)])
  · skip
    refine dt_iloadn dX7_lowestBits_4 rfl rfl ?_
    refine dt_ui2b dX7_lowestBits_5 ?_
    refine dt_iret dX7_lowestBits_6 rfl (by decide) (by decide) ?_
    refine ⟨?_, rfl, rfl⟩
    unfold cLow
    repeat (first | rw [if_pos (by omega)] | rw [if_neg (by omega)])
theorem s_X7_put {ex : List dt_Shp} {σ : dt_Mem} {r i v0 : Int} (h1 : 0 ≤ r) (h2 : r < 8) (hp : cHP σ r i 1) (hs : σ 3 r.toNat ≤ 40) (hv : dt_in32 v0) : dt_Sp mX7_put 3 0 0 [dt_R 1, dt_I r, dt_I i, dt_I v0] (dt_SH ++ ex) σ (fun v sh2 σ2 => v = some (dt_I (cLow (σ 2 r.toNat) v0)) ∧ sh2 = dt_SH ++ ex ∧ σ2 = dt_up σ 4 (r * 40 + i).toNat (cLow (σ 2 r.toNat) v0)) := by
  refine dt_Sp_of (by decide) (Nat.le_of_ble_eq_true rfl) ?_
  refine dt_wfV fun hwf => ?_
  obtain ⟨hp1, hp2, hp3, hp4⟩ := id hp
  have hc := cLow_in (l := σ 2 r.toNat) hv
  show dt_V _ _ _ 0 0 0 [some (dt_R 1), some (dt_I r), some (dt_I i), some (dt_I v0), none] [] _ _
  refine dt_aloadn dX7_put_0 rfl rfl ?_
  refine dt_iloadn dX7_put_1 rfl rfl ?_
  refine dt_iloadn dX7_put_2 rfl rfl ?_
  refine dt_iconst dX7_put_3 ?_
  refine dt_xV dX7_put_4 pc_X7_33 rfl (s_X7_hasPlaces (by first | assumption | exact hwf _ _ | exact dt_b32 _ | omega | exact ⟨by omega, by omega⟩ | decide | exact ⟨by simp (disch := omega) only [dt_up_s, dt_up_k, dt_up_n]; omega, by simp (disch := omega) only [dt_up_s, dt_up_k, dt_up_n]; omega⟩) (by first | assumption | exact hwf _ _ | exact dt_b32 _ | omega | exact ⟨by omega, by omega⟩ | decide | exact ⟨by simp (disch := omega) only [dt_up_s, dt_up_k, dt_up_n]; omega, by simp (disch := omega) only [dt_up_s, dt_up_k, dt_up_n]; omega⟩) (by first | assumption | exact hwf _ _ | exact dt_b32 _ | omega | exact ⟨by omega, by omega⟩ | decide | exact ⟨by simp (disch := omega) only [dt_up_s, dt_up_k, dt_up_n]; omega, by simp (disch := omega) only [dt_up_s, dt_up_k, dt_up_n]; omega⟩) (by first | assumption | exact hwf _ _ | exact dt_b32 _ | omega | exact ⟨by omega, by omega⟩ | decide | exact ⟨by simp (disch := omega) only [dt_up_s, dt_up_k, dt_up_n]; omega, by simp (disch := omega) only [dt_up_s, dt_up_k, dt_up_n]; omega⟩)) rfl rfl ⟨by decide, by decide⟩ rfl rfl (Nat.le_of_ble_eq_true rfl) ⟨by decide, by decide⟩ (dt_k3 ?_)
  refine dt_if_ne (tgt := 12) dX7_put_7 (by decide) (by first | assumption | exact hwf _ _ | exact dt_b32 _ | omega | exact ⟨by omega, by omega⟩ | decide | exact ⟨by simp (disch := omega) only [dt_up_s, dt_up_k, dt_up_n]; omega, by simp (disch := omega) only [dt_up_s, dt_up_k, dt_up_n]; omega⟩) (fun c1 => ?_) (fun c1 => ?_)
  · skip
    try simp only [dt_b0, dt_b1, Decidable.not_not, Classical.not_not] at c1
    refine dt_aloadn dX7_put_12 rfl rfl ?_
    refine dt_getR dX7_put_13 pg_X7_9_7 rfl rfl ?_
    refine dt_iloadn dX7_put_16 rfl rfl ?_
    refine dt_iald dX7_put_17 rfl (by first | omega | (simp (disch := omega) only [dt_up_s, dt_up_k, dt_up_n]; omega)) (by first | omega | (simp (disch := omega) only [dt_up_s, dt_up_k, dt_up_n]; omega)) (by decide) ?_
    refine dt_iloadn dX7_put_18 rfl rfl ?_
    refine dt_xS dX7_put_19 pc_X7_37 (s_X7_lowestBits (by first | assumption | exact hwf _ _ | exact dt_b32 _ | omega | exact ⟨by omega, by omega⟩ | decide | exact ⟨by simp (disch := omega) only [dt_up_s, dt_up_k, dt_up_n]; omega, by simp (disch := omega) only [dt_up_s, dt_up_k, dt_up_n]; omega⟩) (by first | assumption | exact hwf _ _ | exact dt_b32 _ | omega | exact ⟨by omega, by omega⟩ | decide | exact ⟨by simp (disch := omega) only [dt_up_s, dt_up_k, dt_up_n]; omega, by simp (disch := omega) only [dt_up_s, dt_up_k, dt_up_n]; omega⟩)) rfl rfl ⟨by decide, by decide⟩ (Nat.le_of_ble_eq_true rfl) ⟨by decide, by decide⟩ (dt_k3 ?_)
    refine dt_istore dX7_put_22 (by decide) rfl ?_
    dsimp only [List.set]
    refine dt_aloadn dX7_put_24 rfl rfl ?_
    refine dt_getR dX7_put_25 pg_X7_16_7 rfl rfl ?_
    refine dt_iloadn dX7_put_28 rfl rfl ?_
    refine dt_bipush dX7_put_29 (by decide) ?_
    refine dt_imul dX7_put_31 ?_
    refine dt_iloadn dX7_put_32 rfl rfl ?_
    refine dt_iadd dX7_put_33 ?_
    refine dt_iload dX7_put_34 rfl ?_
    refine dt_wfV fun hwf => ?_
    refine dt_iast dX7_put_36 rfl (by first | omega | (simp (disch := omega) only [dt_up_s, dt_up_k, dt_up_n]; omega)) (by first | omega | (simp (disch := omega) only [dt_up_s, dt_up_k, dt_up_n]; omega)) (by decide) (by first | assumption | exact hwf _ _ | exact dt_b32 _ | omega | exact ⟨by omega, by omega⟩ | decide | exact ⟨by simp (disch := omega) only [dt_up_s, dt_up_k, dt_up_n]; omega, by simp (disch := omega) only [dt_up_s, dt_up_k, dt_up_n]; omega⟩) ?_
    refine dt_iload dX7_put_37 rfl ?_
    refine dt_iret dX7_put_39 rfl (by decide) (by decide) ?_
    exact ⟨rfl, rfl, rfl⟩
  · skip
    try simp only [dt_b0, dt_b1, Decidable.not_not, Classical.not_not] at c1
    exact absurd hp c1
theorem s_X7_lose {ex : List dt_Shp} {σ : dt_Mem} {r : Int} (h1 : 0 ≤ r) (h2 : r < 8) : dt_Sp mX7_lose 1 0 0 [dt_R 1, dt_I r] (dt_SH ++ ex) σ (fun v sh2 σ2 => v = some (dt_I (σ 3 r.toNat)) ∧ sh2 = dt_SH ++ ex ∧ σ2 = dt_up (dt_up σ 2 r.toNat (-1)) 3 r.toNat 0) := by
  refine dt_Sp_of (by decide) (Nat.le_of_ble_eq_true rfl) ?_
  refine dt_wfV fun hwf => ?_
  show dt_V _ _ _ 0 0 0 [some (dt_R 1), some (dt_I r), none] [] _ _
  refine dt_iloadn dX7_lose_0 rfl rfl ?_
  refine dt_xS dX7_lose_1 pc_X7_23 (s_X7_isOne (by first | assumption | exact hwf _ _ | exact dt_b32 _ | omega | exact ⟨by omega, by omega⟩ | decide | exact ⟨by simp (disch := omega) only [dt_up_s, dt_up_k, dt_up_n]; omega, by simp (disch := omega) only [dt_up_s, dt_up_k, dt_up_n]; omega⟩)) rfl rfl ⟨by decide, by decide⟩ (Nat.le_of_ble_eq_true rfl) ⟨by decide, by decide⟩ (dt_k3 ?_)
  refine dt_if_ne (tgt := 9) dX7_lose_4 (by decide) (by first | assumption | exact hwf _ _ | exact dt_b32 _ | omega | exact ⟨by omega, by omega⟩ | decide | exact ⟨by simp (disch := omega) only [dt_up_s, dt_up_k, dt_up_n]; omega, by simp (disch := omega) only [dt_up_s, dt_up_k, dt_up_n]; omega⟩) (fun c1 => ?_) (fun c1 => ?_)
  · skip
    try simp only [dt_b0, dt_b1, Decidable.not_not, Classical.not_not] at c1
    refine dt_aloadn dX7_lose_9 rfl rfl ?_
    refine dt_getR dX7_lose_10 pg_X7_13_7 rfl rfl ?_
    refine dt_iloadn dX7_lose_13 rfl rfl ?_
    refine dt_iald dX7_lose_14 rfl (by first | omega | (simp (disch := omega) only [dt_up_s, dt_up_k, dt_up_n]; omega)) (by first | omega | (simp (disch := omega) only [dt_up_s, dt_up_k, dt_up_n]; omega)) (by decide) ?_
    refine dt_istoren dX7_lose_15 rfl (by decide) rfl ?_
    dsimp only [List.set]
    refine dt_aloadn dX7_lose_16 rfl rfl ?_
    refine dt_getR dX7_lose_17 pg_X7_9_7 rfl rfl ?_
    refine dt_iloadn dX7_lose_20 rfl rfl ?_
    refine dt_iconst dX7_lose_21 ?_
    refine dt_wfV fun hwf => ?_
    refine dt_iast dX7_lose_22 rfl (by first | omega | (simp (disch := omega) only [dt_up_s, dt_up_k, dt_up_n]; omega)) (by first | omega | (simp (disch := omega) only [dt_up_s, dt_up_k, dt_up_n]; omega)) (by decide) (by first | assumption | exact hwf _ _ | exact dt_b32 _ | omega | exact ⟨by omega, by omega⟩ | decide | exact ⟨by simp (disch := omega) only [dt_up_s, dt_up_k, dt_up_n]; omega, by simp (disch := omega) only [dt_up_s, dt_up_k, dt_up_n]; omega⟩) ?_
    refine dt_aloadn dX7_lose_23 rfl rfl ?_
    refine dt_getR dX7_lose_24 pg_X7_13_7 rfl rfl ?_
    refine dt_iloadn dX7_lose_27 rfl rfl ?_
    refine dt_iconst dX7_lose_28 ?_
    refine dt_wfV fun hwf => ?_
    refine dt_iast dX7_lose_29 rfl (by first | omega | (simp (disch := omega) only [dt_up_s, dt_up_k, dt_up_n]; omega)) (by first | omega | (simp (disch := omega) only [dt_up_s, dt_up_k, dt_up_n]; omega)) (by decide) (by first | assumption | exact hwf _ _ | exact dt_b32 _ | omega | exact ⟨by omega, by omega⟩ | decide | exact ⟨by simp (disch := omega) only [dt_up_s, dt_up_k, dt_up_n]; omega, by simp (disch := omega) only [dt_up_s, dt_up_k, dt_up_n]; omega⟩) ?_
    refine dt_iloadn dX7_lose_30 rfl rfl ?_
    refine dt_iret dX7_lose_31 rfl (by decide) (by decide) ?_
    exact ⟨rfl, rfl, rfl⟩
  · skip
    try simp only [dt_b0, dt_b1, Decidable.not_not, Classical.not_not] at c1
    exact absurd ⟨h1, h2⟩ c1
theorem s_X7_move {ex : List dt_Shp} {σ : dt_Mem} {a i b j n : Int} (h1 : 0 ≤ a) (h2 : a < 8) (h3 : 0 ≤ b) (h4 : b < 8) (hp : cHP σ a i n) (hq : cHP σ b j n) (hs : σ 3 a.toNat ≤ 40) (hs2 : σ 3 b.toNat ≤ 40) : dt_Sp mX7_move 3 0 0 [dt_R 1, dt_I a, dt_I i, dt_I b, dt_I j, dt_I n] (dt_SH ++ ex) σ (fun v sh2 σ2 => v = none ∧ sh2 = dt_SH ++ ex ∧ σ2 = dt_cp σ 4 4 (a * 40 + i).toNat (b * 40 + j).toNat n.toNat) := by
  refine dt_Sp_of (by decide) (Nat.le_of_ble_eq_true rfl) ?_
  refine dt_wfV fun hwf => ?_
  obtain ⟨hp1, hp2, hp3, hp4⟩ := id hp
  obtain ⟨hq1, hq2, hq3, hq4⟩ := id hq
  show dt_V _ _ _ 0 0 0 [some (dt_R 1), some (dt_I a), some (dt_I i), some (dt_I b), some (dt_I j), some (dt_I n)] [] _ _
  refine dt_iloadn dX7_move_0 rfl rfl ?_
  refine dt_xS dX7_move_1 pc_X7_23 (s_X7_isOne (by first | assumption | exact hwf _ _ | exact dt_b32 _ | omega | exact ⟨by omega, by omega⟩ | decide | exact ⟨by simp (disch := omega) only [dt_up_s, dt_up_k, dt_up_n]; omega, by simp (disch := omega) only [dt_up_s, dt_up_k, dt_up_n]; omega⟩)) rfl rfl ⟨by decide, by decide⟩ (Nat.le_of_ble_eq_true rfl) ⟨by decide, by decide⟩ (dt_k3 ?_)
  refine dt_if_eq (tgt := 63) dX7_move_4 (by decide) (by first | assumption | exact hwf _ _ | exact dt_b32 _ | omega | exact ⟨by omega, by omega⟩ | decide | exact ⟨by simp (disch := omega) only [dt_up_s, dt_up_k, dt_up_n]; omega, by simp (disch := omega) only [dt_up_s, dt_up_k, dt_up_n]; omega⟩) (fun c1 => ?_) (fun c1 => ?_)
  · skip
    try simp only [dt_b0, dt_b1, Decidable.not_not, Classical.not_not] at c1
    exact absurd ⟨h1, h2⟩ c1
  · skip
    try simp only [dt_b0, dt_b1, Decidable.not_not, Classical.not_not] at c1
    refine dt_iloadn dX7_move_7 rfl rfl ?_
    refine dt_xS dX7_move_8 pc_X7_23 (s_X7_isOne (by first | assumption | exact hwf _ _ | exact dt_b32 _ | omega | exact ⟨by omega, by omega⟩ | decide | exact ⟨by simp (disch := omega) only [dt_up_s, dt_up_k, dt_up_n]; omega, by simp (disch := omega) only [dt_up_s, dt_up_k, dt_up_n]; omega⟩)) rfl rfl ⟨by decide, by decide⟩ (Nat.le_of_ble_eq_true rfl) ⟨by decide, by decide⟩ (dt_k3 ?_)
    refine dt_if_eq (tgt := 63) dX7_move_11 (by decide) (by first | assumption | exact hwf _ _ | exact dt_b32 _ | omega | exact ⟨by omega, by omega⟩ | decide | exact ⟨by simp (disch := omega) only [dt_up_s, dt_up_k, dt_up_n]; omega, by simp (disch := omega) only [dt_up_s, dt_up_k, dt_up_n]; omega⟩) (fun c2 => ?_) (fun c2 => ?_)
    · skip
      try simp only [dt_b0, dt_b1, Decidable.not_not, Classical.not_not] at c2
      exact absurd ⟨h3, h4⟩ c2
    · skip
      try simp only [dt_b0, dt_b1, Decidable.not_not, Classical.not_not] at c2
      refine dt_aloadn dX7_move_14 rfl rfl ?_
      refine dt_iloadn dX7_move_15 rfl rfl ?_
      refine dt_iloadn dX7_move_16 rfl rfl ?_
      refine dt_iload dX7_move_17 rfl ?_
      refine dt_xV dX7_move_19 pc_X7_33 rfl (s_X7_hasPlaces (by first | assumption | exact hwf _ _ | exact dt_b32 _ | omega | exact ⟨by omega, by omega⟩ | decide | exact ⟨by simp (disch := omega) only [dt_up_s, dt_up_k, dt_up_n]; omega, by simp (disch := omega) only [dt_up_s, dt_up_k, dt_up_n]; omega⟩) (by first | assumption | exact hwf _ _ | exact dt_b32 _ | omega | exact ⟨by omega, by omega⟩ | decide | exact ⟨by simp (disch := omega) only [dt_up_s, dt_up_k, dt_up_n]; omega, by simp (disch := omega) only [dt_up_s, dt_up_k, dt_up_n]; omega⟩) (by first | assumption | exact hwf _ _ | exact dt_b32 _ | omega | exact ⟨by omega, by omega⟩ | decide | exact ⟨by simp (disch := omega) only [dt_up_s, dt_up_k, dt_up_n]; omega, by simp (disch := omega) only [dt_up_s, dt_up_k, dt_up_n]; omega⟩) (by first | assumption | exact hwf _ _ | exact dt_b32 _ | omega | exact ⟨by omega, by omega⟩ | decide | exact ⟨by simp (disch := omega) only [dt_up_s, dt_up_k, dt_up_n]; omega, by simp (disch := omega) only [dt_up_s, dt_up_k, dt_up_n]; omega⟩)) rfl rfl ⟨by decide, by decide⟩ rfl rfl (Nat.le_of_ble_eq_true rfl) ⟨by decide, by decide⟩ (dt_k3 ?_)
      refine dt_if_eq (tgt := 63) dX7_move_22 (by decide) (by first | assumption | exact hwf _ _ | exact dt_b32 _ | omega | exact ⟨by omega, by omega⟩ | decide | exact ⟨by simp (disch := omega) only [dt_up_s, dt_up_k, dt_up_n]; omega, by simp (disch := omega) only [dt_up_s, dt_up_k, dt_up_n]; omega⟩) (fun c3 => ?_) (fun c3 => ?_)
      · skip
        try simp only [dt_b0, dt_b1, Decidable.not_not, Classical.not_not] at c3
        exact absurd hp c3
      · skip
        try simp only [dt_b0, dt_b1, Decidable.not_not, Classical.not_not] at c3
        refine dt_aloadn dX7_move_25 rfl rfl ?_
        refine dt_iloadn dX7_move_26 rfl rfl ?_
        refine dt_iload dX7_move_27 rfl ?_
        refine dt_iload dX7_move_29 rfl ?_
        refine dt_xV dX7_move_31 pc_X7_33 rfl (s_X7_hasPlaces (by first | assumption | exact hwf _ _ | exact dt_b32 _ | omega | exact ⟨by omega, by omega⟩ | decide | exact ⟨by simp (disch := omega) only [dt_up_s, dt_up_k, dt_up_n]; omega, by simp (disch := omega) only [dt_up_s, dt_up_k, dt_up_n]; omega⟩) (by first | assumption | exact hwf _ _ | exact dt_b32 _ | omega | exact ⟨by omega, by omega⟩ | decide | exact ⟨by simp (disch := omega) only [dt_up_s, dt_up_k, dt_up_n]; omega, by simp (disch := omega) only [dt_up_s, dt_up_k, dt_up_n]; omega⟩) (by first | assumption | exact hwf _ _ | exact dt_b32 _ | omega | exact ⟨by omega, by omega⟩ | decide | exact ⟨by simp (disch := omega) only [dt_up_s, dt_up_k, dt_up_n]; omega, by simp (disch := omega) only [dt_up_s, dt_up_k, dt_up_n]; omega⟩) (by first | assumption | exact hwf _ _ | exact dt_b32 _ | omega | exact ⟨by omega, by omega⟩ | decide | exact ⟨by simp (disch := omega) only [dt_up_s, dt_up_k, dt_up_n]; omega, by simp (disch := omega) only [dt_up_s, dt_up_k, dt_up_n]; omega⟩)) rfl rfl ⟨by decide, by decide⟩ rfl rfl (Nat.le_of_ble_eq_true rfl) ⟨by decide, by decide⟩ (dt_k3 ?_)
        refine dt_if_eq (tgt := 63) dX7_move_34 (by decide) (by first | assumption | exact hwf _ _ | exact dt_b32 _ | omega | exact ⟨by omega, by omega⟩ | decide | exact ⟨by simp (disch := omega) only [dt_up_s, dt_up_k, dt_up_n]; omega, by simp (disch := omega) only [dt_up_s, dt_up_k, dt_up_n]; omega⟩) (fun c4 => ?_) (fun c4 => ?_)
        · skip
          try simp only [dt_b0, dt_b1, Decidable.not_not, Classical.not_not] at c4
          exact absurd hq c4
        · skip
          try simp only [dt_b0, dt_b1, Decidable.not_not, Classical.not_not] at c4
          refine dt_aloadn dX7_move_37 rfl rfl ?_
          refine dt_getR dX7_move_38 pg_X7_16_7 rfl rfl ?_
          refine dt_iloadn dX7_move_41 rfl rfl ?_
          refine dt_bipush dX7_move_42 (by decide) ?_
          refine dt_imul dX7_move_44 ?_
          refine dt_iloadn dX7_move_45 rfl rfl ?_
          refine dt_iadd dX7_move_46 ?_
          refine dt_aloadn dX7_move_47 rfl rfl ?_
          refine dt_getR dX7_move_48 pg_X7_16_7 rfl rfl ?_
          refine dt_iloadn dX7_move_51 rfl rfl ?_
          refine dt_bipush dX7_move_52 (by decide) ?_
          refine dt_imul dX7_move_54 ?_
          refine dt_iload dX7_move_55 rfl ?_
          refine dt_iadd dX7_move_57 ?_
          refine dt_iload dX7_move_58 rfl ?_
          refine dt_copy dX7_move_60 po_X7_41 psy_n psy_s psy_i (by decide) (by decide) rfl rfl (Or.inl rfl) (by decide) (by decide) (by first | omega | (simp (disch := omega) only [dt_up_s, dt_up_k, dt_up_n]; omega)) (by first | omega | (simp (disch := omega) only [dt_up_s, dt_up_k, dt_up_n]; omega)) (by first | omega | (simp (disch := omega) only [dt_up_s, dt_up_k, dt_up_n]; omega)) (by first | omega | (simp (disch := omega) only [dt_up_s, dt_up_k, dt_up_n]; omega)) (by first | omega | (simp (disch := omega) only [dt_up_s, dt_up_k, dt_up_n]; omega)) ?_
          refine dt_vret dX7_move_63 rfl (by decide) (by decide) ?_
          exact ⟨rfl, rfl, rfl⟩
theorem s_X7_lay {ex : List dt_Shp} {σ : dt_Mem} {r l n : Int} (h1 : 0 ≤ r) (h2 : r < 8) (hl : dt_in32 l) (hn : 0 ≤ n) (hn2 : n ≤ 40) : dt_Sp mX7_lay 1 0 0 [dt_R 1, dt_I r, dt_I l, dt_I n] (dt_SH ++ ex) σ (fun v sh2 σ2 => v = none ∧ sh2 = dt_SH ++ ex ∧ σ2 = dt_fil (dt_up (dt_up σ 2 r.toNat l) 3 r.toNat n) 4 (r.toNat * 40) n.toNat (fun _ => 0)) := by
  refine dt_Sp_of (by decide) (Nat.le_of_ble_eq_true rfl) ?_
  refine dt_wfV fun hwf => ?_
  show dt_V _ _ _ 0 0 0 [some (dt_R 1), some (dt_I r), some (dt_I l), some (dt_I n), none] [] _ _
  refine dt_iloadn dX7_lay_0 rfl rfl ?_
  refine dt_xS dX7_lay_1 pc_X7_23 (s_X7_isOne (by first | assumption | exact hwf _ _ | exact dt_b32 _ | omega | exact ⟨by omega, by omega⟩ | decide | exact ⟨by simp (disch := omega) only [dt_up_s, dt_up_k, dt_up_n]; omega, by simp (disch := omega) only [dt_up_s, dt_up_k, dt_up_n]; omega⟩)) rfl rfl ⟨by decide, by decide⟩ (Nat.le_of_ble_eq_true rfl) ⟨by decide, by decide⟩ (dt_k3 ?_)
  refine dt_if_eq (tgt := 17) dX7_lay_4 (by decide) (by first | assumption | exact hwf _ _ | exact dt_b32 _ | omega | exact ⟨by omega, by omega⟩ | decide | exact ⟨by simp (disch := omega) only [dt_up_s, dt_up_k, dt_up_n]; omega, by simp (disch := omega) only [dt_up_s, dt_up_k, dt_up_n]; omega⟩) (fun c1 => ?_) (fun c1 => ?_)
  · skip
    try simp only [dt_b0, dt_b1, Decidable.not_not, Classical.not_not] at c1
    exact absurd ⟨h1, h2⟩ c1
  · skip
    try simp only [dt_b0, dt_b1, Decidable.not_not, Classical.not_not] at c1
    refine dt_iloadn dX7_lay_7 rfl rfl ?_
    refine dt_if_lt (tgt := 17) dX7_lay_8 (by decide) (by first | assumption | exact hwf _ _ | exact dt_b32 _ | omega | exact ⟨by omega, by omega⟩ | decide | exact ⟨by simp (disch := omega) only [dt_up_s, dt_up_k, dt_up_n]; omega, by simp (disch := omega) only [dt_up_s, dt_up_k, dt_up_n]; omega⟩) (fun c2 => ?_) (fun c2 => ?_)
    · skip
      first | exact absurd c2 (by omega) | exact absurd c2 (by decide) | exact absurd rfl c2
    · skip
      refine dt_iloadn dX7_lay_11 rfl rfl ?_
      refine dt_bipush dX7_lay_12 (by decide) ?_
      refine dt_cm_le (tgt := 18) dX7_lay_14 (by decide) (by first | assumption | exact hwf _ _ | exact dt_b32 _ | omega | exact ⟨by omega, by omega⟩ | decide | exact ⟨by simp (disch := omega) only [dt_up_s, dt_up_k, dt_up_n]; omega, by simp (disch := omega) only [dt_up_s, dt_up_k, dt_up_n]; omega⟩) (by first | assumption | exact hwf _ _ | exact dt_b32 _ | omega | exact ⟨by omega, by omega⟩ | decide | exact ⟨by simp (disch := omega) only [dt_up_s, dt_up_k, dt_up_n]; omega, by simp (disch := omega) only [dt_up_s, dt_up_k, dt_up_n]; omega⟩) (fun c3 => ?_) (fun c3 => ?_)
      · skip
        refine dt_aloadn dX7_lay_18 rfl rfl ?_
        refine dt_getR dX7_lay_19 pg_X7_9_7 rfl rfl ?_
        refine dt_iloadn dX7_lay_22 rfl rfl ?_
        refine dt_iloadn dX7_lay_23 rfl rfl ?_
        refine dt_wfV fun hwf => ?_
        refine dt_iast dX7_lay_24 rfl (by first | omega | (simp (disch := omega) only [dt_up_s, dt_up_k, dt_up_n]; omega)) (by first | omega | (simp (disch := omega) only [dt_up_s, dt_up_k, dt_up_n]; omega)) (by decide) (by first | assumption | exact hwf _ _ | exact dt_b32 _ | omega | exact ⟨by omega, by omega⟩ | decide | exact ⟨by simp (disch := omega) only [dt_up_s, dt_up_k, dt_up_n]; omega, by simp (disch := omega) only [dt_up_s, dt_up_k, dt_up_n]; omega⟩) ?_
        refine dt_aloadn dX7_lay_25 rfl rfl ?_
        refine dt_getR dX7_lay_26 pg_X7_13_7 rfl rfl ?_
        refine dt_iloadn dX7_lay_29 rfl rfl ?_
        refine dt_iloadn dX7_lay_30 rfl rfl ?_
        refine dt_wfV fun hwf => ?_
        refine dt_iast dX7_lay_31 rfl (by first | omega | (simp (disch := omega) only [dt_up_s, dt_up_k, dt_up_n]; omega)) (by first | omega | (simp (disch := omega) only [dt_up_s, dt_up_k, dt_up_n]; omega)) (by decide) (by first | assumption | exact hwf _ _ | exact dt_b32 _ | omega | exact ⟨by omega, by omega⟩ | decide | exact ⟨by simp (disch := omega) only [dt_up_s, dt_up_k, dt_up_n]; omega, by simp (disch := omega) only [dt_up_s, dt_up_k, dt_up_n]; omega⟩) ?_
        refine dt_iconst dX7_lay_32 ?_
        refine dt_istore dX7_lay_33 (by decide) rfl ?_
        dsimp only [List.set]
        have lp35 : ∀ (fu : Nat) (i : Nat), n - i < (fu : Int) → ((i : Int) ≤ n) →  dt_V mX7_lay (dt_rm 1 0 0) (dt_MC (fun v sh2 σ2 => v = none ∧ sh2 = dt_SH ++ ex ∧ σ2 = dt_fil (dt_up (dt_up σ 2 r.toNat l) 3 r.toNat n) 4 (r.toNat * 40) n.toNat (fun _ => 0)) 0 0) 0 0 35 [some (dt_R 1), some (dt_I r), some (dt_I l), some (dt_I n), some (dt_I (i : Int))] [] (dt_SH ++ ex) (dt_fil (dt_up (dt_up σ 2 r.toNat l) 3 r.toNat n) 4 (r.toNat * 40) i (fun _ => 0)) := by
          intro fu
          induction fu with
          | zero =>
            intro i hm hi
            exfalso
            omega
          | succ fu ih =>
            intro i hm hi
            refine dt_wfV fun hwf => ?_
            refine dt_iload dX7_lay_35 rfl ?_
            refine dt_iloadn dX7_lay_37 rfl rfl ?_
            refine dt_cm_ge (tgt := 60) dX7_lay_38 (by decide) (by first | assumption | exact hwf _ _ | exact dt_b32 _ | omega | exact ⟨by omega, by omega⟩ | decide | exact ⟨by simp (disch := omega) only [dt_up_s, dt_up_k, dt_up_n]; omega, by simp (disch := omega) only [dt_up_s, dt_up_k, dt_up_n]; omega⟩) (by first | assumption | exact hwf _ _ | exact dt_b32 _ | omega | exact ⟨by omega, by omega⟩ | decide | exact ⟨by simp (disch := omega) only [dt_up_s, dt_up_k, dt_up_n]; omega, by simp (disch := omega) only [dt_up_s, dt_up_k, dt_up_n]; omega⟩) (fun c4 => ?_) (fun c4 => ?_)
            · skip
              refine dt_vret dX7_lay_60 rfl (by decide) (by decide) ?_
              rw [show n.toNat = i by omega]
              exact ⟨rfl, rfl, rfl⟩
            · skip
              refine dt_aloadn dX7_lay_41 rfl rfl ?_
              refine dt_getR dX7_lay_42 pg_X7_16_7 rfl rfl ?_
              refine dt_iloadn dX7_lay_45 rfl rfl ?_
              refine dt_bipush dX7_lay_46 (by decide) ?_
              refine dt_imul dX7_lay_48 ?_
              refine dt_iload dX7_lay_49 rfl ?_
              refine dt_iadd dX7_lay_51 ?_
              refine dt_iconst dX7_lay_52 ?_
              refine dt_wfV fun hwf => ?_
              refine dt_iast dX7_lay_53 rfl (by first | omega | (simp (disch := omega) only [dt_up_s, dt_up_k, dt_up_n]; omega)) (by first | omega | (simp (disch := omega) only [dt_up_s, dt_up_k, dt_up_n]; omega)) (by decide) (by first | assumption | exact hwf _ _ | exact dt_b32 _ | omega | exact ⟨by omega, by omega⟩ | decide | exact ⟨by simp (disch := omega) only [dt_up_s, dt_up_k, dt_up_n]; omega, by simp (disch := omega) only [dt_up_s, dt_up_k, dt_up_n]; omega⟩) ?_
              rw [show (r * 40 + (i : Int)).toNat = r.toNat * 40 + i by omega, show (0 : Int) = (fun _ : Nat => (0 : Int)) (r.toNat * 40 + i) from rfl, dt_fil_s]
              refine dt_iinc dX7_lay_54 rfl (by decide) rfl ?_
              dsimp only [List.set]
              refine dt_goto (tgt := 35) dX7_lay_57 (by decide) ?_
              exact dt_lb (ih (i + 1) (by omega) (by omega)) ⟨rfl, rfl, rfl, rfl, rfl, trivial⟩
        have h := lp35 50 0 (by omega) (by omega)
        rw [dt_fil_0] at h
        exact dt_lb (h) ⟨rfl, rfl, rfl, rfl, rfl, trivial⟩
      · skip
        first | exact absurd c3 (by omega) | exact absurd c3 (by decide) | exact absurd rfl c3
theorem s_X7_many {ex : List dt_Shp} {σ : dt_Mem}  : dt_Sp mX7_many 3 0 0 [dt_R 1] (dt_SH ++ ex) σ (fun v sh2 σ2 => v = some (dt_I (cMany σ 8)) ∧ sh2 = dt_SH ++ ex ∧ σ2 = σ) := by
  refine dt_Sp_of (by decide) (Nat.le_of_ble_eq_true rfl) ?_
  refine dt_wfV fun hwf => ?_
  show dt_V _ _ _ 0 0 0 [some (dt_R 1), none, none] [] _ _
  refine dt_iconst dX7_many_0 ?_
  refine dt_istoren dX7_many_1 rfl (by decide) rfl ?_
  dsimp only [List.set]
  refine dt_iconst dX7_many_2 ?_
  refine dt_istoren dX7_many_3 rfl (by decide) rfl ?_
  dsimp only [List.set]
  have lp4 : ∀ (fu : Nat) (i : Nat), 8 - (i : Int) < (fu : Int) → (i ≤ 8) →  dt_V mX7_many (dt_rm 3 0 0) (dt_MC (fun v sh2 σ2 => v = some (dt_I (cMany σ 8)) ∧ sh2 = dt_SH ++ ex ∧ σ2 = σ) 0 0) 0 0 4 [some (dt_R 1), some (dt_I (cMany σ i)), some (dt_I (i : Int))] [] (dt_SH ++ ex) σ := by
    intro fu
    induction fu with
    | zero =>
      intro i hm hi
      exfalso
      omega
    | succ fu ih =>
      intro i hm hi
      refine dt_wfV fun hwf => ?_
      have hci := cMany_in σ i
      refine dt_iloadn dX7_many_4 rfl rfl ?_
      refine dt_bipush dX7_many_5 (by decide) ?_
      refine dt_cm_ge (tgt := 27) dX7_many_7 (by decide) (by first | assumption | exact hwf _ _ | exact dt_b32 _ | omega | exact ⟨by omega, by omega⟩ | decide | exact ⟨by simp (disch := omega) only [dt_up_s, dt_up_k, dt_up_n]; omega, by simp (disch := omega) only [dt_up_s, dt_up_k, dt_up_n]; omega⟩) (by first | assumption | exact hwf _ _ | exact dt_b32 _ | omega | exact ⟨by omega, by omega⟩ | decide | exact ⟨by simp (disch := omega) only [dt_up_s, dt_up_k, dt_up_n]; omega, by simp (disch := omega) only [dt_up_s, dt_up_k, dt_up_n]; omega⟩) (fun c1 => ?_) (fun c1 => ?_)
      · skip
        refine dt_iloadn dX7_many_27 rfl rfl ?_
        refine dt_iret dX7_many_28 rfl (by decide) (by decide) ?_
        exact ⟨by rw [show i = 8 by omega], rfl, rfl⟩
      · skip
        refine dt_aloadn dX7_many_10 rfl rfl ?_
        refine dt_iloadn dX7_many_11 rfl rfl ?_
        refine dt_xV dX7_many_12 pc_X7_27 rfl (s_X7_isMissing (by first | assumption | exact hwf _ _ | exact dt_b32 _ | omega | exact ⟨by omega, by omega⟩ | decide | exact ⟨by simp (disch := omega) only [dt_up_s, dt_up_k, dt_up_n]; omega, by simp (disch := omega) only [dt_up_s, dt_up_k, dt_up_n]; omega⟩) (by first | assumption | exact hwf _ _ | exact dt_b32 _ | omega | exact ⟨by omega, by omega⟩ | decide | exact ⟨by simp (disch := omega) only [dt_up_s, dt_up_k, dt_up_n]; omega, by simp (disch := omega) only [dt_up_s, dt_up_k, dt_up_n]; omega⟩)) rfl rfl ⟨by decide, by decide⟩ rfl rfl (Nat.le_of_ble_eq_true rfl) ⟨by decide, by decide⟩ (dt_k3 ?_)
        refine dt_if_ne (tgt := 21) dX7_many_15 (by decide) (by first | assumption | exact hwf _ _ | exact dt_b32 _ | omega | exact ⟨by omega, by omega⟩ | decide | exact ⟨by simp (disch := omega) only [dt_up_s, dt_up_k, dt_up_n]; omega, by simp (disch := omega) only [dt_up_s, dt_up_k, dt_up_n]; omega⟩) (fun c2 => ?_) (fun c2 => ?_)
        · skip
          try simp only [dt_b0, dt_b1, Decidable.not_not, Classical.not_not] at c2
          refine dt_iinc dX7_many_21 rfl (by decide) rfl ?_
          dsimp only [List.set]
          refine dt_goto (tgt := 4) dX7_many_24 (by decide) ?_
          exact dt_lb (ih (i + 1) (by omega) (by omega)) ⟨rfl, (by first | rw [show cMany σ (i + 1) = cMany σ i + (if σ 2 i = -1 then 0 else 1) from rfl, if_pos (by rw [Int.toNat_natCast] at c2; exact c2), Int.add_zero] | rw [show cMany σ (i + 1) = cMany σ i + (if σ 2 i = -1 then 0 else 1) from rfl, if_neg (by rw [Int.toNat_natCast] at c2; exact c2)]), rfl, trivial⟩
        · skip
          try simp only [dt_b0, dt_b1, Decidable.not_not, Classical.not_not] at c2
          refine dt_iinc dX7_many_18 rfl (by decide) rfl ?_
          dsimp only [List.set]
          refine dt_iinc dX7_many_21 rfl (by decide) rfl ?_
          dsimp only [List.set]
          refine dt_goto (tgt := 4) dX7_many_24 (by decide) ?_
          exact dt_lb (ih (i + 1) (by omega) (by omega)) ⟨rfl, (by first | rw [show cMany σ (i + 1) = cMany σ i + (if σ 2 i = -1 then 0 else 1) from rfl, if_pos (by rw [Int.toNat_natCast] at c2; exact c2), Int.add_zero] | rw [show cMany σ (i + 1) = cMany σ i + (if σ 2 i = -1 then 0 else 1) from rfl, if_neg (by rw [Int.toNat_natCast] at c2; exact c2)]), rfl, trivial⟩
  exact dt_lb (lp4 9 0 (by omega) (by omega)) ⟨rfl, rfl, rfl, trivial⟩
