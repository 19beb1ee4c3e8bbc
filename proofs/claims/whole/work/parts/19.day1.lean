
theorem s_X11_isWithin {sh : List dt_Shp} {σ : dt_Mem} {x a b : Int} (h1 : dt_in32 x) (h2 : dt_in32 a) (h3 : dt_in32 b) : dt_Sp mX11_isWithin 0 0 0 [dt_I x, dt_I a, dt_I b] sh σ (fun v sh2 σ2 => v = some (dt_I (dt_b (a ≤ x ∧ x ≤ b))) ∧ sh2 = sh ∧ σ2 = σ) := by
  refine dt_Sp_of (by decide) (Nat.le_of_ble_eq_true rfl) ?_
  refine dt_wfV fun hwf => ?_
  show dt_V _ _ _ 0 0 0 [some (dt_I x), some (dt_I a), some (dt_I b)] [] _ _
  refine dt_iloadn dX11_isWithin_0 rfl rfl ?_
  refine dt_iloadn dX11_isWithin_1 rfl rfl ?_
  refine dt_cm_gt (tgt := 14) dX11_isWithin_2 (by decide) (by first | assumption | exact hwf _ _ | exact dt_b32 _ | omega | exact ⟨by omega, by omega⟩ | decide | exact ⟨by simp (disch := omega) only [dt_up_s, dt_up_k, dt_up_n]; omega, by simp (disch := omega) only [dt_up_s, dt_up_k, dt_up_n]; omega⟩) (by first | assumption | exact hwf _ _ | exact dt_b32 _ | omega | exact ⟨by omega, by omega⟩ | decide | exact ⟨by simp (disch := omega) only [dt_up_s, dt_up_k, dt_up_n]; omega, by simp (disch := omega) only [dt_up_s, dt_up_k, dt_up_n]; omega⟩) (fun c1 => ?_) (fun c1 => ?_)
  · skip
    refine dt_iconst dX11_isWithin_14 ?_
    refine dt_zret dX11_isWithin_15 rfl (by decide) (by decide) (by first | exact Or.inl rfl | exact Or.inr rfl | assumption | omega) ?_
    first | exact ⟨by rw [dt_bT (by omega)], rfl, rfl⟩ | exact ⟨by rw [dt_bF (by omega)], rfl, rfl⟩
  · skip
    refine dt_iloadn dX11_isWithin_5 rfl rfl ?_
    refine dt_iloadn dX11_isWithin_6 rfl rfl ?_
    refine dt_cm_gt (tgt := 14) dX11_isWithin_7 (by decide) (by first | assumption | exact hwf _ _ | exact dt_b32 _ | omega | exact ⟨by omega, by omega⟩ | decide | exact ⟨by simp (disch := omega) only [dt_up_s, dt_up_k, dt_up_n]; omega, by simp (disch := omega) only [dt_up_s, dt_up_k, dt_up_n]; omega⟩) (by first | assumption | exact hwf _ _ | exact dt_b32 _ | omega | exact ⟨by omega, by omega⟩ | decide | exact ⟨by simp (disch := omega) only [dt_up_s, dt_up_k, dt_up_n]; omega, by simp (disch := omega) only [dt_up_s, dt_up_k, dt_up_n]; omega⟩) (fun c2 => ?_) (fun c2 => ?_)
    · skip
      refine dt_iconst dX11_isWithin_14 ?_
      refine dt_zret dX11_isWithin_15 rfl (by decide) (by decide) (by first | exact Or.inl rfl | exact Or.inr rfl | assumption | omega) ?_
      first | exact ⟨by rw [dt_bT (by omega)], rfl, rfl⟩ | exact ⟨by rw [dt_bF (by omega)], rfl, rfl⟩
    · skip
      refine dt_iconst dX11_isWithin_10 ?_
      refine dt_goto (tgt := 15) dX11_isWithin_11 (by decide) ?_
      refine dt_zret dX11_isWithin_15 rfl (by decide) (by decide) (by first | exact Or.inl rfl | exact Or.inr rfl | assumption | omega) ?_
      first | exact ⟨by rw [dt_bT (by omega)], rfl, rfl⟩ | exact ⟨by rw [dt_bF (by omega)], rfl, rfl⟩
theorem s_X11_isDay {sh : List dt_Shp} {σ : dt_Mem} {x : Int} (h1 : dt_in32 x) : dt_Sp mX11_isDay 1 0 0 [dt_I x] sh σ (fun v sh2 σ2 => v = some (dt_I (dt_b (0 ≤ x ∧ x ≤ 1000000))) ∧ sh2 = sh ∧ σ2 = σ) := by
  refine dt_Sp_of (by decide) (Nat.le_of_ble_eq_true rfl) ?_
  refine dt_wfV fun hwf => ?_
  show dt_V _ _ _ 0 0 0 [some (dt_I x)] [] _ _
  refine dt_iloadn dX11_isDay_0 rfl rfl ?_
  refine dt_iconst dX11_isDay_1 ?_
  refine dt_ldcw dX11_isDay_2 pk_X11_269 ?_
  refine dt_xS dX11_isDay_5 pc_X11_70 (s_X11_isWithin (by first | assumption | exact hwf _ _ | exact dt_b32 _ | omega | exact ⟨by omega, by omega⟩ | decide | exact ⟨by simp (disch := omega) only [dt_up_s, dt_up_k, dt_up_n]; omega, by simp (disch := omega) only [dt_up_s, dt_up_k, dt_up_n]; omega⟩) (by first | assumption | exact hwf _ _ | exact dt_b32 _ | omega | exact ⟨by omega, by omega⟩ | decide | exact ⟨by simp (disch := omega) only [dt_up_s, dt_up_k, dt_up_n]; omega, by simp (disch := omega) only [dt_up_s, dt_up_k, dt_up_n]; omega⟩) (by first | assumption | exact hwf _ _ | exact dt_b32 _ | omega | exact ⟨by omega, by omega⟩ | decide | exact ⟨by simp (disch := omega) only [dt_up_s, dt_up_k, dt_up_n]; omega, by simp (disch := omega) only [dt_up_s, dt_up_k, dt_up_n]; omega⟩)) rfl rfl ⟨by decide, by decide⟩ (Nat.le_of_ble_eq_true rfl) ⟨by decide, by decide⟩ (dt_k3 ?_)
  refine dt_zret dX11_isDay_8 rfl (by decide) (by decide) (dt_b01 _) ?_
  exact ⟨rfl, rfl, rfl⟩
theorem s_X11_isSet {sh : List dt_Shp} {σ : dt_Mem} {x : Int} (h1 : dt_in32 x) : dt_Sp mX11_isSet 1 0 0 [dt_I x] sh σ (fun v sh2 σ2 => v = some (dt_I (dt_b (0 ≤ x ∧ x ≤ 255))) ∧ sh2 = sh ∧ σ2 = σ) := by
  refine dt_Sp_of (by decide) (Nat.le_of_ble_eq_true rfl) ?_
  refine dt_wfV fun hwf => ?_
  show dt_V _ _ _ 0 0 0 [some (dt_I x)] [] _ _
  refine dt_iloadn dX11_isSet_0 rfl rfl ?_
  refine dt_iconst dX11_isSet_1 ?_
  refine dt_sipush dX11_isSet_2 (by decide) ?_
  refine dt_xS dX11_isSet_5 pc_X11_70 (s_X11_isWithin (by first | assumption | exact hwf _ _ | exact dt_b32 _ | omega | exact ⟨by omega, by omega⟩ | decide | exact ⟨by simp (disch := omega) only [dt_up_s, dt_up_k, dt_up_n]; omega, by simp (disch := omega) only [dt_up_s, dt_up_k, dt_up_n]; omega⟩) (by first | assumption | exact hwf _ _ | exact dt_b32 _ | omega | exact ⟨by omega, by omega⟩ | decide | exact ⟨by simp (disch := omega) only [dt_up_s, dt_up_k, dt_up_n]; omega, by simp (disch := omega) only [dt_up_s, dt_up_k, dt_up_n]; omega⟩) (by first | assumption | exact hwf _ _ | exact dt_b32 _ | omega | exact ⟨by omega, by omega⟩ | decide | exact ⟨by simp (disch := omega) only [dt_up_s, dt_up_k, dt_up_n]; omega, by simp (disch := omega) only [dt_up_s, dt_up_k, dt_up_n]; omega⟩)) rfl rfl ⟨by decide, by decide⟩ (Nat.le_of_ble_eq_true rfl) ⟨by decide, by decide⟩ (dt_k3 ?_)
  refine dt_zret dX11_isSet_8 rfl (by decide) (by decide) (dt_b01 _) ?_
  exact ⟨rfl, rfl, rfl⟩
theorem s_X11_found {ex : List dt_Shp} {σ : dt_Mem} {f : Int} (h1 : dt_in32 f) : dt_Sp mX11_found 0 0 0 [dt_R 0, dt_I f] (dt_SH ++ ex) σ (fun v sh2 σ2 => v = some (dt_I (-1000010 - f)) ∧ sh2 = dt_SH ++ ex ∧ σ2 = dt_up σ 0 10 f) := by
  refine dt_Sp_of (by decide) (Nat.le_of_ble_eq_true rfl) ?_
  refine dt_wfV fun hwf => ?_
  show dt_V _ _ _ 0 0 0 [some (dt_R 0), some (dt_I f)] [] _ _
  refine dt_aloadn dX11_found_0 rfl rfl ?_
  refine dt_iloadn dX11_found_1 rfl rfl ?_
  refine dt_wfV fun hwf => ?_
  refine dt_putI dX11_found_2 pw_X11_63_11 rfl rfl (by first | assumption | exact hwf _ _ | exact dt_b32 _ | omega | exact ⟨by omega, by omega⟩ | decide | exact ⟨by simp (disch := omega) only [dt_up_s, dt_up_k, dt_up_n]; omega, by simp (disch := omega) only [dt_up_s, dt_up_k, dt_up_n]; omega⟩) ?_
  refine dt_ldcw dX11_found_5 pk_X11_268 ?_
  refine dt_iloadn dX11_found_8 rfl rfl ?_
  refine dt_isub dX11_found_9 ?_
  refine dt_iret dX11_found_10 rfl (by decide) (by decide) ?_
  exact ⟨rfl, rfl, rfl⟩
theorem s_X11_well {ex : List dt_Shp} {σ : dt_Mem} {f : Int}  : dt_Sp mX11_well 0 0 0 [dt_R 0, dt_I f] (dt_SH ++ ex) σ (fun v sh2 σ2 => v = some (dt_I f) ∧ sh2 = dt_SH ++ ex ∧ σ2 = dt_up σ 0 10 0) := by
  refine dt_Sp_of (by decide) (Nat.le_of_ble_eq_true rfl) ?_
  refine dt_wfV fun hwf => ?_
  show dt_V _ _ _ 0 0 0 [some (dt_R 0), some (dt_I f)] [] _ _
  refine dt_aloadn dX11_well_0 rfl rfl ?_
  refine dt_iconst dX11_well_1 ?_
  refine dt_wfV fun hwf => ?_
  refine dt_putI dX11_well_2 pw_X11_63_11 rfl rfl (by first | assumption | exact hwf _ _ | exact dt_b32 _ | omega | exact ⟨by omega, by omega⟩ | decide | exact ⟨by simp (disch := omega) only [dt_up_s, dt_up_k, dt_up_n]; omega, by simp (disch := omega) only [dt_up_s, dt_up_k, dt_up_n]; omega⟩) ?_
  refine dt_iloadn dX11_well_5 rfl rfl ?_
  refine dt_iret dX11_well_6 rfl (by decide) (by decide) ?_
  exact ⟨rfl, rfl, rfl⟩
theorem s_X11_hasNoPort {ex : List dt_Shp} {σ : dt_Mem}  : dt_Sp mX11_hasNoPort 1 0 0 [dt_R 0] (dt_SH ++ ex) σ (fun v sh2 σ2 => v = some (dt_I (dt_b (σ 7 5 = 0))) ∧ sh2 = dt_SH ++ ex ∧ σ2 = σ) := by
  refine dt_Sp_of (by decide) (Nat.le_of_ble_eq_true rfl) ?_
  refine dt_wfV fun hwf => ?_
  show dt_V _ _ _ 0 0 0 [some (dt_R 0)] [] _ _
  refine dt_aloadn dX11_hasNoPort_0 rfl rfl ?_
  refine dt_getR dX11_hasNoPort_1 pg_X11_26_11 rfl rfl ?_
  refine dt_xV dX11_hasNoPort_4 pc_X11_232 rfl (s_X6_isNone dt_p7) rfl rfl ⟨by decide, by decide⟩ rfl rfl (Nat.le_of_ble_eq_true rfl) ⟨by decide, by decide⟩ (dt_k3 ?_)
  refine dt_zret dX11_hasNoPort_7 rfl (by decide) (by decide) (dt_b01 _) ?_
  exact ⟨rfl, rfl, rfl⟩
theorem s_X11_status {ex : List dt_Shp} {σ : dt_Mem}  : dt_Sp mX11_status 0 0 0 [dt_R 0] (dt_SH ++ ex) σ (fun v sh2 σ2 => v = some (dt_I (σ 0 10)) ∧ sh2 = dt_SH ++ ex ∧ σ2 = σ) := by
  refine dt_Sp_of (by decide) (Nat.le_of_ble_eq_true rfl) ?_
  refine dt_wfV fun hwf => ?_
  show dt_V _ _ _ 0 0 0 [some (dt_R 0)] [] _ _
  refine dt_aloadn dX11_status_0 rfl rfl ?_
  refine dt_getI dX11_status_1 pg_X11_63_11 rfl rfl ?_
  refine dt_iret dX11_status_4 rfl (by decide) (by decide) ?_
  exact ⟨rfl, rfl, rfl⟩
theorem s_X11_fault {ex : List dt_Shp} {σ : dt_Mem}  : dt_Sp mX11_fault 0 0 0 [dt_R 0] (dt_SH ++ ex) σ (fun v sh2 σ2 => v = some (dt_I (σ 0 9)) ∧ sh2 = dt_SH ++ ex ∧ σ2 = σ) := by
  refine dt_Sp_of (by decide) (Nat.le_of_ble_eq_true rfl) ?_
  refine dt_wfV fun hwf => ?_
  show dt_V _ _ _ 0 0 0 [some (dt_R 0)] [] _ _
  refine dt_aloadn dX11_fault_0 rfl rfl ?_
  refine dt_getI dX11_fault_1 pg_X11_59_11 rfl rfl ?_
  refine dt_iret dX11_fault_4 rfl (by decide) (by decide) ?_
  exact ⟨rfl, rfl, rfl⟩
theorem s_X11_row {ex : List dt_Shp} {σ : dt_Mem} {A : dS} {r l n : Int} (hI : cInv ex σ A) (h_r : dt_in32 r) (h_l : dt_in32 l) (h_n : dt_in32 n) : dt_Sp mX11_row 2 0 0 [dt_R 0, dt_I r, dt_I l, dt_I n] (dt_SH ++ ex) σ (fun v sh2 σ2 => v = some (dt_I (oRow A r l n).1) ∧ sh2 = dt_SH ++ ex ∧ cEnd ex σ σ2 (oRow A r l n).2) := by
  refine dt_Sp_of (by decide) (Nat.le_of_ble_eq_true rfl) ?_
  refine dt_wfV fun hwf => ?_
  show dt_V _ _ _ 0 0 0 [some (dt_R 0), some (dt_I r), some (dt_I l), some (dt_I n)] [] _ _
  refine dt_iloadn dX11_row_0 rfl rfl ?_
  refine dt_xS dX11_row_1 pc_X11_66 (s_X7_isOne (by first | assumption | exact hwf _ _ | exact dt_b32 _ | omega | exact ⟨by omega, by omega⟩ | decide | exact ⟨by simp (disch := omega) only [dt_up_s, dt_up_k, dt_up_n]; omega, by simp (disch := omega) only [dt_up_s, dt_up_k, dt_up_n]; omega⟩)) rfl rfl ⟨by decide, by decide⟩ (Nat.le_of_ble_eq_true rfl) ⟨by decide, by decide⟩ (dt_k3 ?_)
  refine dt_if_eq (tgt := 22) dX11_row_4 (by decide) (by first | assumption | exact hwf _ _ | exact dt_b32 _ | omega | exact ⟨by omega, by omega⟩ | decide | exact ⟨by simp (disch := omega) only [dt_up_s, dt_up_k, dt_up_n]; omega, by simp (disch := omega) only [dt_up_s, dt_up_k, dt_up_n]; omega⟩) (fun c1 => ?_) (fun c1 => ?_)
  · skip
    try simp only [dt_b0, dt_b1, Decidable.not_not, Classical.not_not] at c1
    refine dt_ldc dX11_row_22 pk_X11_74 ?_
    refine dt_iret dX11_row_24 rfl (by decide) (by decide) ?_
    have e : oRow A r l n = (-1000001, A) := by
      unfold oRow
      rw [if_pos (by omega)]
    rw [e]
    exact ⟨rfl, rfl, hI, fun b _ _ => rfl⟩
  · skip
    try simp only [dt_b0, dt_b1, Decidable.not_not, Classical.not_not] at c1
    refine dt_iloadn dX11_row_7 rfl rfl ?_
    refine dt_iconst dX11_row_8 ?_
    refine dt_iconst dX11_row_9 ?_
    refine dt_xS dX11_row_10 pc_X11_70 (s_X11_isWithin (by first | assumption | exact hwf _ _ | exact dt_b32 _ | omega | exact ⟨by omega, by omega⟩ | decide | exact ⟨by simp (disch := omega) only [dt_up_s, dt_up_k, dt_up_n]; omega, by simp (disch := omega) only [dt_up_s, dt_up_k, dt_up_n]; omega⟩) (by first | assumption | exact hwf _ _ | exact dt_b32 _ | omega | exact ⟨by omega, by omega⟩ | decide | exact ⟨by simp (disch := omega) only [dt_up_s, dt_up_k, dt_up_n]; omega, by simp (disch := omega) only [dt_up_s, dt_up_k, dt_up_n]; omega⟩) (by first | assumption | exact hwf _ _ | exact dt_b32 _ | omega | exact ⟨by omega, by omega⟩ | decide | exact ⟨by simp (disch := omega) only [dt_up_s, dt_up_k, dt_up_n]; omega, by simp (disch := omega) only [dt_up_s, dt_up_k, dt_up_n]; omega⟩)) rfl rfl ⟨by decide, by decide⟩ (Nat.le_of_ble_eq_true rfl) ⟨by decide, by decide⟩ (dt_k3 ?_)
    refine dt_if_eq (tgt := 22) dX11_row_13 (by decide) (by first | assumption | exact hwf _ _ | exact dt_b32 _ | omega | exact ⟨by omega, by omega⟩ | decide | exact ⟨by simp (disch := omega) only [dt_up_s, dt_up_k, dt_up_n]; omega, by simp (disch := omega) only [dt_up_s, dt_up_k, dt_up_n]; omega⟩) (fun c2 => ?_) (fun c2 => ?_)
    · skip
      try simp only [dt_b0, dt_b1, Decidable.not_not, Classical.not_not] at c2
      refine dt_ldc dX11_row_22 pk_X11_74 ?_
      refine dt_iret dX11_row_24 rfl (by decide) (by decide) ?_
      have e : oRow A r l n = (-1000001, A) := by
        unfold oRow
        rw [if_pos (by omega)]
      rw [e]
      exact ⟨rfl, rfl, hI, fun b _ _ => rfl⟩
    · skip
      try simp only [dt_b0, dt_b1, Decidable.not_not, Classical.not_not] at c2
      refine dt_iloadn dX11_row_16 rfl rfl ?_
      refine dt_bipush dX11_row_17 (by decide) ?_
      refine dt_cm_le (tgt := 25) dX11_row_19 (by decide) (by first | assumption | exact hwf _ _ | exact dt_b32 _ | omega | exact ⟨by omega, by omega⟩ | decide | exact ⟨by simp (disch := omega) only [dt_up_s, dt_up_k, dt_up_n]; omega, by simp (disch := omega) only [dt_up_s, dt_up_k, dt_up_n]; omega⟩) (by first | assumption | exact hwf _ _ | exact dt_b32 _ | omega | exact ⟨by omega, by omega⟩ | decide | exact ⟨by simp (disch := omega) only [dt_up_s, dt_up_k, dt_up_n]; omega, by simp (disch := omega) only [dt_up_s, dt_up_k, dt_up_n]; omega⟩) (fun c3 => ?_) (fun c3 => ?_)
      · skip
        refine dt_iloadn dX11_row_25 rfl rfl ?_
        refine dt_if_ge (tgt := 35) dX11_row_26 (by decide) (by first | assumption | exact hwf _ _ | exact dt_b32 _ | omega | exact ⟨by omega, by omega⟩ | decide | exact ⟨by simp (disch := omega) only [dt_up_s, dt_up_k, dt_up_n]; omega, by simp (disch := omega) only [dt_up_s, dt_up_k, dt_up_n]; omega⟩) (fun c4 => ?_) (fun c4 => ?_)
        · skip
          refine dt_aloadn dX11_row_35 rfl rfl ?_
          refine dt_getR dX11_row_36 pg_X11_10_11 rfl rfl ?_
          refine dt_iloadn dX11_row_39 rfl rfl ?_
          refine dt_iloadn dX11_row_40 rfl rfl ?_
          refine dt_iloadn dX11_row_41 rfl rfl ?_
          refine dt_xV dX11_row_42 pc_X11_79 rfl (s_X7_lay (by first | assumption | exact hwf _ _ | exact dt_b32 _ | omega | exact ⟨by omega, by omega⟩ | decide | exact ⟨by simp (disch := omega) only [dt_up_s, dt_up_k, dt_up_n]; omega, by simp (disch := omega) only [dt_up_s, dt_up_k, dt_up_n]; omega⟩) (by first | assumption | exact hwf _ _ | exact dt_b32 _ | omega | exact ⟨by omega, by omega⟩ | decide | exact ⟨by simp (disch := omega) only [dt_up_s, dt_up_k, dt_up_n]; omega, by simp (disch := omega) only [dt_up_s, dt_up_k, dt_up_n]; omega⟩) (by first | assumption | exact hwf _ _ | exact dt_b32 _ | omega | exact ⟨by omega, by omega⟩ | decide | exact ⟨by simp (disch := omega) only [dt_up_s, dt_up_k, dt_up_n]; omega, by simp (disch := omega) only [dt_up_s, dt_up_k, dt_up_n]; omega⟩) (by first | assumption | exact hwf _ _ | exact dt_b32 _ | omega | exact ⟨by omega, by omega⟩ | decide | exact ⟨by simp (disch := omega) only [dt_up_s, dt_up_k, dt_up_n]; omega, by simp (disch := omega) only [dt_up_s, dt_up_k, dt_up_n]; omega⟩) (by first | assumption | exact hwf _ _ | exact dt_b32 _ | omega | exact ⟨by omega, by omega⟩ | decide | exact ⟨by simp (disch := omega) only [dt_up_s, dt_up_k, dt_up_n]; omega, by simp (disch := omega) only [dt_up_s, dt_up_k, dt_up_n]; omega⟩)) rfl rfl ⟨by decide, by decide⟩ rfl rfl (Nat.le_of_ble_eq_true rfl) ⟨by decide, by decide⟩ (dt_k3 ?_)
          refine dt_aloadn dX11_row_45 rfl rfl ?_
          refine dt_iloadn dX11_row_46 rfl rfl ?_
          refine dt_xV dX11_row_47 pc_X11_83 rfl s_X11_well rfl rfl ⟨by decide, by decide⟩ rfl rfl (Nat.le_of_ble_eq_true rfl) ⟨by decide, by decide⟩ (dt_k3 ?_)
          refine dt_iret dX11_row_50 rfl (by decide) (by decide) ?_
          have e : oRow A r l n = (n, sRs A r.toNat (some (l.toNat, List.replicate n.toNat 0)) 0) := by
            unfold oRow
            rw [if_neg (by omega), if_neg (by omega)]
          rw [e]
          refine ⟨rfl, rfl, hI.rows 0 (hI.1.put (r := r.toNat) ⟨⟨?_, ?_, ?_, ?_, ?_⟩, fun q => by cases q⟩ ?_ ?_ ?_) ?_, ?_⟩
          · rw [dt_fil_o (by decide), dt_up_n (by decide), dt_up_s]; show l = ((l.toNat : Nat) : Int); omega
          · show l.toNat ≤ 2; omega
          · rw [dt_fil_o (by decide), dt_up_s]; show n = (((List.replicate n.toNat (0 : Int)).length : Nat) : Int); rw [List.length_replicate]; omega
          · show (List.replicate n.toNat (0 : Int)).length ≤ 40; rw [List.length_replicate]; omega
          · intro i x hx; have g := dt_gl hx; rw [dt_rep hx]; rw [List.length_replicate] at g; exact dt_fil_in (by omega) (by omega)
          · intro q hq; rw [dt_fil_o (by decide), dt_up_n (by decide), dt_up_k hq]
          · intro q hq; rw [dt_fil_o (by decide), dt_up_k hq, dt_up_n (by decide)]
          · intro k hk; rw [dt_fil_out (by omega), dt_up_n (by decide), dt_up_n (by decide)]
          · intro b h2 h3 h4; rw [dt_fil_o h4, dt_up_o h3, dt_up_o h2]
          · intro b hb hb2; rw [dt_up_o (by omega), dt_fil_o (by omega), dt_up_o (by omega), dt_up_o (by omega)]
        · skip
          refine dt_aloadn dX11_row_29 rfl rfl ?_
          refine dt_iconst dX11_row_30 ?_
          refine dt_xV dX11_row_31 pc_X11_75 rfl (s_X11_found (by first | assumption | exact hwf _ _ | exact dt_b32 _ | omega | exact ⟨by omega, by omega⟩ | decide | exact ⟨by simp (disch := omega) only [dt_up_s, dt_up_k, dt_up_n]; omega, by simp (disch := omega) only [dt_up_s, dt_up_k, dt_up_n]; omega⟩)) rfl rfl ⟨by decide, by decide⟩ rfl rfl (Nat.le_of_ble_eq_true rfl) ⟨by decide, by decide⟩ (dt_k3 ?_)
          refine dt_iret dX11_row_34 rfl (by decide) (by decide) ?_
          have e : oRow A r l n = (-1000014, sSt A 4) := by
            unfold oRow
            rw [if_neg (by omega), if_pos (by omega)]
          rw [e]
          exact ⟨rfl, rfl, hI.st 4, fun b _ _ => dt_up_o (by omega)⟩
      · skip
        refine dt_ldc dX11_row_22 pk_X11_74 ?_
        refine dt_iret dX11_row_24 rfl (by decide) (by decide) ?_
        have e : oRow A r l n = (-1000001, A) := by
          unfold oRow
          rw [if_pos (by omega)]
        rw [e]
        exact ⟨rfl, rfl, hI, fun b _ _ => rfl⟩
theorem s_X11_set {ex : List dt_Shp} {σ : dt_Mem} {A : dS} {r i v0 : Int} (hI : cInv ex σ A) (h_r : dt_in32 r) (h_i : dt_in32 i) (h_v0 : dt_in32 v0) : dt_Sp mX11_set 4 0 0 [dt_R 0, dt_I r, dt_I i, dt_I v0] (dt_SH ++ ex) σ (fun v sh2 σ2 => v = some (dt_I (oSet A r i v0).1) ∧ sh2 = dt_SH ++ ex ∧ cEnd ex σ σ2 (oSet A r i v0).2) := by
  refine dt_Sp_of (by decide) (Nat.le_of_ble_eq_true rfl) ?_
  refine dt_wfV fun hwf => ?_
  show dt_V _ _ _ 0 0 0 [some (dt_R 0), some (dt_I r), some (dt_I i), some (dt_I v0)] [] _ _
  refine dt_iloadn dX11_set_0 rfl rfl ?_
  refine dt_xS dX11_set_1 pc_X11_66 (s_X7_isOne (by first | assumption | exact hwf _ _ | exact dt_b32 _ | omega | exact ⟨by omega, by omega⟩ | decide | exact ⟨by simp (disch := omega) only [dt_up_s, dt_up_k, dt_up_n]; omega, by simp (disch := omega) only [dt_up_s, dt_up_k, dt_up_n]; omega⟩)) rfl rfl ⟨by decide, by decide⟩ (Nat.le_of_ble_eq_true rfl) ⟨by decide, by decide⟩ (dt_k3 ?_)
  refine dt_if_ne (tgt := 10) dX11_set_4 (by decide) (by first | assumption | exact hwf _ _ | exact dt_b32 _ | omega | exact ⟨by omega, by omega⟩ | decide | exact ⟨by simp (disch := omega) only [dt_up_s, dt_up_k, dt_up_n]; omega, by simp (disch := omega) only [dt_up_s, dt_up_k, dt_up_n]; omega⟩) (fun c1 => ?_) (fun c1 => ?_)
  · skip
    try simp only [dt_b0, dt_b1, Decidable.not_not, Classical.not_not] at c1
    refine dt_aloadn dX11_set_10 rfl rfl ?_
    refine dt_getR dX11_set_11 pg_X11_10_11 rfl rfl ?_
    refine dt_iloadn dX11_set_14 rfl rfl ?_
    refine dt_xV dX11_set_15 pc_X11_86 rfl (s_X7_isMissing (by first | assumption | exact hwf _ _ | exact dt_b32 _ | omega | exact ⟨by omega, by omega⟩ | decide | exact ⟨by simp (disch := omega) only [dt_up_s, dt_up_k, dt_up_n]; omega, by simp (disch := omega) only [dt_up_s, dt_up_k, dt_up_n]; omega⟩) (by first | assumption | exact hwf _ _ | exact dt_b32 _ | omega | exact ⟨by omega, by omega⟩ | decide | exact ⟨by simp (disch := omega) only [dt_up_s, dt_up_k, dt_up_n]; omega, by simp (disch := omega) only [dt_up_s, dt_up_k, dt_up_n]; omega⟩)) rfl rfl ⟨by decide, by decide⟩ rfl rfl (Nat.le_of_ble_eq_true rfl) ⟨by decide, by decide⟩ (dt_k3 ?_)
    refine dt_if_eq (tgt := 27) dX11_set_18 (by decide) (by first | assumption | exact hwf _ _ | exact dt_b32 _ | omega | exact ⟨by omega, by omega⟩ | decide | exact ⟨by simp (disch := omega) only [dt_up_s, dt_up_k, dt_up_n]; omega, by simp (disch := omega) only [dt_up_s, dt_up_k, dt_up_n]; omega⟩) (fun c2 => ?_) (fun c2 => ?_)
    · skip
      try simp only [dt_b0, dt_b1, Decidable.not_not, Classical.not_not] at c2
      have hrr := hI.row (r := r.toNat) (by omega)
      obtain ⟨q, hq, q1, q2, q3, q4, q5⟩ := hrr.some c2
      refine dt_aloadn dX11_set_27 rfl rfl ?_
      refine dt_getR dX11_set_28 pg_X11_10_11 rfl rfl ?_
      refine dt_iloadn dX11_set_31 rfl rfl ?_
      refine dt_iloadn dX11_set_32 rfl rfl ?_
      refine dt_iconst dX11_set_33 ?_
      refine dt_xV dX11_set_34 pc_X11_89 rfl (s_X7_hasPlaces (by first | assumption | exact hwf _ _ | exact dt_b32 _ | omega | exact ⟨by omega, by omega⟩ | decide | exact ⟨by simp (disch := omega) only [dt_up_s, dt_up_k, dt_up_n]; omega, by simp (disch := omega) only [dt_up_s, dt_up_k, dt_up_n]; omega⟩) (by first | assumption | exact hwf _ _ | exact dt_b32 _ | omega | exact ⟨by omega, by omega⟩ | decide | exact ⟨by simp (disch := omega) only [dt_up_s, dt_up_k, dt_up_n]; omega, by simp (disch := omega) only [dt_up_s, dt_up_k, dt_up_n]; omega⟩) (by first | assumption | exact hwf _ _ | exact dt_b32 _ | omega | exact ⟨by omega, by omega⟩ | decide | exact ⟨by simp (disch := omega) only [dt_up_s, dt_up_k, dt_up_n]; omega, by simp (disch := omega) only [dt_up_s, dt_up_k, dt_up_n]; omega⟩) (by first | assumption | exact hwf _ _ | exact dt_b32 _ | omega | exact ⟨by omega, by omega⟩ | decide | exact ⟨by simp (disch := omega) only [dt_up_s, dt_up_k, dt_up_n]; omega, by simp (disch := omega) only [dt_up_s, dt_up_k, dt_up_n]; omega⟩)) rfl rfl ⟨by decide, by decide⟩ rfl rfl (Nat.le_of_ble_eq_true rfl) ⟨by decide, by decide⟩ (dt_k3 ?_)
      refine dt_if_ne (tgt := 46) dX11_set_37 (by decide) (by first | assumption | exact hwf _ _ | exact dt_b32 _ | omega | exact ⟨by omega, by omega⟩ | decide | exact ⟨by simp (disch := omega) only [dt_up_s, dt_up_k, dt_up_n]; omega, by simp (disch := omega) only [dt_up_s, dt_up_k, dt_up_n]; omega⟩) (fun c3 => ?_) (fun c3 => ?_)
      · skip
        try simp only [dt_b0, dt_b1, Decidable.not_not, Classical.not_not] at c3
        refine dt_aloadn dX11_set_46 rfl rfl ?_
        refine dt_aloadn dX11_set_47 rfl rfl ?_
        refine dt_getR dX11_set_48 pg_X11_10_11 rfl rfl ?_
        refine dt_iloadn dX11_set_51 rfl rfl ?_
        refine dt_iloadn dX11_set_52 rfl rfl ?_
        refine dt_iloadn dX11_set_53 rfl rfl ?_
        refine dt_xV dX11_set_54 pc_X11_92 rfl (s_X7_put (by first | assumption | exact hwf _ _ | exact dt_b32 _ | omega | exact ⟨by omega, by omega⟩ | decide | exact ⟨by simp (disch := omega) only [dt_up_s, dt_up_k, dt_up_n]; omega, by simp (disch := omega) only [dt_up_s, dt_up_k, dt_up_n]; omega⟩) (by first | assumption | exact hwf _ _ | exact dt_b32 _ | omega | exact ⟨by omega, by omega⟩ | decide | exact ⟨by simp (disch := omega) only [dt_up_s, dt_up_k, dt_up_n]; omega, by simp (disch := omega) only [dt_up_s, dt_up_k, dt_up_n]; omega⟩) c3 (by omega) (by first | assumption | exact hwf _ _ | exact dt_b32 _ | omega | exact ⟨by omega, by omega⟩ | decide | exact ⟨by simp (disch := omega) only [dt_up_s, dt_up_k, dt_up_n]; omega, by simp (disch := omega) only [dt_up_s, dt_up_k, dt_up_n]; omega⟩)) rfl rfl ⟨by decide, by decide⟩ rfl rfl (Nat.le_of_ble_eq_true rfl) ⟨by decide, by decide⟩ (dt_k3 ?_)
        refine dt_xV dX11_set_57 pc_X11_83 rfl s_X11_well rfl rfl ⟨by decide, by decide⟩ rfl rfl (Nat.le_of_ble_eq_true rfl) ⟨by decide, by decide⟩ (dt_k3 ?_)
        refine dt_iret dX11_set_60 rfl (by decide) (by decide) ?_
        obtain ⟨p1, p2, p3, p4⟩ := id c3
        have e : oSet A r i v0 = (cLow q.1 v0, sRs A r.toNat (some (q.1, q.2.set i.toNat (cLow q.1 v0))) 0) := by
          unfold oSet
          rw [if_neg (by omega)]
          simp only [hq]
          rw [if_pos (by omega)]
        rw [e]
        refine ⟨by rw [q1], rfl, hI.rows 0 (hI.1.put (r := r.toNat) ⟨⟨?_, ?_, ?_, ?_, ?_⟩, fun q => by cases q⟩ ?_ ?_ ?_) ?_, ?_⟩
        · rw [dt_up_n (by decide)]; exact q1
        · exact q2
        · rw [dt_up_n (by decide)]; show _ = (((q.2.set i.toNat (cLow q.1 v0)).length : Nat) : Int); rw [List.length_set]; exact q3
        · show (q.2.set i.toNat (cLow q.1 v0)).length ≤ 40; rw [List.length_set]; exact q4
        · intro k x hx
          rcases dt_st hx with ⟨g1, g2⟩ | ⟨rfl, rfl⟩
          · rw [dt_up_k (by omega)]; exact q5 k x g2
          · rw [q1, show (r * 40 + i).toNat = r.toNat * 40 + i.toNat by omega, dt_up_s]
        · intro q _; rw [dt_up_n (by decide)]
        · intro q _; rw [dt_up_n (by decide)]
        · intro k hk; rw [dt_up_k (by omega)]
        · intro b h2 h3 h4; rw [dt_up_o h4]
        · intro b hb hb2; rw [dt_up_o (by omega), dt_up_o (by omega)]
      · skip
        try simp only [dt_b0, dt_b1, Decidable.not_not, Classical.not_not] at c3
        refine dt_aloadn dX11_set_40 rfl rfl ?_
        refine dt_iconst dX11_set_41 ?_
        refine dt_xV dX11_set_42 pc_X11_75 rfl (s_X11_found (by first | assumption | exact hwf _ _ | exact dt_b32 _ | omega | exact ⟨by omega, by omega⟩ | decide | exact ⟨by simp (disch := omega) only [dt_up_s, dt_up_k, dt_up_n]; omega, by simp (disch := omega) only [dt_up_s, dt_up_k, dt_up_n]; omega⟩)) rfl rfl ⟨by decide, by decide⟩ rfl rfl (Nat.le_of_ble_eq_true rfl) ⟨by decide, by decide⟩ (dt_k3 ?_)
        refine dt_iret dX11_set_45 rfl (by decide) (by decide) ?_
        unfold cHP at c3
        have e : oSet A r i v0 = (-1000012, sSt A 2) := by
          unfold oSet
          rw [if_neg (by omega)]
          simp only [hq]
          rw [if_neg (by omega)]
        rw [e]
        exact ⟨rfl, rfl, hI.st 2, fun b _ _ => dt_up_o (by omega)⟩
    · skip
      try simp only [dt_b0, dt_b1, Decidable.not_not, Classical.not_not] at c2
      have hrr := hI.row (r := r.toNat) (by omega)
      have hq := hrr.none c2
      refine dt_aloadn dX11_set_21 rfl rfl ?_
      refine dt_iconst dX11_set_22 ?_
      refine dt_xV dX11_set_23 pc_X11_75 rfl (s_X11_found (by first | assumption | exact hwf _ _ | exact dt_b32 _ | omega | exact ⟨by omega, by omega⟩ | decide | exact ⟨by simp (disch := omega) only [dt_up_s, dt_up_k, dt_up_n]; omega, by simp (disch := omega) only [dt_up_s, dt_up_k, dt_up_n]; omega⟩)) rfl rfl ⟨by decide, by decide⟩ rfl rfl (Nat.le_of_ble_eq_true rfl) ⟨by decide, by decide⟩ (dt_k3 ?_)
      refine dt_iret dX11_set_26 rfl (by decide) (by decide) ?_
      have e : oSet A r i v0 = (-1000011, sSt A 1) := by
        unfold oSet
        rw [if_neg (by omega)]
        simp only [hq]
      rw [e]
      exact ⟨rfl, rfl, hI.st 1, fun b _ _ => dt_up_o (by omega)⟩
  · skip
    try simp only [dt_b0, dt_b1, Decidable.not_not, Classical.not_not] at c1
    refine dt_ldc dX11_set_7 pk_X11_74 ?_
    refine dt_iret dX11_set_9 rfl (by decide) (by decide) ?_
    have e : oSet A r i v0 = (-1000001, A) := by
      unfold oSet
      rw [if_pos (by omega)]
    rw [e]
    exact ⟨rfl, rfl, hI, fun b _ _ => rfl⟩
theorem s_X11_drop {ex : List dt_Shp} {σ : dt_Mem} {A : dS} {r : Int} (hI : cInv ex σ A) (h_r : dt_in32 r) : dt_Sp mX11_drop 3 0 0 [dt_R 0, dt_I r] (dt_SH ++ ex) σ (fun v sh2 σ2 => v = some (dt_I (oDrop A r).1) ∧ sh2 = dt_SH ++ ex ∧ cEnd ex σ σ2 (oDrop A r).2) := by
  refine dt_Sp_of (by decide) (Nat.le_of_ble_eq_true rfl) ?_
  refine dt_wfV fun hwf => ?_
  show dt_V _ _ _ 0 0 0 [some (dt_R 0), some (dt_I r)] [] _ _
  refine dt_iloadn dX11_drop_0 rfl rfl ?_
  refine dt_xS dX11_drop_1 pc_X11_66 (s_X7_isOne (by first | assumption | exact hwf _ _ | exact dt_b32 _ | omega | exact ⟨by omega, by omega⟩ | decide | exact ⟨by simp (disch := omega) only [dt_up_s, dt_up_k, dt_up_n]; omega, by simp (disch := omega) only [dt_up_s, dt_up_k, dt_up_n]; omega⟩)) rfl rfl ⟨by decide, by decide⟩ (Nat.le_of_ble_eq_true rfl) ⟨by decide, by decide⟩ (dt_k3 ?_)
  refine dt_if_ne (tgt := 10) dX11_drop_4 (by decide) (by first | assumption | exact hwf _ _ | exact dt_b32 _ | omega | exact ⟨by omega, by omega⟩ | decide | exact ⟨by simp (disch := omega) only [dt_up_s, dt_up_k, dt_up_n]; omega, by simp (disch := omega) only [dt_up_s, dt_up_k, dt_up_n]; omega⟩) (fun c1 => ?_) (fun c1 => ?_)
  · skip
    try simp only [dt_b0, dt_b1, Decidable.not_not, Classical.not_not] at c1
    refine dt_aloadn dX11_drop_10 rfl rfl ?_
    refine dt_getR dX11_drop_11 pg_X11_10_11 rfl rfl ?_
    refine dt_iloadn dX11_drop_14 rfl rfl ?_
    refine dt_xV dX11_drop_15 pc_X11_86 rfl (s_X7_isMissing (by first | assumption | exact hwf _ _ | exact dt_b32 _ | omega | exact ⟨by omega, by omega⟩ | decide | exact ⟨by simp (disch := omega) only [dt_up_s, dt_up_k, dt_up_n]; omega, by simp (disch := omega) only [dt_up_s, dt_up_k, dt_up_n]; omega⟩) (by first | assumption | exact hwf _ _ | exact dt_b32 _ | omega | exact ⟨by omega, by omega⟩ | decide | exact ⟨by simp (disch := omega) only [dt_up_s, dt_up_k, dt_up_n]; omega, by simp (disch := omega) only [dt_up_s, dt_up_k, dt_up_n]; omega⟩)) rfl rfl ⟨by decide, by decide⟩ rfl rfl (Nat.le_of_ble_eq_true rfl) ⟨by decide, by decide⟩ (dt_k3 ?_)
    refine dt_if_eq (tgt := 27) dX11_drop_18 (by decide) (by first | assumption | exact hwf _ _ | exact dt_b32 _ | omega | exact ⟨by omega, by omega⟩ | decide | exact ⟨by simp (disch := omega) only [dt_up_s, dt_up_k, dt_up_n]; omega, by simp (disch := omega) only [dt_up_s, dt_up_k, dt_up_n]; omega⟩) (fun c2 => ?_) (fun c2 => ?_)
    · skip
      try simp only [dt_b0, dt_b1, Decidable.not_not, Classical.not_not] at c2
      have hrr := hI.row (r := r.toNat) (by omega)
      obtain ⟨q, hq, q1, q2, q3, q4, q5⟩ := hrr.some c2
      refine dt_aloadn dX11_drop_27 rfl rfl ?_
      refine dt_aloadn dX11_drop_28 rfl rfl ?_
      refine dt_getR dX11_drop_29 pg_X11_10_11 rfl rfl ?_
      refine dt_iloadn dX11_drop_32 rfl rfl ?_
      refine dt_xV dX11_drop_33 pc_X11_103 rfl (s_X7_lose (by first | assumption | exact hwf _ _ | exact dt_b32 _ | omega | exact ⟨by omega, by omega⟩ | decide | exact ⟨by simp (disch := omega) only [dt_up_s, dt_up_k, dt_up_n]; omega, by simp (disch := omega) only [dt_up_s, dt_up_k, dt_up_n]; omega⟩) (by first | assumption | exact hwf _ _ | exact dt_b32 _ | omega | exact ⟨by omega, by omega⟩ | decide | exact ⟨by simp (disch := omega) only [dt_up_s, dt_up_k, dt_up_n]; omega, by simp (disch := omega) only [dt_up_s, dt_up_k, dt_up_n]; omega⟩)) rfl rfl ⟨by decide, by decide⟩ rfl rfl (Nat.le_of_ble_eq_true rfl) ⟨by decide, by decide⟩ (dt_k3 ?_)
      refine dt_xV dX11_drop_36 pc_X11_83 rfl s_X11_well rfl rfl ⟨by decide, by decide⟩ rfl rfl (Nat.le_of_ble_eq_true rfl) ⟨by decide, by decide⟩ (dt_k3 ?_)
      refine dt_iret dX11_drop_39 rfl (by decide) (by decide) ?_
      have e : oDrop A r = ((q.2.length : Int), sRs A r.toNat none 0) := by
        unfold oDrop
        rw [if_neg (by omega)]
        simp only [hq]
      rw [e]
      refine ⟨by rw [q3], rfl, hI.rows 0 (hI.1.put (r := r.toNat) ⟨?_, fun _ => ?_⟩ ?_ ?_ ?_) ?_, ?_⟩
      · show dt_up _ _ _ _ 2 r.toNat = -1; rw [dt_up_n (by decide), dt_up_s]
      · rw [dt_up_s]
      · intro q hq; rw [dt_up_n (by decide), dt_up_k hq]
      · intro q hq; rw [dt_up_k hq, dt_up_n (by decide)]
      · intro k hk; rw [dt_up_n (by decide), dt_up_n (by decide)]
      · intro b h2 h3 h4; rw [dt_up_o h3, dt_up_o h2]
      · intro b hb hb2; rw [dt_up_o (by omega), dt_up_o (by omega), dt_up_o (by omega)]
    · skip
      try simp only [dt_b0, dt_b1, Decidable.not_not, Classical.not_not] at c2
      have hrr := hI.row (r := r.toNat) (by omega)
      have hq := hrr.none c2
      refine dt_aloadn dX11_drop_21 rfl rfl ?_
      refine dt_iconst dX11_drop_22 ?_
      refine dt_xV dX11_drop_23 pc_X11_75 rfl (s_X11_found (by first | assumption | exact hwf _ _ | exact dt_b32 _ | omega | exact ⟨by omega, by omega⟩ | decide | exact ⟨by simp (disch := omega) only [dt_up_s, dt_up_k, dt_up_n]; omega, by simp (disch := omega) only [dt_up_s, dt_up_k, dt_up_n]; omega⟩)) rfl rfl ⟨by decide, by decide⟩ rfl rfl (Nat.le_of_ble_eq_true rfl) ⟨by decide, by decide⟩ (dt_k3 ?_)
      refine dt_iret dX11_drop_26 rfl (by decide) (by decide) ?_
      have e : oDrop A r = (-1000011, sSt A 1) := by
        unfold oDrop
        rw [if_neg (by omega)]
        simp only [hq]
      rw [e]
      exact ⟨rfl, rfl, hI.st 1, fun b _ _ => dt_up_o (by omega)⟩
  · skip
    try simp only [dt_b0, dt_b1, Decidable.not_not, Classical.not_not] at c1
    refine dt_ldc dX11_drop_7 pk_X11_74 ?_
    refine dt_iret dX11_drop_9 rfl (by decide) (by decide) ?_
    have e : oDrop A r = (-1000001, A) := by
      unfold oDrop
      rw [if_pos (by omega)]
    rw [e]
    exact ⟨rfl, rfl, hI, fun b _ _ => rfl⟩
theorem s_X11_copy {ex : List dt_Shp} {σ : dt_Mem} {A : dS} {a i b j n : Int} (hI : cInv ex σ A) (h_a : dt_in32 a) (h_i : dt_in32 i) (h_b : dt_in32 b) (h_j : dt_in32 j) (h_n : dt_in32 n) : dt_Sp mX11_copy 4 0 0 [dt_R 0, dt_I a, dt_I i, dt_I b, dt_I j, dt_I n] (dt_SH ++ ex) σ (fun v sh2 σ2 => v = some (dt_I (oCopy A a i b j n).1) ∧ sh2 = dt_SH ++ ex ∧ cEnd ex σ σ2 (oCopy A a i b j n).2) := by
  refine dt_Sp_of (by decide) (Nat.le_of_ble_eq_true rfl) ?_
  refine dt_wfV fun hwf => ?_
  show dt_V _ _ _ 0 0 0 [some (dt_R 0), some (dt_I a), some (dt_I i), some (dt_I b), some (dt_I j), some (dt_I n)] [] _ _
  refine dt_iloadn dX11_copy_0 rfl rfl ?_
  refine dt_xS dX11_copy_1 pc_X11_66 (s_X7_isOne (by first | assumption | exact hwf _ _ | exact dt_b32 _ | omega | exact ⟨by omega, by omega⟩ | decide | exact ⟨by simp (disch := omega) only [dt_up_s, dt_up_k, dt_up_n]; omega, by simp (disch := omega) only [dt_up_s, dt_up_k, dt_up_n]; omega⟩)) rfl rfl ⟨by decide, by decide⟩ (Nat.le_of_ble_eq_true rfl) ⟨by decide, by decide⟩ (dt_k3 ?_)
  refine dt_if_eq (tgt := 14) dX11_copy_4 (by decide) (by first | assumption | exact hwf _ _ | exact dt_b32 _ | omega | exact ⟨by omega, by omega⟩ | decide | exact ⟨by simp (disch := omega) only [dt_up_s, dt_up_k, dt_up_n]; omega, by simp (disch := omega) only [dt_up_s, dt_up_k, dt_up_n]; omega⟩) (fun c1 => ?_) (fun c1 => ?_)
  · skip
    try simp only [dt_b0, dt_b1, Decidable.not_not, Classical.not_not] at c1
    refine dt_ldc dX11_copy_14 pk_X11_74 ?_
    refine dt_iret dX11_copy_16 rfl (by decide) (by decide) ?_
    have e : oCopy A a i b j n = (-1000001, A) := by
      unfold oCopy
      rw [if_pos (by omega)]
    rw [e]
    exact ⟨rfl, rfl, hI, fun b _ _ => rfl⟩
  · skip
    try simp only [dt_b0, dt_b1, Decidable.not_not, Classical.not_not] at c1
    refine dt_iloadn dX11_copy_7 rfl rfl ?_
    refine dt_xS dX11_copy_8 pc_X11_66 (s_X7_isOne (by first | assumption | exact hwf _ _ | exact dt_b32 _ | omega | exact ⟨by omega, by omega⟩ | decide | exact ⟨by simp (disch := omega) only [dt_up_s, dt_up_k, dt_up_n]; omega, by simp (disch := omega) only [dt_up_s, dt_up_k, dt_up_n]; omega⟩)) rfl rfl ⟨by decide, by decide⟩ (Nat.le_of_ble_eq_true rfl) ⟨by decide, by decide⟩ (dt_k3 ?_)
    refine dt_if_ne (tgt := 17) dX11_copy_11 (by decide) (by first | assumption | exact hwf _ _ | exact dt_b32 _ | omega | exact ⟨by omega, by omega⟩ | decide | exact ⟨by simp (disch := omega) only [dt_up_s, dt_up_k, dt_up_n]; omega, by simp (disch := omega) only [dt_up_s, dt_up_k, dt_up_n]; omega⟩) (fun c2 => ?_) (fun c2 => ?_)
    · skip
      try simp only [dt_b0, dt_b1, Decidable.not_not, Classical.not_not] at c2
      refine dt_aloadn dX11_copy_17 rfl rfl ?_
      refine dt_getR dX11_copy_18 pg_X11_10_11 rfl rfl ?_
      refine dt_iloadn dX11_copy_21 rfl rfl ?_
      refine dt_xV dX11_copy_22 pc_X11_86 rfl (s_X7_isMissing (by first | assumption | exact hwf _ _ | exact dt_b32 _ | omega | exact ⟨by omega, by omega⟩ | decide | exact ⟨by simp (disch := omega) only [dt_up_s, dt_up_k, dt_up_n]; omega, by simp (disch := omega) only [dt_up_s, dt_up_k, dt_up_n]; omega⟩) (by first | assumption | exact hwf _ _ | exact dt_b32 _ | omega | exact ⟨by omega, by omega⟩ | decide | exact ⟨by simp (disch := omega) only [dt_up_s, dt_up_k, dt_up_n]; omega, by simp (disch := omega) only [dt_up_s, dt_up_k, dt_up_n]; omega⟩)) rfl rfl ⟨by decide, by decide⟩ rfl rfl (Nat.le_of_ble_eq_true rfl) ⟨by decide, by decide⟩ (dt_k3 ?_)
      refine dt_if_ne (tgt := 39) dX11_copy_25 (by decide) (by first | assumption | exact hwf _ _ | exact dt_b32 _ | omega | exact ⟨by omega, by omega⟩ | decide | exact ⟨by simp (disch := omega) only [dt_up_s, dt_up_k, dt_up_n]; omega, by simp (disch := omega) only [dt_up_s, dt_up_k, dt_up_n]; omega⟩) (fun c3 => ?_) (fun c3 => ?_)
      · skip
        try simp only [dt_b0, dt_b1, Decidable.not_not, Classical.not_not] at c3
        have hra := hI.row (r := a.toNat) (by omega)
        have hqa := hra.none c3
        have e44 : oCopy A a i b j n = (-1000011, sSt A 1) := by
          unfold oCopy
          rw [if_neg (by omega)]
          simp only [hqa]
        refine dt_aloadn dX11_copy_39 rfl rfl ?_
        refine dt_iconst dX11_copy_40 ?_
        refine dt_xV dX11_copy_41 pc_X11_75 rfl (s_X11_found (by first | assumption | exact hwf _ _ | exact dt_b32 _ | omega | exact ⟨by omega, by omega⟩ | decide | exact ⟨by simp (disch := omega) only [dt_up_s, dt_up_k, dt_up_n]; omega, by simp (disch := omega) only [dt_up_s, dt_up_k, dt_up_n]; omega⟩)) rfl rfl ⟨by decide, by decide⟩ rfl rfl (Nat.le_of_ble_eq_true rfl) ⟨by decide, by decide⟩ (dt_k3 ?_)
        refine dt_iret dX11_copy_44 rfl (by decide) (by decide) ?_
        rw [e44]
        exact ⟨rfl, rfl, hI.st 1, fun b _ _ => dt_up_o (by omega)⟩
      · skip
        try simp only [dt_b0, dt_b1, Decidable.not_not, Classical.not_not] at c3
        have hra := hI.row (r := a.toNat) (by omega)
        obtain ⟨qa, hqa, a1, a2, a3, a4, a5⟩ := hra.some c3
        refine dt_aloadn dX11_copy_28 rfl rfl ?_
        refine dt_getR dX11_copy_29 pg_X11_10_11 rfl rfl ?_
        refine dt_iloadn dX11_copy_32 rfl rfl ?_
        refine dt_xV dX11_copy_33 pc_X11_86 rfl (s_X7_isMissing (by first | assumption | exact hwf _ _ | exact dt_b32 _ | omega | exact ⟨by omega, by omega⟩ | decide | exact ⟨by simp (disch := omega) only [dt_up_s, dt_up_k, dt_up_n]; omega, by simp (disch := omega) only [dt_up_s, dt_up_k, dt_up_n]; omega⟩) (by first | assumption | exact hwf _ _ | exact dt_b32 _ | omega | exact ⟨by omega, by omega⟩ | decide | exact ⟨by simp (disch := omega) only [dt_up_s, dt_up_k, dt_up_n]; omega, by simp (disch := omega) only [dt_up_s, dt_up_k, dt_up_n]; omega⟩)) rfl rfl ⟨by decide, by decide⟩ rfl rfl (Nat.le_of_ble_eq_true rfl) ⟨by decide, by decide⟩ (dt_k3 ?_)
        refine dt_if_eq (tgt := 45) dX11_copy_36 (by decide) (by first | assumption | exact hwf _ _ | exact dt_b32 _ | omega | exact ⟨by omega, by omega⟩ | decide | exact ⟨by simp (disch := omega) only [dt_up_s, dt_up_k, dt_up_n]; omega, by simp (disch := omega) only [dt_up_s, dt_up_k, dt_up_n]; omega⟩) (fun c4 => ?_) (fun c4 => ?_)
        · skip
          try simp only [dt_b0, dt_b1, Decidable.not_not, Classical.not_not] at c4
          have hrb := hI.row (r := b.toNat) (by omega)
          obtain ⟨qb, hqb, b1, b2, b3, b4, b5⟩ := hrb.some c4
          refine dt_aloadn dX11_copy_45 rfl rfl ?_
          refine dt_getR dX11_copy_46 pg_X11_10_11 rfl rfl ?_
          refine dt_iloadn dX11_copy_49 rfl rfl ?_
          refine dt_xV dX11_copy_50 pc_X11_96 rfl (s_X7_laneOf (by first | assumption | exact hwf _ _ | exact dt_b32 _ | omega | exact ⟨by omega, by omega⟩ | decide | exact ⟨by simp (disch := omega) only [dt_up_s, dt_up_k, dt_up_n]; omega, by simp (disch := omega) only [dt_up_s, dt_up_k, dt_up_n]; omega⟩) (by first | assumption | exact hwf _ _ | exact dt_b32 _ | omega | exact ⟨by omega, by omega⟩ | decide | exact ⟨by simp (disch := omega) only [dt_up_s, dt_up_k, dt_up_n]; omega, by simp (disch := omega) only [dt_up_s, dt_up_k, dt_up_n]; omega⟩)) rfl rfl ⟨by decide, by decide⟩ rfl rfl (Nat.le_of_ble_eq_true rfl) ⟨by decide, by decide⟩ (dt_k3 ?_)
          refine dt_aloadn dX11_copy_53 rfl rfl ?_
          refine dt_getR dX11_copy_54 pg_X11_10_11 rfl rfl ?_
          refine dt_iloadn dX11_copy_57 rfl rfl ?_
          refine dt_xV dX11_copy_58 pc_X11_96 rfl (s_X7_laneOf (by first | assumption | exact hwf _ _ | exact dt_b32 _ | omega | exact ⟨by omega, by omega⟩ | decide | exact ⟨by simp (disch := omega) only [dt_up_s, dt_up_k, dt_up_n]; omega, by simp (disch := omega) only [dt_up_s, dt_up_k, dt_up_n]; omega⟩) (by first | assumption | exact hwf _ _ | exact dt_b32 _ | omega | exact ⟨by omega, by omega⟩ | decide | exact ⟨by simp (disch := omega) only [dt_up_s, dt_up_k, dt_up_n]; omega, by simp (disch := omega) only [dt_up_s, dt_up_k, dt_up_n]; omega⟩)) rfl rfl ⟨by decide, by decide⟩ rfl rfl (Nat.le_of_ble_eq_true rfl) ⟨by decide, by decide⟩ (dt_k3 ?_)
          refine dt_cm_eq (tgt := 70) dX11_copy_61 (by decide) (by first | assumption | exact hwf _ _ | exact dt_b32 _ | omega | exact ⟨by omega, by omega⟩ | decide | exact ⟨by simp (disch := omega) only [dt_up_s, dt_up_k, dt_up_n]; omega, by simp (disch := omega) only [dt_up_s, dt_up_k, dt_up_n]; omega⟩) (by first | assumption | exact hwf _ _ | exact dt_b32 _ | omega | exact ⟨by omega, by omega⟩ | decide | exact ⟨by simp (disch := omega) only [dt_up_s, dt_up_k, dt_up_n]; omega, by simp (disch := omega) only [dt_up_s, dt_up_k, dt_up_n]; omega⟩) (fun c5 => ?_) (fun c5 => ?_)
          · skip
            refine dt_aloadn dX11_copy_70 rfl rfl ?_
            refine dt_getR dX11_copy_71 pg_X11_10_11 rfl rfl ?_
            refine dt_iloadn dX11_copy_74 rfl rfl ?_
            refine dt_iloadn dX11_copy_75 rfl rfl ?_
            refine dt_iload dX11_copy_76 rfl ?_
            refine dt_xV dX11_copy_78 pc_X11_89 rfl (s_X7_hasPlaces (by first | assumption | exact hwf _ _ | exact dt_b32 _ | omega | exact ⟨by omega, by omega⟩ | decide | exact ⟨by simp (disch := omega) only [dt_up_s, dt_up_k, dt_up_n]; omega, by simp (disch := omega) only [dt_up_s, dt_up_k, dt_up_n]; omega⟩) (by first | assumption | exact hwf _ _ | exact dt_b32 _ | omega | exact ⟨by omega, by omega⟩ | decide | exact ⟨by simp (disch := omega) only [dt_up_s, dt_up_k, dt_up_n]; omega, by simp (disch := omega) only [dt_up_s, dt_up_k, dt_up_n]; omega⟩) (by first | assumption | exact hwf _ _ | exact dt_b32 _ | omega | exact ⟨by omega, by omega⟩ | decide | exact ⟨by simp (disch := omega) only [dt_up_s, dt_up_k, dt_up_n]; omega, by simp (disch := omega) only [dt_up_s, dt_up_k, dt_up_n]; omega⟩) (by first | assumption | exact hwf _ _ | exact dt_b32 _ | omega | exact ⟨by omega, by omega⟩ | decide | exact ⟨by simp (disch := omega) only [dt_up_s, dt_up_k, dt_up_n]; omega, by simp (disch := omega) only [dt_up_s, dt_up_k, dt_up_n]; omega⟩)) rfl rfl ⟨by decide, by decide⟩ rfl rfl (Nat.le_of_ble_eq_true rfl) ⟨by decide, by decide⟩ (dt_k3 ?_)
            refine dt_if_eq (tgt := 99) dX11_copy_81 (by decide) (by first | assumption | exact hwf _ _ | exact dt_b32 _ | omega | exact ⟨by omega, by omega⟩ | decide | exact ⟨by simp (disch := omega) only [dt_up_s, dt_up_k, dt_up_n]; omega, by simp (disch := omega) only [dt_up_s, dt_up_k, dt_up_n]; omega⟩) (fun c6 => ?_) (fun c6 => ?_)
            · skip
              try simp only [dt_b0, dt_b1, Decidable.not_not, Classical.not_not] at c6
              refine dt_aloadn dX11_copy_99 rfl rfl ?_
              refine dt_iconst dX11_copy_100 ?_
              refine dt_xV dX11_copy_101 pc_X11_75 rfl (s_X11_found (by first | assumption | exact hwf _ _ | exact dt_b32 _ | omega | exact ⟨by omega, by omega⟩ | decide | exact ⟨by simp (disch := omega) only [dt_up_s, dt_up_k, dt_up_n]; omega, by simp (disch := omega) only [dt_up_s, dt_up_k, dt_up_n]; omega⟩)) rfl rfl ⟨by decide, by decide⟩ rfl rfl (Nat.le_of_ble_eq_true rfl) ⟨by decide, by decide⟩ (dt_k3 ?_)
              refine dt_iret dX11_copy_104 rfl (by decide) (by decide) ?_
              first
              | (unfold cHP at c7)
              | skip
              unfold cHP at c6
              have e : oCopy A a i b j n = (-1000012, sSt A 2) := by
                unfold oCopy
                rw [if_neg (by omega)]
                simp only [hqa, hqb]
                rw [if_neg (by omega), if_neg (by omega)]
              rw [e]
              exact ⟨rfl, rfl, hI.st 2, fun b _ _ => dt_up_o (by omega)⟩
            · skip
              try simp only [dt_b0, dt_b1, Decidable.not_not, Classical.not_not] at c6
              refine dt_aloadn dX11_copy_84 rfl rfl ?_
              refine dt_getR dX11_copy_85 pg_X11_10_11 rfl rfl ?_
              refine dt_iloadn dX11_copy_88 rfl rfl ?_
              refine dt_iload dX11_copy_89 rfl ?_
              refine dt_iload dX11_copy_91 rfl ?_
              refine dt_xV dX11_copy_93 pc_X11_89 rfl (s_X7_hasPlaces (by first | assumption | exact hwf _ _ | exact dt_b32 _ | omega | exact ⟨by omega, by omega⟩ | decide | exact ⟨by simp (disch := omega) only [dt_up_s, dt_up_k, dt_up_n]; omega, by simp (disch := omega) only [dt_up_s, dt_up_k, dt_up_n]; omega⟩) (by first | assumption | exact hwf _ _ | exact dt_b32 _ | omega | exact ⟨by omega, by omega⟩ | decide | exact ⟨by simp (disch := omega) only [dt_up_s, dt_up_k, dt_up_n]; omega, by simp (disch := omega) only [dt_up_s, dt_up_k, dt_up_n]; omega⟩) (by first | assumption | exact hwf _ _ | exact dt_b32 _ | omega | exact ⟨by omega, by omega⟩ | decide | exact ⟨by simp (disch := omega) only [dt_up_s, dt_up_k, dt_up_n]; omega, by simp (disch := omega) only [dt_up_s, dt_up_k, dt_up_n]; omega⟩) (by first | assumption | exact hwf _ _ | exact dt_b32 _ | omega | exact ⟨by omega, by omega⟩ | decide | exact ⟨by simp (disch := omega) only [dt_up_s, dt_up_k, dt_up_n]; omega, by simp (disch := omega) only [dt_up_s, dt_up_k, dt_up_n]; omega⟩)) rfl rfl ⟨by decide, by decide⟩ rfl rfl (Nat.le_of_ble_eq_true rfl) ⟨by decide, by decide⟩ (dt_k3 ?_)
              refine dt_if_ne (tgt := 105) dX11_copy_96 (by decide) (by first | assumption | exact hwf _ _ | exact dt_b32 _ | omega | exact ⟨by omega, by omega⟩ | decide | exact ⟨by simp (disch := omega) only [dt_up_s, dt_up_k, dt_up_n]; omega, by simp (disch := omega) only [dt_up_s, dt_up_k, dt_up_n]; omega⟩) (fun c7 => ?_) (fun c7 => ?_)
              · skip
                try simp only [dt_b0, dt_b1, Decidable.not_not, Classical.not_not] at c7
                refine dt_aloadn dX11_copy_105 rfl rfl ?_
                refine dt_getR dX11_copy_106 pg_X11_10_11 rfl rfl ?_
                refine dt_iloadn dX11_copy_109 rfl rfl ?_
                refine dt_iloadn dX11_copy_110 rfl rfl ?_
                refine dt_iloadn dX11_copy_111 rfl rfl ?_
                refine dt_iload dX11_copy_112 rfl ?_
                refine dt_iload dX11_copy_114 rfl ?_
                refine dt_xV dX11_copy_116 pc_X11_99 rfl (s_X7_move (by first | assumption | exact hwf _ _ | exact dt_b32 _ | omega | exact ⟨by omega, by omega⟩ | decide | exact ⟨by simp (disch := omega) only [dt_up_s, dt_up_k, dt_up_n]; omega, by simp (disch := omega) only [dt_up_s, dt_up_k, dt_up_n]; omega⟩) (by first | assumption | exact hwf _ _ | exact dt_b32 _ | omega | exact ⟨by omega, by omega⟩ | decide | exact ⟨by simp (disch := omega) only [dt_up_s, dt_up_k, dt_up_n]; omega, by simp (disch := omega) only [dt_up_s, dt_up_k, dt_up_n]; omega⟩) (by first | assumption | exact hwf _ _ | exact dt_b32 _ | omega | exact ⟨by omega, by omega⟩ | decide | exact ⟨by simp (disch := omega) only [dt_up_s, dt_up_k, dt_up_n]; omega, by simp (disch := omega) only [dt_up_s, dt_up_k, dt_up_n]; omega⟩) (by first | assumption | exact hwf _ _ | exact dt_b32 _ | omega | exact ⟨by omega, by omega⟩ | decide | exact ⟨by simp (disch := omega) only [dt_up_s, dt_up_k, dt_up_n]; omega, by simp (disch := omega) only [dt_up_s, dt_up_k, dt_up_n]; omega⟩) c6 c7 (by omega) (by omega)) rfl rfl ⟨by decide, by decide⟩ rfl rfl (Nat.le_of_ble_eq_true rfl) ⟨by decide, by decide⟩ (dt_k3 ?_)
                refine dt_aloadn dX11_copy_119 rfl rfl ?_
                refine dt_iload dX11_copy_120 rfl ?_
                refine dt_xV dX11_copy_122 pc_X11_83 rfl s_X11_well rfl rfl ⟨by decide, by decide⟩ rfl rfl (Nat.le_of_ble_eq_true rfl) ⟨by decide, by decide⟩ (dt_k3 ?_)
                refine dt_iret dX11_copy_125 rfl (by decide) (by decide) ?_
                obtain ⟨p1, p2, p3, p4⟩ := id c6
                obtain ⟨z1, z2, z3, z4⟩ := id c7
                have e : oCopy A a i b j n = (n, sRs A b.toNat (some (qb.1, qb.2.take j.toNat ++ ((qa.2.drop i.toNat).take n.toNat ++ qb.2.drop (j.toNat + n.toNat)))) 0) := by
                  unfold oCopy
                  rw [if_neg (by omega)]
                  simp only [hqa, hqb]
                  rw [if_neg (by omega), if_pos (by omega)]
                rw [e]
                have e9 := dt_spl_len (p := qa.2) (q := qb.2) (i := i.toNat) (j := j.toNat) (n := n.toNat) (by omega) (by omega)
                refine ⟨rfl, rfl, hI.rows 0 (hI.1.put (r := b.toNat) ⟨⟨?_, ?_, ?_, ?_, ?_⟩, fun q => by cases q⟩ ?_ ?_ ?_) ?_, ?_⟩
                · rw [dt_cp_o (by decide)]; exact b1
                · exact b2
                · rw [dt_cp_o (by decide)]; exact b3.trans (by rw [← e9])
                · exact (by rw [e9]; exact b4)
                · intro k x hx
                  rcases dt_spl (by omega) (by omega) hx with ⟨g1, g2, g3⟩ | ⟨g1, g2⟩
                  · simp only [dt_cp, if_true]
                    rw [if_pos (by omega), show (a * 40 + i).toNat + (b.toNat * 40 + k - (b * 40 + j).toNat) = a.toNat * 40 + (i.toNat + (k - j.toNat)) by omega]
                    exact a5 _ _ g3
                  · have gk := dt_gl g2
                    simp only [dt_cp, if_true]
                    rw [if_neg (by omega)]
                    exact b5 k x g2
                · intro q _; rw [dt_cp_o (by decide)]
                · intro q _; rw [dt_cp_o (by decide)]
                · intro k hk; simp only [dt_cp, if_true]; rw [if_neg (by omega)]
                · intro c h2 h3 h4; rw [dt_cp_o h4]
                · intro c hb hb2; rw [dt_up_o (by omega), dt_cp_o (by omega)]
              · skip
                try simp only [dt_b0, dt_b1, Decidable.not_not, Classical.not_not] at c7
                refine dt_aloadn dX11_copy_99 rfl rfl ?_
                refine dt_iconst dX11_copy_100 ?_
                refine dt_xV dX11_copy_101 pc_X11_75 rfl (s_X11_found (by first | assumption | exact hwf _ _ | exact dt_b32 _ | omega | exact ⟨by omega, by omega⟩ | decide | exact ⟨by simp (disch := omega) only [dt_up_s, dt_up_k, dt_up_n]; omega, by simp (disch := omega) only [dt_up_s, dt_up_k, dt_up_n]; omega⟩)) rfl rfl ⟨by decide, by decide⟩ rfl rfl (Nat.le_of_ble_eq_true rfl) ⟨by decide, by decide⟩ (dt_k3 ?_)
                refine dt_iret dX11_copy_104 rfl (by decide) (by decide) ?_
                first
                | (unfold cHP at c7)
                | skip
                unfold cHP at c6
                have e : oCopy A a i b j n = (-1000012, sSt A 2) := by
                  unfold oCopy
                  rw [if_neg (by omega)]
                  simp only [hqa, hqb]
                  rw [if_neg (by omega), if_neg (by omega)]
                rw [e]
                exact ⟨rfl, rfl, hI.st 2, fun b _ _ => dt_up_o (by omega)⟩
          · skip
            refine dt_aloadn dX11_copy_64 rfl rfl ?_
            refine dt_iconst dX11_copy_65 ?_
            refine dt_xV dX11_copy_66 pc_X11_75 rfl (s_X11_found (by first | assumption | exact hwf _ _ | exact dt_b32 _ | omega | exact ⟨by omega, by omega⟩ | decide | exact ⟨by simp (disch := omega) only [dt_up_s, dt_up_k, dt_up_n]; omega, by simp (disch := omega) only [dt_up_s, dt_up_k, dt_up_n]; omega⟩)) rfl rfl ⟨by decide, by decide⟩ rfl rfl (Nat.le_of_ble_eq_true rfl) ⟨by decide, by decide⟩ (dt_k3 ?_)
            refine dt_iret dX11_copy_69 rfl (by decide) (by decide) ?_
            have e : oCopy A a i b j n = (-1000015, sSt A 5) := by
              unfold oCopy
              rw [if_neg (by omega)]
              simp only [hqa, hqb]
              rw [if_pos (by omega)]
            rw [e]
            exact ⟨rfl, rfl, hI.st 5, fun b _ _ => dt_up_o (by omega)⟩
        · skip
          try simp only [dt_b0, dt_b1, Decidable.not_not, Classical.not_not] at c4
          have hrb := hI.row (r := b.toNat) (by omega)
          have hqb := hrb.none c4
          have e44 : oCopy A a i b j n = (-1000011, sSt A 1) := by
            unfold oCopy
            rw [if_neg (by omega)]
            simp only [hqa, hqb]
          refine dt_aloadn dX11_copy_39 rfl rfl ?_
          refine dt_iconst dX11_copy_40 ?_
          refine dt_xV dX11_copy_41 pc_X11_75 rfl (s_X11_found (by first | assumption | exact hwf _ _ | exact dt_b32 _ | omega | exact ⟨by omega, by omega⟩ | decide | exact ⟨by simp (disch := omega) only [dt_up_s, dt_up_k, dt_up_n]; omega, by simp (disch := omega) only [dt_up_s, dt_up_k, dt_up_n]; omega⟩)) rfl rfl ⟨by decide, by decide⟩ rfl rfl (Nat.le_of_ble_eq_true rfl) ⟨by decide, by decide⟩ (dt_k3 ?_)
          refine dt_iret dX11_copy_44 rfl (by decide) (by decide) ?_
          rw [e44]
          exact ⟨rfl, rfl, hI.st 1, fun b _ _ => dt_up_o (by omega)⟩
    · skip
      try simp only [dt_b0, dt_b1, Decidable.not_not, Classical.not_not] at c2
      refine dt_ldc dX11_copy_14 pk_X11_74 ?_
      refine dt_iret dX11_copy_16 rfl (by decide) (by decide) ?_
      have e : oCopy A a i b j n = (-1000001, A) := by
        unfold oCopy
        rw [if_pos (by omega)]
      rw [e]
      exact ⟨rfl, rfl, hI, fun b _ _ => rfl⟩
