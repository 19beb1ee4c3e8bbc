
/-! a word is made -/
theorem dt_ap0 {sh : List dt_Shp} {x : dt_Shp} : (sh ++ [x])[sh.length]? = some x := by simp
theorem dt_ap1 {sh : List dt_Shp} {x y : dt_Shp} : (sh ++ [x] ++ [y])[sh.length]? = some x := by simp
theorem dt_ap2 {sh : List dt_Shp} {x y : dt_Shp} : (sh ++ [x, y])[sh.length]? = some x := by simp
theorem dt_ap3 {sh : List dt_Shp} {x y : dt_Shp} : (sh ++ [x, y])[sh.length + 1]? = some y := by simp
theorem dt_aps {sh : List dt_Shp} {x y z : dt_Shp} : (sh ++ [x] ++ [y]).set sh.length z = sh ++ [z, y] := by
  rw [List.append_assoc, List.set_append]
  simp
theorem dt_apl {sh : List dt_Shp} {x : dt_Shp} : (sh ++ [x]).length = sh.length + 1 := by simp
theorem dt_zr_n {σ : dt_Mem} {a b : Nat} (h : b ≠ a) : dt_zr σ a b = σ b := by funext j; unfold dt_zr; rw [if_neg h]
theorem dt_zr_s {σ : dt_Mem} {a j : Nat} : dt_zr σ a a j = 0 := by unfold dt_zr; rw [if_pos rfl]
theorem s_X10_init_5 {sh : List dt_Shp} {σ : dt_Mem} {x n : Int} (hx : dt_in32 x) (hn : dt_in32 n) : dt_Sp mX10_init 1 1 16 [dt_R sh.length, dt_I x, dt_I n] (sh ++ [.inl (5, [0, 0, 3, 0, 0])]) σ (fun v sh2 σ2 => v = none ∧ sh2 = sh ++ [.inl (5, [0, 0, sh.length + 1 + 4, 0, 0]), .inr (0, 16)] ∧ (σ2 sh.length 0 = x ∧ σ2 sh.length 1 = n) ∧ wT σ2 sh.length [] ∧ ∀ b, b < sh.length → σ2 b = σ b) := by
  refine dt_Sp_of (by decide) (Nat.le_of_ble_eq_true rfl) ?_
  refine dt_wfV fun hwf => ?_
  show dt_V _ _ _ 0 0 0 [some (dt_R sh.length), some (dt_I x), some (dt_I n)] [] _ _
  refine dt_aloadn dX10_init_0 rfl rfl ?_
  refine dt_obj dX10_init_1 po_X10_3 pob_i pob_c (by decide) (by decide) ?_
  refine dt_aloadn dX10_init_4 rfl rfl ?_
  refine dt_iloadn dX10_init_5 rfl rfl ?_
  refine dt_fputI dX10_init_6 pf_X10_9_5 rfl dt_ap0 rfl (by first | assumption | exact hwf _ _ | exact dt_b32 _ | omega | exact ⟨by omega, by omega⟩ | decide | exact ⟨by simp (disch := omega) only [dt_up_s, dt_up_k, dt_up_n]; omega, by simp (disch := omega) only [dt_up_s, dt_up_k, dt_up_n]; omega⟩) ?_
  refine dt_aloadn dX10_init_9 rfl rfl ?_
  refine dt_iloadn dX10_init_10 rfl rfl ?_
  refine dt_fputI dX10_init_11 pf_X10_15_5 rfl dt_ap0 rfl (by first | assumption | exact hwf _ _ | exact dt_b32 _ | omega | exact ⟨by omega, by omega⟩ | decide | exact ⟨by simp (disch := omega) only [dt_up_s, dt_up_k, dt_up_n]; omega, by simp (disch := omega) only [dt_up_s, dt_up_k, dt_up_n]; omega⟩) ?_
  refine dt_aloadn dX10_init_14 rfl rfl ?_
  refine dt_bipush dX10_init_15 (by decide) ?_
  refine dt_newa0 (ty := 0) dX10_init_17 (Or.inl ⟨rfl, rfl⟩) (by decide) (by decide) (by decide) (by decide) pa_I ?_
  refine dt_fputR dX10_init_19 pf_X10_18_5 rfl ⟨rfl, fun _ => rfl⟩ dt_ap1 rfl ?_
  dsimp only [List.set]
  rw [dt_aps, dt_apl]
  refine dt_aloadn dX10_init_22 rfl rfl ?_
  refine dt_iconst dX10_init_23 ?_
  refine dt_wfV fun hwf => ?_
  refine dt_putI dX10_init_24 pw_X10_22_5 dt_ap2 rfl (by first | assumption | exact hwf _ _ | exact dt_b32 _ | omega | exact ⟨by omega, by omega⟩ | decide | exact ⟨by simp (disch := omega) only [dt_up_s, dt_up_k, dt_up_n]; omega, by simp (disch := omega) only [dt_up_s, dt_up_k, dt_up_n]; omega⟩) ?_
  refine dt_vret dX10_init_27 rfl (by decide) (by decide) ?_
  refine ⟨rfl, rfl, ⟨?_, ?_⟩, ⟨?_, fun i y hy => by cases i <;> exact absurd hy (by simp)⟩, fun b hb => ?_⟩
  · simp (disch := omega) only [dt_up_s, dt_up_k, dt_up_n, dt_zr_n]
  · simp (disch := omega) only [dt_up_s, dt_up_k, dt_up_n, dt_zr_n]
  · rw [dt_up_s]; rfl
  · simp (disch := omega) only [dt_up_o, dt_zr_n]
theorem s_X10_init_0 {sh : List dt_Shp} {σ : dt_Mem} {x n : Int} (hx : dt_in32 x) (hn : dt_in32 n) : dt_Sp mX10_init 1 1 16 [dt_R sh.length, dt_I x, dt_I n] (sh ++ [.inl (0, [0, 0, 3, 0, 0])]) σ (fun v sh2 σ2 => v = none ∧ sh2 = sh ++ [.inl (0, [0, 0, sh.length + 1 + 4, 0, 0]), .inr (0, 16)] ∧ (σ2 sh.length 0 = x ∧ σ2 sh.length 1 = n) ∧ wT σ2 sh.length [] ∧ ∀ b, b < sh.length → σ2 b = σ b) := by
  refine dt_Sp_of (by decide) (Nat.le_of_ble_eq_true rfl) ?_
  refine dt_wfV fun hwf => ?_
  show dt_V _ _ _ 0 0 0 [some (dt_R sh.length), some (dt_I x), some (dt_I n)] [] _ _
  refine dt_aloadn dX10_init_0 rfl rfl ?_
  refine dt_obj dX10_init_1 po_X10_3 pob_i pob_c (by decide) (by decide) ?_
  refine dt_aloadn dX10_init_4 rfl rfl ?_
  refine dt_iloadn dX10_init_5 rfl rfl ?_
  refine dt_fputI dX10_init_6 pf_X10_9_0 rfl dt_ap0 rfl (by first | assumption | exact hwf _ _ | exact dt_b32 _ | omega | exact ⟨by omega, by omega⟩ | decide | exact ⟨by simp (disch := omega) only [dt_up_s, dt_up_k, dt_up_n]; omega, by simp (disch := omega) only [dt_up_s, dt_up_k, dt_up_n]; omega⟩) ?_
  refine dt_aloadn dX10_init_9 rfl rfl ?_
  refine dt_iloadn dX10_init_10 rfl rfl ?_
  refine dt_fputI dX10_init_11 pf_X10_15_0 rfl dt_ap0 rfl (by first | assumption | exact hwf _ _ | exact dt_b32 _ | omega | exact ⟨by omega, by omega⟩ | decide | exact ⟨by simp (disch := omega) only [dt_up_s, dt_up_k, dt_up_n]; omega, by simp (disch := omega) only [dt_up_s, dt_up_k, dt_up_n]; omega⟩) ?_
  refine dt_aloadn dX10_init_14 rfl rfl ?_
  refine dt_bipush dX10_init_15 (by decide) ?_
  refine dt_newa0 (ty := 0) dX10_init_17 (Or.inl ⟨rfl, rfl⟩) (by decide) (by decide) (by decide) (by decide) pa_I ?_
  refine dt_fputR dX10_init_19 pf_X10_18_0 rfl ⟨rfl, fun _ => rfl⟩ dt_ap1 rfl ?_
  dsimp only [List.set]
  rw [dt_aps, dt_apl]
  refine dt_aloadn dX10_init_22 rfl rfl ?_
  refine dt_iconst dX10_init_23 ?_
  refine dt_wfV fun hwf => ?_
  refine dt_putI dX10_init_24 pw_X10_22_0 dt_ap2 rfl (by first | assumption | exact hwf _ _ | exact dt_b32 _ | omega | exact ⟨by omega, by omega⟩ | decide | exact ⟨by simp (disch := omega) only [dt_up_s, dt_up_k, dt_up_n]; omega, by simp (disch := omega) only [dt_up_s, dt_up_k, dt_up_n]; omega⟩) ?_
  refine dt_vret dX10_init_27 rfl (by decide) (by decide) ?_
  refine ⟨rfl, rfl, ⟨?_, ?_⟩, ⟨?_, fun i y hy => by cases i <;> exact absurd hy (by simp)⟩, fun b hb => ?_⟩
  · simp (disch := omega) only [dt_up_s, dt_up_k, dt_up_n, dt_zr_n]
  · simp (disch := omega) only [dt_up_s, dt_up_k, dt_up_n, dt_zr_n]
  · rw [dt_up_s]; rfl
  · simp (disch := omega) only [dt_up_o, dt_zr_n]
theorem s_X10_init_2 {sh : List dt_Shp} {σ : dt_Mem} {x n : Int} (hx : dt_in32 x) (hn : dt_in32 n) : dt_Sp mX10_init 1 1 16 [dt_R sh.length, dt_I x, dt_I n] (sh ++ [.inl (2, [0, 0, 3, 0, 0])]) σ (fun v sh2 σ2 => v = none ∧ sh2 = sh ++ [.inl (2, [0, 0, sh.length + 1 + 4, 0, 0]), .inr (0, 16)] ∧ (σ2 sh.length 0 = x ∧ σ2 sh.length 1 = n) ∧ wT σ2 sh.length [] ∧ ∀ b, b < sh.length → σ2 b = σ b) := by
  refine dt_Sp_of (by decide) (Nat.le_of_ble_eq_true rfl) ?_
  refine dt_wfV fun hwf => ?_
  show dt_V _ _ _ 0 0 0 [some (dt_R sh.length), some (dt_I x), some (dt_I n)] [] _ _
  refine dt_aloadn dX10_init_0 rfl rfl ?_
  refine dt_obj dX10_init_1 po_X10_3 pob_i pob_c (by decide) (by decide) ?_
  refine dt_aloadn dX10_init_4 rfl rfl ?_
  refine dt_iloadn dX10_init_5 rfl rfl ?_
  refine dt_fputI dX10_init_6 pf_X10_9_2 rfl dt_ap0 rfl (by first | assumption | exact hwf _ _ | exact dt_b32 _ | omega | exact ⟨by omega, by omega⟩ | decide | exact ⟨by simp (disch := omega) only [dt_up_s, dt_up_k, dt_up_n]; omega, by simp (disch := omega) only [dt_up_s, dt_up_k, dt_up_n]; omega⟩) ?_
  refine dt_aloadn dX10_init_9 rfl rfl ?_
  refine dt_iloadn dX10_init_10 rfl rfl ?_
  refine dt_fputI dX10_init_11 pf_X10_15_2 rfl dt_ap0 rfl (by first | assumption | exact hwf _ _ | exact dt_b32 _ | omega | exact ⟨by omega, by omega⟩ | decide | exact ⟨by simp (disch := omega) only [dt_up_s, dt_up_k, dt_up_n]; omega, by simp (disch := omega) only [dt_up_s, dt_up_k, dt_up_n]; omega⟩) ?_
  refine dt_aloadn dX10_init_14 rfl rfl ?_
  refine dt_bipush dX10_init_15 (by decide) ?_
  refine dt_newa0 (ty := 0) dX10_init_17 (Or.inl ⟨rfl, rfl⟩) (by decide) (by decide) (by decide) (by decide) pa_I ?_
  refine dt_fputR dX10_init_19 pf_X10_18_2 rfl ⟨rfl, fun _ => rfl⟩ dt_ap1 rfl ?_
  dsimp only [List.set]
  rw [dt_aps, dt_apl]
  refine dt_aloadn dX10_init_22 rfl rfl ?_
  refine dt_iconst dX10_init_23 ?_
  refine dt_wfV fun hwf => ?_
  refine dt_putI dX10_init_24 pw_X10_22_2 dt_ap2 rfl (by first | assumption | exact hwf _ _ | exact dt_b32 _ | omega | exact ⟨by omega, by omega⟩ | decide | exact ⟨by simp (disch := omega) only [dt_up_s, dt_up_k, dt_up_n]; omega, by simp (disch := omega) only [dt_up_s, dt_up_k, dt_up_n]; omega⟩) ?_
  refine dt_vret dX10_init_27 rfl (by decide) (by decide) ?_
  refine ⟨rfl, rfl, ⟨?_, ?_⟩, ⟨?_, fun i y hy => by cases i <;> exact absurd hy (by simp)⟩, fun b hb => ?_⟩
  · simp (disch := omega) only [dt_up_s, dt_up_k, dt_up_n, dt_zr_n]
  · simp (disch := omega) only [dt_up_s, dt_up_k, dt_up_n, dt_zr_n]
  · rw [dt_up_s]; rfl
  · simp (disch := omega) only [dt_up_o, dt_zr_n]
theorem s_X10_init_1 {sh : List dt_Shp} {σ : dt_Mem} {x n : Int} (hx : dt_in32 x) (hn : dt_in32 n) : dt_Sp mX10_init 1 1 16 [dt_R sh.length, dt_I x, dt_I n] (sh ++ [.inl (1, [0, 0, 3, 0, 0])]) σ (fun v sh2 σ2 => v = none ∧ sh2 = sh ++ [.inl (1, [0, 0, sh.length + 1 + 4, 0, 0]), .inr (0, 16)] ∧ (σ2 sh.length 0 = x ∧ σ2 sh.length 1 = n) ∧ wT σ2 sh.length [] ∧ ∀ b, b < sh.length → σ2 b = σ b) := by
  refine dt_Sp_of (by decide) (Nat.le_of_ble_eq_true rfl) ?_
  refine dt_wfV fun hwf => ?_
  show dt_V _ _ _ 0 0 0 [some (dt_R sh.length), some (dt_I x), some (dt_I n)] [] _ _
  refine dt_aloadn dX10_init_0 rfl rfl ?_
  refine dt_obj dX10_init_1 po_X10_3 pob_i pob_c (by decide) (by decide) ?_
  refine dt_aloadn dX10_init_4 rfl rfl ?_
  refine dt_iloadn dX10_init_5 rfl rfl ?_
  refine dt_fputI dX10_init_6 pf_X10_9_1 rfl dt_ap0 rfl (by first | assumption | exact hwf _ _ | exact dt_b32 _ | omega | exact ⟨by omega, by omega⟩ | decide | exact ⟨by simp (disch := omega) only [dt_up_s, dt_up_k, dt_up_n]; omega, by simp (disch := omega) only [dt_up_s, dt_up_k, dt_up_n]; omega⟩) ?_
  refine dt_aloadn dX10_init_9 rfl rfl ?_
  refine dt_iloadn dX10_init_10 rfl rfl ?_
  refine dt_fputI dX10_init_11 pf_X10_15_1 rfl dt_ap0 rfl (by first | assumption | exact hwf _ _ | exact dt_b32 _ | omega | exact ⟨by omega, by omega⟩ | decide | exact ⟨by simp (disch := omega) only [dt_up_s, dt_up_k, dt_up_n]; omega, by simp (disch := omega) only [dt_up_s, dt_up_k, dt_up_n]; omega⟩) ?_
  refine dt_aloadn dX10_init_14 rfl rfl ?_
  refine dt_bipush dX10_init_15 (by decide) ?_
  refine dt_newa0 (ty := 0) dX10_init_17 (Or.inl ⟨rfl, rfl⟩) (by decide) (by decide) (by decide) (by decide) pa_I ?_
  refine dt_fputR dX10_init_19 pf_X10_18_1 rfl ⟨rfl, fun _ => rfl⟩ dt_ap1 rfl ?_
  dsimp only [List.set]
  rw [dt_aps, dt_apl]
  refine dt_aloadn dX10_init_22 rfl rfl ?_
  refine dt_iconst dX10_init_23 ?_
  refine dt_wfV fun hwf => ?_
  refine dt_putI dX10_init_24 pw_X10_22_1 dt_ap2 rfl (by first | assumption | exact hwf _ _ | exact dt_b32 _ | omega | exact ⟨by omega, by omega⟩ | decide | exact ⟨by simp (disch := omega) only [dt_up_s, dt_up_k, dt_up_n]; omega, by simp (disch := omega) only [dt_up_s, dt_up_k, dt_up_n]; omega⟩) ?_
  refine dt_vret dX10_init_27 rfl (by decide) (by decide) ?_
  refine ⟨rfl, rfl, ⟨?_, ?_⟩, ⟨?_, fun i y hy => by cases i <;> exact absurd hy (by simp)⟩, fun b hb => ?_⟩
  · simp (disch := omega) only [dt_up_s, dt_up_k, dt_up_n, dt_zr_n]
  · simp (disch := omega) only [dt_up_s, dt_up_k, dt_up_n, dt_zr_n]
  · rw [dt_up_s]; rfl
  · simp (disch := omega) only [dt_up_o, dt_zr_n]
theorem s_X10_init_3 {sh : List dt_Shp} {σ : dt_Mem} {x n : Int} (hx : dt_in32 x) (hn : dt_in32 n) : dt_Sp mX10_init 1 1 16 [dt_R sh.length, dt_I x, dt_I n] (sh ++ [.inl (3, [0, 0, 3, 0, 0])]) σ (fun v sh2 σ2 => v = none ∧ sh2 = sh ++ [.inl (3, [0, 0, sh.length + 1 + 4, 0, 0]), .inr (0, 16)] ∧ (σ2 sh.length 0 = x ∧ σ2 sh.length 1 = n) ∧ wT σ2 sh.length [] ∧ ∀ b, b < sh.length → σ2 b = σ b) := by
  refine dt_Sp_of (by decide) (Nat.le_of_ble_eq_true rfl) ?_
  refine dt_wfV fun hwf => ?_
  show dt_V _ _ _ 0 0 0 [some (dt_R sh.length), some (dt_I x), some (dt_I n)] [] _ _
  refine dt_aloadn dX10_init_0 rfl rfl ?_
  refine dt_obj dX10_init_1 po_X10_3 pob_i pob_c (by decide) (by decide) ?_
  refine dt_aloadn dX10_init_4 rfl rfl ?_
  refine dt_iloadn dX10_init_5 rfl rfl ?_
  refine dt_fputI dX10_init_6 pf_X10_9_3 rfl dt_ap0 rfl (by first | assumption | exact hwf _ _ | exact dt_b32 _ | omega | exact ⟨by omega, by omega⟩ | decide | exact ⟨by simp (disch := omega) only [dt_up_s, dt_up_k, dt_up_n]; omega, by simp (disch := omega) only [dt_up_s, dt_up_k, dt_up_n]; omega⟩) ?_
  refine dt_aloadn dX10_init_9 rfl rfl ?_
  refine dt_iloadn dX10_init_10 rfl rfl ?_
  refine dt_fputI dX10_init_11 pf_X10_15_3 rfl dt_ap0 rfl (by first | assumption | exact hwf _ _ | exact dt_b32 _ | omega | exact ⟨by omega, by omega⟩ | decide | exact ⟨by simp (disch := omega) only [dt_up_s, dt_up_k, dt_up_n]; omega, by simp (disch := omega) only [dt_up_s, dt_up_k, dt_up_n]; omega⟩) ?_
  refine dt_aloadn dX10_init_14 rfl rfl ?_
  refine dt_bipush dX10_init_15 (by decide) ?_
  refine dt_newa0 (ty := 0) dX10_init_17 (Or.inl ⟨rfl, rfl⟩) (by decide) (by decide) (by decide) (by decide) pa_I ?_
  refine dt_fputR dX10_init_19 pf_X10_18_3 rfl ⟨rfl, fun _ => rfl⟩ dt_ap1 rfl ?_
  dsimp only [List.set]
  rw [dt_aps, dt_apl]
  refine dt_aloadn dX10_init_22 rfl rfl ?_
  refine dt_iconst dX10_init_23 ?_
  refine dt_wfV fun hwf => ?_
  refine dt_putI dX10_init_24 pw_X10_22_3 dt_ap2 rfl (by first | assumption | exact hwf _ _ | exact dt_b32 _ | omega | exact ⟨by omega, by omega⟩ | decide | exact ⟨by simp (disch := omega) only [dt_up_s, dt_up_k, dt_up_n]; omega, by simp (disch := omega) only [dt_up_s, dt_up_k, dt_up_n]; omega⟩) ?_
  refine dt_vret dX10_init_27 rfl (by decide) (by decide) ?_
  refine ⟨rfl, rfl, ⟨?_, ?_⟩, ⟨?_, fun i y hy => by cases i <;> exact absurd hy (by simp)⟩, fun b hb => ?_⟩
  · simp (disch := omega) only [dt_up_s, dt_up_k, dt_up_n, dt_zr_n]
  · simp (disch := omega) only [dt_up_s, dt_up_k, dt_up_n, dt_zr_n]
  · rw [dt_up_s]; rfl
  · simp (disch := omega) only [dt_up_o, dt_zr_n]
theorem s_X5_init_5 {sh : List dt_Shp} {σ : dt_Mem} {x n c : Int} (hx : dt_in32 x) (hn : dt_in32 n) (hc : dt_in32 c) : dt_Sp mX5_init 2 1 16 [dt_R sh.length, dt_I x, dt_I n, dt_I c] (sh ++ [.inl (5, [0, 0, 3, 0, 0])]) σ (fun v sh2 σ2 => v = none ∧ sh2 = sh ++ [.inl (5, [0, 0, sh.length + 1 + 4, 0, 0]), .inr (0, 16)] ∧ (σ2 sh.length 0 = x ∧ σ2 sh.length 1 = n ∧ σ2 sh.length 4 = c) ∧ wT σ2 sh.length [] ∧ ∀ b, b < sh.length → σ2 b = σ b) := by
  refine dt_Sp_of (by decide) (Nat.le_of_ble_eq_true rfl) ?_
  refine dt_wfV fun hwf => ?_
  show dt_V _ _ _ 0 0 0 [some (dt_R sh.length), some (dt_I x), some (dt_I n), some (dt_I c)] [] _ _
  refine dt_aloadn dX5_init_0 rfl rfl ?_
  refine dt_iloadn dX5_init_1 rfl rfl ?_
  refine dt_iloadn dX5_init_2 rfl rfl ?_
  refine dt_xI dX5_init_3 pc_X5_1 (s_X10_init_5 (by first | assumption | exact hwf _ _ | exact dt_b32 _ | omega | exact ⟨by omega, by omega⟩ | decide | exact ⟨by simp (disch := omega) only [dt_up_s, dt_up_k, dt_up_n]; omega, by simp (disch := omega) only [dt_up_s, dt_up_k, dt_up_n]; omega⟩) (by first | assumption | exact hwf _ _ | exact dt_b32 _ | omega | exact ⟨by omega, by omega⟩ | decide | exact ⟨by simp (disch := omega) only [dt_up_s, dt_up_k, dt_up_n]; omega, by simp (disch := omega) only [dt_up_s, dt_up_k, dt_up_n]; omega⟩)) rfl rfl ⟨by decide, by decide⟩ (Nat.le_of_ble_eq_true rfl) ⟨by decide, by decide⟩ ?_
  intro v1 sh1 σ1 hq1
  obtain ⟨rfl, hs1, ⟨hv1, hw1⟩, hT1, hf1⟩ := hq1
  obtain rfl := hs1.symm
  refine dt_aloadn dX5_init_6 rfl rfl ?_
  refine dt_iloadn dX5_init_7 rfl rfl ?_
  refine dt_fputI dX5_init_8 pf_X5_7_5 rfl dt_ap2 rfl (by first | assumption | exact hwf _ _ | exact dt_b32 _ | omega | exact ⟨by omega, by omega⟩ | decide | exact ⟨by simp (disch := omega) only [dt_up_s, dt_up_k, dt_up_n]; omega, by simp (disch := omega) only [dt_up_s, dt_up_k, dt_up_n]; omega⟩) ?_
  refine dt_vret dX5_init_11 rfl (by decide) (by decide) ?_
  refine ⟨rfl, rfl, ⟨?_, ?_, ?_⟩, ⟨?_, fun i y hy => by cases i <;> exact absurd hy (by simp)⟩, fun b hb => ?_⟩
  · rw [dt_up_k (by decide)]; exact hv1
  · rw [dt_up_k (by decide)]; exact hw1
  · rw [dt_up_s]
  · rw [dt_up_k (by decide)]; exact hT1.1
  · rw [dt_up_o (by omega)]; exact hf1 b hb
theorem s_X5_init_0 {sh : List dt_Shp} {σ : dt_Mem} {x n c : Int} (hx : dt_in32 x) (hn : dt_in32 n) (hc : dt_in32 c) : dt_Sp mX5_init 2 1 16 [dt_R sh.length, dt_I x, dt_I n, dt_I c] (sh ++ [.inl (0, [0, 0, 3, 0, 0])]) σ (fun v sh2 σ2 => v = none ∧ sh2 = sh ++ [.inl (0, [0, 0, sh.length + 1 + 4, 0, 0]), .inr (0, 16)] ∧ (σ2 sh.length 0 = x ∧ σ2 sh.length 1 = n ∧ σ2 sh.length 4 = c) ∧ wT σ2 sh.length [] ∧ ∀ b, b < sh.length → σ2 b = σ b) := by
  refine dt_Sp_of (by decide) (Nat.le_of_ble_eq_true rfl) ?_
  refine dt_wfV fun hwf => ?_
  show dt_V _ _ _ 0 0 0 [some (dt_R sh.length), some (dt_I x), some (dt_I n), some (dt_I c)] [] _ _
  refine dt_aloadn dX5_init_0 rfl rfl ?_
  refine dt_iloadn dX5_init_1 rfl rfl ?_
  refine dt_iloadn dX5_init_2 rfl rfl ?_
  refine dt_xI dX5_init_3 pc_X5_1 (s_X10_init_0 (by first | assumption | exact hwf _ _ | exact dt_b32 _ | omega | exact ⟨by omega, by omega⟩ | decide | exact ⟨by simp (disch := omega) only [dt_up_s, dt_up_k, dt_up_n]; omega, by simp (disch := omega) only [dt_up_s, dt_up_k, dt_up_n]; omega⟩) (by first | assumption | exact hwf _ _ | exact dt_b32 _ | omega | exact ⟨by omega, by omega⟩ | decide | exact ⟨by simp (disch := omega) only [dt_up_s, dt_up_k, dt_up_n]; omega, by simp (disch := omega) only [dt_up_s, dt_up_k, dt_up_n]; omega⟩)) rfl rfl ⟨by decide, by decide⟩ (Nat.le_of_ble_eq_true rfl) ⟨by decide, by decide⟩ ?_
  intro v1 sh1 σ1 hq1
  obtain ⟨rfl, hs1, ⟨hv1, hw1⟩, hT1, hf1⟩ := hq1
  obtain rfl := hs1.symm
  refine dt_aloadn dX5_init_6 rfl rfl ?_
  refine dt_iloadn dX5_init_7 rfl rfl ?_
  refine dt_fputI dX5_init_8 pf_X5_7_0 rfl dt_ap2 rfl (by first | assumption | exact hwf _ _ | exact dt_b32 _ | omega | exact ⟨by omega, by omega⟩ | decide | exact ⟨by simp (disch := omega) only [dt_up_s, dt_up_k, dt_up_n]; omega, by simp (disch := omega) only [dt_up_s, dt_up_k, dt_up_n]; omega⟩) ?_
  refine dt_vret dX5_init_11 rfl (by decide) (by decide) ?_
  refine ⟨rfl, rfl, ⟨?_, ?_, ?_⟩, ⟨?_, fun i y hy => by cases i <;> exact absurd hy (by simp)⟩, fun b hb => ?_⟩
  · rw [dt_up_k (by decide)]; exact hv1
  · rw [dt_up_k (by decide)]; exact hw1
  · rw [dt_up_s]
  · rw [dt_up_k (by decide)]; exact hT1.1
  · rw [dt_up_o (by omega)]; exact hf1 b hb
theorem s_X0_init_0 {sh : List dt_Shp} {σ : dt_Mem} {x n c : Int} (hx : dt_in32 x) (hn : dt_in32 n) (hc : dt_in32 c) : dt_Sp mX0_init 3 1 16 [dt_R sh.length, dt_I x, dt_I n, dt_I c] (sh ++ [.inl (0, [0, 0, 3, 0, 0])]) σ (fun v sh2 σ2 => v = none ∧ sh2 = sh ++ [.inl (0, [0, 0, sh.length + 1 + 4, 0, 0]), .inr (0, 16)] ∧ (σ2 sh.length 0 = x ∧ σ2 sh.length 1 = n ∧ σ2 sh.length 4 = c) ∧ wT σ2 sh.length [] ∧ ∀ b, b < sh.length → σ2 b = σ b) := by
  refine dt_Sp_of (by decide) (Nat.le_of_ble_eq_true rfl) ?_
  refine dt_wfV fun hwf => ?_
  show dt_V _ _ _ 0 0 0 [some (dt_R sh.length), some (dt_I x), some (dt_I n), some (dt_I c)] [] _ _
  refine dt_aloadn dX0_init_0 rfl rfl ?_
  refine dt_iloadn dX0_init_1 rfl rfl ?_
  refine dt_iloadn dX0_init_2 rfl rfl ?_
  refine dt_iloadn dX0_init_3 rfl rfl ?_
  refine dt_xI dX0_init_4 pc_X0_1 (s_X5_init_0 (by first | assumption | exact hwf _ _ | exact dt_b32 _ | omega | exact ⟨by omega, by omega⟩ | decide | exact ⟨by simp (disch := omega) only [dt_up_s, dt_up_k, dt_up_n]; omega, by simp (disch := omega) only [dt_up_s, dt_up_k, dt_up_n]; omega⟩) (by first | assumption | exact hwf _ _ | exact dt_b32 _ | omega | exact ⟨by omega, by omega⟩ | decide | exact ⟨by simp (disch := omega) only [dt_up_s, dt_up_k, dt_up_n]; omega, by simp (disch := omega) only [dt_up_s, dt_up_k, dt_up_n]; omega⟩) (by first | assumption | exact hwf _ _ | exact dt_b32 _ | omega | exact ⟨by omega, by omega⟩ | decide | exact ⟨by simp (disch := omega) only [dt_up_s, dt_up_k, dt_up_n]; omega, by simp (disch := omega) only [dt_up_s, dt_up_k, dt_up_n]; omega⟩)) rfl rfl ⟨by decide, by decide⟩ (Nat.le_of_ble_eq_true rfl) ⟨by decide, by decide⟩ ?_
  intro v1 sh1 σ1 hq1
  obtain ⟨rfl, hs1, ⟨hv1, hw1, hu1⟩, hT1, hf1⟩ := hq1
  obtain rfl := hs1.symm
  refine dt_vret dX0_init_7 rfl (by decide) (by decide) ?_
  exact ⟨rfl, rfl, ⟨hv1, hw1, hu1⟩, hT1, hf1⟩
theorem s_X5_init_2 {sh : List dt_Shp} {σ : dt_Mem} {x n c : Int} (hx : dt_in32 x) (hn : dt_in32 n) (hc : dt_in32 c) : dt_Sp mX5_init 2 1 16 [dt_R sh.length, dt_I x, dt_I n, dt_I c] (sh ++ [.inl (2, [0, 0, 3, 0, 0])]) σ (fun v sh2 σ2 => v = none ∧ sh2 = sh ++ [.inl (2, [0, 0, sh.length + 1 + 4, 0, 0]), .inr (0, 16)] ∧ (σ2 sh.length 0 = x ∧ σ2 sh.length 1 = n ∧ σ2 sh.length 4 = c) ∧ wT σ2 sh.length [] ∧ ∀ b, b < sh.length → σ2 b = σ b) := by
  refine dt_Sp_of (by decide) (Nat.le_of_ble_eq_true rfl) ?_
  refine dt_wfV fun hwf => ?_
  show dt_V _ _ _ 0 0 0 [some (dt_R sh.length), some (dt_I x), some (dt_I n), some (dt_I c)] [] _ _
  refine dt_aloadn dX5_init_0 rfl rfl ?_
  refine dt_iloadn dX5_init_1 rfl rfl ?_
  refine dt_iloadn dX5_init_2 rfl rfl ?_
  refine dt_xI dX5_init_3 pc_X5_1 (s_X10_init_2 (by first | assumption | exact hwf _ _ | exact dt_b32 _ | omega | exact ⟨by omega, by omega⟩ | decide | exact ⟨by simp (disch := omega) only [dt_up_s, dt_up_k, dt_up_n]; omega, by simp (disch := omega) only [dt_up_s, dt_up_k, dt_up_n]; omega⟩) (by first | assumption | exact hwf _ _ | exact dt_b32 _ | omega | exact ⟨by omega, by omega⟩ | decide | exact ⟨by simp (disch := omega) only [dt_up_s, dt_up_k, dt_up_n]; omega, by simp (disch := omega) only [dt_up_s, dt_up_k, dt_up_n]; omega⟩)) rfl rfl ⟨by decide, by decide⟩ (Nat.le_of_ble_eq_true rfl) ⟨by decide, by decide⟩ ?_
  intro v1 sh1 σ1 hq1
  obtain ⟨rfl, hs1, ⟨hv1, hw1⟩, hT1, hf1⟩ := hq1
  obtain rfl := hs1.symm
  refine dt_aloadn dX5_init_6 rfl rfl ?_
  refine dt_iloadn dX5_init_7 rfl rfl ?_
  refine dt_fputI dX5_init_8 pf_X5_7_2 rfl dt_ap2 rfl (by first | assumption | exact hwf _ _ | exact dt_b32 _ | omega | exact ⟨by omega, by omega⟩ | decide | exact ⟨by simp (disch := omega) only [dt_up_s, dt_up_k, dt_up_n]; omega, by simp (disch := omega) only [dt_up_s, dt_up_k, dt_up_n]; omega⟩) ?_
  refine dt_vret dX5_init_11 rfl (by decide) (by decide) ?_
  refine ⟨rfl, rfl, ⟨?_, ?_, ?_⟩, ⟨?_, fun i y hy => by cases i <;> exact absurd hy (by simp)⟩, fun b hb => ?_⟩
  · rw [dt_up_k (by decide)]; exact hv1
  · rw [dt_up_k (by decide)]; exact hw1
  · rw [dt_up_s]
  · rw [dt_up_k (by decide)]; exact hT1.1
  · rw [dt_up_o (by omega)]; exact hf1 b hb
theorem s_X0_init_2 {sh : List dt_Shp} {σ : dt_Mem} {x n c : Int} (hx : dt_in32 x) (hn : dt_in32 n) (hc : dt_in32 c) : dt_Sp mX0_init 3 1 16 [dt_R sh.length, dt_I x, dt_I n, dt_I c] (sh ++ [.inl (2, [0, 0, 3, 0, 0])]) σ (fun v sh2 σ2 => v = none ∧ sh2 = sh ++ [.inl (2, [0, 0, sh.length + 1 + 4, 0, 0]), .inr (0, 16)] ∧ (σ2 sh.length 0 = x ∧ σ2 sh.length 1 = n ∧ σ2 sh.length 4 = c) ∧ wT σ2 sh.length [] ∧ ∀ b, b < sh.length → σ2 b = σ b) := by
  refine dt_Sp_of (by decide) (Nat.le_of_ble_eq_true rfl) ?_
  refine dt_wfV fun hwf => ?_
  show dt_V _ _ _ 0 0 0 [some (dt_R sh.length), some (dt_I x), some (dt_I n), some (dt_I c)] [] _ _
  refine dt_aloadn dX0_init_0 rfl rfl ?_
  refine dt_iloadn dX0_init_1 rfl rfl ?_
  refine dt_iloadn dX0_init_2 rfl rfl ?_
  refine dt_iloadn dX0_init_3 rfl rfl ?_
  refine dt_xI dX0_init_4 pc_X0_1 (s_X5_init_2 (by first | assumption | exact hwf _ _ | exact dt_b32 _ | omega | exact ⟨by omega, by omega⟩ | decide | exact ⟨by simp (disch := omega) only [dt_up_s, dt_up_k, dt_up_n]; omega, by simp (disch := omega) only [dt_up_s, dt_up_k, dt_up_n]; omega⟩) (by first | assumption | exact hwf _ _ | exact dt_b32 _ | omega | exact ⟨by omega, by omega⟩ | decide | exact ⟨by simp (disch := omega) only [dt_up_s, dt_up_k, dt_up_n]; omega, by simp (disch := omega) only [dt_up_s, dt_up_k, dt_up_n]; omega⟩) (by first | assumption | exact hwf _ _ | exact dt_b32 _ | omega | exact ⟨by omega, by omega⟩ | decide | exact ⟨by simp (disch := omega) only [dt_up_s, dt_up_k, dt_up_n]; omega, by simp (disch := omega) only [dt_up_s, dt_up_k, dt_up_n]; omega⟩)) rfl rfl ⟨by decide, by decide⟩ (Nat.le_of_ble_eq_true rfl) ⟨by decide, by decide⟩ ?_
  intro v1 sh1 σ1 hq1
  obtain ⟨rfl, hs1, ⟨hv1, hw1, hu1⟩, hT1, hf1⟩ := hq1
  obtain rfl := hs1.symm
  refine dt_vret dX0_init_7 rfl (by decide) (by decide) ?_
  exact ⟨rfl, rfl, ⟨hv1, hw1, hu1⟩, hT1, hf1⟩
theorem s_X2_init_2 {sh : List dt_Shp} {σ : dt_Mem} {x n c : Int} (hx : dt_in32 x) (hn : dt_in32 n) (hc : dt_in32 c) : dt_Sp mX2_init 4 1 16 [dt_R sh.length, dt_I x, dt_I n, dt_I c] (sh ++ [.inl (2, [0, 0, 3, 0, 0])]) σ (fun v sh2 σ2 => v = none ∧ sh2 = sh ++ [.inl (2, [0, 0, sh.length + 1 + 4, 0, 0]), .inr (0, 16)] ∧ (σ2 sh.length 0 = x ∧ σ2 sh.length 1 = n ∧ σ2 sh.length 4 = c) ∧ wT σ2 sh.length [] ∧ ∀ b, b < sh.length → σ2 b = σ b) := by
  refine dt_Sp_of (by decide) (Nat.le_of_ble_eq_true rfl) ?_
  refine dt_wfV fun hwf => ?_
  show dt_V _ _ _ 0 0 0 [some (dt_R sh.length), some (dt_I x), some (dt_I n), some (dt_I c)] [] _ _
  refine dt_aloadn dX2_init_0 rfl rfl ?_
  refine dt_iloadn dX2_init_1 rfl rfl ?_
  refine dt_iloadn dX2_init_2 rfl rfl ?_
  refine dt_iloadn dX2_init_3 rfl rfl ?_
  refine dt_xI dX2_init_4 pc_X2_1 (s_X0_init_2 (by first | assumption | exact hwf _ _ | exact dt_b32 _ | omega | exact ⟨by omega, by omega⟩ | decide | exact ⟨by simp (disch := omega) only [dt_up_s, dt_up_k, dt_up_n]; omega, by simp (disch := omega) only [dt_up_s, dt_up_k, dt_up_n]; omega⟩) (by first | assumption | exact hwf _ _ | exact dt_b32 _ | omega | exact ⟨by omega, by omega⟩ | decide | exact ⟨by simp (disch := omega) only [dt_up_s, dt_up_k, dt_up_n]; omega, by simp (disch := omega) only [dt_up_s, dt_up_k, dt_up_n]; omega⟩) (by first | assumption | exact hwf _ _ | exact dt_b32 _ | omega | exact ⟨by omega, by omega⟩ | decide | exact ⟨by simp (disch := omega) only [dt_up_s, dt_up_k, dt_up_n]; omega, by simp (disch := omega) only [dt_up_s, dt_up_k, dt_up_n]; omega⟩)) rfl rfl ⟨by decide, by decide⟩ (Nat.le_of_ble_eq_true rfl) ⟨by decide, by decide⟩ ?_
  intro v1 sh1 σ1 hq1
  obtain ⟨rfl, hs1, ⟨hv1, hw1, hu1⟩, hT1, hf1⟩ := hq1
  obtain rfl := hs1.symm
  refine dt_vret dX2_init_7 rfl (by decide) (by decide) ?_
  exact ⟨rfl, rfl, ⟨hv1, hw1, hu1⟩, hT1, hf1⟩
theorem s_X1_init_1 {sh : List dt_Shp} {σ : dt_Mem} {x n c : Int} (hx : dt_in32 x) (hn : dt_in32 n) (hc : dt_in32 c) : dt_Sp mX1_init 2 1 16 [dt_R sh.length, dt_I x, dt_I n, dt_I c] (sh ++ [.inl (1, [0, 0, 3, 0, 0])]) σ (fun v sh2 σ2 => v = none ∧ sh2 = sh ++ [.inl (1, [0, 0, sh.length + 1 + 4, 0, 0]), .inr (0, 16)] ∧ (σ2 sh.length 0 = x ∧ σ2 sh.length 1 = n ∧ σ2 sh.length 4 = c) ∧ wT σ2 sh.length [] ∧ ∀ b, b < sh.length → σ2 b = σ b) := by
  refine dt_Sp_of (by decide) (Nat.le_of_ble_eq_true rfl) ?_
  refine dt_wfV fun hwf => ?_
  show dt_V _ _ _ 0 0 0 [some (dt_R sh.length), some (dt_I x), some (dt_I n), some (dt_I c)] [] _ _
  refine dt_aloadn dX1_init_0 rfl rfl ?_
  refine dt_iloadn dX1_init_1 rfl rfl ?_
  refine dt_iloadn dX1_init_2 rfl rfl ?_
  refine dt_xI dX1_init_3 pc_X1_1 (s_X10_init_1 (by first | assumption | exact hwf _ _ | exact dt_b32 _ | omega | exact ⟨by omega, by omega⟩ | decide | exact ⟨by simp (disch := omega) only [dt_up_s, dt_up_k, dt_up_n]; omega, by simp (disch := omega) only [dt_up_s, dt_up_k, dt_up_n]; omega⟩) (by first | assumption | exact hwf _ _ | exact dt_b32 _ | omega | exact ⟨by omega, by omega⟩ | decide | exact ⟨by simp (disch := omega) only [dt_up_s, dt_up_k, dt_up_n]; omega, by simp (disch := omega) only [dt_up_s, dt_up_k, dt_up_n]; omega⟩)) rfl rfl ⟨by decide, by decide⟩ (Nat.le_of_ble_eq_true rfl) ⟨by decide, by decide⟩ ?_
  intro v1 sh1 σ1 hq1
  obtain ⟨rfl, hs1, ⟨hv1, hw1⟩, hT1, hf1⟩ := hq1
  obtain rfl := hs1.symm
  refine dt_aloadn dX1_init_6 rfl rfl ?_
  refine dt_iloadn dX1_init_7 rfl rfl ?_
  refine dt_fputI dX1_init_8 pf_X1_7_1 rfl dt_ap2 rfl (by first | assumption | exact hwf _ _ | exact dt_b32 _ | omega | exact ⟨by omega, by omega⟩ | decide | exact ⟨by simp (disch := omega) only [dt_up_s, dt_up_k, dt_up_n]; omega, by simp (disch := omega) only [dt_up_s, dt_up_k, dt_up_n]; omega⟩) ?_
  refine dt_vret dX1_init_11 rfl (by decide) (by decide) ?_
  refine ⟨rfl, rfl, ⟨?_, ?_, ?_⟩, ⟨?_, fun i y hy => by cases i <;> exact absurd hy (by simp)⟩, fun b hb => ?_⟩
  · rw [dt_up_k (by decide)]; exact hv1
  · rw [dt_up_k (by decide)]; exact hw1
  · rw [dt_up_s]
  · rw [dt_up_k (by decide)]; exact hT1.1
  · rw [dt_up_o (by omega)]; exact hf1 b hb
theorem s_X1_init_3 {sh : List dt_Shp} {σ : dt_Mem} {x n c : Int} (hx : dt_in32 x) (hn : dt_in32 n) (hc : dt_in32 c) : dt_Sp mX1_init 2 1 16 [dt_R sh.length, dt_I x, dt_I n, dt_I c] (sh ++ [.inl (3, [0, 0, 3, 0, 0])]) σ (fun v sh2 σ2 => v = none ∧ sh2 = sh ++ [.inl (3, [0, 0, sh.length + 1 + 4, 0, 0]), .inr (0, 16)] ∧ (σ2 sh.length 0 = x ∧ σ2 sh.length 1 = n ∧ σ2 sh.length 4 = c) ∧ wT σ2 sh.length [] ∧ ∀ b, b < sh.length → σ2 b = σ b) := by
  refine dt_Sp_of (by decide) (Nat.le_of_ble_eq_true rfl) ?_
  refine dt_wfV fun hwf => ?_
  show dt_V _ _ _ 0 0 0 [some (dt_R sh.length), some (dt_I x), some (dt_I n), some (dt_I c)] [] _ _
  refine dt_aloadn dX1_init_0 rfl rfl ?_
  refine dt_iloadn dX1_init_1 rfl rfl ?_
  refine dt_iloadn dX1_init_2 rfl rfl ?_
  refine dt_xI dX1_init_3 pc_X1_1 (s_X10_init_3 (by first | assumption | exact hwf _ _ | exact dt_b32 _ | omega | exact ⟨by omega, by omega⟩ | decide | exact ⟨by simp (disch := omega) only [dt_up_s, dt_up_k, dt_up_n]; omega, by simp (disch := omega) only [dt_up_s, dt_up_k, dt_up_n]; omega⟩) (by first | assumption | exact hwf _ _ | exact dt_b32 _ | omega | exact ⟨by omega, by omega⟩ | decide | exact ⟨by simp (disch := omega) only [dt_up_s, dt_up_k, dt_up_n]; omega, by simp (disch := omega) only [dt_up_s, dt_up_k, dt_up_n]; omega⟩)) rfl rfl ⟨by decide, by decide⟩ (Nat.le_of_ble_eq_true rfl) ⟨by decide, by decide⟩ ?_
  intro v1 sh1 σ1 hq1
  obtain ⟨rfl, hs1, ⟨hv1, hw1⟩, hT1, hf1⟩ := hq1
  obtain rfl := hs1.symm
  refine dt_aloadn dX1_init_6 rfl rfl ?_
  refine dt_iloadn dX1_init_7 rfl rfl ?_
  refine dt_fputI dX1_init_8 pf_X1_7_3 rfl dt_ap2 rfl (by first | assumption | exact hwf _ _ | exact dt_b32 _ | omega | exact ⟨by omega, by omega⟩ | decide | exact ⟨by simp (disch := omega) only [dt_up_s, dt_up_k, dt_up_n]; omega, by simp (disch := omega) only [dt_up_s, dt_up_k, dt_up_n]; omega⟩) ?_
  refine dt_vret dX1_init_11 rfl (by decide) (by decide) ?_
  refine ⟨rfl, rfl, ⟨?_, ?_, ?_⟩, ⟨?_, fun i y hy => by cases i <;> exact absurd hy (by simp)⟩, fun b hb => ?_⟩
  · rw [dt_up_k (by decide)]; exact hv1
  · rw [dt_up_k (by decide)]; exact hw1
  · rw [dt_up_s]
  · rw [dt_up_k (by decide)]; exact hT1.1
  · rw [dt_up_o (by omega)]; exact hf1 b hb
theorem s_X3_init_3 {sh : List dt_Shp} {σ : dt_Mem} {x n c : Int} (hx : dt_in32 x) (hn : dt_in32 n) (hc : dt_in32 c) : dt_Sp mX3_init 3 1 16 [dt_R sh.length, dt_I x, dt_I n, dt_I c] (sh ++ [.inl (3, [0, 0, 3, 0, 0])]) σ (fun v sh2 σ2 => v = none ∧ sh2 = sh ++ [.inl (3, [0, 0, sh.length + 1 + 4, 0, 0]), .inr (0, 16)] ∧ (σ2 sh.length 0 = x ∧ σ2 sh.length 1 = n ∧ σ2 sh.length 4 = c) ∧ wT σ2 sh.length [] ∧ ∀ b, b < sh.length → σ2 b = σ b) := by
  refine dt_Sp_of (by decide) (Nat.le_of_ble_eq_true rfl) ?_
  refine dt_wfV fun hwf => ?_
  show dt_V _ _ _ 0 0 0 [some (dt_R sh.length), some (dt_I x), some (dt_I n), some (dt_I c)] [] _ _
  refine dt_aloadn dX3_init_0 rfl rfl ?_
  refine dt_iloadn dX3_init_1 rfl rfl ?_
  refine dt_iloadn dX3_init_2 rfl rfl ?_
  refine dt_iloadn dX3_init_3 rfl rfl ?_
  refine dt_xI dX3_init_4 pc_X3_1 (s_X1_init_3 (by first | assumption | exact hwf _ _ | exact dt_b32 _ | omega | exact ⟨by omega, by omega⟩ | decide | exact ⟨by simp (disch := omega) only [dt_up_s, dt_up_k, dt_up_n]; omega, by simp (disch := omega) only [dt_up_s, dt_up_k, dt_up_n]; omega⟩) (by first | assumption | exact hwf _ _ | exact dt_b32 _ | omega | exact ⟨by omega, by omega⟩ | decide | exact ⟨by simp (disch := omega) only [dt_up_s, dt_up_k, dt_up_n]; omega, by simp (disch := omega) only [dt_up_s, dt_up_k, dt_up_n]; omega⟩) (by first | assumption | exact hwf _ _ | exact dt_b32 _ | omega | exact ⟨by omega, by omega⟩ | decide | exact ⟨by simp (disch := omega) only [dt_up_s, dt_up_k, dt_up_n]; omega, by simp (disch := omega) only [dt_up_s, dt_up_k, dt_up_n]; omega⟩)) rfl rfl ⟨by decide, by decide⟩ (Nat.le_of_ble_eq_true rfl) ⟨by decide, by decide⟩ ?_
  intro v1 sh1 σ1 hq1
  obtain ⟨rfl, hs1, ⟨hv1, hw1, hu1⟩, hT1, hf1⟩ := hq1
  obtain rfl := hs1.symm
  refine dt_vret dX3_init_7 rfl (by decide) (by decide) ?_
  exact ⟨rfl, rfl, ⟨hv1, hw1, hu1⟩, hT1, hf1⟩
