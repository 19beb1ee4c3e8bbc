
section JDK
variable {M : dt_MD} {R : Room} {C : dt_Cx} {kc ks pc : Nat} {ls : List (Option dt_MV)} {st : List dt_MV} {sh : List dt_Shp} {σ : dt_Mem}
theorem dt_sfmt {idx : Nat} (hd : decode M.2.1 pc = .ok (.getstatic idx, 3)) (hw : Cond.fieldLink M.1.cls idx "jdk/internal/util/Preconditions" "SIOOBE_FORMATTER" "Ljava/util/function/BiFunction;" ∈ dt_tbl) (kN : dt_V M R C kc ks (pc + 3) ls (dt_N :: st) sh σ) (kS : dt_V M R C kc ks (pc + 3) ls (dt_S 16 :: st) sh σ) : dt_V M R C kc ks pc ls st sh σ := by
  intro p l e s m args below meth c D dA S B H locs lsA Z F X P hS L
  obtain ⟨r, hz, hr⟩ := F.2.2.2.2.2.2.2.2.2.1.2.2.2.1
  rcases hr with rfl | rfl
  · exact va_gets F.1 F.2.1 hz hS F.2.2.2.2.1 (F.2.2.2.2.2.2.1 _ hw) (fun _ h => h) hd (kN p l e s m args below meth c D dA S B H locs lsA Z F X P hS L)
  · exact va_gets F.1 F.2.1 hz hS F.2.2.2.2.1 (F.2.2.2.2.2.2.1 _ hw) (fun _ h => h) hd (kS p l e s m args below meth c D dA S B H locs lsA Z F X P hS L)
end JDK
/-- character j of text i -/
def dt_ch (i j : Nat) : Int := ((dt_bt.getD i []).getD j 0).toInt
theorem dt_ch_k : ∀ i, i < 8 → ∀ j, j < dt_ln.getD i 0 → dj_i2c (dj_and (dt_ch i j) 255) = dt_ch i j ∧ narrow .char (.int (Int32.ofInt (dt_ch i j))) = .int (Int32.ofInt (dt_ch i j)) ∧ 97 ≤ dt_ch i j ∧ dt_ch i j ≤ 122 := by decide +kernel
theorem dt_ln_k : ∀ i, i < 8 → dj_shr (dt_ln.getD i 0) 0 = (dt_ln.getD i 0 : Nat) ∧ dt_ln.getD i 0 ≤ 6 ∧ 4 ≤ dt_ln.getD i 0 := by decide +kernel
/-- how many of eight bits are set -/
def dt_pop (n : Nat) : Nat := n % 2 + n / 2 % 2 + n / 4 % 2 + n / 8 % 2 + n / 16 % 2 + n / 32 % 2 + n / 64 % 2 + n / 128 % 2
theorem s_J0_coder_7d493 {sh : List dt_Shp} {σ : dt_Mem} {i : Nat} (hi : i < 8) : dt_Sp mJ0_coder_7d493 0 0 0 [dt_S (2 * i)] sh σ (fun v sh2 σ2 => v = some (dt_I 0) ∧ sh2 = sh ∧ σ2 = σ) := by
  refine dt_Sp_of (by decide) (Nat.le_of_ble_eq_true rfl) ?_
  refine dt_wfV fun hwf => ?_
  show dt_V _ _ _ 0 0 0 [some (dt_S (2 * i))] [] _ _
  refine dt_scpt dJ0_coder_7d493_0 ps_J0_38 ?_
  refine dt_if_eq (tgt := 13) dJ0_coder_7d493_3 (by decide) (by first | assumption | exact hwf _ _ | exact dt_b32 _ | omega | exact ⟨by omega, by omega⟩ | decide | exact ⟨by simp (disch := omega) only [dt_up_s, dt_up_k, dt_up_n]; omega, by simp (disch := omega) only [dt_up_s, dt_up_k, dt_up_n]; omega⟩) (fun c1 => ?_) (fun c1 => ?_)
  · skip
    first | exact absurd c1 (by omega) | exact absurd c1 (by decide) | exact absurd rfl c1
  · skip
    refine dt_aloadSn dJ0_coder_7d493_6 rfl rfl ?_
    refine dt_scod hi dJ0_coder_7d493_7 ps_J0_15 ?_
    refine dt_goto (tgt := 14) dJ0_coder_7d493_10 (by decide) ?_
    refine dt_yret dJ0_coder_7d493_14 rfl (by decide) (by decide) rfl ?_
    exact ⟨rfl, rfl, rfl⟩
theorem s_J0_length_8abf5 {sh : List dt_Shp} {σ : dt_Mem} {i : Nat} (hi : i < 8) : dt_Sp mJ0_length_8abf5 1 0 0 [dt_S (2 * i)] sh σ (fun v sh2 σ2 => v = some (dt_I ((dt_ln.getD i 0 : Nat) : Int)) ∧ sh2 = sh ∧ σ2 = σ) := by
  refine dt_Sp_of (by decide) (Nat.le_of_ble_eq_true rfl) ?_
  refine dt_wfV fun hwf => ?_
  show dt_V _ _ _ 0 0 0 [some (dt_S (2 * i))] [] _ _
  refine dt_aloadSn dJ0_length_8abf5_0 rfl rfl ?_
  refine dt_sval hi dJ0_length_8abf5_1 ps_J0_9 ?_
  refine dt_slen hi dJ0_length_8abf5_4 ?_
  refine dt_aloadSn dJ0_length_8abf5_5 rfl rfl ?_
  refine dt_xStr hi dJ0_length_8abf5_6 pc_J0_335 rfl (s_J0_coder_7d493 hi) rfl rfl ⟨by decide, by decide⟩ (Nat.le_of_ble_eq_true rfl) ⟨by decide, by decide⟩ (dt_k3 ?_)
  refine dt_ishr dJ0_length_8abf5_9 ?_
  refine dt_iret dJ0_length_8abf5_10 rfl (by decide) (by decide) ?_
  exact ⟨by rw [(dt_ln_k i hi).1], rfl, rfl⟩
theorem s_J0_isLatin1_aae02 {sh : List dt_Shp} {σ : dt_Mem} {i : Nat} (hi : i < 8) : dt_Sp mJ0_isLatin1_aae02 0 0 0 [dt_S (2 * i)] sh σ (fun v sh2 σ2 => v = some (dt_I 1) ∧ sh2 = sh ∧ σ2 = σ) := by
  refine dt_Sp_of (by decide) (Nat.le_of_ble_eq_true rfl) ?_
  refine dt_wfV fun hwf => ?_
  show dt_V _ _ _ 0 0 0 [some (dt_S (2 * i))] [] _ _
  refine dt_scpt dJ0_isLatin1_aae02_0 ps_J0_38 ?_
  refine dt_if_eq (tgt := 17) dJ0_isLatin1_aae02_3 (by decide) (by first | assumption | exact hwf _ _ | exact dt_b32 _ | omega | exact ⟨by omega, by omega⟩ | decide | exact ⟨by simp (disch := omega) only [dt_up_s, dt_up_k, dt_up_n]; omega, by simp (disch := omega) only [dt_up_s, dt_up_k, dt_up_n]; omega⟩) (fun c1 => ?_) (fun c1 => ?_)
  · skip
    first | exact absurd c1 (by omega) | exact absurd c1 (by decide) | exact absurd rfl c1
  · skip
    refine dt_aloadSn dJ0_isLatin1_aae02_6 rfl rfl ?_
    refine dt_scod hi dJ0_isLatin1_aae02_7 ps_J0_15 ?_
    refine dt_if_ne (tgt := 17) dJ0_isLatin1_aae02_10 (by decide) (by first | assumption | exact hwf _ _ | exact dt_b32 _ | omega | exact ⟨by omega, by omega⟩ | decide | exact ⟨by simp (disch := omega) only [dt_up_s, dt_up_k, dt_up_n]; omega, by simp (disch := omega) only [dt_up_s, dt_up_k, dt_up_n]; omega⟩) (fun c2 => ?_) (fun c2 => ?_)
    · skip
      first | exact absurd c2 (by omega) | exact absurd c2 (by decide) | exact absurd rfl c2
    · skip
      refine dt_iconst dJ0_isLatin1_aae02_13 ?_
      refine dt_goto (tgt := 18) dJ0_isLatin1_aae02_14 (by decide) ?_
      refine dt_zret dJ0_isLatin1_aae02_18 rfl (by decide) (by decide) (by first | exact Or.inl rfl | exact Or.inr rfl | assumption | omega) ?_
      exact ⟨rfl, rfl, rfl⟩
theorem s_J3N {sh : List dt_Shp} {σ : dt_Mem} {j n : Int} (h1 : 0 ≤ j) (h2 : j < n) (h3 : n < 1000) : dt_Sp mJ3_checkIndex_8e157 0 0 0 [dt_I j, dt_I n, dt_N] sh σ (fun v sh2 σ2 => v = some (dt_I j) ∧ sh2 = sh ∧ σ2 = σ) := by
  refine dt_Sp_of (by decide) (Nat.le_of_ble_eq_true rfl) ?_
  refine dt_wfV fun hwf => ?_
  show dt_V _ _ _ 0 0 0 [some (dt_I j), some (dt_I n), some (dt_N)] [] _ _
  refine dt_iloadn dJ3_checkIndex_8e157_0 rfl rfl ?_
  refine dt_if_lt (tgt := 9) dJ3_checkIndex_8e157_1 (by decide) (by first | assumption | exact hwf _ _ | exact dt_b32 _ | omega | exact ⟨by omega, by omega⟩ | decide | exact ⟨by simp (disch := omega) only [dt_up_s, dt_up_k, dt_up_n]; omega, by simp (disch := omega) only [dt_up_s, dt_up_k, dt_up_n]; omega⟩) (fun c1 => ?_) (fun c1 => ?_)
  · skip
    first | exact absurd c1 (by omega) | exact absurd c1 (by decide) | exact absurd rfl c1
  · skip
    refine dt_iloadn dJ3_checkIndex_8e157_4 rfl rfl ?_
    refine dt_iloadn dJ3_checkIndex_8e157_5 rfl rfl ?_
    refine dt_cm_lt (tgt := 16) dJ3_checkIndex_8e157_6 (by decide) (by first | assumption | exact hwf _ _ | exact dt_b32 _ | omega | exact ⟨by omega, by omega⟩ | decide | exact ⟨by simp (disch := omega) only [dt_up_s, dt_up_k, dt_up_n]; omega, by simp (disch := omega) only [dt_up_s, dt_up_k, dt_up_n]; omega⟩) (by first | assumption | exact hwf _ _ | exact dt_b32 _ | omega | exact ⟨by omega, by omega⟩ | decide | exact ⟨by simp (disch := omega) only [dt_up_s, dt_up_k, dt_up_n]; omega, by simp (disch := omega) only [dt_up_s, dt_up_k, dt_up_n]; omega⟩) (fun c2 => ?_) (fun c2 => ?_)
    · skip
      refine dt_iloadn dJ3_checkIndex_8e157_16 rfl rfl ?_
      refine dt_iret dJ3_checkIndex_8e157_17 rfl (by decide) (by decide) ?_
      exact ⟨rfl, rfl, rfl⟩
    · skip
      first | exact absurd c2 (by omega) | exact absurd c2 (by decide) | exact absurd rfl c2
theorem s_J3S {sh : List dt_Shp} {σ : dt_Mem} {j n : Int} (h1 : 0 ≤ j) (h2 : j < n) (h3 : n < 1000) : dt_Sp mJ3_checkIndex_8e157 0 0 0 [dt_I j, dt_I n, dt_S 16] sh σ (fun v sh2 σ2 => v = some (dt_I j) ∧ sh2 = sh ∧ σ2 = σ) := by
  refine dt_Sp_of (by decide) (Nat.le_of_ble_eq_true rfl) ?_
  refine dt_wfV fun hwf => ?_
  show dt_V _ _ _ 0 0 0 [some (dt_I j), some (dt_I n), some (dt_S 16)] [] _ _
  refine dt_iloadn dJ3_checkIndex_8e157_0 rfl rfl ?_
  refine dt_if_lt (tgt := 9) dJ3_checkIndex_8e157_1 (by decide) (by first | assumption | exact hwf _ _ | exact dt_b32 _ | omega | exact ⟨by omega, by omega⟩ | decide | exact ⟨by simp (disch := omega) only [dt_up_s, dt_up_k, dt_up_n]; omega, by simp (disch := omega) only [dt_up_s, dt_up_k, dt_up_n]; omega⟩) (fun c1 => ?_) (fun c1 => ?_)
  · skip
    first | exact absurd c1 (by omega) | exact absurd c1 (by decide) | exact absurd rfl c1
  · skip
    refine dt_iloadn dJ3_checkIndex_8e157_4 rfl rfl ?_
    refine dt_iloadn dJ3_checkIndex_8e157_5 rfl rfl ?_
    refine dt_cm_lt (tgt := 16) dJ3_checkIndex_8e157_6 (by decide) (by first | assumption | exact hwf _ _ | exact dt_b32 _ | omega | exact ⟨by omega, by omega⟩ | decide | exact ⟨by simp (disch := omega) only [dt_up_s, dt_up_k, dt_up_n]; omega, by simp (disch := omega) only [dt_up_s, dt_up_k, dt_up_n]; omega⟩) (by first | assumption | exact hwf _ _ | exact dt_b32 _ | omega | exact ⟨by omega, by omega⟩ | decide | exact ⟨by simp (disch := omega) only [dt_up_s, dt_up_k, dt_up_n]; omega, by simp (disch := omega) only [dt_up_s, dt_up_k, dt_up_n]; omega⟩) (fun c2 => ?_) (fun c2 => ?_)
    · skip
      refine dt_iloadn dJ3_checkIndex_8e157_16 rfl rfl ?_
      refine dt_iret dJ3_checkIndex_8e157_17 rfl (by decide) (by decide) ?_
      exact ⟨rfl, rfl, rfl⟩
    · skip
      first | exact absurd c2 (by omega) | exact absurd c2 (by decide) | exact absurd rfl c2
theorem s_J0_checkIndex_df160 {sh : List dt_Shp} {σ : dt_Mem} {j n : Int} (h1 : 0 ≤ j) (h2 : j < n) (h3 : n < 1000) : dt_Sp mJ0_checkIndex_df160 1 0 0 [dt_I j, dt_I n] sh σ (fun v sh2 σ2 => v = none ∧ sh2 = sh ∧ σ2 = σ) := by
  refine dt_Sp_of (by decide) (Nat.le_of_ble_eq_true rfl) ?_
  show dt_V _ _ _ 0 0 0 [some (dt_I j), some (dt_I n)] [] _ _
  refine dt_iloadn dJ0_checkIndex_df160_0 rfl rfl ?_
  refine dt_iloadn dJ0_checkIndex_df160_1 rfl rfl ?_
  refine dt_sfmt dJ0_checkIndex_df160_2 ps_J0_1053 ?_ ?_
  · refine dt_xS dJ0_checkIndex_df160_5 pc_J0_1059 (s_J3N h1 h2 h3) rfl rfl ⟨by decide, by decide⟩ (Nat.le_of_ble_eq_true rfl) ⟨by decide, by decide⟩ (dt_k3 ?_)
    refine dt_popI dJ0_checkIndex_df160_8 ?_
    refine dt_vret dJ0_checkIndex_df160_9 rfl (by decide) (by decide) ?_
    exact ⟨rfl, rfl, rfl⟩
  · refine dt_xS dJ0_checkIndex_df160_5 pc_J0_1059 (s_J3S h1 h2 h3) rfl rfl ⟨by decide, by decide⟩ (Nat.le_of_ble_eq_true rfl) ⟨by decide, by decide⟩ (dt_k3 ?_)
    refine dt_popI dJ0_checkIndex_df160_8 ?_
    refine dt_vret dJ0_checkIndex_df160_9 rfl (by decide) (by decide) ?_
    exact ⟨rfl, rfl, rfl⟩
theorem s_J1_charAt_3b067 {sh : List dt_Shp} {σ : dt_Mem} {i : Nat} {j : Int} (hi : i < 8) (h1 : 0 ≤ j) (h2 : j < (dt_ln.getD i 0 : Nat)) : dt_Sp mJ1_charAt_3b067 2 0 0 [dt_S (2 * i + 1), dt_I j] sh σ (fun v sh2 σ2 => v = some (dt_I (dt_ch i j.toNat)) ∧ sh2 = sh ∧ σ2 = σ) := by
  refine dt_Sp_of (by decide) (Nat.le_of_ble_eq_true rfl) ?_
  refine dt_wfV fun hwf => ?_
  obtain ⟨l1, l2, l3⟩ := dt_ln_k i hi
  obtain ⟨k1, k2, k3⟩ := dt_ch_k i hi j.toNat (by omega)
  show dt_V _ _ _ 0 0 0 [some (dt_S (2 * i + 1)), some (dt_I j)] [] _ _
  refine dt_iloadn dJ1_charAt_3b067_0 rfl rfl ?_
  refine dt_aloadSn dJ1_charAt_3b067_1 rfl rfl ?_
  refine dt_slen hi dJ1_charAt_3b067_2 ?_
  refine dt_xS dJ1_charAt_3b067_3 pc_J1_9 (s_J0_checkIndex_df160 h1 h2 (by omega)) rfl rfl ⟨by decide, by decide⟩ (Nat.le_of_ble_eq_true rfl) ⟨by decide, by decide⟩ (dt_k3 ?_)
  refine dt_aloadSn dJ1_charAt_3b067_6 rfl rfl ?_
  refine dt_iloadn dJ1_charAt_3b067_7 rfl rfl ?_
  refine dt_sbld hi dJ1_charAt_3b067_8 h1 h2 (by omega) ?_
  refine dt_sipush dJ1_charAt_3b067_9 (by decide) ?_
  refine dt_iand dJ1_charAt_3b067_12 ?_
  rw [show ((dt_bt.getD i []).getD j.toNat 0).toInt = dt_ch i j.toNat from rfl]
  refine dt_ui2c dJ1_charAt_3b067_13 ?_
  rw [k1]
  refine dt_yret dJ1_charAt_3b067_14 rfl (by decide) (by decide) k2 ?_
  exact ⟨rfl, rfl, rfl⟩
theorem s_J0_charAt_5068e {sh : List dt_Shp} {σ : dt_Mem} {i : Nat} {j : Int} (hi : i < 8) (h1 : 0 ≤ j) (h2 : j < (dt_ln.getD i 0 : Nat)) : dt_Sp mJ0_charAt_5068e 3 0 0 [dt_S (2 * i), dt_I j] sh σ (fun v sh2 σ2 => v = some (dt_I (dt_ch i j.toNat)) ∧ sh2 = sh ∧ σ2 = σ) := by
  refine dt_Sp_of (by decide) (Nat.le_of_ble_eq_true rfl) ?_
  refine dt_wfV fun hwf => ?_
  obtain ⟨l1, l2, l3⟩ := dt_ln_k i hi
  obtain ⟨k1, k2, k3⟩ := dt_ch_k i hi j.toNat (by omega)
  show dt_V _ _ _ 0 0 0 [some (dt_S (2 * i)), some (dt_I j)] [] _ _
  refine dt_aloadSn dJ0_charAt_5068e_0 rfl rfl ?_
  refine dt_xStr hi dJ0_charAt_5068e_1 pc_J0_492 rfl (s_J0_isLatin1_aae02 hi) rfl rfl ⟨by decide, by decide⟩ (Nat.le_of_ble_eq_true rfl) ⟨by decide, by decide⟩ (dt_k3 ?_)
  refine dt_if_eq (tgt := 16) dJ0_charAt_5068e_4 (by decide) (by first | assumption | exact hwf _ _ | exact dt_b32 _ | omega | exact ⟨by omega, by omega⟩ | decide | exact ⟨by simp (disch := omega) only [dt_up_s, dt_up_k, dt_up_n]; omega, by simp (disch := omega) only [dt_up_s, dt_up_k, dt_up_n]; omega⟩) (fun c1 => ?_) (fun c1 => ?_)
  · skip
    try simp only [dt_b0, dt_b1, Decidable.not_not, Classical.not_not] at c1
    first | exact absurd c1 (by omega) | exact absurd c1 (by decide) | exact absurd rfl c1
  · skip
    try simp only [dt_b0, dt_b1, Decidable.not_not, Classical.not_not] at c1
    refine dt_aloadSn dJ0_charAt_5068e_7 rfl rfl ?_
    refine dt_sval hi dJ0_charAt_5068e_8 ps_J0_9 ?_
    refine dt_iloadn dJ0_charAt_5068e_11 rfl rfl ?_
    refine dt_xS dJ0_charAt_5068e_12 pc_J0_495 (s_J1_charAt_3b067 hi h1 h2) rfl rfl ⟨by decide, by decide⟩ (Nat.le_of_ble_eq_true rfl) ⟨by decide, by decide⟩ (dt_k3 ?_)
    refine dt_yret dJ0_charAt_5068e_15 rfl (by decide) (by decide) k2 ?_
    exact ⟨rfl, rfl, rfl⟩
