
theorem dj_cl {x y : Int} : (dj_cmp x y < 0) = (x < y) := by
  unfold dj_cmp
  apply propext
  split
  · omega
  · split <;> omega
theorem dj_cle {x y : Int} : (dj_cmp x y ≤ 0) = (x ≤ y) := by
  unfold dj_cmp
  apply propext
  split
  · omega
  · split <;> omega
theorem dj_cg {x y : Int} : (0 < dj_cmp x y) = (y < x) := by
  unfold dj_cmp
  apply propext
  split
  · omega
  · split <;> omega
theorem dj_cge {x y : Int} : (0 ≤ dj_cmp x y) = (y ≤ x) := by
  unfold dj_cmp
  apply propext
  split
  · omega
  · split <;> omega
theorem dj_c32 (x y : Int) : dt_in32 (dj_cmp x y) := by
  unfold dj_cmp
  split
  · decide
  · split <;> decide
theorem hRow.neg {σ : dt_Mem} {a b c r : Nat} {o : Option (Nat × List Int)} (h : hRow σ a b c r o) (e : σ a r < 0) : o = Option.none := by
  cases o with
  | none => rfl
  | some q => have := h.1; omega
theorem hRow.pos {σ : dt_Mem} {a b c r : Nat} {o : Option (Nat × List Int)} (h : hRow σ a b c r o) (e : 0 ≤ σ a r) : ∃ q, o = Option.some q ∧ σ a r = q.1 ∧ q.1 ≤ 2 ∧ σ b r = q.2.length ∧ q.2.length ≤ 40 ∧ ∀ (i : Nat) (x : Int), q.2[i]? = Option.some x → σ c (r * 40 + i) = x := h.some (by omega)
/-- the reference's own notes (what was thrown, where it reads ..) say nothing of the state -/
theorem rInv.up40 {σ : dt_Mem} {A : dS} (h : rInv σ A) (k : Nat) (v : Int) (hk : k ≠ 1 ∧ k ≠ 7 ∧ k ≠ 9 ∧ k ≠ 10 ∧ k ≠ 29) : rInv (dt_up σ 40 k v) A := by
  obtain ⟨h1, h2, h3, h4, h5, h6, h7, h8⟩ := h
  refine ⟨h1.kept (dt_up_o (by decide)) (dt_up_o (by decide)) (dt_up_o (by decide)), ⟨?_, ?_⟩, ⟨h3.1.kept (dt_up_o (by decide)), ?_⟩, ⟨fun g => (h4.1 g).kept (dt_up_o (by decide)), ?_⟩, ⟨fun g => (h5.1 g).kept (dt_up_o (by decide)), ?_⟩, ?_, ?_, ⟨?_, h8.2.1, ?_⟩⟩
  · rw [dt_up_k (by omega)]; exact h2.1
  · rw [dt_up_o (by decide)]; exact h2.2
  · rw [dt_up_k (by omega)]; exact h3.2
  · rw [dt_up_o (by decide)]; exact h4.2
  · rw [dt_up_o (by decide)]; exact h5.2
  · rw [dt_up_k (by omega)]; exact h6
  · rw [dt_up_k (by omega)]; exact h7
  · rw [dt_up_k (by omega)]; exact h8.1
  · rw [dt_up_o (by decide)]; exact h8.2.2
theorem rInv.st {σ : dt_Mem} {A : dS} (h : rInv σ A) (x : Int) : rInv (dt_up σ 40 1 x) (sSt A x) := by
  obtain ⟨h1, h2, h3, h4, h5, h6, h7, h8⟩ := h
  refine ⟨h1.kept (dt_up_o (by decide)) (dt_up_o (by decide)) (dt_up_o (by decide)), ⟨?_, ?_⟩, ⟨h3.1.kept (dt_up_o (by decide)), ?_⟩, ⟨fun g => (h4.1 g).kept (dt_up_o (by decide)), ?_⟩, ⟨fun g => (h5.1 g).kept (dt_up_o (by decide)), ?_⟩, ?_, dt_up_s, ⟨?_, h8.2.1, ?_⟩⟩
  · rw [dt_up_k (by omega)]; exact h2.1
  · rw [dt_up_o (by decide)]; exact h2.2
  · rw [dt_up_k (by omega)]; exact h3.2
  · rw [dt_up_o (by decide)]; exact h4.2
  · rw [dt_up_o (by decide)]; exact h5.2
  · rw [dt_up_k (by omega)]; exact h6
  · rw [dt_up_k (by omega)]; exact h8.1
  · rw [dt_up_o (by decide)]; exact h8.2.2
theorem rInv.rows {σ σ' : dt_Mem} {A : dS} {R : dR} (h : rInv σ A) (hR : rRows σ' R) (e : ∀ b, b ≠ 41 → b ≠ 42 → b ≠ 43 → σ' b = σ b) : rInv σ' (R, A.2) := by
  obtain ⟨h1, h2, h3, h4, h5, h6, h7, h8⟩ := h
  refine ⟨hR, ⟨?_, ?_⟩, ⟨h3.1.kept (e 44 (by decide) (by decide) (by decide)), ?_⟩, ⟨fun g => (h4.1 g).kept (e 53 (by decide) (by decide) (by decide)), ?_⟩, ⟨fun g => (h5.1 g).kept (e 53 (by decide) (by decide) (by decide)), ?_⟩, ?_, ?_, ⟨?_, h8.2.1, ?_⟩⟩
  · rw [e 40 (by decide) (by decide) (by decide)]; exact h2.1
  · rw [e 46 (by decide) (by decide) (by decide)]; exact h2.2
  · rw [e 40 (by decide) (by decide) (by decide)]; exact h3.2
  · rw [e 52 (by decide) (by decide) (by decide)]; exact h4.2
  · rw [e 52 (by decide) (by decide) (by decide)]; exact h5.2
  · rw [e 40 (by decide) (by decide) (by decide)]; exact h6
  · rw [e 40 (by decide) (by decide) (by decide)]; exact h7
  · rw [e 40 (by decide) (by decide) (by decide)]; exact h8.1
  · rw [e 54 (by decide) (by decide) (by decide)]; exact h8.2.2
/-- a stretch filled from its end -/
theorem dt_fil_d (σ : dt_Mem) (a lo i : Nat) (v : Nat → Int) : dt_up (dt_fil σ a (lo + 1) i v) a lo (v lo) = dt_fil σ a lo (i + 1) v := by
  funext b j
  unfold dt_up dt_fil
  by_cases hb : b = a
  · subst hb
    by_cases hj : j = lo
    · subst hj
      rw [if_pos rfl, if_pos rfl, if_pos ⟨rfl, by omega, by omega⟩]
    · rw [if_pos rfl, if_neg hj]
      by_cases h : lo + 1 ≤ j ∧ j < lo + 1 + i
      · rw [if_pos ⟨rfl, h.1, h.2⟩, if_pos ⟨rfl, by omega, by omega⟩]
      · rw [if_neg (fun q => h q.2), if_neg (fun q => h (by omega))]
  · rw [if_neg hb, if_neg (fun q => hb q.1), if_neg (fun q => hb q.1)]
theorem s_X12_in {sh : List dt_Shp} {σ : dt_Mem} {x a b : Int} (h1 : dt_in64 x) (h2 : dt_in64 a) (h3 : dt_in64 b) : dt_Sp mX12_in 0 0 0 [dt_L x, dt_L a, dt_L b] sh σ (fun v sh2 σ2 => v = some (dt_I (dt_b (a ≤ x ∧ x ≤ b))) ∧ sh2 = sh ∧ σ2 = σ) := by
  refine dt_Sp_of (by decide) (Nat.le_of_ble_eq_true rfl) ?_
  refine dt_wfV fun hwf => ?_
  show dt_V _ _ _ 0 0 0 [some (dt_L x), none, some (dt_L a), none, some (dt_L b), none] [] _ _
  refine dt_lloadn dX12_in_0 rfl rfl ?_
  refine dt_lloadn dX12_in_1 rfl rfl ?_
  refine dt_lcmp dX12_in_2 (by first | assumption | exact ⟨by omega, by omega⟩ | decide) (by first | assumption | exact ⟨by omega, by omega⟩ | decide) ?_
  refine dt_if_lt (tgt := 17) dX12_in_3 (by decide) (dj_c32 _ _) (fun c1 => ?_) (fun c1 => ?_)
  · skip
    simp only [dj_cl, dj_cle, dj_cg, dj_cge] at c1
    refine dt_iconst dX12_in_17 ?_
    refine dt_zret dX12_in_18 rfl (by decide) (by decide) (by first | exact Or.inl rfl | exact Or.inr rfl | assumption | omega) ?_
    first | exact ⟨by rw [dt_bT (by omega)], rfl, rfl⟩ | exact ⟨by rw [dt_bF (by omega)], rfl, rfl⟩
  · skip
    simp only [dj_cl, dj_cle, dj_cg, dj_cge] at c1
    refine dt_lloadn dX12_in_6 rfl rfl ?_
    refine dt_lload dX12_in_7 rfl ?_
    refine dt_lcmp dX12_in_9 (by first | assumption | exact ⟨by omega, by omega⟩ | decide) (by first | assumption | exact ⟨by omega, by omega⟩ | decide) ?_
    refine dt_if_gt (tgt := 17) dX12_in_10 (by decide) (dj_c32 _ _) (fun c2 => ?_) (fun c2 => ?_)
    · skip
      simp only [dj_cl, dj_cle, dj_cg, dj_cge] at c2
      refine dt_iconst dX12_in_17 ?_
      refine dt_zret dX12_in_18 rfl (by decide) (by decide) (by first | exact Or.inl rfl | exact Or.inr rfl | assumption | omega) ?_
      first | exact ⟨by rw [dt_bT (by omega)], rfl, rfl⟩ | exact ⟨by rw [dt_bF (by omega)], rfl, rfl⟩
    · skip
      simp only [dj_cl, dj_cle, dj_cg, dj_cge] at c2
      refine dt_iconst dX12_in_13 ?_
      refine dt_goto (tgt := 18) dX12_in_14 (by decide) ?_
      refine dt_zret dX12_in_18 rfl (by decide) (by decide) (by first | exact Or.inl rfl | exact Or.inr rfl | assumption | omega) ?_
      first | exact ⟨by rw [dt_bT (by omega)], rfl, rfl⟩ | exact ⟨by rw [dt_bF (by omega)], rfl, rfl⟩
theorem s_X12_finding {ex : List dt_Shp} {σ : dt_Mem} {f : Int} (h1 : dt_in32 f) : dt_Sp mX12_finding 0 0 0 [dt_R 40, dt_I f] (dt_SH ++ ex) σ (fun v sh2 σ2 => v = some (dt_I (-1000010 - f)) ∧ sh2 = dt_SH ++ ex ∧ σ2 = dt_up σ 40 1 f) := by
  refine dt_Sp_of (by decide) (Nat.le_of_ble_eq_true rfl) ?_
  refine dt_wfV fun hwf => ?_
  show dt_V _ _ _ 0 0 0 [some (dt_R 40), some (dt_I f)] [] _ _
  refine dt_aloadn dX12_finding_0 rfl rfl ?_
  refine dt_iloadn dX12_finding_1 rfl rfl ?_
  refine dt_wfV fun hwf => ?_
  refine dt_putI dX12_finding_2 pw_X12_57_12 rfl rfl (by first | assumption | exact hwf _ _ | exact dt_b32 _ | omega | exact ⟨by omega, by omega⟩ | decide | exact ⟨by simp (disch := omega) only [dt_up_s, dt_up_k, dt_up_n]; omega, by simp (disch := omega) only [dt_up_s, dt_up_k, dt_up_n]; omega⟩) ?_
  refine dt_ldc dX12_finding_5 pk_X12_60 ?_
  refine dt_iloadn dX12_finding_7 rfl rfl ?_
  refine dt_isub dX12_finding_8 ?_
  refine dt_iret dX12_finding_9 rfl (by decide) (by decide) ?_
  exact ⟨rfl, rfl, rfl⟩
theorem s_X12_isRow {sh : List dt_Shp} {σ : dt_Mem} {r : Int} (h1 : dt_in32 r) : dt_Sp mX12_isRow 1 0 0 [dt_I r] sh σ (fun v sh2 σ2 => v = some (dt_I (dt_b (0 ≤ r ∧ r ≤ 7))) ∧ sh2 = sh ∧ σ2 = σ) := by
  refine dt_Sp_of (by decide) (Nat.le_of_ble_eq_true rfl) ?_
  refine dt_wfV fun hwf => ?_
  show dt_V _ _ _ 0 0 0 [some (dt_I r)] [] _ _
  refine dt_iloadn dX12_isRow_0 rfl rfl ?_
  refine dt_ui2l dX12_isRow_1 (by first | assumption | exact hwf _ _ | exact dt_b32 _ | omega | exact ⟨by omega, by omega⟩ | decide | exact ⟨by simp (disch := omega) only [dt_up_s, dt_up_k, dt_up_n]; omega, by simp (disch := omega) only [dt_up_s, dt_up_k, dt_up_n]; omega⟩) ?_
  refine dt_lconst (x := 0) dX12_isRow_2 (by decide) ?_
  refine dt_ldc2 dX12_isRow_3 pk_X12_61 ?_
  refine dt_xS dX12_isRow_6 pc_X12_63 (s_X12_in (by first | exact ⟨by omega, by omega⟩ | decide) (by first | exact ⟨by omega, by omega⟩ | decide) (by first | exact ⟨by omega, by omega⟩ | decide)) rfl rfl ⟨by decide, by decide⟩ (Nat.le_of_ble_eq_true rfl) ⟨by decide, by decide⟩ (dt_k3 ?_)
  refine dt_zret dX12_isRow_9 rfl (by decide) (by decide) (dt_b01 _) ?_
  exact ⟨rfl, rfl, rfl⟩
theorem s_X12_row {ex : List dt_Shp} {σ : dt_Mem} {A : dS} {r l n : Int} (hI : rInv σ A) (h_r : dt_in32 r) (h_l : dt_in32 l) (h_n : dt_in32 n) : dt_Sp mX12_row 2 0 0 [dt_R 40, dt_I r, dt_I l, dt_I n] (dt_SH ++ ex) σ (fun v sh2 σ2 => v = some (dt_I (oRow A r l n).1) ∧ sh2 = dt_SH ++ ex ∧ rEnd σ σ2 (oRow A r l n).2) := by
  refine dt_Sp_of (by decide) (Nat.le_of_ble_eq_true rfl) ?_
  refine dt_wfV fun hwf => ?_
  show dt_V _ _ _ 0 0 0 [some (dt_R 40), some (dt_I r), some (dt_I l), some (dt_I n), none] [] _ _
  refine dt_aloadn dX12_row_0 rfl rfl ?_
  refine dt_iconst dX12_row_1 ?_
  refine dt_wfV fun hwf => ?_
  refine dt_putI dX12_row_2 pw_X12_53_12 rfl rfl (by first | assumption | exact hwf _ _ | exact dt_b32 _ | omega | exact ⟨by omega, by omega⟩ | decide | exact ⟨by simp (disch := omega) only [dt_up_s, dt_up_k, dt_up_n]; omega, by simp (disch := omega) only [dt_up_s, dt_up_k, dt_up_n]; omega⟩) ?_
  obtain ⟨σa, ea⟩ : ∃ z, z = dt_up σ 40 0 0 := ⟨_, rfl⟩
  rw [← ea]
  have hA := hI.up40 0 0 (by decide)
  rw [← ea] at hA
  have fa : ∀ b, (b < 40 ∨ 55 ≤ b) → σa b = σ b := fun b hb => by rw [ea]; exact dt_up_o (by omega)
  clear ea
  refine dt_wfV fun hwf => ?_
  refine dt_iloadn dX12_row_5 rfl rfl ?_
  refine dt_xS dX12_row_6 pc_X12_67 (s_X12_isRow (by first | assumption | exact hwf _ _ | exact dt_b32 _ | omega | exact ⟨by omega, by omega⟩ | decide | exact ⟨by simp (disch := omega) only [dt_up_s, dt_up_k, dt_up_n]; omega, by simp (disch := omega) only [dt_up_s, dt_up_k, dt_up_n]; omega⟩)) rfl rfl ⟨by decide, by decide⟩ (Nat.le_of_ble_eq_true rfl) ⟨by decide, by decide⟩ (dt_k3 ?_)
  refine dt_if_eq (tgt := 30) dX12_row_9 (by decide) (by first | assumption | exact hwf _ _ | exact dt_b32 _ | omega | exact ⟨by omega, by omega⟩ | decide | exact ⟨by simp (disch := omega) only [dt_up_s, dt_up_k, dt_up_n]; omega, by simp (disch := omega) only [dt_up_s, dt_up_k, dt_up_n]; omega⟩) (fun c1 => ?_) (fun c1 => ?_)
  · skip
    try simp only [dt_b0, dt_b1, Decidable.not_not, Classical.not_not] at c1
    refine dt_ldc dX12_row_30 pk_X12_73 ?_
    refine dt_iret dX12_row_32 rfl (by decide) (by decide) ?_
    have e : oRow A r l n = (-1000001, A) := by
      unfold oRow
      rw [if_pos (by omega)]
    rw [e]
    exact ⟨rfl, rfl, hA, fa⟩
  · skip
    try simp only [dt_b0, dt_b1, Decidable.not_not, Classical.not_not] at c1
    refine dt_iloadn dX12_row_12 rfl rfl ?_
    refine dt_ui2l dX12_row_13 (by first | assumption | exact hwf _ _ | exact dt_b32 _ | omega | exact ⟨by omega, by omega⟩ | decide | exact ⟨by simp (disch := omega) only [dt_up_s, dt_up_k, dt_up_n]; omega, by simp (disch := omega) only [dt_up_s, dt_up_k, dt_up_n]; omega⟩) ?_
    refine dt_lconst (x := 0) dX12_row_14 (by decide) ?_
    refine dt_ldc2 dX12_row_15 pk_X12_71 ?_
    refine dt_xS dX12_row_18 pc_X12_63 (s_X12_in (by first | exact ⟨by omega, by omega⟩ | decide) (by first | exact ⟨by omega, by omega⟩ | decide) (by first | exact ⟨by omega, by omega⟩ | decide)) rfl rfl ⟨by decide, by decide⟩ (Nat.le_of_ble_eq_true rfl) ⟨by decide, by decide⟩ (dt_k3 ?_)
    refine dt_if_eq (tgt := 30) dX12_row_21 (by decide) (by first | assumption | exact hwf _ _ | exact dt_b32 _ | omega | exact ⟨by omega, by omega⟩ | decide | exact ⟨by simp (disch := omega) only [dt_up_s, dt_up_k, dt_up_n]; omega, by simp (disch := omega) only [dt_up_s, dt_up_k, dt_up_n]; omega⟩) (fun c2 => ?_) (fun c2 => ?_)
    · skip
      try simp only [dt_b0, dt_b1, Decidable.not_not, Classical.not_not] at c2
      refine dt_ldc dX12_row_30 pk_X12_73 ?_
      refine dt_iret dX12_row_32 rfl (by decide) (by decide) ?_
      have e : oRow A r l n = (-1000001, A) := by
        unfold oRow
        rw [if_pos (by omega)]
      rw [e]
      exact ⟨rfl, rfl, hA, fa⟩
    · skip
      try simp only [dt_b0, dt_b1, Decidable.not_not, Classical.not_not] at c2
      refine dt_iloadn dX12_row_24 rfl rfl ?_
      refine dt_bipush dX12_row_25 (by decide) ?_
      refine dt_cm_le (tgt := 33) dX12_row_27 (by decide) (by first | assumption | exact hwf _ _ | exact dt_b32 _ | omega | exact ⟨by omega, by omega⟩ | decide | exact ⟨by simp (disch := omega) only [dt_up_s, dt_up_k, dt_up_n]; omega, by simp (disch := omega) only [dt_up_s, dt_up_k, dt_up_n]; omega⟩) (by first | assumption | exact hwf _ _ | exact dt_b32 _ | omega | exact ⟨by omega, by omega⟩ | decide | exact ⟨by simp (disch := omega) only [dt_up_s, dt_up_k, dt_up_n]; omega, by simp (disch := omega) only [dt_up_s, dt_up_k, dt_up_n]; omega⟩) (fun c3 => ?_) (fun c3 => ?_)
      · skip
        refine dt_aloadn dX12_row_33 rfl rfl ?_
        refine dt_iconst dX12_row_34 ?_
        refine dt_wfV fun hwf => ?_
        refine dt_putI dX12_row_35 pw_X12_57_12 rfl rfl (by first | assumption | exact hwf _ _ | exact dt_b32 _ | omega | exact ⟨by omega, by omega⟩ | decide | exact ⟨by simp (disch := omega) only [dt_up_s, dt_up_k, dt_up_n]; omega, by simp (disch := omega) only [dt_up_s, dt_up_k, dt_up_n]; omega⟩) ?_
        obtain ⟨σb, eb⟩ : ∃ z, z = dt_up σa 40 1 0 := ⟨_, rfl⟩
        rw [← eb]
        have hB := hA.st 0
        rw [← eb] at hB
        have fb : ∀ b, (b < 40 ∨ 55 ≤ b) → σb b = σ b := fun b hb => by rw [eb, dt_up_o (by omega)]; exact fa b hb
        clear eb
        refine dt_wfV fun hwf => ?_
        refine dt_iloadn dX12_row_38 rfl rfl ?_
        refine dt_if_ge (tgt := 48) dX12_row_39 (by decide) (by first | assumption | exact hwf _ _ | exact dt_b32 _ | omega | exact ⟨by omega, by omega⟩ | decide | exact ⟨by simp (disch := omega) only [dt_up_s, dt_up_k, dt_up_n]; omega, by simp (disch := omega) only [dt_up_s, dt_up_k, dt_up_n]; omega⟩) (fun c4 => ?_) (fun c4 => ?_)
        · skip
          refine dt_aloadn dX12_row_48 rfl rfl ?_
          refine dt_getR dX12_row_49 pg_X12_7_12 rfl rfl ?_
          refine dt_iloadn dX12_row_52 rfl rfl ?_
          refine dt_iloadn dX12_row_53 rfl rfl ?_
          refine dt_wfV fun hwf => ?_
          refine dt_iast dX12_row_54 rfl (by first | omega | (simp (disch := omega) only [dt_up_s, dt_up_k, dt_up_n]; omega)) (by first | omega | (simp (disch := omega) only [dt_up_s, dt_up_k, dt_up_n]; omega)) (by decide) (by first | assumption | exact hwf _ _ | exact dt_b32 _ | omega | exact ⟨by omega, by omega⟩ | decide | exact ⟨by simp (disch := omega) only [dt_up_s, dt_up_k, dt_up_n]; omega, by simp (disch := omega) only [dt_up_s, dt_up_k, dt_up_n]; omega⟩) ?_
          refine dt_aloadn dX12_row_55 rfl rfl ?_
          refine dt_getR dX12_row_56 pg_X12_13_12 rfl rfl ?_
          refine dt_iloadn dX12_row_59 rfl rfl ?_
          refine dt_iloadn dX12_row_60 rfl rfl ?_
          refine dt_wfV fun hwf => ?_
          refine dt_iast dX12_row_61 rfl (by first | omega | (simp (disch := omega) only [dt_up_s, dt_up_k, dt_up_n]; omega)) (by first | omega | (simp (disch := omega) only [dt_up_s, dt_up_k, dt_up_n]; omega)) (by decide) (by first | assumption | exact hwf _ _ | exact dt_b32 _ | omega | exact ⟨by omega, by omega⟩ | decide | exact ⟨by simp (disch := omega) only [dt_up_s, dt_up_k, dt_up_n]; omega, by simp (disch := omega) only [dt_up_s, dt_up_k, dt_up_n]; omega⟩) ?_
          refine dt_iconst dX12_row_62 ?_
          refine dt_istore dX12_row_63 (by decide) rfl ?_
          dsimp only [List.set]
          have lp65 : ∀ (fu : Nat) (i : Nat), 40 - (i : Int) < (fu : Int) → (i ≤ 40) →  dt_V mX12_row (dt_rm 2 0 0) (dt_MC (fun v sh2 σ2 => v = some (dt_I (oRow A r l n).1) ∧ sh2 = dt_SH ++ ex ∧ rEnd σ σ2 (oRow A r l n).2) 0 0) 0 0 65 [some (dt_R 40), some (dt_I r), some (dt_I l), some (dt_I n), some (dt_I (i : Int))] [] (dt_SH ++ ex) (dt_fil (dt_up (dt_up σb 41 r.toNat l) 42 r.toNat n) 43 (r.toNat * 40) i (fun _ => 0)) := by
            intro fu
            induction fu with
            | zero =>
              intro i hm hi
              exfalso
              omega
            | succ fu ih =>
              intro i hm hi
              refine dt_wfV fun hwf => ?_
              refine dt_iload dX12_row_65 rfl ?_
              refine dt_bipush dX12_row_67 (by decide) ?_
              refine dt_cm_ge (tgt := 91) dX12_row_69 (by decide) (by first | assumption | exact hwf _ _ | exact dt_b32 _ | omega | exact ⟨by omega, by omega⟩ | decide | exact ⟨by simp (disch := omega) only [dt_up_s, dt_up_k, dt_up_n]; omega, by simp (disch := omega) only [dt_up_s, dt_up_k, dt_up_n]; omega⟩) (by first | assumption | exact hwf _ _ | exact dt_b32 _ | omega | exact ⟨by omega, by omega⟩ | decide | exact ⟨by simp (disch := omega) only [dt_up_s, dt_up_k, dt_up_n]; omega, by simp (disch := omega) only [dt_up_s, dt_up_k, dt_up_n]; omega⟩) (fun c5 => ?_) (fun c5 => ?_)
              · skip
                refine dt_iloadn dX12_row_91 rfl rfl ?_
                refine dt_iret dX12_row_92 rfl (by decide) (by decide) ?_
                have e : oRow A r l n = (n, sRs A r.toNat (some (l.toNat, List.replicate n.toNat 0)) 0) := by
                  unfold oRow
                  rw [if_neg (by omega), if_neg (by omega)]
                rw [e]
                refine ⟨rfl, rfl, hB.rows (hB.1.put (r := r.toNat) ⟨?_, ?_, ?_, ?_, ?_⟩ ?_ ?_ ?_) ?_, ?_⟩
                · rw [dt_fil_o (by decide), dt_up_n (by decide), dt_up_s]; show l = ((l.toNat : Nat) : Int); omega
                · show l.toNat ≤ 2; omega
                · rw [dt_fil_o (by decide), dt_up_s]; show n = (((List.replicate n.toNat (0 : Int)).length : Nat) : Int); rw [List.length_replicate]; omega
                · show (List.replicate n.toNat (0 : Int)).length ≤ 40; rw [List.length_replicate]; omega
                · intro k x hx; have g := dt_gl hx; rw [dt_rep hx]; rw [List.length_replicate] at g; exact dt_fil_in (by omega) (by omega)
                · intro q hq; rw [dt_fil_o (by decide), dt_up_n (by decide), dt_up_k hq]
                · intro q hq; rw [dt_fil_o (by decide), dt_up_k hq, dt_up_n (by decide)]
                · intro k hk; rw [dt_fil_out (by omega), dt_up_n (by decide), dt_up_n (by decide)]
                · intro b h2 h3 h4; rw [dt_fil_o h4, dt_up_o h3, dt_up_o h2]
                · intro b hb; rw [dt_fil_o (by omega), dt_up_o (by omega), dt_up_o (by omega)]; exact fb b hb
              · skip
                refine dt_aloadn dX12_row_72 rfl rfl ?_
                refine dt_getR dX12_row_73 pg_X12_16_12 rfl rfl ?_
                refine dt_bipush dX12_row_76 (by decide) ?_
                refine dt_iloadn dX12_row_78 rfl rfl ?_
                refine dt_imul dX12_row_79 ?_
                refine dt_iload dX12_row_80 rfl ?_
                refine dt_iadd dX12_row_82 ?_
                refine dt_iconst dX12_row_83 ?_
                refine dt_wfV fun hwf => ?_
                refine dt_iast dX12_row_84 rfl (by first | omega | (simp (disch := omega) only [dt_up_s, dt_up_k, dt_up_n]; omega)) (by first | omega | (simp (disch := omega) only [dt_up_s, dt_up_k, dt_up_n]; omega)) (by decide) (by first | assumption | exact hwf _ _ | exact dt_b32 _ | omega | exact ⟨by omega, by omega⟩ | decide | exact ⟨by simp (disch := omega) only [dt_up_s, dt_up_k, dt_up_n]; omega, by simp (disch := omega) only [dt_up_s, dt_up_k, dt_up_n]; omega⟩) ?_
                rw [show (40 * r + (i : Int)).toNat = r.toNat * 40 + i by omega, show (0 : Int) = (fun _ : Nat => (0 : Int)) (r.toNat * 40 + i) from rfl, dt_fil_s]
                refine dt_iinc dX12_row_85 rfl (by decide) rfl ?_
                dsimp only [List.set]
                refine dt_goto (tgt := 65) dX12_row_88 (by decide) ?_
                exact dt_lb (ih (i + 1) (by omega) (by omega)) ⟨rfl, rfl, rfl, rfl, rfl, trivial⟩
          have h := lp65 50 0 (by omega) (by omega)
          rw [dt_fil_0] at h
          exact dt_lb (h) ⟨rfl, rfl, rfl, rfl, rfl, trivial⟩
        · skip
          refine dt_aloadn dX12_row_42 rfl rfl ?_
          refine dt_iconst dX12_row_43 ?_
          refine dt_xV dX12_row_44 pc_X12_74 rfl (s_X12_finding (by first | assumption | exact hwf _ _ | exact dt_b32 _ | omega | exact ⟨by omega, by omega⟩ | decide | exact ⟨by simp (disch := omega) only [dt_up_s, dt_up_k, dt_up_n]; omega, by simp (disch := omega) only [dt_up_s, dt_up_k, dt_up_n]; omega⟩)) rfl rfl ⟨by decide, by decide⟩ rfl rfl (Nat.le_of_ble_eq_true rfl) ⟨by decide, by decide⟩ (dt_k3 ?_)
          refine dt_iret dX12_row_47 rfl (by decide) (by decide) ?_
          have e : oRow A r l n = (-1000014, sSt A 4) := by
            unfold oRow
            rw [if_neg (by omega), if_pos (by omega)]
          rw [e]
          exact ⟨rfl, rfl, hB.st 4, fun b hb => by rw [dt_up_o (by omega)]; exact fb b hb⟩
      · skip
        refine dt_ldc dX12_row_30 pk_X12_73 ?_
        refine dt_iret dX12_row_32 rfl (by decide) (by decide) ?_
        have e : oRow A r l n = (-1000001, A) := by
          unfold oRow
          rw [if_pos (by omega)]
        rw [e]
        exact ⟨rfl, rfl, hA, fa⟩
theorem s_X12_set {ex : List dt_Shp} {σ : dt_Mem} {A : dS} {r i v0 : Int} (hI : rInv σ A) (h_r : dt_in32 r) (h_i : dt_in32 i) (h_v0 : dt_in32 v0) : dt_Sp mX12_set 2 0 0 [dt_R 40, dt_I r, dt_I i, dt_I v0] (dt_SH ++ ex) σ (fun v sh2 σ2 => v = some (dt_I (oSet A r i v0).1) ∧ sh2 = dt_SH ++ ex ∧ rEnd σ σ2 (oSet A r i v0).2) := by
  refine dt_Sp_of (by decide) (Nat.le_of_ble_eq_true rfl) ?_
  refine dt_wfV fun hwf => ?_
  show dt_V _ _ _ 0 0 0 [some (dt_R 40), some (dt_I r), some (dt_I i), some (dt_I v0)] [] _ _
  refine dt_aloadn dX12_set_0 rfl rfl ?_
  refine dt_iconst dX12_set_1 ?_
  refine dt_wfV fun hwf => ?_
  refine dt_putI dX12_set_2 pw_X12_53_12 rfl rfl (by first | assumption | exact hwf _ _ | exact dt_b32 _ | omega | exact ⟨by omega, by omega⟩ | decide | exact ⟨by simp (disch := omega) only [dt_up_s, dt_up_k, dt_up_n]; omega, by simp (disch := omega) only [dt_up_s, dt_up_k, dt_up_n]; omega⟩) ?_
  obtain ⟨σa, ea⟩ : ∃ z, z = dt_up σ 40 0 0 := ⟨_, rfl⟩
  rw [← ea]
  have hA := hI.up40 0 0 (by decide)
  rw [← ea] at hA
  have fa : ∀ b, (b < 40 ∨ 55 ≤ b) → σa b = σ b := fun b hb => by rw [ea]; exact dt_up_o (by omega)
  clear ea
  refine dt_wfV fun hwf => ?_
  refine dt_iloadn dX12_set_5 rfl rfl ?_
  refine dt_xS dX12_set_6 pc_X12_67 (s_X12_isRow (by first | assumption | exact hwf _ _ | exact dt_b32 _ | omega | exact ⟨by omega, by omega⟩ | decide | exact ⟨by simp (disch := omega) only [dt_up_s, dt_up_k, dt_up_n]; omega, by simp (disch := omega) only [dt_up_s, dt_up_k, dt_up_n]; omega⟩)) rfl rfl ⟨by decide, by decide⟩ (Nat.le_of_ble_eq_true rfl) ⟨by decide, by decide⟩ (dt_k3 ?_)
  refine dt_if_ne (tgt := 15) dX12_set_9 (by decide) (by first | assumption | exact hwf _ _ | exact dt_b32 _ | omega | exact ⟨by omega, by omega⟩ | decide | exact ⟨by simp (disch := omega) only [dt_up_s, dt_up_k, dt_up_n]; omega, by simp (disch := omega) only [dt_up_s, dt_up_k, dt_up_n]; omega⟩) (fun c1 => ?_) (fun c1 => ?_)
  · skip
    try simp only [dt_b0, dt_b1, Decidable.not_not, Classical.not_not] at c1
    refine dt_aloadn dX12_set_15 rfl rfl ?_
    refine dt_iconst dX12_set_16 ?_
    refine dt_wfV fun hwf => ?_
    refine dt_putI dX12_set_17 pw_X12_57_12 rfl rfl (by first | assumption | exact hwf _ _ | exact dt_b32 _ | omega | exact ⟨by omega, by omega⟩ | decide | exact ⟨by simp (disch := omega) only [dt_up_s, dt_up_k, dt_up_n]; omega, by simp (disch := omega) only [dt_up_s, dt_up_k, dt_up_n]; omega⟩) ?_
    obtain ⟨σb, eb⟩ : ∃ z, z = dt_up σa 40 1 0 := ⟨_, rfl⟩
    rw [← eb]
    have hB := hA.st 0
    rw [← eb] at hB
    have fb : ∀ b, (b < 40 ∨ 55 ≤ b) → σb b = σ b := fun b hb => by rw [eb, dt_up_o (by omega)]; exact fa b hb
    clear eb
    refine dt_wfV fun hwf => ?_
    refine dt_aloadn dX12_set_20 rfl rfl ?_
    refine dt_getR dX12_set_21 pg_X12_7_12 rfl rfl ?_
    refine dt_iloadn dX12_set_24 rfl rfl ?_
    refine dt_iald dX12_set_25 rfl (by first | omega | (simp (disch := omega) only [dt_up_s, dt_up_k, dt_up_n]; omega)) (by first | omega | (simp (disch := omega) only [dt_up_s, dt_up_k, dt_up_n]; omega)) (by decide) ?_
    refine dt_if_ge (tgt := 35) dX12_set_26 (by decide) (by first | assumption | exact hwf _ _ | exact dt_b32 _ | omega | exact ⟨by omega, by omega⟩ | decide | exact ⟨by simp (disch := omega) only [dt_up_s, dt_up_k, dt_up_n]; omega, by simp (disch := omega) only [dt_up_s, dt_up_k, dt_up_n]; omega⟩) (fun c2 => ?_) (fun c2 => ?_)
    · skip
      have hrr := hB.row (r := r.toNat) (by omega)
      obtain ⟨q, hq, q1, q2, q3, q4, q5⟩ := hrr.pos (by omega)
      have hq : sR A r.toNat = some q := hq
      refine dt_iloadn dX12_set_35 rfl rfl ?_
      refine dt_ui2l dX12_set_36 (by first | assumption | exact hwf _ _ | exact dt_b32 _ | omega | exact ⟨by omega, by omega⟩ | decide | exact ⟨by simp (disch := omega) only [dt_up_s, dt_up_k, dt_up_n]; omega, by simp (disch := omega) only [dt_up_s, dt_up_k, dt_up_n]; omega⟩) ?_
      refine dt_lconst (x := 0) dX12_set_37 (by decide) ?_
      refine dt_aloadn dX12_set_38 rfl rfl ?_
      refine dt_getR dX12_set_39 pg_X12_13_12 rfl rfl ?_
      refine dt_iloadn dX12_set_42 rfl rfl ?_
      refine dt_iald dX12_set_43 rfl (by first | omega | (simp (disch := omega) only [dt_up_s, dt_up_k, dt_up_n]; omega)) (by first | omega | (simp (disch := omega) only [dt_up_s, dt_up_k, dt_up_n]; omega)) (by decide) ?_
      refine dt_iconst dX12_set_44 ?_
      refine dt_isub dX12_set_45 ?_
      refine dt_ui2l dX12_set_46 (by first | assumption | exact hwf _ _ | exact dt_b32 _ | omega | exact ⟨by omega, by omega⟩ | decide | exact ⟨by simp (disch := omega) only [dt_up_s, dt_up_k, dt_up_n]; omega, by simp (disch := omega) only [dt_up_s, dt_up_k, dt_up_n]; omega⟩) ?_
      refine dt_xS dX12_set_47 pc_X12_63 (s_X12_in (by first | exact ⟨by omega, by omega⟩ | decide) (by first | exact ⟨by omega, by omega⟩ | decide) (by first | exact ⟨by omega, by omega⟩ | decide)) rfl rfl ⟨by decide, by decide⟩ (Nat.le_of_ble_eq_true rfl) ⟨by decide, by decide⟩ (dt_k3 ?_)
      refine dt_if_ne (tgt := 59) dX12_set_50 (by decide) (by first | assumption | exact hwf _ _ | exact dt_b32 _ | omega | exact ⟨by omega, by omega⟩ | decide | exact ⟨by simp (disch := omega) only [dt_up_s, dt_up_k, dt_up_n]; omega, by simp (disch := omega) only [dt_up_s, dt_up_k, dt_up_n]; omega⟩) (fun c3 => ?_) (fun c3 => ?_)
      · skip
        try simp only [dt_b0, dt_b1, Decidable.not_not, Classical.not_not] at c3
        refine dt_aloadn dX12_set_59 rfl rfl ?_
        refine dt_getR dX12_set_60 pg_X12_16_12 rfl rfl ?_
        refine dt_bipush dX12_set_63 (by decide) ?_
        refine dt_iloadn dX12_set_65 rfl rfl ?_
        refine dt_imul dX12_set_66 ?_
        refine dt_iloadn dX12_set_67 rfl rfl ?_
        refine dt_iadd dX12_set_68 ?_
        refine dt_aloadn dX12_set_69 rfl rfl ?_
        refine dt_getR dX12_set_70 pg_X12_7_12 rfl rfl ?_
        refine dt_iloadn dX12_set_73 rfl rfl ?_
        refine dt_iald dX12_set_74 rfl (by first | omega | (simp (disch := omega) only [dt_up_s, dt_up_k, dt_up_n]; omega)) (by first | omega | (simp (disch := omega) only [dt_up_s, dt_up_k, dt_up_n]; omega)) (by decide) ?_
        refine dt_if_ne (tgt := 83) dX12_set_75 (by decide) (by first | assumption | exact hwf _ _ | exact dt_b32 _ | omega | exact ⟨by omega, by omega⟩ | decide | exact ⟨by simp (disch := omega) only [dt_up_s, dt_up_k, dt_up_n]; omega, by simp (disch := omega) only [dt_up_s, dt_up_k, dt_up_n]; omega⟩) (fun c4 => ?_) (fun c4 => ?_)
        · skip
          refine dt_aloadn dX12_set_83 rfl rfl ?_
          refine dt_getR dX12_set_84 pg_X12_7_12 rfl rfl ?_
          refine dt_iloadn dX12_set_87 rfl rfl ?_
          refine dt_iald dX12_set_88 rfl (by first | omega | (simp (disch := omega) only [dt_up_s, dt_up_k, dt_up_n]; omega)) (by first | omega | (simp (disch := omega) only [dt_up_s, dt_up_k, dt_up_n]; omega)) (by decide) ?_
          refine dt_iconst dX12_set_89 ?_
          refine dt_cm_ne (tgt := 98) dX12_set_90 (by decide) (by first | assumption | exact hwf _ _ | exact dt_b32 _ | omega | exact ⟨by omega, by omega⟩ | decide | exact ⟨by simp (disch := omega) only [dt_up_s, dt_up_k, dt_up_n]; omega, by simp (disch := omega) only [dt_up_s, dt_up_k, dt_up_n]; omega⟩) (by first | assumption | exact hwf _ _ | exact dt_b32 _ | omega | exact ⟨by omega, by omega⟩ | decide | exact ⟨by simp (disch := omega) only [dt_up_s, dt_up_k, dt_up_n]; omega, by simp (disch := omega) only [dt_up_s, dt_up_k, dt_up_n]; omega⟩) (fun c5 => ?_) (fun c5 => ?_)
          · skip
            refine dt_iloadn dX12_set_98 rfl rfl ?_
            refine dt_wfV fun hwf => ?_
            refine dt_iast dX12_set_99 rfl (by omega) (by omega) (by decide) (by first | assumption | exact ⟨Int32.le_toInt _, Int32.toInt_lt _⟩) ?_
            refine dt_aloadn dX12_set_100 rfl rfl ?_
            refine dt_getR dX12_set_101 pg_X12_16_12 rfl rfl ?_
            refine dt_bipush dX12_set_104 (by decide) ?_
            refine dt_iloadn dX12_set_106 rfl rfl ?_
            refine dt_imul dX12_set_107 ?_
            refine dt_iloadn dX12_set_108 rfl rfl ?_
            refine dt_iadd dX12_set_109 ?_
            refine dt_iald dX12_set_110 rfl (by first | omega | (simp (disch := omega) only [dt_up_s, dt_up_k, dt_up_n]; omega)) (by first | omega | (simp (disch := omega) only [dt_up_s, dt_up_k, dt_up_n]; omega)) (by decide) ?_
            refine dt_iret dX12_set_111 rfl (by decide) (by decide) ?_
            have ex1 : (40 * r + i).toNat = r.toNat * 40 + i.toNat := by omega
            have e : oSet A r i v0 = (cLow q.1 v0, sRs A r.toNat (some (q.1, q.2.set i.toNat (cLow q.1 v0))) 0) := by
              unfold oSet
              rw [if_neg (by omega)]
              simp only [hq]
              rw [if_pos (by omega)]
            rw [e]
            refine ⟨by rw [dt_up_s]; unfold cLow; repeat (first | rw [if_pos (by omega)] | rw [if_neg (by omega)]), rfl, hB.rows (hB.1.put (r := r.toNat) ⟨?_, ?_, ?_, ?_, ?_⟩ ?_ ?_ ?_) ?_, ?_⟩
            · rw [dt_up_n (by decide)]; exact q1
            · exact q2
            · rw [dt_up_n (by decide)]; show _ = (((q.2.set i.toNat (cLow q.1 v0)).length : Nat) : Int); rw [List.length_set]; exact q3
            · show (q.2.set i.toNat (cLow q.1 v0)).length ≤ 40; rw [List.length_set]; exact q4
            · intro k x hx
              rcases dt_st hx with ⟨g1, g2⟩ | ⟨rfl, rfl⟩
              · rw [dt_up_k (by omega)]; exact q5 k x g2
              · rw [ex1, dt_up_s]; unfold cLow; repeat (first | rw [if_pos (by omega)] | rw [if_neg (by omega)])
            · intro q _; rw [dt_up_n (by decide)]
            · intro q _; rw [dt_up_n (by decide)]
            · intro k hk; rw [dt_up_k (by omega)]
            · intro b h2 h3 h4; rw [dt_up_o h4]
            · intro b hb; rw [dt_up_o (by omega)]; exact fb b hb
          · skip
            refine dt_iloadn dX12_set_93 rfl rfl ?_
            refine dt_ui2s dX12_set_94 ?_
            refine dt_goto (tgt := 99) dX12_set_95 (by decide) ?_
            refine dt_wfV fun hwf => ?_
            refine dt_iast dX12_set_99 rfl (by omega) (by omega) (by decide) (by first | assumption | exact ⟨Int32.le_toInt _, Int32.toInt_lt _⟩) ?_
            refine dt_aloadn dX12_set_100 rfl rfl ?_
            refine dt_getR dX12_set_101 pg_X12_16_12 rfl rfl ?_
            refine dt_bipush dX12_set_104 (by decide) ?_
            refine dt_iloadn dX12_set_106 rfl rfl ?_
            refine dt_imul dX12_set_107 ?_
            refine dt_iloadn dX12_set_108 rfl rfl ?_
            refine dt_iadd dX12_set_109 ?_
            refine dt_iald dX12_set_110 rfl (by first | omega | (simp (disch := omega) only [dt_up_s, dt_up_k, dt_up_n]; omega)) (by first | omega | (simp (disch := omega) only [dt_up_s, dt_up_k, dt_up_n]; omega)) (by decide) ?_
            refine dt_iret dX12_set_111 rfl (by decide) (by decide) ?_
            have ex1 : (40 * r + i).toNat = r.toNat * 40 + i.toNat := by omega
            have e : oSet A r i v0 = (cLow q.1 v0, sRs A r.toNat (some (q.1, q.2.set i.toNat (cLow q.1 v0))) 0) := by
              unfold oSet
              rw [if_neg (by omega)]
              simp only [hq]
              rw [if_pos (by omega)]
            rw [e]
            refine ⟨by rw [dt_up_s]; unfold cLow; repeat (first | rw [if_pos (by omega)] | rw [if_neg (by omega)]), rfl, hB.rows (hB.1.put (r := r.toNat) ⟨?_, ?_, ?_, ?_, ?_⟩ ?_ ?_ ?_) ?_, ?_⟩
            · rw [dt_up_n (by decide)]; exact q1
            · exact q2
            · rw [dt_up_n (by decide)]; show _ = (((q.2.set i.toNat (cLow q.1 v0)).length : Nat) : Int); rw [List.length_set]; exact q3
            · show (q.2.set i.toNat (cLow q.1 v0)).length ≤ 40; rw [List.length_set]; exact q4
            · intro k x hx
              rcases dt_st hx with ⟨g1, g2⟩ | ⟨rfl, rfl⟩
              · rw [dt_up_k (by omega)]; exact q5 k x g2
              · rw [ex1, dt_up_s]; unfold cLow; repeat (first | rw [if_pos (by omega)] | rw [if_neg (by omega)])
            · intro q _; rw [dt_up_n (by decide)]
            · intro q _; rw [dt_up_n (by decide)]
            · intro k hk; rw [dt_up_k (by omega)]
            · intro b h2 h3 h4; rw [dt_up_o h4]
            · intro b hb; rw [dt_up_o (by omega)]; exact fb b hb
        · skip
          refine dt_iloadn dX12_set_78 rfl rfl ?_
          refine dt_ui2b dX12_set_79 ?_
          refine dt_goto (tgt := 99) dX12_set_80 (by decide) ?_
          refine dt_wfV fun hwf => ?_
          refine dt_iast dX12_set_99 rfl (by omega) (by omega) (by decide) (by first | assumption | exact ⟨Int32.le_toInt _, Int32.toInt_lt _⟩) ?_
          refine dt_aloadn dX12_set_100 rfl rfl ?_
          refine dt_getR dX12_set_101 pg_X12_16_12 rfl rfl ?_
          refine dt_bipush dX12_set_104 (by decide) ?_
          refine dt_iloadn dX12_set_106 rfl rfl ?_
          refine dt_imul dX12_set_107 ?_
          refine dt_iloadn dX12_set_108 rfl rfl ?_
          refine dt_iadd dX12_set_109 ?_
          refine dt_iald dX12_set_110 rfl (by first | omega | (simp (disch := omega) only [dt_up_s, dt_up_k, dt_up_n]; omega)) (by first | omega | (simp (disch := omega) only [dt_up_s, dt_up_k, dt_up_n]; omega)) (by decide) ?_
          refine dt_iret dX12_set_111 rfl (by decide) (by decide) ?_
          have ex1 : (40 * r + i).toNat = r.toNat * 40 + i.toNat := by omega
          have e : oSet A r i v0 = (cLow q.1 v0, sRs A r.toNat (some (q.1, q.2.set i.toNat (cLow q.1 v0))) 0) := by
            unfold oSet
            rw [if_neg (by omega)]
            simp only [hq]
            rw [if_pos (by omega)]
          rw [e]
          refine ⟨by rw [dt_up_s]; unfold cLow; repeat (first | rw [if_pos (by omega)] | rw [if_neg (by omega)]), rfl, hB.rows (hB.1.put (r := r.toNat) ⟨?_, ?_, ?_, ?_, ?_⟩ ?_ ?_ ?_) ?_, ?_⟩
          · rw [dt_up_n (by decide)]; exact q1
          · exact q2
          · rw [dt_up_n (by decide)]; show _ = (((q.2.set i.toNat (cLow q.1 v0)).length : Nat) : Int); rw [List.length_set]; exact q3
          · show (q.2.set i.toNat (cLow q.1 v0)).length ≤ 40; rw [List.length_set]; exact q4
          · intro k x hx
            rcases dt_st hx with ⟨g1, g2⟩ | ⟨rfl, rfl⟩
            · rw [dt_up_k (by omega)]; exact q5 k x g2
            · rw [ex1, dt_up_s]; unfold cLow; repeat (first | rw [if_pos (by omega)] | rw [if_neg (by omega)])
          · intro q _; rw [dt_up_n (by decide)]
          · intro q _; rw [dt_up_n (by decide)]
          · intro k hk; rw [dt_up_k (by omega)]
          · intro b h2 h3 h4; rw [dt_up_o h4]
          · intro b hb; rw [dt_up_o (by omega)]; exact fb b hb
      · skip
        try simp only [dt_b0, dt_b1, Decidable.not_not, Classical.not_not] at c3
        refine dt_aloadn dX12_set_53 rfl rfl ?_
        refine dt_iconst dX12_set_54 ?_
        refine dt_xV dX12_set_55 pc_X12_74 rfl (s_X12_finding (by first | assumption | exact hwf _ _ | exact dt_b32 _ | omega | exact ⟨by omega, by omega⟩ | decide | exact ⟨by simp (disch := omega) only [dt_up_s, dt_up_k, dt_up_n]; omega, by simp (disch := omega) only [dt_up_s, dt_up_k, dt_up_n]; omega⟩)) rfl rfl ⟨by decide, by decide⟩ rfl rfl (Nat.le_of_ble_eq_true rfl) ⟨by decide, by decide⟩ (dt_k3 ?_)
        refine dt_iret dX12_set_58 rfl (by decide) (by decide) ?_
        have e : oSet A r i v0 = (-1000012, sSt A 2) := by
          unfold oSet
          rw [if_neg (by omega)]
          simp only [hq]
          rw [if_neg (by omega)]
        rw [e]
        exact ⟨rfl, rfl, hB.st 2, fun b hb => by rw [dt_up_o (by omega)]; exact fb b hb⟩
    · skip
      have hrr := hB.row (r := r.toNat) (by omega)
      have hq : sR A r.toNat = none := hrr.neg (by omega)
      refine dt_aloadn dX12_set_29 rfl rfl ?_
      refine dt_iconst dX12_set_30 ?_
      refine dt_xV dX12_set_31 pc_X12_74 rfl (s_X12_finding (by first | assumption | exact hwf _ _ | exact dt_b32 _ | omega | exact ⟨by omega, by omega⟩ | decide | exact ⟨by simp (disch := omega) only [dt_up_s, dt_up_k, dt_up_n]; omega, by simp (disch := omega) only [dt_up_s, dt_up_k, dt_up_n]; omega⟩)) rfl rfl ⟨by decide, by decide⟩ rfl rfl (Nat.le_of_ble_eq_true rfl) ⟨by decide, by decide⟩ (dt_k3 ?_)
      refine dt_iret dX12_set_34 rfl (by decide) (by decide) ?_
      have e : oSet A r i v0 = (-1000011, sSt A 1) := by
        unfold oSet
        rw [if_neg (by omega)]
        simp only [hq]
      rw [e]
      exact ⟨rfl, rfl, hB.st 1, fun b hb => by rw [dt_up_o (by omega)]; exact fb b hb⟩
  · skip
    try simp only [dt_b0, dt_b1, Decidable.not_not, Classical.not_not] at c1
    refine dt_ldc dX12_set_12 pk_X12_73 ?_
    refine dt_iret dX12_set_14 rfl (by decide) (by decide) ?_
    have e : oSet A r i v0 = (-1000001, A) := by
      unfold oSet
      rw [if_pos (by omega)]
    rw [e]
    exact ⟨rfl, rfl, hA, fa⟩
theorem s_X12_drop {ex : List dt_Shp} {σ : dt_Mem} {A : dS} {r : Int} (hI : rInv σ A) (h_r : dt_in32 r) : dt_Sp mX12_drop 2 0 0 [dt_R 40, dt_I r] (dt_SH ++ ex) σ (fun v sh2 σ2 => v = some (dt_I (oDrop A r).1) ∧ sh2 = dt_SH ++ ex ∧ rEnd σ σ2 (oDrop A r).2) := by
  refine dt_Sp_of (by decide) (Nat.le_of_ble_eq_true rfl) ?_
  refine dt_wfV fun hwf => ?_
  show dt_V _ _ _ 0 0 0 [some (dt_R 40), some (dt_I r)] [] _ _
  refine dt_aloadn dX12_drop_0 rfl rfl ?_
  refine dt_iconst dX12_drop_1 ?_
  refine dt_wfV fun hwf => ?_
  refine dt_putI dX12_drop_2 pw_X12_53_12 rfl rfl (by first | assumption | exact hwf _ _ | exact dt_b32 _ | omega | exact ⟨by omega, by omega⟩ | decide | exact ⟨by simp (disch := omega) only [dt_up_s, dt_up_k, dt_up_n]; omega, by simp (disch := omega) only [dt_up_s, dt_up_k, dt_up_n]; omega⟩) ?_
  obtain ⟨σa, ea⟩ : ∃ z, z = dt_up σ 40 0 0 := ⟨_, rfl⟩
  rw [← ea]
  have hA := hI.up40 0 0 (by decide)
  rw [← ea] at hA
  have fa : ∀ b, (b < 40 ∨ 55 ≤ b) → σa b = σ b := fun b hb => by rw [ea]; exact dt_up_o (by omega)
  clear ea
  refine dt_wfV fun hwf => ?_
  refine dt_iloadn dX12_drop_5 rfl rfl ?_
  refine dt_xS dX12_drop_6 pc_X12_67 (s_X12_isRow (by first | assumption | exact hwf _ _ | exact dt_b32 _ | omega | exact ⟨by omega, by omega⟩ | decide | exact ⟨by simp (disch := omega) only [dt_up_s, dt_up_k, dt_up_n]; omega, by simp (disch := omega) only [dt_up_s, dt_up_k, dt_up_n]; omega⟩)) rfl rfl ⟨by decide, by decide⟩ (Nat.le_of_ble_eq_true rfl) ⟨by decide, by decide⟩ (dt_k3 ?_)
  refine dt_if_ne (tgt := 15) dX12_drop_9 (by decide) (by first | assumption | exact hwf _ _ | exact dt_b32 _ | omega | exact ⟨by omega, by omega⟩ | decide | exact ⟨by simp (disch := omega) only [dt_up_s, dt_up_k, dt_up_n]; omega, by simp (disch := omega) only [dt_up_s, dt_up_k, dt_up_n]; omega⟩) (fun c1 => ?_) (fun c1 => ?_)
  · skip
    try simp only [dt_b0, dt_b1, Decidable.not_not, Classical.not_not] at c1
    refine dt_aloadn dX12_drop_15 rfl rfl ?_
    refine dt_iconst dX12_drop_16 ?_
    refine dt_wfV fun hwf => ?_
    refine dt_putI dX12_drop_17 pw_X12_57_12 rfl rfl (by first | assumption | exact hwf _ _ | exact dt_b32 _ | omega | exact ⟨by omega, by omega⟩ | decide | exact ⟨by simp (disch := omega) only [dt_up_s, dt_up_k, dt_up_n]; omega, by simp (disch := omega) only [dt_up_s, dt_up_k, dt_up_n]; omega⟩) ?_
    obtain ⟨σb, eb⟩ : ∃ z, z = dt_up σa 40 1 0 := ⟨_, rfl⟩
    rw [← eb]
    have hB := hA.st 0
    rw [← eb] at hB
    have fb : ∀ b, (b < 40 ∨ 55 ≤ b) → σb b = σ b := fun b hb => by rw [eb, dt_up_o (by omega)]; exact fa b hb
    clear eb
    refine dt_wfV fun hwf => ?_
    refine dt_aloadn dX12_drop_20 rfl rfl ?_
    refine dt_getR dX12_drop_21 pg_X12_7_12 rfl rfl ?_
    refine dt_iloadn dX12_drop_24 rfl rfl ?_
    refine dt_iald dX12_drop_25 rfl (by first | omega | (simp (disch := omega) only [dt_up_s, dt_up_k, dt_up_n]; omega)) (by first | omega | (simp (disch := omega) only [dt_up_s, dt_up_k, dt_up_n]; omega)) (by decide) ?_
    refine dt_if_ge (tgt := 35) dX12_drop_26 (by decide) (by first | assumption | exact hwf _ _ | exact dt_b32 _ | omega | exact ⟨by omega, by omega⟩ | decide | exact ⟨by simp (disch := omega) only [dt_up_s, dt_up_k, dt_up_n]; omega, by simp (disch := omega) only [dt_up_s, dt_up_k, dt_up_n]; omega⟩) (fun c2 => ?_) (fun c2 => ?_)
    · skip
      have hrr := hB.row (r := r.toNat) (by omega)
      obtain ⟨q, hq, q1, q2, q3, q4, q5⟩ := hrr.pos (by omega)
      have hq : sR A r.toNat = some q := hq
      refine dt_aloadn dX12_drop_35 rfl rfl ?_
      refine dt_getR dX12_drop_36 pg_X12_7_12 rfl rfl ?_
      refine dt_iloadn dX12_drop_39 rfl rfl ?_
      refine dt_iconst dX12_drop_40 ?_
      refine dt_wfV fun hwf => ?_
      refine dt_iast dX12_drop_41 rfl (by first | omega | (simp (disch := omega) only [dt_up_s, dt_up_k, dt_up_n]; omega)) (by first | omega | (simp (disch := omega) only [dt_up_s, dt_up_k, dt_up_n]; omega)) (by decide) (by first | assumption | exact hwf _ _ | exact dt_b32 _ | omega | exact ⟨by omega, by omega⟩ | decide | exact ⟨by simp (disch := omega) only [dt_up_s, dt_up_k, dt_up_n]; omega, by simp (disch := omega) only [dt_up_s, dt_up_k, dt_up_n]; omega⟩) ?_
      refine dt_aloadn dX12_drop_42 rfl rfl ?_
      refine dt_getR dX12_drop_43 pg_X12_13_12 rfl rfl ?_
      refine dt_iloadn dX12_drop_46 rfl rfl ?_
      refine dt_iald dX12_drop_47 rfl (by first | omega | (simp (disch := omega) only [dt_up_s, dt_up_k, dt_up_n]; omega)) (by first | omega | (simp (disch := omega) only [dt_up_s, dt_up_k, dt_up_n]; omega)) (by decide) ?_
      refine dt_iret dX12_drop_48 rfl (by decide) (by decide) ?_
      have e : oDrop A r = ((q.2.length : Int), sRs A r.toNat none 0) := by
        unfold oDrop
        rw [if_neg (by omega)]
        simp only [hq]
      rw [e]
      refine ⟨by rw [dt_up_n (by decide), q3], rfl, hB.rows (hB.1.put (r := r.toNat) ?_ ?_ ?_ ?_) ?_, ?_⟩
      · show dt_up _ _ _ _ 41 r.toNat = -1; rw [dt_up_s]
      · intro q hq; rw [dt_up_k hq]
      · intro q hq; rw [dt_up_n (by decide)]
      · intro k hk; rw [dt_up_n (by decide)]
      · intro b h2 h3 h4; rw [dt_up_o h2]
      · intro b hb; rw [dt_up_o (by omega)]; exact fb b hb
    · skip
      have hrr := hB.row (r := r.toNat) (by omega)
      have hq : sR A r.toNat = none := hrr.neg (by omega)
      refine dt_aloadn dX12_drop_29 rfl rfl ?_
      refine dt_iconst dX12_drop_30 ?_
      refine dt_xV dX12_drop_31 pc_X12_74 rfl (s_X12_finding (by first | assumption | exact hwf _ _ | exact dt_b32 _ | omega | exact ⟨by omega, by omega⟩ | decide | exact ⟨by simp (disch := omega) only [dt_up_s, dt_up_k, dt_up_n]; omega, by simp (disch := omega) only [dt_up_s, dt_up_k, dt_up_n]; omega⟩)) rfl rfl ⟨by decide, by decide⟩ rfl rfl (Nat.le_of_ble_eq_true rfl) ⟨by decide, by decide⟩ (dt_k3 ?_)
      refine dt_iret dX12_drop_34 rfl (by decide) (by decide) ?_
      have e : oDrop A r = (-1000011, sSt A 1) := by
        unfold oDrop
        rw [if_neg (by omega)]
        simp only [hq]
      rw [e]
      exact ⟨rfl, rfl, hB.st 1, fun b hb => by rw [dt_up_o (by omega)]; exact fb b hb⟩
  · skip
    try simp only [dt_b0, dt_b1, Decidable.not_not, Classical.not_not] at c1
    refine dt_ldc dX12_drop_12 pk_X12_73 ?_
    refine dt_iret dX12_drop_14 rfl (by decide) (by decide) ?_
    have e : oDrop A r = (-1000001, A) := by
      unfold oDrop
      rw [if_pos (by omega)]
    rw [e]
    exact ⟨rfl, rfl, hA, fa⟩
theorem s_X12_copy {ex : List dt_Shp} {σ : dt_Mem} {A : dS} {a i b j n : Int} (hI : rInv σ A) (h_a : dt_in32 a) (h_i : dt_in32 i) (h_b : dt_in32 b) (h_j : dt_in32 j) (h_n : dt_in32 n) : dt_Sp mX12_copy 2 0 0 [dt_R 40, dt_I a, dt_I i, dt_I b, dt_I j, dt_I n] (dt_SH ++ ex) σ (fun v sh2 σ2 => v = some (dt_I (oCopy A a i b j n).1) ∧ sh2 = dt_SH ++ ex ∧ rEnd σ σ2 (oCopy A a i b j n).2) := by
  refine dt_Sp_of (by decide) (Nat.le_of_ble_eq_true rfl) ?_
  refine dt_wfV fun hwf => ?_
  show dt_V _ _ _ 0 0 0 [some (dt_R 40), some (dt_I a), some (dt_I i), some (dt_I b), some (dt_I j), some (dt_I n), none, none, none] [] _ _
  refine dt_aloadn dX12_copy_0 rfl rfl ?_
  refine dt_iconst dX12_copy_1 ?_
  refine dt_wfV fun hwf => ?_
  refine dt_putI dX12_copy_2 pw_X12_53_12 rfl rfl (by first | assumption | exact hwf _ _ | exact dt_b32 _ | omega | exact ⟨by omega, by omega⟩ | decide | exact ⟨by simp (disch := omega) only [dt_up_s, dt_up_k, dt_up_n]; omega, by simp (disch := omega) only [dt_up_s, dt_up_k, dt_up_n]; omega⟩) ?_
  obtain ⟨σa, ea⟩ : ∃ z, z = dt_up σ 40 0 0 := ⟨_, rfl⟩
  rw [← ea]
  have hA := hI.up40 0 0 (by decide)
  rw [← ea] at hA
  have fa : ∀ b, (b < 40 ∨ 55 ≤ b) → σa b = σ b := fun b hb => by rw [ea]; exact dt_up_o (by omega)
  clear ea
  refine dt_wfV fun hwf => ?_
  refine dt_iloadn dX12_copy_5 rfl rfl ?_
  refine dt_xS dX12_copy_6 pc_X12_67 (s_X12_isRow (by first | assumption | exact hwf _ _ | exact dt_b32 _ | omega | exact ⟨by omega, by omega⟩ | decide | exact ⟨by simp (disch := omega) only [dt_up_s, dt_up_k, dt_up_n]; omega, by simp (disch := omega) only [dt_up_s, dt_up_k, dt_up_n]; omega⟩)) rfl rfl ⟨by decide, by decide⟩ (Nat.le_of_ble_eq_true rfl) ⟨by decide, by decide⟩ (dt_k3 ?_)
  refine dt_if_eq (tgt := 19) dX12_copy_9 (by decide) (by first | assumption | exact hwf _ _ | exact dt_b32 _ | omega | exact ⟨by omega, by omega⟩ | decide | exact ⟨by simp (disch := omega) only [dt_up_s, dt_up_k, dt_up_n]; omega, by simp (disch := omega) only [dt_up_s, dt_up_k, dt_up_n]; omega⟩) (fun c1 => ?_) (fun c1 => ?_)
  · skip
    try simp only [dt_b0, dt_b1, Decidable.not_not, Classical.not_not] at c1
    refine dt_ldc dX12_copy_19 pk_X12_73 ?_
    refine dt_iret dX12_copy_21 rfl (by decide) (by decide) ?_
    have e : oCopy A a i b j n = (-1000001, A) := by
      unfold oCopy
      rw [if_pos (by omega)]
    rw [e]
    exact ⟨rfl, rfl, hA, fa⟩
  · skip
    try simp only [dt_b0, dt_b1, Decidable.not_not, Classical.not_not] at c1
    refine dt_iloadn dX12_copy_12 rfl rfl ?_
    refine dt_xS dX12_copy_13 pc_X12_67 (s_X12_isRow (by first | assumption | exact hwf _ _ | exact dt_b32 _ | omega | exact ⟨by omega, by omega⟩ | decide | exact ⟨by simp (disch := omega) only [dt_up_s, dt_up_k, dt_up_n]; omega, by simp (disch := omega) only [dt_up_s, dt_up_k, dt_up_n]; omega⟩)) rfl rfl ⟨by decide, by decide⟩ (Nat.le_of_ble_eq_true rfl) ⟨by decide, by decide⟩ (dt_k3 ?_)
    refine dt_if_ne (tgt := 22) dX12_copy_16 (by decide) (by first | assumption | exact hwf _ _ | exact dt_b32 _ | omega | exact ⟨by omega, by omega⟩ | decide | exact ⟨by simp (disch := omega) only [dt_up_s, dt_up_k, dt_up_n]; omega, by simp (disch := omega) only [dt_up_s, dt_up_k, dt_up_n]; omega⟩) (fun c2 => ?_) (fun c2 => ?_)
    · skip
      try simp only [dt_b0, dt_b1, Decidable.not_not, Classical.not_not] at c2
      refine dt_aloadn dX12_copy_22 rfl rfl ?_
      refine dt_iconst dX12_copy_23 ?_
      refine dt_wfV fun hwf => ?_
      refine dt_putI dX12_copy_24 pw_X12_57_12 rfl rfl (by first | assumption | exact hwf _ _ | exact dt_b32 _ | omega | exact ⟨by omega, by omega⟩ | decide | exact ⟨by simp (disch := omega) only [dt_up_s, dt_up_k, dt_up_n]; omega, by simp (disch := omega) only [dt_up_s, dt_up_k, dt_up_n]; omega⟩) ?_
      obtain ⟨σb, eb⟩ : ∃ z, z = dt_up σa 40 1 0 := ⟨_, rfl⟩
      rw [← eb]
      have hB := hA.st 0
      rw [← eb] at hB
      have fb : ∀ b, (b < 40 ∨ 55 ≤ b) → σb b = σ b := fun b hb => by rw [eb, dt_up_o (by omega)]; exact fa b hb
      clear eb
      refine dt_wfV fun hwf => ?_
      refine dt_aloadn dX12_copy_27 rfl rfl ?_
      refine dt_getR dX12_copy_28 pg_X12_7_12 rfl rfl ?_
      refine dt_iloadn dX12_copy_31 rfl rfl ?_
      refine dt_iald dX12_copy_32 rfl (by first | omega | (simp (disch := omega) only [dt_up_s, dt_up_k, dt_up_n]; omega)) (by first | omega | (simp (disch := omega) only [dt_up_s, dt_up_k, dt_up_n]; omega)) (by decide) ?_
      refine dt_if_lt (tgt := 45) dX12_copy_33 (by decide) (by first | assumption | exact hwf _ _ | exact dt_b32 _ | omega | exact ⟨by omega, by omega⟩ | decide | exact ⟨by simp (disch := omega) only [dt_up_s, dt_up_k, dt_up_n]; omega, by simp (disch := omega) only [dt_up_s, dt_up_k, dt_up_n]; omega⟩) (fun c3 => ?_) (fun c3 => ?_)
      · skip
        have hra := hB.row (r := a.toNat) (by omega)
        have hqa : sR A a.toNat = none := hra.neg (by omega)
        have e44 : oCopy A a i b j n = (-1000011, sSt A 1) := by
          unfold oCopy
          rw [if_neg (by omega)]
          simp only [hqa]
        refine dt_aloadn dX12_copy_45 rfl rfl ?_
        refine dt_iconst dX12_copy_46 ?_
        refine dt_xV dX12_copy_47 pc_X12_74 rfl (s_X12_finding (by first | assumption | exact hwf _ _ | exact dt_b32 _ | omega | exact ⟨by omega, by omega⟩ | decide | exact ⟨by simp (disch := omega) only [dt_up_s, dt_up_k, dt_up_n]; omega, by simp (disch := omega) only [dt_up_s, dt_up_k, dt_up_n]; omega⟩)) rfl rfl ⟨by decide, by decide⟩ rfl rfl (Nat.le_of_ble_eq_true rfl) ⟨by decide, by decide⟩ (dt_k3 ?_)
        refine dt_iret dX12_copy_50 rfl (by decide) (by decide) ?_
        rw [e44]
        exact ⟨rfl, rfl, hB.st 1, fun b hb => by rw [dt_up_o (by omega)]; exact fb b hb⟩
      · skip
        have hra := hB.row (r := a.toNat) (by omega)
        obtain ⟨qa, hqa, a1, a2, a3, a4, a5⟩ := hra.pos (by omega)
        have hqa : sR A a.toNat = some qa := hqa
        refine dt_aloadn dX12_copy_36 rfl rfl ?_
        refine dt_getR dX12_copy_37 pg_X12_7_12 rfl rfl ?_
        refine dt_iloadn dX12_copy_40 rfl rfl ?_
        refine dt_iald dX12_copy_41 rfl (by first | omega | (simp (disch := omega) only [dt_up_s, dt_up_k, dt_up_n]; omega)) (by first | omega | (simp (disch := omega) only [dt_up_s, dt_up_k, dt_up_n]; omega)) (by decide) ?_
        refine dt_if_ge (tgt := 51) dX12_copy_42 (by decide) (by first | assumption | exact hwf _ _ | exact dt_b32 _ | omega | exact ⟨by omega, by omega⟩ | decide | exact ⟨by simp (disch := omega) only [dt_up_s, dt_up_k, dt_up_n]; omega, by simp (disch := omega) only [dt_up_s, dt_up_k, dt_up_n]; omega⟩) (fun c4 => ?_) (fun c4 => ?_)
        · skip
          have hrb := hB.row (r := b.toNat) (by omega)
          obtain ⟨qb, hqb, b1, b2, b3, b4, b5⟩ := hrb.pos (by omega)
          have hqb : sR A b.toNat = some qb := hqb
          refine dt_aloadn dX12_copy_51 rfl rfl ?_
          refine dt_getR dX12_copy_52 pg_X12_7_12 rfl rfl ?_
          refine dt_iloadn dX12_copy_55 rfl rfl ?_
          refine dt_iald dX12_copy_56 rfl (by first | omega | (simp (disch := omega) only [dt_up_s, dt_up_k, dt_up_n]; omega)) (by first | omega | (simp (disch := omega) only [dt_up_s, dt_up_k, dt_up_n]; omega)) (by decide) ?_
          refine dt_aloadn dX12_copy_57 rfl rfl ?_
          refine dt_getR dX12_copy_58 pg_X12_7_12 rfl rfl ?_
          refine dt_iloadn dX12_copy_61 rfl rfl ?_
          refine dt_iald dX12_copy_62 rfl (by first | omega | (simp (disch := omega) only [dt_up_s, dt_up_k, dt_up_n]; omega)) (by first | omega | (simp (disch := omega) only [dt_up_s, dt_up_k, dt_up_n]; omega)) (by decide) ?_
          refine dt_cm_eq (tgt := 72) dX12_copy_63 (by decide) (by first | assumption | exact hwf _ _ | exact dt_b32 _ | omega | exact ⟨by omega, by omega⟩ | decide | exact ⟨by simp (disch := omega) only [dt_up_s, dt_up_k, dt_up_n]; omega, by simp (disch := omega) only [dt_up_s, dt_up_k, dt_up_n]; omega⟩) (by first | assumption | exact hwf _ _ | exact dt_b32 _ | omega | exact ⟨by omega, by omega⟩ | decide | exact ⟨by simp (disch := omega) only [dt_up_s, dt_up_k, dt_up_n]; omega, by simp (disch := omega) only [dt_up_s, dt_up_k, dt_up_n]; omega⟩) (fun c5 => ?_) (fun c5 => ?_)
          · skip
            refine dt_iloadn dX12_copy_72 rfl rfl ?_
            refine dt_if_lt (tgt := 121) dX12_copy_73 (by decide) (by first | assumption | exact hwf _ _ | exact dt_b32 _ | omega | exact ⟨by omega, by omega⟩ | decide | exact ⟨by simp (disch := omega) only [dt_up_s, dt_up_k, dt_up_n]; omega, by simp (disch := omega) only [dt_up_s, dt_up_k, dt_up_n]; omega⟩) (fun c6 => ?_) (fun c6 => ?_)
            · skip
              refine dt_aloadn dX12_copy_121 rfl rfl ?_
              refine dt_iconst dX12_copy_122 ?_
              refine dt_xV dX12_copy_123 pc_X12_74 rfl (s_X12_finding (by first | assumption | exact hwf _ _ | exact dt_b32 _ | omega | exact ⟨by omega, by omega⟩ | decide | exact ⟨by simp (disch := omega) only [dt_up_s, dt_up_k, dt_up_n]; omega, by simp (disch := omega) only [dt_up_s, dt_up_k, dt_up_n]; omega⟩)) rfl rfl ⟨by decide, by decide⟩ rfl rfl (Nat.le_of_ble_eq_true rfl) ⟨by decide, by decide⟩ (dt_k3 ?_)
              refine dt_iret dX12_copy_126 rfl (by decide) (by decide) ?_
              have e : oCopy A a i b j n = (-1000012, sSt A 2) := by
                unfold oCopy
                rw [if_neg (by omega)]
                simp only [hqa, hqb]
                rw [if_neg (by omega), if_neg (by omega)]
              rw [e]
              exact ⟨rfl, rfl, hB.st 2, fun b hb => by rw [dt_up_o (by omega)]; exact fb b hb⟩
            · skip
              refine dt_iload dX12_copy_76 rfl ?_
              refine dt_if_lt (tgt := 121) dX12_copy_78 (by decide) (by first | assumption | exact hwf _ _ | exact dt_b32 _ | omega | exact ⟨by omega, by omega⟩ | decide | exact ⟨by simp (disch := omega) only [dt_up_s, dt_up_k, dt_up_n]; omega, by simp (disch := omega) only [dt_up_s, dt_up_k, dt_up_n]; omega⟩) (fun c7 => ?_) (fun c7 => ?_)
              · skip
                refine dt_aloadn dX12_copy_121 rfl rfl ?_
                refine dt_iconst dX12_copy_122 ?_
                refine dt_xV dX12_copy_123 pc_X12_74 rfl (s_X12_finding (by first | assumption | exact hwf _ _ | exact dt_b32 _ | omega | exact ⟨by omega, by omega⟩ | decide | exact ⟨by simp (disch := omega) only [dt_up_s, dt_up_k, dt_up_n]; omega, by simp (disch := omega) only [dt_up_s, dt_up_k, dt_up_n]; omega⟩)) rfl rfl ⟨by decide, by decide⟩ rfl rfl (Nat.le_of_ble_eq_true rfl) ⟨by decide, by decide⟩ (dt_k3 ?_)
                refine dt_iret dX12_copy_126 rfl (by decide) (by decide) ?_
                have e : oCopy A a i b j n = (-1000012, sSt A 2) := by
                  unfold oCopy
                  rw [if_neg (by omega)]
                  simp only [hqa, hqb]
                  rw [if_neg (by omega), if_neg (by omega)]
                rw [e]
                exact ⟨rfl, rfl, hB.st 2, fun b hb => by rw [dt_up_o (by omega)]; exact fb b hb⟩
              · skip
                refine dt_iload dX12_copy_81 rfl ?_
                refine dt_if_lt (tgt := 121) dX12_copy_83 (by decide) (by first | assumption | exact hwf _ _ | exact dt_b32 _ | omega | exact ⟨by omega, by omega⟩ | decide | exact ⟨by simp (disch := omega) only [dt_up_s, dt_up_k, dt_up_n]; omega, by simp (disch := omega) only [dt_up_s, dt_up_k, dt_up_n]; omega⟩) (fun c8 => ?_) (fun c8 => ?_)
                · skip
                  refine dt_aloadn dX12_copy_121 rfl rfl ?_
                  refine dt_iconst dX12_copy_122 ?_
                  refine dt_xV dX12_copy_123 pc_X12_74 rfl (s_X12_finding (by first | assumption | exact hwf _ _ | exact dt_b32 _ | omega | exact ⟨by omega, by omega⟩ | decide | exact ⟨by simp (disch := omega) only [dt_up_s, dt_up_k, dt_up_n]; omega, by simp (disch := omega) only [dt_up_s, dt_up_k, dt_up_n]; omega⟩)) rfl rfl ⟨by decide, by decide⟩ rfl rfl (Nat.le_of_ble_eq_true rfl) ⟨by decide, by decide⟩ (dt_k3 ?_)
                  refine dt_iret dX12_copy_126 rfl (by decide) (by decide) ?_
                  have e : oCopy A a i b j n = (-1000012, sSt A 2) := by
                    unfold oCopy
                    rw [if_neg (by omega)]
                    simp only [hqa, hqb]
                    rw [if_neg (by omega), if_neg (by omega)]
                  rw [e]
                  exact ⟨rfl, rfl, hB.st 2, fun b hb => by rw [dt_up_o (by omega)]; exact fb b hb⟩
                · skip
                  refine dt_iloadn dX12_copy_86 rfl rfl ?_
                  refine dt_ui2l dX12_copy_87 (by first | assumption | exact hwf _ _ | exact dt_b32 _ | omega | exact ⟨by omega, by omega⟩ | decide | exact ⟨by simp (disch := omega) only [dt_up_s, dt_up_k, dt_up_n]; omega, by simp (disch := omega) only [dt_up_s, dt_up_k, dt_up_n]; omega⟩) ?_
                  refine dt_iload dX12_copy_88 rfl ?_
                  refine dt_ui2l dX12_copy_90 (by first | assumption | exact hwf _ _ | exact dt_b32 _ | omega | exact ⟨by omega, by omega⟩ | decide | exact ⟨by simp (disch := omega) only [dt_up_s, dt_up_k, dt_up_n]; omega, by simp (disch := omega) only [dt_up_s, dt_up_k, dt_up_n]; omega⟩) ?_
                  refine dt_ladd dX12_copy_91 ?_
                  refine dt_aloadn dX12_copy_92 rfl rfl ?_
                  refine dt_getR dX12_copy_93 pg_X12_13_12 rfl rfl ?_
                  refine dt_iloadn dX12_copy_96 rfl rfl ?_
                  refine dt_iald dX12_copy_97 rfl (by first | omega | (simp (disch := omega) only [dt_up_s, dt_up_k, dt_up_n]; omega)) (by first | omega | (simp (disch := omega) only [dt_up_s, dt_up_k, dt_up_n]; omega)) (by decide) ?_
                  refine dt_ui2l dX12_copy_98 (by first | assumption | exact hwf _ _ | exact dt_b32 _ | omega | exact ⟨by omega, by omega⟩ | decide | exact ⟨by simp (disch := omega) only [dt_up_s, dt_up_k, dt_up_n]; omega, by simp (disch := omega) only [dt_up_s, dt_up_k, dt_up_n]; omega⟩) ?_
                  refine dt_lcmp dX12_copy_99 (by first | assumption | exact ⟨by omega, by omega⟩ | decide) (by first | assumption | exact ⟨by omega, by omega⟩ | decide) ?_
                  refine dt_if_gt (tgt := 121) dX12_copy_100 (by decide) (dj_c32 _ _) (fun c9 => ?_) (fun c9 => ?_)
                  · skip
                    simp only [dj_cl, dj_cle, dj_cg, dj_cge] at c9
                    refine dt_aloadn dX12_copy_121 rfl rfl ?_
                    refine dt_iconst dX12_copy_122 ?_
                    refine dt_xV dX12_copy_123 pc_X12_74 rfl (s_X12_finding (by first | assumption | exact hwf _ _ | exact dt_b32 _ | omega | exact ⟨by omega, by omega⟩ | decide | exact ⟨by simp (disch := omega) only [dt_up_s, dt_up_k, dt_up_n]; omega, by simp (disch := omega) only [dt_up_s, dt_up_k, dt_up_n]; omega⟩)) rfl rfl ⟨by decide, by decide⟩ rfl rfl (Nat.le_of_ble_eq_true rfl) ⟨by decide, by decide⟩ (dt_k3 ?_)
                    refine dt_iret dX12_copy_126 rfl (by decide) (by decide) ?_
                    have e : oCopy A a i b j n = (-1000012, sSt A 2) := by
                      unfold oCopy
                      rw [if_neg (by omega)]
                      simp only [hqa, hqb]
                      rw [if_neg (by omega), if_neg (by omega)]
                    rw [e]
                    exact ⟨rfl, rfl, hB.st 2, fun b hb => by rw [dt_up_o (by omega)]; exact fb b hb⟩
                  · skip
                    simp only [dj_cl, dj_cle, dj_cg, dj_cge] at c9
                    refine dt_iload dX12_copy_103 rfl ?_
                    refine dt_ui2l dX12_copy_105 (by first | assumption | exact hwf _ _ | exact dt_b32 _ | omega | exact ⟨by omega, by omega⟩ | decide | exact ⟨by simp (disch := omega) only [dt_up_s, dt_up_k, dt_up_n]; omega, by simp (disch := omega) only [dt_up_s, dt_up_k, dt_up_n]; omega⟩) ?_
                    refine dt_iload dX12_copy_106 rfl ?_
                    refine dt_ui2l dX12_copy_108 (by first | assumption | exact hwf _ _ | exact dt_b32 _ | omega | exact ⟨by omega, by omega⟩ | decide | exact ⟨by simp (disch := omega) only [dt_up_s, dt_up_k, dt_up_n]; omega, by simp (disch := omega) only [dt_up_s, dt_up_k, dt_up_n]; omega⟩) ?_
                    refine dt_ladd dX12_copy_109 ?_
                    refine dt_aloadn dX12_copy_110 rfl rfl ?_
                    refine dt_getR dX12_copy_111 pg_X12_13_12 rfl rfl ?_
                    refine dt_iloadn dX12_copy_114 rfl rfl ?_
                    refine dt_iald dX12_copy_115 rfl (by first | omega | (simp (disch := omega) only [dt_up_s, dt_up_k, dt_up_n]; omega)) (by first | omega | (simp (disch := omega) only [dt_up_s, dt_up_k, dt_up_n]; omega)) (by decide) ?_
                    refine dt_ui2l dX12_copy_116 (by first | assumption | exact hwf _ _ | exact dt_b32 _ | omega | exact ⟨by omega, by omega⟩ | decide | exact ⟨by simp (disch := omega) only [dt_up_s, dt_up_k, dt_up_n]; omega, by simp (disch := omega) only [dt_up_s, dt_up_k, dt_up_n]; omega⟩) ?_
                    refine dt_lcmp dX12_copy_117 (by first | assumption | exact ⟨by omega, by omega⟩ | decide) (by first | assumption | exact ⟨by omega, by omega⟩ | decide) ?_
                    refine dt_if_le (tgt := 127) dX12_copy_118 (by decide) (dj_c32 _ _) (fun c10 => ?_) (fun c10 => ?_)
                    · skip
                      simp only [dj_cl, dj_cle, dj_cg, dj_cge] at c10
                      refine dt_iloadn dX12_copy_127 rfl rfl ?_
                      refine dt_iload dX12_copy_128 rfl ?_
                      refine dt_cm_lt (tgt := 137) dX12_copy_130 (by decide) (by first | assumption | exact hwf _ _ | exact dt_b32 _ | omega | exact ⟨by omega, by omega⟩ | decide | exact ⟨by simp (disch := omega) only [dt_up_s, dt_up_k, dt_up_n]; omega, by simp (disch := omega) only [dt_up_s, dt_up_k, dt_up_n]; omega⟩) (by first | assumption | exact hwf _ _ | exact dt_b32 _ | omega | exact ⟨by omega, by omega⟩ | decide | exact ⟨by simp (disch := omega) only [dt_up_s, dt_up_k, dt_up_n]; omega, by simp (disch := omega) only [dt_up_s, dt_up_k, dt_up_n]; omega⟩) (fun c11 => ?_) (fun c11 => ?_)
                      · skip
                        refine dt_iconst dX12_copy_137 ?_
                        refine dt_istore dX12_copy_138 (by decide) rfl ?_
                        dsimp only [List.set]
                        refine dt_iconst dX12_copy_140 ?_
                        refine dt_istore dX12_copy_141 (by decide) rfl ?_
                        dsimp only [List.set]
                        have lp143 : ∀ (fu : Nat) (q : Nat), n - (q : Int) < (fu : Int) → ((q : Int) ≤ n) →  dt_V mX12_copy (dt_rm 2 0 0) (dt_MC (fun v sh2 σ2 => v = some (dt_I (oCopy A a i b j n).1) ∧ sh2 = dt_SH ++ ex ∧ rEnd σ σ2 (oCopy A a i b j n).2) 0 0) 0 0 143 [some (dt_R 40), some (dt_I a), some (dt_I i), some (dt_I b), some (dt_I j), some (dt_I n), some (dt_I 0), some (dt_I (q : Int)), none] [] (dt_SH ++ ex) (dt_fil σb 43 (b.toNat * 40 + j.toNat + (n.toNat - q)) q (fun k => σb 43 (a.toNat * 40 + i.toNat + (k - (b.toNat * 40 + j.toNat))))) := by
                          intro fu
                          induction fu with
                          | zero =>
                            intro q hm hq
                            exfalso
                            omega
                          | succ fu ih =>
                            intro q hm hq
                            refine dt_wfV fun hwf => ?_
                            refine dt_iload dX12_copy_143 rfl ?_
                            refine dt_iload dX12_copy_145 rfl ?_
                            refine dt_cm_ge (tgt := 204) dX12_copy_147 (by decide) (by first | assumption | exact hwf _ _ | exact dt_b32 _ | omega | exact ⟨by omega, by omega⟩ | decide | exact ⟨by simp (disch := omega) only [dt_up_s, dt_up_k, dt_up_n]; omega, by simp (disch := omega) only [dt_up_s, dt_up_k, dt_up_n]; omega⟩) (by first | assumption | exact hwf _ _ | exact dt_b32 _ | omega | exact ⟨by omega, by omega⟩ | decide | exact ⟨by simp (disch := omega) only [dt_up_s, dt_up_k, dt_up_n]; omega, by simp (disch := omega) only [dt_up_s, dt_up_k, dt_up_n]; omega⟩) (fun c12 => ?_) (fun c12 => ?_)
                            · skip
                              refine dt_iload dX12_copy_204 rfl ?_
                              refine dt_iret dX12_copy_206 rfl (by decide) (by decide) ?_
                              obtain ⟨p1, p2⟩ : i + n ≤ qa.2.length ∧ j + n ≤ qb.2.length := ⟨by omega, by omega⟩
                              have e : oCopy A a i b j n = (n, sRs A b.toNat (some (qb.1, qb.2.take j.toNat ++ ((qa.2.drop i.toNat).take n.toNat ++ qb.2.drop (j.toNat + n.toNat)))) 0) := by
                                unfold oCopy
                                rw [if_neg (by omega)]
                                simp only [hqa, hqb]
                                rw [if_neg (by omega), if_pos (by omega)]
                              rw [e]
                              have e9 := dt_spl_len (p := qa.2) (q := qb.2) (i := i.toNat) (j := j.toNat) (n := n.toNat) (by omega) (by omega)
                              have eq1 : n.toNat = q := by omega
                              try rw [show b.toNat * 40 + j.toNat + (n.toNat - q) = b.toNat * 40 + j.toNat by omega]
                              refine ⟨rfl, rfl, hB.rows (hB.1.put (r := b.toNat) ⟨?_, ?_, ?_, ?_, ?_⟩ ?_ ?_ ?_) ?_, ?_⟩
                              · rw [dt_fil_o (by decide)]; exact b1
                              · exact b2
                              · rw [dt_fil_o (by decide)]; exact b3.trans (by rw [← e9])
                              · exact (by rw [e9]; exact b4)
                              · intro k x hx
                                rcases dt_spl (by omega) (by omega) hx with ⟨g1, g2, g3⟩ | ⟨g1, g2⟩
                                · rw [dt_fil_in (by omega) (by omega)]
                                  show σb 43 _ = x
                                  rw [show a.toNat * 40 + i.toNat + (b.toNat * 40 + k - (b.toNat * 40 + j.toNat)) = a.toNat * 40 + (i.toNat + (k - j.toNat)) by omega]
                                  exact a5 _ _ g3
                                · have gk := dt_gl g2
                                  rw [dt_fil_out (by omega)]
                                  exact b5 k x g2
                              · intro q _; rw [dt_fil_o (by decide)]
                              · intro q _; rw [dt_fil_o (by decide)]
                              · intro k hk; rw [dt_fil_out (by omega)]
                              · intro c h2 h3 h4; rw [dt_fil_o h4]
                              · intro c hb; rw [dt_fil_o (by omega)]; exact fb c hb
                            · skip
                              refine dt_iload dX12_copy_150 rfl ?_
                              refine dt_if_eq (tgt := 160) dX12_copy_152 (by decide) (by first | assumption | exact hwf _ _ | exact dt_b32 _ | omega | exact ⟨by omega, by omega⟩ | decide | exact ⟨by simp (disch := omega) only [dt_up_s, dt_up_k, dt_up_n]; omega, by simp (disch := omega) only [dt_up_s, dt_up_k, dt_up_n]; omega⟩) (fun c13 => ?_) (fun c13 => ?_)
                              · skip
                                refine dt_iload dX12_copy_160 rfl ?_
                                refine dt_iconst dX12_copy_162 ?_
                                refine dt_isub dX12_copy_163 ?_
                                refine dt_iload dX12_copy_164 rfl ?_
                                refine dt_isub dX12_copy_166 ?_
                                refine dt_istore dX12_copy_167 (by decide) rfl ?_
                                dsimp only [List.set]
                                refine dt_aloadn dX12_copy_169 rfl rfl ?_
                                refine dt_getR dX12_copy_170 pg_X12_16_12 rfl rfl ?_
                                refine dt_bipush dX12_copy_173 (by decide) ?_
                                refine dt_iloadn dX12_copy_175 rfl rfl ?_
                                refine dt_imul dX12_copy_176 ?_
                                refine dt_iload dX12_copy_177 rfl ?_
                                refine dt_iadd dX12_copy_179 ?_
                                refine dt_iload dX12_copy_180 rfl ?_
                                refine dt_iadd dX12_copy_182 ?_
                                refine dt_aloadn dX12_copy_183 rfl rfl ?_
                                refine dt_getR dX12_copy_184 pg_X12_16_12 rfl rfl ?_
                                refine dt_bipush dX12_copy_187 (by decide) ?_
                                refine dt_iloadn dX12_copy_189 rfl rfl ?_
                                refine dt_imul dX12_copy_190 ?_
                                refine dt_iloadn dX12_copy_191 rfl rfl ?_
                                refine dt_iadd dX12_copy_192 ?_
                                refine dt_iload dX12_copy_193 rfl ?_
                                refine dt_iadd dX12_copy_195 ?_
                                refine dt_iald dX12_copy_196 rfl (by first | omega | (simp (disch := omega) only [dt_up_s, dt_up_k, dt_up_n]; omega)) (by first | omega | (simp (disch := omega) only [dt_up_s, dt_up_k, dt_up_n]; omega)) (by decide) ?_
                                refine dt_wfV fun hwf => ?_
                                refine dt_iast dX12_copy_197 rfl (by first | omega | (simp (disch := omega) only [dt_up_s, dt_up_k, dt_up_n]; omega)) (by first | omega | (simp (disch := omega) only [dt_up_s, dt_up_k, dt_up_n]; omega)) (by decide) (hwf _ _) ?_
                                have n1 : n.toNat - q = n.toNat - (q + 1) + 1 := by omega
                                rw [dt_fil_out (by omega), n1, show (40 * b + j + (n - 1 - (q : Int))).toNat = b.toNat * 40 + j.toNat + (n.toNat - (q + 1)) by omega, show (40 * a + i + (n - 1 - (q : Int))).toNat = a.toNat * 40 + i.toNat + (b.toNat * 40 + j.toNat + (n.toNat - (q + 1)) - (b.toNat * 40 + j.toNat)) by omega]
                                have z := dt_fil_d σb 43 (b.toNat * 40 + j.toNat + (n.toNat - (q + 1))) q (fun k => σb 43 (a.toNat * 40 + i.toNat + (k - (b.toNat * 40 + j.toNat))))
                                try dsimp only at z
                                rw [← Nat.add_assoc, z]
                                refine dt_iinc dX12_copy_198 rfl (by decide) rfl ?_
                                dsimp only [List.set]
                                refine dt_goto (tgt := 143) dX12_copy_201 (by decide) ?_
                                exact dt_lb (ih (q + 1) (by omega) (by omega)) ⟨rfl, rfl, rfl, rfl, rfl, rfl, rfl, rfl, trivial⟩
                              · skip
                                first | exact absurd c13 (by omega) | exact absurd c13 (by decide) | exact absurd rfl c13
                        have h := lp143 50 0 (by omega) (by omega)
                        rw [dt_fil_0] at h
                        exact dt_lb (h) ⟨rfl, rfl, rfl, rfl, rfl, rfl, rfl, rfl, trivial⟩
                      · skip
                        refine dt_iconst dX12_copy_133 ?_
                        refine dt_goto (tgt := 138) dX12_copy_134 (by decide) ?_
                        refine dt_istore dX12_copy_138 (by decide) rfl ?_
                        dsimp only [List.set]
                        refine dt_iconst dX12_copy_140 ?_
                        refine dt_istore dX12_copy_141 (by decide) rfl ?_
                        dsimp only [List.set]
                        have lp143 : ∀ (fu : Nat) (q : Nat), n - (q : Int) < (fu : Int) → ((q : Int) ≤ n) →  dt_V mX12_copy (dt_rm 2 0 0) (dt_MC (fun v sh2 σ2 => v = some (dt_I (oCopy A a i b j n).1) ∧ sh2 = dt_SH ++ ex ∧ rEnd σ σ2 (oCopy A a i b j n).2) 0 0) 0 0 143 [some (dt_R 40), some (dt_I a), some (dt_I i), some (dt_I b), some (dt_I j), some (dt_I n), some (dt_I 1), some (dt_I (q : Int)), none] [] (dt_SH ++ ex) (dt_fil σb 43 (b.toNat * 40 + j.toNat) q (fun k => σb 43 (a.toNat * 40 + i.toNat + (k - (b.toNat * 40 + j.toNat))))) := by
                          intro fu
                          induction fu with
                          | zero =>
                            intro q hm hq
                            exfalso
                            omega
                          | succ fu ih =>
                            intro q hm hq
                            refine dt_wfV fun hwf => ?_
                            refine dt_iload dX12_copy_143 rfl ?_
                            refine dt_iload dX12_copy_145 rfl ?_
                            refine dt_cm_ge (tgt := 204) dX12_copy_147 (by decide) (by first | assumption | exact hwf _ _ | exact dt_b32 _ | omega | exact ⟨by omega, by omega⟩ | decide | exact ⟨by simp (disch := omega) only [dt_up_s, dt_up_k, dt_up_n]; omega, by simp (disch := omega) only [dt_up_s, dt_up_k, dt_up_n]; omega⟩) (by first | assumption | exact hwf _ _ | exact dt_b32 _ | omega | exact ⟨by omega, by omega⟩ | decide | exact ⟨by simp (disch := omega) only [dt_up_s, dt_up_k, dt_up_n]; omega, by simp (disch := omega) only [dt_up_s, dt_up_k, dt_up_n]; omega⟩) (fun c14 => ?_) (fun c14 => ?_)
                            · skip
                              refine dt_iload dX12_copy_204 rfl ?_
                              refine dt_iret dX12_copy_206 rfl (by decide) (by decide) ?_
                              obtain ⟨p1, p2⟩ : i + n ≤ qa.2.length ∧ j + n ≤ qb.2.length := ⟨by omega, by omega⟩
                              have e : oCopy A a i b j n = (n, sRs A b.toNat (some (qb.1, qb.2.take j.toNat ++ ((qa.2.drop i.toNat).take n.toNat ++ qb.2.drop (j.toNat + n.toNat)))) 0) := by
                                unfold oCopy
                                rw [if_neg (by omega)]
                                simp only [hqa, hqb]
                                rw [if_neg (by omega), if_pos (by omega)]
                              rw [e]
                              have e9 := dt_spl_len (p := qa.2) (q := qb.2) (i := i.toNat) (j := j.toNat) (n := n.toNat) (by omega) (by omega)
                              have eq1 : n.toNat = q := by omega
                              try rw [show b.toNat * 40 + j.toNat + (n.toNat - q) = b.toNat * 40 + j.toNat by omega]
                              refine ⟨rfl, rfl, hB.rows (hB.1.put (r := b.toNat) ⟨?_, ?_, ?_, ?_, ?_⟩ ?_ ?_ ?_) ?_, ?_⟩
                              · rw [dt_fil_o (by decide)]; exact b1
                              · exact b2
                              · rw [dt_fil_o (by decide)]; exact b3.trans (by rw [← e9])
                              · exact (by rw [e9]; exact b4)
                              · intro k x hx
                                rcases dt_spl (by omega) (by omega) hx with ⟨g1, g2, g3⟩ | ⟨g1, g2⟩
                                · rw [dt_fil_in (by omega) (by omega)]
                                  show σb 43 _ = x
                                  rw [show a.toNat * 40 + i.toNat + (b.toNat * 40 + k - (b.toNat * 40 + j.toNat)) = a.toNat * 40 + (i.toNat + (k - j.toNat)) by omega]
                                  exact a5 _ _ g3
                                · have gk := dt_gl g2
                                  rw [dt_fil_out (by omega)]
                                  exact b5 k x g2
                              · intro q _; rw [dt_fil_o (by decide)]
                              · intro q _; rw [dt_fil_o (by decide)]
                              · intro k hk; rw [dt_fil_out (by omega)]
                              · intro c h2 h3 h4; rw [dt_fil_o h4]
                              · intro c hb; rw [dt_fil_o (by omega)]; exact fb c hb
                            · skip
                              refine dt_iload dX12_copy_150 rfl ?_
                              refine dt_if_eq (tgt := 160) dX12_copy_152 (by decide) (by first | assumption | exact hwf _ _ | exact dt_b32 _ | omega | exact ⟨by omega, by omega⟩ | decide | exact ⟨by simp (disch := omega) only [dt_up_s, dt_up_k, dt_up_n]; omega, by simp (disch := omega) only [dt_up_s, dt_up_k, dt_up_n]; omega⟩) (fun c15 => ?_) (fun c15 => ?_)
                              · skip
                                first | exact absurd c15 (by omega) | exact absurd c15 (by decide) | exact absurd rfl c15
                              · skip
                                refine dt_iload dX12_copy_155 rfl ?_
                                refine dt_goto (tgt := 167) dX12_copy_157 (by decide) ?_
                                refine dt_istore dX12_copy_167 (by decide) rfl ?_
                                dsimp only [List.set]
                                refine dt_aloadn dX12_copy_169 rfl rfl ?_
                                refine dt_getR dX12_copy_170 pg_X12_16_12 rfl rfl ?_
                                refine dt_bipush dX12_copy_173 (by decide) ?_
                                refine dt_iloadn dX12_copy_175 rfl rfl ?_
                                refine dt_imul dX12_copy_176 ?_
                                refine dt_iload dX12_copy_177 rfl ?_
                                refine dt_iadd dX12_copy_179 ?_
                                refine dt_iload dX12_copy_180 rfl ?_
                                refine dt_iadd dX12_copy_182 ?_
                                refine dt_aloadn dX12_copy_183 rfl rfl ?_
                                refine dt_getR dX12_copy_184 pg_X12_16_12 rfl rfl ?_
                                refine dt_bipush dX12_copy_187 (by decide) ?_
                                refine dt_iloadn dX12_copy_189 rfl rfl ?_
                                refine dt_imul dX12_copy_190 ?_
                                refine dt_iloadn dX12_copy_191 rfl rfl ?_
                                refine dt_iadd dX12_copy_192 ?_
                                refine dt_iload dX12_copy_193 rfl ?_
                                refine dt_iadd dX12_copy_195 ?_
                                refine dt_iald dX12_copy_196 rfl (by first | omega | (simp (disch := omega) only [dt_up_s, dt_up_k, dt_up_n]; omega)) (by first | omega | (simp (disch := omega) only [dt_up_s, dt_up_k, dt_up_n]; omega)) (by decide) ?_
                                refine dt_wfV fun hwf => ?_
                                refine dt_iast dX12_copy_197 rfl (by first | omega | (simp (disch := omega) only [dt_up_s, dt_up_k, dt_up_n]; omega)) (by first | omega | (simp (disch := omega) only [dt_up_s, dt_up_k, dt_up_n]; omega)) (by decide) (hwf _ _) ?_
                                rw [dt_fil_out (by omega), show (40 * b + j + (q : Int)).toNat = b.toNat * 40 + j.toNat + q by omega, show (40 * a + i + (q : Int)).toNat = a.toNat * 40 + i.toNat + (b.toNat * 40 + j.toNat + q - (b.toNat * 40 + j.toNat)) by omega]
                                have z := dt_fil_s σb 43 (b.toNat * 40 + j.toNat) q (fun k => σb 43 (a.toNat * 40 + i.toNat + (k - (b.toNat * 40 + j.toNat))))
                                try dsimp only at z
                                rw [z]
                                refine dt_iinc dX12_copy_198 rfl (by decide) rfl ?_
                                dsimp only [List.set]
                                refine dt_goto (tgt := 143) dX12_copy_201 (by decide) ?_
                                exact dt_lb (ih (q + 1) (by omega) (by omega)) ⟨rfl, rfl, rfl, rfl, rfl, rfl, rfl, rfl, trivial⟩
                        have h := lp143 50 0 (by omega) (by omega)
                        rw [dt_fil_0] at h
                        exact dt_lb (h) ⟨rfl, rfl, rfl, rfl, rfl, rfl, rfl, rfl, trivial⟩
                    · skip
                      simp only [dj_cl, dj_cle, dj_cg, dj_cge] at c10
                      refine dt_aloadn dX12_copy_121 rfl rfl ?_
                      refine dt_iconst dX12_copy_122 ?_
                      refine dt_xV dX12_copy_123 pc_X12_74 rfl (s_X12_finding (by first | assumption | exact hwf _ _ | exact dt_b32 _ | omega | exact ⟨by omega, by omega⟩ | decide | exact ⟨by simp (disch := omega) only [dt_up_s, dt_up_k, dt_up_n]; omega, by simp (disch := omega) only [dt_up_s, dt_up_k, dt_up_n]; omega⟩)) rfl rfl ⟨by decide, by decide⟩ rfl rfl (Nat.le_of_ble_eq_true rfl) ⟨by decide, by decide⟩ (dt_k3 ?_)
                      refine dt_iret dX12_copy_126 rfl (by decide) (by decide) ?_
                      have e : oCopy A a i b j n = (-1000012, sSt A 2) := by
                        unfold oCopy
                        rw [if_neg (by omega)]
                        simp only [hqa, hqb]
                        rw [if_neg (by omega), if_neg (by omega)]
                      rw [e]
                      exact ⟨rfl, rfl, hB.st 2, fun b hb => by rw [dt_up_o (by omega)]; exact fb b hb⟩
          · skip
            refine dt_aloadn dX12_copy_66 rfl rfl ?_
            refine dt_iconst dX12_copy_67 ?_
            refine dt_xV dX12_copy_68 pc_X12_74 rfl (s_X12_finding (by first | assumption | exact hwf _ _ | exact dt_b32 _ | omega | exact ⟨by omega, by omega⟩ | decide | exact ⟨by simp (disch := omega) only [dt_up_s, dt_up_k, dt_up_n]; omega, by simp (disch := omega) only [dt_up_s, dt_up_k, dt_up_n]; omega⟩)) rfl rfl ⟨by decide, by decide⟩ rfl rfl (Nat.le_of_ble_eq_true rfl) ⟨by decide, by decide⟩ (dt_k3 ?_)
            refine dt_iret dX12_copy_71 rfl (by decide) (by decide) ?_
            have e : oCopy A a i b j n = (-1000015, sSt A 5) := by
              unfold oCopy
              rw [if_neg (by omega)]
              simp only [hqa, hqb]
              rw [if_pos (by omega)]
            rw [e]
            exact ⟨rfl, rfl, hB.st 5, fun b hb => by rw [dt_up_o (by omega)]; exact fb b hb⟩
        · skip
          have hrb := hB.row (r := b.toNat) (by omega)
          have hqb : sR A b.toNat = none := hrb.neg (by omega)
          have e44 : oCopy A a i b j n = (-1000011, sSt A 1) := by
            unfold oCopy
            rw [if_neg (by omega)]
            simp only [hqa, hqb]
          refine dt_aloadn dX12_copy_45 rfl rfl ?_
          refine dt_iconst dX12_copy_46 ?_
          refine dt_xV dX12_copy_47 pc_X12_74 rfl (s_X12_finding (by first | assumption | exact hwf _ _ | exact dt_b32 _ | omega | exact ⟨by omega, by omega⟩ | decide | exact ⟨by simp (disch := omega) only [dt_up_s, dt_up_k, dt_up_n]; omega, by simp (disch := omega) only [dt_up_s, dt_up_k, dt_up_n]; omega⟩)) rfl rfl ⟨by decide, by decide⟩ rfl rfl (Nat.le_of_ble_eq_true rfl) ⟨by decide, by decide⟩ (dt_k3 ?_)
          refine dt_iret dX12_copy_50 rfl (by decide) (by decide) ?_
          rw [e44]
          exact ⟨rfl, rfl, hB.st 1, fun b hb => by rw [dt_up_o (by omega)]; exact fb b hb⟩
    · skip
      try simp only [dt_b0, dt_b1, Decidable.not_not, Classical.not_not] at c2
      refine dt_ldc dX12_copy_19 pk_X12_73 ?_
      refine dt_iret dX12_copy_21 rfl (by decide) (by decide) ?_
      have e : oCopy A a i b j n = (-1000001, A) := by
        unfold oCopy
        rw [if_pos (by omega)]
      rw [e]
      exact ⟨rfl, rfl, hA, fa⟩
theorem s_X12_status {ex : List dt_Shp} {σ : dt_Mem} {A : dS} (hI : rInv σ A) : dt_Sp mX12_status 0 0 0 [dt_R 40] (dt_SH ++ ex) σ (fun v sh2 σ2 => v = some (dt_I (sS A)) ∧ sh2 = dt_SH ++ ex ∧ rEnd σ σ2 A) := by
  refine dt_Sp_of (by decide) (Nat.le_of_ble_eq_true rfl) ?_
  refine dt_wfV fun hwf => ?_
  show dt_V _ _ _ 0 0 0 [some (dt_R 40)] [] _ _
  refine dt_aloadn dX12_status_0 rfl rfl ?_
  refine dt_iconst dX12_status_1 ?_
  refine dt_wfV fun hwf => ?_
  refine dt_putI dX12_status_2 pw_X12_53_12 rfl rfl (by first | assumption | exact hwf _ _ | exact dt_b32 _ | omega | exact ⟨by omega, by omega⟩ | decide | exact ⟨by simp (disch := omega) only [dt_up_s, dt_up_k, dt_up_n]; omega, by simp (disch := omega) only [dt_up_s, dt_up_k, dt_up_n]; omega⟩) ?_
  obtain ⟨σa, ea⟩ : ∃ z, z = dt_up σ 40 0 0 := ⟨_, rfl⟩
  rw [← ea]
  have hA := hI.up40 0 0 (by decide)
  rw [← ea] at hA
  have fa : ∀ b, (b < 40 ∨ 55 ≤ b) → σa b = σ b := fun b hb => by rw [ea]; exact dt_up_o (by omega)
  clear ea
  refine dt_wfV fun hwf => ?_
  refine dt_aloadn dX12_status_5 rfl rfl ?_
  refine dt_getI dX12_status_6 pg_X12_57_12 rfl rfl ?_
  refine dt_iret dX12_status_9 rfl (by decide) (by decide) ?_
  exact ⟨by rw [hA.2.2.2.2.2.2.1], rfl, hA, fa⟩
theorem s_X12_fault {ex : List dt_Shp} {σ : dt_Mem} {A : dS} (hI : rInv σ A) : dt_Sp mX12_fault 0 0 0 [dt_R 40] (dt_SH ++ ex) σ (fun v sh2 σ2 => v = some (dt_I (sF A)) ∧ sh2 = dt_SH ++ ex ∧ rEnd σ σ2 A) := by
  refine dt_Sp_of (by decide) (Nat.le_of_ble_eq_true rfl) ?_
  refine dt_wfV fun hwf => ?_
  show dt_V _ _ _ 0 0 0 [some (dt_R 40)] [] _ _
  refine dt_aloadn dX12_fault_0 rfl rfl ?_
  refine dt_iconst dX12_fault_1 ?_
  refine dt_wfV fun hwf => ?_
  refine dt_putI dX12_fault_2 pw_X12_53_12 rfl rfl (by first | assumption | exact hwf _ _ | exact dt_b32 _ | omega | exact ⟨by omega, by omega⟩ | decide | exact ⟨by simp (disch := omega) only [dt_up_s, dt_up_k, dt_up_n]; omega, by simp (disch := omega) only [dt_up_s, dt_up_k, dt_up_n]; omega⟩) ?_
  obtain ⟨σa, ea⟩ : ∃ z, z = dt_up σ 40 0 0 := ⟨_, rfl⟩
  rw [← ea]
  have hA := hI.up40 0 0 (by decide)
  rw [← ea] at hA
  have fa : ∀ b, (b < 40 ∨ 55 ≤ b) → σa b = σ b := fun b hb => by rw [ea]; exact dt_up_o (by omega)
  clear ea
  refine dt_wfV fun hwf => ?_
  refine dt_aloadn dX12_fault_5 rfl rfl ?_
  refine dt_getI dX12_fault_6 pg_X12_175_12 rfl rfl ?_
  refine dt_iret dX12_fault_9 rfl (by decide) (by decide) ?_
  exact ⟨by rw [hA.2.2.2.2.2.1], rfl, hA, fa⟩
