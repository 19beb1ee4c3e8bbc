
/-! the constructors: cells made one behind the other, all places 0 but where it is said -/
def dk (σ0 σ : dt_Mem) (lo hi : Nat) : Prop := (∀ b, b < lo → σ b = σ0 b) ∧ ∀ b k, lo ≤ b → b < hi → b ≠ 2 → b ≠ 41 → σ b k = 0
theorem dk.b {σ : dt_Mem} {lo : Nat} (h : ∀ k, σ lo k = 0) : dk σ σ lo (lo + 1) := ⟨fun _ _ => rfl, fun b k h1 h2 _ _ => by rw [show b = lo by omega]; exact h k⟩
theorem dk.zr {σ0 σ : dt_Mem} {lo hi n : Nat} (h : dk σ0 σ lo hi) (hl : lo ≤ hi) (e : n = hi) : dk σ0 (dt_zr σ n) lo (hi + 1) := by
  subst e
  refine ⟨fun b hb => (dt_zr_n (by omega)).trans (h.1 b hb), fun b k h1 h2 h3 h4 => ?_⟩
  by_cases g : b = n
  · rw [g]; exact dt_zr_s
  · rw [dt_zr_n g]; exact h.2 b k h1 (by omega) h3 h4
theorem dk.up {σ0 σ : dt_Mem} {lo hi a n : Nat} (h : dk σ0 σ lo hi) (hl : lo ≤ a) : dk σ0 (dt_up σ a n 0) lo hi := by
  refine ⟨fun b hb => (dt_up_o (by omega)).trans (h.1 b hb), fun b k h1 h2 h3 h4 => ?_⟩
  by_cases g : b = a
  · subst g
    by_cases g2 : k = n
    · subst g2; exact dt_up_s
    · rw [dt_up_k g2]; exact h.2 b k h1 h2 h3 h4
  · rw [dt_up_o g]; exact h.2 b k h1 h2 h3 h4
theorem dk.u2 {σ0 σ : dt_Mem} {lo hi a n : Nat} {v : Int} (h : dk σ0 σ lo hi) (ha : a = 2 ∨ a = 41) (hl : lo ≤ a) : dk σ0 (dt_up σ a n v) lo hi :=
  ⟨fun b hb => (dt_up_o (by omega)).trans (h.1 b hb), fun b k h1 h2 h3 h4 => by rw [dt_up_o (by omega)]; exact h.2 b k h1 h2 h3 h4⟩
theorem dk.fl {σ0 σ : dt_Mem} {lo hi l i : Nat} {v : Nat → Int} (h : dk σ0 σ lo hi) (hl : lo ≤ 2) : dk σ0 (dt_fil σ 2 l i v) lo hi :=
  ⟨fun b hb => (dt_fil_o (by omega)).trans (h.1 b hb), fun b k h1 h2 h3 h4 => by rw [dt_fil_o h3]; exact h.2 b k h1 h2 h3 h4⟩
theorem dk.tr {σ0 σ σ2 : dt_Mem} {lo m hi n : Nat} (h : dk σ0 σ lo m) (g : dk (dt_zr σ n) σ2 m hi) (e : n = m) (hl : lo ≤ m) : dk σ0 σ2 lo hi := by
  subst e
  refine ⟨fun b hb => (g.1 b (by omega)).trans ((dt_zr_n (by omega)).trans (h.1 b hb)), fun b k h1 h2 h3 h4 => ?_⟩
  by_cases q : b < n
  · rw [g.1 b q, dt_zr_n (by omega)]; exact h.2 b k h1 q h3 h4
  · exact g.2 b k (by omega) h2 h3 h4
theorem dk.lo {σ σ2 : dt_Mem} {m hi n b : Nat} (g : dk (dt_zr σ n) σ2 m hi) (e : n = m) (h : b < m) : σ2 b = σ b := (g.1 b h).trans (dt_zr_n (by omega))
theorem s_X7_init {σ : dt_Mem} (hz : ∀ k, σ 1 k = 0) : dt_Sp mX7_init 1 3 336 [dt_R 1] [.inl (11, [3, 3, 3, 3, 3, 3, 3, 3, 3, 0, 0]), .inl (7, [3, 3, 3])] σ (fun v sh2 σ2 => v = none ∧ sh2 = [.inl (11, [3, 3, 3, 3, 3, 3, 3, 3, 3, 0, 0]), .inl (7, [6, 7, 8]), .inr (0, 8), .inr (0, 8), .inr (0, 320)] ∧ dk σ σ2 1 5 ∧ ∀ r, r < 8 → σ2 2 r = -1) := by
  refine dt_Sp_of (by decide) (Nat.le_of_ble_eq_true rfl) ?_
  refine dt_wfV fun hwf => ?_
  have hz1 := dk.b hz
  show dt_V _ _ _ 0 0 0 [some (dt_R 1), none] [] _ _
  refine dt_aloadn dX7_init_0 rfl rfl ?_
  refine dt_obj dX7_init_1 po_X7_1 pob_i pob_c (by decide) (by decide) ?_
  refine dt_aloadn dX7_init_4 rfl rfl ?_
  refine dt_bipush dX7_init_5 (by decide) ?_
  refine dt_newa0 (ty := 0) dX7_init_7 (Or.inl ⟨rfl, rfl⟩) (by decide) (by decide) (by decide) (by decide) pa_I ?_
  refine dt_wk (kc' := 1) (ks' := 8) (Nat.le_of_ble_eq_true rfl) (Nat.le_of_ble_eq_true rfl) ?_
  dsimp only [List.cons_append, List.nil_append, List.length_cons, List.length_nil, Nat.reduceAdd]
  refine dt_fputR dX7_init_9 pf_X7_9_7 rfl ⟨rfl, fun _ => rfl⟩ rfl rfl ?_
  dsimp only [List.set, Nat.reduceAdd]
  refine dt_aloadn dX7_init_12 rfl rfl ?_
  refine dt_bipush dX7_init_13 (by decide) ?_
  refine dt_newa0 (ty := 0) dX7_init_15 (Or.inl ⟨rfl, rfl⟩) (by decide) (by decide) (by decide) (by decide) pa_I ?_
  refine dt_wk (kc' := 2) (ks' := 16) (Nat.le_of_ble_eq_true rfl) (Nat.le_of_ble_eq_true rfl) ?_
  dsimp only [List.cons_append, List.nil_append, List.length_cons, List.length_nil, Nat.reduceAdd]
  refine dt_fputR dX7_init_17 pf_X7_13_7 rfl ⟨rfl, fun _ => rfl⟩ rfl rfl ?_
  dsimp only [List.set, Nat.reduceAdd]
  refine dt_aloadn dX7_init_20 rfl rfl ?_
  refine dt_sipush dX7_init_21 (by decide) ?_
  refine dt_newa0 (ty := 0) dX7_init_24 (Or.inl ⟨rfl, rfl⟩) (by decide) (by decide) (by decide) (by decide) pa_I ?_
  refine dt_wk (kc' := 3) (ks' := 336) (Nat.le_of_ble_eq_true rfl) (Nat.le_of_ble_eq_true rfl) ?_
  dsimp only [List.cons_append, List.nil_append, List.length_cons, List.length_nil, Nat.reduceAdd]
  refine dt_fputR dX7_init_26 pf_X7_16_7 rfl ⟨rfl, fun _ => rfl⟩ rfl rfl ?_
  dsimp only [List.set, Nat.reduceAdd]
  show dt_V _ _ _ _ _ 29 _ [] _ (dt_up (dt_zr (dt_up (dt_zr (dt_up (dt_zr σ 2) 1 0 0) 3) 1 1 0) 4) 1 2 0)
  obtain ⟨σr, er⟩ : ∃ z, z = (dt_up (dt_zr (dt_up (dt_zr (dt_up (dt_zr σ 2) 1 0 0) 3) 1 1 0) 4) 1 2 0) := ⟨_, rfl⟩
  rw [← er]
  have hr : dk σ σr 1 5 := by
    rw [er]
    exact ((((((hz1.zr (by decide) rfl).up (by decide)).zr (by decide) rfl).up (by decide)).zr (by decide) rfl).up (by decide))
  clear er
  refine dt_iconst dX7_init_29 ?_
  refine dt_istoren dX7_init_30 rfl (by decide) rfl ?_
  dsimp only [List.set, Nat.reduceAdd]
  have lp31 : ∀ (fu : Nat) (i : Nat), 8 - (i : Int) < (fu : Int) → (i ≤ 8) →  dt_V mX7_init (dt_rm 1 3 336) (dt_MC (fun v sh2 σ2 => v = none ∧ sh2 = [.inl (11, [3, 3, 3, 3, 3, 3, 3, 3, 3, 0, 0]), .inl (7, [6, 7, 8]), .inr (0, 8), .inr (0, 8), .inr (0, 320)] ∧ dk σ σ2 1 5 ∧ ∀ r, r < 8 → σ2 2 r = -1) 3 336) 3 336 31 [some (dt_R 1), some (dt_I (i : Int))] [] [.inl (11, [3, 3, 3, 3, 3, 3, 3, 3, 3, 0, 0]), .inl (7, [6, 7, 8]), .inr (0, 8), .inr (0, 8), .inr (0, 320)] (dt_fil σr 2 0 i (fun _ => -1)) := by
    intro fu
    induction fu with
    | zero =>
      intro i hm hi
      exfalso
      omega
    | succ fu ih =>
      intro i hm hi
      refine dt_wfV fun hwf => ?_
      refine dt_iloadn dX7_init_31 rfl rfl ?_
      refine dt_aloadn dX7_init_32 rfl rfl ?_
      refine dt_getR dX7_init_33 pg_X7_9_7 rfl rfl ?_
      refine dt_alen dX7_init_36 rfl (by decide) ?_
      refine dt_cm_ge (tgt := 53) dX7_init_37 (by decide) (by first | assumption | exact hwf _ _ | exact dt_b32 _ | omega | exact ⟨by omega, by omega⟩ | decide | exact ⟨by simp (disch := omega) only [dt_up_s, dt_up_k, dt_up_n]; omega, by simp (disch := omega) only [dt_up_s, dt_up_k, dt_up_n]; omega⟩) (by first | assumption | exact hwf _ _ | exact dt_b32 _ | omega | exact ⟨by omega, by omega⟩ | decide | exact ⟨by simp (disch := omega) only [dt_up_s, dt_up_k, dt_up_n]; omega, by simp (disch := omega) only [dt_up_s, dt_up_k, dt_up_n]; omega⟩) (fun c1 => ?_) (fun c1 => ?_)
      · skip
        refine dt_vret dX7_init_53 rfl (by decide) (by decide) ?_
        rw [show i = 8 by omega]
        exact ⟨rfl, rfl, hr.fl (by decide), fun r h => dt_fil_in (by omega) (by omega)⟩
      · skip
        refine dt_aloadn dX7_init_40 rfl rfl ?_
        refine dt_getR dX7_init_41 pg_X7_9_7 rfl rfl ?_
        refine dt_iloadn dX7_init_44 rfl rfl ?_
        refine dt_iconst dX7_init_45 ?_
        refine dt_wfV fun hwf => ?_
        refine dt_iast dX7_init_46 rfl (by first | omega | (simp (disch := omega) only [dt_up_s, dt_up_k, dt_up_n]; omega)) (by first | omega | (simp (disch := omega) only [dt_up_s, dt_up_k, dt_up_n]; omega)) (by decide) (by first | assumption | exact hwf _ _ | exact dt_b32 _ | omega | exact ⟨by omega, by omega⟩ | decide | exact ⟨by simp (disch := omega) only [dt_up_s, dt_up_k, dt_up_n]; omega, by simp (disch := omega) only [dt_up_s, dt_up_k, dt_up_n]; omega⟩) ?_
        rw [show ((i : Int)).toNat = 0 + i by omega, show (-1 : Int) = (fun _ : Nat => (-1 : Int)) (0 + i) from rfl, dt_fil_s]
        refine dt_iinc dX7_init_47 rfl (by decide) rfl ?_
        dsimp only [List.set, Nat.reduceAdd]
        refine dt_goto (tgt := 31) dX7_init_50 (by decide) ?_
        exact dt_lb (ih (i + 1) (by omega) (by omega)) ⟨rfl, rfl, trivial⟩
  have h := lp31 50 0 (by omega) (by omega)
  rw [dt_fil_0] at h
  exact dt_lb (h) ⟨rfl, rfl, trivial⟩
theorem s_X9_empty0 {σ σ0 : dt_Mem} (hz1 : dk σ0 σ 5 7) : dt_Sp mX9_empty 0 0 0 [dt_R 5] [.inl (11, [5, 3, 3, 3, 3, 3, 3, 3, 3, 0, 0]), .inl (7, [6, 7, 8]), .inr (0, 8), .inr (0, 8), .inr (0, 320), .inl (9, [10, 0, 0, 0, 0]), .inr (0, 500)] σ (fun v sh2 σ2 => v = none ∧ sh2 = [.inl (11, [5, 3, 3, 3, 3, 3, 3, 3, 3, 0, 0]), .inl (7, [6, 7, 8]), .inr (0, 8), .inr (0, 8), .inr (0, 320), .inl (9, [10, 0, 0, 0, 0]), .inr (0, 500)] ∧ dk σ0 σ2 5 7) := by
  refine dt_Sp_of (by decide) (Nat.le_of_ble_eq_true rfl) ?_
  refine dt_wfV fun hwf => ?_
  show dt_V _ _ _ 0 0 0 [some (dt_R 5)] [] _ _
  refine dt_aloadn dX9_empty_0 rfl rfl ?_
  refine dt_iconst dX9_empty_1 ?_
  refine dt_wfV fun hwf => ?_
  refine dt_putI dX9_empty_2 pw_X9_18_9 rfl rfl (by first | assumption | exact hwf _ _ | exact dt_b32 _ | omega | exact ⟨by omega, by omega⟩ | decide | exact ⟨by simp (disch := omega) only [dt_up_s, dt_up_k, dt_up_n]; omega, by simp (disch := omega) only [dt_up_s, dt_up_k, dt_up_n]; omega⟩) ?_
  refine dt_aloadn dX9_empty_5 rfl rfl ?_
  refine dt_iconst dX9_empty_6 ?_
  refine dt_wfV fun hwf => ?_
  refine dt_putI dX9_empty_7 pw_X9_22_9 rfl rfl (by first | assumption | exact hwf _ _ | exact dt_b32 _ | omega | exact ⟨by omega, by omega⟩ | decide | exact ⟨by simp (disch := omega) only [dt_up_s, dt_up_k, dt_up_n]; omega, by simp (disch := omega) only [dt_up_s, dt_up_k, dt_up_n]; omega⟩) ?_
  refine dt_aloadn dX9_empty_10 rfl rfl ?_
  refine dt_iconst dX9_empty_11 ?_
  refine dt_wfV fun hwf => ?_
  refine dt_putI dX9_empty_12 pw_X9_25_9 rfl rfl (by first | assumption | exact hwf _ _ | exact dt_b32 _ | omega | exact ⟨by omega, by omega⟩ | decide | exact ⟨by simp (disch := omega) only [dt_up_s, dt_up_k, dt_up_n]; omega, by simp (disch := omega) only [dt_up_s, dt_up_k, dt_up_n]; omega⟩) ?_
  refine dt_aloadn dX9_empty_15 rfl rfl ?_
  refine dt_iconst dX9_empty_16 ?_
  refine dt_wfV fun hwf => ?_
  refine dt_putI dX9_empty_17 pw_X9_28_9 rfl rfl (by first | assumption | exact hwf _ _ | exact dt_b32 _ | omega | exact ⟨by omega, by omega⟩ | decide | exact ⟨by simp (disch := omega) only [dt_up_s, dt_up_k, dt_up_n]; omega, by simp (disch := omega) only [dt_up_s, dt_up_k, dt_up_n]; omega⟩) ?_
  refine dt_vret dX9_empty_20 rfl (by decide) (by decide) ?_
  exact ⟨rfl, rfl, ((((hz1.up (by decide)).up (by decide)).up (by decide)).up (by decide))⟩
theorem s_X9_init {σ : dt_Mem} (hz : ∀ k, σ 5 k = 0) : dt_Sp mX9_init 1 1 500 [dt_R 5] [.inl (11, [5, 3, 3, 3, 3, 3, 3, 3, 3, 0, 0]), .inl (7, [6, 7, 8]), .inr (0, 8), .inr (0, 8), .inr (0, 320), .inl (9, [3, 0, 0, 0, 0])] σ (fun v sh2 σ2 => v = none ∧ sh2 = [.inl (11, [5, 3, 3, 3, 3, 3, 3, 3, 3, 0, 0]), .inl (7, [6, 7, 8]), .inr (0, 8), .inr (0, 8), .inr (0, 320), .inl (9, [10, 0, 0, 0, 0]), .inr (0, 500)] ∧ dk σ σ2 5 7) := by
  refine dt_Sp_of (by decide) (Nat.le_of_ble_eq_true rfl) ?_
  refine dt_wfV fun hwf => ?_
  have hz1 := dk.b hz
  show dt_V _ _ _ 0 0 0 [some (dt_R 5)] [] _ _
  refine dt_aloadn dX9_init_0 rfl rfl ?_
  refine dt_obj dX9_init_1 po_X9_3 pob_i pob_c (by decide) (by decide) ?_
  refine dt_aloadn dX9_init_4 rfl rfl ?_
  refine dt_sipush dX9_init_5 (by decide) ?_
  refine dt_newa0 (ty := 0) dX9_init_8 (Or.inl ⟨rfl, rfl⟩) (by decide) (by decide) (by decide) (by decide) pa_I ?_
  refine dt_wk (kc' := 1) (ks' := 500) (Nat.le_of_ble_eq_true rfl) (Nat.le_of_ble_eq_true rfl) ?_
  dsimp only [List.cons_append, List.nil_append, List.length_cons, List.length_nil, Nat.reduceAdd]
  refine dt_fputR dX9_init_10 pf_X9_11_9 rfl ⟨rfl, fun _ => rfl⟩ rfl rfl ?_
  dsimp only [List.set, Nat.reduceAdd]
  show dt_V _ _ _ _ _ 13 _ [] _ (dt_up (dt_zr σ 6) 5 0 0)
  refine dt_aloadn dX9_init_13 rfl rfl ?_
  have hk0 : dk σ (dt_up (dt_zr σ 6) 5 0 0) 5 7 := ((hz1.zr (by decide) rfl).up (by decide))
  refine dt_xV dX9_init_14 pc_X9_15 rfl (s_X9_empty0 hk0) rfl rfl ⟨by decide, by decide⟩ rfl rfl (Nat.le_of_ble_eq_true rfl) ⟨by decide, by decide⟩ ?_
  intro v1 sh1 σ1 hq1
  obtain ⟨rfl, hs1, hk1⟩ := hq1
  obtain rfl := hs1.symm
  refine dt_vret dX9_init_17 rfl (by decide) (by decide) ?_
  exact ⟨rfl, rfl, hk1⟩
theorem s_X6_init_7 {σ : dt_Mem} (hz : ∀ k, σ 7 k = 0) : dt_Sp mX6_init 1 5 295 [dt_R 7] [.inl (11, [5, 9, 3, 3, 3, 3, 3, 3, 3, 0, 0]), .inl (7, [6, 7, 8]), .inr (0, 8), .inr (0, 8), .inr (0, 320), .inl (9, [10, 0, 0, 0, 0]), .inr (0, 500), .inl (6, [3, 3, 3, 3, 3, 0, 0, 0])] σ (fun v sh2 σ2 => v = none ∧ sh2 = [.inl (11, [5, 9, 3, 3, 3, 3, 3, 3, 3, 0, 0]), .inl (7, [6, 7, 8]), .inr (0, 8), .inr (0, 8), .inr (0, 320), .inl (9, [10, 0, 0, 0, 0]), .inr (0, 500), .inl (6, [12, 13, 14, 15, 16, 0, 0, 0]), .inr (0, 7), .inr (0, 56), .inr (0, 56), .inr (0, 168), .inr (0, 8)] ∧ dk σ σ2 7 13) := by
  refine dt_Sp_of (by decide) (Nat.le_of_ble_eq_true rfl) ?_
  refine dt_wfV fun hwf => ?_
  have hz1 := dk.b hz
  show dt_V _ _ _ 0 0 0 [some (dt_R 7)] [] _ _
  refine dt_aloadn dX6_init_0 rfl rfl ?_
  refine dt_obj dX6_init_1 po_X6_3 pob_i pob_c (by decide) (by decide) ?_
  refine dt_aloadn dX6_init_4 rfl rfl ?_
  refine dt_bipush dX6_init_5 (by decide) ?_
  refine dt_newa0 (ty := 0) dX6_init_7 (Or.inl ⟨rfl, rfl⟩) (by decide) (by decide) (by decide) (by decide) pa_I ?_
  refine dt_wk (kc' := 1) (ks' := 7) (Nat.le_of_ble_eq_true rfl) (Nat.le_of_ble_eq_true rfl) ?_
  dsimp only [List.cons_append, List.nil_append, List.length_cons, List.length_nil, Nat.reduceAdd]
  refine dt_fputR dX6_init_9 pf_X6_9_6 rfl ⟨rfl, fun _ => rfl⟩ rfl rfl ?_
  dsimp only [List.set, Nat.reduceAdd]
  refine dt_aloadn dX6_init_12 rfl rfl ?_
  refine dt_bipush dX6_init_13 (by decide) ?_
  refine dt_newa0 (ty := 0) dX6_init_15 (Or.inl ⟨rfl, rfl⟩) (by decide) (by decide) (by decide) (by decide) pa_I ?_
  refine dt_wk (kc' := 2) (ks' := 63) (Nat.le_of_ble_eq_true rfl) (Nat.le_of_ble_eq_true rfl) ?_
  dsimp only [List.cons_append, List.nil_append, List.length_cons, List.length_nil, Nat.reduceAdd]
  refine dt_fputR dX6_init_17 pf_X6_15_6 rfl ⟨rfl, fun _ => rfl⟩ rfl rfl ?_
  dsimp only [List.set, Nat.reduceAdd]
  refine dt_aloadn dX6_init_20 rfl rfl ?_
  refine dt_bipush dX6_init_21 (by decide) ?_
  refine dt_newa0 (ty := 0) dX6_init_23 (Or.inl ⟨rfl, rfl⟩) (by decide) (by decide) (by decide) (by decide) pa_I ?_
  refine dt_wk (kc' := 3) (ks' := 119) (Nat.le_of_ble_eq_true rfl) (Nat.le_of_ble_eq_true rfl) ?_
  dsimp only [List.cons_append, List.nil_append, List.length_cons, List.length_nil, Nat.reduceAdd]
  refine dt_fputR dX6_init_25 pf_X6_18_6 rfl ⟨rfl, fun _ => rfl⟩ rfl rfl ?_
  dsimp only [List.set, Nat.reduceAdd]
  refine dt_aloadn dX6_init_28 rfl rfl ?_
  refine dt_sipush dX6_init_29 (by decide) ?_
  refine dt_newa0 (ty := 0) dX6_init_32 (Or.inl ⟨rfl, rfl⟩) (by decide) (by decide) (by decide) (by decide) pa_I ?_
  refine dt_wk (kc' := 4) (ks' := 287) (Nat.le_of_ble_eq_true rfl) (Nat.le_of_ble_eq_true rfl) ?_
  dsimp only [List.cons_append, List.nil_append, List.length_cons, List.length_nil, Nat.reduceAdd]
  refine dt_fputR dX6_init_34 pf_X6_21_6 rfl ⟨rfl, fun _ => rfl⟩ rfl rfl ?_
  dsimp only [List.set, Nat.reduceAdd]
  refine dt_aloadn dX6_init_37 rfl rfl ?_
  refine dt_bipush dX6_init_38 (by decide) ?_
  refine dt_newa0 (ty := 0) dX6_init_40 (Or.inl ⟨rfl, rfl⟩) (by decide) (by decide) (by decide) (by decide) pa_I ?_
  refine dt_wk (kc' := 5) (ks' := 295) (Nat.le_of_ble_eq_true rfl) (Nat.le_of_ble_eq_true rfl) ?_
  dsimp only [List.cons_append, List.nil_append, List.length_cons, List.length_nil, Nat.reduceAdd]
  refine dt_fputR dX6_init_42 pf_X6_24_6 rfl ⟨rfl, fun _ => rfl⟩ rfl rfl ?_
  dsimp only [List.set, Nat.reduceAdd]
  refine dt_aloadn dX6_init_45 rfl rfl ?_
  refine dt_iconst dX6_init_46 ?_
  refine dt_wfV fun hwf => ?_
  refine dt_putI dX6_init_47 pw_X6_27_6 rfl rfl (by first | assumption | exact hwf _ _ | exact dt_b32 _ | omega | exact ⟨by omega, by omega⟩ | decide | exact ⟨by simp (disch := omega) only [dt_up_s, dt_up_k, dt_up_n]; omega, by simp (disch := omega) only [dt_up_s, dt_up_k, dt_up_n]; omega⟩) ?_
  refine dt_aloadn dX6_init_50 rfl rfl ?_
  refine dt_iconst dX6_init_51 ?_
  refine dt_wfV fun hwf => ?_
  refine dt_putI dX6_init_52 pw_X6_31_6 rfl rfl (by first | assumption | exact hwf _ _ | exact dt_b32 _ | omega | exact ⟨by omega, by omega⟩ | decide | exact ⟨by simp (disch := omega) only [dt_up_s, dt_up_k, dt_up_n]; omega, by simp (disch := omega) only [dt_up_s, dt_up_k, dt_up_n]; omega⟩) ?_
  refine dt_aloadn dX6_init_55 rfl rfl ?_
  refine dt_iconst dX6_init_56 ?_
  refine dt_wfV fun hwf => ?_
  refine dt_putI dX6_init_57 pw_X6_34_6 rfl rfl (by first | assumption | exact hwf _ _ | exact dt_b32 _ | omega | exact ⟨by omega, by omega⟩ | decide | exact ⟨by simp (disch := omega) only [dt_up_s, dt_up_k, dt_up_n]; omega, by simp (disch := omega) only [dt_up_s, dt_up_k, dt_up_n]; omega⟩) ?_
  refine dt_vret dX6_init_60 rfl (by decide) (by decide) ?_
  exact ⟨rfl, rfl, (((((((((((((hz1.zr (by decide) rfl).up (by decide)).zr (by decide) rfl).up (by decide)).zr (by decide) rfl).up (by decide)).zr (by decide) rfl).up (by decide)).zr (by decide) rfl).up (by decide)).up (by decide)).up (by decide)).up (by decide))⟩
theorem s_X6_init_13 {σ : dt_Mem} (hz : ∀ k, σ 13 k = 0) : dt_Sp mX6_init 1 5 295 [dt_R 13] [.inl (11, [5, 9, 11, 3, 3, 3, 3, 3, 3, 0, 0]), .inl (7, [6, 7, 8]), .inr (0, 8), .inr (0, 8), .inr (0, 320), .inl (9, [10, 0, 0, 0, 0]), .inr (0, 500), .inl (6, [12, 13, 14, 15, 16, 0, 0, 0]), .inr (0, 7), .inr (0, 56), .inr (0, 56), .inr (0, 168), .inr (0, 8), .inl (6, [3, 3, 3, 3, 3, 0, 0, 0])] σ (fun v sh2 σ2 => v = none ∧ sh2 = [.inl (11, [5, 9, 11, 3, 3, 3, 3, 3, 3, 0, 0]), .inl (7, [6, 7, 8]), .inr (0, 8), .inr (0, 8), .inr (0, 320), .inl (9, [10, 0, 0, 0, 0]), .inr (0, 500), .inl (6, [12, 13, 14, 15, 16, 0, 0, 0]), .inr (0, 7), .inr (0, 56), .inr (0, 56), .inr (0, 168), .inr (0, 8), .inl (6, [18, 19, 20, 21, 22, 0, 0, 0]), .inr (0, 7), .inr (0, 56), .inr (0, 56), .inr (0, 168), .inr (0, 8)] ∧ dk σ σ2 13 19) := by
  refine dt_Sp_of (by decide) (Nat.le_of_ble_eq_true rfl) ?_
  refine dt_wfV fun hwf => ?_
  have hz1 := dk.b hz
  show dt_V _ _ _ 0 0 0 [some (dt_R 13)] [] _ _
  refine dt_aloadn dX6_init_0 rfl rfl ?_
  refine dt_obj dX6_init_1 po_X6_3 pob_i pob_c (by decide) (by decide) ?_
  refine dt_aloadn dX6_init_4 rfl rfl ?_
  refine dt_bipush dX6_init_5 (by decide) ?_
  refine dt_newa0 (ty := 0) dX6_init_7 (Or.inl ⟨rfl, rfl⟩) (by decide) (by decide) (by decide) (by decide) pa_I ?_
  refine dt_wk (kc' := 1) (ks' := 7) (Nat.le_of_ble_eq_true rfl) (Nat.le_of_ble_eq_true rfl) ?_
  dsimp only [List.cons_append, List.nil_append, List.length_cons, List.length_nil, Nat.reduceAdd]
  refine dt_fputR dX6_init_9 pf_X6_9_6 rfl ⟨rfl, fun _ => rfl⟩ rfl rfl ?_
  dsimp only [List.set, Nat.reduceAdd]
  refine dt_aloadn dX6_init_12 rfl rfl ?_
  refine dt_bipush dX6_init_13 (by decide) ?_
  refine dt_newa0 (ty := 0) dX6_init_15 (Or.inl ⟨rfl, rfl⟩) (by decide) (by decide) (by decide) (by decide) pa_I ?_
  refine dt_wk (kc' := 2) (ks' := 63) (Nat.le_of_ble_eq_true rfl) (Nat.le_of_ble_eq_true rfl) ?_
  dsimp only [List.cons_append, List.nil_append, List.length_cons, List.length_nil, Nat.reduceAdd]
  refine dt_fputR dX6_init_17 pf_X6_15_6 rfl ⟨rfl, fun _ => rfl⟩ rfl rfl ?_
  dsimp only [List.set, Nat.reduceAdd]
  refine dt_aloadn dX6_init_20 rfl rfl ?_
  refine dt_bipush dX6_init_21 (by decide) ?_
  refine dt_newa0 (ty := 0) dX6_init_23 (Or.inl ⟨rfl, rfl⟩) (by decide) (by decide) (by decide) (by decide) pa_I ?_
  refine dt_wk (kc' := 3) (ks' := 119) (Nat.le_of_ble_eq_true rfl) (Nat.le_of_ble_eq_true rfl) ?_
  dsimp only [List.cons_append, List.nil_append, List.length_cons, List.length_nil, Nat.reduceAdd]
  refine dt_fputR dX6_init_25 pf_X6_18_6 rfl ⟨rfl, fun _ => rfl⟩ rfl rfl ?_
  dsimp only [List.set, Nat.reduceAdd]
  refine dt_aloadn dX6_init_28 rfl rfl ?_
  refine dt_sipush dX6_init_29 (by decide) ?_
  refine dt_newa0 (ty := 0) dX6_init_32 (Or.inl ⟨rfl, rfl⟩) (by decide) (by decide) (by decide) (by decide) pa_I ?_
  refine dt_wk (kc' := 4) (ks' := 287) (Nat.le_of_ble_eq_true rfl) (Nat.le_of_ble_eq_true rfl) ?_
  dsimp only [List.cons_append, List.nil_append, List.length_cons, List.length_nil, Nat.reduceAdd]
  refine dt_fputR dX6_init_34 pf_X6_21_6 rfl ⟨rfl, fun _ => rfl⟩ rfl rfl ?_
  dsimp only [List.set, Nat.reduceAdd]
  refine dt_aloadn dX6_init_37 rfl rfl ?_
  refine dt_bipush dX6_init_38 (by decide) ?_
  refine dt_newa0 (ty := 0) dX6_init_40 (Or.inl ⟨rfl, rfl⟩) (by decide) (by decide) (by decide) (by decide) pa_I ?_
  refine dt_wk (kc' := 5) (ks' := 295) (Nat.le_of_ble_eq_true rfl) (Nat.le_of_ble_eq_true rfl) ?_
  dsimp only [List.cons_append, List.nil_append, List.length_cons, List.length_nil, Nat.reduceAdd]
  refine dt_fputR dX6_init_42 pf_X6_24_6 rfl ⟨rfl, fun _ => rfl⟩ rfl rfl ?_
  dsimp only [List.set, Nat.reduceAdd]
  refine dt_aloadn dX6_init_45 rfl rfl ?_
  refine dt_iconst dX6_init_46 ?_
  refine dt_wfV fun hwf => ?_
  refine dt_putI dX6_init_47 pw_X6_27_6 rfl rfl (by first | assumption | exact hwf _ _ | exact dt_b32 _ | omega | exact ⟨by omega, by omega⟩ | decide | exact ⟨by simp (disch := omega) only [dt_up_s, dt_up_k, dt_up_n]; omega, by simp (disch := omega) only [dt_up_s, dt_up_k, dt_up_n]; omega⟩) ?_
  refine dt_aloadn dX6_init_50 rfl rfl ?_
  refine dt_iconst dX6_init_51 ?_
  refine dt_wfV fun hwf => ?_
  refine dt_putI dX6_init_52 pw_X6_31_6 rfl rfl (by first | assumption | exact hwf _ _ | exact dt_b32 _ | omega | exact ⟨by omega, by omega⟩ | decide | exact ⟨by simp (disch := omega) only [dt_up_s, dt_up_k, dt_up_n]; omega, by simp (disch := omega) only [dt_up_s, dt_up_k, dt_up_n]; omega⟩) ?_
  refine dt_aloadn dX6_init_55 rfl rfl ?_
  refine dt_iconst dX6_init_56 ?_
  refine dt_wfV fun hwf => ?_
  refine dt_putI dX6_init_57 pw_X6_34_6 rfl rfl (by first | assumption | exact hwf _ _ | exact dt_b32 _ | omega | exact ⟨by omega, by omega⟩ | decide | exact ⟨by simp (disch := omega) only [dt_up_s, dt_up_k, dt_up_n]; omega, by simp (disch := omega) only [dt_up_s, dt_up_k, dt_up_n]; omega⟩) ?_
  refine dt_vret dX6_init_60 rfl (by decide) (by decide) ?_
  exact ⟨rfl, rfl, (((((((((((((hz1.zr (by decide) rfl).up (by decide)).zr (by decide) rfl).up (by decide)).zr (by decide) rfl).up (by decide)).zr (by decide) rfl).up (by decide)).zr (by decide) rfl).up (by decide)).up (by decide)).up (by decide)).up (by decide))⟩
theorem s_X6_init_19 {σ : dt_Mem} (hz : ∀ k, σ 19 k = 0) : dt_Sp mX6_init 1 5 295 [dt_R 19] [.inl (11, [5, 9, 11, 17, 3, 3, 3, 3, 3, 0, 0]), .inl (7, [6, 7, 8]), .inr (0, 8), .inr (0, 8), .inr (0, 320), .inl (9, [10, 0, 0, 0, 0]), .inr (0, 500), .inl (6, [12, 13, 14, 15, 16, 0, 0, 0]), .inr (0, 7), .inr (0, 56), .inr (0, 56), .inr (0, 168), .inr (0, 8), .inl (6, [18, 19, 20, 21, 22, 0, 0, 0]), .inr (0, 7), .inr (0, 56), .inr (0, 56), .inr (0, 168), .inr (0, 8), .inl (6, [3, 3, 3, 3, 3, 0, 0, 0])] σ (fun v sh2 σ2 => v = none ∧ sh2 = [.inl (11, [5, 9, 11, 17, 3, 3, 3, 3, 3, 0, 0]), .inl (7, [6, 7, 8]), .inr (0, 8), .inr (0, 8), .inr (0, 320), .inl (9, [10, 0, 0, 0, 0]), .inr (0, 500), .inl (6, [12, 13, 14, 15, 16, 0, 0, 0]), .inr (0, 7), .inr (0, 56), .inr (0, 56), .inr (0, 168), .inr (0, 8), .inl (6, [18, 19, 20, 21, 22, 0, 0, 0]), .inr (0, 7), .inr (0, 56), .inr (0, 56), .inr (0, 168), .inr (0, 8), .inl (6, [24, 25, 26, 27, 28, 0, 0, 0]), .inr (0, 7), .inr (0, 56), .inr (0, 56), .inr (0, 168), .inr (0, 8)] ∧ dk σ σ2 19 25) := by
  refine dt_Sp_of (by decide) (Nat.le_of_ble_eq_true rfl) ?_
  refine dt_wfV fun hwf => ?_
  have hz1 := dk.b hz
  show dt_V _ _ _ 0 0 0 [some (dt_R 19)] [] _ _
  refine dt_aloadn dX6_init_0 rfl rfl ?_
  refine dt_obj dX6_init_1 po_X6_3 pob_i pob_c (by decide) (by decide) ?_
  refine dt_aloadn dX6_init_4 rfl rfl ?_
  refine dt_bipush dX6_init_5 (by decide) ?_
  refine dt_newa0 (ty := 0) dX6_init_7 (Or.inl ⟨rfl, rfl⟩) (by decide) (by decide) (by decide) (by decide) pa_I ?_
  refine dt_wk (kc' := 1) (ks' := 7) (Nat.le_of_ble_eq_true rfl) (Nat.le_of_ble_eq_true rfl) ?_
  dsimp only [List.cons_append, List.nil_append, List.length_cons, List.length_nil, Nat.reduceAdd]
  refine dt_fputR dX6_init_9 pf_X6_9_6 rfl ⟨rfl, fun _ => rfl⟩ rfl rfl ?_
  dsimp only [List.set, Nat.reduceAdd]
  refine dt_aloadn dX6_init_12 rfl rfl ?_
  refine dt_bipush dX6_init_13 (by decide) ?_
  refine dt_newa0 (ty := 0) dX6_init_15 (Or.inl ⟨rfl, rfl⟩) (by decide) (by decide) (by decide) (by decide) pa_I ?_
  refine dt_wk (kc' := 2) (ks' := 63) (Nat.le_of_ble_eq_true rfl) (Nat.le_of_ble_eq_true rfl) ?_
  dsimp only [List.cons_append, List.nil_append, List.length_cons, List.length_nil, Nat.reduceAdd]
  refine dt_fputR dX6_init_17 pf_X6_15_6 rfl ⟨rfl, fun _ => rfl⟩ rfl rfl ?_
  dsimp only [List.set, Nat.reduceAdd]
  refine dt_aloadn dX6_init_20 rfl rfl ?_
  refine dt_bipush dX6_init_21 (by decide) ?_
  refine dt_newa0 (ty := 0) dX6_init_23 (Or.inl ⟨rfl, rfl⟩) (by decide) (by decide) (by decide) (by decide) pa_I ?_
  refine dt_wk (kc' := 3) (ks' := 119) (Nat.le_of_ble_eq_true rfl) (Nat.le_of_ble_eq_true rfl) ?_
  dsimp only [List.cons_append, List.nil_append, List.length_cons, List.length_nil, Nat.reduceAdd]
  refine dt_fputR dX6_init_25 pf_X6_18_6 rfl ⟨rfl, fun _ => rfl⟩ rfl rfl ?_
  dsimp only [List.set, Nat.reduceAdd]
  refine dt_aloadn dX6_init_28 rfl rfl ?_
  refine dt_sipush dX6_init_29 (by decide) ?_
  refine dt_newa0 (ty := 0) dX6_init_32 (Or.inl ⟨rfl, rfl⟩) (by decide) (by decide) (by decide) (by decide) pa_I ?_
  refine dt_wk (kc' := 4) (ks' := 287) (Nat.le_of_ble_eq_true rfl) (Nat.le_of_ble_eq_true rfl) ?_
  dsimp only [List.cons_append, List.nil_append, List.length_cons, List.length_nil, Nat.reduceAdd]
  refine dt_fputR dX6_init_34 pf_X6_21_6 rfl ⟨rfl, fun _ => rfl⟩ rfl rfl ?_
  dsimp only [List.set, Nat.reduceAdd]
  refine dt_aloadn dX6_init_37 rfl rfl ?_
  refine dt_bipush dX6_init_38 (by decide) ?_
  refine dt_newa0 (ty := 0) dX6_init_40 (Or.inl ⟨rfl, rfl⟩) (by decide) (by decide) (by decide) (by decide) pa_I ?_
  refine dt_wk (kc' := 5) (ks' := 295) (Nat.le_of_ble_eq_true rfl) (Nat.le_of_ble_eq_true rfl) ?_
  dsimp only [List.cons_append, List.nil_append, List.length_cons, List.length_nil, Nat.reduceAdd]
  refine dt_fputR dX6_init_42 pf_X6_24_6 rfl ⟨rfl, fun _ => rfl⟩ rfl rfl ?_
  dsimp only [List.set, Nat.reduceAdd]
  refine dt_aloadn dX6_init_45 rfl rfl ?_
  refine dt_iconst dX6_init_46 ?_
  refine dt_wfV fun hwf => ?_
  refine dt_putI dX6_init_47 pw_X6_27_6 rfl rfl (by first | assumption | exact hwf _ _ | exact dt_b32 _ | omega | exact ⟨by omega, by omega⟩ | decide | exact ⟨by simp (disch := omega) only [dt_up_s, dt_up_k, dt_up_n]; omega, by simp (disch := omega) only [dt_up_s, dt_up_k, dt_up_n]; omega⟩) ?_
  refine dt_aloadn dX6_init_50 rfl rfl ?_
  refine dt_iconst dX6_init_51 ?_
  refine dt_wfV fun hwf => ?_
  refine dt_putI dX6_init_52 pw_X6_31_6 rfl rfl (by first | assumption | exact hwf _ _ | exact dt_b32 _ | omega | exact ⟨by omega, by omega⟩ | decide | exact ⟨by simp (disch := omega) only [dt_up_s, dt_up_k, dt_up_n]; omega, by simp (disch := omega) only [dt_up_s, dt_up_k, dt_up_n]; omega⟩) ?_
  refine dt_aloadn dX6_init_55 rfl rfl ?_
  refine dt_iconst dX6_init_56 ?_
  refine dt_wfV fun hwf => ?_
  refine dt_putI dX6_init_57 pw_X6_34_6 rfl rfl (by first | assumption | exact hwf _ _ | exact dt_b32 _ | omega | exact ⟨by omega, by omega⟩ | decide | exact ⟨by simp (disch := omega) only [dt_up_s, dt_up_k, dt_up_n]; omega, by simp (disch := omega) only [dt_up_s, dt_up_k, dt_up_n]; omega⟩) ?_
  refine dt_vret dX6_init_60 rfl (by decide) (by decide) ?_
  exact ⟨rfl, rfl, (((((((((((((hz1.zr (by decide) rfl).up (by decide)).zr (by decide) rfl).up (by decide)).zr (by decide) rfl).up (by decide)).zr (by decide) rfl).up (by decide)).zr (by decide) rfl).up (by decide)).up (by decide)).up (by decide)).up (by decide))⟩
theorem s_X6_init_25 {σ : dt_Mem} (hz : ∀ k, σ 25 k = 0) : dt_Sp mX6_init 1 5 295 [dt_R 25] [.inl (11, [5, 9, 11, 17, 23, 3, 3, 3, 3, 0, 0]), .inl (7, [6, 7, 8]), .inr (0, 8), .inr (0, 8), .inr (0, 320), .inl (9, [10, 0, 0, 0, 0]), .inr (0, 500), .inl (6, [12, 13, 14, 15, 16, 0, 0, 0]), .inr (0, 7), .inr (0, 56), .inr (0, 56), .inr (0, 168), .inr (0, 8), .inl (6, [18, 19, 20, 21, 22, 0, 0, 0]), .inr (0, 7), .inr (0, 56), .inr (0, 56), .inr (0, 168), .inr (0, 8), .inl (6, [24, 25, 26, 27, 28, 0, 0, 0]), .inr (0, 7), .inr (0, 56), .inr (0, 56), .inr (0, 168), .inr (0, 8), .inl (6, [3, 3, 3, 3, 3, 0, 0, 0])] σ (fun v sh2 σ2 => v = none ∧ sh2 = [.inl (11, [5, 9, 11, 17, 23, 3, 3, 3, 3, 0, 0]), .inl (7, [6, 7, 8]), .inr (0, 8), .inr (0, 8), .inr (0, 320), .inl (9, [10, 0, 0, 0, 0]), .inr (0, 500), .inl (6, [12, 13, 14, 15, 16, 0, 0, 0]), .inr (0, 7), .inr (0, 56), .inr (0, 56), .inr (0, 168), .inr (0, 8), .inl (6, [18, 19, 20, 21, 22, 0, 0, 0]), .inr (0, 7), .inr (0, 56), .inr (0, 56), .inr (0, 168), .inr (0, 8), .inl (6, [24, 25, 26, 27, 28, 0, 0, 0]), .inr (0, 7), .inr (0, 56), .inr (0, 56), .inr (0, 168), .inr (0, 8), .inl (6, [30, 31, 32, 33, 34, 0, 0, 0]), .inr (0, 7), .inr (0, 56), .inr (0, 56), .inr (0, 168), .inr (0, 8)] ∧ dk σ σ2 25 31) := by
  refine dt_Sp_of (by decide) (Nat.le_of_ble_eq_true rfl) ?_
  refine dt_wfV fun hwf => ?_
  have hz1 := dk.b hz
  show dt_V _ _ _ 0 0 0 [some (dt_R 25)] [] _ _
  refine dt_aloadn dX6_init_0 rfl rfl ?_
  refine dt_obj dX6_init_1 po_X6_3 pob_i pob_c (by decide) (by decide) ?_
  refine dt_aloadn dX6_init_4 rfl rfl ?_
  refine dt_bipush dX6_init_5 (by decide) ?_
  refine dt_newa0 (ty := 0) dX6_init_7 (Or.inl ⟨rfl, rfl⟩) (by decide) (by decide) (by decide) (by decide) pa_I ?_
  refine dt_wk (kc' := 1) (ks' := 7) (Nat.le_of_ble_eq_true rfl) (Nat.le_of_ble_eq_true rfl) ?_
  dsimp only [List.cons_append, List.nil_append, List.length_cons, List.length_nil, Nat.reduceAdd]
  refine dt_fputR dX6_init_9 pf_X6_9_6 rfl ⟨rfl, fun _ => rfl⟩ rfl rfl ?_
  dsimp only [List.set, Nat.reduceAdd]
  refine dt_aloadn dX6_init_12 rfl rfl ?_
  refine dt_bipush dX6_init_13 (by decide) ?_
  refine dt_newa0 (ty := 0) dX6_init_15 (Or.inl ⟨rfl, rfl⟩) (by decide) (by decide) (by decide) (by decide) pa_I ?_
  refine dt_wk (kc' := 2) (ks' := 63) (Nat.le_of_ble_eq_true rfl) (Nat.le_of_ble_eq_true rfl) ?_
  dsimp only [List.cons_append, List.nil_append, List.length_cons, List.length_nil, Nat.reduceAdd]
  refine dt_fputR dX6_init_17 pf_X6_15_6 rfl ⟨rfl, fun _ => rfl⟩ rfl rfl ?_
  dsimp only [List.set, Nat.reduceAdd]
  refine dt_aloadn dX6_init_20 rfl rfl ?_
  refine dt_bipush dX6_init_21 (by decide) ?_
  refine dt_newa0 (ty := 0) dX6_init_23 (Or.inl ⟨rfl, rfl⟩) (by decide) (by decide) (by decide) (by decide) pa_I ?_
  refine dt_wk (kc' := 3) (ks' := 119) (Nat.le_of_ble_eq_true rfl) (Nat.le_of_ble_eq_true rfl) ?_
  dsimp only [List.cons_append, List.nil_append, List.length_cons, List.length_nil, Nat.reduceAdd]
  refine dt_fputR dX6_init_25 pf_X6_18_6 rfl ⟨rfl, fun _ => rfl⟩ rfl rfl ?_
  dsimp only [List.set, Nat.reduceAdd]
  refine dt_aloadn dX6_init_28 rfl rfl ?_
  refine dt_sipush dX6_init_29 (by decide) ?_
  refine dt_newa0 (ty := 0) dX6_init_32 (Or.inl ⟨rfl, rfl⟩) (by decide) (by decide) (by decide) (by decide) pa_I ?_
  refine dt_wk (kc' := 4) (ks' := 287) (Nat.le_of_ble_eq_true rfl) (Nat.le_of_ble_eq_true rfl) ?_
  dsimp only [List.cons_append, List.nil_append, List.length_cons, List.length_nil, Nat.reduceAdd]
  refine dt_fputR dX6_init_34 pf_X6_21_6 rfl ⟨rfl, fun _ => rfl⟩ rfl rfl ?_
  dsimp only [List.set, Nat.reduceAdd]
  refine dt_aloadn dX6_init_37 rfl rfl ?_
  refine dt_bipush dX6_init_38 (by decide) ?_
  refine dt_newa0 (ty := 0) dX6_init_40 (Or.inl ⟨rfl, rfl⟩) (by decide) (by decide) (by decide) (by decide) pa_I ?_
  refine dt_wk (kc' := 5) (ks' := 295) (Nat.le_of_ble_eq_true rfl) (Nat.le_of_ble_eq_true rfl) ?_
  dsimp only [List.cons_append, List.nil_append, List.length_cons, List.length_nil, Nat.reduceAdd]
  refine dt_fputR dX6_init_42 pf_X6_24_6 rfl ⟨rfl, fun _ => rfl⟩ rfl rfl ?_
  dsimp only [List.set, Nat.reduceAdd]
  refine dt_aloadn dX6_init_45 rfl rfl ?_
  refine dt_iconst dX6_init_46 ?_
  refine dt_wfV fun hwf => ?_
  refine dt_putI dX6_init_47 pw_X6_27_6 rfl rfl (by first | assumption | exact hwf _ _ | exact dt_b32 _ | omega | exact ⟨by omega, by omega⟩ | decide | exact ⟨by simp (disch := omega) only [dt_up_s, dt_up_k, dt_up_n]; omega, by simp (disch := omega) only [dt_up_s, dt_up_k, dt_up_n]; omega⟩) ?_
  refine dt_aloadn dX6_init_50 rfl rfl ?_
  refine dt_iconst dX6_init_51 ?_
  refine dt_wfV fun hwf => ?_
  refine dt_putI dX6_init_52 pw_X6_31_6 rfl rfl (by first | assumption | exact hwf _ _ | exact dt_b32 _ | omega | exact ⟨by omega, by omega⟩ | decide | exact ⟨by simp (disch := omega) only [dt_up_s, dt_up_k, dt_up_n]; omega, by simp (disch := omega) only [dt_up_s, dt_up_k, dt_up_n]; omega⟩) ?_
  refine dt_aloadn dX6_init_55 rfl rfl ?_
  refine dt_iconst dX6_init_56 ?_
  refine dt_wfV fun hwf => ?_
  refine dt_putI dX6_init_57 pw_X6_34_6 rfl rfl (by first | assumption | exact hwf _ _ | exact dt_b32 _ | omega | exact ⟨by omega, by omega⟩ | decide | exact ⟨by simp (disch := omega) only [dt_up_s, dt_up_k, dt_up_n]; omega, by simp (disch := omega) only [dt_up_s, dt_up_k, dt_up_n]; omega⟩) ?_
  refine dt_vret dX6_init_60 rfl (by decide) (by decide) ?_
  exact ⟨rfl, rfl, (((((((((((((hz1.zr (by decide) rfl).up (by decide)).zr (by decide) rfl).up (by decide)).zr (by decide) rfl).up (by decide)).zr (by decide) rfl).up (by decide)).zr (by decide) rfl).up (by decide)).up (by decide)).up (by decide)).up (by decide))⟩
theorem s_X8_init {σ : dt_Mem} (hz : ∀ k, σ 31 k = 0) : dt_Sp mX8_init 1 7 1296 [dt_R 31, dt_R 7] [.inl (11, [5, 9, 11, 17, 23, 29, 3, 3, 3, 0, 0]), .inl (7, [6, 7, 8]), .inr (0, 8), .inr (0, 8), .inr (0, 320), .inl (9, [10, 0, 0, 0, 0]), .inr (0, 500), .inl (6, [12, 13, 14, 15, 16, 0, 0, 0]), .inr (0, 7), .inr (0, 56), .inr (0, 56), .inr (0, 168), .inr (0, 8), .inl (6, [18, 19, 20, 21, 22, 0, 0, 0]), .inr (0, 7), .inr (0, 56), .inr (0, 56), .inr (0, 168), .inr (0, 8), .inl (6, [24, 25, 26, 27, 28, 0, 0, 0]), .inr (0, 7), .inr (0, 56), .inr (0, 56), .inr (0, 168), .inr (0, 8), .inl (6, [30, 31, 32, 33, 34, 0, 0, 0]), .inr (0, 7), .inr (0, 56), .inr (0, 56), .inr (0, 168), .inr (0, 8), .inl (8, [3, 3, 3, 3, 3, 3, 3, 3])] σ (fun v sh2 σ2 => v = none ∧ sh2 = [.inl (11, [5, 9, 11, 17, 23, 29, 3, 3, 3, 0, 0]), .inl (7, [6, 7, 8]), .inr (0, 8), .inr (0, 8), .inr (0, 320), .inl (9, [10, 0, 0, 0, 0]), .inr (0, 500), .inl (6, [12, 13, 14, 15, 16, 0, 0, 0]), .inr (0, 7), .inr (0, 56), .inr (0, 56), .inr (0, 168), .inr (0, 8), .inl (6, [18, 19, 20, 21, 22, 0, 0, 0]), .inr (0, 7), .inr (0, 56), .inr (0, 56), .inr (0, 168), .inr (0, 8), .inl (6, [24, 25, 26, 27, 28, 0, 0, 0]), .inr (0, 7), .inr (0, 56), .inr (0, 56), .inr (0, 168), .inr (0, 8), .inl (6, [30, 31, 32, 33, 34, 0, 0, 0]), .inr (0, 7), .inr (0, 56), .inr (0, 56), .inr (0, 168), .inr (0, 8), .inl (8, [11, 36, 37, 38, 39, 40, 41, 42]), .inr (1, 256), .inr (1, 256), .inr (1, 256), .inr (0, 256), .inr (0, 256), .inr (0, 8), .inr (0, 8)] ∧ dk σ σ2 31 39) := by
  refine dt_Sp_of (by decide) (Nat.le_of_ble_eq_true rfl) ?_
  refine dt_wfV fun hwf => ?_
  have hz1 := dk.b hz
  show dt_V _ _ _ 0 0 0 [some (dt_R 31), some (dt_R 7)] [] _ _
  refine dt_aloadn dX8_init_0 rfl rfl ?_
  refine dt_obj dX8_init_1 po_X8_3 pob_i pob_c (by decide) (by decide) ?_
  refine dt_aloadn dX8_init_4 rfl rfl ?_
  refine dt_aloadn dX8_init_5 rfl rfl ?_
  refine dt_fputR dX8_init_6 pf_X8_9_8 rfl ⟨rfl, fun _ => rfl⟩ rfl rfl ?_
  dsimp only [List.set, Nat.reduceAdd]
  refine dt_aloadn dX8_init_9 rfl rfl ?_
  refine dt_sipush dX8_init_10 (by decide) ?_
  refine dt_newa0 (ty := 1) dX8_init_13 (Or.inr ⟨rfl, rfl⟩) (by decide) (by decide) (by decide) (by decide) pa_Z ?_
  refine dt_wk (kc' := 1) (ks' := 256) (Nat.le_of_ble_eq_true rfl) (Nat.le_of_ble_eq_true rfl) ?_
  dsimp only [List.cons_append, List.nil_append, List.length_cons, List.length_nil, Nat.reduceAdd]
  refine dt_fputR dX8_init_15 pf_X8_15_8 rfl ⟨rfl, fun _ => rfl⟩ rfl rfl ?_
  dsimp only [List.set, Nat.reduceAdd]
  refine dt_aloadn dX8_init_18 rfl rfl ?_
  refine dt_sipush dX8_init_19 (by decide) ?_
  refine dt_newa0 (ty := 1) dX8_init_22 (Or.inr ⟨rfl, rfl⟩) (by decide) (by decide) (by decide) (by decide) pa_Z ?_
  refine dt_wk (kc' := 2) (ks' := 512) (Nat.le_of_ble_eq_true rfl) (Nat.le_of_ble_eq_true rfl) ?_
  dsimp only [List.cons_append, List.nil_append, List.length_cons, List.length_nil, Nat.reduceAdd]
  refine dt_fputR dX8_init_24 pf_X8_19_8 rfl ⟨rfl, fun _ => rfl⟩ rfl rfl ?_
  dsimp only [List.set, Nat.reduceAdd]
  refine dt_aloadn dX8_init_27 rfl rfl ?_
  refine dt_sipush dX8_init_28 (by decide) ?_
  refine dt_newa0 (ty := 1) dX8_init_31 (Or.inr ⟨rfl, rfl⟩) (by decide) (by decide) (by decide) (by decide) pa_Z ?_
  refine dt_wk (kc' := 3) (ks' := 768) (Nat.le_of_ble_eq_true rfl) (Nat.le_of_ble_eq_true rfl) ?_
  dsimp only [List.cons_append, List.nil_append, List.length_cons, List.length_nil, Nat.reduceAdd]
  refine dt_fputR dX8_init_33 pf_X8_22_8 rfl ⟨rfl, fun _ => rfl⟩ rfl rfl ?_
  dsimp only [List.set, Nat.reduceAdd]
  refine dt_aloadn dX8_init_36 rfl rfl ?_
  refine dt_sipush dX8_init_37 (by decide) ?_
  refine dt_newa0 (ty := 0) dX8_init_40 (Or.inl ⟨rfl, rfl⟩) (by decide) (by decide) (by decide) (by decide) pa_I ?_
  refine dt_wk (kc' := 4) (ks' := 1024) (Nat.le_of_ble_eq_true rfl) (Nat.le_of_ble_eq_true rfl) ?_
  dsimp only [List.cons_append, List.nil_append, List.length_cons, List.length_nil, Nat.reduceAdd]
  refine dt_fputR dX8_init_42 pf_X8_25_8 rfl ⟨rfl, fun _ => rfl⟩ rfl rfl ?_
  dsimp only [List.set, Nat.reduceAdd]
  refine dt_aloadn dX8_init_45 rfl rfl ?_
  refine dt_sipush dX8_init_46 (by decide) ?_
  refine dt_newa0 (ty := 0) dX8_init_49 (Or.inl ⟨rfl, rfl⟩) (by decide) (by decide) (by decide) (by decide) pa_I ?_
  refine dt_wk (kc' := 5) (ks' := 1280) (Nat.le_of_ble_eq_true rfl) (Nat.le_of_ble_eq_true rfl) ?_
  dsimp only [List.cons_append, List.nil_append, List.length_cons, List.length_nil, Nat.reduceAdd]
  refine dt_fputR dX8_init_51 pf_X8_29_8 rfl ⟨rfl, fun _ => rfl⟩ rfl rfl ?_
  dsimp only [List.set, Nat.reduceAdd]
  refine dt_aloadn dX8_init_54 rfl rfl ?_
  refine dt_bipush dX8_init_55 (by decide) ?_
  refine dt_newa0 (ty := 0) dX8_init_57 (Or.inl ⟨rfl, rfl⟩) (by decide) (by decide) (by decide) (by decide) pa_I ?_
  refine dt_wk (kc' := 6) (ks' := 1288) (Nat.le_of_ble_eq_true rfl) (Nat.le_of_ble_eq_true rfl) ?_
  dsimp only [List.cons_append, List.nil_append, List.length_cons, List.length_nil, Nat.reduceAdd]
  refine dt_fputR dX8_init_59 pf_X8_32_8 rfl ⟨rfl, fun _ => rfl⟩ rfl rfl ?_
  dsimp only [List.set, Nat.reduceAdd]
  refine dt_aloadn dX8_init_62 rfl rfl ?_
  refine dt_bipush dX8_init_63 (by decide) ?_
  refine dt_newa0 (ty := 0) dX8_init_65 (Or.inl ⟨rfl, rfl⟩) (by decide) (by decide) (by decide) (by decide) pa_I ?_
  refine dt_wk (kc' := 7) (ks' := 1296) (Nat.le_of_ble_eq_true rfl) (Nat.le_of_ble_eq_true rfl) ?_
  dsimp only [List.cons_append, List.nil_append, List.length_cons, List.length_nil, Nat.reduceAdd]
  refine dt_fputR dX8_init_67 pf_X8_35_8 rfl ⟨rfl, fun _ => rfl⟩ rfl rfl ?_
  dsimp only [List.set, Nat.reduceAdd]
  refine dt_vret dX8_init_70 rfl (by decide) (by decide) ?_
  exact ⟨rfl, rfl, (((((((((((((((hz1.up (by decide)).zr (by decide) rfl).up (by decide)).zr (by decide) rfl).up (by decide)).zr (by decide) rfl).up (by decide)).zr (by decide) rfl).up (by decide)).zr (by decide) rfl).up (by decide)).zr (by decide) rfl).up (by decide)).zr (by decide) rfl).up (by decide))⟩
theorem s_X4_init {σ : dt_Mem} (hz : ∀ k, σ 39 k = 0) : dt_Sp mX4_init 1 0 0 [dt_R 39, dt_R 7] [.inl (11, [5, 9, 11, 17, 23, 29, 35, 3, 3, 0, 0]), .inl (7, [6, 7, 8]), .inr (0, 8), .inr (0, 8), .inr (0, 320), .inl (9, [10, 0, 0, 0, 0]), .inr (0, 500), .inl (6, [12, 13, 14, 15, 16, 0, 0, 0]), .inr (0, 7), .inr (0, 56), .inr (0, 56), .inr (0, 168), .inr (0, 8), .inl (6, [18, 19, 20, 21, 22, 0, 0, 0]), .inr (0, 7), .inr (0, 56), .inr (0, 56), .inr (0, 168), .inr (0, 8), .inl (6, [24, 25, 26, 27, 28, 0, 0, 0]), .inr (0, 7), .inr (0, 56), .inr (0, 56), .inr (0, 168), .inr (0, 8), .inl (6, [30, 31, 32, 33, 34, 0, 0, 0]), .inr (0, 7), .inr (0, 56), .inr (0, 56), .inr (0, 168), .inr (0, 8), .inl (8, [11, 36, 37, 38, 39, 40, 41, 42]), .inr (1, 256), .inr (1, 256), .inr (1, 256), .inr (0, 256), .inr (0, 256), .inr (0, 8), .inr (0, 8), .inl (4, [3])] σ (fun v sh2 σ2 => v = none ∧ sh2 = [.inl (11, [5, 9, 11, 17, 23, 29, 35, 3, 3, 0, 0]), .inl (7, [6, 7, 8]), .inr (0, 8), .inr (0, 8), .inr (0, 320), .inl (9, [10, 0, 0, 0, 0]), .inr (0, 500), .inl (6, [12, 13, 14, 15, 16, 0, 0, 0]), .inr (0, 7), .inr (0, 56), .inr (0, 56), .inr (0, 168), .inr (0, 8), .inl (6, [18, 19, 20, 21, 22, 0, 0, 0]), .inr (0, 7), .inr (0, 56), .inr (0, 56), .inr (0, 168), .inr (0, 8), .inl (6, [24, 25, 26, 27, 28, 0, 0, 0]), .inr (0, 7), .inr (0, 56), .inr (0, 56), .inr (0, 168), .inr (0, 8), .inl (6, [30, 31, 32, 33, 34, 0, 0, 0]), .inr (0, 7), .inr (0, 56), .inr (0, 56), .inr (0, 168), .inr (0, 8), .inl (8, [11, 36, 37, 38, 39, 40, 41, 42]), .inr (1, 256), .inr (1, 256), .inr (1, 256), .inr (0, 256), .inr (0, 256), .inr (0, 8), .inr (0, 8), .inl (4, [11])] ∧ dk σ σ2 39 40) := by
  refine dt_Sp_of (by decide) (Nat.le_of_ble_eq_true rfl) ?_
  refine dt_wfV fun hwf => ?_
  have hz1 := dk.b hz
  show dt_V _ _ _ 0 0 0 [some (dt_R 39), some (dt_R 7)] [] _ _
  refine dt_aloadn dX4_init_0 rfl rfl ?_
  refine dt_obj dX4_init_1 po_X4_3 pob_i pob_c (by decide) (by decide) ?_
  refine dt_aloadn dX4_init_4 rfl rfl ?_
  refine dt_aloadn dX4_init_5 rfl rfl ?_
  refine dt_fputR dX4_init_6 pf_X4_9_4 rfl ⟨rfl, fun _ => rfl⟩ rfl rfl ?_
  dsimp only [List.set, Nat.reduceAdd]
  refine dt_vret dX4_init_9 rfl (by decide) (by decide) ?_
  exact ⟨rfl, rfl, (hz1.up (by decide))⟩
theorem kNew_7 : ∀ j, j < 3 → ∀ B S, defaultValue (dt_ty 7 j) = dt_tr B S (dt_rd (([3, 3, 3] : List Nat).getD j 3) 0) := fun j hj B S => by
  match j, hj with
  | 0, _ => rfl
  | 1, _ => rfl
  | 2, _ => rfl
  | n + 3, h => omega
theorem kNew_9 : ∀ j, j < 5 → ∀ B S, defaultValue (dt_ty 9 j) = dt_tr B S (dt_rd (([3, 0, 0, 0, 0] : List Nat).getD j 3) 0) := fun j hj B S => by
  match j, hj with
  | 0, _ => rfl
  | 1, _ => rfl
  | 2, _ => rfl
  | 3, _ => rfl
  | 4, _ => rfl
  | n + 5, h => omega
theorem kNew_6 : ∀ j, j < 8 → ∀ B S, defaultValue (dt_ty 6 j) = dt_tr B S (dt_rd (([3, 3, 3, 3, 3, 0, 0, 0] : List Nat).getD j 3) 0) := fun j hj B S => by
  match j, hj with
  | 0, _ => rfl
  | 1, _ => rfl
  | 2, _ => rfl
  | 3, _ => rfl
  | 4, _ => rfl
  | 5, _ => rfl
  | 6, _ => rfl
  | 7, _ => rfl
  | n + 8, h => omega
theorem kNew_8 : ∀ j, j < 8 → ∀ B S, defaultValue (dt_ty 8 j) = dt_tr B S (dt_rd (([3, 3, 3, 3, 3, 3, 3, 3] : List Nat).getD j 3) 0) := fun j hj B S => by
  match j, hj with
  | 0, _ => rfl
  | 1, _ => rfl
  | 2, _ => rfl
  | 3, _ => rfl
  | 4, _ => rfl
  | 5, _ => rfl
  | 6, _ => rfl
  | 7, _ => rfl
  | n + 8, h => omega
theorem kNew_4 : ∀ j, j < 1 → ∀ B S, defaultValue (dt_ty 4 j) = dt_tr B S (dt_rd (([3] : List Nat).getD j 3) 0) := fun j hj B S => by
  match j, hj with
  | 0, _ => rfl
  | n + 1, h => omega
theorem kNew_11 : ∀ j, j < 11 → ∀ B S, defaultValue (dt_ty 11 j) = dt_tr B S (dt_rd (([3, 3, 3, 3, 3, 3, 3, 3, 3, 0, 0] : List Nat).getD j 3) 0) := fun j hj B S => by
  match j, hj with
  | 0, _ => rfl
  | 1, _ => rfl
  | 2, _ => rfl
  | 3, _ => rfl
  | 4, _ => rfl
  | 5, _ => rfl
  | 6, _ => rfl
  | 7, _ => rfl
  | 8, _ => rfl
  | 9, _ => rfl
  | 10, _ => rfl
  | n + 11, h => omega
theorem kNew_12 : ∀ j, j < 30 → ∀ B S, defaultValue (dt_ty 12 j) = dt_tr B S (dt_rd (([0, 0, 3, 3, 3, 3, 3, 0, 3, 0, 0, 0, 0, 0, 0, 0, 0, 0, 1, 3, 3, 3, 3, 3, 0, 0, 3, 3, 3, 0] : List Nat).getD j 3) 0) := fun j hj B S => by
  match j, hj with
  | 0, _ => rfl
  | 1, _ => rfl
  | 2, _ => rfl
  | 3, _ => rfl
  | 4, _ => rfl
  | 5, _ => rfl
  | 6, _ => rfl
  | 7, _ => rfl
  | 8, _ => rfl
  | 9, _ => rfl
  | 10, _ => rfl
  | 11, _ => rfl
  | 12, _ => rfl
  | 13, _ => rfl
  | 14, _ => rfl
  | 15, _ => rfl
  | 16, _ => rfl
  | 17, _ => rfl
  | 18, _ => rfl
  | 19, _ => rfl
  | 20, _ => rfl
  | 21, _ => rfl
  | 22, _ => rfl
  | 23, _ => rfl
  | 24, _ => rfl
  | 25, _ => rfl
  | 26, _ => rfl
  | 27, _ => rfl
  | 28, _ => rfl
  | 29, _ => rfl
  | n + 30, h => omega
theorem s_X11_init {σ : dt_Mem} (hz : ∀ k, σ 0 k = 0) : dt_Sp mX11_init 2 39 3361 [dt_R 0] [.inl (11, [3, 3, 3, 3, 3, 3, 3, 3, 3, 0, 0])] σ (fun v sh2 σ2 => v = none ∧ sh2 = [.inl (11, [5, 9, 11, 17, 23, 29, 35, 43, 2, 0, 0]), .inl (7, [6, 7, 8]), .inr (0, 8), .inr (0, 8), .inr (0, 320), .inl (9, [10, 0, 0, 0, 0]), .inr (0, 500), .inl (6, [12, 13, 14, 15, 16, 0, 0, 0]), .inr (0, 7), .inr (0, 56), .inr (0, 56), .inr (0, 168), .inr (0, 8), .inl (6, [18, 19, 20, 21, 22, 0, 0, 0]), .inr (0, 7), .inr (0, 56), .inr (0, 56), .inr (0, 168), .inr (0, 8), .inl (6, [24, 25, 26, 27, 28, 0, 0, 0]), .inr (0, 7), .inr (0, 56), .inr (0, 56), .inr (0, 168), .inr (0, 8), .inl (6, [30, 31, 32, 33, 34, 0, 0, 0]), .inr (0, 7), .inr (0, 56), .inr (0, 56), .inr (0, 168), .inr (0, 8), .inl (8, [11, 36, 37, 38, 39, 40, 41, 42]), .inr (1, 256), .inr (1, 256), .inr (1, 256), .inr (0, 256), .inr (0, 256), .inr (0, 8), .inr (0, 8), .inl (4, [11])] ∧ ∃ σ1, dk σ σ1 0 40 ∧ (∀ r, r < 8 → σ1 2 r = -1) ∧ σ2 = dt_up (dt_up (dt_up σ1 0 8 (-1)) 0 9 0) 0 10 0) := by
  refine dt_Sp_of (by decide) (Nat.le_of_ble_eq_true rfl) ?_
  refine dt_wfV fun hwf => ?_
  have hz1 := dk.b hz
  show dt_V _ _ _ 0 0 0 [some (dt_R 0)] [] _ _
  refine dt_aloadn dX11_init_0 rfl rfl ?_
  refine dt_obj dX11_init_1 po_X11_1 pob_i pob_c (by decide) (by decide) ?_
  refine dt_aloadn dX11_init_4 rfl rfl ?_
  refine dt_new (ci := 7) (tags := [3, 3, 3]) dX11_init_5 rfl pl_X11_7 pn_7.1 pn_7.2 rfl kNew_7 (Nat.le_of_ble_eq_true rfl) (Nat.le_of_ble_eq_true rfl) ?_
  refine dt_wk (kc' := 1) (ks' := 3) (Nat.le_of_ble_eq_true rfl) (Nat.le_of_ble_eq_true rfl) ?_
  dsimp only [List.cons_append, List.nil_append, List.length_cons, List.length_nil, Nat.reduceAdd]
  show dt_V _ _ _ _ _ 8 _ [dt_R 1, dt_R 0] _ (dt_zr σ 1)
  refine dt_dupR dX11_init_8 ?_
  refine dt_xI dX11_init_9 pc_X11_9 (s_X7_init (fun k => dt_zr_s)) rfl rfl ⟨by decide, by decide⟩ (Nat.le_of_ble_eq_true rfl) ⟨Nat.le_of_ble_eq_true rfl, Nat.le_of_ble_eq_true rfl⟩ ?_
  intro v1 sh1 σ1 hq1
  obtain ⟨rfl, hs1, hk1, hm1⟩ := hq1
  obtain rfl := hs1.symm
  have g1 : dk σ σ1 0 5 := dk.tr hz1 hk1 rfl (by decide)
  have h1 : dk σ (dt_up σ1 0 0 0) 0 5 := g1.up (by decide)
  refine dt_wk (kc' := 4) (ks' := 339) (Nat.le_of_ble_eq_true rfl) (Nat.le_of_ble_eq_true rfl) ?_
  refine dt_fputR dX11_init_12 pf_X11_10_11 rfl ⟨rfl, fun _ => rfl⟩ rfl rfl ?_
  dsimp only [List.set, Nat.reduceAdd]
  show dt_V _ _ _ _ _ 15 _ [] _ (dt_up σ1 0 0 0)
  refine dt_aloadn dX11_init_15 rfl rfl ?_
  refine dt_new (ci := 9) (tags := [3, 0, 0, 0, 0]) dX11_init_16 rfl pl_X11_16 pn_9.1 pn_9.2 rfl kNew_9 (Nat.le_of_ble_eq_true rfl) (Nat.le_of_ble_eq_true rfl) ?_
  refine dt_wk (kc' := 5) (ks' := 344) (Nat.le_of_ble_eq_true rfl) (Nat.le_of_ble_eq_true rfl) ?_
  dsimp only [List.cons_append, List.nil_append, List.length_cons, List.length_nil, Nat.reduceAdd]
  show dt_V _ _ _ _ _ 19 _ [dt_R 5, dt_R 0] _ (dt_zr (dt_up σ1 0 0 0) 5)
  refine dt_dupR dX11_init_19 ?_
  refine dt_xI dX11_init_20 pc_X11_18 (s_X9_init (fun k => dt_zr_s)) rfl rfl ⟨by decide, by decide⟩ (Nat.le_of_ble_eq_true rfl) ⟨Nat.le_of_ble_eq_true rfl, Nat.le_of_ble_eq_true rfl⟩ ?_
  intro v2 sh2 σ2 hq2
  obtain ⟨rfl, hs2, hk2⟩ := hq2
  obtain rfl := hs2.symm
  have g2 : dk σ σ2 0 7 := dk.tr h1 hk2 rfl (by decide)
  have h2 : dk σ (dt_up σ2 0 1 0) 0 7 := g2.up (by decide)
  have hm2 : ∀ r, r < 8 → σ2 2 r = -1 := fun r hr => by rw [hk2.lo rfl (by decide), dt_up_n (by decide)]; exact hm1 r hr
  refine dt_wk (kc' := 6) (ks' := 844) (Nat.le_of_ble_eq_true rfl) (Nat.le_of_ble_eq_true rfl) ?_
  refine dt_fputR dX11_init_23 pf_X11_19_11 rfl ⟨rfl, fun _ => rfl⟩ rfl rfl ?_
  dsimp only [List.set, Nat.reduceAdd]
  show dt_V _ _ _ _ _ 26 _ [] _ (dt_up σ2 0 1 0)
  refine dt_aloadn dX11_init_26 rfl rfl ?_
  refine dt_new (ci := 6) (tags := [3, 3, 3, 3, 3, 0, 0, 0]) dX11_init_27 rfl pl_X11_23 pn_6.1 pn_6.2 rfl kNew_6 (Nat.le_of_ble_eq_true rfl) (Nat.le_of_ble_eq_true rfl) ?_
  refine dt_wk (kc' := 7) (ks' := 852) (Nat.le_of_ble_eq_true rfl) (Nat.le_of_ble_eq_true rfl) ?_
  dsimp only [List.cons_append, List.nil_append, List.length_cons, List.length_nil, Nat.reduceAdd]
  show dt_V _ _ _ _ _ 30 _ [dt_R 7, dt_R 0] _ (dt_zr (dt_up σ2 0 1 0) 7)
  refine dt_dupR dX11_init_30 ?_
  refine dt_xI dX11_init_31 pc_X11_25 (s_X6_init_7 (fun k => dt_zr_s)) rfl rfl ⟨by decide, by decide⟩ (Nat.le_of_ble_eq_true rfl) ⟨Nat.le_of_ble_eq_true rfl, Nat.le_of_ble_eq_true rfl⟩ ?_
  intro v3 sh3 σ3 hq3
  obtain ⟨rfl, hs3, hk3⟩ := hq3
  obtain rfl := hs3.symm
  have g3 : dk σ σ3 0 13 := dk.tr h2 hk3 rfl (by decide)
  have h3 : dk σ (dt_up σ3 0 2 0) 0 13 := g3.up (by decide)
  have hm3 : ∀ r, r < 8 → σ3 2 r = -1 := fun r hr => by rw [hk3.lo rfl (by decide), dt_up_n (by decide)]; exact hm2 r hr
  refine dt_wk (kc' := 12) (ks' := 1147) (Nat.le_of_ble_eq_true rfl) (Nat.le_of_ble_eq_true rfl) ?_
  refine dt_fputR dX11_init_34 pf_X11_26_11 rfl ⟨rfl, fun _ => rfl⟩ rfl rfl ?_
  dsimp only [List.set, Nat.reduceAdd]
  show dt_V _ _ _ _ _ 37 _ [] _ (dt_up σ3 0 2 0)
  refine dt_aloadn dX11_init_37 rfl rfl ?_
  refine dt_new (ci := 6) (tags := [3, 3, 3, 3, 3, 0, 0, 0]) dX11_init_38 rfl pl_X11_23 pn_6.1 pn_6.2 rfl kNew_6 (Nat.le_of_ble_eq_true rfl) (Nat.le_of_ble_eq_true rfl) ?_
  refine dt_wk (kc' := 13) (ks' := 1155) (Nat.le_of_ble_eq_true rfl) (Nat.le_of_ble_eq_true rfl) ?_
  dsimp only [List.cons_append, List.nil_append, List.length_cons, List.length_nil, Nat.reduceAdd]
  show dt_V _ _ _ _ _ 41 _ [dt_R 13, dt_R 0] _ (dt_zr (dt_up σ3 0 2 0) 13)
  refine dt_dupR dX11_init_41 ?_
  refine dt_xI dX11_init_42 pc_X11_25 (s_X6_init_13 (fun k => dt_zr_s)) rfl rfl ⟨by decide, by decide⟩ (Nat.le_of_ble_eq_true rfl) ⟨Nat.le_of_ble_eq_true rfl, Nat.le_of_ble_eq_true rfl⟩ ?_
  intro v4 sh4 σ4 hq4
  obtain ⟨rfl, hs4, hk4⟩ := hq4
  obtain rfl := hs4.symm
  have g4 : dk σ σ4 0 19 := dk.tr h3 hk4 rfl (by decide)
  have h4 : dk σ (dt_up σ4 0 3 0) 0 19 := g4.up (by decide)
  have hm4 : ∀ r, r < 8 → σ4 2 r = -1 := fun r hr => by rw [hk4.lo rfl (by decide), dt_up_n (by decide)]; exact hm3 r hr
  refine dt_wk (kc' := 18) (ks' := 1450) (Nat.le_of_ble_eq_true rfl) (Nat.le_of_ble_eq_true rfl) ?_
  refine dt_fputR dX11_init_45 pf_X11_30_11 rfl ⟨rfl, fun _ => rfl⟩ rfl rfl ?_
  dsimp only [List.set, Nat.reduceAdd]
  show dt_V _ _ _ _ _ 48 _ [] _ (dt_up σ4 0 3 0)
  refine dt_aloadn dX11_init_48 rfl rfl ?_
  refine dt_new (ci := 6) (tags := [3, 3, 3, 3, 3, 0, 0, 0]) dX11_init_49 rfl pl_X11_23 pn_6.1 pn_6.2 rfl kNew_6 (Nat.le_of_ble_eq_true rfl) (Nat.le_of_ble_eq_true rfl) ?_
  refine dt_wk (kc' := 19) (ks' := 1458) (Nat.le_of_ble_eq_true rfl) (Nat.le_of_ble_eq_true rfl) ?_
  dsimp only [List.cons_append, List.nil_append, List.length_cons, List.length_nil, Nat.reduceAdd]
  show dt_V _ _ _ _ _ 52 _ [dt_R 19, dt_R 0] _ (dt_zr (dt_up σ4 0 3 0) 19)
  refine dt_dupR dX11_init_52 ?_
  refine dt_xI dX11_init_53 pc_X11_25 (s_X6_init_19 (fun k => dt_zr_s)) rfl rfl ⟨by decide, by decide⟩ (Nat.le_of_ble_eq_true rfl) ⟨Nat.le_of_ble_eq_true rfl, Nat.le_of_ble_eq_true rfl⟩ ?_
  intro v5 sh5 σ5 hq5
  obtain ⟨rfl, hs5, hk5⟩ := hq5
  obtain rfl := hs5.symm
  have g5 : dk σ σ5 0 25 := dk.tr h4 hk5 rfl (by decide)
  have h5 : dk σ (dt_up σ5 0 4 0) 0 25 := g5.up (by decide)
  have hm5 : ∀ r, r < 8 → σ5 2 r = -1 := fun r hr => by rw [hk5.lo rfl (by decide), dt_up_n (by decide)]; exact hm4 r hr
  refine dt_wk (kc' := 24) (ks' := 1753) (Nat.le_of_ble_eq_true rfl) (Nat.le_of_ble_eq_true rfl) ?_
  refine dt_fputR dX11_init_56 pf_X11_33_11 rfl ⟨rfl, fun _ => rfl⟩ rfl rfl ?_
  dsimp only [List.set, Nat.reduceAdd]
  show dt_V _ _ _ _ _ 59 _ [] _ (dt_up σ5 0 4 0)
  refine dt_aloadn dX11_init_59 rfl rfl ?_
  refine dt_new (ci := 6) (tags := [3, 3, 3, 3, 3, 0, 0, 0]) dX11_init_60 rfl pl_X11_23 pn_6.1 pn_6.2 rfl kNew_6 (Nat.le_of_ble_eq_true rfl) (Nat.le_of_ble_eq_true rfl) ?_
  refine dt_wk (kc' := 25) (ks' := 1761) (Nat.le_of_ble_eq_true rfl) (Nat.le_of_ble_eq_true rfl) ?_
  dsimp only [List.cons_append, List.nil_append, List.length_cons, List.length_nil, Nat.reduceAdd]
  show dt_V _ _ _ _ _ 63 _ [dt_R 25, dt_R 0] _ (dt_zr (dt_up σ5 0 4 0) 25)
  refine dt_dupR dX11_init_63 ?_
  refine dt_xI dX11_init_64 pc_X11_25 (s_X6_init_25 (fun k => dt_zr_s)) rfl rfl ⟨by decide, by decide⟩ (Nat.le_of_ble_eq_true rfl) ⟨Nat.le_of_ble_eq_true rfl, Nat.le_of_ble_eq_true rfl⟩ ?_
  intro v6 sh6 σ6 hq6
  obtain ⟨rfl, hs6, hk6⟩ := hq6
  obtain rfl := hs6.symm
  have g6 : dk σ σ6 0 31 := dk.tr h5 hk6 rfl (by decide)
  have h6 : dk σ (dt_up σ6 0 5 0) 0 31 := g6.up (by decide)
  have hm6 : ∀ r, r < 8 → σ6 2 r = -1 := fun r hr => by rw [hk6.lo rfl (by decide), dt_up_n (by decide)]; exact hm5 r hr
  refine dt_wk (kc' := 30) (ks' := 2056) (Nat.le_of_ble_eq_true rfl) (Nat.le_of_ble_eq_true rfl) ?_
  refine dt_fputR dX11_init_67 pf_X11_36_11 rfl ⟨rfl, fun _ => rfl⟩ rfl rfl ?_
  dsimp only [List.set, Nat.reduceAdd]
  show dt_V _ _ _ _ _ 70 _ [] _ (dt_up σ6 0 5 0)
  refine dt_aloadn dX11_init_70 rfl rfl ?_
  refine dt_new (ci := 8) (tags := [3, 3, 3, 3, 3, 3, 3, 3]) dX11_init_71 rfl pl_X11_39 pn_8.1 pn_8.2 rfl kNew_8 (Nat.le_of_ble_eq_true rfl) (Nat.le_of_ble_eq_true rfl) ?_
  refine dt_wk (kc' := 31) (ks' := 2064) (Nat.le_of_ble_eq_true rfl) (Nat.le_of_ble_eq_true rfl) ?_
  dsimp only [List.cons_append, List.nil_append, List.length_cons, List.length_nil, Nat.reduceAdd]
  show dt_V _ _ _ _ _ 74 _ [dt_R 31, dt_R 0] _ (dt_zr (dt_up σ6 0 5 0) 31)
  refine dt_dupR dX11_init_74 ?_
  refine dt_aloadn dX11_init_75 rfl rfl ?_
  refine dt_getR dX11_init_76 pg_X11_26_11 rfl rfl ?_
  refine dt_xI dX11_init_79 pc_X11_41 (s_X8_init (fun k => dt_zr_s)) rfl rfl ⟨by decide, by decide⟩ (Nat.le_of_ble_eq_true rfl) ⟨Nat.le_of_ble_eq_true rfl, Nat.le_of_ble_eq_true rfl⟩ ?_
  intro v7 sh7 σ7 hq7
  obtain ⟨rfl, hs7, hk7⟩ := hq7
  obtain rfl := hs7.symm
  have g7 : dk σ σ7 0 39 := dk.tr h6 hk7 rfl (by decide)
  have h7 : dk σ (dt_up σ7 0 6 0) 0 39 := g7.up (by decide)
  have hm7 : ∀ r, r < 8 → σ7 2 r = -1 := fun r hr => by rw [hk7.lo rfl (by decide), dt_up_n (by decide)]; exact hm6 r hr
  refine dt_wk (kc' := 38) (ks' := 3360) (Nat.le_of_ble_eq_true rfl) (Nat.le_of_ble_eq_true rfl) ?_
  refine dt_fputR dX11_init_82 pf_X11_44_11 rfl ⟨rfl, fun _ => rfl⟩ rfl rfl ?_
  dsimp only [List.set, Nat.reduceAdd]
  show dt_V _ _ _ _ _ 85 _ [] _ (dt_up σ7 0 6 0)
  refine dt_aloadn dX11_init_85 rfl rfl ?_
  refine dt_new (ci := 4) (tags := [3]) dX11_init_86 rfl pl_X11_48 pn_4.1 pn_4.2 rfl kNew_4 (Nat.le_of_ble_eq_true rfl) (Nat.le_of_ble_eq_true rfl) ?_
  refine dt_wk (kc' := 39) (ks' := 3361) (Nat.le_of_ble_eq_true rfl) (Nat.le_of_ble_eq_true rfl) ?_
  dsimp only [List.cons_append, List.nil_append, List.length_cons, List.length_nil, Nat.reduceAdd]
  show dt_V _ _ _ _ _ 89 _ [dt_R 39, dt_R 0] _ (dt_zr (dt_up σ7 0 6 0) 39)
  refine dt_dupR dX11_init_89 ?_
  refine dt_aloadn dX11_init_90 rfl rfl ?_
  refine dt_getR dX11_init_91 pg_X11_26_11 rfl rfl ?_
  refine dt_xI dX11_init_94 pc_X11_50 (s_X4_init (fun k => dt_zr_s)) rfl rfl ⟨by decide, by decide⟩ (Nat.le_of_ble_eq_true rfl) ⟨Nat.le_of_ble_eq_true rfl, Nat.le_of_ble_eq_true rfl⟩ ?_
  intro v8 sh8 σ8 hq8
  obtain ⟨rfl, hs8, hk8⟩ := hq8
  obtain rfl := hs8.symm
  have g8 : dk σ σ8 0 40 := dk.tr h7 hk8 rfl (by decide)
  have h8 : dk σ (dt_up σ8 0 7 0) 0 40 := g8.up (by decide)
  have hm8 : ∀ r, r < 8 → σ8 2 r = -1 := fun r hr => by rw [hk8.lo rfl (by decide), dt_up_n (by decide)]; exact hm7 r hr
  refine dt_wk (kc' := 39) (ks' := 3361) (Nat.le_of_ble_eq_true rfl) (Nat.le_of_ble_eq_true rfl) ?_
  refine dt_fputR dX11_init_97 pf_X11_51_11 rfl ⟨rfl, fun _ => rfl⟩ rfl rfl ?_
  dsimp only [List.set, Nat.reduceAdd]
  show dt_V _ _ _ _ _ 100 _ [] _ (dt_up σ8 0 7 0)
  refine dt_aloadn dX11_init_100 rfl rfl ?_
  refine dt_null dX11_init_101 ?_
  refine dt_putN dX11_init_102 pw_X11_55_11 rfl rfl ?_
  dsimp only [List.set, Nat.reduceAdd]
  refine dt_aloadn dX11_init_105 rfl rfl ?_
  refine dt_iconst dX11_init_106 ?_
  refine dt_wfV fun hwf => ?_
  refine dt_putI dX11_init_107 pw_X11_59_11 rfl rfl (by first | assumption | exact hwf _ _ | exact dt_b32 _ | omega | exact ⟨by omega, by omega⟩ | decide | exact ⟨by simp (disch := omega) only [dt_up_s, dt_up_k, dt_up_n]; omega, by simp (disch := omega) only [dt_up_s, dt_up_k, dt_up_n]; omega⟩) ?_
  refine dt_aloadn dX11_init_110 rfl rfl ?_
  refine dt_iconst dX11_init_111 ?_
  refine dt_wfV fun hwf => ?_
  refine dt_putI dX11_init_112 pw_X11_63_11 rfl rfl (by first | assumption | exact hwf _ _ | exact dt_b32 _ | omega | exact ⟨by omega, by omega⟩ | decide | exact ⟨by simp (disch := omega) only [dt_up_s, dt_up_k, dt_up_n]; omega, by simp (disch := omega) only [dt_up_s, dt_up_k, dt_up_n]; omega⟩) ?_
  refine dt_vret dX11_init_115 rfl (by decide) (by decide) ?_
  exact ⟨rfl, rfl, (dt_up σ8 0 7 0), h8, fun r hr => by rw [dt_up_n (by decide)]; exact hm8 r hr, rfl⟩
theorem s_X12_init {σ : dt_Mem} (hz : ∀ k, σ 40 k = 0) : dt_Sp mX12_init 1 14 3078 [dt_R 40] [.inl (11, [5, 9, 11, 17, 23, 29, 35, 43, 2, 0, 0]), .inl (7, [6, 7, 8]), .inr (0, 8), .inr (0, 8), .inr (0, 320), .inl (9, [10, 0, 0, 0, 0]), .inr (0, 500), .inl (6, [12, 13, 14, 15, 16, 0, 0, 0]), .inr (0, 7), .inr (0, 56), .inr (0, 56), .inr (0, 168), .inr (0, 8), .inl (6, [18, 19, 20, 21, 22, 0, 0, 0]), .inr (0, 7), .inr (0, 56), .inr (0, 56), .inr (0, 168), .inr (0, 8), .inl (6, [24, 25, 26, 27, 28, 0, 0, 0]), .inr (0, 7), .inr (0, 56), .inr (0, 56), .inr (0, 168), .inr (0, 8), .inl (6, [30, 31, 32, 33, 34, 0, 0, 0]), .inr (0, 7), .inr (0, 56), .inr (0, 56), .inr (0, 168), .inr (0, 8), .inl (8, [11, 36, 37, 38, 39, 40, 41, 42]), .inr (1, 256), .inr (1, 256), .inr (1, 256), .inr (0, 256), .inr (0, 256), .inr (0, 8), .inr (0, 8), .inl (4, [11]), .inl (12, [0, 0, 3, 3, 3, 3, 3, 0, 3, 0, 0, 0, 0, 0, 0, 0, 0, 0, 1, 3, 3, 3, 3, 3, 0, 0, 3, 3, 3, 0])] σ (fun v sh2 σ2 => v = none ∧ sh2 = dt_SH ∧ dk σ σ2 40 55 ∧ ∀ r, r < 8 → σ2 41 r = -1) := by
  refine dt_Sp_of (by decide) (Nat.le_of_ble_eq_true rfl) ?_
  refine dt_wfV fun hwf => ?_
  have hz1 := dk.b hz
  show dt_V _ _ _ 0 0 0 [some (dt_R 40)] [] _ _
  refine dt_aloadn dX12_init_0 rfl rfl ?_
  refine dt_obj dX12_init_1 po_X12_1 pob_i pob_c (by decide) (by decide) ?_
  refine dt_aloadn dX12_init_4 rfl rfl ?_
  refine dt_bipush dX12_init_5 (by decide) ?_
  refine dt_newa0 (ty := 0) dX12_init_7 (Or.inl ⟨rfl, rfl⟩) (by decide) (by decide) (by decide) (by decide) pa_I ?_
  refine dt_wk (kc' := 1) (ks' := 8) (Nat.le_of_ble_eq_true rfl) (Nat.le_of_ble_eq_true rfl) ?_
  dsimp only [List.cons_append, List.nil_append, List.length_cons, List.length_nil, Nat.reduceAdd]
  refine dt_dupR dX12_init_9 ?_
  refine dt_iconst dX12_init_10 ?_
  refine dt_iconst dX12_init_11 ?_
  refine dt_wfV fun hwf => ?_
  refine dt_iast dX12_init_12 rfl (by first | omega | (simp (disch := omega) only [dt_up_s, dt_up_k, dt_up_n]; omega)) (by first | omega | (simp (disch := omega) only [dt_up_s, dt_up_k, dt_up_n]; omega)) (by decide) (by first | assumption | exact hwf _ _ | exact dt_b32 _ | omega | exact ⟨by omega, by omega⟩ | decide | exact ⟨by simp (disch := omega) only [dt_up_s, dt_up_k, dt_up_n]; omega, by simp (disch := omega) only [dt_up_s, dt_up_k, dt_up_n]; omega⟩) ?_
  refine dt_dupR dX12_init_13 ?_
  refine dt_iconst dX12_init_14 ?_
  refine dt_iconst dX12_init_15 ?_
  refine dt_wfV fun hwf => ?_
  refine dt_iast dX12_init_16 rfl (by first | omega | (simp (disch := omega) only [dt_up_s, dt_up_k, dt_up_n]; omega)) (by first | omega | (simp (disch := omega) only [dt_up_s, dt_up_k, dt_up_n]; omega)) (by decide) (by first | assumption | exact hwf _ _ | exact dt_b32 _ | omega | exact ⟨by omega, by omega⟩ | decide | exact ⟨by simp (disch := omega) only [dt_up_s, dt_up_k, dt_up_n]; omega, by simp (disch := omega) only [dt_up_s, dt_up_k, dt_up_n]; omega⟩) ?_
  refine dt_dupR dX12_init_17 ?_
  refine dt_iconst dX12_init_18 ?_
  refine dt_iconst dX12_init_19 ?_
  refine dt_wfV fun hwf => ?_
  refine dt_iast dX12_init_20 rfl (by first | omega | (simp (disch := omega) only [dt_up_s, dt_up_k, dt_up_n]; omega)) (by first | omega | (simp (disch := omega) only [dt_up_s, dt_up_k, dt_up_n]; omega)) (by decide) (by first | assumption | exact hwf _ _ | exact dt_b32 _ | omega | exact ⟨by omega, by omega⟩ | decide | exact ⟨by simp (disch := omega) only [dt_up_s, dt_up_k, dt_up_n]; omega, by simp (disch := omega) only [dt_up_s, dt_up_k, dt_up_n]; omega⟩) ?_
  refine dt_dupR dX12_init_21 ?_
  refine dt_iconst dX12_init_22 ?_
  refine dt_iconst dX12_init_23 ?_
  refine dt_wfV fun hwf => ?_
  refine dt_iast dX12_init_24 rfl (by first | omega | (simp (disch := omega) only [dt_up_s, dt_up_k, dt_up_n]; omega)) (by first | omega | (simp (disch := omega) only [dt_up_s, dt_up_k, dt_up_n]; omega)) (by decide) (by first | assumption | exact hwf _ _ | exact dt_b32 _ | omega | exact ⟨by omega, by omega⟩ | decide | exact ⟨by simp (disch := omega) only [dt_up_s, dt_up_k, dt_up_n]; omega, by simp (disch := omega) only [dt_up_s, dt_up_k, dt_up_n]; omega⟩) ?_
  refine dt_dupR dX12_init_25 ?_
  refine dt_iconst dX12_init_26 ?_
  refine dt_iconst dX12_init_27 ?_
  refine dt_wfV fun hwf => ?_
  refine dt_iast dX12_init_28 rfl (by first | omega | (simp (disch := omega) only [dt_up_s, dt_up_k, dt_up_n]; omega)) (by first | omega | (simp (disch := omega) only [dt_up_s, dt_up_k, dt_up_n]; omega)) (by decide) (by first | assumption | exact hwf _ _ | exact dt_b32 _ | omega | exact ⟨by omega, by omega⟩ | decide | exact ⟨by simp (disch := omega) only [dt_up_s, dt_up_k, dt_up_n]; omega, by simp (disch := omega) only [dt_up_s, dt_up_k, dt_up_n]; omega⟩) ?_
  refine dt_dupR dX12_init_29 ?_
  refine dt_iconst dX12_init_30 ?_
  refine dt_iconst dX12_init_31 ?_
  refine dt_wfV fun hwf => ?_
  refine dt_iast dX12_init_32 rfl (by first | omega | (simp (disch := omega) only [dt_up_s, dt_up_k, dt_up_n]; omega)) (by first | omega | (simp (disch := omega) only [dt_up_s, dt_up_k, dt_up_n]; omega)) (by decide) (by first | assumption | exact hwf _ _ | exact dt_b32 _ | omega | exact ⟨by omega, by omega⟩ | decide | exact ⟨by simp (disch := omega) only [dt_up_s, dt_up_k, dt_up_n]; omega, by simp (disch := omega) only [dt_up_s, dt_up_k, dt_up_n]; omega⟩) ?_
  refine dt_dupR dX12_init_33 ?_
  refine dt_bipush dX12_init_34 (by decide) ?_
  refine dt_iconst dX12_init_36 ?_
  refine dt_wfV fun hwf => ?_
  refine dt_iast dX12_init_37 rfl (by first | omega | (simp (disch := omega) only [dt_up_s, dt_up_k, dt_up_n]; omega)) (by first | omega | (simp (disch := omega) only [dt_up_s, dt_up_k, dt_up_n]; omega)) (by decide) (by first | assumption | exact hwf _ _ | exact dt_b32 _ | omega | exact ⟨by omega, by omega⟩ | decide | exact ⟨by simp (disch := omega) only [dt_up_s, dt_up_k, dt_up_n]; omega, by simp (disch := omega) only [dt_up_s, dt_up_k, dt_up_n]; omega⟩) ?_
  refine dt_dupR dX12_init_38 ?_
  refine dt_bipush dX12_init_39 (by decide) ?_
  refine dt_iconst dX12_init_41 ?_
  refine dt_wfV fun hwf => ?_
  refine dt_iast dX12_init_42 rfl (by first | omega | (simp (disch := omega) only [dt_up_s, dt_up_k, dt_up_n]; omega)) (by first | omega | (simp (disch := omega) only [dt_up_s, dt_up_k, dt_up_n]; omega)) (by decide) (by first | assumption | exact hwf _ _ | exact dt_b32 _ | omega | exact ⟨by omega, by omega⟩ | decide | exact ⟨by simp (disch := omega) only [dt_up_s, dt_up_k, dt_up_n]; omega, by simp (disch := omega) only [dt_up_s, dt_up_k, dt_up_n]; omega⟩) ?_
  show dt_V _ _ _ _ _ 43 _ [dt_R 41, dt_R 40] _ (dt_up (dt_up (dt_up (dt_up (dt_up (dt_up (dt_up (dt_up (dt_zr σ 41) 41 0 (-1)) 41 1 (-1)) 41 2 (-1)) 41 3 (-1)) 41 4 (-1)) 41 5 (-1)) 41 6 (-1)) 41 7 (-1))
  obtain ⟨σl, el⟩ : ∃ z, z = (dt_up (dt_up (dt_up (dt_up (dt_up (dt_up (dt_up (dt_up (dt_zr σ 41) 41 0 (-1)) 41 1 (-1)) 41 2 (-1)) 41 3 (-1)) 41 4 (-1)) 41 5 (-1)) 41 6 (-1)) 41 7 (-1)) := ⟨_, rfl⟩
  rw [← el]
  have hl1 : dk σ σl 40 42 := by
    rw [el]
    exact (((((((((hz1.zr (by decide) rfl).u2 (by decide) (by decide)).u2 (by decide) (by decide)).u2 (by decide) (by decide)).u2 (by decide) (by decide)).u2 (by decide) (by decide)).u2 (by decide) (by decide)).u2 (by decide) (by decide)).u2 (by decide) (by decide))
  have hl2 : ∀ r, r < 8 → σl 41 r = -1 := by
    intro r hr
    rw [el]
    rcases (show r = 0 ∨ r = 1 ∨ r = 2 ∨ r = 3 ∨ r = 4 ∨ r = 5 ∨ r = 6 ∨ r = 7 by omega) with rfl | rfl | rfl | rfl | rfl | rfl | rfl | rfl <;> simp [dt_up, dt_zr]
  clear el
  refine dt_fputR dX12_init_43 pf_X12_7_12 rfl ⟨rfl, fun _ => rfl⟩ rfl rfl ?_
  dsimp only [List.set, Nat.reduceAdd]
  refine dt_aloadn dX12_init_46 rfl rfl ?_
  refine dt_bipush dX12_init_47 (by decide) ?_
  refine dt_newa0 (ty := 0) dX12_init_49 (Or.inl ⟨rfl, rfl⟩) (by decide) (by decide) (by decide) (by decide) pa_I ?_
  refine dt_wk (kc' := 2) (ks' := 16) (Nat.le_of_ble_eq_true rfl) (Nat.le_of_ble_eq_true rfl) ?_
  dsimp only [List.cons_append, List.nil_append, List.length_cons, List.length_nil, Nat.reduceAdd]
  refine dt_fputR dX12_init_51 pf_X12_13_12 rfl ⟨rfl, fun _ => rfl⟩ rfl rfl ?_
  dsimp only [List.set, Nat.reduceAdd]
  refine dt_aloadn dX12_init_54 rfl rfl ?_
  refine dt_sipush dX12_init_55 (by decide) ?_
  refine dt_newa0 (ty := 0) dX12_init_58 (Or.inl ⟨rfl, rfl⟩) (by decide) (by decide) (by decide) (by decide) pa_I ?_
  refine dt_wk (kc' := 3) (ks' := 336) (Nat.le_of_ble_eq_true rfl) (Nat.le_of_ble_eq_true rfl) ?_
  dsimp only [List.cons_append, List.nil_append, List.length_cons, List.length_nil, Nat.reduceAdd]
  refine dt_fputR dX12_init_60 pf_X12_16_12 rfl ⟨rfl, fun _ => rfl⟩ rfl rfl ?_
  dsimp only [List.set, Nat.reduceAdd]
  refine dt_aloadn dX12_init_63 rfl rfl ?_
  refine dt_sipush dX12_init_64 (by decide) ?_
  refine dt_newa0 (ty := 0) dX12_init_67 (Or.inl ⟨rfl, rfl⟩) (by decide) (by decide) (by decide) (by decide) pa_I ?_
  refine dt_wk (kc' := 4) (ks' := 634) (Nat.le_of_ble_eq_true rfl) (Nat.le_of_ble_eq_true rfl) ?_
  dsimp only [List.cons_append, List.nil_append, List.length_cons, List.length_nil, Nat.reduceAdd]
  refine dt_fputR dX12_init_69 pf_X12_19_12 rfl ⟨rfl, fun _ => rfl⟩ rfl rfl ?_
  dsimp only [List.set, Nat.reduceAdd]
  refine dt_aloadn dX12_init_72 rfl rfl ?_
  refine dt_sipush dX12_init_73 (by decide) ?_
  refine dt_newa0 (ty := 0) dX12_init_76 (Or.inl ⟨rfl, rfl⟩) (by decide) (by decide) (by decide) (by decide) pa_I ?_
  refine dt_wk (kc' := 5) (ks' := 932) (Nat.le_of_ble_eq_true rfl) (Nat.le_of_ble_eq_true rfl) ?_
  dsimp only [List.cons_append, List.nil_append, List.length_cons, List.length_nil, Nat.reduceAdd]
  refine dt_fputR dX12_init_78 pf_X12_22_12 rfl ⟨rfl, fun _ => rfl⟩ rfl rfl ?_
  dsimp only [List.set, Nat.reduceAdd]
  refine dt_aloadn dX12_init_81 rfl rfl ?_
  refine dt_sipush dX12_init_82 (by decide) ?_
  refine dt_newa0 (ty := 0) dX12_init_85 (Or.inl ⟨rfl, rfl⟩) (by decide) (by decide) (by decide) (by decide) pa_I ?_
  refine dt_wk (kc' := 6) (ks' := 1432) (Nat.le_of_ble_eq_true rfl) (Nat.le_of_ble_eq_true rfl) ?_
  dsimp only [List.cons_append, List.nil_append, List.length_cons, List.length_nil, Nat.reduceAdd]
  refine dt_fputR dX12_init_87 pf_X12_25_12 rfl ⟨rfl, fun _ => rfl⟩ rfl rfl ?_
  dsimp only [List.set, Nat.reduceAdd]
  refine dt_aloadn dX12_init_90 rfl rfl ?_
  refine dt_sipush dX12_init_91 (by decide) ?_
  refine dt_newa0 (ty := 1) dX12_init_94 (Or.inr ⟨rfl, rfl⟩) (by decide) (by decide) (by decide) (by decide) pa_Z ?_
  refine dt_wk (kc' := 7) (ks' := 1688) (Nat.le_of_ble_eq_true rfl) (Nat.le_of_ble_eq_true rfl) ?_
  dsimp only [List.cons_append, List.nil_append, List.length_cons, List.length_nil, Nat.reduceAdd]
  refine dt_fputR dX12_init_96 pf_X12_28_12 rfl ⟨rfl, fun _ => rfl⟩ rfl rfl ?_
  dsimp only [List.set, Nat.reduceAdd]
  refine dt_aloadn dX12_init_99 rfl rfl ?_
  refine dt_sipush dX12_init_100 (by decide) ?_
  refine dt_newa0 (ty := 1) dX12_init_103 (Or.inr ⟨rfl, rfl⟩) (by decide) (by decide) (by decide) (by decide) pa_Z ?_
  refine dt_wk (kc' := 8) (ks' := 1944) (Nat.le_of_ble_eq_true rfl) (Nat.le_of_ble_eq_true rfl) ?_
  dsimp only [List.cons_append, List.nil_append, List.length_cons, List.length_nil, Nat.reduceAdd]
  refine dt_fputR dX12_init_105 pf_X12_32_12 rfl ⟨rfl, fun _ => rfl⟩ rfl rfl ?_
  dsimp only [List.set, Nat.reduceAdd]
  refine dt_aloadn dX12_init_108 rfl rfl ?_
  refine dt_sipush dX12_init_109 (by decide) ?_
  refine dt_newa0 (ty := 0) dX12_init_112 (Or.inl ⟨rfl, rfl⟩) (by decide) (by decide) (by decide) (by decide) pa_I ?_
  refine dt_wk (kc' := 9) (ks' := 2200) (Nat.le_of_ble_eq_true rfl) (Nat.le_of_ble_eq_true rfl) ?_
  dsimp only [List.cons_append, List.nil_append, List.length_cons, List.length_nil, Nat.reduceAdd]
  refine dt_fputR dX12_init_114 pf_X12_35_12 rfl ⟨rfl, fun _ => rfl⟩ rfl rfl ?_
  dsimp only [List.set, Nat.reduceAdd]
  refine dt_aloadn dX12_init_117 rfl rfl ?_
  refine dt_bipush dX12_init_118 (by decide) ?_
  refine dt_newa0 (ty := 0) dX12_init_120 (Or.inl ⟨rfl, rfl⟩) (by decide) (by decide) (by decide) (by decide) pa_I ?_
  refine dt_wk (kc' := 10) (ks' := 2208) (Nat.le_of_ble_eq_true rfl) (Nat.le_of_ble_eq_true rfl) ?_
  dsimp only [List.cons_append, List.nil_append, List.length_cons, List.length_nil, Nat.reduceAdd]
  refine dt_fputR dX12_init_122 pf_X12_38_12 rfl ⟨rfl, fun _ => rfl⟩ rfl rfl ?_
  dsimp only [List.set, Nat.reduceAdd]
  refine dt_aloadn dX12_init_125 rfl rfl ?_
  refine dt_sipush dX12_init_126 (by decide) ?_
  refine dt_newa0 (ty := 1) dX12_init_129 (Or.inr ⟨rfl, rfl⟩) (by decide) (by decide) (by decide) (by decide) pa_Z ?_
  refine dt_wk (kc' := 11) (ks' := 2464) (Nat.le_of_ble_eq_true rfl) (Nat.le_of_ble_eq_true rfl) ?_
  dsimp only [List.cons_append, List.nil_append, List.length_cons, List.length_nil, Nat.reduceAdd]
  refine dt_fputR dX12_init_131 pf_X12_41_12 rfl ⟨rfl, fun _ => rfl⟩ rfl rfl ?_
  dsimp only [List.set, Nat.reduceAdd]
  refine dt_aloadn dX12_init_134 rfl rfl ?_
  refine dt_iconst dX12_init_135 ?_
  refine dt_newa0 (ty := 1) dX12_init_136 (Or.inr ⟨rfl, rfl⟩) (by decide) (by decide) (by decide) (by decide) pa_Z ?_
  refine dt_wk (kc' := 12) (ks' := 2466) (Nat.le_of_ble_eq_true rfl) (Nat.le_of_ble_eq_true rfl) ?_
  dsimp only [List.cons_append, List.nil_append, List.length_cons, List.length_nil, Nat.reduceAdd]
  refine dt_fputR dX12_init_138 pf_X12_44_12 rfl ⟨rfl, fun _ => rfl⟩ rfl rfl ?_
  dsimp only [List.set, Nat.reduceAdd]
  refine dt_aloadn dX12_init_141 rfl rfl ?_
  refine dt_sipush dX12_init_142 (by decide) ?_
  refine dt_newa0 (ty := 0) dX12_init_145 (Or.inl ⟨rfl, rfl⟩) (by decide) (by decide) (by decide) (by decide) pa_I ?_
  refine dt_wk (kc' := 13) (ks' := 3062) (Nat.le_of_ble_eq_true rfl) (Nat.le_of_ble_eq_true rfl) ?_
  dsimp only [List.cons_append, List.nil_append, List.length_cons, List.length_nil, Nat.reduceAdd]
  refine dt_fputR dX12_init_147 pf_X12_47_12 rfl ⟨rfl, fun _ => rfl⟩ rfl rfl ?_
  dsimp only [List.set, Nat.reduceAdd]
  refine dt_aloadn dX12_init_150 rfl rfl ?_
  refine dt_bipush dX12_init_151 (by decide) ?_
  refine dt_newa0 (ty := 0) dX12_init_153 (Or.inl ⟨rfl, rfl⟩) (by decide) (by decide) (by decide) (by decide) pa_I ?_
  refine dt_wk (kc' := 14) (ks' := 3078) (Nat.le_of_ble_eq_true rfl) (Nat.le_of_ble_eq_true rfl) ?_
  dsimp only [List.cons_append, List.nil_append, List.length_cons, List.length_nil, Nat.reduceAdd]
  refine dt_fputR dX12_init_155 pf_X12_50_12 rfl ⟨rfl, fun _ => rfl⟩ rfl rfl ?_
  dsimp only [List.set, Nat.reduceAdd]
  refine dt_vret dX12_init_158 rfl (by decide) (by decide) ?_
  refine ⟨rfl, rfl, (((((((((((((((((((((((((((hl1.up (by decide)).zr (by decide) rfl).up (by decide)).zr (by decide) rfl).up (by decide)).zr (by decide) rfl).up (by decide)).zr (by decide) rfl).up (by decide)).zr (by decide) rfl).up (by decide)).zr (by decide) rfl).up (by decide)).zr (by decide) rfl).up (by decide)).zr (by decide) rfl).up (by decide)).zr (by decide) rfl).up (by decide)).zr (by decide) rfl).up (by decide)).zr (by decide) rfl).up (by decide)).zr (by decide) rfl).up (by decide)).zr (by decide) rfl).up (by decide)), fun r hr => ?_⟩
  rw [dt_up_n (by decide), dt_zr_n (by decide), dt_up_n (by decide), dt_zr_n (by decide), dt_up_n (by decide), dt_zr_n (by decide), dt_up_n (by decide), dt_zr_n (by decide), dt_up_n (by decide), dt_zr_n (by decide), dt_up_n (by decide), dt_zr_n (by decide), dt_up_n (by decide), dt_zr_n (by decide), dt_up_n (by decide), dt_zr_n (by decide), dt_up_n (by decide), dt_zr_n (by decide), dt_up_n (by decide), dt_zr_n (by decide), dt_up_n (by decide), dt_zr_n (by decide), dt_up_n (by decide), dt_zr_n (by decide), dt_up_n (by decide), dt_zr_n (by decide), dt_up_n (by decide)]
  exact hl2 r hr
/-! the start of both -/
def A0 : dS := ((fun _ => none), [], ([], [], 0), (([], [], 0), ([], [], 0)), 0, 0, [])
theorem cP_0 {σ : dt_Mem} {p : Nat} (h5 : σ p 5 = 0) (h6 : σ p 6 = 0) (h7 : σ p 7 = 0) : cP σ p ([], [], 0) :=
  ⟨⟨⟨by decide, by decide⟩, h5, h6, h7, fun t tg h => by simp at h, fun i k h => by simp at h⟩, ⟨by decide, fun tg h => by simp at h, by decide, fun k h => by simp at h⟩, fun _ => rfl⟩
theorem cInv_0 {ex : List dt_Shp} {σ σ1 : dt_Mem} (h : dk σ σ1 0 40) (hm : ∀ r, r < 8 → σ1 2 r = -1) : cInv ex (dt_up (dt_up (dt_up σ1 0 8 (-1)) 0 9 0) 0 10 0) A0 := by
  have e : ∀ b k, 0 < b → b < 40 → b ≠ 2 → dt_up (dt_up (dt_up σ1 0 8 (-1)) 0 9 0) 0 10 0 b k = 0 := fun b k h1 h2 h3 => by
    rw [dt_up_n (by omega), dt_up_n (by omega), dt_up_n (by omega)]
    exact h.2 b k (by omega) h2 h3 (by omega)
  refine ⟨fun r hr => ⟨?_, fun _ => e 3 r (by decide) (by decide) (by decide)⟩, ⟨by decide, fun x hx => absurd (show x ∈ ([] : List Nat) from hx) List.not_mem_nil, e 5 1 (by decide) (by decide) (by decide), fun i x hx => by have hx : ([] : List Nat)[i]? = some x := hx; simp at hx⟩, cP_0 (e 7 5 (by decide) (by decide) (by decide)) (e 7 6 (by decide) (by decide) (by decide)) (e 7 7 (by decide) (by decide) (by decide)), cP_0 (e 19 5 (by decide) (by decide) (by decide)) (e 19 6 (by decide) (by decide) (by decide)) (e 19 7 (by decide) (by decide) (by decide)), cP_0 (e 25 5 (by decide) (by decide) (by decide)) (e 25 6 (by decide) (by decide) (by decide)) (e 25 7 (by decide) (by decide) (by decide)), ?_, dt_up_s, Or.inl ⟨?_, rfl⟩⟩
  · show dt_up (dt_up (dt_up σ1 0 8 (-1)) 0 9 0) 0 10 0 2 r = -1
    rw [dt_up_n (by decide), dt_up_n (by decide), dt_up_n (by decide)]
    exact hm r hr
  · rw [dt_up_k (by decide), dt_up_s]; rfl
  · rw [dt_up_k (by decide), dt_up_k (by decide), dt_up_s]
theorem rInv_0 {σ σ2 : dt_Mem} (h : dk σ σ2 40 55) (hm : ∀ r, r < 8 → σ2 41 r = -1) : rInv σ2 A0 := by
  have e : ∀ b k, 40 ≤ b → b < 55 → b ≠ 41 → σ2 b k = 0 := fun b k h1 h2 h3 => h.2 b k h1 h2 (by omega) h3
  refine ⟨fun r hr => hm r hr, ⟨e 40 9 (by decide) (by decide) (by decide), fun i x hx => by have hx : ([] : List Nat)[i]? = some x := hx; simp at hx⟩, ⟨⟨e 44 0 (by decide) (by decide) (by decide), e 44 1 (by decide) (by decide) (by decide), e 44 2 (by decide) (by decide) (by decide), fun t tg h => by have h : ([] : List (List (Nat × List Nat)))[t]? = some tg := h; simp at h, fun i k h => by have h : ([] : List Nat)[i]? = some k := h; simp at h⟩, ?_⟩, ⟨fun g => absurd rfl g, ?_⟩, ⟨fun g => absurd rfl g, ?_⟩, e 40 10 (by decide) (by decide) (by decide), e 40 1 (by decide) (by decide) (by decide), ⟨e 40 29 (by decide) (by decide) (by decide), by decide, fun i x hx => by have hx : ([] : List Int)[i]? = some x := hx; simp at hx⟩⟩
  · rw [e 40 7 (by decide) (by decide) (by decide), dt_bF (fun g => g rfl)]
  · rw [e 52 0 (by decide) (by decide) (by decide), dt_bF (fun g => g rfl)]
  · rw [e 52 1 (by decide) (by decide) (by decide), dt_bF (fun g => g rfl)]
