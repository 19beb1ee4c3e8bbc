
theorem s_X6_slotOf {sh : List dt_Shp} {σ : dt_Mem} {t w : Int}  : dt_Sp mX6_slotOf 0 0 0 [dt_I t, dt_I w] sh σ (fun v sh2 σ2 => v = some (dt_I (t * 8 + w)) ∧ sh2 = sh ∧ σ2 = σ) := by
  refine dt_Sp_of (by decide) (Nat.le_of_ble_eq_true rfl) ?_
  refine dt_wfV fun hwf => ?_
  show dt_V _ _ _ 0 0 0 [some (dt_I t), some (dt_I w)] [] _ _
  refine dt_iloadn dX6_slotOf_0 rfl rfl ?_
  refine dt_bipush dX6_slotOf_1 (by decide) ?_
  refine dt_imul dX6_slotOf_3 ?_
  refine dt_iloadn dX6_slotOf_4 rfl rfl ?_
  refine dt_iadd dX6_slotOf_5 ?_
  refine dt_iret dX6_slotOf_6 rfl (by decide) (by decide) ?_
  exact ⟨rfl, rfl, rfl⟩
theorem s_X6_rest {sh : List dt_Shp} {σ : dt_Mem} {x b : Int} (h1 : 0 ≤ x) (h2 : x < 2147483648) (h3 : 0 < b) (h4 : b < 2147483648) : dt_Sp mX6_rest 0 0 0 [dt_I x, dt_I b] sh σ (fun v sh2 σ2 => v = some (dt_I (x % b)) ∧ sh2 = sh ∧ σ2 = σ) := by
  refine dt_Sp_of (by decide) (Nat.le_of_ble_eq_true rfl) ?_
  refine dt_wfV fun hwf => ?_
  show dt_V _ _ _ 0 0 0 [some (dt_I x), some (dt_I b)] [] _ _
  refine dt_iloadn dX6_rest_0 rfl rfl ?_
  refine dt_if_le (tgt := 10) dX6_rest_1 (by decide) ⟨by omega, by omega⟩ (fun c1 => ?_) (fun c1 => ?_)
  · skip
    exfalso; omega
  · skip
    refine dt_iloadn dX6_rest_4 rfl rfl ?_
    refine dt_iloadn dX6_rest_5 rfl rfl ?_
    refine dt_irem dX6_rest_6 ⟨by omega, by omega⟩ (by first | omega | (simp (disch := omega) only [dt_up_s, dt_up_k, dt_up_n]; omega)) ?_
    refine dt_goto (tgt := 11) dX6_rest_7 (by decide) ?_
    refine dt_iret dX6_rest_11 rfl (by decide) (by decide) ?_
    exact ⟨by rw [dj_rem_i h1 h2 h3 h4], rfl, rfl⟩
theorem s_X6_draw {sh : List dt_Shp} {σ : dt_Mem} {x : Int} (h1 : 0 ≤ x) (h2 : x < 2147483648) : dt_Sp mX6_draw 0 0 0 [dt_I x] sh σ (fun v sh2 σ2 => v = some (dt_I (x * 16807 % 2147483647)) ∧ sh2 = sh ∧ σ2 = σ) := by
  refine dt_Sp_of (by decide) (Nat.le_of_ble_eq_true rfl) ?_
  refine dt_wfV fun hwf => ?_
  show dt_V _ _ _ 0 0 0 [some (dt_I x)] [] _ _
  refine dt_iloadn dX6_draw_0 rfl rfl ?_
  refine dt_ui2l dX6_draw_1 ⟨by omega, by omega⟩ ?_
  refine dt_ldc2 dX6_draw_2 pk_X6_86 ?_
  refine dt_lmul dX6_draw_5 ?_
  refine dt_ldc2 dX6_draw_6 pk_X6_88 ?_
  refine dt_lrem dX6_draw_9 (by decide) (by first | omega | (simp (disch := omega) only [dt_up_s, dt_up_k, dt_up_n]; omega)) ?_
  refine dt_ul2i dX6_draw_10 ?_
  refine dt_iret dX6_draw_11 rfl (by decide) (by decide) ?_
  exact ⟨by rw [dj_lrem_i (by omega) (by omega) (by omega) (by omega)], rfl, rfl⟩
theorem s_X6_tongues {sh : List dt_Shp} {σ : dt_Mem} {p : Nat} (hp : dt_pSh sh p) : dt_Sp mX6_tongues 0 0 0 [dt_R p] sh σ (fun v sh2 σ2 => v = some (dt_I (σ p 5)) ∧ sh2 = sh ∧ σ2 = σ) := by
  refine dt_Sp_of (by decide) (Nat.le_of_ble_eq_true rfl) ?_
  refine dt_wfV fun hwf => ?_
  show dt_V _ _ _ 0 0 0 [some (dt_R p)] [] _ _
  refine dt_aloadn dX6_tongues_0 rfl rfl ?_
  refine dt_getI dX6_tongues_1 pg_X6_27_6 hp.1 rfl ?_
  refine dt_iret dX6_tongues_4 rfl (by decide) (by decide) ?_
  exact ⟨rfl, rfl, rfl⟩
theorem s_X6_people {sh : List dt_Shp} {σ : dt_Mem} {p : Nat} (hp : dt_pSh sh p) : dt_Sp mX6_people 0 0 0 [dt_R p] sh σ (fun v sh2 σ2 => v = some (dt_I (σ p 6)) ∧ sh2 = sh ∧ σ2 = σ) := by
  refine dt_Sp_of (by decide) (Nat.le_of_ble_eq_true rfl) ?_
  refine dt_wfV fun hwf => ?_
  show dt_V _ _ _ 0 0 0 [some (dt_R p)] [] _ _
  refine dt_aloadn dX6_people_0 rfl rfl ?_
  refine dt_getI dX6_people_1 pg_X6_31_6 hp.1 rfl ?_
  refine dt_iret dX6_people_4 rfl (by decide) (by decide) ?_
  exact ⟨rfl, rfl, rfl⟩
theorem s_X6_years {sh : List dt_Shp} {σ : dt_Mem} {p : Nat} (hp : dt_pSh sh p) : dt_Sp mX6_years 0 0 0 [dt_R p] sh σ (fun v sh2 σ2 => v = some (dt_I (σ p 7)) ∧ sh2 = sh ∧ σ2 = σ) := by
  refine dt_Sp_of (by decide) (Nat.le_of_ble_eq_true rfl) ?_
  refine dt_wfV fun hwf => ?_
  show dt_V _ _ _ 0 0 0 [some (dt_R p)] [] _ _
  refine dt_aloadn dX6_years_0 rfl rfl ?_
  refine dt_getI dX6_years_1 pg_X6_34_6 hp.1 rfl ?_
  refine dt_iret dX6_years_4 rfl (by decide) (by decide) ?_
  exact ⟨rfl, rfl, rfl⟩
theorem s_X6_isNone {sh : List dt_Shp} {σ : dt_Mem} {p : Nat} (hp : dt_pSh sh p) : dt_Sp mX6_isNone 0 0 0 [dt_R p] sh σ (fun v sh2 σ2 => v = some (dt_I (dt_b (σ p 5 = 0))) ∧ sh2 = sh ∧ σ2 = σ) := by
  refine dt_Sp_of (by decide) (Nat.le_of_ble_eq_true rfl) ?_
  refine dt_wfV fun hwf => ?_
  show dt_V _ _ _ 0 0 0 [some (dt_R p)] [] _ _
  refine dt_aloadn dX6_isNone_0 rfl rfl ?_
  refine dt_getI dX6_isNone_1 pg_X6_27_6 hp.1 rfl ?_
  refine dt_if_ne (tgt := 11) dX6_isNone_4 (by decide) (by first | assumption | exact hwf _ _ | exact dt_b32 _ | omega | exact ⟨by omega, by omega⟩ | decide | exact ⟨by simp (disch := omega) only [dt_up_s, dt_up_k, dt_up_n]; omega, by simp (disch := omega) only [dt_up_s, dt_up_k, dt_up_n]; omega⟩) (fun c1 => ?_) (fun c1 => ?_)
  · skip
    refine dt_iconst dX6_isNone_11 ?_
    refine dt_zret dX6_isNone_12 rfl (by decide) (by decide) (by first | exact Or.inl rfl | exact Or.inr rfl | assumption | omega) ?_
    first | exact ⟨by rw [dt_bT (by omega)], rfl, rfl⟩ | exact ⟨by rw [dt_bF (by omega)], rfl, rfl⟩
  · skip
    refine dt_iconst dX6_isNone_7 ?_
    refine dt_goto (tgt := 12) dX6_isNone_8 (by decide) ?_
    refine dt_zret dX6_isNone_12 rfl (by decide) (by decide) (by first | exact Or.inl rfl | exact Or.inr rfl | assumption | omega) ?_
    first | exact ⟨by rw [dt_bT (by omega)], rfl, rfl⟩ | exact ⟨by rw [dt_bF (by omega)], rfl, rfl⟩
def cT (σ : dt_Mem) (p : Nat) (t : Int) : Prop := 0 ≤ t ∧ t < σ p 5 ∧ t < 7
def cPe (σ : dt_Mem) (p : Nat) (i : Int) : Prop := 0 ≤ i ∧ i < σ p 6 ∧ i < 8
def cW (σ : dt_Mem) (p : Nat) (t w : Int) : Prop := 0 ≤ t ∧ t < σ p 5 ∧ t < 7 ∧ 0 ≤ w ∧ w < σ (p + 1) t.toNat ∧ w < 8
def cRd (σ : dt_Mem) (p : Nat) (t w q : Int) : Prop := cW σ p t w ∧ 0 ≤ q ∧ q < 3 ∧ q < σ (p + 3) (t * 8 + w).toNat
theorem s_X6_hasTongue {sh : List dt_Shp} {σ : dt_Mem} {p : Nat} {t : Int} (hp : dt_pSh sh p) (h_t : dt_in32 t) : dt_Sp mX6_hasTongue 0 0 0 [dt_R p, dt_I t] sh σ (fun v sh2 σ2 => v = some (dt_I (dt_b (cT σ p t))) ∧ sh2 = sh ∧ σ2 = σ) := by
  refine dt_Sp_of (by decide) (Nat.le_of_ble_eq_true rfl) ?_
  refine dt_wfV fun hwf => ?_
  show dt_V _ _ _ 0 0 0 [some (dt_R p), some (dt_I t)] [] _ _
  refine dt_iconst dX6_hasTongue_0 ?_
  refine dt_iloadn dX6_hasTongue_1 rfl rfl ?_
  refine dt_cm_gt (tgt := 23) dX6_hasTongue_2 (by decide) (by first | assumption | exact hwf _ _ | exact dt_b32 _ | omega | exact ⟨by omega, by omega⟩ | decide | exact ⟨by simp (disch := omega) only [dt_up_s, dt_up_k, dt_up_n]; omega, by simp (disch := omega) only [dt_up_s, dt_up_k, dt_up_n]; omega⟩) (by first | assumption | exact hwf _ _ | exact dt_b32 _ | omega | exact ⟨by omega, by omega⟩ | decide | exact ⟨by simp (disch := omega) only [dt_up_s, dt_up_k, dt_up_n]; omega, by simp (disch := omega) only [dt_up_s, dt_up_k, dt_up_n]; omega⟩) (fun c1 => ?_) (fun c1 => ?_)
  · skip
    refine dt_iconst dX6_hasTongue_23 ?_
    refine dt_zret dX6_hasTongue_24 rfl (by decide) (by decide) (by first | exact Or.inl rfl | exact Or.inr rfl | assumption | omega) ?_
    first | exact ⟨by rw [dt_bT (by unfold cT; omega)], rfl, rfl⟩ | exact ⟨by rw [dt_bF (by unfold cT; omega)], rfl, rfl⟩
  · skip
    refine dt_iloadn dX6_hasTongue_5 rfl rfl ?_
    refine dt_aloadn dX6_hasTongue_6 rfl rfl ?_
    refine dt_getI dX6_hasTongue_7 pg_X6_27_6 hp.1 rfl ?_
    refine dt_cm_ge (tgt := 23) dX6_hasTongue_10 (by decide) (by first | assumption | exact hwf _ _ | exact dt_b32 _ | omega | exact ⟨by omega, by omega⟩ | decide | exact ⟨by simp (disch := omega) only [dt_up_s, dt_up_k, dt_up_n]; omega, by simp (disch := omega) only [dt_up_s, dt_up_k, dt_up_n]; omega⟩) (by first | assumption | exact hwf _ _ | exact dt_b32 _ | omega | exact ⟨by omega, by omega⟩ | decide | exact ⟨by simp (disch := omega) only [dt_up_s, dt_up_k, dt_up_n]; omega, by simp (disch := omega) only [dt_up_s, dt_up_k, dt_up_n]; omega⟩) (fun c2 => ?_) (fun c2 => ?_)
    · skip
      refine dt_iconst dX6_hasTongue_23 ?_
      refine dt_zret dX6_hasTongue_24 rfl (by decide) (by decide) (by first | exact Or.inl rfl | exact Or.inr rfl | assumption | omega) ?_
      first | exact ⟨by rw [dt_bT (by unfold cT; omega)], rfl, rfl⟩ | exact ⟨by rw [dt_bF (by unfold cT; omega)], rfl, rfl⟩
    · skip
      refine dt_iloadn dX6_hasTongue_13 rfl rfl ?_
      refine dt_bipush dX6_hasTongue_14 (by decide) ?_
      refine dt_cm_ge (tgt := 23) dX6_hasTongue_16 (by decide) (by first | assumption | exact hwf _ _ | exact dt_b32 _ | omega | exact ⟨by omega, by omega⟩ | decide | exact ⟨by simp (disch := omega) only [dt_up_s, dt_up_k, dt_up_n]; omega, by simp (disch := omega) only [dt_up_s, dt_up_k, dt_up_n]; omega⟩) (by first | assumption | exact hwf _ _ | exact dt_b32 _ | omega | exact ⟨by omega, by omega⟩ | decide | exact ⟨by simp (disch := omega) only [dt_up_s, dt_up_k, dt_up_n]; omega, by simp (disch := omega) only [dt_up_s, dt_up_k, dt_up_n]; omega⟩) (fun c3 => ?_) (fun c3 => ?_)
      · skip
        refine dt_iconst dX6_hasTongue_23 ?_
        refine dt_zret dX6_hasTongue_24 rfl (by decide) (by decide) (by first | exact Or.inl rfl | exact Or.inr rfl | assumption | omega) ?_
        first | exact ⟨by rw [dt_bT (by unfold cT; omega)], rfl, rfl⟩ | exact ⟨by rw [dt_bF (by unfold cT; omega)], rfl, rfl⟩
      · skip
        refine dt_iconst dX6_hasTongue_19 ?_
        refine dt_goto (tgt := 24) dX6_hasTongue_20 (by decide) ?_
        refine dt_zret dX6_hasTongue_24 rfl (by decide) (by decide) (by first | exact Or.inl rfl | exact Or.inr rfl | assumption | omega) ?_
        first | exact ⟨by rw [dt_bT (by unfold cT; omega)], rfl, rfl⟩ | exact ⟨by rw [dt_bF (by unfold cT; omega)], rfl, rfl⟩
theorem s_X6_hasPerson {sh : List dt_Shp} {σ : dt_Mem} {p : Nat} {i : Int} (hp : dt_pSh sh p) (h_i : dt_in32 i) : dt_Sp mX6_hasPerson 0 0 0 [dt_R p, dt_I i] sh σ (fun v sh2 σ2 => v = some (dt_I (dt_b (cPe σ p i))) ∧ sh2 = sh ∧ σ2 = σ) := by
  refine dt_Sp_of (by decide) (Nat.le_of_ble_eq_true rfl) ?_
  refine dt_wfV fun hwf => ?_
  show dt_V _ _ _ 0 0 0 [some (dt_R p), some (dt_I i)] [] _ _
  refine dt_iconst dX6_hasPerson_0 ?_
  refine dt_iloadn dX6_hasPerson_1 rfl rfl ?_
  refine dt_cm_gt (tgt := 23) dX6_hasPerson_2 (by decide) (by first | assumption | exact hwf _ _ | exact dt_b32 _ | omega | exact ⟨by omega, by omega⟩ | decide | exact ⟨by simp (disch := omega) only [dt_up_s, dt_up_k, dt_up_n]; omega, by simp (disch := omega) only [dt_up_s, dt_up_k, dt_up_n]; omega⟩) (by first | assumption | exact hwf _ _ | exact dt_b32 _ | omega | exact ⟨by omega, by omega⟩ | decide | exact ⟨by simp (disch := omega) only [dt_up_s, dt_up_k, dt_up_n]; omega, by simp (disch := omega) only [dt_up_s, dt_up_k, dt_up_n]; omega⟩) (fun c1 => ?_) (fun c1 => ?_)
  · skip
    refine dt_iconst dX6_hasPerson_23 ?_
    refine dt_zret dX6_hasPerson_24 rfl (by decide) (by decide) (by first | exact Or.inl rfl | exact Or.inr rfl | assumption | omega) ?_
    first | exact ⟨by rw [dt_bT (by unfold cPe; omega)], rfl, rfl⟩ | exact ⟨by rw [dt_bF (by unfold cPe; omega)], rfl, rfl⟩
  · skip
    refine dt_iloadn dX6_hasPerson_5 rfl rfl ?_
    refine dt_aloadn dX6_hasPerson_6 rfl rfl ?_
    refine dt_getI dX6_hasPerson_7 pg_X6_31_6 hp.1 rfl ?_
    refine dt_cm_ge (tgt := 23) dX6_hasPerson_10 (by decide) (by first | assumption | exact hwf _ _ | exact dt_b32 _ | omega | exact ⟨by omega, by omega⟩ | decide | exact ⟨by simp (disch := omega) only [dt_up_s, dt_up_k, dt_up_n]; omega, by simp (disch := omega) only [dt_up_s, dt_up_k, dt_up_n]; omega⟩) (by first | assumption | exact hwf _ _ | exact dt_b32 _ | omega | exact ⟨by omega, by omega⟩ | decide | exact ⟨by simp (disch := omega) only [dt_up_s, dt_up_k, dt_up_n]; omega, by simp (disch := omega) only [dt_up_s, dt_up_k, dt_up_n]; omega⟩) (fun c2 => ?_) (fun c2 => ?_)
    · skip
      refine dt_iconst dX6_hasPerson_23 ?_
      refine dt_zret dX6_hasPerson_24 rfl (by decide) (by decide) (by first | exact Or.inl rfl | exact Or.inr rfl | assumption | omega) ?_
      first | exact ⟨by rw [dt_bT (by unfold cPe; omega)], rfl, rfl⟩ | exact ⟨by rw [dt_bF (by unfold cPe; omega)], rfl, rfl⟩
    · skip
      refine dt_iloadn dX6_hasPerson_13 rfl rfl ?_
      refine dt_bipush dX6_hasPerson_14 (by decide) ?_
      refine dt_cm_ge (tgt := 23) dX6_hasPerson_16 (by decide) (by first | assumption | exact hwf _ _ | exact dt_b32 _ | omega | exact ⟨by omega, by omega⟩ | decide | exact ⟨by simp (disch := omega) only [dt_up_s, dt_up_k, dt_up_n]; omega, by simp (disch := omega) only [dt_up_s, dt_up_k, dt_up_n]; omega⟩) (by first | assumption | exact hwf _ _ | exact dt_b32 _ | omega | exact ⟨by omega, by omega⟩ | decide | exact ⟨by simp (disch := omega) only [dt_up_s, dt_up_k, dt_up_n]; omega, by simp (disch := omega) only [dt_up_s, dt_up_k, dt_up_n]; omega⟩) (fun c3 => ?_) (fun c3 => ?_)
      · skip
        refine dt_iconst dX6_hasPerson_23 ?_
        refine dt_zret dX6_hasPerson_24 rfl (by decide) (by decide) (by first | exact Or.inl rfl | exact Or.inr rfl | assumption | omega) ?_
        first | exact ⟨by rw [dt_bT (by unfold cPe; omega)], rfl, rfl⟩ | exact ⟨by rw [dt_bF (by unfold cPe; omega)], rfl, rfl⟩
      · skip
        refine dt_iconst dX6_hasPerson_19 ?_
        refine dt_goto (tgt := 24) dX6_hasPerson_20 (by decide) ?_
        refine dt_zret dX6_hasPerson_24 rfl (by decide) (by decide) (by first | exact Or.inl rfl | exact Or.inr rfl | assumption | omega) ?_
        first | exact ⟨by rw [dt_bT (by unfold cPe; omega)], rfl, rfl⟩ | exact ⟨by rw [dt_bF (by unfold cPe; omega)], rfl, rfl⟩
theorem s_X6_hasWord {sh : List dt_Shp} {σ : dt_Mem} {p : Nat} {t w : Int} (hp : dt_pSh sh p) (h_t : dt_in32 t) (h_w : dt_in32 w) : dt_Sp mX6_hasWord 0 0 0 [dt_R p, dt_I t, dt_I w] sh σ (fun v sh2 σ2 => v = some (dt_I (dt_b (cW σ p t w))) ∧ sh2 = sh ∧ σ2 = σ) := by
  refine dt_Sp_of (by decide) (Nat.le_of_ble_eq_true rfl) ?_
  refine dt_wfV fun hwf => ?_
  show dt_V _ _ _ 0 0 0 [some (dt_R p), some (dt_I t), some (dt_I w)] [] _ _
  refine dt_iconst dX6_hasWord_0 ?_
  refine dt_iloadn dX6_hasWord_1 rfl rfl ?_
  refine dt_cm_gt (tgt := 44) dX6_hasWord_2 (by decide) (by first | assumption | exact hwf _ _ | exact dt_b32 _ | omega | exact ⟨by omega, by omega⟩ | decide | exact ⟨by simp (disch := omega) only [dt_up_s, dt_up_k, dt_up_n]; omega, by simp (disch := omega) only [dt_up_s, dt_up_k, dt_up_n]; omega⟩) (by first | assumption | exact hwf _ _ | exact dt_b32 _ | omega | exact ⟨by omega, by omega⟩ | decide | exact ⟨by simp (disch := omega) only [dt_up_s, dt_up_k, dt_up_n]; omega, by simp (disch := omega) only [dt_up_s, dt_up_k, dt_up_n]; omega⟩) (fun c1 => ?_) (fun c1 => ?_)
  · skip
    refine dt_iconst dX6_hasWord_44 ?_
    refine dt_zret dX6_hasWord_45 rfl (by decide) (by decide) (by first | exact Or.inl rfl | exact Or.inr rfl | assumption | omega) ?_
    first | exact ⟨by rw [dt_bT (by unfold cW; omega)], rfl, rfl⟩ | exact ⟨by rw [dt_bF (by unfold cW; omega)], rfl, rfl⟩
  · skip
    refine dt_iloadn dX6_hasWord_5 rfl rfl ?_
    refine dt_aloadn dX6_hasWord_6 rfl rfl ?_
    refine dt_getI dX6_hasWord_7 pg_X6_27_6 hp.1 rfl ?_
    refine dt_cm_ge (tgt := 44) dX6_hasWord_10 (by decide) (by first | assumption | exact hwf _ _ | exact dt_b32 _ | omega | exact ⟨by omega, by omega⟩ | decide | exact ⟨by simp (disch := omega) only [dt_up_s, dt_up_k, dt_up_n]; omega, by simp (disch := omega) only [dt_up_s, dt_up_k, dt_up_n]; omega⟩) (by first | assumption | exact hwf _ _ | exact dt_b32 _ | omega | exact ⟨by omega, by omega⟩ | decide | exact ⟨by simp (disch := omega) only [dt_up_s, dt_up_k, dt_up_n]; omega, by simp (disch := omega) only [dt_up_s, dt_up_k, dt_up_n]; omega⟩) (fun c2 => ?_) (fun c2 => ?_)
    · skip
      refine dt_iconst dX6_hasWord_44 ?_
      refine dt_zret dX6_hasWord_45 rfl (by decide) (by decide) (by first | exact Or.inl rfl | exact Or.inr rfl | assumption | omega) ?_
      first | exact ⟨by rw [dt_bT (by unfold cW; omega)], rfl, rfl⟩ | exact ⟨by rw [dt_bF (by unfold cW; omega)], rfl, rfl⟩
    · skip
      refine dt_iloadn dX6_hasWord_13 rfl rfl ?_
      refine dt_bipush dX6_hasWord_14 (by decide) ?_
      refine dt_cm_ge (tgt := 44) dX6_hasWord_16 (by decide) (by first | assumption | exact hwf _ _ | exact dt_b32 _ | omega | exact ⟨by omega, by omega⟩ | decide | exact ⟨by simp (disch := omega) only [dt_up_s, dt_up_k, dt_up_n]; omega, by simp (disch := omega) only [dt_up_s, dt_up_k, dt_up_n]; omega⟩) (by first | assumption | exact hwf _ _ | exact dt_b32 _ | omega | exact ⟨by omega, by omega⟩ | decide | exact ⟨by simp (disch := omega) only [dt_up_s, dt_up_k, dt_up_n]; omega, by simp (disch := omega) only [dt_up_s, dt_up_k, dt_up_n]; omega⟩) (fun c3 => ?_) (fun c3 => ?_)
      · skip
        refine dt_iconst dX6_hasWord_44 ?_
        refine dt_zret dX6_hasWord_45 rfl (by decide) (by decide) (by first | exact Or.inl rfl | exact Or.inr rfl | assumption | omega) ?_
        first | exact ⟨by rw [dt_bT (by unfold cW; omega)], rfl, rfl⟩ | exact ⟨by rw [dt_bF (by unfold cW; omega)], rfl, rfl⟩
      · skip
        refine dt_iconst dX6_hasWord_19 ?_
        refine dt_iloadn dX6_hasWord_20 rfl rfl ?_
        refine dt_cm_gt (tgt := 44) dX6_hasWord_21 (by decide) (by first | assumption | exact hwf _ _ | exact dt_b32 _ | omega | exact ⟨by omega, by omega⟩ | decide | exact ⟨by simp (disch := omega) only [dt_up_s, dt_up_k, dt_up_n]; omega, by simp (disch := omega) only [dt_up_s, dt_up_k, dt_up_n]; omega⟩) (by first | assumption | exact hwf _ _ | exact dt_b32 _ | omega | exact ⟨by omega, by omega⟩ | decide | exact ⟨by simp (disch := omega) only [dt_up_s, dt_up_k, dt_up_n]; omega, by simp (disch := omega) only [dt_up_s, dt_up_k, dt_up_n]; omega⟩) (fun c4 => ?_) (fun c4 => ?_)
        · skip
          refine dt_iconst dX6_hasWord_44 ?_
          refine dt_zret dX6_hasWord_45 rfl (by decide) (by decide) (by first | exact Or.inl rfl | exact Or.inr rfl | assumption | omega) ?_
          first | exact ⟨by rw [dt_bT (by unfold cW; omega)], rfl, rfl⟩ | exact ⟨by rw [dt_bF (by unfold cW; omega)], rfl, rfl⟩
        · skip
          refine dt_iloadn dX6_hasWord_24 rfl rfl ?_
          refine dt_aloadn dX6_hasWord_25 rfl rfl ?_
          refine dt_getR dX6_hasWord_26 pg_X6_9_6 hp.1 rfl ?_
          refine dt_iloadn dX6_hasWord_29 rfl rfl ?_
          refine dt_iald dX6_hasWord_30 hp.2.1 (by first | omega | (simp (disch := omega) only [dt_up_s, dt_up_k, dt_up_n]; omega)) (by first | omega | (simp (disch := omega) only [dt_up_s, dt_up_k, dt_up_n]; omega)) (by decide) ?_
          refine dt_cm_ge (tgt := 44) dX6_hasWord_31 (by decide) (by first | assumption | exact hwf _ _ | exact dt_b32 _ | omega | exact ⟨by omega, by omega⟩ | decide | exact ⟨by simp (disch := omega) only [dt_up_s, dt_up_k, dt_up_n]; omega, by simp (disch := omega) only [dt_up_s, dt_up_k, dt_up_n]; omega⟩) (by first | assumption | exact hwf _ _ | exact dt_b32 _ | omega | exact ⟨by omega, by omega⟩ | decide | exact ⟨by simp (disch := omega) only [dt_up_s, dt_up_k, dt_up_n]; omega, by simp (disch := omega) only [dt_up_s, dt_up_k, dt_up_n]; omega⟩) (fun c5 => ?_) (fun c5 => ?_)
          · skip
            refine dt_iconst dX6_hasWord_44 ?_
            refine dt_zret dX6_hasWord_45 rfl (by decide) (by decide) (by first | exact Or.inl rfl | exact Or.inr rfl | assumption | omega) ?_
            first | exact ⟨by rw [dt_bT (by unfold cW; omega)], rfl, rfl⟩ | exact ⟨by rw [dt_bF (by unfold cW; omega)], rfl, rfl⟩
          · skip
            refine dt_iloadn dX6_hasWord_34 rfl rfl ?_
            refine dt_bipush dX6_hasWord_35 (by decide) ?_
            refine dt_cm_ge (tgt := 44) dX6_hasWord_37 (by decide) (by first | assumption | exact hwf _ _ | exact dt_b32 _ | omega | exact ⟨by omega, by omega⟩ | decide | exact ⟨by simp (disch := omega) only [dt_up_s, dt_up_k, dt_up_n]; omega, by simp (disch := omega) only [dt_up_s, dt_up_k, dt_up_n]; omega⟩) (by first | assumption | exact hwf _ _ | exact dt_b32 _ | omega | exact ⟨by omega, by omega⟩ | decide | exact ⟨by simp (disch := omega) only [dt_up_s, dt_up_k, dt_up_n]; omega, by simp (disch := omega) only [dt_up_s, dt_up_k, dt_up_n]; omega⟩) (fun c6 => ?_) (fun c6 => ?_)
            · skip
              refine dt_iconst dX6_hasWord_44 ?_
              refine dt_zret dX6_hasWord_45 rfl (by decide) (by decide) (by first | exact Or.inl rfl | exact Or.inr rfl | assumption | omega) ?_
              first | exact ⟨by rw [dt_bT (by unfold cW; omega)], rfl, rfl⟩ | exact ⟨by rw [dt_bF (by unfold cW; omega)], rfl, rfl⟩
            · skip
              refine dt_iconst dX6_hasWord_40 ?_
              refine dt_goto (tgt := 45) dX6_hasWord_41 (by decide) ?_
              refine dt_zret dX6_hasWord_45 rfl (by decide) (by decide) (by first | exact Or.inl rfl | exact Or.inr rfl | assumption | omega) ?_
              first | exact ⟨by rw [dt_bT (by unfold cW; omega)], rfl, rfl⟩ | exact ⟨by rw [dt_bF (by unfold cW; omega)], rfl, rfl⟩
theorem s_X6_tongueOf {sh : List dt_Shp} {σ : dt_Mem} {p : Nat} {x : Int} (hp : dt_pSh sh p) (h1 : 0 ≤ x) (h2 : x < 2147483648) (h3 : 0 < σ p 5) : dt_Sp mX6_tongueOf 1 0 0 [dt_R p, dt_I x] sh σ (fun v sh2 σ2 => v = some (dt_I (x % σ p 5)) ∧ sh2 = sh ∧ σ2 = σ) := by
  refine dt_Sp_of (by decide) (Nat.le_of_ble_eq_true rfl) ?_
  refine dt_wfV fun hwf => ?_
  show dt_V _ _ _ 0 0 0 [some (dt_R p), some (dt_I x)] [] _ _
  refine dt_iloadn dX6_tongueOf_0 rfl rfl ?_
  refine dt_aloadn dX6_tongueOf_1 rfl rfl ?_
  refine dt_getI dX6_tongueOf_2 pg_X6_27_6 hp.1 rfl ?_
  refine dt_xS dX6_tongueOf_5 pc_X6_37 (s_X6_rest (by first | assumption | exact hwf _ _ | exact dt_b32 _ | omega | exact ⟨by omega, by omega⟩ | decide | exact ⟨by simp (disch := omega) only [dt_up_s, dt_up_k, dt_up_n]; omega, by simp (disch := omega) only [dt_up_s, dt_up_k, dt_up_n]; omega⟩) (by first | assumption | exact hwf _ _ | exact dt_b32 _ | omega | exact ⟨by omega, by omega⟩ | decide | exact ⟨by simp (disch := omega) only [dt_up_s, dt_up_k, dt_up_n]; omega, by simp (disch := omega) only [dt_up_s, dt_up_k, dt_up_n]; omega⟩) (by first | assumption | exact hwf _ _ | exact dt_b32 _ | omega | exact ⟨by omega, by omega⟩ | decide | exact ⟨by simp (disch := omega) only [dt_up_s, dt_up_k, dt_up_n]; omega, by simp (disch := omega) only [dt_up_s, dt_up_k, dt_up_n]; omega⟩) (hwf _ _).2) rfl rfl ⟨by decide, by decide⟩ (Nat.le_of_ble_eq_true rfl) ⟨by decide, by decide⟩ (dt_k3 ?_)
  refine dt_iret dX6_tongueOf_8 rfl (by decide) (by decide) ?_
  exact ⟨rfl, rfl, rfl⟩
/-! a port as a value: tongues (words: kind, readings), people, years -/
abbrev dX : Type := List (List (Nat × List Nat)) × List Nat × Nat
/-- a port object at p holds X -/
def cPort (σ : dt_Mem) (p : Nat) (X : dX) : Prop :=
  (X.1.length ≤ 7 ∧ X.2.1.length ≤ 8) ∧ σ p 5 = X.1.length ∧ σ p 6 = X.2.1.length ∧ σ p 7 = X.2.2 ∧
  (∀ t tg, X.1[t]? = some tg → tg.length ≤ 8 ∧ σ (p + 1) t = tg.length ∧ ∀ w wd, tg[w]? = some wd → wd.2.length ≤ 3 ∧ σ (p + 2) (t * 8 + w) = wd.1 ∧ σ (p + 3) (t * 8 + w) = wd.2.length ∧ ∀ (q r : Nat), wd.2[q]? = some r → σ (p + 4) ((t * 8 + w) * 3 + q) = r) ∧
  ∀ (i k : Nat), X.2.1[i]? = some k → σ (p + 5) i = k
/-- word w of tongue t is wd -/
def xW (X : dX) (t w : Nat) (wd : Nat × List Nat) : Prop := ∃ tg, X.1[t]? = some tg ∧ tg[w]? = some wd
theorem dt_gl {α : Type} {l : List α} {i : Nat} {x : α} (h : l[i]? = some x) : i < l.length := (List.getElem?_eq_some_iff.mp h).1
theorem dt_lg {α : Type} {l : List α} {i : Nat} (h : i < l.length) : ∃ x, l[i]? = some x := ⟨l[i], List.getElem?_eq_getElem h⟩
theorem cPort.word {σ : dt_Mem} {p t w : Nat} {X : dX} {wd : Nat × List Nat} (h : cPort σ p X) (hw : xW X t w wd) : t < 7 ∧ (t : Int) < σ p 5 ∧ w < 8 ∧ (w : Int) < σ (p + 1) t ∧ wd.2.length ≤ 3 ∧ σ (p + 2) (t * 8 + w) = wd.1 ∧ σ (p + 3) (t * 8 + w) = wd.2.length ∧ ∀ (q r : Nat), wd.2[q]? = some r → σ (p + 4) ((t * 8 + w) * 3 + q) = r := by
  obtain ⟨⟨h1, h2⟩, h3, h4, h5, h6, h7⟩ := h
  obtain ⟨tg, g1, g2⟩ := hw
  obtain ⟨a1, a2, a3⟩ := h6 t tg g1
  obtain ⟨b1, b2, b3, b4⟩ := a3 w wd g2
  have l1 := dt_gl g1
  have l2 := dt_gl g2
  exact ⟨by omega, by omega, by omega, by omega, b1, b2, b3, b4⟩
theorem cPort.hasW {σ : dt_Mem} {p t w : Nat} {X : dX} {wd : Nat × List Nat} (h : cPort σ p X) (hw : xW X t w wd) : cW σ p t w := by
  obtain ⟨h1, h2, h3, h4, -⟩ := h.word hw
  unfold cW
  simp only [Int.toNat_natCast]
  omega
/-- and the other way -/
theorem cPort.ofW {σ : dt_Mem} {p : Nat} {t w : Int} {X : dX} (h : cPort σ p X) (hw : cW σ p t w) : ∃ (t' w' : Nat) (wd : Nat × List Nat), t = t' ∧ w = w' ∧ xW X t' w' wd := by
  obtain ⟨⟨h1, h2⟩, h3, h4, h5, h6, h7⟩ := h
  obtain ⟨g1, g2, g3, g4, g5, g6⟩ := hw
  obtain ⟨tg, e1⟩ := dt_lg (l := X.1) (i := t.toNat) (by omega)
  obtain ⟨a1, a2, a3⟩ := h6 _ tg e1
  obtain ⟨wd, e2⟩ := dt_lg (l := tg) (i := w.toNat) (by omega)
  exact ⟨t.toNat, w.toNat, wd, by omega, by omega, tg, e1, e2⟩
theorem fl_s {α β : Type} {l : List α} {i : Nat} {x : α} (h : l[i]? = some x) (f : β → α → β) (a : β) : (l.take (i + 1)).foldl f a = f ((l.take i).foldl f a) x := by
  rw [List.take_add_one, h, List.foldl_append]
  rfl
theorem fl_e {α β : Type} {l : List α} {i : Nat} (h : l.length ≤ i) (f : β → α → β) (a : β) : (l.take i).foldl f a = l.foldl f a := by rw [List.take_of_length_le h]
/-- what all readings have in common; all that some have -/
def xCom (rs : List Nat) : Nat := rs.foldl (fun a r => a &&& r) 255
def xAll (rs : List Nat) : Nat := rs.foldl (fun a r => a ||| r) 0
theorem xCom_le (l : List Nat) : ∀ a, l.foldl (fun a r => a &&& r) a ≤ a := by
  induction l with
  | nil => intro a; exact Nat.le_refl a
  | cons x l ih => intro a; exact Nat.le_trans (ih (a &&& x)) Nat.and_le_left
theorem xAll_lt (l : List Nat) (h : ∀ r ∈ l, r < 256) : ∀ a, a < 256 → l.foldl (fun a r => a ||| r) a < 256 := by
  induction l with
  | nil => intro a ha; exact ha
  | cons x l ih =>
    intro a ha
    exact ih (fun r hr => h r (List.mem_cons_of_mem _ hr)) (a ||| x) (Nat.or_lt_two_pow (n := 8) ha (h x List.mem_cons_self))
theorem s_X6_wordsOf {sh : List dt_Shp} {σ : dt_Mem} {p : Nat} {t : Int} (hp : dt_pSh sh p) (ht : cT σ p t) : dt_Sp mX6_wordsOf 1 0 0 [dt_R p, dt_I t] sh σ (fun v sh2 σ2 => v = some (dt_I (σ (p + 1) t.toNat)) ∧ sh2 = sh ∧ σ2 = σ) := by
  refine dt_Sp_of (by decide) (Nat.le_of_ble_eq_true rfl) ?_
  refine dt_wfV fun hwf => ?_
  obtain ⟨ht1, ht2, ht3⟩ := id ht
  show dt_V _ _ _ 0 0 0 [some (dt_R p), some (dt_I t)] [] _ _
  refine dt_aloadn dX6_wordsOf_0 rfl rfl ?_
  refine dt_iloadn dX6_wordsOf_1 rfl rfl ?_
  refine dt_xV dX6_wordsOf_2 pc_X6_41 hp.1 (s_X6_hasTongue (by first | assumption | exact hwf _ _ | exact dt_b32 _ | omega | exact ⟨by omega, by omega⟩ | decide | exact ⟨by simp (disch := omega) only [dt_up_s, dt_up_k, dt_up_n]; omega, by simp (disch := omega) only [dt_up_s, dt_up_k, dt_up_n]; omega⟩) (by first | assumption | exact hwf _ _ | exact dt_b32 _ | omega | exact ⟨by omega, by omega⟩ | decide | exact ⟨by simp (disch := omega) only [dt_up_s, dt_up_k, dt_up_n]; omega, by simp (disch := omega) only [dt_up_s, dt_up_k, dt_up_n]; omega⟩)) rfl rfl ⟨by decide, by decide⟩ rfl rfl (Nat.le_of_ble_eq_true rfl) ⟨by decide, by decide⟩ (dt_k3 ?_)
  refine dt_if_eq (tgt := 17) dX6_wordsOf_5 (by decide) (by first | assumption | exact hwf _ _ | exact dt_b32 _ | omega | exact ⟨by omega, by omega⟩ | decide | exact ⟨by simp (disch := omega) only [dt_up_s, dt_up_k, dt_up_n]; omega, by simp (disch := omega) only [dt_up_s, dt_up_k, dt_up_n]; omega⟩) (fun c1 => ?_) (fun c1 => ?_)
  · skip
    try simp only [dt_b0, dt_b1, Decidable.not_not, Classical.not_not] at c1
    exact absurd ht c1
  · skip
    try simp only [dt_b0, dt_b1, Decidable.not_not, Classical.not_not] at c1
    refine dt_aloadn dX6_wordsOf_8 rfl rfl ?_
    refine dt_getR dX6_wordsOf_9 pg_X6_9_6 hp.1 rfl ?_
    refine dt_iloadn dX6_wordsOf_12 rfl rfl ?_
    refine dt_iald dX6_wordsOf_13 hp.2.1 (by first | omega | (simp (disch := omega) only [dt_up_s, dt_up_k, dt_up_n]; omega)) (by first | omega | (simp (disch := omega) only [dt_up_s, dt_up_k, dt_up_n]; omega)) (by decide) ?_
    refine dt_goto (tgt := 18) dX6_wordsOf_14 (by decide) ?_
    refine dt_iret dX6_wordsOf_18 rfl (by decide) (by decide) ?_
    exact ⟨rfl, rfl, rfl⟩
theorem s_X6_knownBy {sh : List dt_Shp} {σ : dt_Mem} {p : Nat} {i : Int} (hp : dt_pSh sh p) (hi : cPe σ p i) : dt_Sp mX6_knownBy 1 0 0 [dt_R p, dt_I i] sh σ (fun v sh2 σ2 => v = some (dt_I (σ (p + 5) i.toNat)) ∧ sh2 = sh ∧ σ2 = σ) := by
  refine dt_Sp_of (by decide) (Nat.le_of_ble_eq_true rfl) ?_
  refine dt_wfV fun hwf => ?_
  obtain ⟨ht1, ht2, ht3⟩ := id hi
  show dt_V _ _ _ 0 0 0 [some (dt_R p), some (dt_I i)] [] _ _
  refine dt_aloadn dX6_knownBy_0 rfl rfl ?_
  refine dt_iloadn dX6_knownBy_1 rfl rfl ?_
  refine dt_xV dX6_knownBy_2 pc_X6_49 hp.1 (s_X6_hasPerson (by first | assumption | exact hwf _ _ | exact dt_b32 _ | omega | exact ⟨by omega, by omega⟩ | decide | exact ⟨by simp (disch := omega) only [dt_up_s, dt_up_k, dt_up_n]; omega, by simp (disch := omega) only [dt_up_s, dt_up_k, dt_up_n]; omega⟩) (by first | assumption | exact hwf _ _ | exact dt_b32 _ | omega | exact ⟨by omega, by omega⟩ | decide | exact ⟨by simp (disch := omega) only [dt_up_s, dt_up_k, dt_up_n]; omega, by simp (disch := omega) only [dt_up_s, dt_up_k, dt_up_n]; omega⟩)) rfl rfl ⟨by decide, by decide⟩ rfl rfl (Nat.le_of_ble_eq_true rfl) ⟨by decide, by decide⟩ (dt_k3 ?_)
  refine dt_if_eq (tgt := 17) dX6_knownBy_5 (by decide) (by first | assumption | exact hwf _ _ | exact dt_b32 _ | omega | exact ⟨by omega, by omega⟩ | decide | exact ⟨by simp (disch := omega) only [dt_up_s, dt_up_k, dt_up_n]; omega, by simp (disch := omega) only [dt_up_s, dt_up_k, dt_up_n]; omega⟩) (fun c1 => ?_) (fun c1 => ?_)
  · skip
    try simp only [dt_b0, dt_b1, Decidable.not_not, Classical.not_not] at c1
    exact absurd hi c1
  · skip
    try simp only [dt_b0, dt_b1, Decidable.not_not, Classical.not_not] at c1
    refine dt_aloadn dX6_knownBy_8 rfl rfl ?_
    refine dt_getR dX6_knownBy_9 pg_X6_24_6 hp.1 rfl ?_
    refine dt_iloadn dX6_knownBy_12 rfl rfl ?_
    refine dt_iald dX6_knownBy_13 hp.2.2.2.2.2 (by first | omega | (simp (disch := omega) only [dt_up_s, dt_up_k, dt_up_n]; omega)) (by first | omega | (simp (disch := omega) only [dt_up_s, dt_up_k, dt_up_n]; omega)) (by decide) ?_
    refine dt_goto (tgt := 18) dX6_knownBy_14 (by decide) ?_
    refine dt_iret dX6_knownBy_18 rfl (by decide) (by decide) ?_
    exact ⟨rfl, rfl, rfl⟩
theorem s_X6_kindOf {sh : List dt_Shp} {σ : dt_Mem} {p : Nat} {t w : Int} (hp : dt_pSh sh p) (hw : cW σ p t w) : dt_Sp mX6_kindOf 1 0 0 [dt_R p, dt_I t, dt_I w] sh σ (fun v sh2 σ2 => v = some (dt_I (σ (p + 2) (t * 8 + w).toNat)) ∧ sh2 = sh ∧ σ2 = σ) := by
  refine dt_Sp_of (by decide) (Nat.le_of_ble_eq_true rfl) ?_
  refine dt_wfV fun hwf => ?_
  obtain ⟨hw1, hw2, hw3, hw4, hw5, hw6⟩ := id hw
  show dt_V _ _ _ 0 0 0 [some (dt_R p), some (dt_I t), some (dt_I w)] [] _ _
  refine dt_aloadn dX6_kindOf_0 rfl rfl ?_
  refine dt_iloadn dX6_kindOf_1 rfl rfl ?_
  refine dt_iloadn dX6_kindOf_2 rfl rfl ?_
  refine dt_xV dX6_kindOf_3 pc_X6_52 hp.1 (s_X6_hasWord (by first | assumption | exact hwf _ _ | exact dt_b32 _ | omega | exact ⟨by omega, by omega⟩ | decide | exact ⟨by simp (disch := omega) only [dt_up_s, dt_up_k, dt_up_n]; omega, by simp (disch := omega) only [dt_up_s, dt_up_k, dt_up_n]; omega⟩) (by first | assumption | exact hwf _ _ | exact dt_b32 _ | omega | exact ⟨by omega, by omega⟩ | decide | exact ⟨by simp (disch := omega) only [dt_up_s, dt_up_k, dt_up_n]; omega, by simp (disch := omega) only [dt_up_s, dt_up_k, dt_up_n]; omega⟩) (by first | assumption | exact hwf _ _ | exact dt_b32 _ | omega | exact ⟨by omega, by omega⟩ | decide | exact ⟨by simp (disch := omega) only [dt_up_s, dt_up_k, dt_up_n]; omega, by simp (disch := omega) only [dt_up_s, dt_up_k, dt_up_n]; omega⟩)) rfl rfl ⟨by decide, by decide⟩ rfl rfl (Nat.le_of_ble_eq_true rfl) ⟨by decide, by decide⟩ (dt_k3 ?_)
  refine dt_if_eq (tgt := 22) dX6_kindOf_6 (by decide) (by first | assumption | exact hwf _ _ | exact dt_b32 _ | omega | exact ⟨by omega, by omega⟩ | decide | exact ⟨by simp (disch := omega) only [dt_up_s, dt_up_k, dt_up_n]; omega, by simp (disch := omega) only [dt_up_s, dt_up_k, dt_up_n]; omega⟩) (fun c1 => ?_) (fun c1 => ?_)
  · skip
    try simp only [dt_b0, dt_b1, Decidable.not_not, Classical.not_not] at c1
    exact absurd hw c1
  · skip
    try simp only [dt_b0, dt_b1, Decidable.not_not, Classical.not_not] at c1
    refine dt_aloadn dX6_kindOf_9 rfl rfl ?_
    refine dt_getR dX6_kindOf_10 pg_X6_15_6 hp.1 rfl ?_
    refine dt_iloadn dX6_kindOf_13 rfl rfl ?_
    refine dt_iloadn dX6_kindOf_14 rfl rfl ?_
    refine dt_xS dX6_kindOf_15 pc_X6_56 s_X6_slotOf rfl rfl ⟨by decide, by decide⟩ (Nat.le_of_ble_eq_true rfl) ⟨by decide, by decide⟩ (dt_k3 ?_)
    refine dt_iald dX6_kindOf_18 hp.2.2.1 (by first | omega | (simp (disch := omega) only [dt_up_s, dt_up_k, dt_up_n]; omega)) (by first | omega | (simp (disch := omega) only [dt_up_s, dt_up_k, dt_up_n]; omega)) (by decide) ?_
    refine dt_goto (tgt := 23) dX6_kindOf_19 (by decide) ?_
    refine dt_iret dX6_kindOf_23 rfl (by decide) (by decide) ?_
    exact ⟨rfl, rfl, rfl⟩
theorem s_X6_readingsOf {sh : List dt_Shp} {σ : dt_Mem} {p : Nat} {t w : Int} (hp : dt_pSh sh p) (hw : cW σ p t w) : dt_Sp mX6_readingsOf 1 0 0 [dt_R p, dt_I t, dt_I w] sh σ (fun v sh2 σ2 => v = some (dt_I (σ (p + 3) (t * 8 + w).toNat)) ∧ sh2 = sh ∧ σ2 = σ) := by
  refine dt_Sp_of (by decide) (Nat.le_of_ble_eq_true rfl) ?_
  refine dt_wfV fun hwf => ?_
  obtain ⟨hw1, hw2, hw3, hw4, hw5, hw6⟩ := id hw
  show dt_V _ _ _ 0 0 0 [some (dt_R p), some (dt_I t), some (dt_I w)] [] _ _
  refine dt_aloadn dX6_readingsOf_0 rfl rfl ?_
  refine dt_iloadn dX6_readingsOf_1 rfl rfl ?_
  refine dt_iloadn dX6_readingsOf_2 rfl rfl ?_
  refine dt_xV dX6_readingsOf_3 pc_X6_52 hp.1 (s_X6_hasWord (by first | assumption | exact hwf _ _ | exact dt_b32 _ | omega | exact ⟨by omega, by omega⟩ | decide | exact ⟨by simp (disch := omega) only [dt_up_s, dt_up_k, dt_up_n]; omega, by simp (disch := omega) only [dt_up_s, dt_up_k, dt_up_n]; omega⟩) (by first | assumption | exact hwf _ _ | exact dt_b32 _ | omega | exact ⟨by omega, by omega⟩ | decide | exact ⟨by simp (disch := omega) only [dt_up_s, dt_up_k, dt_up_n]; omega, by simp (disch := omega) only [dt_up_s, dt_up_k, dt_up_n]; omega⟩) (by first | assumption | exact hwf _ _ | exact dt_b32 _ | omega | exact ⟨by omega, by omega⟩ | decide | exact ⟨by simp (disch := omega) only [dt_up_s, dt_up_k, dt_up_n]; omega, by simp (disch := omega) only [dt_up_s, dt_up_k, dt_up_n]; omega⟩)) rfl rfl ⟨by decide, by decide⟩ rfl rfl (Nat.le_of_ble_eq_true rfl) ⟨by decide, by decide⟩ (dt_k3 ?_)
  refine dt_if_eq (tgt := 22) dX6_readingsOf_6 (by decide) (by first | assumption | exact hwf _ _ | exact dt_b32 _ | omega | exact ⟨by omega, by omega⟩ | decide | exact ⟨by simp (disch := omega) only [dt_up_s, dt_up_k, dt_up_n]; omega, by simp (disch := omega) only [dt_up_s, dt_up_k, dt_up_n]; omega⟩) (fun c1 => ?_) (fun c1 => ?_)
  · skip
    try simp only [dt_b0, dt_b1, Decidable.not_not, Classical.not_not] at c1
    exact absurd hw c1
  · skip
    try simp only [dt_b0, dt_b1, Decidable.not_not, Classical.not_not] at c1
    refine dt_aloadn dX6_readingsOf_9 rfl rfl ?_
    refine dt_getR dX6_readingsOf_10 pg_X6_18_6 hp.1 rfl ?_
    refine dt_iloadn dX6_readingsOf_13 rfl rfl ?_
    refine dt_iloadn dX6_readingsOf_14 rfl rfl ?_
    refine dt_xS dX6_readingsOf_15 pc_X6_56 s_X6_slotOf rfl rfl ⟨by decide, by decide⟩ (Nat.le_of_ble_eq_true rfl) ⟨by decide, by decide⟩ (dt_k3 ?_)
    refine dt_iald dX6_readingsOf_18 hp.2.2.2.1 (by first | omega | (simp (disch := omega) only [dt_up_s, dt_up_k, dt_up_n]; omega)) (by first | omega | (simp (disch := omega) only [dt_up_s, dt_up_k, dt_up_n]; omega)) (by decide) ?_
    refine dt_goto (tgt := 23) dX6_readingsOf_19 (by decide) ?_
    refine dt_iret dX6_readingsOf_23 rfl (by decide) (by decide) ?_
    exact ⟨rfl, rfl, rfl⟩
theorem s_X6_hasReading {sh : List dt_Shp} {σ : dt_Mem} {p : Nat} {t w q : Int} (hp : dt_pSh sh p) (hw : cW σ p t w) (h_q : dt_in32 q) : dt_Sp mX6_hasReading 1 0 0 [dt_R p, dt_I t, dt_I w, dt_I q] sh σ (fun v sh2 σ2 => v = some (dt_I (dt_b (cRd σ p t w q))) ∧ sh2 = sh ∧ σ2 = σ) := by
  refine dt_Sp_of (by decide) (Nat.le_of_ble_eq_true rfl) ?_
  refine dt_wfV fun hwf => ?_
  obtain ⟨hw1, hw2, hw3, hw4, hw5, hw6⟩ := id hw
  show dt_V _ _ _ 0 0 0 [some (dt_R p), some (dt_I t), some (dt_I w), some (dt_I q)] [] _ _
  refine dt_aloadn dX6_hasReading_0 rfl rfl ?_
  refine dt_iloadn dX6_hasReading_1 rfl rfl ?_
  refine dt_iloadn dX6_hasReading_2 rfl rfl ?_
  refine dt_xV dX6_hasReading_3 pc_X6_52 hp.1 (s_X6_hasWord (by first | assumption | exact hwf _ _ | exact dt_b32 _ | omega | exact ⟨by omega, by omega⟩ | decide | exact ⟨by simp (disch := omega) only [dt_up_s, dt_up_k, dt_up_n]; omega, by simp (disch := omega) only [dt_up_s, dt_up_k, dt_up_n]; omega⟩) (by first | assumption | exact hwf _ _ | exact dt_b32 _ | omega | exact ⟨by omega, by omega⟩ | decide | exact ⟨by simp (disch := omega) only [dt_up_s, dt_up_k, dt_up_n]; omega, by simp (disch := omega) only [dt_up_s, dt_up_k, dt_up_n]; omega⟩) (by first | assumption | exact hwf _ _ | exact dt_b32 _ | omega | exact ⟨by omega, by omega⟩ | decide | exact ⟨by simp (disch := omega) only [dt_up_s, dt_up_k, dt_up_n]; omega, by simp (disch := omega) only [dt_up_s, dt_up_k, dt_up_n]; omega⟩)) rfl rfl ⟨by decide, by decide⟩ rfl rfl (Nat.le_of_ble_eq_true rfl) ⟨by decide, by decide⟩ (dt_k3 ?_)
  refine dt_if_eq (tgt := 37) dX6_hasReading_6 (by decide) (by first | assumption | exact hwf _ _ | exact dt_b32 _ | omega | exact ⟨by omega, by omega⟩ | decide | exact ⟨by simp (disch := omega) only [dt_up_s, dt_up_k, dt_up_n]; omega, by simp (disch := omega) only [dt_up_s, dt_up_k, dt_up_n]; omega⟩) (fun c1 => ?_) (fun c1 => ?_)
  · skip
    try simp only [dt_b0, dt_b1, Decidable.not_not, Classical.not_not] at c1
    exact absurd hw c1
  · skip
    try simp only [dt_b0, dt_b1, Decidable.not_not, Classical.not_not] at c1
    refine dt_iconst dX6_hasReading_9 ?_
    refine dt_iloadn dX6_hasReading_10 rfl rfl ?_
    refine dt_cm_gt (tgt := 37) dX6_hasReading_11 (by decide) (by first | assumption | exact hwf _ _ | exact dt_b32 _ | omega | exact ⟨by omega, by omega⟩ | decide | exact ⟨by simp (disch := omega) only [dt_up_s, dt_up_k, dt_up_n]; omega, by simp (disch := omega) only [dt_up_s, dt_up_k, dt_up_n]; omega⟩) (by first | assumption | exact hwf _ _ | exact dt_b32 _ | omega | exact ⟨by omega, by omega⟩ | decide | exact ⟨by simp (disch := omega) only [dt_up_s, dt_up_k, dt_up_n]; omega, by simp (disch := omega) only [dt_up_s, dt_up_k, dt_up_n]; omega⟩) (fun c2 => ?_) (fun c2 => ?_)
    · skip
      refine dt_iconst dX6_hasReading_37 ?_
      refine dt_zret dX6_hasReading_38 rfl (by decide) (by decide) (by first | exact Or.inl rfl | exact Or.inr rfl | assumption | omega) ?_
      first | exact ⟨by rw [dt_bT (by unfold cRd cW; omega)], rfl, rfl⟩ | exact ⟨by rw [dt_bF (by unfold cRd cW; omega)], rfl, rfl⟩
    · skip
      refine dt_iloadn dX6_hasReading_14 rfl rfl ?_
      refine dt_iconst dX6_hasReading_15 ?_
      refine dt_cm_ge (tgt := 37) dX6_hasReading_16 (by decide) (by first | assumption | exact hwf _ _ | exact dt_b32 _ | omega | exact ⟨by omega, by omega⟩ | decide | exact ⟨by simp (disch := omega) only [dt_up_s, dt_up_k, dt_up_n]; omega, by simp (disch := omega) only [dt_up_s, dt_up_k, dt_up_n]; omega⟩) (by first | assumption | exact hwf _ _ | exact dt_b32 _ | omega | exact ⟨by omega, by omega⟩ | decide | exact ⟨by simp (disch := omega) only [dt_up_s, dt_up_k, dt_up_n]; omega, by simp (disch := omega) only [dt_up_s, dt_up_k, dt_up_n]; omega⟩) (fun c3 => ?_) (fun c3 => ?_)
      · skip
        refine dt_iconst dX6_hasReading_37 ?_
        refine dt_zret dX6_hasReading_38 rfl (by decide) (by decide) (by first | exact Or.inl rfl | exact Or.inr rfl | assumption | omega) ?_
        first | exact ⟨by rw [dt_bT (by unfold cRd cW; omega)], rfl, rfl⟩ | exact ⟨by rw [dt_bF (by unfold cRd cW; omega)], rfl, rfl⟩
      · skip
        refine dt_iloadn dX6_hasReading_19 rfl rfl ?_
        refine dt_aloadn dX6_hasReading_20 rfl rfl ?_
        refine dt_getR dX6_hasReading_21 pg_X6_18_6 hp.1 rfl ?_
        refine dt_iloadn dX6_hasReading_24 rfl rfl ?_
        refine dt_iloadn dX6_hasReading_25 rfl rfl ?_
        refine dt_xS dX6_hasReading_26 pc_X6_56 s_X6_slotOf rfl rfl ⟨by decide, by decide⟩ (Nat.le_of_ble_eq_true rfl) ⟨by decide, by decide⟩ (dt_k3 ?_)
        refine dt_iald dX6_hasReading_29 hp.2.2.2.1 (by first | omega | (simp (disch := omega) only [dt_up_s, dt_up_k, dt_up_n]; omega)) (by first | omega | (simp (disch := omega) only [dt_up_s, dt_up_k, dt_up_n]; omega)) (by decide) ?_
        refine dt_cm_ge (tgt := 37) dX6_hasReading_30 (by decide) (by first | assumption | exact hwf _ _ | exact dt_b32 _ | omega | exact ⟨by omega, by omega⟩ | decide | exact ⟨by simp (disch := omega) only [dt_up_s, dt_up_k, dt_up_n]; omega, by simp (disch := omega) only [dt_up_s, dt_up_k, dt_up_n]; omega⟩) (by first | assumption | exact hwf _ _ | exact dt_b32 _ | omega | exact ⟨by omega, by omega⟩ | decide | exact ⟨by simp (disch := omega) only [dt_up_s, dt_up_k, dt_up_n]; omega, by simp (disch := omega) only [dt_up_s, dt_up_k, dt_up_n]; omega⟩) (fun c4 => ?_) (fun c4 => ?_)
        · skip
          refine dt_iconst dX6_hasReading_37 ?_
          refine dt_zret dX6_hasReading_38 rfl (by decide) (by decide) (by first | exact Or.inl rfl | exact Or.inr rfl | assumption | omega) ?_
          first | exact ⟨by rw [dt_bT (by unfold cRd cW; omega)], rfl, rfl⟩ | exact ⟨by rw [dt_bF (by unfold cRd cW; omega)], rfl, rfl⟩
        · skip
          refine dt_iconst dX6_hasReading_33 ?_
          refine dt_goto (tgt := 38) dX6_hasReading_34 (by decide) ?_
          refine dt_zret dX6_hasReading_38 rfl (by decide) (by decide) (by first | exact Or.inl rfl | exact Or.inr rfl | assumption | omega) ?_
          first | exact ⟨by rw [dt_bT (by unfold cRd cW; omega)], rfl, rfl⟩ | exact ⟨by rw [dt_bF (by unfold cRd cW; omega)], rfl, rfl⟩
theorem s_X6_reading {sh : List dt_Shp} {σ : dt_Mem} {p : Nat} {t w q : Int} (hp : dt_pSh sh p) (hr : cRd σ p t w q) : dt_Sp mX6_reading 2 0 0 [dt_R p, dt_I t, dt_I w, dt_I q] sh σ (fun v sh2 σ2 => v = some (dt_I (σ (p + 4) ((t * 8 + w) * 3 + q).toNat)) ∧ sh2 = sh ∧ σ2 = σ) := by
  refine dt_Sp_of (by decide) (Nat.le_of_ble_eq_true rfl) ?_
  refine dt_wfV fun hwf => ?_
  obtain ⟨hw, hr1, hr2, hr3⟩ := id hr
  obtain ⟨hw1, hw2, hw3, hw4, hw5, hw6⟩ := id hw
  show dt_V _ _ _ 0 0 0 [some (dt_R p), some (dt_I t), some (dt_I w), some (dt_I q)] [] _ _
  refine dt_aloadn dX6_reading_0 rfl rfl ?_
  refine dt_iloadn dX6_reading_1 rfl rfl ?_
  refine dt_iloadn dX6_reading_2 rfl rfl ?_
  refine dt_iloadn dX6_reading_3 rfl rfl ?_
  refine dt_xV dX6_reading_4 pc_X6_59 hp.1 (s_X6_hasReading (by first | assumption | exact hwf _ _ | exact dt_b32 _ | omega | exact ⟨by omega, by omega⟩ | decide | exact ⟨by simp (disch := omega) only [dt_up_s, dt_up_k, dt_up_n]; omega, by simp (disch := omega) only [dt_up_s, dt_up_k, dt_up_n]; omega⟩) (by first | assumption | exact hwf _ _ | exact dt_b32 _ | omega | exact ⟨by omega, by omega⟩ | decide | exact ⟨by simp (disch := omega) only [dt_up_s, dt_up_k, dt_up_n]; omega, by simp (disch := omega) only [dt_up_s, dt_up_k, dt_up_n]; omega⟩) (by first | assumption | exact hwf _ _ | exact dt_b32 _ | omega | exact ⟨by omega, by omega⟩ | decide | exact ⟨by simp (disch := omega) only [dt_up_s, dt_up_k, dt_up_n]; omega, by simp (disch := omega) only [dt_up_s, dt_up_k, dt_up_n]; omega⟩)) rfl rfl ⟨by decide, by decide⟩ rfl rfl (Nat.le_of_ble_eq_true rfl) ⟨by decide, by decide⟩ (dt_k3 ?_)
  refine dt_if_eq (tgt := 27) dX6_reading_7 (by decide) (by first | assumption | exact hwf _ _ | exact dt_b32 _ | omega | exact ⟨by omega, by omega⟩ | decide | exact ⟨by simp (disch := omega) only [dt_up_s, dt_up_k, dt_up_n]; omega, by simp (disch := omega) only [dt_up_s, dt_up_k, dt_up_n]; omega⟩) (fun c1 => ?_) (fun c1 => ?_)
  · skip
    try simp only [dt_b0, dt_b1, Decidable.not_not, Classical.not_not] at c1
    exact absurd hr c1
  · skip
    try simp only [dt_b0, dt_b1, Decidable.not_not, Classical.not_not] at c1
    refine dt_aloadn dX6_reading_10 rfl rfl ?_
    refine dt_getR dX6_reading_11 pg_X6_21_6 hp.1 rfl ?_
    refine dt_iloadn dX6_reading_14 rfl rfl ?_
    refine dt_iloadn dX6_reading_15 rfl rfl ?_
    refine dt_xS dX6_reading_16 pc_X6_56 s_X6_slotOf rfl rfl ⟨by decide, by decide⟩ (Nat.le_of_ble_eq_true rfl) ⟨by decide, by decide⟩ (dt_k3 ?_)
    refine dt_iconst dX6_reading_19 ?_
    refine dt_imul dX6_reading_20 ?_
    refine dt_iloadn dX6_reading_21 rfl rfl ?_
    refine dt_iadd dX6_reading_22 ?_
    refine dt_iald dX6_reading_23 hp.2.2.2.2.1 (by first | omega | (simp (disch := omega) only [dt_up_s, dt_up_k, dt_up_n]; omega)) (by first | omega | (simp (disch := omega) only [dt_up_s, dt_up_k, dt_up_n]; omega)) (by decide) ?_
    refine dt_goto (tgt := 28) dX6_reading_24 (by decide) ?_
    refine dt_iret dX6_reading_28 rfl (by decide) (by decide) ?_
    exact ⟨rfl, rfl, rfl⟩
theorem s_X6_common {sh : List dt_Shp} {σ : dt_Mem} {p : Nat} {t w : Int} {rs : List Nat} (hp : dt_pSh sh p) (hw : cW σ p t w) (hn : σ (p + 3) (t * 8 + w).toNat = rs.length) (hn3 : rs.length ≤ 3) (hrs : ∀ (q r : Nat), rs[q]? = some r → σ (p + 4) ((t * 8 + w) * 3 + (q : Int)).toNat = r ∧ r < 256) : dt_Sp mX6_common 3 0 0 [dt_R p, dt_I t, dt_I w] sh σ (fun v sh2 σ2 => v = some (dt_I ((xCom rs : Nat) : Int)) ∧ sh2 = sh ∧ σ2 = σ) := by
  refine dt_Sp_of (by decide) (Nat.le_of_ble_eq_true rfl) ?_
  refine dt_wfV fun hwf => ?_
  obtain ⟨hw1, hw2, hw3, hw4, hw5, hw6⟩ := id hw
  show dt_V _ _ _ 0 0 0 [some (dt_R p), some (dt_I t), some (dt_I w), none, none] [] _ _
  refine dt_sipush dX6_common_0 (by decide) ?_
  refine dt_istoren dX6_common_3 rfl (by decide) rfl ?_
  dsimp only [List.set]
  refine dt_iconst dX6_common_4 ?_
  refine dt_istore dX6_common_5 (by decide) rfl ?_
  dsimp only [List.set]
  have lp7 : ∀ (fu : Nat) (i : Nat), (rs.length : Int) - i < (fu : Int) → (i ≤ rs.length) →  dt_V mX6_common (dt_rm 3 0 0) (dt_MC (fun v sh2 σ2 => v = some (dt_I ((xCom rs : Nat) : Int)) ∧ sh2 = sh ∧ σ2 = σ) 0 0) 0 0 7 [some (dt_R p), some (dt_I t), some (dt_I w), some (dt_I (((rs.take i).foldl (fun a r => a &&& r) 255 : Nat) : Int)), some (dt_I (i : Int))] [] sh σ := by
    intro fu
    induction fu with
    | zero =>
      intro i hm hi
      exfalso
      omega
    | succ fu ih =>
      intro i hm hi
      refine dt_wfV fun hwf => ?_
      refine dt_iload dX6_common_7 rfl ?_
      refine dt_aloadn dX6_common_9 rfl rfl ?_
      refine dt_iloadn dX6_common_10 rfl rfl ?_
      refine dt_iloadn dX6_common_11 rfl rfl ?_
      refine dt_xV dX6_common_12 pc_X6_63 hp.1 (s_X6_readingsOf (by first | assumption | exact hwf _ _ | exact dt_b32 _ | omega | exact ⟨by omega, by omega⟩ | decide | exact ⟨by simp (disch := omega) only [dt_up_s, dt_up_k, dt_up_n]; omega, by simp (disch := omega) only [dt_up_s, dt_up_k, dt_up_n]; omega⟩) (by first | assumption | exact hwf _ _ | exact dt_b32 _ | omega | exact ⟨by omega, by omega⟩ | decide | exact ⟨by simp (disch := omega) only [dt_up_s, dt_up_k, dt_up_n]; omega, by simp (disch := omega) only [dt_up_s, dt_up_k, dt_up_n]; omega⟩)) rfl rfl ⟨by decide, by decide⟩ rfl rfl (Nat.le_of_ble_eq_true rfl) ⟨by decide, by decide⟩ (dt_k3 ?_)
      refine dt_cm_ge (tgt := 35) dX6_common_15 (by decide) (by first | assumption | exact hwf _ _ | exact dt_b32 _ | omega | exact ⟨by omega, by omega⟩ | decide | exact ⟨by simp (disch := omega) only [dt_up_s, dt_up_k, dt_up_n]; omega, by simp (disch := omega) only [dt_up_s, dt_up_k, dt_up_n]; omega⟩) (by first | assumption | exact hwf _ _ | exact dt_b32 _ | omega | exact ⟨by omega, by omega⟩ | decide | exact ⟨by simp (disch := omega) only [dt_up_s, dt_up_k, dt_up_n]; omega, by simp (disch := omega) only [dt_up_s, dt_up_k, dt_up_n]; omega⟩) (fun c1 => ?_) (fun c1 => ?_)
      · skip
        refine dt_iloadn dX6_common_35 rfl rfl ?_
        refine dt_iret dX6_common_36 rfl (by decide) (by decide) ?_
        exact ⟨by rw [fl_e (by omega)]; rfl, rfl, rfl⟩
      · skip
        obtain ⟨x, hx⟩ := dt_lg (l := rs) (i := i) (by omega)
        refine dt_iloadn dX6_common_18 rfl rfl ?_
        refine dt_aloadn dX6_common_19 rfl rfl ?_
        refine dt_iloadn dX6_common_20 rfl rfl ?_
        refine dt_iloadn dX6_common_21 rfl rfl ?_
        refine dt_iload dX6_common_22 rfl ?_
        refine dt_xV dX6_common_24 pc_X6_66 hp.1 (s_X6_reading (by first | assumption | exact hwf _ _ | exact dt_b32 _ | omega | exact ⟨by omega, by omega⟩ | decide | exact ⟨by simp (disch := omega) only [dt_up_s, dt_up_k, dt_up_n]; omega, by simp (disch := omega) only [dt_up_s, dt_up_k, dt_up_n]; omega⟩) ⟨hw, by omega, by omega, by omega⟩) rfl rfl ⟨by decide, by decide⟩ rfl rfl (Nat.le_of_ble_eq_true rfl) ⟨by decide, by decide⟩ (dt_k3 ?_)
        refine dt_iand dX6_common_27 ?_
        refine dt_istoren dX6_common_28 rfl (by decide) rfl ?_
        dsimp only [List.set]
        refine dt_iinc dX6_common_29 rfl (by decide) rfl ?_
        dsimp only [List.set]
        refine dt_goto (tgt := 7) dX6_common_32 (by decide) ?_
        exact dt_lb (ih (i + 1) (by omega) (by omega)) ⟨rfl, rfl, rfl, (by rw [(hrs i x hx).1, dj_and_nn (Nat.lt_of_le_of_lt (xCom_le _ _) (by omega))]; rw [fl_s hx]), rfl, trivial⟩
  exact dt_lb (lp7 5 0 (by omega) (by omega)) ⟨rfl, rfl, rfl, rfl, rfl, trivial⟩
theorem s_X6_whole {sh : List dt_Shp} {σ : dt_Mem} {p : Nat} {t w : Int} {rs : List Nat} (hp : dt_pSh sh p) (hw : cW σ p t w) (hn : σ (p + 3) (t * 8 + w).toNat = rs.length) (hn3 : rs.length ≤ 3) (hrs : ∀ (q r : Nat), rs[q]? = some r → σ (p + 4) ((t * 8 + w) * 3 + (q : Int)).toNat = r ∧ r < 256) : dt_Sp mX6_whole 3 0 0 [dt_R p, dt_I t, dt_I w] sh σ (fun v sh2 σ2 => v = some (dt_I ((xAll rs : Nat) : Int)) ∧ sh2 = sh ∧ σ2 = σ) := by
  refine dt_Sp_of (by decide) (Nat.le_of_ble_eq_true rfl) ?_
  refine dt_wfV fun hwf => ?_
  obtain ⟨hw1, hw2, hw3, hw4, hw5, hw6⟩ := id hw
  show dt_V _ _ _ 0 0 0 [some (dt_R p), some (dt_I t), some (dt_I w), none, none] [] _ _
  refine dt_iconst dX6_whole_0 ?_
  refine dt_istoren dX6_whole_1 rfl (by decide) rfl ?_
  dsimp only [List.set]
  refine dt_iconst dX6_whole_2 ?_
  refine dt_istore dX6_whole_3 (by decide) rfl ?_
  dsimp only [List.set]
  have lp5 : ∀ (fu : Nat) (i : Nat), (rs.length : Int) - i < (fu : Int) → (i ≤ rs.length) →  dt_V mX6_whole (dt_rm 3 0 0) (dt_MC (fun v sh2 σ2 => v = some (dt_I ((xAll rs : Nat) : Int)) ∧ sh2 = sh ∧ σ2 = σ) 0 0) 0 0 5 [some (dt_R p), some (dt_I t), some (dt_I w), some (dt_I (((rs.take i).foldl (fun a r => a ||| r) 0 : Nat) : Int)), some (dt_I (i : Int))] [] sh σ := by
    intro fu
    induction fu with
    | zero =>
      intro i hm hi
      exfalso
      omega
    | succ fu ih =>
      intro i hm hi
      refine dt_wfV fun hwf => ?_
      refine dt_iload dX6_whole_5 rfl ?_
      refine dt_aloadn dX6_whole_7 rfl rfl ?_
      refine dt_iloadn dX6_whole_8 rfl rfl ?_
      refine dt_iloadn dX6_whole_9 rfl rfl ?_
      refine dt_xV dX6_whole_10 pc_X6_63 hp.1 (s_X6_readingsOf (by first | assumption | exact hwf _ _ | exact dt_b32 _ | omega | exact ⟨by omega, by omega⟩ | decide | exact ⟨by simp (disch := omega) only [dt_up_s, dt_up_k, dt_up_n]; omega, by simp (disch := omega) only [dt_up_s, dt_up_k, dt_up_n]; omega⟩) (by first | assumption | exact hwf _ _ | exact dt_b32 _ | omega | exact ⟨by omega, by omega⟩ | decide | exact ⟨by simp (disch := omega) only [dt_up_s, dt_up_k, dt_up_n]; omega, by simp (disch := omega) only [dt_up_s, dt_up_k, dt_up_n]; omega⟩)) rfl rfl ⟨by decide, by decide⟩ rfl rfl (Nat.le_of_ble_eq_true rfl) ⟨by decide, by decide⟩ (dt_k3 ?_)
      refine dt_cm_ge (tgt := 33) dX6_whole_13 (by decide) (by first | assumption | exact hwf _ _ | exact dt_b32 _ | omega | exact ⟨by omega, by omega⟩ | decide | exact ⟨by simp (disch := omega) only [dt_up_s, dt_up_k, dt_up_n]; omega, by simp (disch := omega) only [dt_up_s, dt_up_k, dt_up_n]; omega⟩) (by first | assumption | exact hwf _ _ | exact dt_b32 _ | omega | exact ⟨by omega, by omega⟩ | decide | exact ⟨by simp (disch := omega) only [dt_up_s, dt_up_k, dt_up_n]; omega, by simp (disch := omega) only [dt_up_s, dt_up_k, dt_up_n]; omega⟩) (fun c1 => ?_) (fun c1 => ?_)
      · skip
        refine dt_iloadn dX6_whole_33 rfl rfl ?_
        refine dt_iret dX6_whole_34 rfl (by decide) (by decide) ?_
        exact ⟨by rw [fl_e (by omega)]; rfl, rfl, rfl⟩
      · skip
        obtain ⟨x, hx⟩ := dt_lg (l := rs) (i := i) (by omega)
        refine dt_iloadn dX6_whole_16 rfl rfl ?_
        refine dt_aloadn dX6_whole_17 rfl rfl ?_
        refine dt_iloadn dX6_whole_18 rfl rfl ?_
        refine dt_iloadn dX6_whole_19 rfl rfl ?_
        refine dt_iload dX6_whole_20 rfl ?_
        refine dt_xV dX6_whole_22 pc_X6_66 hp.1 (s_X6_reading (by first | assumption | exact hwf _ _ | exact dt_b32 _ | omega | exact ⟨by omega, by omega⟩ | decide | exact ⟨by simp (disch := omega) only [dt_up_s, dt_up_k, dt_up_n]; omega, by simp (disch := omega) only [dt_up_s, dt_up_k, dt_up_n]; omega⟩) ⟨hw, by omega, by omega, by omega⟩) rfl rfl ⟨by decide, by decide⟩ rfl rfl (Nat.le_of_ble_eq_true rfl) ⟨by decide, by decide⟩ (dt_k3 ?_)
        refine dt_ior dX6_whole_25 ?_
        refine dt_istoren dX6_whole_26 rfl (by decide) rfl ?_
        dsimp only [List.set]
        refine dt_iinc dX6_whole_27 rfl (by decide) rfl ?_
        dsimp only [List.set]
        refine dt_goto (tgt := 5) dX6_whole_30 (by decide) ?_
        exact dt_lb (ih (i + 1) (by omega) (by omega)) ⟨rfl, rfl, rfl, (by rw [(hrs i x hx).1, dj_or_nn (Nat.lt_trans (xAll_lt _ (fun r hr => by obtain ⟨j, hj⟩ := List.getElem?_of_mem (List.mem_of_mem_take hr); exact (hrs j r hj).2) 0 (by omega)) (by omega)) (by have := (hrs i x hx).2; omega)]; rw [fl_s hx]), rfl, trivial⟩
  exact dt_lb (lp5 5 0 (by omega) (by omega)) ⟨rfl, rfl, rfl, rfl, rfl, trivial⟩
