
theorem s_X11_kind {ex : List dt_Shp} {σ : dt_Mem} {A : dS} {t w : Int} (hI : cInv ex σ A) (h_t : dt_in32 t) (h_w : dt_in32 w) : dt_Sp mX11_kind 3 0 0 [dt_R 0, dt_I t, dt_I w] (dt_SH ++ ex) σ (fun v sh2 σ2 => v = some (dt_I (oKind A t w).1) ∧ sh2 = dt_SH ++ ex ∧ cEnd ex σ σ2 (oKind A t w).2) := by
  refine dt_Sp_of (by decide) (Nat.le_of_ble_eq_true rfl) ?_
  refine dt_wfV fun hwf => ?_
  have hc := hI.2.2.1.1
  have hok := hI.2.2.1.2.1
  have e5 := hc.t
  have e6 := hc.p
  have e7 := hc.1
  show dt_V _ _ _ 0 0 0 [some (dt_R 0), some (dt_I t), some (dt_I w)] [] _ _
  refine dt_aloadn dX11_kind_0 rfl rfl ?_
  refine dt_getR dX11_kind_1 pg_X11_26_11 rfl rfl ?_
  refine dt_iloadn dX11_kind_4 rfl rfl ?_
  refine dt_iloadn dX11_kind_5 rfl rfl ?_
  refine dt_xV dX11_kind_6 pc_X11_145 rfl (s_X6_hasWord dt_p7 (by first | assumption | exact hwf _ _ | exact dt_b32 _ | omega | exact ⟨by omega, by omega⟩ | decide | exact ⟨by simp (disch := omega) only [dt_up_s, dt_up_k, dt_up_n]; omega, by simp (disch := omega) only [dt_up_s, dt_up_k, dt_up_n]; omega⟩) (by first | assumption | exact hwf _ _ | exact dt_b32 _ | omega | exact ⟨by omega, by omega⟩ | decide | exact ⟨by simp (disch := omega) only [dt_up_s, dt_up_k, dt_up_n]; omega, by simp (disch := omega) only [dt_up_s, dt_up_k, dt_up_n]; omega⟩)) rfl rfl ⟨by decide, by decide⟩ rfl rfl (Nat.le_of_ble_eq_true rfl) ⟨by decide, by decide⟩ (dt_k3 ?_)
  refine dt_if_eq (tgt := 24) dX11_kind_9 (by decide) (by first | assumption | exact hwf _ _ | exact dt_b32 _ | omega | exact ⟨by omega, by omega⟩ | decide | exact ⟨by simp (disch := omega) only [dt_up_s, dt_up_k, dt_up_n]; omega, by simp (disch := omega) only [dt_up_s, dt_up_k, dt_up_n]; omega⟩) (fun c1 => ?_) (fun c1 => ?_)
  · skip
    simp only [dt_b0, dt_b1, Decidable.not_not, Classical.not_not] at c1
    have hat := hc.no c1
    refine dt_ldc dX11_kind_24 pk_X11_74 ?_
    refine dt_iret dX11_kind_26 rfl (by decide) (by decide) ?_
    refine ⟨?_, rfl, hI, fun b _ _ => rfl⟩
    unfold oKind
    first
    | (simp only [hat, ew, g6]; done)
    | (simp only [hat]; done)
  · skip
    simp only [dt_b0, dt_b1, Decidable.not_not, Classical.not_not] at c1
    obtain ⟨t, w, wd, rfl, rfl, hw⟩ := hc.ofW c1
    obtain ⟨g1, g2, g3, g4, g5, g6, g7, g8⟩ := hc.word hw
    have hat := xAt_of hw
    have ew : ((t : Int) * 8 + (w : Int)).toNat = t * 8 + w := by omega
    refine dt_aloadn dX11_kind_12 rfl rfl ?_
    refine dt_getR dX11_kind_13 pg_X11_26_11 rfl rfl ?_
    refine dt_iloadn dX11_kind_16 rfl rfl ?_
    refine dt_iloadn dX11_kind_17 rfl rfl ?_
    refine dt_xV dX11_kind_18 pc_X11_235 rfl (s_X6_kindOf dt_p7 c1) rfl rfl ⟨by decide, by decide⟩ rfl rfl (Nat.le_of_ble_eq_true rfl) ⟨by decide, by decide⟩ (dt_k3 ?_)
    refine dt_goto (tgt := 26) dX11_kind_21 (by decide) ?_
    refine dt_iret dX11_kind_26 rfl (by decide) (by decide) ?_
    refine ⟨?_, rfl, hI, fun b _ _ => rfl⟩
    unfold oKind
    first
    | (simp only [hat, ew, g6]; done)
    | (simp only [hat]; done)
theorem s_X11_words {ex : List dt_Shp} {σ : dt_Mem} {A : dS} {t : Int} (hI : cInv ex σ A) (h_t : dt_in32 t) : dt_Sp mX11_words 2 0 0 [dt_R 0, dt_I t] (dt_SH ++ ex) σ (fun v sh2 σ2 => v = some (dt_I (oWords A t).1) ∧ sh2 = dt_SH ++ ex ∧ cEnd ex σ σ2 (oWords A t).2) := by
  refine dt_Sp_of (by decide) (Nat.le_of_ble_eq_true rfl) ?_
  refine dt_wfV fun hwf => ?_
  have hc := hI.2.2.1.1
  have hok := hI.2.2.1.2.1
  have e5 := hc.t
  have e6 := hc.p
  have e7 := hc.1
  show dt_V _ _ _ 0 0 0 [some (dt_R 0), some (dt_I t)] [] _ _
  refine dt_aloadn dX11_words_0 rfl rfl ?_
  refine dt_getR dX11_words_1 pg_X11_26_11 rfl rfl ?_
  refine dt_iloadn dX11_words_4 rfl rfl ?_
  refine dt_xV dX11_words_5 pc_X11_157 rfl (s_X6_hasTongue dt_p7 (by first | assumption | exact hwf _ _ | exact dt_b32 _ | omega | exact ⟨by omega, by omega⟩ | decide | exact ⟨by simp (disch := omega) only [dt_up_s, dt_up_k, dt_up_n]; omega, by simp (disch := omega) only [dt_up_s, dt_up_k, dt_up_n]; omega⟩)) rfl rfl ⟨by decide, by decide⟩ rfl rfl (Nat.le_of_ble_eq_true rfl) ⟨by decide, by decide⟩ (dt_k3 ?_)
  refine dt_if_eq (tgt := 22) dX11_words_8 (by decide) (by first | assumption | exact hwf _ _ | exact dt_b32 _ | omega | exact ⟨by omega, by omega⟩ | decide | exact ⟨by simp (disch := omega) only [dt_up_s, dt_up_k, dt_up_n]; omega, by simp (disch := omega) only [dt_up_s, dt_up_k, dt_up_n]; omega⟩) (fun c1 => ?_) (fun c1 => ?_)
  · skip
    simp only [dt_b0, dt_b1, Decidable.not_not, Classical.not_not] at c1
    refine dt_ldc dX11_words_22 pk_X11_74 ?_
    refine dt_iret dX11_words_24 rfl (by decide) (by decide) ?_
    refine ⟨?_, rfl, hI, fun b _ _ => rfl⟩
    unfold oWords
    first
    | (rw [if_pos (by omega), dt_gd ht, q]; done)
    | (rw [if_neg (by unfold cT at c1; omega)]; done)
  · skip
    simp only [dt_b0, dt_b1, Decidable.not_not, Classical.not_not] at c1
    obtain ⟨t1, t2, t3⟩ := id c1
    obtain ⟨tg, ht⟩ := dt_lg (l := (sN A).1) (i := t.toNat) (by omega)
    have q := (hc.2.2.2.2.1 _ tg ht).2.1
    refine dt_aloadn dX11_words_11 rfl rfl ?_
    refine dt_getR dX11_words_12 pg_X11_26_11 rfl rfl ?_
    refine dt_iloadn dX11_words_15 rfl rfl ?_
    refine dt_xV dX11_words_16 pc_X11_160 rfl (s_X6_wordsOf dt_p7 c1) rfl rfl ⟨by decide, by decide⟩ rfl rfl (Nat.le_of_ble_eq_true rfl) ⟨by decide, by decide⟩ (dt_k3 ?_)
    refine dt_goto (tgt := 24) dX11_words_19 (by decide) ?_
    refine dt_iret dX11_words_24 rfl (by decide) (by decide) ?_
    refine ⟨?_, rfl, hI, fun b _ _ => rfl⟩
    unfold oWords
    first
    | (rw [if_pos (by omega), dt_gd ht, q]; done)
    | (rw [if_neg (by unfold cT at c1; omega)]; done)
theorem s_X11_knows {ex : List dt_Shp} {σ : dt_Mem} {A : dS} {t : Int} (hI : cInv ex σ A) (h_t : dt_in32 t) : dt_Sp mX11_knows 2 0 0 [dt_R 0, dt_I t] (dt_SH ++ ex) σ (fun v sh2 σ2 => v = some (dt_I (oKnows A t).1) ∧ sh2 = dt_SH ++ ex ∧ cEnd ex σ σ2 (oKnows A t).2) := by
  refine dt_Sp_of (by decide) (Nat.le_of_ble_eq_true rfl) ?_
  refine dt_wfV fun hwf => ?_
  have hc := hI.2.2.1.1
  have hok := hI.2.2.1.2.1
  have e5 := hc.t
  have e6 := hc.p
  have e7 := hc.1
  show dt_V _ _ _ 0 0 0 [some (dt_R 0), some (dt_I t)] [] _ _
  refine dt_aloadn dX11_knows_0 rfl rfl ?_
  refine dt_getR dX11_knows_1 pg_X11_26_11 rfl rfl ?_
  refine dt_iloadn dX11_knows_4 rfl rfl ?_
  refine dt_xV dX11_knows_5 pc_X11_163 rfl (s_X6_hasPerson dt_p7 (by first | assumption | exact hwf _ _ | exact dt_b32 _ | omega | exact ⟨by omega, by omega⟩ | decide | exact ⟨by simp (disch := omega) only [dt_up_s, dt_up_k, dt_up_n]; omega, by simp (disch := omega) only [dt_up_s, dt_up_k, dt_up_n]; omega⟩)) rfl rfl ⟨by decide, by decide⟩ rfl rfl (Nat.le_of_ble_eq_true rfl) ⟨by decide, by decide⟩ (dt_k3 ?_)
  refine dt_if_eq (tgt := 22) dX11_knows_8 (by decide) (by first | assumption | exact hwf _ _ | exact dt_b32 _ | omega | exact ⟨by omega, by omega⟩ | decide | exact ⟨by simp (disch := omega) only [dt_up_s, dt_up_k, dt_up_n]; omega, by simp (disch := omega) only [dt_up_s, dt_up_k, dt_up_n]; omega⟩) (fun c1 => ?_) (fun c1 => ?_)
  · skip
    simp only [dt_b0, dt_b1, Decidable.not_not, Classical.not_not] at c1
    refine dt_ldc dX11_knows_22 pk_X11_74 ?_
    refine dt_iret dX11_knows_24 rfl (by decide) (by decide) ?_
    refine ⟨?_, rfl, hI, fun b _ _ => rfl⟩
    unfold oKnows
    first
    | (rw [if_pos (by omega), dt_gd ht, q]; done)
    | (rw [if_neg (by unfold cPe at c1; omega)]; done)
  · skip
    simp only [dt_b0, dt_b1, Decidable.not_not, Classical.not_not] at c1
    obtain ⟨t1, t2, t3⟩ := id c1
    obtain ⟨k, ht⟩ := dt_lg (l := (sN A).2.1) (i := t.toNat) (by omega)
    have q := hc.2.2.2.2.2 _ k ht
    refine dt_aloadn dX11_knows_11 rfl rfl ?_
    refine dt_getR dX11_knows_12 pg_X11_26_11 rfl rfl ?_
    refine dt_iloadn dX11_knows_15 rfl rfl ?_
    refine dt_xV dX11_knows_16 pc_X11_166 rfl (s_X6_knownBy dt_p7 c1) rfl rfl ⟨by decide, by decide⟩ rfl rfl (Nat.le_of_ble_eq_true rfl) ⟨by decide, by decide⟩ (dt_k3 ?_)
    refine dt_goto (tgt := 24) dX11_knows_19 (by decide) ?_
    refine dt_iret dX11_knows_24 rfl (by decide) (by decide) ?_
    refine ⟨?_, rfl, hI, fun b _ _ => rfl⟩
    unfold oKnows
    first
    | (rw [if_pos (by omega), dt_gd ht, q]; done)
    | (rw [if_neg (by unfold cPe at c1; omega)]; done)
theorem s_X11_word {ex : List dt_Shp} {σ : dt_Mem} {A : dS} {t w what : Int} (hI : cInv ex σ A) (h_t : dt_in32 t) (h_w : dt_in32 w) (h_what : dt_in32 what) : dt_Sp mX11_word 4 0 0 [dt_R 0, dt_I t, dt_I w, dt_I what] (dt_SH ++ ex) σ (fun v sh2 σ2 => v = some (dt_I (oWord A t w what).1) ∧ sh2 = dt_SH ++ ex ∧ cEnd ex σ σ2 (oWord A t w what).2) := by
  refine dt_Sp_of (by decide) (Nat.le_of_ble_eq_true rfl) ?_
  refine dt_wfV fun hwf => ?_
  have hc := hI.2.2.1.1
  have hok := hI.2.2.1.2.1
  have e5 := hc.t
  have e6 := hc.p
  have e7 := hc.1
  show dt_V _ _ _ 0 0 0 [some (dt_R 0), some (dt_I t), some (dt_I w), some (dt_I what), none] [] _ _
  refine dt_aloadn dX11_word_0 rfl rfl ?_
  refine dt_getR dX11_word_1 pg_X11_26_11 rfl rfl ?_
  refine dt_iloadn dX11_word_4 rfl rfl ?_
  refine dt_iloadn dX11_word_5 rfl rfl ?_
  refine dt_xV dX11_word_6 pc_X11_145 rfl (s_X6_hasWord dt_p7 (by first | assumption | exact hwf _ _ | exact dt_b32 _ | omega | exact ⟨by omega, by omega⟩ | decide | exact ⟨by simp (disch := omega) only [dt_up_s, dt_up_k, dt_up_n]; omega, by simp (disch := omega) only [dt_up_s, dt_up_k, dt_up_n]; omega⟩) (by first | assumption | exact hwf _ _ | exact dt_b32 _ | omega | exact ⟨by omega, by omega⟩ | decide | exact ⟨by simp (disch := omega) only [dt_up_s, dt_up_k, dt_up_n]; omega, by simp (disch := omega) only [dt_up_s, dt_up_k, dt_up_n]; omega⟩)) rfl rfl ⟨by decide, by decide⟩ rfl rfl (Nat.le_of_ble_eq_true rfl) ⟨by decide, by decide⟩ (dt_k3 ?_)
  refine dt_if_eq (tgt := 21) dX11_word_9 (by decide) (by first | assumption | exact hwf _ _ | exact dt_b32 _ | omega | exact ⟨by omega, by omega⟩ | decide | exact ⟨by simp (disch := omega) only [dt_up_s, dt_up_k, dt_up_n]; omega, by simp (disch := omega) only [dt_up_s, dt_up_k, dt_up_n]; omega⟩) (fun c1 => ?_) (fun c1 => ?_)
  · skip
    simp only [dt_b0, dt_b1, Decidable.not_not, Classical.not_not] at c1
    have hat := hc.no c1
    refine dt_ldc dX11_word_21 pk_X11_74 ?_
    refine dt_iret dX11_word_23 rfl (by decide) (by decide) ?_
    refine ⟨?_, rfl, hI, fun b _ _ => rfl⟩
    unfold oWord
    first
    | (simp only [hat]; done)
    | (simp only [hat]; rw [if_neg (by omega)]; done)
  · skip
    simp only [dt_b0, dt_b1, Decidable.not_not, Classical.not_not] at c1
    obtain ⟨t, w, wd, rfl, rfl, hw⟩ := hc.ofW c1
    obtain ⟨g1, g2, g3, g4, g5, g6, g7, g8⟩ := hc.word hw
    have hat := xAt_of hw
    have ew : ((t : Int) * 8 + (w : Int)).toNat = t * 8 + w := by omega
    refine dt_iloadn dX11_word_12 rfl rfl ?_
    refine dt_iconst dX11_word_13 ?_
    refine dt_iconst dX11_word_14 ?_
    refine dt_xS dX11_word_15 pc_X11_70 (s_X11_isWithin (by first | assumption | exact hwf _ _ | exact dt_b32 _ | omega | exact ⟨by omega, by omega⟩ | decide | exact ⟨by simp (disch := omega) only [dt_up_s, dt_up_k, dt_up_n]; omega, by simp (disch := omega) only [dt_up_s, dt_up_k, dt_up_n]; omega⟩) (by first | assumption | exact hwf _ _ | exact dt_b32 _ | omega | exact ⟨by omega, by omega⟩ | decide | exact ⟨by simp (disch := omega) only [dt_up_s, dt_up_k, dt_up_n]; omega, by simp (disch := omega) only [dt_up_s, dt_up_k, dt_up_n]; omega⟩) (by first | assumption | exact hwf _ _ | exact dt_b32 _ | omega | exact ⟨by omega, by omega⟩ | decide | exact ⟨by simp (disch := omega) only [dt_up_s, dt_up_k, dt_up_n]; omega, by simp (disch := omega) only [dt_up_s, dt_up_k, dt_up_n]; omega⟩)) rfl rfl ⟨by decide, by decide⟩ (Nat.le_of_ble_eq_true rfl) ⟨by decide, by decide⟩ (dt_k3 ?_)
    refine dt_if_ne (tgt := 24) dX11_word_18 (by decide) (by first | assumption | exact hwf _ _ | exact dt_b32 _ | omega | exact ⟨by omega, by omega⟩ | decide | exact ⟨by simp (disch := omega) only [dt_up_s, dt_up_k, dt_up_n]; omega, by simp (disch := omega) only [dt_up_s, dt_up_k, dt_up_n]; omega⟩) (fun c2 => ?_) (fun c2 => ?_)
    · skip
      simp only [dt_b0, dt_b1, Decidable.not_not, Classical.not_not] at c2
      refine dt_aloadn dX11_word_24 rfl rfl ?_
      refine dt_getR dX11_word_25 pg_X11_26_11 rfl rfl ?_
      refine dt_iloadn dX11_word_28 rfl rfl ?_
      refine dt_iloadn dX11_word_29 rfl rfl ?_
      refine dt_xV dX11_word_30 pc_X11_149 rfl (s_X6_readingsOf dt_p7 c1) rfl rfl ⟨by decide, by decide⟩ rfl rfl (Nat.le_of_ble_eq_true rfl) ⟨by decide, by decide⟩ (dt_k3 ?_)
      refine dt_istore dX11_word_33 (by decide) rfl ?_
      dsimp only [List.set]
      refine dt_iloadn dX11_word_35 rfl rfl ?_
      refine dt_if_ne (tgt := 42) dX11_word_36 (by decide) (by first | assumption | exact hwf _ _ | exact dt_b32 _ | omega | exact ⟨by omega, by omega⟩ | decide | exact ⟨by simp (disch := omega) only [dt_up_s, dt_up_k, dt_up_n]; omega, by simp (disch := omega) only [dt_up_s, dt_up_k, dt_up_n]; omega⟩) (fun c3 => ?_) (fun c3 => ?_)
      · skip
        refine dt_iloadn dX11_word_42 rfl rfl ?_
        refine dt_iload dX11_word_43 rfl ?_
        refine dt_cm_gt (tgt := 63) dX11_word_45 (by decide) (by first | assumption | exact hwf _ _ | exact dt_b32 _ | omega | exact ⟨by omega, by omega⟩ | decide | exact ⟨by simp (disch := omega) only [dt_up_s, dt_up_k, dt_up_n]; omega, by simp (disch := omega) only [dt_up_s, dt_up_k, dt_up_n]; omega⟩) (by first | assumption | exact hwf _ _ | exact dt_b32 _ | omega | exact ⟨by omega, by omega⟩ | decide | exact ⟨by simp (disch := omega) only [dt_up_s, dt_up_k, dt_up_n]; omega, by simp (disch := omega) only [dt_up_s, dt_up_k, dt_up_n]; omega⟩) (fun c4 => ?_) (fun c4 => ?_)
        · skip
          rw [ew, g7] at c4
          refine dt_ldc dX11_word_63 pk_X11_156 ?_
          refine dt_iret dX11_word_65 rfl (by decide) (by decide) ?_
          refine ⟨?_, rfl, hI, fun b _ _ => rfl⟩
          unfold oWord
          first
          | (simp only [hat]; rw [if_pos (by omega), if_neg (by omega), if_pos (by omega), hq, Int.toNat_natCast, dt_gd hr, ex3, g9]; done)
          | (simp only [hat]; rw [if_pos (by omega), if_neg (by omega), if_neg (by omega)]; done)
        · skip
          refine dt_aloadn dX11_word_48 rfl rfl ?_
          refine dt_getR dX11_word_49 pg_X11_26_11 rfl rfl ?_
          refine dt_iloadn dX11_word_52 rfl rfl ?_
          refine dt_iloadn dX11_word_53 rfl rfl ?_
          refine dt_iloadn dX11_word_54 rfl rfl ?_
          refine dt_iconst dX11_word_55 ?_
          refine dt_isub dX11_word_56 ?_
          rw [ew, g7] at c4
          obtain ⟨q, hq⟩ : ∃ q : Nat, what - 1 = q := ⟨(what - 1).toNat, by omega⟩
          rw [hq]
          obtain ⟨r, hr⟩ := dt_lg (l := wd.2) (i := q) (by omega)
          have g9 := g8 q r hr
          have ex3 : (((t : Int) * 8 + (w : Int)) * 3 + (q : Int)).toNat = (t * 8 + w) * 3 + q := by omega
          refine dt_xV dX11_word_57 pc_X11_153 rfl (s_X6_reading dt_p7 ⟨c1, by omega, by omega, by rw [ew, g7]; omega⟩) rfl rfl ⟨by decide, by decide⟩ rfl rfl (Nat.le_of_ble_eq_true rfl) ⟨by decide, by decide⟩ (dt_k3 ?_)
          refine dt_goto (tgt := 65) dX11_word_60 (by decide) ?_
          refine dt_iret dX11_word_65 rfl (by decide) (by decide) ?_
          refine ⟨?_, rfl, hI, fun b _ _ => rfl⟩
          unfold oWord
          first
          | (simp only [hat]; rw [if_pos (by omega), if_neg (by omega), if_pos (by omega), hq, Int.toNat_natCast, dt_gd hr, ex3, g9]; done)
          | (simp only [hat]; rw [if_pos (by omega), if_neg (by omega), if_neg (by omega)]; done)
      · skip
        refine dt_iload dX11_word_39 rfl ?_
        refine dt_iret dX11_word_41 rfl (by decide) (by decide) ?_
        refine ⟨?_, rfl, hI, fun b _ _ => rfl⟩
        unfold oWord
        first
        | (simp only [hat]; rw [if_pos (by omega), if_pos (by omega), ew, g7]; done)
    · skip
      simp only [dt_b0, dt_b1, Decidable.not_not, Classical.not_not] at c2
      refine dt_ldc dX11_word_21 pk_X11_74 ?_
      refine dt_iret dX11_word_23 rfl (by decide) (by decide) ?_
      refine ⟨?_, rfl, hI, fun b _ _ => rfl⟩
      unfold oWord
      first
      | (simp only [hat]; done)
      | (simp only [hat]; rw [if_neg (by omega)]; done)
def imP (k : Int) : Nat := if k = 0 then 19 else 25
theorem imP_sh {ex : List dt_Shp} (k : Int) : dt_pSh (dt_SH ++ ex) (imP k) := by
  unfold imP
  split
  · exact dt_p19
  · exact dt_p25
theorem imP_X {ex : List dt_Shp} {σ : dt_Mem} {A : dS} (h : cInv ex σ A) (k : Int) : cP σ (imP k) (sImK A k) := by
  unfold imP sImK
  split
  · exact h.2.2.2.1
  · exact h.2.2.2.2.1
theorem imP_n (k : Int) : 19 ≤ imP k ∧ imP k ≤ 25 := by
  unfold imP
  split <;> decide
theorem s_X11_imageOf {ex : List dt_Shp} {σ : dt_Mem} {k : Int} (hk : dt_in32 k) : dt_Sp mX11_imageOf 0 0 0 [dt_R 0, dt_I k] (dt_SH ++ ex) σ (fun v sh2 σ2 => v = some (dt_R (imP k)) ∧ sh2 = dt_SH ++ ex ∧ σ2 = σ) := by
  refine dt_Sp_of (by decide) (Nat.le_of_ble_eq_true rfl) ?_
  refine dt_wfV fun hwf => ?_
  show dt_V _ _ _ 0 0 0 [some (dt_R 0), some (dt_I k)] [] _ _
  refine dt_iloadn dX11_imageOf_0 rfl rfl ?_
  refine dt_if_ne (tgt := 11) dX11_imageOf_1 (by decide) (by first | assumption | exact hwf _ _ | exact dt_b32 _ | omega | exact ⟨by omega, by omega⟩ | decide | exact ⟨by simp (disch := omega) only [dt_up_s, dt_up_k, dt_up_n]; omega, by simp (disch := omega) only [dt_up_s, dt_up_k, dt_up_n]; omega⟩) (fun c1 => ?_) (fun c1 => ?_)
  · skip
    refine dt_aloadn dX11_imageOf_11 rfl rfl ?_
    refine dt_getR dX11_imageOf_12 pg_X11_36_11 rfl rfl ?_
    refine dt_aret dX11_imageOf_15 rfl (by decide) (by decide) ?_
    unfold imP
    first | (rw [if_pos (by omega)]; exact ⟨rfl, rfl, rfl⟩) | (rw [if_neg (by omega)]; exact ⟨rfl, rfl, rfl⟩)
  · skip
    refine dt_aloadn dX11_imageOf_4 rfl rfl ?_
    refine dt_getR dX11_imageOf_5 pg_X11_33_11 rfl rfl ?_
    refine dt_goto (tgt := 15) dX11_imageOf_8 (by decide) ?_
    refine dt_aret dX11_imageOf_15 rfl (by decide) (by decide) ?_
    unfold imP
    first | (rw [if_pos (by omega)]; exact ⟨rfl, rfl, rfl⟩) | (rw [if_neg (by omega)]; exact ⟨rfl, rfl, rfl⟩)
theorem s_X11_image {ex : List dt_Shp} {σ : dt_Mem} {A : dS} {k : Int} (hI : cInv ex σ A) (h_k : dt_in32 k) : dt_Sp mX11_image 2 0 0 [dt_R 0, dt_I k] (dt_SH ++ ex) σ (fun v sh2 σ2 => v = some (dt_I (oImage A k).1) ∧ sh2 = dt_SH ++ ex ∧ cEnd ex σ σ2 (oImage A k).2) := by
  refine dt_Sp_of (by decide) (Nat.le_of_ble_eq_true rfl) ?_
  refine dt_wfV fun hwf => ?_
  have hc := hI.2.2.1.1
  have hok := hI.2.2.1.2.1
  have e5 := hc.t
  have e6 := hc.p
  have e7 := hc.1
  show dt_V _ _ _ 0 0 0 [some (dt_R 0), some (dt_I k)] [] _ _
  refine dt_iloadn dX11_image_0 rfl rfl ?_
  refine dt_iconst dX11_image_1 ?_
  refine dt_iconst dX11_image_2 ?_
  refine dt_xS dX11_image_3 pc_X11_70 (s_X11_isWithin (by first | assumption | exact hwf _ _ | exact dt_b32 _ | omega | exact ⟨by omega, by omega⟩ | decide | exact ⟨by simp (disch := omega) only [dt_up_s, dt_up_k, dt_up_n]; omega, by simp (disch := omega) only [dt_up_s, dt_up_k, dt_up_n]; omega⟩) (by first | assumption | exact hwf _ _ | exact dt_b32 _ | omega | exact ⟨by omega, by omega⟩ | decide | exact ⟨by simp (disch := omega) only [dt_up_s, dt_up_k, dt_up_n]; omega, by simp (disch := omega) only [dt_up_s, dt_up_k, dt_up_n]; omega⟩) (by first | assumption | exact hwf _ _ | exact dt_b32 _ | omega | exact ⟨by omega, by omega⟩ | decide | exact ⟨by simp (disch := omega) only [dt_up_s, dt_up_k, dt_up_n]; omega, by simp (disch := omega) only [dt_up_s, dt_up_k, dt_up_n]; omega⟩)) rfl rfl ⟨by decide, by decide⟩ (Nat.le_of_ble_eq_true rfl) ⟨by decide, by decide⟩ (dt_k3 ?_)
  refine dt_if_ne (tgt := 12) dX11_image_6 (by decide) (by first | assumption | exact hwf _ _ | exact dt_b32 _ | omega | exact ⟨by omega, by omega⟩ | decide | exact ⟨by simp (disch := omega) only [dt_up_s, dt_up_k, dt_up_n]; omega, by simp (disch := omega) only [dt_up_s, dt_up_k, dt_up_n]; omega⟩) (fun c1 => ?_) (fun c1 => ?_)
  · skip
    simp only [dt_b0, dt_b1, Decidable.not_not, Classical.not_not] at c1
    refine dt_aloadn dX11_image_12 rfl rfl ?_
    refine dt_xV dX11_image_13 pc_X11_132 rfl s_X11_hasNoPort rfl rfl ⟨by decide, by decide⟩ rfl rfl (Nat.le_of_ble_eq_true rfl) ⟨by decide, by decide⟩ (dt_k3 ?_)
    refine dt_if_eq (tgt := 22) dX11_image_16 (by decide) (by first | assumption | exact hwf _ _ | exact dt_b32 _ | omega | exact ⟨by omega, by omega⟩ | decide | exact ⟨by simp (disch := omega) only [dt_up_s, dt_up_k, dt_up_n]; omega, by simp (disch := omega) only [dt_up_s, dt_up_k, dt_up_n]; omega⟩) (fun c2 => ?_) (fun c2 => ?_)
    · skip
      simp only [dt_b0, dt_b1, Decidable.not_not, Classical.not_not] at c2
      refine dt_aloadn dX11_image_22 rfl rfl ?_
      refine dt_iloadn dX11_image_23 rfl rfl ?_
      refine dt_xV dX11_image_24 pc_X11_228 rfl (s_X11_imageOf (by first | assumption | exact hwf _ _ | exact dt_b32 _ | omega | exact ⟨by omega, by omega⟩ | decide | exact ⟨by simp (disch := omega) only [dt_up_s, dt_up_k, dt_up_n]; omega, by simp (disch := omega) only [dt_up_s, dt_up_k, dt_up_n]; omega⟩)) rfl rfl ⟨by decide, by decide⟩ rfl rfl (Nat.le_of_ble_eq_true rfl) ⟨by decide, by decide⟩ (dt_k3 ?_)
      refine dt_aloadn dX11_image_27 rfl rfl ?_
      refine dt_getR dX11_image_28 pg_X11_26_11 rfl rfl ?_
      refine dt_xV dX11_image_31 pc_X11_126 (imP_sh k).1 (s_X6_become (imP_sh k) dt_p7 (by have := imP_n k; omega)) rfl rfl ⟨by decide, by decide⟩ rfl rfl (Nat.le_of_ble_eq_true rfl) ⟨by decide, by decide⟩ ?_
      intro v4 sh4 σ4 hq4
      obtain ⟨rfl, hs4, hf4, hX4⟩ := hq4
      obtain rfl := hs4.symm
      refine dt_iconst dX11_image_34 ?_
      refine dt_iret dX11_image_35 rfl (by decide) (by decide) ?_
      have e : oImage A k = (1, sIm A (if k = 0 then (sN A, (sI A).2) else ((sI A).1, sN A))) := by
        unfold oImage
        rw [if_pos (by omega), if_neg (fun q => by have := dt_nn.mpr q; omega)]
      rw [e]
      have hp := imP_n k
      refine ⟨rfl, rfl, ?_, fun b _ _ => hf4 b (by omega)⟩
      have hX := hX4 _ hc
      by_cases hk : k = 0
      · have e19 : imP k = 19 := by unfold imP; rw [if_pos hk]
        rw [e19] at hX hf4
        rw [if_pos hk]
        exact hI.im1 ⟨hX, hI.2.2.1.2⟩ (fun b hb => hf4 b (by omega))
      · have e25 : imP k = 25 := by unfold imP; rw [if_neg hk]
        rw [e25] at hX hf4
        rw [if_neg hk]
        exact hI.im2 ⟨hX, hI.2.2.1.2⟩ (fun b hb => hf4 b (by omega))
    · skip
      simp only [dt_b0, dt_b1, Decidable.not_not, Classical.not_not] at c2
      refine dt_ldc dX11_image_19 pk_X11_136 ?_
      refine dt_iret dX11_image_21 rfl (by decide) (by decide) ?_
      have e : oImage A k = (-1000002, A) := by
        unfold oImage
        rw [if_pos (by omega), if_pos (dt_nn.mp (by omega))]
      rw [e]
      exact ⟨rfl, rfl, hI, fun b _ _ => rfl⟩
  · skip
    simp only [dt_b0, dt_b1, Decidable.not_not, Classical.not_not] at c1
    refine dt_ldc dX11_image_9 pk_X11_74 ?_
    refine dt_iret dX11_image_11 rfl (by decide) (by decide) ?_
    have e : oImage A k = (-1000001, A) := by
      unfold oImage
      rw [if_neg (by omega)]
    rw [e]
    exact ⟨rfl, rfl, hI, fun b _ _ => rfl⟩
theorem s_X11_restore {ex : List dt_Shp} {σ : dt_Mem} {A : dS} {k : Int} (hI : cInv ex σ A) (h_k : dt_in32 k) : dt_Sp mX11_restore 2 0 0 [dt_R 0, dt_I k] (dt_SH ++ ex) σ (fun v sh2 σ2 => v = some (dt_I (oRestore A k).1) ∧ sh2 = dt_SH ++ ex ∧ cEnd ex σ σ2 (oRestore A k).2) := by
  refine dt_Sp_of (by decide) (Nat.le_of_ble_eq_true rfl) ?_
  refine dt_wfV fun hwf => ?_
  have hc := hI.2.2.1.1
  have hok := hI.2.2.1.2.1
  have e5 := hc.t
  have e6 := hc.p
  have e7 := hc.1
  have hK := imP_X hI k
  have k5 := hK.1.t
  have k7 := hK.1.1
  show dt_V _ _ _ 0 0 0 [some (dt_R 0), some (dt_I k)] [] _ _
  refine dt_iloadn dX11_restore_0 rfl rfl ?_
  refine dt_iconst dX11_restore_1 ?_
  refine dt_iconst dX11_restore_2 ?_
  refine dt_xS dX11_restore_3 pc_X11_70 (s_X11_isWithin (by first | assumption | exact hwf _ _ | exact dt_b32 _ | omega | exact ⟨by omega, by omega⟩ | decide | exact ⟨by simp (disch := omega) only [dt_up_s, dt_up_k, dt_up_n]; omega, by simp (disch := omega) only [dt_up_s, dt_up_k, dt_up_n]; omega⟩) (by first | assumption | exact hwf _ _ | exact dt_b32 _ | omega | exact ⟨by omega, by omega⟩ | decide | exact ⟨by simp (disch := omega) only [dt_up_s, dt_up_k, dt_up_n]; omega, by simp (disch := omega) only [dt_up_s, dt_up_k, dt_up_n]; omega⟩) (by first | assumption | exact hwf _ _ | exact dt_b32 _ | omega | exact ⟨by omega, by omega⟩ | decide | exact ⟨by simp (disch := omega) only [dt_up_s, dt_up_k, dt_up_n]; omega, by simp (disch := omega) only [dt_up_s, dt_up_k, dt_up_n]; omega⟩)) rfl rfl ⟨by decide, by decide⟩ (Nat.le_of_ble_eq_true rfl) ⟨by decide, by decide⟩ (dt_k3 ?_)
  refine dt_if_ne (tgt := 12) dX11_restore_6 (by decide) (by first | assumption | exact hwf _ _ | exact dt_b32 _ | omega | exact ⟨by omega, by omega⟩ | decide | exact ⟨by simp (disch := omega) only [dt_up_s, dt_up_k, dt_up_n]; omega, by simp (disch := omega) only [dt_up_s, dt_up_k, dt_up_n]; omega⟩) (fun c1 => ?_) (fun c1 => ?_)
  · skip
    simp only [dt_b0, dt_b1, Decidable.not_not, Classical.not_not] at c1
    refine dt_aloadn dX11_restore_12 rfl rfl ?_
    refine dt_iloadn dX11_restore_13 rfl rfl ?_
    refine dt_xV dX11_restore_14 pc_X11_228 rfl (s_X11_imageOf (by first | assumption | exact hwf _ _ | exact dt_b32 _ | omega | exact ⟨by omega, by omega⟩ | decide | exact ⟨by simp (disch := omega) only [dt_up_s, dt_up_k, dt_up_n]; omega, by simp (disch := omega) only [dt_up_s, dt_up_k, dt_up_n]; omega⟩)) rfl rfl ⟨by decide, by decide⟩ rfl rfl (Nat.le_of_ble_eq_true rfl) ⟨by decide, by decide⟩ (dt_k3 ?_)
    refine dt_xV dX11_restore_17 pc_X11_232 (imP_sh k).1 (s_X6_isNone (imP_sh k)) rfl rfl ⟨by decide, by decide⟩ rfl rfl (Nat.le_of_ble_eq_true rfl) ⟨by decide, by decide⟩ (dt_k3 ?_)
    refine dt_if_eq (tgt := 26) dX11_restore_20 (by decide) (by first | assumption | exact hwf _ _ | exact dt_b32 _ | omega | exact ⟨by omega, by omega⟩ | decide | exact ⟨by simp (disch := omega) only [dt_up_s, dt_up_k, dt_up_n]; omega, by simp (disch := omega) only [dt_up_s, dt_up_k, dt_up_n]; omega⟩) (fun c2 => ?_) (fun c2 => ?_)
    · skip
      simp only [dt_b0, dt_b1, Decidable.not_not, Classical.not_not] at c2
      refine dt_aloadn dX11_restore_26 rfl rfl ?_
      refine dt_getR dX11_restore_27 pg_X11_26_11 rfl rfl ?_
      refine dt_aloadn dX11_restore_30 rfl rfl ?_
      refine dt_iloadn dX11_restore_31 rfl rfl ?_
      refine dt_xV dX11_restore_32 pc_X11_228 rfl (s_X11_imageOf (by first | assumption | exact hwf _ _ | exact dt_b32 _ | omega | exact ⟨by omega, by omega⟩ | decide | exact ⟨by simp (disch := omega) only [dt_up_s, dt_up_k, dt_up_n]; omega, by simp (disch := omega) only [dt_up_s, dt_up_k, dt_up_n]; omega⟩)) rfl rfl ⟨by decide, by decide⟩ rfl rfl (Nat.le_of_ble_eq_true rfl) ⟨by decide, by decide⟩ (dt_k3 ?_)
      refine dt_xV dX11_restore_35 pc_X11_126 rfl (s_X6_become dt_p7 (imP_sh k) (by have := imP_n k; omega)) rfl rfl ⟨by decide, by decide⟩ rfl rfl (Nat.le_of_ble_eq_true rfl) ⟨by decide, by decide⟩ ?_
      intro v5 sh5 σ5 hq5
      obtain ⟨rfl, hs5, hf5, hX5⟩ := hq5
      obtain rfl := hs5.symm
      refine dt_iconst dX11_restore_38 ?_
      refine dt_iret dX11_restore_39 rfl (by decide) (by decide) ?_
      have e : oRestore A k = (1, sPt A (sImK A k)) := by
        unfold oRestore
        rw [if_pos (by omega), if_neg (fun q => by have := dt_nn.mpr q; omega)]
      rw [e]
      refine ⟨rfl, rfl, hI.port ⟨hX5 _ hK.1, hK.2⟩ (fun b hb => hf5 b (by omega)), fun b _ _ => hf5 b (by omega)⟩
    · skip
      simp only [dt_b0, dt_b1, Decidable.not_not, Classical.not_not] at c2
      refine dt_ldc dX11_restore_23 pk_X11_136 ?_
      refine dt_iret dX11_restore_25 rfl (by decide) (by decide) ?_
      have e : oRestore A k = (-1000002, A) := by
        unfold oRestore
        rw [if_pos (by omega), if_pos (dt_nn.mp (by omega))]
      rw [e]
      exact ⟨rfl, rfl, hI, fun b _ _ => rfl⟩
  · skip
    simp only [dt_b0, dt_b1, Decidable.not_not, Classical.not_not] at c1
    refine dt_ldc dX11_restore_9 pk_X11_74 ?_
    refine dt_iret dX11_restore_11 rfl (by decide) (by decide) ?_
    have e : oRestore A k = (-1000001, A) := by
      unfold oRestore
      rw [if_neg (by omega)]
    rw [e]
    exact ⟨rfl, rfl, hI, fun b _ _ => rfl⟩
theorem nX_years {X : dX} (h : dX_ok X) (h0 : 0 < X.1.length) (n : Nat) (x : Int) : dX_ok (xYears n X x) ∧ nX (xYears n X x) := by
  obtain ⟨a, b, -, -⟩ := xYears_ok n X x h h0
  exact ⟨a, fun q => by rw [q] at b; simp at b; omega⟩
theorem s_X11_drift {ex : List dt_Shp} {σ : dt_Mem} {A : dS} {n s : Int} (hI : cInv ex σ A) (h_n : dt_in32 n) (h_s : dt_in32 s) (hy : (sN A).2.2 ≤ 10000) : dt_Sp mX11_drift 6 0 0 [dt_R 0, dt_I n, dt_I s] (dt_SH ++ ex) σ (fun v sh2 σ2 => v = some (dt_I (oDrift A n s).1) ∧ sh2 = dt_SH ++ ex ∧ cEnd ex σ σ2 (oDrift A n s).2) := by
  refine dt_Sp_of (by decide) (Nat.le_of_ble_eq_true rfl) ?_
  refine dt_wfV fun hwf => ?_
  have hc := hI.2.2.1.1
  have hok := hI.2.2.1.2.1
  have e5 := hc.t
  have e6 := hc.p
  have e7 := hc.1
  show dt_V _ _ _ 0 0 0 [some (dt_R 0), some (dt_I n), some (dt_I s)] [] _ _
  refine dt_aloadn dX11_drift_0 rfl rfl ?_
  refine dt_xV dX11_drift_1 pc_X11_132 rfl s_X11_hasNoPort rfl rfl ⟨by decide, by decide⟩ rfl rfl (Nat.le_of_ble_eq_true rfl) ⟨by decide, by decide⟩ (dt_k3 ?_)
  refine dt_if_eq (tgt := 10) dX11_drift_4 (by decide) (by first | assumption | exact hwf _ _ | exact dt_b32 _ | omega | exact ⟨by omega, by omega⟩ | decide | exact ⟨by simp (disch := omega) only [dt_up_s, dt_up_k, dt_up_n]; omega, by simp (disch := omega) only [dt_up_s, dt_up_k, dt_up_n]; omega⟩) (fun c1 => ?_) (fun c1 => ?_)
  · skip
    simp only [dt_b0, dt_b1, Decidable.not_not, Classical.not_not] at c1
    refine dt_iloadn dX11_drift_10 rfl rfl ?_
    refine dt_iconst dX11_drift_11 ?_
    refine dt_bipush dX11_drift_12 (by decide) ?_
    refine dt_xS dX11_drift_14 pc_X11_70 (s_X11_isWithin (by first | assumption | exact hwf _ _ | exact dt_b32 _ | omega | exact ⟨by omega, by omega⟩ | decide | exact ⟨by simp (disch := omega) only [dt_up_s, dt_up_k, dt_up_n]; omega, by simp (disch := omega) only [dt_up_s, dt_up_k, dt_up_n]; omega⟩) (by first | assumption | exact hwf _ _ | exact dt_b32 _ | omega | exact ⟨by omega, by omega⟩ | decide | exact ⟨by simp (disch := omega) only [dt_up_s, dt_up_k, dt_up_n]; omega, by simp (disch := omega) only [dt_up_s, dt_up_k, dt_up_n]; omega⟩) (by first | assumption | exact hwf _ _ | exact dt_b32 _ | omega | exact ⟨by omega, by omega⟩ | decide | exact ⟨by simp (disch := omega) only [dt_up_s, dt_up_k, dt_up_n]; omega, by simp (disch := omega) only [dt_up_s, dt_up_k, dt_up_n]; omega⟩)) rfl rfl ⟨by decide, by decide⟩ (Nat.le_of_ble_eq_true rfl) ⟨by decide, by decide⟩ (dt_k3 ?_)
    refine dt_if_eq (tgt := 30) dX11_drift_17 (by decide) (by first | assumption | exact hwf _ _ | exact dt_b32 _ | omega | exact ⟨by omega, by omega⟩ | decide | exact ⟨by simp (disch := omega) only [dt_up_s, dt_up_k, dt_up_n]; omega, by simp (disch := omega) only [dt_up_s, dt_up_k, dt_up_n]; omega⟩) (fun c2 => ?_) (fun c2 => ?_)
    · skip
      simp only [dt_b0, dt_b1, Decidable.not_not, Classical.not_not] at c2
      refine dt_ldc dX11_drift_30 pk_X11_74 ?_
      refine dt_iret dX11_drift_32 rfl (by decide) (by decide) ?_
      have e : oDrift A n s = (-1000001, A) := by
        unfold oDrift
        rw [if_neg (fun q => by have := dt_nn.mpr q; omega), if_neg (by omega)]
      rw [e]
      exact ⟨rfl, rfl, hI, fun b _ _ => rfl⟩
    · skip
      simp only [dt_b0, dt_b1, Decidable.not_not, Classical.not_not] at c2
      refine dt_iloadn dX11_drift_20 rfl rfl ?_
      refine dt_iconst dX11_drift_21 ?_
      refine dt_ldc dX11_drift_22 pk_X11_137 ?_
      refine dt_xS dX11_drift_24 pc_X11_70 (s_X11_isWithin (by first | assumption | exact hwf _ _ | exact dt_b32 _ | omega | exact ⟨by omega, by omega⟩ | decide | exact ⟨by simp (disch := omega) only [dt_up_s, dt_up_k, dt_up_n]; omega, by simp (disch := omega) only [dt_up_s, dt_up_k, dt_up_n]; omega⟩) (by first | assumption | exact hwf _ _ | exact dt_b32 _ | omega | exact ⟨by omega, by omega⟩ | decide | exact ⟨by simp (disch := omega) only [dt_up_s, dt_up_k, dt_up_n]; omega, by simp (disch := omega) only [dt_up_s, dt_up_k, dt_up_n]; omega⟩) (by first | assumption | exact hwf _ _ | exact dt_b32 _ | omega | exact ⟨by omega, by omega⟩ | decide | exact ⟨by simp (disch := omega) only [dt_up_s, dt_up_k, dt_up_n]; omega, by simp (disch := omega) only [dt_up_s, dt_up_k, dt_up_n]; omega⟩)) rfl rfl ⟨by decide, by decide⟩ (Nat.le_of_ble_eq_true rfl) ⟨by decide, by decide⟩ (dt_k3 ?_)
      refine dt_if_ne (tgt := 33) dX11_drift_27 (by decide) (by first | assumption | exact hwf _ _ | exact dt_b32 _ | omega | exact ⟨by omega, by omega⟩ | decide | exact ⟨by simp (disch := omega) only [dt_up_s, dt_up_k, dt_up_n]; omega, by simp (disch := omega) only [dt_up_s, dt_up_k, dt_up_n]; omega⟩) (fun c3 => ?_) (fun c3 => ?_)
      · skip
        simp only [dt_b0, dt_b1, Decidable.not_not, Classical.not_not] at c3
        refine dt_aloadn dX11_drift_33 rfl rfl ?_
        refine dt_getR dX11_drift_34 pg_X11_26_11 rfl rfl ?_
        obtain ⟨N, rfl⟩ : ∃ N : Nat, n = N := ⟨n.toNat, by omega⟩
        refine dt_iloadn dX11_drift_37 rfl rfl ?_
        refine dt_iloadn dX11_drift_38 rfl rfl ?_
        refine dt_xV dX11_drift_39 pc_X11_138 rfl (s_X6_passYears dt_p7 hc hok (by omega) (by omega) (by omega) (by omega) (by omega)) rfl rfl ⟨by decide, by decide⟩ rfl rfl (Nat.le_of_ble_eq_true rfl) ⟨by decide, by decide⟩ ?_
        intro v4 sh4 σ4 hq4
        obtain ⟨rfl, hs4, hf4, hX4⟩ := hq4
        obtain rfl := hs4.symm
        refine dt_aloadn dX11_drift_42 rfl rfl ?_
        refine dt_getR dX11_drift_43 pg_X11_26_11 rfl rfl ?_
        refine dt_xV dX11_drift_46 pc_X11_142 rfl (s_X6_years dt_p7) rfl rfl ⟨by decide, by decide⟩ rfl rfl (Nat.le_of_ble_eq_true rfl) ⟨by decide, by decide⟩ (dt_k3 ?_)
        refine dt_iret dX11_drift_49 rfl (by decide) (by decide) ?_
        have e : oDrift A ↑N s = ((((xYears N (sN A) s).2.2 : Nat) : Int), sPt A (xYears N (sN A) s)) := by
          unfold oDrift
          rw [if_neg (fun q => by have := dt_nn.mpr q; omega), if_pos (by omega), Int.toNat_natCast]
        rw [e]
        refine ⟨by rw [hX4.y], rfl, hI.port ⟨hX4, nX_years hok (by omega) N s⟩ (fun b hb => hf4 b (by omega)), fun b _ _ => hf4 b (by omega)⟩
      · skip
        simp only [dt_b0, dt_b1, Decidable.not_not, Classical.not_not] at c3
        refine dt_ldc dX11_drift_30 pk_X11_74 ?_
        refine dt_iret dX11_drift_32 rfl (by decide) (by decide) ?_
        have e : oDrift A n s = (-1000001, A) := by
          unfold oDrift
          rw [if_neg (fun q => by have := dt_nn.mpr q; omega), if_neg (by omega)]
        rw [e]
        exact ⟨rfl, rfl, hI, fun b _ _ => rfl⟩
  · skip
    simp only [dt_b0, dt_b1, Decidable.not_not, Classical.not_not] at c1
    refine dt_ldc dX11_drift_7 pk_X11_136 ?_
    refine dt_iret dX11_drift_9 rfl (by decide) (by decide) ?_
    have e : oDrift A n s = (-1000002, A) := by
      unfold oDrift
      rw [if_pos (dt_nn.mp (by omega))]
    rw [e]
    exact ⟨rfl, rfl, hI, fun b _ _ => rfl⟩
theorem s_X9_bytes {ex : List dt_Shp} {σ : dt_Mem}  : dt_Sp mX9_bytes 0 0 0 [dt_R 5] (dt_SH ++ ex) σ (fun v sh2 σ2 => v = some (dt_I (σ 5 1)) ∧ sh2 = dt_SH ++ ex ∧ σ2 = σ) := by
  refine dt_Sp_of (by decide) (Nat.le_of_ble_eq_true rfl) ?_
  refine dt_wfV fun hwf => ?_
  show dt_V _ _ _ 0 0 0 [some (dt_R 5)] [] _ _
  refine dt_aloadn dX9_bytes_0 rfl rfl ?_
  refine dt_getI dX9_bytes_1 pg_X9_18_9 rfl rfl ?_
  refine dt_iret dX9_bytes_4 rfl (by decide) (by decide) ?_
  exact ⟨rfl, rfl, rfl⟩
theorem s_X11_count {ex : List dt_Shp} {σ : dt_Mem} {A : dS} {w : Int} (hI : cInv ex σ A) (h_w : dt_in32 w) : dt_Sp mX11_count 4 0 0 [dt_R 0, dt_I w] (dt_SH ++ ex) σ (fun v sh2 σ2 => v = some (dt_I (oCount A w).1) ∧ sh2 = dt_SH ++ ex ∧ cEnd ex σ σ2 (oCount A w).2) := by
  refine dt_Sp_of (by decide) (Nat.le_of_ble_eq_true rfl) ?_
  refine dt_wfV fun hwf => ?_
  have hc := hI.2.2.1.1
  have hok := hI.2.2.1.2.1
  have e5 := hc.t
  have e6 := hc.p
  have e7 := hc.1
  show dt_V _ _ _ 0 0 0 [some (dt_R 0), some (dt_I w)] [] _ _
  refine dt_iloadn dX11_count_0 rfl rfl ?_
  by_cases s1 : w = 0
  · refine dt_tblI (off := 39) (tgt := 40) dX11_count_1 (by first | assumption | exact hwf _ _ | exact dt_b32 _ | omega | exact ⟨by omega, by omega⟩ | decide | exact ⟨by simp (disch := omega) only [dt_up_s, dt_up_k, dt_up_n]; omega, by simp (disch := omega) only [dt_up_s, dt_up_k, dt_up_n]; omega⟩) (by omega) (by omega) (by rw [s1]; rfl) (by decide) ?_
    refine dt_aloadn dX11_count_40 rfl rfl ?_
    refine dt_getR dX11_count_41 pg_X11_10_11 rfl rfl ?_
    refine dt_xV dX11_count_44 pc_X11_257 rfl s_X7_many rfl rfl ⟨by decide, by decide⟩ rfl rfl (Nat.le_of_ble_eq_true rfl) ⟨by decide, by decide⟩ (dt_k3 ?_)
    refine dt_iret dX11_count_47 rfl (by decide) (by decide) ?_
    refine ⟨?_, rfl, hI, fun b _ _ => rfl⟩
    unfold oCount
    first
    | (skip; rw [if_pos (by omega), cMany_x hI.1 8 (Nat.le_refl _)])
    | (skip; rw [if_neg (by omega), if_pos (by omega), e5])
    | (skip; rw [if_neg (by omega), if_neg (by omega), if_pos (by omega)])
    | (skip; rw [if_neg (by omega), if_neg (by omega), if_neg (by omega), if_pos (by omega), e6])
    | (skip; rw [if_neg (by omega), if_neg (by omega), if_neg (by omega), if_neg (by omega), if_pos (by omega), hc.y])
    | (skip; rw [if_neg (by omega), if_neg (by omega), if_neg (by omega), if_neg (by omega), if_neg (by omega), if_pos (by omega), hI.2.1.2.2.1])
    | (rw [if_neg (by omega), if_neg (by omega), if_neg (by omega), if_neg (by omega), if_neg (by omega), if_neg (by omega)])
  by_cases s2 : w = 1
  · refine dt_tblI (off := 47) (tgt := 48) dX11_count_1 (by first | assumption | exact hwf _ _ | exact dt_b32 _ | omega | exact ⟨by omega, by omega⟩ | decide | exact ⟨by simp (disch := omega) only [dt_up_s, dt_up_k, dt_up_n]; omega, by simp (disch := omega) only [dt_up_s, dt_up_k, dt_up_n]; omega⟩) (by omega) (by omega) (by rw [s2]; rfl) (by decide) ?_
    refine dt_aloadn dX11_count_48 rfl rfl ?_
    refine dt_getR dX11_count_49 pg_X11_26_11 rfl rfl ?_
    refine dt_xV dX11_count_52 pc_X11_129 rfl (s_X6_tongues dt_p7) rfl rfl ⟨by decide, by decide⟩ rfl rfl (Nat.le_of_ble_eq_true rfl) ⟨by decide, by decide⟩ (dt_k3 ?_)
    refine dt_iret dX11_count_55 rfl (by decide) (by decide) ?_
    refine ⟨?_, rfl, hI, fun b _ _ => rfl⟩
    unfold oCount
    first
    | (skip; rw [if_pos (by omega), cMany_x hI.1 8 (Nat.le_refl _)])
    | (skip; rw [if_neg (by omega), if_pos (by omega), e5])
    | (skip; rw [if_neg (by omega), if_neg (by omega), if_pos (by omega)])
    | (skip; rw [if_neg (by omega), if_neg (by omega), if_neg (by omega), if_pos (by omega), e6])
    | (skip; rw [if_neg (by omega), if_neg (by omega), if_neg (by omega), if_neg (by omega), if_pos (by omega), hc.y])
    | (skip; rw [if_neg (by omega), if_neg (by omega), if_neg (by omega), if_neg (by omega), if_neg (by omega), if_pos (by omega), hI.2.1.2.2.1])
    | (rw [if_neg (by omega), if_neg (by omega), if_neg (by omega), if_neg (by omega), if_neg (by omega), if_neg (by omega)])
  by_cases s3 : w = 2
  · refine dt_tblI (off := 55) (tgt := 56) dX11_count_1 (by first | assumption | exact hwf _ _ | exact dt_b32 _ | omega | exact ⟨by omega, by omega⟩ | decide | exact ⟨by simp (disch := omega) only [dt_up_s, dt_up_k, dt_up_n]; omega, by simp (disch := omega) only [dt_up_s, dt_up_k, dt_up_n]; omega⟩) (by omega) (by omega) (by rw [s3]; rfl) (by decide) ?_
    refine dt_aloadn dX11_count_56 rfl rfl ?_
    refine dt_getR dX11_count_57 pg_X11_26_11 rfl rfl ?_
    refine dt_xV dX11_count_60 pc_X11_260 rfl (s_X6_wordsOfAll dt_p7 hc) rfl rfl ⟨by decide, by decide⟩ rfl rfl (Nat.le_of_ble_eq_true rfl) ⟨by decide, by decide⟩ (dt_k3 ?_)
    refine dt_iret dX11_count_63 rfl (by decide) (by decide) ?_
    refine ⟨?_, rfl, hI, fun b _ _ => rfl⟩
    unfold oCount
    first
    | (skip; rw [if_pos (by omega), cMany_x hI.1 8 (Nat.le_refl _)])
    | (skip; rw [if_neg (by omega), if_pos (by omega), e5])
    | (skip; rw [if_neg (by omega), if_neg (by omega), if_pos (by omega)])
    | (skip; rw [if_neg (by omega), if_neg (by omega), if_neg (by omega), if_pos (by omega), e6])
    | (skip; rw [if_neg (by omega), if_neg (by omega), if_neg (by omega), if_neg (by omega), if_pos (by omega), hc.y])
    | (skip; rw [if_neg (by omega), if_neg (by omega), if_neg (by omega), if_neg (by omega), if_neg (by omega), if_pos (by omega), hI.2.1.2.2.1])
    | (rw [if_neg (by omega), if_neg (by omega), if_neg (by omega), if_neg (by omega), if_neg (by omega), if_neg (by omega)])
  by_cases s4 : w = 3
  · refine dt_tblI (off := 63) (tgt := 64) dX11_count_1 (by first | assumption | exact hwf _ _ | exact dt_b32 _ | omega | exact ⟨by omega, by omega⟩ | decide | exact ⟨by simp (disch := omega) only [dt_up_s, dt_up_k, dt_up_n]; omega, by simp (disch := omega) only [dt_up_s, dt_up_k, dt_up_n]; omega⟩) (by omega) (by omega) (by rw [s4]; rfl) (by decide) ?_
    refine dt_aloadn dX11_count_64 rfl rfl ?_
    refine dt_getR dX11_count_65 pg_X11_26_11 rfl rfl ?_
    refine dt_xV dX11_count_68 pc_X11_263 rfl (s_X6_people dt_p7) rfl rfl ⟨by decide, by decide⟩ rfl rfl (Nat.le_of_ble_eq_true rfl) ⟨by decide, by decide⟩ (dt_k3 ?_)
    refine dt_iret dX11_count_71 rfl (by decide) (by decide) ?_
    refine ⟨?_, rfl, hI, fun b _ _ => rfl⟩
    unfold oCount
    first
    | (skip; rw [if_pos (by omega), cMany_x hI.1 8 (Nat.le_refl _)])
    | (skip; rw [if_neg (by omega), if_pos (by omega), e5])
    | (skip; rw [if_neg (by omega), if_neg (by omega), if_pos (by omega)])
    | (skip; rw [if_neg (by omega), if_neg (by omega), if_neg (by omega), if_pos (by omega), e6])
    | (skip; rw [if_neg (by omega), if_neg (by omega), if_neg (by omega), if_neg (by omega), if_pos (by omega), hc.y])
    | (skip; rw [if_neg (by omega), if_neg (by omega), if_neg (by omega), if_neg (by omega), if_neg (by omega), if_pos (by omega), hI.2.1.2.2.1])
    | (rw [if_neg (by omega), if_neg (by omega), if_neg (by omega), if_neg (by omega), if_neg (by omega), if_neg (by omega)])
  by_cases s5 : w = 4
  · refine dt_tblI (off := 71) (tgt := 72) dX11_count_1 (by first | assumption | exact hwf _ _ | exact dt_b32 _ | omega | exact ⟨by omega, by omega⟩ | decide | exact ⟨by simp (disch := omega) only [dt_up_s, dt_up_k, dt_up_n]; omega, by simp (disch := omega) only [dt_up_s, dt_up_k, dt_up_n]; omega⟩) (by omega) (by omega) (by rw [s5]; rfl) (by decide) ?_
    refine dt_aloadn dX11_count_72 rfl rfl ?_
    refine dt_getR dX11_count_73 pg_X11_26_11 rfl rfl ?_
    refine dt_xV dX11_count_76 pc_X11_142 rfl (s_X6_years dt_p7) rfl rfl ⟨by decide, by decide⟩ rfl rfl (Nat.le_of_ble_eq_true rfl) ⟨by decide, by decide⟩ (dt_k3 ?_)
    refine dt_iret dX11_count_79 rfl (by decide) (by decide) ?_
    refine ⟨?_, rfl, hI, fun b _ _ => rfl⟩
    unfold oCount
    first
    | (skip; rw [if_pos (by omega), cMany_x hI.1 8 (Nat.le_refl _)])
    | (skip; rw [if_neg (by omega), if_pos (by omega), e5])
    | (skip; rw [if_neg (by omega), if_neg (by omega), if_pos (by omega)])
    | (skip; rw [if_neg (by omega), if_neg (by omega), if_neg (by omega), if_pos (by omega), e6])
    | (skip; rw [if_neg (by omega), if_neg (by omega), if_neg (by omega), if_neg (by omega), if_pos (by omega), hc.y])
    | (skip; rw [if_neg (by omega), if_neg (by omega), if_neg (by omega), if_neg (by omega), if_neg (by omega), if_pos (by omega), hI.2.1.2.2.1])
    | (rw [if_neg (by omega), if_neg (by omega), if_neg (by omega), if_neg (by omega), if_neg (by omega), if_neg (by omega)])
  by_cases s6 : w = 5
  · refine dt_tblI (off := 79) (tgt := 80) dX11_count_1 (by first | assumption | exact hwf _ _ | exact dt_b32 _ | omega | exact ⟨by omega, by omega⟩ | decide | exact ⟨by simp (disch := omega) only [dt_up_s, dt_up_k, dt_up_n]; omega, by simp (disch := omega) only [dt_up_s, dt_up_k, dt_up_n]; omega⟩) (by omega) (by omega) (by rw [s6]; rfl) (by decide) ?_
    refine dt_aloadn dX11_count_80 rfl rfl ?_
    refine dt_getR dX11_count_81 pg_X11_19_11 rfl rfl ?_
    refine dt_xV dX11_count_84 pc_X11_265 rfl s_X9_bytes rfl rfl ⟨by decide, by decide⟩ rfl rfl (Nat.le_of_ble_eq_true rfl) ⟨by decide, by decide⟩ (dt_k3 ?_)
    refine dt_iret dX11_count_87 rfl (by decide) (by decide) ?_
    refine ⟨?_, rfl, hI, fun b _ _ => rfl⟩
    unfold oCount
    first
    | (skip; rw [if_pos (by omega), cMany_x hI.1 8 (Nat.le_refl _)])
    | (skip; rw [if_neg (by omega), if_pos (by omega), e5])
    | (skip; rw [if_neg (by omega), if_neg (by omega), if_pos (by omega)])
    | (skip; rw [if_neg (by omega), if_neg (by omega), if_neg (by omega), if_pos (by omega), e6])
    | (skip; rw [if_neg (by omega), if_neg (by omega), if_neg (by omega), if_neg (by omega), if_pos (by omega), hc.y])
    | (skip; rw [if_neg (by omega), if_neg (by omega), if_neg (by omega), if_neg (by omega), if_neg (by omega), if_pos (by omega), hI.2.1.2.2.1])
    | (rw [if_neg (by omega), if_neg (by omega), if_neg (by omega), if_neg (by omega), if_neg (by omega), if_neg (by omega)])
  refine dt_tblO (tgt := 88) dX11_count_1 (by first | assumption | exact hwf _ _ | exact dt_b32 _ | omega | exact ⟨by omega, by omega⟩ | decide | exact ⟨by simp (disch := omega) only [dt_up_s, dt_up_k, dt_up_n]; omega, by simp (disch := omega) only [dt_up_s, dt_up_k, dt_up_n]; omega⟩) (by omega) (by decide) ?_
  refine dt_ldc dX11_count_88 pk_X11_74 ?_
  refine dt_iret dX11_count_90 rfl (by decide) (by decide) ?_
  refine ⟨?_, rfl, hI, fun b _ _ => rfl⟩
  unfold oCount
  first
  | (skip; rw [if_pos (by omega), cMany_x hI.1 8 (Nat.le_refl _)])
  | (skip; rw [if_neg (by omega), if_pos (by omega), e5])
  | (skip; rw [if_neg (by omega), if_neg (by omega), if_pos (by omega)])
  | (skip; rw [if_neg (by omega), if_neg (by omega), if_neg (by omega), if_pos (by omega), e6])
  | (skip; rw [if_neg (by omega), if_neg (by omega), if_neg (by omega), if_neg (by omega), if_pos (by omega), hc.y])
  | (skip; rw [if_neg (by omega), if_neg (by omega), if_neg (by omega), if_neg (by omega), if_neg (by omega), if_pos (by omega), hI.2.1.2.2.1])
  | (rw [if_neg (by omega), if_neg (by omega), if_neg (by omega), if_neg (by omega), if_neg (by omega), if_neg (by omega)])
