
theorem rInv.kp {σ : dt_Mem} {A : dS} (h : rInv σ A) {k : Int} (hk : 0 ≤ k ∧ k ≤ 1) : ((sImK A k).1 ≠ [] → rPort σ 53 (298 * k.toNat) (sImK A k)) ∧ σ 52 k.toNat = dt_b ((sImK A k).1 ≠ []) := by
  rcases (by omega : k = 0 ∨ k = 1) with rfl | rfl
  · exact h.2.2.2.1
  · exact h.2.2.2.2.1
theorem aOk.kp {A : dS} {y : Nat} (h : aOk A y) (k : Int) : dX_ok (sImK A k) ∧ ((sImK A k).1 ≠ [] → (sN A).1 ≠ []) := by
  unfold sImK
  split
  · exact ⟨h.2.1.1, fun g => h.2.2.2 (Or.inl g)⟩
  · exact ⟨h.2.2.1.1, fun g => h.2.2.2 (Or.inr g)⟩
theorem s_X12_restore {ex : List dt_Shp} {σ : dt_Mem} {A : dS} {k : Int} (hI : rInv σ A) (h_k : dt_in32 k) (hO : aOk A 10000) : dt_Sp mX12_restore 1 0 0 [dt_R 40, dt_I k] (dt_SH ++ ex) σ (fun v sh2 σ2 => v = some (dt_I (oRestore A k).1) ∧ sh2 = dt_SH ++ ex ∧ rEnd σ σ2 (oRestore A k).2) := by
  refine dt_Sp_of (by decide) (Nat.le_of_ble_eq_true rfl) ?_
  refine dt_wfV fun hwf => ?_
  show dt_V _ _ _ 0 0 0 [some (dt_R 40), some (dt_I k), none] [] _ _
  refine dt_aloadn dX12_restore_0 rfl rfl ?_
  refine dt_iconst dX12_restore_1 ?_
  refine dt_wfV fun hwf => ?_
  refine dt_putI dX12_restore_2 pw_X12_53_12 rfl rfl (by first | assumption | exact hwf _ _ | exact dt_b32 _ | omega | exact ⟨by omega, by omega⟩ | decide | exact ⟨by simp (disch := omega) only [dt_up_s, dt_up_k, dt_up_n]; omega, by simp (disch := omega) only [dt_up_s, dt_up_k, dt_up_n]; omega⟩) ?_
  obtain ⟨σa, ea⟩ : ∃ z, z = dt_up σ 40 0 0 := ⟨_, rfl⟩
  rw [← ea]
  have hA := hI.up40 0 0 (by decide)
  rw [← ea] at hA
  have fa : ∀ b, (b < 40 ∨ 55 ≤ b) → σa b = σ b := fun b hb => by rw [ea]; exact dt_up_o (by omega)
  clear ea
  refine dt_wfV fun hwf => ?_
  have hX := hA.X hO.1.1
  have e0 := hX.t
  have e1 := hX.p
  have e2 := hX.2.1
  have e3 := hX.2.2.2.1
  have e7 := hA.2.2.1.2
  have ey := hO.1.2.2
  refine dt_iloadn dX12_restore_5 rfl rfl ?_
  refine dt_ui2l dX12_restore_6 (by first | assumption | exact hwf _ _ | exact dt_b32 _ | omega | exact ⟨by omega, by omega⟩ | decide | exact ⟨by simp (disch := omega) only [dt_up_s, dt_up_k, dt_up_n]; omega, by simp (disch := omega) only [dt_up_s, dt_up_k, dt_up_n]; omega⟩) ?_
  refine dt_lconst (x := 0) dX12_restore_7 (by decide) ?_
  refine dt_lconst (x := 1) dX12_restore_8 (by decide) ?_
  refine dt_xS dX12_restore_9 pc_X12_63 (s_X12_in (by first | exact ⟨by omega, by omega⟩ | decide) (by first | exact ⟨by omega, by omega⟩ | decide) (by first | exact ⟨by omega, by omega⟩ | decide)) rfl rfl ⟨by decide, by decide⟩ (Nat.le_of_ble_eq_true rfl) ⟨by decide, by decide⟩ (dt_k3 ?_)
  refine dt_if_ne (tgt := 18) dX12_restore_12 (by decide) (by first | assumption | exact hwf _ _ | exact dt_b32 _ | omega | exact ⟨by omega, by omega⟩ | decide | exact ⟨by simp (disch := omega) only [dt_up_s, dt_up_k, dt_up_n]; omega, by simp (disch := omega) only [dt_up_s, dt_up_k, dt_up_n]; omega⟩) (fun c1 => ?_) (fun c1 => ?_)
  · skip
    try simp only [dt_b0, dt_b1, Decidable.not_not, Classical.not_not] at c1
    have hwfa := hwf
    obtain ⟨p1, p2⟩ := hA.kp (by assumption)
    obtain ⟨o1, o2⟩ := hO.kp k
    have ek : ((298 : Int) * k).toNat = 298 * k.toNat := by omega
    refine dt_aloadn dX12_restore_18 rfl rfl ?_
    refine dt_getR dX12_restore_19 pg_X12_44_12 rfl rfl ?_
    refine dt_iloadn dX12_restore_22 rfl rfl ?_
    refine dt_zald dX12_restore_23 rfl (by first | omega | (simp (disch := omega) only [dt_up_s, dt_up_k, dt_up_n]; omega)) (by first | omega | (simp (disch := omega) only [dt_up_s, dt_up_k, dt_up_n]; omega)) (by decide) ?_
    refine dt_if_ne (tgt := 30) dX12_restore_24 (by decide) (hwf _ _) (fun c2 => ?_) (fun c2 => ?_)
    · skip
      rw [p2] at c2
      have hn : (sImK A k).1 ≠ [] := by simpa [dt_b0] using c2
      refine dt_iconst dX12_restore_30 ?_
      refine dt_istoren dX12_restore_31 rfl (by decide) rfl ?_
      dsimp only [List.set]
      have lp32 : ∀ (fu : Nat) (i : Nat), 298 - (i : Int) < (fu : Int) → (i ≤ 298) →  dt_V mX12_restore (dt_rm 1 0 0) (dt_MC (fun v sh2 σ2 => v = some (dt_I (oRestore A k).1) ∧ sh2 = dt_SH ++ ex ∧ rEnd σ σ2 (oRestore A k).2) 0 0) 0 0 32 [some (dt_R 40), some (dt_I k), some (dt_I (i : Int))] [] (dt_SH ++ ex) (dt_fil σa 44 0 i (fun j => σa 53 (298 * k.toNat + j))) := by
        intro fu
        induction fu with
        | zero =>
          intro i hm hi
          exfalso
          omega
        | succ fu ih =>
          intro i hm hi
          refine dt_wfV fun hwf => ?_
          refine dt_iloadn dX12_restore_32 rfl rfl ?_
          refine dt_sipush dX12_restore_33 (by decide) ?_
          refine dt_cm_ge (tgt := 63) dX12_restore_36 (by decide) (by first | assumption | exact hwf _ _ | exact dt_b32 _ | omega | exact ⟨by omega, by omega⟩ | decide | exact ⟨by simp (disch := omega) only [dt_up_s, dt_up_k, dt_up_n]; omega, by simp (disch := omega) only [dt_up_s, dt_up_k, dt_up_n]; omega⟩) (by first | assumption | exact hwf _ _ | exact dt_b32 _ | omega | exact ⟨by omega, by omega⟩ | decide | exact ⟨by simp (disch := omega) only [dt_up_s, dt_up_k, dt_up_n]; omega, by simp (disch := omega) only [dt_up_s, dt_up_k, dt_up_n]; omega⟩) (fun c3 => ?_) (fun c3 => ?_)
          · skip
            refine dt_iconst dX12_restore_63 ?_
            refine dt_iret dX12_restore_64 rfl (by decide) (by decide) ?_
            have e : oRestore A k = (1, sPt A (sImK A k)) := by
              unfold oRestore
              rw [if_pos (by omega), if_neg hn]
            rw [e]
            refine ⟨rfl, rfl, hA.port ((p1 hn).copy (a2 := 44) (o2 := 0) o1 (fun j hj => ?_)) ⟨fun _ => hn, fun _ => o2 hn⟩ (fun q _ => by rw [dt_fil_o (by decide)]) (fun b h1 h2 h3 => dt_fil_o h3), fun b hb => (dt_fil_o (by omega)).trans (fa b hb)⟩
            rw [dt_fil_in (by omega) (by omega), Nat.zero_add]
          · skip
            refine dt_aloadn dX12_restore_39 rfl rfl ?_
            refine dt_getR dX12_restore_40 pg_X12_19_12 rfl rfl ?_
            refine dt_iloadn dX12_restore_43 rfl rfl ?_
            refine dt_aloadn dX12_restore_44 rfl rfl ?_
            refine dt_getR dX12_restore_45 pg_X12_47_12 rfl rfl ?_
            refine dt_sipush dX12_restore_48 (by decide) ?_
            refine dt_iloadn dX12_restore_51 rfl rfl ?_
            refine dt_imul dX12_restore_52 ?_
            refine dt_iloadn dX12_restore_53 rfl rfl ?_
            refine dt_iadd dX12_restore_54 ?_
            refine dt_iald dX12_restore_55 rfl (by first | omega | (simp (disch := omega) only [dt_up_s, dt_up_k, dt_up_n]; omega)) (by first | omega | (simp (disch := omega) only [dt_up_s, dt_up_k, dt_up_n]; omega)) (by decide) ?_
            rw [dt_fil_o (by decide), show ((298 : Int) * k + (i : Int)).toNat = 298 * k.toNat + i by omega]
            refine dt_wfV fun hwf => ?_
            refine dt_iast dX12_restore_56 rfl (by first | omega | (simp (disch := omega) only [dt_up_s, dt_up_k, dt_up_n]; omega)) (by first | omega | (simp (disch := omega) only [dt_up_s, dt_up_k, dt_up_n]; omega)) (by decide) (by have z := hwfa 53 (298 * k.toNat + i); exact z) ?_
            have z := dt_fil_s σa 44 0 i (fun j => σa 53 (298 * k.toNat + j))
            rw [Nat.zero_add] at z
            rw [Int.toNat_natCast, z]
            refine dt_iinc dX12_restore_57 rfl (by decide) rfl ?_
            dsimp only [List.set]
            refine dt_goto (tgt := 32) dX12_restore_60 (by decide) ?_
            exact dt_lb (ih (i + 1) (by omega) (by omega)) ⟨rfl, rfl, rfl, trivial⟩
      have h := lp32 300 0 (by omega) (by omega)
      rw [dt_fil_0] at h
      exact dt_lb (h) ⟨rfl, rfl, rfl, trivial⟩
    · skip
      rw [p2] at c2
      have hn : (sImK A k).1 = [] := by simpa [dt_b0] using c2
      refine dt_ldc dX12_restore_27 pk_X12_204 ?_
      refine dt_iret dX12_restore_29 rfl (by decide) (by decide) ?_
      have e : oRestore A k = (-1000002, A) := by
        unfold oRestore
        rw [if_pos (by omega), if_pos hn]
      rw [e]
      exact ⟨rfl, rfl, hA, fa⟩
  · skip
    try simp only [dt_b0, dt_b1, Decidable.not_not, Classical.not_not] at c1
    refine dt_ldc dX12_restore_15 pk_X12_73 ?_
    refine dt_iret dX12_restore_17 rfl (by decide) (by decide) ?_
    have e : oRestore A k = (-1000001, A) := by
      unfold oRestore
      rw [if_neg (by omega)]
    rw [e]
    exact ⟨rfl, rfl, hA, fa⟩
theorem rInv.im {σ σ' : dt_Mem} {A : dS} {k : Int} (h : rInv σ A) (ok : aOk A 10000) (hk : 0 ≤ k ∧ k ≤ 1) (hn : (sN A).1 ≠ []) (e53 : ∀ j, j < 298 → σ' 53 (298 * k.toNat + j) = σ 44 j) (e53k : ∀ j, (j < 298 * k.toNat ∨ 298 * k.toNat + 298 ≤ j) → σ' 53 j = σ 53 j) (e52 : σ' 52 k.toNat = 1) (e52k : ∀ j, j ≠ k.toNat → σ' 52 j = σ 52 j) (e : ∀ b, 40 ≤ b → b < 55 → b ≠ 52 → b ≠ 53 → σ' b = σ b) : rInv σ' (sIm A (if k = 0 then (sN A, (sI A).2) else ((sI A).1, sN A))) := by
  obtain ⟨h1, h2, h3, h4, h5, h6, h7, h8⟩ := h
  have e40 := e 40 (by decide) (by decide) (by decide) (by decide)
  have new : rPort σ' 53 (298 * k.toNat) (sN A) := h3.1.copy ok.1.1 (fun j hj => by rw [e53 j hj, Nat.zero_add])
  have t : (1 : Int) = dt_b ((sN A).1 ≠ []) := (dt_bT hn).symm
  have one : rRows σ' (sR A) := h1.kept (e 41 (by decide) (by decide) (by decide) (by decide)) (e 42 (by decide) (by decide) (by decide) (by decide)) (e 43 (by decide) (by decide) (by decide) (by decide))
  have two : rTape σ' (sT A) := ⟨by rw [e40]; exact h2.1, by rw [e 46 (by decide) (by decide) (by decide) (by decide)]; exact h2.2⟩
  have three : rPort σ' 44 0 (sN A) ∧ σ' 40 7 = dt_b ((sN A).1 ≠ []) := ⟨h3.1.kept (e 44 (by decide) (by decide) (by decide) (by decide)), by rw [e40]; exact h3.2⟩
  have eight : rTrace σ' (sC A) := ⟨by rw [e40]; exact h8.1, h8.2.1, by rw [e 54 (by decide) (by decide) (by decide) (by decide)]; exact h8.2.2⟩
  rcases (by omega : k = 0 ∨ k = 1) with rfl | rfl
  · rw [if_pos rfl]
    refine ⟨one, two, three, ⟨fun _ => new, e52.trans t⟩, ⟨fun g => (h5.1 g).copy ok.2.2.1.1 (fun j hj => e53k _ (by simp)), ?_⟩, by rw [e40]; exact h6, by rw [e40]; exact h7, eight⟩
    rw [e52k 1 (by decide)]
    exact h5.2
  · rw [if_neg (by decide)]
    refine ⟨one, two, three, ⟨fun g => (h4.1 g).copy ok.2.1.1 (fun j hj => e53k _ (by simp; omega)), ?_⟩, ⟨fun _ => new, e52.trans t⟩, by rw [e40]; exact h6, by rw [e40]; exact h7, eight⟩
    rw [e52k 0 (by decide)]
    exact h4.2
theorem s_X12_image {ex : List dt_Shp} {σ : dt_Mem} {A : dS} {k : Int} (hI : rInv σ A) (h_k : dt_in32 k) (hO : aOk A 10000) : dt_Sp mX12_image 1 0 0 [dt_R 40, dt_I k] (dt_SH ++ ex) σ (fun v sh2 σ2 => v = some (dt_I (oImage A k).1) ∧ sh2 = dt_SH ++ ex ∧ rEnd σ σ2 (oImage A k).2) := by
  refine dt_Sp_of (by decide) (Nat.le_of_ble_eq_true rfl) ?_
  refine dt_wfV fun hwf => ?_
  show dt_V _ _ _ 0 0 0 [some (dt_R 40), some (dt_I k), none] [] _ _
  refine dt_aloadn dX12_image_0 rfl rfl ?_
  refine dt_iconst dX12_image_1 ?_
  refine dt_wfV fun hwf => ?_
  refine dt_putI dX12_image_2 pw_X12_53_12 rfl rfl (by first | assumption | exact hwf _ _ | exact dt_b32 _ | omega | exact ⟨by omega, by omega⟩ | decide | exact ⟨by simp (disch := omega) only [dt_up_s, dt_up_k, dt_up_n]; omega, by simp (disch := omega) only [dt_up_s, dt_up_k, dt_up_n]; omega⟩) ?_
  obtain ⟨σa, ea⟩ : ∃ z, z = dt_up σ 40 0 0 := ⟨_, rfl⟩
  rw [← ea]
  have hA := hI.up40 0 0 (by decide)
  rw [← ea] at hA
  have fa : ∀ b, (b < 40 ∨ 55 ≤ b) → σa b = σ b := fun b hb => by rw [ea]; exact dt_up_o (by omega)
  clear ea
  refine dt_wfV fun hwf => ?_
  have hX := hA.X hO.1.1
  have e0 := hX.t
  have e1 := hX.p
  have e2 := hX.2.1
  have e3 := hX.2.2.2.1
  have e7 := hA.2.2.1.2
  have ey := hO.1.2.2
  refine dt_iloadn dX12_image_5 rfl rfl ?_
  refine dt_ui2l dX12_image_6 (by first | assumption | exact hwf _ _ | exact dt_b32 _ | omega | exact ⟨by omega, by omega⟩ | decide | exact ⟨by simp (disch := omega) only [dt_up_s, dt_up_k, dt_up_n]; omega, by simp (disch := omega) only [dt_up_s, dt_up_k, dt_up_n]; omega⟩) ?_
  refine dt_lconst (x := 0) dX12_image_7 (by decide) ?_
  refine dt_lconst (x := 1) dX12_image_8 (by decide) ?_
  refine dt_xS dX12_image_9 pc_X12_63 (s_X12_in (by first | exact ⟨by omega, by omega⟩ | decide) (by first | exact ⟨by omega, by omega⟩ | decide) (by first | exact ⟨by omega, by omega⟩ | decide)) rfl rfl ⟨by decide, by decide⟩ (Nat.le_of_ble_eq_true rfl) ⟨by decide, by decide⟩ (dt_k3 ?_)
  refine dt_if_ne (tgt := 18) dX12_image_12 (by decide) (by first | assumption | exact hwf _ _ | exact dt_b32 _ | omega | exact ⟨by omega, by omega⟩ | decide | exact ⟨by simp (disch := omega) only [dt_up_s, dt_up_k, dt_up_n]; omega, by simp (disch := omega) only [dt_up_s, dt_up_k, dt_up_n]; omega⟩) (fun c1 => ?_) (fun c1 => ?_)
  · skip
    try simp only [dt_b0, dt_b1, Decidable.not_not, Classical.not_not] at c1
    have hwfa := hwf
    have ek : ((298 : Int) * k).toNat = 298 * k.toNat := by omega
    refine dt_aloadn dX12_image_18 rfl rfl ?_
    refine dt_getI dX12_image_19 pg_X12_179_12 rfl rfl ?_
    refine dt_if_ne (tgt := 28) dX12_image_22 (by decide) (by first | assumption | exact hwf _ _ | exact dt_b32 _ | omega | exact ⟨by omega, by omega⟩ | decide | exact ⟨by simp (disch := omega) only [dt_up_s, dt_up_k, dt_up_n]; omega, by simp (disch := omega) only [dt_up_s, dt_up_k, dt_up_n]; omega⟩) (fun c2 => ?_) (fun c2 => ?_)
    · skip
      rw [e7] at c2
      have hn : ¬ (sN A).1 = [] := by simpa [dt_b0] using c2
      have hn0 : 0 < (sN A).1.length := Nat.pos_of_ne_zero (fun q => hn (dt_nn.mp q))
      refine dt_iconst dX12_image_28 ?_
      refine dt_istoren dX12_image_29 rfl (by decide) rfl ?_
      dsimp only [List.set]
      have lp30 : ∀ (fu : Nat) (i : Nat), 298 - (i : Int) < (fu : Int) → (i ≤ 298) →  dt_V mX12_image (dt_rm 1 0 0) (dt_MC (fun v sh2 σ2 => v = some (dt_I (oImage A k).1) ∧ sh2 = dt_SH ++ ex ∧ rEnd σ σ2 (oImage A k).2) 0 0) 0 0 30 [some (dt_R 40), some (dt_I k), some (dt_I (i : Int))] [] (dt_SH ++ ex) (dt_fil σa 53 (298 * k.toNat) i (fun j => σa 44 (j - 298 * k.toNat))) := by
        intro fu
        induction fu with
        | zero =>
          intro i hm hi
          exfalso
          omega
        | succ fu ih =>
          intro i hm hi
          refine dt_wfV fun hwf => ?_
          refine dt_iloadn dX12_image_30 rfl rfl ?_
          refine dt_sipush dX12_image_31 (by decide) ?_
          refine dt_cm_ge (tgt := 61) dX12_image_34 (by decide) (by first | assumption | exact hwf _ _ | exact dt_b32 _ | omega | exact ⟨by omega, by omega⟩ | decide | exact ⟨by simp (disch := omega) only [dt_up_s, dt_up_k, dt_up_n]; omega, by simp (disch := omega) only [dt_up_s, dt_up_k, dt_up_n]; omega⟩) (by first | assumption | exact hwf _ _ | exact dt_b32 _ | omega | exact ⟨by omega, by omega⟩ | decide | exact ⟨by simp (disch := omega) only [dt_up_s, dt_up_k, dt_up_n]; omega, by simp (disch := omega) only [dt_up_s, dt_up_k, dt_up_n]; omega⟩) (fun c3 => ?_) (fun c3 => ?_)
          · skip
            refine dt_aloadn dX12_image_61 rfl rfl ?_
            refine dt_getR dX12_image_62 pg_X12_44_12 rfl rfl ?_
            refine dt_iloadn dX12_image_65 rfl rfl ?_
            refine dt_iconst dX12_image_66 ?_
            refine dt_zast dX12_image_67 rfl (by first | omega | (simp (disch := omega) only [dt_up_s, dt_up_k, dt_up_n]; omega)) (by first | omega | (simp (disch := omega) only [dt_up_s, dt_up_k, dt_up_n]; omega)) (by decide) (by first | exact Or.inl rfl | exact Or.inr rfl | assumption | omega) ?_
            refine dt_iconst dX12_image_68 ?_
            refine dt_iret dX12_image_69 rfl (by decide) (by decide) ?_
            have e : oImage A k = (1, sIm A (if k = 0 then (sN A, (sI A).2) else ((sI A).1, sN A))) := by
              unfold oImage
              rw [if_pos (by omega), if_neg hn]
            rw [e]
            refine ⟨rfl, rfl, hA.im hO (by omega) hn (fun j hj => ?_) (fun j hj => ?_) dt_up_s (fun j hj => ?_) (fun b h1 h2 h3 h4 => ?_), fun b hb => ?_⟩
            · rw [dt_up_n (by decide), dt_fil_in (by omega) (by omega), show 298 * k.toNat + j - 298 * k.toNat = j by omega]
            · rw [dt_up_n (by decide), dt_fil_out (by omega)]
            · rw [dt_up_k hj, dt_fil_o (by decide)]
            · rw [dt_up_o h3, dt_fil_o h4]
            · rw [dt_up_o (by omega), dt_fil_o (by omega)]; exact fa b hb
          · skip
            refine dt_aloadn dX12_image_37 rfl rfl ?_
            refine dt_getR dX12_image_38 pg_X12_47_12 rfl rfl ?_
            refine dt_sipush dX12_image_41 (by decide) ?_
            refine dt_iloadn dX12_image_44 rfl rfl ?_
            refine dt_imul dX12_image_45 ?_
            refine dt_iloadn dX12_image_46 rfl rfl ?_
            refine dt_iadd dX12_image_47 ?_
            refine dt_aloadn dX12_image_48 rfl rfl ?_
            refine dt_getR dX12_image_49 pg_X12_19_12 rfl rfl ?_
            refine dt_iloadn dX12_image_52 rfl rfl ?_
            refine dt_iald dX12_image_53 rfl (by first | omega | (simp (disch := omega) only [dt_up_s, dt_up_k, dt_up_n]; omega)) (by first | omega | (simp (disch := omega) only [dt_up_s, dt_up_k, dt_up_n]; omega)) (by decide) ?_
            rw [dt_fil_o (by decide), Int.toNat_natCast]
            refine dt_wfV fun hwf => ?_
            refine dt_iast dX12_image_54 rfl (by first | omega | (simp (disch := omega) only [dt_up_s, dt_up_k, dt_up_n]; omega)) (by first | omega | (simp (disch := omega) only [dt_up_s, dt_up_k, dt_up_n]; omega)) (by decide) (hwfa _ _) ?_
            rw [show ((298 : Int) * k + (i : Int)).toNat = 298 * k.toNat + i by omega]
            have z := dt_fil_s σa 53 (298 * k.toNat) i (fun j => σa 44 (j - 298 * k.toNat))
            rw [show 298 * k.toNat + i - 298 * k.toNat = i by omega] at z
            rw [z]
            refine dt_iinc dX12_image_55 rfl (by decide) rfl ?_
            dsimp only [List.set]
            refine dt_goto (tgt := 30) dX12_image_58 (by decide) ?_
            exact dt_lb (ih (i + 1) (by omega) (by omega)) ⟨rfl, rfl, rfl, trivial⟩
      have h := lp30 300 0 (by omega) (by omega)
      rw [dt_fil_0] at h
      exact dt_lb (h) ⟨rfl, rfl, rfl, trivial⟩
    · skip
      rw [e7] at c2
      have hn : (sN A).1 = [] := by simpa [dt_b0] using c2
      refine dt_ldc dX12_image_25 pk_X12_204 ?_
      refine dt_iret dX12_image_27 rfl (by decide) (by decide) ?_
      have e : oImage A k = (-1000002, A) := by
        unfold oImage
        rw [if_pos (by omega), if_pos hn]
      rw [e]
      exact ⟨rfl, rfl, hA, fa⟩
  · skip
    try simp only [dt_b0, dt_b1, Decidable.not_not, Classical.not_not] at c1
    refine dt_ldc dX12_image_15 pk_X12_73 ?_
    refine dt_iret dX12_image_17 rfl (by decide) (by decide) ?_
    have e : oImage A k = (-1000001, A) := by
      unfold oImage
      rw [if_neg (by omega)]
    rw [e]
    exact ⟨rfl, rfl, hA, fa⟩
