
theorem rInv.kp {σ : dt_Mem} {A : dS} (h : rInv σ A) {k : Int} (hk : 0 ≤ k ∧ k ≤ 1) : ((sImK A k).1 ≠ [] → rPort σ 53 (298 * k.toNat) (sImK A k)) ∧ σ 52 k.toNat = dt_b ((sImK A k).1 ≠ []) := by
  rcases (by omega : k = 0 ∨ k = 1) with rfl | rfl
  · exact h.2.2.2.1
  · exact h.2.2.2.2.1
theorem aOk.kp {A : dS} {y : Nat} (h : aOk A y) (k : Int) : dX_ok (sImK A k) ∧ ((sImK A k).1 ≠ [] → (sN A).1 ≠ []) := by
  unfold sImK
  split
  · exact ⟨h.2.1.1, fun g => h.2.2.2 (Or.inl g)⟩
  · exact ⟨h.2.2.1.1, fun g => h.2.2.2 (Or.inr g)⟩
theorem s_X12_restore {ex : List dt_Shp} {σ : dt_Mem} {A : dS} {k : Int} (hI : rInv σ A) (h_k : dt_in32 k) (hO : aOk A 10000) : dt_Sp mX12_restore 1 0 0 [dt_R 40, dt_I k] (dt_SH ++ ex) σ (fun v sh2 σ2 => v = some (dt_I (oRestore A k).1) ∧ sh2 = dt_SH ++ ex ∧ rEnd σ σ2 (oRestore A k).2) := by
  refine dt_Sp_of (by decide) (Nat.le_of_ble_eq_true rfl) ?_
  refine dt_wfV fun hwf => ?_
  show dt_V _ _ _ 0 0 0 [some (dt_R 40), some (dt_I k), none] [] _ _
  refine dt_aloadn dX12_restore_0 rfl rfl ?_
  refine dt_iconst dX12_restore_1 ?_
  refine dt_wfV fun hwf => ?_
  refine dt_putI dX12_restore_2 pw_X12_53_12 rfl rfl (by first | assumption | exact hwf _ _ | exact dt_b32 _ | omega | exact ⟨by omega, by omega⟩ | decide | exact ⟨by simp (disch := omega) only [dt_up_s, dt_up_k, dt_up_n]; omega, by simp (disch := omega) only [dt_up_s, dt_up_k, dt_up_n]; omega⟩) ?_
  obtain ⟨σa, ea⟩ : ∃ z, z = dt_up σ 40 0 0 := ⟨_, rfl⟩
  rw [← ea]
  have hA := hI.up40 0 0 (by decide)
  rw [← ea] at hA
  have fa : ∀ b, (b < 40 ∨ 55 ≤ b) → σa b = σ b := fun b hb => by rw [ea]; exact dt_up_o (by omega)
  clear ea
  refine dt_wfV fun hwf => ?_
  have hX := hA.X hO.1.1
  have e0 := hX.t
  have e1 := hX.p
  have e2 := hX.2.1
  have e3 := hX.2.2.2.1
  have e7 := hA.2.2.1.2
  have ey := hO.1.2.2
  refine dt_iloadn dX12_restore_5 rfl rfl ?_
  refine dt_ui2l dX12_restore_6 (by first | assumption | exact hwf _ _ | exact dt_b32 _ | omega | exact ⟨by omega, by omega⟩ | decide | exact ⟨by simp (disch := omega) only [dt_up_s, dt_up_k, dt_up_n]; omega, by simp (disch := omega) only [dt_up_s, dt_up_k, dt_up_n]; omega⟩) ?_
  refine dt_lconst (x := 0) dX12_restore_7 (by decide) ?_
  refine dt_lconst (x := 1) dX12_restore_8 (by decide) ?_
  refine dt_xS dX12_restore_9 pc_X12_63 (s_X12_in (by first | exact ⟨by omega, by omega⟩ | decide) (by first | exact ⟨by omega, by omega⟩ | decide) (by first | exact ⟨by omega, by omega⟩ | decide)) rfl rfl ⟨by decide, by decide⟩ (Nat.le_of_ble_eq_true rfl) ⟨by decide, by decide⟩ (dt_k3 ?_)
  refine dt_if_ne (tgt := 18) dX12_restore_12 (by decide) (by first | assumption | exact hwf _ _ | exact dt_b32 _ | omega | exact ⟨by omega, by omega⟩ | decide | exact ⟨by simp (disch := omega) only [dt_up_s, dt_up_k, dt_up_n]; omega, by simp (disch := omega) only [dt_up_s, dt_up_k, dt_up_n]; omega⟩) (fun c1 => ?_) (fun c1 => ?_)
  · skip
    try simp only [dt_b0, dt_b1, Decidable.not_not, Classical.not_not] at c1
    have hwfa := hwf
    obtain ⟨p1, p2⟩ := hA.kp (by assumption)
    obtain ⟨o1, o2⟩ := hO.kp k
    have ek : ((298 : Int) * k).toNat = 298 * k.toNat := by omega
    refine dt_aloadn dX12_restore_18 rfl rfl ?_
    refine dt_getR dX12_restore_19 pg_X12_44_12 rfl rfl ?_
    refine dt_iloadn dX12_restore_22 rfl rfl ?_
    refine dt_zald dX12_restore_23 rfl (by first | omega | (simp (disch := omega) only [dt_up_s, dt_up_k, dt_up_n]; omega)) (by first | omega | (simp (disch := omega) only [dt_up_s, dt_up_k, dt_up_n]; omega)) (by decide) ?_
    refine dt_if_ne (tgt := 30) dX12_restore_24 (by decide) (hwf _ _) (fun c2 => ?_) (fun c2 => ?_)
    · skip
      rw [p2] at c2
      have hn : (sImK A k).1 ≠ [] := by simpa [dt_b0] using c2
      refine dt_iconst dX12_restore_30 ?_
      refine dt_istoren dX12_restore_31 rfl (by decide) rfl ?_
      dsimp only [List.set]
      have lp32 : ∀ (fu : Nat) (i : Nat), 298 - (i : Int) < (fu : Int) → (i ≤ 298) →  dt_V mX12_restore (dt_rm 1 0 0) (dt_MC (fun v sh2 σ2 => v = some (dt_I (oRestore A k).1) ∧ sh2 = dt_SH ++ ex ∧ rEnd σ σ2 (oRestore A k).2) 0 0) 0 0 32 [some (dt_R 40), some (dt_I k), some (dt_I (i : Int))] [] (dt_SH ++ ex) (dt_fil σa 44 0 i (fun j => σa 53 (298 * k.toNat + j))) := by
        intro fu
        induction fu with
        | zero =>
          intro i hm hi
          exfalso
          omega
        | succ fu ih =>
          intro i hm hi
          refine dt_wfV fun hwf => ?_
          refine dt_iloadn dX12_restore_32 rfl rfl ?_
          refine dt_sipush dX12_restore_33 (by decide) ?_
          refine dt_cm_ge (tgt := 63) dX12_restore_36 (by decide) (by first | assumption | exact hwf _ _ | exact dt_b32 _ | omega | exact ⟨by omega, by omega⟩ | decide | exact ⟨by simp (disch := omega) only [dt_up_s, dt_up_k, dt_up_n]; omega, by simp (disch := omega) only [dt_up_s, dt_up_k, dt_up_n]; omega⟩) (by first | assumption | exact hwf _ _ | exact dt_b32 _ | omega | exact ⟨by omega, by omega⟩ | decide | exact ⟨by simp (disch := omega) only [dt_up_s, dt_up_k, dt_up_n]; omega, by simp (disch := omega) only [dt_up_s, dt_up_k, dt_up_n]; omega⟩) (fun c3 => ?_) (fun c3 => ?_)
          · skip
            refine dt_iconst dX12_restore_63 ?_
            refine dt_iret dX12_restore_64 rfl (by decide) (by decide) ?_
            have e : oRestore A k = (1, sPt A (sImK A k)) := by
              unfold oRestore
              rw [if_pos (by omega), if_neg hn]
            rw [e]
            refine ⟨rfl, rfl, hA.port ((p1 hn).copy (a2 := 44) (o2 := 0) o1 (fun j hj => ?_)) ⟨fun _ => hn, fun _ => o2 hn⟩ (fun q _ => by rw [dt_fil_o (by decide)]) (fun b h1 h2 h3 => dt_fil_o h3), fun b hb => (dt_fil_o (by omega)).trans (fa b hb)⟩
            rw [dt_fil_in (by omega) (by omega), Nat.zero_add]
          · skip
            refine dt_aloadn dX12_restore_39 rfl rfl ?_
            refine dt_getR dX12_restore_40 pg_X12_19_12 rfl rfl ?_
            refine dt_iloadn dX12_restore_43 rfl rfl ?_
            refine dt_aloadn dX12_restore_44 rfl rfl ?_
            refine dt_getR dX12_restore_45 pg_X12_47_12 rfl rfl ?_
            refine dt_sipush dX12_restore_48 (by decide) ?_
            refine dt_iloadn dX12_restore_51 rfl rfl ?_
            refine dt_imul dX12_restore_52 ?_
            refine dt_iloadn dX12_restore_53 rfl rfl ?_
            refine dt_iadd dX12_restore_54 ?_
            refine dt_iald dX12_restore_55 rfl (by first | omega | (simp (disch := omega) only [dt_up_s, dt_up_k, dt_up_n]; omega)) (by first | omega | (simp (disch := omega) only [dt_up_s, dt_up_k, dt_up_n]; omega)) (by decide) ?_
            rw [dt_fil_o (by decide), show ((298 : Int) * k + (i : Int)).toNat = 298 * k.toNat + i by omega]
            refine dt_wfV fun hwf => ?_
            refine dt_iast dX12_restore_56 rfl (by first | omega | (simp (disch := omega) only [dt_up_s, dt_up_k, dt_up_n]; omega)) (by first | omega | (simp (disch := omega) only [dt_up_s, dt_up_k, dt_up_n]; omega)) (by decide) (by have z := hwfa 53 (298 * k.toNat + i); exact z) ?_
            have z := dt_fil_s σa 44 0 i (fun j => σa 53 (298 * k.toNat + j))
            rw [Nat.zero_add] at z
            rw [Int.toNat_natCast, z]
            refine dt_iinc dX12_restore_57 rfl (by decide) rfl ?_
            dsimp only [List.set]
            refine dt_goto (tgt := 32) dX12_restore_60 (by decide) ?_
            exact dt_lb (ih (i + 1) (by omega) (by omega)) ⟨rfl, rfl, rfl, trivial⟩
      have h := lp32 300 0 (by omega) (by omega)
      rw [dt_fil_0] at h
      exact dt_lb (h) ⟨rfl, rfl, rfl, trivial⟩
    · skip
      rw [p2] at c2
      have hn : (sImK A k).1 = [] := by simpa [dt_b0] using c2
      refine dt_ldc dX12_restore_27 pk_X12_204 ?_
      refine dt_iret dX12_restore_29 rfl (by decide) (by decide) ?_
      have e : oRestore A k = (-1000002, A) := by
        unfold oRestore
        rw [if_pos (by omega), if_pos hn]
      rw [e]
      exact ⟨rfl, rfl, hA, fa⟩
  · skip
    try simp only [dt_b0, dt_b1, Decidable.not_not, Classical.not_not] at c1
    refine dt_ldc dX12_restore_15 pk_X12_73 ?_
    refine dt_iret dX12_restore_17 rfl (by decide) (by decide) ?_
    have e : oRestore A k = (-1000001, A) := by
      unfold oRestore
      rw [if_neg (by omega)]
    rw [e]
    exact ⟨rfl, rfl, hA, fa⟩
