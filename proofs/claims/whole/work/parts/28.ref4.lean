
theorem s_X12_drift {ex : List dt_Shp} {σ : dt_Mem} {A : dS} {n s : Int} (hI : rInv σ A) (h_n : dt_in32 n) (h_s : dt_in32 s) (hO : aOk A 10000) : dt_Sp mX12_drift 2 0 0 [dt_R 40, dt_I n, dt_I s] (dt_SH ++ ex) σ (fun v sh2 σ2 => v = some (dt_I (oDrift A n s).1) ∧ sh2 = dt_SH ++ ex ∧ rEnd σ σ2 (oDrift A n s).2) := by
  refine dt_Sp_of (by decide) (Nat.le_of_ble_eq_true rfl) ?_
  refine dt_wfV fun hwf => ?_
  show dt_V _ _ _ 0 0 0 [some (dt_R 40), some (dt_I n), some (dt_I s), none] [] _ _
  refine dt_aloadn dX12_drift_0 rfl rfl ?_
  refine dt_iconst dX12_drift_1 ?_
  refine dt_wfV fun hwf => ?_
  refine dt_putI dX12_drift_2 pw_X12_53_12 rfl rfl (by first | assumption | exact hwf _ _ | exact dt_b32 _ | omega | exact ⟨by omega, by omega⟩ | decide | exact ⟨by simp (disch := omega) only [dt_up_s, dt_up_k, dt_up_n]; omega, by simp (disch := omega) only [dt_up_s, dt_up_k, dt_up_n]; omega⟩) ?_
  obtain ⟨σa, ea⟩ : ∃ z, z = dt_up σ 40 0 0 := ⟨_, rfl⟩
  rw [← ea]
  have hA := hI.up40 0 0 (by decide)
  rw [← ea] at hA
  have fa : ∀ b, (b < 40 ∨ 55 ≤ b) → σa b = σ b := fun b hb => by rw [ea]; exact dt_up_o (by omega)
  clear ea
  refine dt_wfV fun hwf => ?_
  have hX := hA.X hO.1.1
  have e0 := hX.t
  have e1 := hX.p
  have e2 := hX.2.1
  have e3 := hX.2.2.2.1
  have e7 := hA.2.2.1.2
  have ey := hO.1.2.2
  refine dt_aloadn dX12_drift_5 rfl rfl ?_
  refine dt_getI dX12_drift_6 pg_X12_179_12 rfl rfl ?_
  refine dt_if_ne (tgt := 15) dX12_drift_9 (by decide) (by first | assumption | exact hwf _ _ | exact dt_b32 _ | omega | exact ⟨by omega, by omega⟩ | decide | exact ⟨by simp (disch := omega) only [dt_up_s, dt_up_k, dt_up_n]; omega, by simp (disch := omega) only [dt_up_s, dt_up_k, dt_up_n]; omega⟩) (fun c1 => ?_) (fun c1 => ?_)
  · skip
    rw [e7] at c1
    have hn : ¬ (sN A).1 = [] := by simpa [dt_b0] using c1
    have hn0 : 0 < (sN A).1.length := Nat.pos_of_ne_zero (fun q => hn (dt_nn.mp q))
    refine dt_iloadn dX12_drift_15 rfl rfl ?_
    refine dt_ui2l dX12_drift_16 (by first | assumption | exact hwf _ _ | exact dt_b32 _ | omega | exact ⟨by omega, by omega⟩ | decide | exact ⟨by simp (disch := omega) only [dt_up_s, dt_up_k, dt_up_n]; omega, by simp (disch := omega) only [dt_up_s, dt_up_k, dt_up_n]; omega⟩) ?_
    refine dt_lconst (x := 1) dX12_drift_17 (by decide) ?_
    refine dt_ldc2 dX12_drift_18 pk_X12_205 ?_
    refine dt_xS dX12_drift_21 pc_X12_63 (s_X12_in (by first | exact ⟨by omega, by omega⟩ | decide) (by first | exact ⟨by omega, by omega⟩ | decide) (by first | exact ⟨by omega, by omega⟩ | decide)) rfl rfl ⟨by decide, by decide⟩ (Nat.le_of_ble_eq_true rfl) ⟨by decide, by decide⟩ (dt_k3 ?_)
    refine dt_if_eq (tgt := 39) dX12_drift_24 (by decide) (by first | assumption | exact hwf _ _ | exact dt_b32 _ | omega | exact ⟨by omega, by omega⟩ | decide | exact ⟨by simp (disch := omega) only [dt_up_s, dt_up_k, dt_up_n]; omega, by simp (disch := omega) only [dt_up_s, dt_up_k, dt_up_n]; omega⟩) (fun c2 => ?_) (fun c2 => ?_)
    · skip
      try simp only [dt_b0, dt_b1, Decidable.not_not, Classical.not_not] at c2
      refine dt_ldc dX12_drift_39 pk_X12_73 ?_
      refine dt_iret dX12_drift_41 rfl (by decide) (by decide) ?_
      have e : oDrift A n s = (-1000001, A) := by
        unfold oDrift
        rw [if_neg hn, if_neg (by omega)]
      rw [e]
      exact ⟨rfl, rfl, hA, fa⟩
    · skip
      try simp only [dt_b0, dt_b1, Decidable.not_not, Classical.not_not] at c2
      refine dt_iloadn dX12_drift_27 rfl rfl ?_
      refine dt_ui2l dX12_drift_28 (by first | assumption | exact hwf _ _ | exact dt_b32 _ | omega | exact ⟨by omega, by omega⟩ | decide | exact ⟨by simp (disch := omega) only [dt_up_s, dt_up_k, dt_up_n]; omega, by simp (disch := omega) only [dt_up_s, dt_up_k, dt_up_n]; omega⟩) ?_
      refine dt_lconst (x := 1) dX12_drift_29 (by decide) ?_
      refine dt_ldc2 dX12_drift_30 pk_X12_207 ?_
      refine dt_xS dX12_drift_33 pc_X12_63 (s_X12_in (by first | exact ⟨by omega, by omega⟩ | decide) (by first | exact ⟨by omega, by omega⟩ | decide) (by first | exact ⟨by omega, by omega⟩ | decide)) rfl rfl ⟨by decide, by decide⟩ (Nat.le_of_ble_eq_true rfl) ⟨by decide, by decide⟩ (dt_k3 ?_)
      refine dt_if_ne (tgt := 42) dX12_drift_36 (by decide) (by first | assumption | exact hwf _ _ | exact dt_b32 _ | omega | exact ⟨by omega, by omega⟩ | decide | exact ⟨by simp (disch := omega) only [dt_up_s, dt_up_k, dt_up_n]; omega, by simp (disch := omega) only [dt_up_s, dt_up_k, dt_up_n]; omega⟩) (fun c3 => ?_) (fun c3 => ?_)
      · skip
        try simp only [dt_b0, dt_b1, Decidable.not_not, Classical.not_not] at c3
        refine dt_aloadn dX12_drift_42 rfl rfl ?_
        refine dt_iloadn dX12_drift_43 rfl rfl ?_
        refine dt_ui2l dX12_drift_44 (by first | assumption | exact hwf _ _ | exact dt_b32 _ | omega | exact ⟨by omega, by omega⟩ | decide | exact ⟨by simp (disch := omega) only [dt_up_s, dt_up_k, dt_up_n]; omega, by simp (disch := omega) only [dt_up_s, dt_up_k, dt_up_n]; omega⟩) ?_
        refine dt_wfV fun hwf => ?_
        refine dt_putL dX12_drift_45 pw_X12_186_12 rfl rfl (by first | assumption | exact hwf _ _ | exact dt_b32 _ | omega | exact ⟨by omega, by omega⟩ | decide | exact ⟨by simp (disch := omega) only [dt_up_s, dt_up_k, dt_up_n]; omega, by simp (disch := omega) only [dt_up_s, dt_up_k, dt_up_n]; omega⟩) ?_
        obtain ⟨N, hN⟩ : ∃ N : Nat, n = N := ⟨n.toNat, by omega⟩
        refine dt_iconst dX12_drift_48 ?_
        refine dt_istoren dX12_drift_49 rfl (by decide) rfl ?_
        dsimp only [List.set]
        have lp50 : ∀ (fu : Nat) (i : Nat) (T1 : List (List (Nat × List Nat))) (x1 : Int) (σ1 : dt_Mem), (N : Int) - i < (fu : Int) → (i ≤ N) → (rX σ1 (T1, (sN A).2)) → (σ1 40 18 = x1) → (T1.length = (sN A).1.length) → (0 ≤ x1) → (x1 < 2147483648) → (∀ b k, b ≠ 44 → (b ≠ 40 ∨ k ≠ 18) → σ1 b k = σa b k) → (xYears (N - i) (T1, (sN A).2.1, (sN A).2.2 + i) x1 = xYears N (sN A) s) →  dt_V mX12_drift (dt_rm 2 0 0) (dt_MC (fun v sh2 σ2 => v = some (dt_I (oDrift A n s).1) ∧ sh2 = dt_SH ++ ex ∧ rEnd σ σ2 (oDrift A n s).2) 0 0) 0 0 50 [some (dt_R 40), some (dt_I n), some (dt_I s), some (dt_I (i : Int))] [] (dt_SH ++ ex) σ1 := by
          intro fu
          induction fu with
          | zero =>
            intro i T1 x1 σ1 hm hi kX kd ht g1 g2 hfr hres
            exfalso
            omega
          | succ fu ih =>
            intro i T1 x1 σ1 hm hi kX kd ht g1 g2 hfr hres
            refine dt_wfV fun hwf => ?_
            obtain ⟨a1, a2, a3, a4, a5⟩ := xYear_ok kX.2 (by show 0 < T1.length; omega) x1
            have a6 : ((xYear (T1, (sN A).2) x1).1.1, (sN A).2) = (xYear (T1, (sN A).2) x1).1 := Prod.ext rfl a3.symm
            have a3b : (xYear (T1, (sN A).2.1, (sN A).2.2 + i) x1).1.2 = ((sN A).2.1, (sN A).2.2 + i) := (xYear_ok (X := (T1, (sN A).2.1, (sN A).2.2 + i)) kX.2 (by show 0 < T1.length; omega) x1).2.2.1
            refine dt_iloadn dX12_drift_50 rfl rfl ?_
            refine dt_iloadn dX12_drift_51 rfl rfl ?_
            refine dt_cm_ge (tgt := 65) dX12_drift_52 (by decide) (by first | assumption | exact hwf _ _ | exact dt_b32 _ | omega | exact ⟨by omega, by omega⟩ | decide | exact ⟨by simp (disch := omega) only [dt_up_s, dt_up_k, dt_up_n]; omega, by simp (disch := omega) only [dt_up_s, dt_up_k, dt_up_n]; omega⟩) (by first | assumption | exact hwf _ _ | exact dt_b32 _ | omega | exact ⟨by omega, by omega⟩ | decide | exact ⟨by simp (disch := omega) only [dt_up_s, dt_up_k, dt_up_n]; omega, by simp (disch := omega) only [dt_up_s, dt_up_k, dt_up_n]; omega⟩) (fun c4 => ?_) (fun c4 => ?_)
            · skip
              refine dt_aloadn dX12_drift_65 rfl rfl ?_
              refine dt_getR dX12_drift_66 pg_X12_19_12 rfl rfl ?_
              refine dt_iconst dX12_drift_69 ?_
              refine dt_dup2 dX12_drift_70 ?_
              refine dt_iald dX12_drift_71 rfl (by first | omega | (simp (disch := omega) only [dt_up_s, dt_up_k, dt_up_n]; omega)) (by first | omega | (simp (disch := omega) only [dt_up_s, dt_up_k, dt_up_n]; omega)) (by decide) ?_
              have hi2 : i = N := by omega
              have e8 : σ1 44 (Int.toNat 2) = (sN A).2.2 := kX.y
              rw [e8]
              refine dt_iloadn dX12_drift_72 rfl rfl ?_
              refine dt_iadd dX12_drift_73 ?_
              rw [show (((sN A).2.2 : Nat) : Int) + n = (((sN A).2.2 + i : Nat) : Int) by omega]
              refine dt_wfV fun hwf => ?_
              refine dt_iast dX12_drift_74 rfl (by first | omega | (simp (disch := omega) only [dt_up_s, dt_up_k, dt_up_n]; omega)) (by first | omega | (simp (disch := omega) only [dt_up_s, dt_up_k, dt_up_n]; omega)) (by decide) (by first | assumption | exact hwf _ _ | exact dt_b32 _ | omega | exact ⟨by omega, by omega⟩ | decide | exact ⟨by simp (disch := omega) only [dt_up_s, dt_up_k, dt_up_n]; omega, by simp (disch := omega) only [dt_up_s, dt_up_k, dt_up_n]; omega⟩) ?_
              refine dt_aloadn dX12_drift_75 rfl rfl ?_
              refine dt_getR dX12_drift_76 pg_X12_19_12 rfl rfl ?_
              refine dt_iconst dX12_drift_79 ?_
              refine dt_iald dX12_drift_80 rfl (by first | omega | (simp (disch := omega) only [dt_up_s, dt_up_k, dt_up_n]; omega)) (by first | omega | (simp (disch := omega) only [dt_up_s, dt_up_k, dt_up_n]; omega)) (by decide) ?_
              rw [dt_up_s]
              refine dt_iret dX12_drift_81 rfl (by decide) (by decide) ?_
              have e : oDrift A n s = ((((xYears n.toNat (sN A) s).2.2 : Nat) : Int), sPt A (xYears n.toNat (sN A) s)) := by
                unfold oDrift
                rw [if_neg hn, if_pos (by omega)]
              rw [e]
              rw [show n.toNat = N by omega]
              subst hi2
              rw [Nat.sub_self] at hres
              have hres : (T1, (sN A).2.1, (sN A).2.2 + i) = xYears i (sN A) s := hres
              rw [← hres]
              have hne : (sN A).1 ≠ [] ↔ T1 ≠ [] := ⟨fun _ q => hn (dt_nn.mp (ht.symm.trans (dt_nn.mpr q))), fun _ => hn⟩
              refine ⟨rfl, rfl, hA.port (rPort.years (z := (sN A).2.2 + i) kX.1) hne (fun k hk => ?_) (fun b h1 h2 h3 => ?_), fun b hb => ?_⟩
              · exact (dt_up_n (by decide)).trans (hfr 40 k (by decide) (by omega))
              · exact (dt_up_o h3).trans (funext fun k => hfr b k h3 (Or.inl (by omega)))
              · exact (dt_up_o (by omega)).trans ((funext fun k => hfr b k (by omega) (Or.inl (by omega))).trans (fa b hb))
            · skip
              refine dt_aloadn dX12_drift_55 rfl rfl ?_
              refine dt_xV dX12_drift_56 pc_X12_209 rfl (s_X12_year kX (by show 0 < T1.length; omega) (by omega) (by omega)) rfl rfl ⟨by decide, by decide⟩ rfl rfl (Nat.le_of_ble_eq_true rfl) ⟨by decide, by decide⟩ ?_
              intro v3 sh3 σ3 hq3
              obtain ⟨rfl, hs3, hX3, hd3, hf3⟩ := hq3
              obtain rfl := hs3.symm
              refine dt_iinc dX12_drift_59 rfl (by decide) rfl ?_
              dsimp only [List.set]
              refine dt_goto (tgt := 50) dX12_drift_62 (by decide) ?_
              exact dt_lb (ih (i + 1) (xYear (T1, (sN A).2) x1).1.1 (xYear (T1, (sN A).2) x1).2 _ (by omega) (by omega) (by rw [a6, ← kd]; exact hX3) (by rw [hd3, kd]) (a2.trans ht) a4 (by omega) (fun b k h44 h40 => by rw [hf3 b k h44 h40]; exact hfr b k h44 h40) (by rw [← hres, show N - i = N - (i + 1) + 1 by omega]; rw [(xYear_y T1 (sN A).2 ((sN A).2.1, (sN A).2.2 + i) x1).1, (xYear_y T1 (sN A).2 ((sN A).2.1, (sN A).2.2 + i) x1).2]; show _ = xYears (N - (i + 1)) ((xYear (T1, (sN A).2.1, (sN A).2.2 + i) x1).1.1, (xYear (T1, (sN A).2.1, (sN A).2.2 + i) x1).1.2.1, (xYear (T1, (sN A).2.1, (sN A).2.2 + i) x1).1.2.2 + 1) _; rw [a3b]; rfl)) ⟨rfl, rfl, rfl, rfl, trivial⟩
        exact dt_lb (lp50 101 0 (sN A).1 s (dt_up σa 40 18 s) (by omega) (by omega) (hX.kept (dt_up_o (by decide))) dt_up_s rfl (by omega) (by omega) (fun b k h44 h40 => dt_up_ne h40) rfl) ⟨rfl, rfl, rfl, rfl, trivial⟩
      · skip
        try simp only [dt_b0, dt_b1, Decidable.not_not, Classical.not_not] at c3
        refine dt_ldc dX12_drift_39 pk_X12_73 ?_
        refine dt_iret dX12_drift_41 rfl (by decide) (by decide) ?_
        have e : oDrift A n s = (-1000001, A) := by
          unfold oDrift
          rw [if_neg hn, if_neg (by omega)]
        rw [e]
        exact ⟨rfl, rfl, hA, fa⟩
  · skip
    rw [e7] at c1
    have hn : (sN A).1 = [] := by simpa [dt_b0] using c1
    refine dt_ldc dX12_drift_12 pk_X12_204 ?_
    refine dt_iret dX12_drift_14 rfl (by decide) (by decide) ?_
    have e : oDrift A n s = (-1000002, A) := by
      unfold oDrift
      rw [if_pos hn]
    rw [e]
    exact ⟨rfl, rfl, hA, fa⟩
