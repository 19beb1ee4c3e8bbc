
theorem s_X12_count {ex : List dt_Shp} {σ : dt_Mem} {A : dS} {w : Int} (hI : rInv σ A) (h_w : dt_in32 w) (hO : aOk A 10000) : dt_Sp mX12_count 1 0 0 [dt_R 40, dt_I w] (dt_SH ++ ex) σ (fun v sh2 σ2 => v = some (dt_I (oCount A w).1) ∧ sh2 = dt_SH ++ ex ∧ rEnd σ σ2 (oCount A w).2) := by
  refine dt_Sp_of (by decide) (Nat.le_of_ble_eq_true rfl) ?_
  refine dt_wfV fun hwf => ?_
  show dt_V _ _ _ 0 0 0 [some (dt_R 40), some (dt_I w), none, none] [] _ _
  refine dt_aloadn dX12_count_0 rfl rfl ?_
  refine dt_iconst dX12_count_1 ?_
  refine dt_wfV fun hwf => ?_
  refine dt_putI dX12_count_2 pw_X12_53_12 rfl rfl (by first | assumption | exact hwf _ _ | exact dt_b32 _ | omega | exact ⟨by omega, by omega⟩ | decide | exact ⟨by simp (disch := omega) only [dt_up_s, dt_up_k, dt_up_n]; omega, by simp (disch := omega) only [dt_up_s, dt_up_k, dt_up_n]; omega⟩) ?_
  obtain ⟨σa, ea⟩ : ∃ z, z = dt_up σ 40 0 0 := ⟨_, rfl⟩
  rw [← ea]
  have hA := hI.up40 0 0 (by decide)
  rw [← ea] at hA
  have fa : ∀ b, (b < 40 ∨ 55 ≤ b) → σa b = σ b := fun b hb => by rw [ea]; exact dt_up_o (by omega)
  clear ea
  refine dt_wfV fun hwf => ?_
  have hX := hA.X hO.1.1
  have e0 := hX.t
  have e1 := hX.p
  have e2 := hX.2.1
  have e3 := hX.2.2.2.1
  have e7 := hA.2.2.1.2
  have ey := hO.1.2.2
  refine dt_iconst dX12_count_5 ?_
  refine dt_istoren dX12_count_6 rfl (by decide) rfl ?_
  dsimp only [List.set]
  refine dt_iloadn dX12_count_7 rfl rfl ?_
  by_cases s1 : w = 0
  · refine dt_tblI (off := 40) (tgt := 48) dX12_count_8 (by first | assumption | exact hwf _ _ | exact dt_b32 _ | omega | exact ⟨by omega, by omega⟩ | decide | exact ⟨by simp (disch := omega) only [dt_up_s, dt_up_k, dt_up_n]; omega, by simp (disch := omega) only [dt_up_s, dt_up_k, dt_up_n]; omega⟩) (by omega) (by omega) (by rw [s1]; rfl) (by decide) ?_
    refine dt_iconst dX12_count_48 ?_
    refine dt_istoren dX12_count_49 rfl (by decide) rfl ?_
    dsimp only [List.set]
    have lp50 : ∀ (fu : Nat) (i : Nat), 8 - (i : Int) < (fu : Int) → (i ≤ 8) →  dt_V mX12_count (dt_rm 1 0 0) (dt_MC (fun v sh2 σ2 => v = some (dt_I (oCount A w).1) ∧ sh2 = dt_SH ++ ex ∧ rEnd σ σ2 (oCount A w).2) 0 0) 0 0 50 [some (dt_R 40), some (dt_I w), some (dt_I (xMany (sR A) i)), some (dt_I (i : Int))] [] (dt_SH ++ ex) σa := by
      intro fu
      induction fu with
      | zero =>
        intro i hm hi
        exfalso
        omega
      | succ fu ih =>
        intro i hm hi
        refine dt_wfV fun hwf => ?_
        have hci := xMany_in (sR A) i
        refine dt_iloadn dX12_count_50 rfl rfl ?_
        refine dt_bipush dX12_count_51 (by decide) ?_
        refine dt_cm_ge (tgt := 79) dX12_count_53 (by decide) (by first | assumption | exact hwf _ _ | exact dt_b32 _ | omega | exact ⟨by omega, by omega⟩ | decide | exact ⟨by simp (disch := omega) only [dt_up_s, dt_up_k, dt_up_n]; omega, by simp (disch := omega) only [dt_up_s, dt_up_k, dt_up_n]; omega⟩) (by first | assumption | exact hwf _ _ | exact dt_b32 _ | omega | exact ⟨by omega, by omega⟩ | decide | exact ⟨by simp (disch := omega) only [dt_up_s, dt_up_k, dt_up_n]; omega, by simp (disch := omega) only [dt_up_s, dt_up_k, dt_up_n]; omega⟩) (fun c2 => ?_) (fun c2 => ?_)
        · skip
          refine dt_iloadn dX12_count_79 rfl rfl ?_
          refine dt_iret dX12_count_80 rfl (by decide) (by decide) ?_
          refine ⟨?_, rfl, hA, fa⟩
          unfold oCount
          rw [if_pos (by omega)]
          rw [show i = 8 by omega]
        · skip
          refine dt_iloadn dX12_count_56 rfl rfl ?_
          refine dt_aloadn dX12_count_57 rfl rfl ?_
          refine dt_getR dX12_count_58 pg_X12_7_12 rfl rfl ?_
          refine dt_iloadn dX12_count_61 rfl rfl ?_
          refine dt_iald dX12_count_62 rfl (by first | omega | (simp (disch := omega) only [dt_up_s, dt_up_k, dt_up_n]; omega)) (by first | omega | (simp (disch := omega) only [dt_up_s, dt_up_k, dt_up_n]; omega)) (by decide) ?_
          rw [Int.toNat_natCast]
          refine dt_if_lt (tgt := 70) dX12_count_63 (by decide) (by first | assumption | exact hwf _ _ | exact dt_b32 _ | omega | exact ⟨by omega, by omega⟩ | decide | exact ⟨by simp (disch := omega) only [dt_up_s, dt_up_k, dt_up_n]; omega, by simp (disch := omega) only [dt_up_s, dt_up_k, dt_up_n]; omega⟩) (fun c3 => ?_) (fun c3 => ?_)
          · skip
            refine dt_iconst dX12_count_70 ?_
            refine dt_iadd dX12_count_71 ?_
            refine dt_istoren dX12_count_72 rfl (by decide) rfl ?_
            dsimp only [List.set]
            refine dt_iinc dX12_count_73 rfl (by decide) rfl ?_
            dsimp only [List.set]
            refine dt_goto (tgt := 50) dX12_count_76 (by decide) ?_
            exact dt_lb (ih (i + 1) (by omega) (by omega)) ⟨rfl, rfl, (by first | rw [show xMany (sR A) (i + 1) = xMany (sR A) i + (if sR A i = none then 0 else 1) from rfl, if_pos ((hA.1.many (by omega)).mp (by assumption)), Int.add_zero] | rw [show xMany (sR A) (i + 1) = xMany (sR A) i + (if sR A i = none then 0 else 1) from rfl, if_neg (fun q => by have := (hA.1.many (by omega)).mpr q; omega)]), rfl, trivial⟩
          · skip
            refine dt_iconst dX12_count_66 ?_
            refine dt_goto (tgt := 71) dX12_count_67 (by decide) ?_
            refine dt_iadd dX12_count_71 ?_
            refine dt_istoren dX12_count_72 rfl (by decide) rfl ?_
            dsimp only [List.set]
            refine dt_iinc dX12_count_73 rfl (by decide) rfl ?_
            dsimp only [List.set]
            refine dt_goto (tgt := 50) dX12_count_76 (by decide) ?_
            exact dt_lb (ih (i + 1) (by omega) (by omega)) ⟨rfl, rfl, (by first | rw [show xMany (sR A) (i + 1) = xMany (sR A) i + (if sR A i = none then 0 else 1) from rfl, if_pos ((hA.1.many (by omega)).mp (by assumption)), Int.add_zero] | rw [show xMany (sR A) (i + 1) = xMany (sR A) i + (if sR A i = none then 0 else 1) from rfl, if_neg (fun q => by have := (hA.1.many (by omega)).mpr q; omega)]), rfl, trivial⟩
    exact dt_lb (lp50 9 0 (by omega) (by omega)) ⟨rfl, rfl, rfl, rfl, trivial⟩
  by_cases s4 : w = 1
  · refine dt_tblI (off := 73) (tgt := 81) dX12_count_8 (by first | assumption | exact hwf _ _ | exact dt_b32 _ | omega | exact ⟨by omega, by omega⟩ | decide | exact ⟨by simp (disch := omega) only [dt_up_s, dt_up_k, dt_up_n]; omega, by simp (disch := omega) only [dt_up_s, dt_up_k, dt_up_n]; omega⟩) (by omega) (by omega) (by rw [s4]; rfl) (by decide) ?_
    refine dt_aloadn dX12_count_81 rfl rfl ?_
    refine dt_getR dX12_count_82 pg_X12_19_12 rfl rfl ?_
    refine dt_iconst dX12_count_85 ?_
    refine dt_iald dX12_count_86 rfl (by first | omega | (simp (disch := omega) only [dt_up_s, dt_up_k, dt_up_n]; omega)) (by first | omega | (simp (disch := omega) only [dt_up_s, dt_up_k, dt_up_n]; omega)) (by decide) ?_
    rw [show Int.toNat 0 = 0 from rfl]
    rw [e0]
    refine dt_iret dX12_count_87 rfl (by decide) (by decide) ?_
    refine ⟨?_, rfl, hA, fa⟩
    unfold oCount
    rw [if_neg (by omega), if_pos (by omega)]
  by_cases s5 : w = 2
  · refine dt_tblI (off := 80) (tgt := 88) dX12_count_8 (by first | assumption | exact hwf _ _ | exact dt_b32 _ | omega | exact ⟨by omega, by omega⟩ | decide | exact ⟨by simp (disch := omega) only [dt_up_s, dt_up_k, dt_up_n]; omega, by simp (disch := omega) only [dt_up_s, dt_up_k, dt_up_n]; omega⟩) (by omega) (by omega) (by rw [s5]; rfl) (by decide) ?_
    refine dt_iconst dX12_count_88 ?_
    refine dt_istoren dX12_count_89 rfl (by decide) rfl ?_
    dsimp only [List.set]
    have lp90 : ∀ (fu : Nat) (i : Nat), ((sN A).1.length : Int) - i < (fu : Int) → (i ≤ (sN A).1.length) → (((sN A).1.take i).foldl (fun a tg => a + tg.length) 0 ≤ 8 * i) →  dt_V mX12_count (dt_rm 1 0 0) (dt_MC (fun v sh2 σ2 => v = some (dt_I (oCount A w).1) ∧ sh2 = dt_SH ++ ex ∧ rEnd σ σ2 (oCount A w).2) 0 0) 0 0 90 [some (dt_R 40), some (dt_I w), some (dt_I ((((sN A).1.take i).foldl (fun a tg => a + tg.length) 0 : Nat) : Int)), some (dt_I (i : Int))] [] (dt_SH ++ ex) σa := by
      intro fu
      induction fu with
      | zero =>
        intro i hm hi hb
        exfalso
        omega
      | succ fu ih =>
        intro i hm hi hb
        refine dt_wfV fun hwf => ?_
        refine dt_iloadn dX12_count_90 rfl rfl ?_
        refine dt_aloadn dX12_count_91 rfl rfl ?_
        refine dt_getR dX12_count_92 pg_X12_19_12 rfl rfl ?_
        refine dt_iconst dX12_count_95 ?_
        refine dt_iald dX12_count_96 rfl (by first | omega | (simp (disch := omega) only [dt_up_s, dt_up_k, dt_up_n]; omega)) (by first | omega | (simp (disch := omega) only [dt_up_s, dt_up_k, dt_up_n]; omega)) (by decide) ?_
        rw [show Int.toNat 0 = 0 from rfl]
        rw [e0]
        refine dt_cm_ge (tgt := 117) dX12_count_97 (by decide) (by first | assumption | exact hwf _ _ | exact dt_b32 _ | omega | exact ⟨by omega, by omega⟩ | decide | exact ⟨by simp (disch := omega) only [dt_up_s, dt_up_k, dt_up_n]; omega, by simp (disch := omega) only [dt_up_s, dt_up_k, dt_up_n]; omega⟩) (by first | assumption | exact hwf _ _ | exact dt_b32 _ | omega | exact ⟨by omega, by omega⟩ | decide | exact ⟨by simp (disch := omega) only [dt_up_s, dt_up_k, dt_up_n]; omega, by simp (disch := omega) only [dt_up_s, dt_up_k, dt_up_n]; omega⟩) (fun c6 => ?_) (fun c6 => ?_)
        · skip
          refine dt_iloadn dX12_count_117 rfl rfl ?_
          refine dt_iret dX12_count_118 rfl (by decide) (by decide) ?_
          refine ⟨?_, rfl, hA, fa⟩
          unfold oCount
          rw [if_neg (by omega), if_neg (by omega), if_pos (by omega)]
          rw [fl_e (by omega)]
          rfl
        · skip
          obtain ⟨tg, hg⟩ := dt_lg (l := (sN A).1) (i := i) (by omega)
          refine dt_iloadn dX12_count_100 rfl rfl ?_
          refine dt_aloadn dX12_count_101 rfl rfl ?_
          refine dt_getR dX12_count_102 pg_X12_19_12 rfl rfl ?_
          refine dt_iconst dX12_count_105 ?_
          refine dt_iloadn dX12_count_106 rfl rfl ?_
          refine dt_iadd dX12_count_107 ?_
          refine dt_iald dX12_count_108 rfl (by first | omega | (simp (disch := omega) only [dt_up_s, dt_up_k, dt_up_n]; omega)) (by first | omega | (simp (disch := omega) only [dt_up_s, dt_up_k, dt_up_n]; omega)) (by decide) ?_
          refine dt_iadd dX12_count_109 ?_
          refine dt_istoren dX12_count_110 rfl (by decide) rfl ?_
          dsimp only [List.set]
          refine dt_iinc dX12_count_111 rfl (by decide) rfl ?_
          dsimp only [List.set]
          refine dt_goto (tgt := 90) dX12_count_114 (by decide) ?_
          exact dt_lb (ih (i + 1) (by omega) (by omega) (by rw [fl_s hg]; have := (hX.tg hg).2.1; omega)) ⟨rfl, rfl, (by rw [fl_s hg, show ((3 : Int) + (i : Int)).toNat = 3 + i by omega, (hX.tg hg).1]; rfl), rfl, trivial⟩
    exact dt_lb (lp90 9 0 (by omega) (by omega) (by exact Nat.le_refl 0)) ⟨rfl, rfl, rfl, rfl, trivial⟩
  by_cases s7 : w = 3
  · refine dt_tblI (off := 111) (tgt := 119) dX12_count_8 (by first | assumption | exact hwf _ _ | exact dt_b32 _ | omega | exact ⟨by omega, by omega⟩ | decide | exact ⟨by simp (disch := omega) only [dt_up_s, dt_up_k, dt_up_n]; omega, by simp (disch := omega) only [dt_up_s, dt_up_k, dt_up_n]; omega⟩) (by omega) (by omega) (by rw [s7]; rfl) (by decide) ?_
    refine dt_aloadn dX12_count_119 rfl rfl ?_
    refine dt_getR dX12_count_120 pg_X12_19_12 rfl rfl ?_
    refine dt_iconst dX12_count_123 ?_
    refine dt_iald dX12_count_124 rfl (by first | omega | (simp (disch := omega) only [dt_up_s, dt_up_k, dt_up_n]; omega)) (by first | omega | (simp (disch := omega) only [dt_up_s, dt_up_k, dt_up_n]; omega)) (by decide) ?_
    rw [show Int.toNat 1 = 1 from rfl]
    rw [e1]
    refine dt_iret dX12_count_125 rfl (by decide) (by decide) ?_
    refine ⟨?_, rfl, hA, fa⟩
    unfold oCount
    rw [if_neg (by omega), if_neg (by omega), if_neg (by omega), if_pos (by omega)]
  by_cases s8 : w = 4
  · refine dt_tblI (off := 118) (tgt := 126) dX12_count_8 (by first | assumption | exact hwf _ _ | exact dt_b32 _ | omega | exact ⟨by omega, by omega⟩ | decide | exact ⟨by simp (disch := omega) only [dt_up_s, dt_up_k, dt_up_n]; omega, by simp (disch := omega) only [dt_up_s, dt_up_k, dt_up_n]; omega⟩) (by omega) (by omega) (by rw [s8]; rfl) (by decide) ?_
    refine dt_aloadn dX12_count_126 rfl rfl ?_
    refine dt_getR dX12_count_127 pg_X12_19_12 rfl rfl ?_
    refine dt_iconst dX12_count_130 ?_
    refine dt_iald dX12_count_131 rfl (by first | omega | (simp (disch := omega) only [dt_up_s, dt_up_k, dt_up_n]; omega)) (by first | omega | (simp (disch := omega) only [dt_up_s, dt_up_k, dt_up_n]; omega)) (by decide) ?_
    rw [show Int.toNat 2 = 2 from rfl]
    rw [hX.y]
    refine dt_iret dX12_count_132 rfl (by decide) (by decide) ?_
    refine ⟨?_, rfl, hA, fa⟩
    unfold oCount
    rw [if_neg (by omega), if_neg (by omega), if_neg (by omega), if_neg (by omega), if_pos (by omega)]
  by_cases s9 : w = 5
  · refine dt_tblI (off := 125) (tgt := 133) dX12_count_8 (by first | assumption | exact hwf _ _ | exact dt_b32 _ | omega | exact ⟨by omega, by omega⟩ | decide | exact ⟨by simp (disch := omega) only [dt_up_s, dt_up_k, dt_up_n]; omega, by simp (disch := omega) only [dt_up_s, dt_up_k, dt_up_n]; omega⟩) (by omega) (by omega) (by rw [s9]; rfl) (by decide) ?_
    refine dt_aloadn dX12_count_133 rfl rfl ?_
    refine dt_getI dX12_count_134 pg_X12_80_12 rfl rfl ?_
    rw [hA.2.1.1]
    refine dt_iret dX12_count_137 rfl (by decide) (by decide) ?_
    refine ⟨?_, rfl, hA, fa⟩
    unfold oCount
    rw [if_neg (by omega), if_neg (by omega), if_neg (by omega), if_neg (by omega), if_neg (by omega), if_pos (by omega)]
  refine dt_tblO (tgt := 138) dX12_count_8 (by first | assumption | exact hwf _ _ | exact dt_b32 _ | omega | exact ⟨by omega, by omega⟩ | decide | exact ⟨by simp (disch := omega) only [dt_up_s, dt_up_k, dt_up_n]; omega, by simp (disch := omega) only [dt_up_s, dt_up_k, dt_up_n]; omega⟩) (by omega) (by decide) ?_
  refine dt_ldc dX12_count_138 pk_X12_73 ?_
  refine dt_iret dX12_count_140 rfl (by decide) (by decide) ?_
  refine ⟨?_, rfl, hA, fa⟩
  unfold oCount
  rw [if_neg (by omega), if_neg (by omega), if_neg (by omega), if_neg (by omega), if_neg (by omega), if_neg (by omega)]
