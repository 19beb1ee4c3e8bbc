
/-! an undated letter -/
noncomputable def xDat (X : dX) (l : List Int) (m : Nat) : Nat → Nat
  | 0 => 0
  | t + 1 => xDat X l m t ||| (dt_b (∃ P, xSd X t l = some P ∧ P m)).toNat * 2 ^ t
theorem xDat_y {X : dX} {l : List Int} {m t : Nat} {P : Nat → Prop} (h : xSd X t l = some P) (h2 : P m) : xDat X l m (t + 1) = xDat X l m t ||| 2 ^ t := by
  show xDat X l m t ||| (dt_b _).toNat * 2 ^ t = _
  rw [dt_bT ⟨P, h, h2⟩]
  show xDat X l m t ||| 1 * 2 ^ t = _
  rw [Nat.one_mul]
theorem xDat_n {X : dX} {l : List Int} {m t : Nat} (h : ¬ ∃ P, xSd X t l = some P ∧ P m) : xDat X l m (t + 1) = xDat X l m t := by
  show xDat X l m t ||| (dt_b _).toNat * 2 ^ t = _
  rw [dt_bF h]
  show xDat X l m t ||| 0 * 2 ^ t = _
  rw [Nat.zero_mul, Nat.or_zero]
theorem xDat_lt {X : dX} {l : List Int} {m : Nat} : ∀ t, xDat X l m t < 2 ^ t
  | 0 => Nat.zero_lt_one
  | t + 1 => by
    have h := xDat_lt (X := X) (l := l) (m := m) t
    have a : xDat X l m t < 2 ^ (t + 1) := Nat.lt_trans h (Nat.pow_lt_pow_right (by decide) (Nat.lt_succ_self t))
    by_cases g : ∃ P, xSd X t l = some P ∧ P m
    · obtain ⟨P, h1, h2⟩ := g
      rw [xDat_y h1 h2]
      exact Nat.or_lt_two_pow a (Nat.pow_lt_pow_right (by decide) (Nat.lt_succ_self t))
    · rw [xDat_n g]
      exact a
noncomputable def oDated (A : dS) (r i n m : Int) : Int × dS := if (sN A).1 = [] then (-1000002, A) else if ¬ ((0 ≤ r ∧ r < 8) ∧ (0 ≤ n ∧ n ≤ 6) ∧ 0 ≤ m ∧ m ≤ 255) then (-1000001, A) else match sR A r.toNat with
  | none => (-1000011, sSt A 1)
  | some q => if ¬ (0 ≤ i ∧ i + n ≤ q.2.length) then (-1000012, sSt A 2) else by
    classical
    exact if ∀ x ∈ (q.2.drop i.toNat).take n.toNat, 0 ≤ x ∧ x ≤ 7 then (((xDat (sN A) ((q.2.drop i.toNat).take n.toNat) m.toNat (sN A).1.length : Nat) : Int), sSt A 0) else (-1000001, A)
theorem oDated_b {A : dS} {r m : Int} {i n : Nat} {q : Nat × List Int} (h1 : ¬ (sN A).1 = []) (h2 : (0 ≤ r ∧ r < 8) ∧ (0 ≤ (n : Int) ∧ (n : Int) ≤ 6) ∧ 0 ≤ m ∧ m ≤ 255) (hq : sR A r.toNat = some q) (h3 : i + n ≤ q.2.length) (h4 : ¬ ∀ x ∈ (q.2.drop i).take n, 0 ≤ x ∧ x ≤ 7) : oDated A r i n m = (-1000001, A) := by
  unfold oDated
  rw [if_neg h1, if_neg (fun z => z h2)]
  simp only [hq]
  rw [if_neg (by omega), Int.toNat_natCast, Int.toNat_natCast, if_neg h4]
theorem oDated_y {A : dS} {r m : Int} {i n : Nat} {q : Nat × List Int} (h1 : ¬ (sN A).1 = []) (h2 : (0 ≤ r ∧ r < 8) ∧ (0 ≤ (n : Int) ∧ (n : Int) ≤ 6) ∧ 0 ≤ m ∧ m ≤ 255) (hq : sR A r.toNat = some q) (h3 : i + n ≤ q.2.length) (h4 : ∀ x ∈ (q.2.drop i).take n, 0 ≤ x ∧ x ≤ 7) : oDated A r i n m = (((xDat (sN A) ((q.2.drop i).take n) m.toNat (sN A).1.length : Nat) : Int), sSt A 0) := by
  unfold oDated
  rw [if_neg h1, if_neg (fun z => z h2)]
  simp only [hq]
  rw [if_neg (by omega), Int.toNat_natCast, Int.toNat_natCast, if_pos h4]
theorem s_X11_tonguesOf {ex : List dt_Shp} {σ : dt_Mem} {X : dX} {i n m : Nat} {r : Int} {q : Nat × List Int} (hX : cPort σ 7 X) (hok : dX_ok X) (hr1 : 0 ≤ r) (hr2 : r < 8) (hrow : hRow σ 2 3 4 r.toNat (some q)) (hin : i + n ≤ q.2.length) (hm : m < 256) : dt_Sp mX11_tonguesOf 5 0 0 [dt_R 0, dt_I r, dt_I (i : Int), dt_I (n : Int), dt_I (m : Int)] (dt_SH ++ ex) σ (fun v sh2 σ2 => v = some (dt_I ((xDat X ((q.2.drop i).take n) m X.1.length : Nat) : Int)) ∧ sh2 = dt_SH ++ ex ∧ (∀ b, b ≠ 32 → b ≠ 33 → σ2 b = σ b)) := by
  refine dt_Sp_of (by decide) (Nat.le_of_ble_eq_true rfl) ?_
  refine dt_wfV fun hwf => ?_
  have e5 := hX.t
  have e6 := hX.1.1
  show dt_V _ _ _ 0 0 0 [some (dt_R 0), some (dt_I r), some (dt_I (i : Int)), some (dt_I (n : Int)), some (dt_I (m : Int)), none, none] [] _ _
  refine dt_iconst dX11_tonguesOf_0 ?_
  refine dt_istore dX11_tonguesOf_1 (by decide) rfl ?_
  dsimp only [List.set]
  refine dt_iconst dX11_tonguesOf_3 ?_
  refine dt_istore dX11_tonguesOf_4 (by decide) rfl ?_
  dsimp only [List.set]
  have lp6 : ∀ (fu : Nat) (t : Nat) (σ1 : dt_Mem), (X.1.length : Int) - t < (fu : Int) → (t ≤ X.1.length) → (∀ b, b ≠ 32 → b ≠ 33 → σ1 b = σ b) →  dt_V mX11_tonguesOf (dt_rm 5 0 0) (dt_MC (fun v sh2 σ2 => v = some (dt_I ((xDat X ((q.2.drop i).take n) m X.1.length : Nat) : Int)) ∧ sh2 = dt_SH ++ ex ∧ (∀ b, b ≠ 32 → b ≠ 33 → σ2 b = σ b)) 0 0) 0 0 6 [some (dt_R 0), some (dt_I r), some (dt_I (i : Int)), some (dt_I (n : Int)), some (dt_I (m : Int)), some (dt_I ((xDat X ((q.2.drop i).take n) m t : Nat) : Int)), some (dt_I (t : Int))] [] (dt_SH ++ ex) σ1 := by
    intro fu
    induction fu with
    | zero =>
      intro t σ1 hm tl jf
      exfalso
      omega
    | succ fu ih =>
      intro t σ1 hm tl jf
      refine dt_wfV fun hwf => ?_
      have xl := xDat_lt (X := X) (l := ((q.2.drop i).take n)) (m := m) t
      have hX1 : cPort σ1 7 X := hX.kept (fun b _ _ => jf b (by omega) (by omega))
      have e5b := hX1.t
      refine dt_iload dX11_tonguesOf_6 rfl ?_
      refine dt_aloadn dX11_tonguesOf_8 rfl rfl ?_
      refine dt_getR dX11_tonguesOf_9 pg_X11_26_11 rfl rfl ?_
      refine dt_xV dX11_tonguesOf_12 pc_X11_129 dt_p7.1 (s_X6_tongues dt_p7) rfl rfl ⟨by decide, by decide⟩ rfl rfl (Nat.le_of_ble_eq_true rfl) ⟨by decide, by decide⟩ (dt_k3 ?_)
      refine dt_cm_ge (tgt := 57) dX11_tonguesOf_15 (by decide) (by first | assumption | exact hwf _ _ | exact dt_b32 _ | omega | exact ⟨by omega, by omega⟩ | decide | exact ⟨by simp (disch := omega) only [dt_up_s, dt_up_k, dt_up_n]; omega, by simp (disch := omega) only [dt_up_s, dt_up_k, dt_up_n]; omega⟩) (by first | assumption | exact hwf _ _ | exact dt_b32 _ | omega | exact ⟨by omega, by omega⟩ | decide | exact ⟨by simp (disch := omega) only [dt_up_s, dt_up_k, dt_up_n]; omega, by simp (disch := omega) only [dt_up_s, dt_up_k, dt_up_n]; omega⟩) (fun c1 => ?_) (fun c1 => ?_)
      · skip
        refine dt_iload dX11_tonguesOf_57 rfl ?_
        refine dt_iret dX11_tonguesOf_59 rfl (by decide) (by decide) ?_
        rw [show X.1.length = t by omega]
        exact ⟨rfl, rfl, jf⟩
      · skip
        refine dt_aloadn dX11_tonguesOf_18 rfl rfl ?_
        refine dt_iload dX11_tonguesOf_19 rfl ?_
        refine dt_iloadn dX11_tonguesOf_21 rfl rfl ?_
        refine dt_iloadn dX11_tonguesOf_22 rfl rfl ?_
        refine dt_iloadn dX11_tonguesOf_23 rfl rfl ?_
        refine dt_xV dX11_tonguesOf_24 pc_X11_175 rfl (s_X11_isSaid hX1 hok hr1 hr2 (hrow.kept (congrFun (jf 2 (by decide) (by decide)) _) (congrFun (jf 3 (by decide) (by decide)) _) (fun _ _ => congrFun (jf 4 (by decide) (by decide)) _)) hin (by omega)) rfl rfl ⟨by decide, by decide⟩ rfl rfl (Nat.le_of_ble_eq_true rfl) ⟨by decide, by decide⟩ ?_
        intro vs shs σs hqs
        obtain ⟨rfl, hss, hfs, hPs⟩ := hqs
        obtain rfl := hss.symm
        refine dt_if_eq (tgt := 51) dX11_tonguesOf_27 (by decide) (by first | assumption | exact hwf _ _ | exact dt_b32 _ | omega | exact ⟨by omega, by omega⟩ | decide | exact ⟨by simp (disch := omega) only [dt_up_s, dt_up_k, dt_up_n]; omega, by simp (disch := omega) only [dt_up_s, dt_up_k, dt_up_n]; omega⟩) (fun c2 => ?_) (fun c2 => ?_)
        · skip
          try simp only [dt_b0, dt_b1, Decidable.not_not, Classical.not_not] at c2
          have hs : xSd X t ((q.2.drop i).take n) = none := by first | assumption | exact Classical.not_not.mp (by assumption)
          have hnp : ¬ ∃ P, xSd X t ((q.2.drop i).take n) = some P ∧ P m := fun ⟨P, z, _⟩ => by rw [hs] at z; cases z
          refine dt_iinc dX11_tonguesOf_51 rfl (by decide) rfl ?_
          dsimp only [List.set]
          refine dt_goto (tgt := 6) dX11_tonguesOf_54 (by decide) ?_
          have hval : (((xDat X ((q.2.drop i).take n) m t : Nat)) : Int) = ((xDat X ((q.2.drop i).take n) m (t + 1) : Nat) : Int) := by rw [xDat_n hnp]
          exact dt_lb (ih (t + 1) σs (by omega) (by omega) (fun b h1 h2 => (hfs b h1 h2).trans (jf b h1 h2))) ⟨rfl, rfl, rfl, rfl, rfl, (dt_ie hval), rfl, trivial⟩
        · skip
          try simp only [dt_b0, dt_b1, Decidable.not_not, Classical.not_not] at c2
          have hs : xSd X t ((q.2.drop i).take n) ≠ none := by assumption
          obtain ⟨P, hP⟩ := Option.ne_none_iff_exists'.mp hs
          have hMP := hPs P hP
          refine dt_aloadn dX11_tonguesOf_30 rfl rfl ?_
          refine dt_getR dX11_tonguesOf_31 pg_X11_44_11 rfl rfl ?_
          refine dt_iload dX11_tonguesOf_34 rfl ?_
          refine dt_xV dX11_tonguesOf_36 pc_X11_284 rfl (s_X8_mayMean hMP ⟨by omega, by omega⟩) rfl rfl ⟨by decide, by decide⟩ rfl rfl (Nat.le_of_ble_eq_true rfl) ⟨by decide, by decide⟩ (dt_k3 ?_)
          refine dt_if_eq (tgt := 51) dX11_tonguesOf_39 (by decide) (by first | assumption | exact hwf _ _ | exact dt_b32 _ | omega | exact ⟨by omega, by omega⟩ | decide | exact ⟨by simp (disch := omega) only [dt_up_s, dt_up_k, dt_up_n]; omega, by simp (disch := omega) only [dt_up_s, dt_up_k, dt_up_n]; omega⟩) (fun c3 => ?_) (fun c3 => ?_)
          · skip
            try simp only [dt_b0, dt_b1, Decidable.not_not, Classical.not_not] at c3
            have hnp : ¬ ∃ P, xSd X t ((q.2.drop i).take n) = some P ∧ P m := fun ⟨P2, z, z2⟩ => by
              rw [hP] at z
              obtain rfl := Option.some.inj z
              exact (show ¬ (0 ≤ (m : Int) ∧ (m : Int) < 256 ∧ P ((m : Int)).toNat) by assumption) ⟨by omega, by omega, by rw [Int.toNat_natCast]; exact z2⟩
            refine dt_iinc dX11_tonguesOf_51 rfl (by decide) rfl ?_
            dsimp only [List.set]
            refine dt_goto (tgt := 6) dX11_tonguesOf_54 (by decide) ?_
            have hval : (((xDat X ((q.2.drop i).take n) m t : Nat)) : Int) = ((xDat X ((q.2.drop i).take n) m (t + 1) : Nat) : Int) := by rw [xDat_n hnp]
            exact dt_lb (ih (t + 1) σs (by omega) (by omega) (fun b h1 h2 => (hfs b h1 h2).trans (jf b h1 h2))) ⟨rfl, rfl, rfl, rfl, rfl, (dt_ie hval), rfl, trivial⟩
          · skip
            try simp only [dt_b0, dt_b1, Decidable.not_not, Classical.not_not] at c3
            have hPm : P m := by
              have z : 0 ≤ (m : Int) ∧ (m : Int) < 256 ∧ P ((m : Int)).toNat := by assumption
              rw [Int.toNat_natCast] at z
              exact z.2.2
            refine dt_iload dX11_tonguesOf_42 rfl ?_
            refine dt_iconst dX11_tonguesOf_44 ?_
            refine dt_iload dX11_tonguesOf_45 rfl ?_
            refine dt_ishl dX11_tonguesOf_47 ?_
            rw [dj_shl1 (by omega)]
            refine dt_ior dX11_tonguesOf_48 ?_
            have p7 : 2 ^ t ≤ 2 ^ 7 := Nat.pow_le_pow_right (by decide) (by omega)
            have p8 : (2 : Nat) ^ 7 = 128 := by decide
            rw [dj_or_nn (by omega) (by omega)]
            refine dt_istore dX11_tonguesOf_49 (by decide) rfl ?_
            dsimp only [List.set]
            refine dt_iinc dX11_tonguesOf_51 rfl (by decide) rfl ?_
            dsimp only [List.set]
            refine dt_goto (tgt := 6) dX11_tonguesOf_54 (by decide) ?_
            have hval : ((xDat X ((q.2.drop i).take n) m t ||| 2 ^ t : Nat) : Int) = ((xDat X ((q.2.drop i).take n) m (t + 1) : Nat) : Int) := by rw [xDat_y hP hPm]
            exact dt_lb (ih (t + 1) σs (by omega) (by omega) (fun b h1 h2 => (hfs b h1 h2).trans (jf b h1 h2))) ⟨rfl, rfl, rfl, rfl, rfl, (dt_ie hval), rfl, trivial⟩
  exact dt_lb (lp6 9 0 σ (by omega) (by omega) (fun b _ _ => rfl)) ⟨rfl, rfl, rfl, rfl, rfl, rfl, rfl, trivial⟩
theorem s_X11_dated {ex : List dt_Shp} {σ : dt_Mem} {A : dS} {r i n m : Int} (hI : cInv ex σ A) (h_r : dt_in32 r) (h_i : dt_in32 i) (h_n : dt_in32 n) (h_m : dt_in32 m) : dt_Sp mX11_dated 6 0 0 [dt_R 0, dt_I r, dt_I i, dt_I n, dt_I m] (dt_SH ++ ex) σ (fun v sh2 σ2 => v = some (dt_I (oDated A r i n m).1) ∧ sh2 = dt_SH ++ ex ∧ cEnd ex σ σ2 (oDated A r i n m).2) := by
  refine dt_Sp_of (by decide) (Nat.le_of_ble_eq_true rfl) ?_
  refine dt_wfV fun hwf => ?_
  have hc := hI.2.2.1.1
  have hok := hI.2.2.1.2.1
  have e5 := hc.t
  have e6 := hc.p
  have e7 := hc.1
  show dt_V _ _ _ 0 0 0 [some (dt_R 0), some (dt_I r), some (dt_I i), some (dt_I n), some (dt_I m), none] [] _ _
  refine dt_aloadn dX11_dated_0 rfl rfl ?_
  refine dt_xV dX11_dated_1 pc_X11_132 rfl s_X11_hasNoPort rfl rfl ⟨by decide, by decide⟩ rfl rfl (Nat.le_of_ble_eq_true rfl) ⟨by decide, by decide⟩ (dt_k3 ?_)
  refine dt_if_eq (tgt := 10) dX11_dated_4 (by decide) (by first | assumption | exact hwf _ _ | exact dt_b32 _ | omega | exact ⟨by omega, by omega⟩ | decide | exact ⟨by simp (disch := omega) only [dt_up_s, dt_up_k, dt_up_n]; omega, by simp (disch := omega) only [dt_up_s, dt_up_k, dt_up_n]; omega⟩) (fun c1 => ?_) (fun c1 => ?_)
  · skip
    try simp only [dt_b0, dt_b1, Decidable.not_not, Classical.not_not] at c1
    refine dt_iloadn dX11_dated_10 rfl rfl ?_
    refine dt_xS dX11_dated_11 pc_X11_66 (s_X7_isOne (by first | assumption | exact hwf _ _ | exact dt_b32 _ | omega | exact ⟨by omega, by omega⟩ | decide | exact ⟨by simp (disch := omega) only [dt_up_s, dt_up_k, dt_up_n]; omega, by simp (disch := omega) only [dt_up_s, dt_up_k, dt_up_n]; omega⟩)) rfl rfl ⟨by decide, by decide⟩ (Nat.le_of_ble_eq_true rfl) ⟨by decide, by decide⟩ (dt_k3 ?_)
    refine dt_if_eq (tgt := 35) dX11_dated_14 (by decide) (by first | assumption | exact hwf _ _ | exact dt_b32 _ | omega | exact ⟨by omega, by omega⟩ | decide | exact ⟨by simp (disch := omega) only [dt_up_s, dt_up_k, dt_up_n]; omega, by simp (disch := omega) only [dt_up_s, dt_up_k, dt_up_n]; omega⟩) (fun c2 => ?_) (fun c2 => ?_)
    · skip
      try simp only [dt_b0, dt_b1, Decidable.not_not, Classical.not_not] at c2
      refine dt_ldc dX11_dated_35 pk_X11_74 ?_
      refine dt_iret dX11_dated_37 rfl (by decide) (by decide) ?_
      have e : oDated A r i n m = (-1000001, A) := by
        unfold oDated
        rw [if_neg (fun q => by have := dt_nn.mpr q; omega), if_pos (by omega)]
      rw [e]
      exact ⟨rfl, rfl, hI, fun b _ _ => rfl⟩
    · skip
      try simp only [dt_b0, dt_b1, Decidable.not_not, Classical.not_not] at c2
      refine dt_iloadn dX11_dated_17 rfl rfl ?_
      refine dt_iconst dX11_dated_18 ?_
      refine dt_bipush dX11_dated_19 (by decide) ?_
      refine dt_xS dX11_dated_21 pc_X11_70 (s_X11_isWithin (by first | assumption | exact hwf _ _ | exact dt_b32 _ | omega | exact ⟨by omega, by omega⟩ | decide | exact ⟨by simp (disch := omega) only [dt_up_s, dt_up_k, dt_up_n]; omega, by simp (disch := omega) only [dt_up_s, dt_up_k, dt_up_n]; omega⟩) (by first | assumption | exact hwf _ _ | exact dt_b32 _ | omega | exact ⟨by omega, by omega⟩ | decide | exact ⟨by simp (disch := omega) only [dt_up_s, dt_up_k, dt_up_n]; omega, by simp (disch := omega) only [dt_up_s, dt_up_k, dt_up_n]; omega⟩) (by first | assumption | exact hwf _ _ | exact dt_b32 _ | omega | exact ⟨by omega, by omega⟩ | decide | exact ⟨by simp (disch := omega) only [dt_up_s, dt_up_k, dt_up_n]; omega, by simp (disch := omega) only [dt_up_s, dt_up_k, dt_up_n]; omega⟩)) rfl rfl ⟨by decide, by decide⟩ (Nat.le_of_ble_eq_true rfl) ⟨by decide, by decide⟩ (dt_k3 ?_)
      refine dt_if_eq (tgt := 35) dX11_dated_24 (by decide) (by first | assumption | exact hwf _ _ | exact dt_b32 _ | omega | exact ⟨by omega, by omega⟩ | decide | exact ⟨by simp (disch := omega) only [dt_up_s, dt_up_k, dt_up_n]; omega, by simp (disch := omega) only [dt_up_s, dt_up_k, dt_up_n]; omega⟩) (fun c3 => ?_) (fun c3 => ?_)
      · skip
        try simp only [dt_b0, dt_b1, Decidable.not_not, Classical.not_not] at c3
        refine dt_ldc dX11_dated_35 pk_X11_74 ?_
        refine dt_iret dX11_dated_37 rfl (by decide) (by decide) ?_
        have e : oDated A r i n m = (-1000001, A) := by
          unfold oDated
          rw [if_neg (fun q => by have := dt_nn.mpr q; omega), if_pos (by omega)]
        rw [e]
        exact ⟨rfl, rfl, hI, fun b _ _ => rfl⟩
      · skip
        try simp only [dt_b0, dt_b1, Decidable.not_not, Classical.not_not] at c3
        refine dt_iload dX11_dated_27 rfl ?_
        refine dt_xS dX11_dated_29 pc_X11_182 (s_X11_isSet (by first | assumption | exact hwf _ _ | exact dt_b32 _ | omega | exact ⟨by omega, by omega⟩ | decide | exact ⟨by simp (disch := omega) only [dt_up_s, dt_up_k, dt_up_n]; omega, by simp (disch := omega) only [dt_up_s, dt_up_k, dt_up_n]; omega⟩)) rfl rfl ⟨by decide, by decide⟩ (Nat.le_of_ble_eq_true rfl) ⟨by decide, by decide⟩ (dt_k3 ?_)
        refine dt_if_ne (tgt := 38) dX11_dated_32 (by decide) (by first | assumption | exact hwf _ _ | exact dt_b32 _ | omega | exact ⟨by omega, by omega⟩ | decide | exact ⟨by simp (disch := omega) only [dt_up_s, dt_up_k, dt_up_n]; omega, by simp (disch := omega) only [dt_up_s, dt_up_k, dt_up_n]; omega⟩) (fun c4 => ?_) (fun c4 => ?_)
        · skip
          try simp only [dt_b0, dt_b1, Decidable.not_not, Classical.not_not] at c4
          refine dt_aloadn dX11_dated_38 rfl rfl ?_
          refine dt_getR dX11_dated_39 pg_X11_10_11 rfl rfl ?_
          refine dt_iloadn dX11_dated_42 rfl rfl ?_
          refine dt_xV dX11_dated_43 pc_X11_86 rfl (s_X7_isMissing (by first | assumption | exact hwf _ _ | exact dt_b32 _ | omega | exact ⟨by omega, by omega⟩ | decide | exact ⟨by simp (disch := omega) only [dt_up_s, dt_up_k, dt_up_n]; omega, by simp (disch := omega) only [dt_up_s, dt_up_k, dt_up_n]; omega⟩) (by first | assumption | exact hwf _ _ | exact dt_b32 _ | omega | exact ⟨by omega, by omega⟩ | decide | exact ⟨by simp (disch := omega) only [dt_up_s, dt_up_k, dt_up_n]; omega, by simp (disch := omega) only [dt_up_s, dt_up_k, dt_up_n]; omega⟩)) rfl rfl ⟨by decide, by decide⟩ rfl rfl (Nat.le_of_ble_eq_true rfl) ⟨by decide, by decide⟩ (dt_k3 ?_)
          refine dt_if_eq (tgt := 55) dX11_dated_46 (by decide) (by first | assumption | exact hwf _ _ | exact dt_b32 _ | omega | exact ⟨by omega, by omega⟩ | decide | exact ⟨by simp (disch := omega) only [dt_up_s, dt_up_k, dt_up_n]; omega, by simp (disch := omega) only [dt_up_s, dt_up_k, dt_up_n]; omega⟩) (fun c5 => ?_) (fun c5 => ?_)
          · skip
            try simp only [dt_b0, dt_b1, Decidable.not_not, Classical.not_not] at c5
            have hrr := hI.row (r := r.toNat) (by omega)
            obtain ⟨q, hq, q1, q2, q3, q4, q5⟩ := hrr.some (by assumption)
            refine dt_aloadn dX11_dated_55 rfl rfl ?_
            refine dt_getR dX11_dated_56 pg_X11_10_11 rfl rfl ?_
            refine dt_iloadn dX11_dated_59 rfl rfl ?_
            refine dt_iloadn dX11_dated_60 rfl rfl ?_
            refine dt_iloadn dX11_dated_61 rfl rfl ?_
            refine dt_xV dX11_dated_62 pc_X11_89 rfl (s_X7_hasPlaces (by first | assumption | exact hwf _ _ | exact dt_b32 _ | omega | exact ⟨by omega, by omega⟩ | decide | exact ⟨by simp (disch := omega) only [dt_up_s, dt_up_k, dt_up_n]; omega, by simp (disch := omega) only [dt_up_s, dt_up_k, dt_up_n]; omega⟩) (by first | assumption | exact hwf _ _ | exact dt_b32 _ | omega | exact ⟨by omega, by omega⟩ | decide | exact ⟨by simp (disch := omega) only [dt_up_s, dt_up_k, dt_up_n]; omega, by simp (disch := omega) only [dt_up_s, dt_up_k, dt_up_n]; omega⟩) (by first | assumption | exact hwf _ _ | exact dt_b32 _ | omega | exact ⟨by omega, by omega⟩ | decide | exact ⟨by simp (disch := omega) only [dt_up_s, dt_up_k, dt_up_n]; omega, by simp (disch := omega) only [dt_up_s, dt_up_k, dt_up_n]; omega⟩) (by first | assumption | exact hwf _ _ | exact dt_b32 _ | omega | exact ⟨by omega, by omega⟩ | decide | exact ⟨by simp (disch := omega) only [dt_up_s, dt_up_k, dt_up_n]; omega, by simp (disch := omega) only [dt_up_s, dt_up_k, dt_up_n]; omega⟩)) rfl rfl ⟨by decide, by decide⟩ rfl rfl (Nat.le_of_ble_eq_true rfl) ⟨by decide, by decide⟩ (dt_k3 ?_)
            refine dt_if_ne (tgt := 74) dX11_dated_65 (by decide) (by first | assumption | exact hwf _ _ | exact dt_b32 _ | omega | exact ⟨by omega, by omega⟩ | decide | exact ⟨by simp (disch := omega) only [dt_up_s, dt_up_k, dt_up_n]; omega, by simp (disch := omega) only [dt_up_s, dt_up_k, dt_up_n]; omega⟩) (fun c6 => ?_) (fun c6 => ?_)
            · skip
              try simp only [dt_b0, dt_b1, Decidable.not_not, Classical.not_not] at c6
              have hcp : cHP σ r i n := by assumption
              obtain ⟨p1, p2, p3, p4⟩ := id hcp
              obtain ⟨i, rfl⟩ : ∃ z : Nat, i = z := ⟨i.toNat, by omega⟩
              obtain ⟨n, rfl⟩ : ∃ z : Nat, n = z := ⟨n.toNat, by omega⟩
              rw [hq] at hrr
              have sl := sub_len (l := q.2) (i := i) (n := n) (by omega)
              refine dt_iloadn dX11_dated_74 rfl rfl ?_
              refine dt_istore dX11_dated_75 (by decide) rfl ?_
              dsimp only [List.set]
              have lp77 : ∀ (fu : Nat) (j : Nat), (n : Int) - j < (fu : Int) → (j ≤ n) → (∀ x ∈ ((q.2.drop i).take n).take j, 0 ≤ x ∧ x ≤ 7) →  dt_V mX11_dated (dt_rm 6 0 0) (dt_MC (fun v sh2 σ2 => v = some (dt_I (oDated A r i n m).1) ∧ sh2 = dt_SH ++ ex ∧ cEnd ex σ σ2 (oDated A r i n m).2) 0 0) 0 0 77 [some (dt_R 0), some (dt_I r), some (dt_I (i : Int)), some (dt_I (n : Int)), some (dt_I m), some (dt_I ((i : Int) + j))] [] (dt_SH ++ ex) σ := by
                intro fu
                induction fu with
                | zero =>
                  intro j hm jl hall
                  exfalso
                  omega
                | succ fu ih =>
                  intro j hm jl hall
                  refine dt_wfV fun hwf => ?_
                  refine dt_iload dX11_dated_77 rfl ?_
                  refine dt_iloadn dX11_dated_79 rfl rfl ?_
                  refine dt_iloadn dX11_dated_80 rfl rfl ?_
                  refine dt_iadd dX11_dated_81 ?_
                  refine dt_cm_ge (tgt := 113) dX11_dated_82 (by decide) (by first | assumption | exact hwf _ _ | exact dt_b32 _ | omega | exact ⟨by omega, by omega⟩ | decide | exact ⟨by simp (disch := omega) only [dt_up_s, dt_up_k, dt_up_n]; omega, by simp (disch := omega) only [dt_up_s, dt_up_k, dt_up_n]; omega⟩) (by first | assumption | exact hwf _ _ | exact dt_b32 _ | omega | exact ⟨by omega, by omega⟩ | decide | exact ⟨by simp (disch := omega) only [dt_up_s, dt_up_k, dt_up_n]; omega, by simp (disch := omega) only [dt_up_s, dt_up_k, dt_up_n]; omega⟩) (fun c7 => ?_) (fun c7 => ?_)
                  · skip
                    obtain ⟨m, rfl⟩ : ∃ z : Nat, m = z := ⟨m.toNat, by omega⟩
                    have hal : ∀ x ∈ ((q.2.drop i).take n), 0 ≤ x ∧ x ≤ 7 := by rw [List.take_of_length_le (by omega)] at hall; exact hall
                    refine dt_aloadn dX11_dated_113 rfl rfl ?_
                    refine dt_aloadn dX11_dated_114 rfl rfl ?_
                    refine dt_iloadn dX11_dated_115 rfl rfl ?_
                    refine dt_iloadn dX11_dated_116 rfl rfl ?_
                    refine dt_iloadn dX11_dated_117 rfl rfl ?_
                    refine dt_iload dX11_dated_118 rfl ?_
                    refine dt_xV dX11_dated_120 pc_X11_224 rfl (s_X11_tonguesOf hc hok (by omega) (by omega) hrr (by omega) (by omega)) rfl rfl ⟨by decide, by decide⟩ rfl rfl (Nat.le_of_ble_eq_true rfl) ⟨by decide, by decide⟩ ?_
                    intro vs shs σs hqs
                    obtain ⟨rfl, hss, hfs⟩ := hqs
                    obtain rfl := hss.symm
                    refine dt_xV dX11_dated_123 pc_X11_83 rfl s_X11_well rfl rfl ⟨by decide, by decide⟩ rfl rfl (Nat.le_of_ble_eq_true rfl) ⟨by decide, by decide⟩ (dt_k3 ?_)
                    refine dt_iret dX11_dated_126 rfl (by decide) (by decide) ?_
                    rw [oDated_y (fun q => by have := dt_nn.mpr q; omega) (by omega) hq (by omega) hal]
                    exact ⟨rfl, rfl, (hI.sy (fun b hb => hfs b (by omega) (by omega))).st 0, fun b h1 h2 => (dt_up_o (by omega)).trans (hfs b (by omega) (by omega))⟩
                  · skip
                    obtain ⟨x, hx⟩ := dt_lg (l := q.2) (i := i + j) (by omega)
                    have hsub : ((q.2.drop i).take n)[j]? = some x := sub_at hx (by omega)
                    have hx32 : dt_in32 x := by have := hwf 4 (r.toNat * 40 + (i + j)); rw [q5 (i + j) x hx] at this; exact this
                    refine dt_aloadn dX11_dated_85 rfl rfl ?_
                    refine dt_getR dX11_dated_86 pg_X11_10_11 rfl rfl ?_
                    refine dt_iloadn dX11_dated_89 rfl rfl ?_
                    refine dt_iload dX11_dated_90 rfl ?_
                    refine dt_xV dX11_dated_92 pc_X11_204 rfl (s_X7_item (by omega) (by omega) ⟨by omega, by omega, by omega, by omega⟩ (by omega)) rfl rfl ⟨by decide, by decide⟩ rfl rfl (Nat.le_of_ble_eq_true rfl) ⟨by decide, by decide⟩ (dt_k3 ?_)
                    rw [show σ 4 (r * 40 + ((i : Int) + (j : Int))).toNat = x by rw [show (r * 40 + ((i : Int) + (j : Int))).toNat = r.toNat * 40 + (i + j) by omega]; exact q5 (i + j) x hx]
                    refine dt_iconst dX11_dated_95 ?_
                    refine dt_bipush dX11_dated_96 (by decide) ?_
                    refine dt_xS dX11_dated_98 pc_X11_70 (s_X11_isWithin hx32 (by decide) (by decide)) rfl rfl ⟨by decide, by decide⟩ (Nat.le_of_ble_eq_true rfl) ⟨by decide, by decide⟩ (dt_k3 ?_)
                    refine dt_if_ne (tgt := 107) dX11_dated_101 (by decide) (by first | assumption | exact hwf _ _ | exact dt_b32 _ | omega | exact ⟨by omega, by omega⟩ | decide | exact ⟨by simp (disch := omega) only [dt_up_s, dt_up_k, dt_up_n]; omega, by simp (disch := omega) only [dt_up_s, dt_up_k, dt_up_n]; omega⟩) (fun c8 => ?_) (fun c8 => ?_)
                    · skip
                      try simp only [dt_b0, dt_b1, Decidable.not_not, Classical.not_not] at c8
                      refine dt_iinc dX11_dated_107 rfl (by decide) rfl ?_
                      dsimp only [List.set]
                      refine dt_goto (tgt := 77) dX11_dated_110 (by decide) ?_
                      have hall2 : ∀ y ∈ ((q.2.drop i).take n).take (j + 1), 0 ≤ y ∧ y ≤ 7 := fun y hy => by
                        rw [List.take_add_one, hsub] at hy
                        rcases List.mem_append.mp hy with g | g
                        · exact hall y g
                        · obtain rfl := List.mem_singleton.mp g
                          omega
                      exact dt_lb (ih (j + 1) (by omega) (by omega) hall2) ⟨rfl, rfl, rfl, rfl, rfl, (dt_ie (by omega)), trivial⟩
                    · skip
                      try simp only [dt_b0, dt_b1, Decidable.not_not, Classical.not_not] at c8
                      refine dt_ldc dX11_dated_104 pk_X11_74 ?_
                      refine dt_iret dX11_dated_106 rfl (by decide) (by decide) ?_
                      rw [oDated_b (fun q => by have := dt_nn.mpr q; omega) (by omega) hq (by omega) (fun z => by have := z x (List.mem_of_getElem? hsub); omega)]
                      exact ⟨rfl, rfl, hI, fun b _ _ => rfl⟩
              exact dt_lb (lp77 50 0 (by omega) (by omega) (fun x hx => by simp at hx)) ⟨rfl, rfl, rfl, rfl, rfl, (dt_ie (by show (i : Int) = (i : Int) + ((0 : Nat) : Int); omega)), trivial⟩
            · skip
              try simp only [dt_b0, dt_b1, Decidable.not_not, Classical.not_not] at c6
              have hcp : ¬ cHP σ r i n := by assumption
              unfold cHP at hcp
              refine dt_aloadn dX11_dated_68 rfl rfl ?_
              refine dt_iconst dX11_dated_69 ?_
              refine dt_xV dX11_dated_70 pc_X11_75 rfl (s_X11_found (by first | assumption | exact hwf _ _ | exact dt_b32 _ | omega | exact ⟨by omega, by omega⟩ | decide | exact ⟨by simp (disch := omega) only [dt_up_s, dt_up_k, dt_up_n]; omega, by simp (disch := omega) only [dt_up_s, dt_up_k, dt_up_n]; omega⟩)) rfl rfl ⟨by decide, by decide⟩ rfl rfl (Nat.le_of_ble_eq_true rfl) ⟨by decide, by decide⟩ (dt_k3 ?_)
              refine dt_iret dX11_dated_73 rfl (by decide) (by decide) ?_
              have e : oDated A r i n m = (-1000012, sSt A 2) := by
                unfold oDated
                rw [if_neg (fun q => by have := dt_nn.mpr q; omega), if_neg (by omega)]
                simp only [hq]
                rw [if_pos (by omega)]
              rw [e]
              exact ⟨rfl, rfl, hI.st 2, fun b _ _ => dt_up_o (by omega)⟩
          · skip
            try simp only [dt_b0, dt_b1, Decidable.not_not, Classical.not_not] at c5
            have hrr := hI.row (r := r.toNat) (by omega)
            have hq := hrr.none (by assumption)
            refine dt_aloadn dX11_dated_49 rfl rfl ?_
            refine dt_iconst dX11_dated_50 ?_
            refine dt_xV dX11_dated_51 pc_X11_75 rfl (s_X11_found (by first | assumption | exact hwf _ _ | exact dt_b32 _ | omega | exact ⟨by omega, by omega⟩ | decide | exact ⟨by simp (disch := omega) only [dt_up_s, dt_up_k, dt_up_n]; omega, by simp (disch := omega) only [dt_up_s, dt_up_k, dt_up_n]; omega⟩)) rfl rfl ⟨by decide, by decide⟩ rfl rfl (Nat.le_of_ble_eq_true rfl) ⟨by decide, by decide⟩ (dt_k3 ?_)
            refine dt_iret dX11_dated_54 rfl (by decide) (by decide) ?_
            have e : oDated A r i n m = (-1000011, sSt A 1) := by
              unfold oDated
              rw [if_neg (fun q => by have := dt_nn.mpr q; omega), if_neg (by omega)]
              simp only [hq]
            rw [e]
            exact ⟨rfl, rfl, hI.st 1, fun b _ _ => dt_up_o (by omega)⟩
        · skip
          try simp only [dt_b0, dt_b1, Decidable.not_not, Classical.not_not] at c4
          refine dt_ldc dX11_dated_35 pk_X11_74 ?_
          refine dt_iret dX11_dated_37 rfl (by decide) (by decide) ?_
          have e : oDated A r i n m = (-1000001, A) := by
            unfold oDated
            rw [if_neg (fun q => by have := dt_nn.mpr q; omega), if_pos (by omega)]
          rw [e]
          exact ⟨rfl, rfl, hI, fun b _ _ => rfl⟩
  · skip
    try simp only [dt_b0, dt_b1, Decidable.not_not, Classical.not_not] at c1
    refine dt_ldc dX11_dated_7 pk_X11_136 ?_
    refine dt_iret dX11_dated_9 rfl (by decide) (by decide) ?_
    have e : oDated A r i n m = (-1000002, A) := by
      unfold oDated
      rw [if_pos (dt_nn.mp (by omega))]
    rw [e]
    exact ⟨rfl, rfl, hI, fun b _ _ => rfl⟩
theorem dj_or0 {a : Nat} (h : a < 2147483648) : dj_or (a : Int) 0 = (a : Int) := by
  have q := dj_or_nn (a := a) (b := 0) h (by decide)
  rw [Nat.or_zero] at q
  exact q
theorem xAt_big {X : dX} {t : Nat} {tg : List (Nat × List Nat)} {x : Int} (h : X.1[t]? = some tg) (hx : (tg.length : Int) ≤ x) : xAt X t x = none := by
  unfold xAt
  by_cases g : 0 ≤ (t : Int) ∧ 0 ≤ x
  · rw [if_pos g, Int.toNat_natCast, dt_gd h]
    exact List.getElem?_eq_none (by omega)
  · exact if_neg g
theorem s_X12_dated {ex : List dt_Shp} {σ : dt_Mem} {A : dS} {r i n m : Int} (hI : rInv σ A) (h_r : dt_in32 r) (h_i : dt_in32 i) (h_n : dt_in32 n) (h_m : dt_in32 m) (hok : dX_ok (sN A)) : dt_Sp mX12_dated 2 0 0 [dt_R 40, dt_I r, dt_I i, dt_I n, dt_I m] (dt_SH ++ ex) σ (fun v sh2 σ2 => v = some (dt_I (oDated A r i n m).1) ∧ sh2 = dt_SH ++ ex ∧ rEnd σ σ2 (oDated A r i n m).2) := by
  refine dt_Sp_of (by decide) (Nat.le_of_ble_eq_true rfl) ?_
  refine dt_wfV fun hwf => ?_
  show dt_V _ _ _ 0 0 0 [some (dt_R 40), some (dt_I r), some (dt_I i), some (dt_I n), some (dt_I m), none, none, none, none, none] [] _ _
  refine dt_aloadn dX12_dated_0 rfl rfl ?_
  refine dt_iconst dX12_dated_1 ?_
  refine dt_wfV fun hwf => ?_
  refine dt_putI dX12_dated_2 pw_X12_53_12 rfl rfl (by first | assumption | exact hwf _ _ | exact dt_b32 _ | omega | exact ⟨by omega, by omega⟩ | decide | exact ⟨by simp (disch := omega) only [dt_up_s, dt_up_k, dt_up_n]; omega, by simp (disch := omega) only [dt_up_s, dt_up_k, dt_up_n]; omega⟩) ?_
  obtain ⟨σa, ea⟩ : ∃ z, z = dt_up σ 40 0 0 := ⟨_, rfl⟩
  rw [← ea]
  have hA := hI.up40 0 0 (by decide)
  rw [← ea] at hA
  have fa : ∀ b, (b < 40 ∨ 55 ≤ b) → σa b = σ b := fun b hb => by rw [ea]; exact dt_up_o (by omega)
  clear ea
  refine dt_wfV fun hwf => ?_
  have hX := hA.X hok
  have e0 := hX.t
  have e2 := hX.2.1
  have e7 := hA.2.2.1.2
  refine dt_aloadn dX12_dated_5 rfl rfl ?_
  refine dt_getI dX12_dated_6 pg_X12_179_12 rfl rfl ?_
  refine dt_if_ne (tgt := 15) dX12_dated_9 (by decide) (by first | assumption | exact hwf _ _ | exact dt_b32 _ | omega | exact ⟨by omega, by omega⟩ | decide | exact ⟨by simp (disch := omega) only [dt_up_s, dt_up_k, dt_up_n]; omega, by simp (disch := omega) only [dt_up_s, dt_up_k, dt_up_n]; omega⟩) (fun c1 => ?_) (fun c1 => ?_)
  · skip
    rw [e7] at c1
    have hn : ¬ (sN A).1 = [] := by simpa [dt_b0] using c1
    have hn0 : 0 < (sN A).1.length := Nat.pos_of_ne_zero (fun q => hn (dt_nn.mp q))
    refine dt_iloadn dX12_dated_15 rfl rfl ?_
    refine dt_xS dX12_dated_16 pc_X12_67 (s_X12_isRow (by first | assumption | exact hwf _ _ | exact dt_b32 _ | omega | exact ⟨by omega, by omega⟩ | decide | exact ⟨by simp (disch := omega) only [dt_up_s, dt_up_k, dt_up_n]; omega, by simp (disch := omega) only [dt_up_s, dt_up_k, dt_up_n]; omega⟩)) rfl rfl ⟨by decide, by decide⟩ (Nat.le_of_ble_eq_true rfl) ⟨by decide, by decide⟩ (dt_k3 ?_)
    refine dt_if_eq (tgt := 47) dX12_dated_19 (by decide) (by first | assumption | exact hwf _ _ | exact dt_b32 _ | omega | exact ⟨by omega, by omega⟩ | decide | exact ⟨by simp (disch := omega) only [dt_up_s, dt_up_k, dt_up_n]; omega, by simp (disch := omega) only [dt_up_s, dt_up_k, dt_up_n]; omega⟩) (fun c2 => ?_) (fun c2 => ?_)
    · skip
      try simp only [dt_b0, dt_b1, Decidable.not_not, Classical.not_not] at c2
      refine dt_ldc dX12_dated_47 pk_X12_73 ?_
      refine dt_iret dX12_dated_49 rfl (by decide) (by decide) ?_
      have e : oDated A r i n m = (-1000001, A) := by
        unfold oDated
        rw [if_neg hn, if_pos (by omega)]
      rw [e]
      exact ⟨rfl, rfl, hA, fa⟩
    · skip
      try simp only [dt_b0, dt_b1, Decidable.not_not, Classical.not_not] at c2
      refine dt_iloadn dX12_dated_22 rfl rfl ?_
      refine dt_ui2l dX12_dated_23 (by first | assumption | exact hwf _ _ | exact dt_b32 _ | omega | exact ⟨by omega, by omega⟩ | decide | exact ⟨by simp (disch := omega) only [dt_up_s, dt_up_k, dt_up_n]; omega, by simp (disch := omega) only [dt_up_s, dt_up_k, dt_up_n]; omega⟩) ?_
      refine dt_lconst (x := 0) dX12_dated_24 (by decide) ?_
      refine dt_ldc2 dX12_dated_25 pk_X12_226 ?_
      refine dt_xS dX12_dated_28 pc_X12_63 (s_X12_in (by first | exact ⟨by omega, by omega⟩ | decide) (by first | exact ⟨by omega, by omega⟩ | decide) (by first | exact ⟨by omega, by omega⟩ | decide)) rfl rfl ⟨by decide, by decide⟩ (Nat.le_of_ble_eq_true rfl) ⟨by decide, by decide⟩ (dt_k3 ?_)
      refine dt_if_eq (tgt := 47) dX12_dated_31 (by decide) (by first | assumption | exact hwf _ _ | exact dt_b32 _ | omega | exact ⟨by omega, by omega⟩ | decide | exact ⟨by simp (disch := omega) only [dt_up_s, dt_up_k, dt_up_n]; omega, by simp (disch := omega) only [dt_up_s, dt_up_k, dt_up_n]; omega⟩) (fun c3 => ?_) (fun c3 => ?_)
      · skip
        try simp only [dt_b0, dt_b1, Decidable.not_not, Classical.not_not] at c3
        refine dt_ldc dX12_dated_47 pk_X12_73 ?_
        refine dt_iret dX12_dated_49 rfl (by decide) (by decide) ?_
        have e : oDated A r i n m = (-1000001, A) := by
          unfold oDated
          rw [if_neg hn, if_pos (by omega)]
        rw [e]
        exact ⟨rfl, rfl, hA, fa⟩
      · skip
        try simp only [dt_b0, dt_b1, Decidable.not_not, Classical.not_not] at c3
        refine dt_iload dX12_dated_34 rfl ?_
        refine dt_ui2l dX12_dated_36 (by first | assumption | exact hwf _ _ | exact dt_b32 _ | omega | exact ⟨by omega, by omega⟩ | decide | exact ⟨by simp (disch := omega) only [dt_up_s, dt_up_k, dt_up_n]; omega, by simp (disch := omega) only [dt_up_s, dt_up_k, dt_up_n]; omega⟩) ?_
        refine dt_lconst (x := 0) dX12_dated_37 (by decide) ?_
        refine dt_ldc2 dX12_dated_38 pk_X12_84 ?_
        refine dt_xS dX12_dated_41 pc_X12_63 (s_X12_in (by first | exact ⟨by omega, by omega⟩ | decide) (by first | exact ⟨by omega, by omega⟩ | decide) (by first | exact ⟨by omega, by omega⟩ | decide)) rfl rfl ⟨by decide, by decide⟩ (Nat.le_of_ble_eq_true rfl) ⟨by decide, by decide⟩ (dt_k3 ?_)
        refine dt_if_ne (tgt := 50) dX12_dated_44 (by decide) (by first | assumption | exact hwf _ _ | exact dt_b32 _ | omega | exact ⟨by omega, by omega⟩ | decide | exact ⟨by simp (disch := omega) only [dt_up_s, dt_up_k, dt_up_n]; omega, by simp (disch := omega) only [dt_up_s, dt_up_k, dt_up_n]; omega⟩) (fun c4 => ?_) (fun c4 => ?_)
        · skip
          try simp only [dt_b0, dt_b1, Decidable.not_not, Classical.not_not] at c4
          refine dt_aloadn dX12_dated_50 rfl rfl ?_
          refine dt_iloadn dX12_dated_51 rfl rfl ?_
          refine dt_iloadn dX12_dated_52 rfl rfl ?_
          refine dt_iloadn dX12_dated_53 rfl rfl ?_
          refine dt_xV dX12_dated_54 pc_X12_228 rfl (s_X12_lack (by omega) (by omega) (by omega) (by omega) (hA.row (r := r.toNat) (by omega))) rfl rfl ⟨by decide, by decide⟩ rfl rfl (Nat.le_of_ble_eq_true rfl) ⟨by decide, by decide⟩ (dt_k3 ?_)
          obtain ⟨lo, hl⟩ : ∃ z, z = lk (sR A r.toNat) i n := ⟨_, rfl⟩
          rw [← hl]
          have hlr : 0 ≤ lo ∧ lo ≤ 2 := by rw [hl]; exact lk_in _ _ _
          refine dt_istore dX12_dated_57 (by decide) rfl ?_
          dsimp only [List.set]
          refine dt_iload dX12_dated_59 rfl ?_
          refine dt_if_le (tgt := 71) dX12_dated_61 (by decide) (by first | assumption | exact hwf _ _ | exact dt_b32 _ | omega | exact ⟨by omega, by omega⟩ | decide | exact ⟨by simp (disch := omega) only [dt_up_s, dt_up_k, dt_up_n]; omega, by simp (disch := omega) only [dt_up_s, dt_up_k, dt_up_n]; omega⟩) (fun c5 => ?_) (fun c5 => ?_)
          · skip
            obtain ⟨q, hq⟩ : ∃ q, sR A r.toNat = some q := by
              cases hq : sR A r.toNat with
              | none => rw [hq] at hl; have hl : lo = 1 := hl; omega
              | some q => exact ⟨q, rfl⟩
            have hin : 0 ≤ i ∧ i + n ≤ (q.2.length : Int) := by
              by_cases g : 0 ≤ i ∧ i + n ≤ (q.2.length : Int)
              · exact g
              · rw [hq, show lk (some q) i n = 2 from if_neg g] at hl; omega
            have hrr := hA.row (r := r.toNat) (by omega)
            rw [hq] at hrr
            obtain ⟨q1, q2, q3, q4, q5⟩ := hRow_it hrr
            obtain ⟨i, rfl⟩ : ∃ z : Nat, i = z := ⟨i.toNat, by omega⟩
            obtain ⟨n, rfl⟩ : ∃ z : Nat, n = z := ⟨n.toNat, by omega⟩
            have sl := sub_len (l := q.2) (i := i) (n := n) (by omega)
            have hwfa := hwf
            refine dt_iconst dX12_dated_71 ?_
            refine dt_istore dX12_dated_72 (by decide) rfl ?_
            dsimp only [List.set]
            refine dt_iconst dX12_dated_74 ?_
            refine dt_istore dX12_dated_75 (by decide) rfl ?_
            dsimp only [List.set]
            have lp77 : ∀ (fu : Nat) (z M : Nat), (n : Int) - z < (fu : Int) → (z ≤ n) → (∀ x ∈ (((q.2.drop i).take n).take z), 0 ≤ x ∧ x ≤ 7) → (∀ x ∈ (((q.2.drop i).take n).take z), x + 1 ≤ (M : Int)) → ((M : Int) = 0 ∨ ∃ x ∈ (((q.2.drop i).take n).take z), x + 1 = (M : Int)) → (M ≤ 8) →  dt_V mX12_dated (dt_rm 2 0 0) (dt_MC (fun v sh2 σ2 => v = some (dt_I (oDated A r i n m).1) ∧ sh2 = dt_SH ++ ex ∧ rEnd σ σ2 (oDated A r i n m).2) 0 0) 0 0 77 [some (dt_R 40), some (dt_I r), some (dt_I (i : Int)), some (dt_I (n : Int)), some (dt_I m), some (dt_I lo), some (dt_I (M : Int)), some (dt_I (z : Int)), none, none] [] (dt_SH ++ ex) σa := by
              intro fu
              induction fu with
              | zero =>
                intro z M hm zl hall hM1 hM2 hM8
                exfalso
                omega
              | succ fu ih =>
                intro z M hm zl hall hM1 hM2 hM8
                refine dt_wfV fun hwf => ?_
                refine dt_iload dX12_dated_77 rfl ?_
                refine dt_iloadn dX12_dated_79 rfl rfl ?_
                refine dt_cm_ge (tgt := 141) dX12_dated_80 (by decide) (by first | assumption | exact hwf _ _ | exact dt_b32 _ | omega | exact ⟨by omega, by omega⟩ | decide | exact ⟨by simp (disch := omega) only [dt_up_s, dt_up_k, dt_up_n]; omega, by simp (disch := omega) only [dt_up_s, dt_up_k, dt_up_n]; omega⟩) (by first | assumption | exact hwf _ _ | exact dt_b32 _ | omega | exact ⟨by omega, by omega⟩ | decide | exact ⟨by simp (disch := omega) only [dt_up_s, dt_up_k, dt_up_n]; omega, by simp (disch := omega) only [dt_up_s, dt_up_k, dt_up_n]; omega⟩) (fun c6 => ?_) (fun c6 => ?_)
                · skip
                  refine dt_aloadn dX12_dated_141 rfl rfl ?_
                  refine dt_iconst dX12_dated_142 ?_
                  refine dt_wfV fun hwf => ?_
                  refine dt_putI dX12_dated_143 pw_X12_57_12 rfl rfl (by first | assumption | exact hwf _ _ | exact dt_b32 _ | omega | exact ⟨by omega, by omega⟩ | decide | exact ⟨by simp (disch := omega) only [dt_up_s, dt_up_k, dt_up_n]; omega, by simp (disch := omega) only [dt_up_s, dt_up_k, dt_up_n]; omega⟩) ?_
                  obtain ⟨σb, eb⟩ : ∃ z, z = dt_up σa 40 1 0 := ⟨_, rfl⟩
                  rw [← eb]
                  have hB := hA.st 0
                  rw [← eb] at hB
                  have fb : ∀ b, (b < 40 ∨ 55 ≤ b) → σb b = σ b := fun b hb => by rw [eb, dt_up_o (by omega)]; exact fa b hb
                  have fb2 : ∀ b, b ≠ 40 → σb b = σa b := fun b hb => by rw [eb]; exact dt_up_o hb
                  clear eb
                  refine dt_wfV fun hwf => ?_
                  have fb43 : σb 43 = σa 43 := fb2 43 (by decide)
                  have hXb : rX σb (sN A) := hX.kept (fb2 44 (by decide))
                  have hzn : z = n := by omega
                  have hMt : ((q.2.drop i).take n).take z = ((q.2.drop i).take n) := List.take_of_length_le (by omega)
                  rw [hMt] at hall hM1 hM2
                  refine dt_iconst dX12_dated_146 ?_
                  refine dt_istore dX12_dated_147 (by decide) rfl ?_
                  dsimp only [List.set]
                  refine dt_iconst dX12_dated_149 ?_
                  refine dt_istore dX12_dated_150 (by decide) rfl ?_
                  dsimp only [List.set]
                  have lp152 : ∀ (fu : Nat) (t : Nat) (σ1 : dt_Mem), ((sN A).1.length : Int) - t < (fu : Int) → (t ≤ (sN A).1.length) → (∀ b, b ≠ 47 → b ≠ 48 → σ1 b = σb b) →  dt_V mX12_dated (dt_rm 2 0 0) (dt_MC (fun v sh2 σ2 => v = some (dt_I (oDated A r i n m).1) ∧ sh2 = dt_SH ++ ex ∧ rEnd σ σ2 (oDated A r i n m).2) 0 0) 0 0 152 [some (dt_R 40), some (dt_I r), some (dt_I (i : Int)), some (dt_I (n : Int)), some (dt_I m), some (dt_I lo), some (dt_I (M : Int)), some (dt_I ((xDat (sN A) ((q.2.drop i).take n) m.toNat t : Nat) : Int)), some (dt_I (t : Int)), none] [] (dt_SH ++ ex) σ1 := by
                    intro fu
                    induction fu with
                    | zero =>
                      intro t σ1 hm tl jf
                      exfalso
                      omega
                    | succ fu ih =>
                      intro t σ1 hm tl jf
                      refine dt_wfV fun hwf => ?_
                      have ih0 := ih
                      have xl := xDat_lt (X := sN A) (l := ((q.2.drop i).take n)) (m := m.toNat) t
                      have hX1 : rX σ1 (sN A) := hXb.kept (jf 44 (by decide) (by decide))
                      refine dt_iload dX12_dated_152 rfl ?_
                      refine dt_aloadn dX12_dated_154 rfl rfl ?_
                      refine dt_getR dX12_dated_155 pg_X12_19_12 rfl rfl ?_
                      refine dt_iconst dX12_dated_158 ?_
                      refine dt_iald dX12_dated_159 rfl (by first | omega | (simp (disch := omega) only [dt_up_s, dt_up_k, dt_up_n]; omega)) (by first | omega | (simp (disch := omega) only [dt_up_s, dt_up_k, dt_up_n]; omega)) (by decide) ?_
                      rw [show Int.toNat 0 = 0 from rfl, hX1.t]
                      refine dt_cm_ge (tgt := 259) dX12_dated_160 (by decide) (by first | assumption | exact hwf _ _ | exact dt_b32 _ | omega | exact ⟨by omega, by omega⟩ | decide | exact ⟨by simp (disch := omega) only [dt_up_s, dt_up_k, dt_up_n]; omega, by simp (disch := omega) only [dt_up_s, dt_up_k, dt_up_n]; omega⟩) (by first | assumption | exact hwf _ _ | exact dt_b32 _ | omega | exact ⟨by omega, by omega⟩ | decide | exact ⟨by simp (disch := omega) only [dt_up_s, dt_up_k, dt_up_n]; omega, by simp (disch := omega) only [dt_up_s, dt_up_k, dt_up_n]; omega⟩) (fun c7 => ?_) (fun c7 => ?_)
                      · skip
                        refine dt_iload dX12_dated_259 rfl ?_
                        refine dt_iret dX12_dated_261 rfl (by decide) (by decide) ?_
                        rw [oDated_y hn (by omega) hq (by omega) hall, show (sN A).1.length = t by omega]
                        exact ⟨rfl, rfl, hB.sy (fun k _ => by rw [jf 40 (by decide) (by decide)]) (fun b h1 h2 h3 => jf b (by omega) (by omega)), fun b hb => (jf b (by omega) (by omega)).trans (fb b hb)⟩
                      · skip
                        obtain ⟨tg, htg⟩ := dt_lg (l := (sN A).1) (i := t) (by omega)
                        obtain ⟨f1, f2, f3, f4, f5⟩ := hX1.tg htg
                        refine dt_aloadn dX12_dated_163 rfl rfl ?_
                        refine dt_xV dX12_dated_164 pc_X12_234 rfl s_X12_startMeaning rfl rfl ⟨by decide, by decide⟩ rfl rfl (Nat.le_of_ble_eq_true rfl) ⟨by decide, by decide⟩ ?_
                        intro vs shs σs hqs
                        obtain ⟨rfl, hss, hfs, hMs⟩ := hqs
                        obtain rfl := hss.symm
                        refine dt_iconst dX12_dated_167 ?_
                        refine dt_istore dX12_dated_168 (by decide) rfl ?_
                        dsimp only [List.set]
                        have lp170 : ∀ (fu : Nat) (z : Nat) (P : Nat → Prop) (σ2 : dt_Mem), (n : Int) - z < (fu : Int) → (z ≤ n) → (∀ b, b ≠ 47 → b ≠ 48 → σ2 b = σb b) → (mP σ2 47 256 P) → (xSd (sN A) t (((q.2.drop i).take n).take z) = some P) → (0 < z → M ≤ tg.length) →  dt_V mX12_dated (dt_rm 2 0 0) (dt_MC (fun v sh2 σ2 => v = some (dt_I (oDated A r i n m).1) ∧ sh2 = dt_SH ++ ex ∧ rEnd σ σ2 (oDated A r i n m).2) 0 0) 0 0 170 [some (dt_R 40), some (dt_I r), some (dt_I (i : Int)), some (dt_I (n : Int)), some (dt_I m), some (dt_I lo), some (dt_I (M : Int)), some (dt_I ((xDat (sN A) ((q.2.drop i).take n) m.toNat t : Nat) : Int)), some (dt_I (t : Int)), some (dt_I (z : Int))] [] (dt_SH ++ ex) σ2 := by
                          intro fu
                          induction fu with
                          | zero =>
                            intro z P σ2 hm zl kf km kp kk
                            exfalso
                            omega
                          | succ fu ih =>
                            intro z P σ2 hm zl kf km kp kk
                            refine dt_wfV fun hwf => ?_
                            refine dt_iload dX12_dated_170 rfl ?_
                            refine dt_iloadn dX12_dated_172 rfl rfl ?_
                            refine dt_cm_ge (tgt := 216) dX12_dated_173 (by decide) (by first | assumption | exact hwf _ _ | exact dt_b32 _ | omega | exact ⟨by omega, by omega⟩ | decide | exact ⟨by simp (disch := omega) only [dt_up_s, dt_up_k, dt_up_n]; omega, by simp (disch := omega) only [dt_up_s, dt_up_k, dt_up_n]; omega⟩) (by first | assumption | exact hwf _ _ | exact dt_b32 _ | omega | exact ⟨by omega, by omega⟩ | decide | exact ⟨by simp (disch := omega) only [dt_up_s, dt_up_k, dt_up_n]; omega, by simp (disch := omega) only [dt_up_s, dt_up_k, dt_up_n]; omega⟩) (fun c8 => ?_) (fun c8 => ?_)
                            · skip
                              have hMl : M ≤ tg.length := by
                                by_cases g : 0 < z
                                · exact kk g
                                · have gz : z = 0 := by omega
                                  have gn : n = 0 := by omega
                                  rcases hM2 with h | ⟨y, hy, h⟩
                                  · omega
                                  · rw [gn] at hy; simp at hy
                              have hP : xSd (sN A) t ((q.2.drop i).take n) = some P := by rw [← xSd_e (show ((q.2.drop i).take n).length ≤ z by omega)]; exact kp
                              refine dt_iload dX12_dated_216 rfl ?_
                              refine dt_iload dX12_dated_218 rfl ?_
                              refine dt_aloadn dX12_dated_220 rfl rfl ?_
                              refine dt_getR dX12_dated_221 pg_X12_19_12 rfl rfl ?_
                              refine dt_iconst dX12_dated_224 ?_
                              refine dt_iload dX12_dated_225 rfl ?_
                              refine dt_iadd dX12_dated_227 ?_
                              refine dt_iald dX12_dated_228 rfl (by first | omega | (simp (disch := omega) only [dt_up_s, dt_up_k, dt_up_n]; omega)) (by first | omega | (simp (disch := omega) only [dt_up_s, dt_up_k, dt_up_n]; omega)) (by decide) ?_
                              rw [show ((3 : Int) + (t : Int)).toNat = 3 + t by omega, show σ2 44 (3 + t) = tg.length by rw [congrFun (kf 44 (by decide) (by decide)) _]; rw [congrFun (jf 44 (by decide) (by decide)) _] at f1; exact f1]
                              refine dt_cm_gt (tgt := 249) dX12_dated_229 (by decide) (by first | assumption | exact hwf _ _ | exact dt_b32 _ | omega | exact ⟨by omega, by omega⟩ | decide | exact ⟨by simp (disch := omega) only [dt_up_s, dt_up_k, dt_up_n]; omega, by simp (disch := omega) only [dt_up_s, dt_up_k, dt_up_n]; omega⟩) (by first | assumption | exact hwf _ _ | exact dt_b32 _ | omega | exact ⟨by omega, by omega⟩ | decide | exact ⟨by simp (disch := omega) only [dt_up_s, dt_up_k, dt_up_n]; omega, by simp (disch := omega) only [dt_up_s, dt_up_k, dt_up_n]; omega⟩) (fun c9 => ?_) (fun c9 => ?_)
                              · skip
                                first | exact absurd c9 (by omega) | exact absurd c9 (by decide) | exact absurd rfl c9
                              · skip
                                refine dt_aloadn dX12_dated_232 rfl rfl ?_
                                refine dt_getR dX12_dated_233 pg_X12_28_12 rfl rfl ?_
                                refine dt_iload dX12_dated_236 rfl ?_
                                refine dt_zald dX12_dated_238 rfl (by first | omega | (simp (disch := omega) only [dt_up_s, dt_up_k, dt_up_n]; omega)) (by first | omega | (simp (disch := omega) only [dt_up_s, dt_up_k, dt_up_n]; omega)) (by decide) ?_
                                rw [km m.toNat (by omega)]
                                refine dt_if_eq (tgt := 249) dX12_dated_239 (by decide) (by first | assumption | exact hwf _ _ | exact dt_b32 _ | omega | exact ⟨by omega, by omega⟩ | decide | exact ⟨by simp (disch := omega) only [dt_up_s, dt_up_k, dt_up_n]; omega, by simp (disch := omega) only [dt_up_s, dt_up_k, dt_up_n]; omega⟩) (fun c10 => ?_) (fun c10 => ?_)
                                · skip
                                  try simp only [dt_b0, dt_b1, Decidable.not_not, Classical.not_not] at c10
                                  have hnp : ¬ ∃ P, xSd (sN A) t ((q.2.drop i).take n) = some P ∧ P m.toNat := fun ⟨P2, z, z2⟩ => by
                                    rw [hP] at z
                                    obtain rfl := Option.some.inj z
                                    exact absurd z2 (by assumption)
                                  refine dt_iconst dX12_dated_249 ?_
                                  refine dt_ior dX12_dated_250 ?_
                                  have p7 : 2 ^ t ≤ 2 ^ 7 := Nat.pow_le_pow_right (by decide) (by omega)
                                  have p8 : (2 : Nat) ^ 7 = 128 := by decide
                                  rw [dj_or0 (by omega)]
                                  refine dt_istore dX12_dated_251 (by decide) rfl ?_
                                  dsimp only [List.set]
                                  refine dt_iinc dX12_dated_253 rfl (by decide) rfl ?_
                                  dsimp only [List.set]
                                  refine dt_goto (tgt := 152) dX12_dated_256 (by decide) ?_
                                  have hval : (((xDat (sN A) ((q.2.drop i).take n) m.toNat t : Nat)) : Int) = ((xDat (sN A) ((q.2.drop i).take n) m.toNat (t + 1) : Nat) : Int) := by rw [xDat_n hnp]
                                  exact dt_lb (ih0 (t + 1) σ2 (by omega) (by omega) kf) ⟨rfl, rfl, rfl, rfl, rfl, rfl, rfl, (dt_ie hval), rfl, trivial⟩
                                · skip
                                  try simp only [dt_b0, dt_b1, Decidable.not_not, Classical.not_not] at c10
                                  have hPm : P m.toNat := by assumption
                                  refine dt_iconst dX12_dated_242 ?_
                                  refine dt_iload dX12_dated_243 rfl ?_
                                  refine dt_ishl dX12_dated_245 ?_
                                  rw [dj_shl1 (by omega)]
                                  refine dt_goto (tgt := 250) dX12_dated_246 (by decide) ?_
                                  refine dt_ior dX12_dated_250 ?_
                                  have p7 : 2 ^ t ≤ 2 ^ 7 := Nat.pow_le_pow_right (by decide) (by omega)
                                  have p8 : (2 : Nat) ^ 7 = 128 := by decide
                                  rw [dj_or_nn (by omega) (by omega)]
                                  refine dt_istore dX12_dated_251 (by decide) rfl ?_
                                  dsimp only [List.set]
                                  refine dt_iinc dX12_dated_253 rfl (by decide) rfl ?_
                                  dsimp only [List.set]
                                  refine dt_goto (tgt := 152) dX12_dated_256 (by decide) ?_
                                  have hval : ((xDat (sN A) ((q.2.drop i).take n) m.toNat t ||| 2 ^ t : Nat) : Int) = ((xDat (sN A) ((q.2.drop i).take n) m.toNat (t + 1) : Nat) : Int) := by rw [xDat_y hP hPm]
                                  exact dt_lb (ih0 (t + 1) σ2 (by omega) (by omega) kf) ⟨rfl, rfl, rfl, rfl, rfl, rfl, rfl, (dt_ie hval), rfl, trivial⟩
                            · skip
                              refine dt_iload dX12_dated_176 rfl ?_
                              refine dt_aloadn dX12_dated_178 rfl rfl ?_
                              refine dt_getR dX12_dated_179 pg_X12_19_12 rfl rfl ?_
                              refine dt_iconst dX12_dated_182 ?_
                              refine dt_iload dX12_dated_183 rfl ?_
                              refine dt_iadd dX12_dated_185 ?_
                              refine dt_iald dX12_dated_186 rfl (by first | omega | (simp (disch := omega) only [dt_up_s, dt_up_k, dt_up_n]; omega)) (by first | omega | (simp (disch := omega) only [dt_up_s, dt_up_k, dt_up_n]; omega)) (by decide) ?_
                              rw [show ((3 : Int) + (t : Int)).toNat = 3 + t by omega, show σ2 44 (3 + t) = tg.length by rw [congrFun (kf 44 (by decide) (by decide)) _]; rw [congrFun (jf 44 (by decide) (by decide)) _] at f1; exact f1]
                              refine dt_cm_gt (tgt := 216) dX12_dated_187 (by decide) (by first | assumption | exact hwf _ _ | exact dt_b32 _ | omega | exact ⟨by omega, by omega⟩ | decide | exact ⟨by simp (disch := omega) only [dt_up_s, dt_up_k, dt_up_n]; omega, by simp (disch := omega) only [dt_up_s, dt_up_k, dt_up_n]; omega⟩) (by first | assumption | exact hwf _ _ | exact dt_b32 _ | omega | exact ⟨by omega, by omega⟩ | decide | exact ⟨by simp (disch := omega) only [dt_up_s, dt_up_k, dt_up_n]; omega, by simp (disch := omega) only [dt_up_s, dt_up_k, dt_up_n]; omega⟩) (fun c11 => ?_) (fun c11 => ?_)
                              · skip
                                have hMb : tg.length < M := by omega
                                have hno : xSd (sN A) t ((q.2.drop i).take n) = none := by
                                  rcases hM2 with h | ⟨y, hy, h⟩
                                  · omega
                                  · obtain ⟨j, hj⟩ := List.getElem?_of_mem hy
                                    exact xSd_no hj (xAt_big htg (by omega))
                                have hnp : ¬ ∃ P, xSd (sN A) t ((q.2.drop i).take n) = some P ∧ P m.toNat := fun ⟨P, z, _⟩ => by rw [hno] at z; cases z
                                refine dt_iload dX12_dated_216 rfl ?_
                                refine dt_iload dX12_dated_218 rfl ?_
                                refine dt_aloadn dX12_dated_220 rfl rfl ?_
                                refine dt_getR dX12_dated_221 pg_X12_19_12 rfl rfl ?_
                                refine dt_iconst dX12_dated_224 ?_
                                refine dt_iload dX12_dated_225 rfl ?_
                                refine dt_iadd dX12_dated_227 ?_
                                refine dt_iald dX12_dated_228 rfl (by first | omega | (simp (disch := omega) only [dt_up_s, dt_up_k, dt_up_n]; omega)) (by first | omega | (simp (disch := omega) only [dt_up_s, dt_up_k, dt_up_n]; omega)) (by decide) ?_
                                rw [show ((3 : Int) + (t : Int)).toNat = 3 + t by omega, show σ2 44 (3 + t) = tg.length by rw [congrFun (kf 44 (by decide) (by decide)) _]; rw [congrFun (jf 44 (by decide) (by decide)) _] at f1; exact f1]
                                refine dt_cm_gt (tgt := 249) dX12_dated_229 (by decide) (by first | assumption | exact hwf _ _ | exact dt_b32 _ | omega | exact ⟨by omega, by omega⟩ | decide | exact ⟨by simp (disch := omega) only [dt_up_s, dt_up_k, dt_up_n]; omega, by simp (disch := omega) only [dt_up_s, dt_up_k, dt_up_n]; omega⟩) (by first | assumption | exact hwf _ _ | exact dt_b32 _ | omega | exact ⟨by omega, by omega⟩ | decide | exact ⟨by simp (disch := omega) only [dt_up_s, dt_up_k, dt_up_n]; omega, by simp (disch := omega) only [dt_up_s, dt_up_k, dt_up_n]; omega⟩) (fun c12 => ?_) (fun c12 => ?_)
                                · skip
                                  refine dt_iconst dX12_dated_249 ?_
                                  refine dt_ior dX12_dated_250 ?_
                                  have p7 : 2 ^ t ≤ 2 ^ 7 := Nat.pow_le_pow_right (by decide) (by omega)
                                  have p8 : (2 : Nat) ^ 7 = 128 := by decide
                                  rw [dj_or0 (by omega)]
                                  refine dt_istore dX12_dated_251 (by decide) rfl ?_
                                  dsimp only [List.set]
                                  refine dt_iinc dX12_dated_253 rfl (by decide) rfl ?_
                                  dsimp only [List.set]
                                  refine dt_goto (tgt := 152) dX12_dated_256 (by decide) ?_
                                  have hval : (((xDat (sN A) ((q.2.drop i).take n) m.toNat t : Nat)) : Int) = ((xDat (sN A) ((q.2.drop i).take n) m.toNat (t + 1) : Nat) : Int) := by rw [xDat_n hnp]
                                  exact dt_lb (ih0 (t + 1) σ2 (by omega) (by omega) kf) ⟨rfl, rfl, rfl, rfl, rfl, rfl, rfl, (dt_ie hval), rfl, trivial⟩
                                · skip
                                  first | exact absurd c12 (by omega) | exact absurd c12 (by decide) | exact absurd rfl c12
                              · skip
                                have hMl : M ≤ tg.length := by omega
                                obtain ⟨x, hx⟩ := dt_lg (l := q.2) (i := i + z) (by omega)
                                have hsub : ((q.2.drop i).take n)[z]? = some x := sub_at hx (by omega)
                                have hx32 : dt_in32 x := by have := hwfa 43 (r.toNat * 40 + (i + z)); rw [q5 (i + z) x hx] at this; exact this
                                refine dt_aloadn dX12_dated_190 rfl rfl ?_
                                refine dt_iload dX12_dated_191 rfl ?_
                                refine dt_aloadn dX12_dated_193 rfl rfl ?_
                                refine dt_getR dX12_dated_194 pg_X12_16_12 rfl rfl ?_
                                refine dt_bipush dX12_dated_197 (by decide) ?_
                                refine dt_iloadn dX12_dated_199 rfl rfl ?_
                                refine dt_imul dX12_dated_200 ?_
                                refine dt_iloadn dX12_dated_201 rfl rfl ?_
                                refine dt_iadd dX12_dated_202 ?_
                                refine dt_iload dX12_dated_203 rfl ?_
                                refine dt_iadd dX12_dated_205 ?_
                                refine dt_iald dX12_dated_206 rfl (by first | omega | (simp (disch := omega) only [dt_up_s, dt_up_k, dt_up_n]; omega)) (by first | omega | (simp (disch := omega) only [dt_up_s, dt_up_k, dt_up_n]; omega)) (by decide) ?_
                                rw [show σ2 43 ((40 : Int) * r + (i : Int) + (z : Int)).toNat = x by rw [kf 43 (by decide) (by decide), fb43]; exact (show σa 43 ((40 : Int) * r + (i : Int) + (z : Int)).toNat = x by rw [show ((40 : Int) * r + (i : Int) + (z : Int)).toNat = r.toNat * 40 + (i + z) by omega]; exact q5 (i + z) x hx)]
                                have hxr := hall x (List.mem_of_getElem? hsub)
                                have hxM := hM1 x (List.mem_of_getElem? hsub)
                                obtain ⟨w, hxw⟩ : ∃ w : Nat, x = w := ⟨x.toNat, by omega⟩
                                rw [hxw] at hsub ⊢
                                obtain ⟨wd, hwd⟩ := dt_lg (l := tg) (i := w) (by omega)
                                have hw : xW (sN A) t w wd := ⟨tg, htg, hwd⟩
                                refine dt_xV dX12_dated_207 pc_X12_237 rfl (s_X12_mean (hXb.kept (kf 44 (by decide) (by decide))) hw km) rfl rfl ⟨by decide, by decide⟩ rfl rfl (Nat.le_of_ble_eq_true rfl) ⟨by decide, by decide⟩ ?_
                                intro vm shm σm hqm
                                obtain ⟨rfl, hsm, hfm, hMm⟩ := hqm
                                obtain rfl := hsm.symm
                                refine dt_iinc dX12_dated_210 rfl (by decide) rfl ?_
                                dsimp only [List.set]
                                refine dt_goto (tgt := 170) dX12_dated_213 (by decide) ?_
                                exact dt_lb (ih (z + 1) (xSay P wd.2) σm (by omega) (by omega) (fun b h1 h2 => (hfm b h1 h2).trans (kf b h1 h2)) hMm (by rw [xSd_s hsub, kp]; exact xSd1_y (xAt_of hw)) (fun _ => hMl)) ⟨rfl, rfl, rfl, rfl, rfl, rfl, rfl, rfl, rfl, rfl, trivial⟩
                        exact dt_lb (lp170 50 0 xZ σs (by omega) (by omega) (fun b h1 h2 => (hfs b h1).trans (jf b h1 h2)) hMs rfl (fun h => absurd h (Nat.not_lt_zero 0))) ⟨rfl, rfl, rfl, rfl, rfl, rfl, rfl, rfl, rfl, rfl, trivial⟩
                  exact dt_lb (lp152 9 0 σb (by omega) (by omega) (fun b _ _ => rfl)) ⟨rfl, rfl, rfl, rfl, rfl, rfl, rfl, rfl, rfl, trivial⟩
                · skip
                  obtain ⟨x, hx⟩ := dt_lg (l := q.2) (i := i + z) (by omega)
                  have hsub : ((q.2.drop i).take n)[z]? = some x := sub_at hx (by omega)
                  have hx32 : dt_in32 x := by have := hwfa 43 (r.toNat * 40 + (i + z)); rw [q5 (i + z) x hx] at this; exact this
                  refine dt_aloadn dX12_dated_83 rfl rfl ?_
                  refine dt_getR dX12_dated_84 pg_X12_16_12 rfl rfl ?_
                  refine dt_bipush dX12_dated_87 (by decide) ?_
                  refine dt_iloadn dX12_dated_89 rfl rfl ?_
                  refine dt_imul dX12_dated_90 ?_
                  refine dt_iloadn dX12_dated_91 rfl rfl ?_
                  refine dt_iadd dX12_dated_92 ?_
                  refine dt_iload dX12_dated_93 rfl ?_
                  refine dt_iadd dX12_dated_95 ?_
                  refine dt_iald dX12_dated_96 rfl (by first | omega | (simp (disch := omega) only [dt_up_s, dt_up_k, dt_up_n]; omega)) (by first | omega | (simp (disch := omega) only [dt_up_s, dt_up_k, dt_up_n]; omega)) (by decide) ?_
                  rw [(show σa 43 ((40 : Int) * r + (i : Int) + (z : Int)).toNat = x by rw [show ((40 : Int) * r + (i : Int) + (z : Int)).toNat = r.toNat * 40 + (i + z) by omega]; exact q5 (i + z) x hx)]
                  refine dt_istore dX12_dated_97 (by decide) rfl ?_
                  dsimp only [List.set]
                  refine dt_iload dX12_dated_99 rfl ?_
                  refine dt_ui2l dX12_dated_101 (by first | assumption | exact hwf _ _ | exact dt_b32 _ | omega | exact ⟨by omega, by omega⟩ | decide | exact ⟨by simp (disch := omega) only [dt_up_s, dt_up_k, dt_up_n]; omega, by simp (disch := omega) only [dt_up_s, dt_up_k, dt_up_n]; omega⟩) ?_
                  refine dt_lconst (x := 0) dX12_dated_102 (by decide) ?_
                  refine dt_ldc2 dX12_dated_103 pk_X12_61 ?_
                  refine dt_xS dX12_dated_106 pc_X12_63 (s_X12_in (by first | exact ⟨by omega, by omega⟩ | decide) (by first | exact ⟨by omega, by omega⟩ | decide) (by first | exact ⟨by omega, by omega⟩ | decide)) rfl rfl ⟨by decide, by decide⟩ (Nat.le_of_ble_eq_true rfl) ⟨by decide, by decide⟩ (dt_k3 ?_)
                  refine dt_if_ne (tgt := 115) dX12_dated_109 (by decide) (by first | assumption | exact hwf _ _ | exact dt_b32 _ | omega | exact ⟨by omega, by omega⟩ | decide | exact ⟨by simp (disch := omega) only [dt_up_s, dt_up_k, dt_up_n]; omega, by simp (disch := omega) only [dt_up_s, dt_up_k, dt_up_n]; omega⟩) (fun c13 => ?_) (fun c13 => ?_)
                  · skip
                    try simp only [dt_b0, dt_b1, Decidable.not_not, Classical.not_not] at c13
                    refine dt_iload dX12_dated_115 rfl ?_
                    refine dt_iconst dX12_dated_117 ?_
                    refine dt_iadd dX12_dated_118 ?_
                    refine dt_iload dX12_dated_119 rfl ?_
                    refine dt_cm_le (tgt := 131) dX12_dated_121 (by decide) (by first | assumption | exact hwf _ _ | exact dt_b32 _ | omega | exact ⟨by omega, by omega⟩ | decide | exact ⟨by simp (disch := omega) only [dt_up_s, dt_up_k, dt_up_n]; omega, by simp (disch := omega) only [dt_up_s, dt_up_k, dt_up_n]; omega⟩) (by first | assumption | exact hwf _ _ | exact dt_b32 _ | omega | exact ⟨by omega, by omega⟩ | decide | exact ⟨by simp (disch := omega) only [dt_up_s, dt_up_k, dt_up_n]; omega, by simp (disch := omega) only [dt_up_s, dt_up_k, dt_up_n]; omega⟩) (fun c14 => ?_) (fun c14 => ?_)
                    · skip
                      have hk : x + 1 ≤ M := by omega
                      have hM1b : ∀ y ∈ ((q.2.drop i).take n).take (z + 1), y + 1 ≤ (M : Int) := fun y hy => by
                        rw [List.take_add_one, hsub] at hy
                        rcases List.mem_append.mp hy with g | g
                        · exact hM1 y g
                        · obtain rfl := List.mem_singleton.mp g; exact hk
                      have hM2b : (M : Int) = 0 ∨ ∃ y ∈ ((q.2.drop i).take n).take (z + 1), y + 1 = (M : Int) := by
                        rcases hM2 with g | ⟨y, hy, g⟩
                        · exact Or.inl g
                        · exact Or.inr ⟨y, by rw [List.take_add_one]; exact List.mem_append_left _ hy, g⟩
                      refine dt_iload dX12_dated_131 rfl ?_
                      refine dt_istore dX12_dated_133 (by decide) rfl ?_
                      dsimp only [List.set]
                      refine dt_iinc dX12_dated_135 rfl (by decide) rfl ?_
                      dsimp only [List.set]
                      refine dt_goto (tgt := 77) dX12_dated_138 (by decide) ?_
                      have hall2 : ∀ y ∈ ((q.2.drop i).take n).take (z + 1), 0 ≤ y ∧ y ≤ 7 := fun y hy => by
                        rw [List.take_add_one, hsub] at hy
                        rcases List.mem_append.mp hy with g | g
                        · exact hall y g
                        · obtain rfl := List.mem_singleton.mp g
                          assumption
                      exact dt_lb (ih (z + 1) M (by omega) (by omega) hall2 hM1b hM2b (by omega)) ⟨rfl, rfl, rfl, rfl, rfl, rfl, (by first | rfl | exact dt_ie (by omega)), rfl, trivial⟩
                    · skip
                      obtain ⟨M2, hMe⟩ : ∃ M2 : Nat, (M2 : Int) = x + 1 := ⟨(x + 1).toNat, by omega⟩
                      have hM1b : ∀ y ∈ ((q.2.drop i).take n).take (z + 1), y + 1 ≤ (M2 : Int) := fun y hy => by
                        rw [List.take_add_one, hsub] at hy
                        rcases List.mem_append.mp hy with g | g
                        · have := hM1 y g; omega
                        · obtain rfl := List.mem_singleton.mp g; omega
                      have hM2b : (M2 : Int) = 0 ∨ ∃ y ∈ ((q.2.drop i).take n).take (z + 1), y + 1 = (M2 : Int) := Or.inr ⟨x, by rw [List.take_add_one, hsub]; exact List.mem_append_right _ List.mem_cons_self, hMe.symm⟩
                      refine dt_iload dX12_dated_124 rfl ?_
                      refine dt_iconst dX12_dated_126 ?_
                      refine dt_iadd dX12_dated_127 ?_
                      refine dt_goto (tgt := 133) dX12_dated_128 (by decide) ?_
                      refine dt_istore dX12_dated_133 (by decide) rfl ?_
                      dsimp only [List.set]
                      refine dt_iinc dX12_dated_135 rfl (by decide) rfl ?_
                      dsimp only [List.set]
                      refine dt_goto (tgt := 77) dX12_dated_138 (by decide) ?_
                      have hall2 : ∀ y ∈ ((q.2.drop i).take n).take (z + 1), 0 ≤ y ∧ y ≤ 7 := fun y hy => by
                        rw [List.take_add_one, hsub] at hy
                        rcases List.mem_append.mp hy with g | g
                        · exact hall y g
                        · obtain rfl := List.mem_singleton.mp g
                          assumption
                      exact dt_lb (ih (z + 1) M2 (by omega) (by omega) hall2 hM1b hM2b (by omega)) ⟨rfl, rfl, rfl, rfl, rfl, rfl, (by first | rfl | exact dt_ie (by omega)), rfl, trivial⟩
                  · skip
                    try simp only [dt_b0, dt_b1, Decidable.not_not, Classical.not_not] at c13
                    have hxb : ¬ (0 ≤ x ∧ x ≤ 7) := by assumption
                    refine dt_ldc dX12_dated_112 pk_X12_73 ?_
                    refine dt_iret dX12_dated_114 rfl (by decide) (by decide) ?_
                    rw [oDated_b hn (by omega) hq (by omega) (fun g => hxb (g x (List.mem_of_getElem? hsub)))]
                    exact ⟨rfl, rfl, hA, fa⟩
            exact dt_lb (lp77 50 0 0 (by omega) (by omega) (fun x hx => by simp at hx) (fun x hx => by simp at hx) (Or.inl rfl) (by decide)) ⟨rfl, rfl, rfl, rfl, rfl, rfl, rfl, rfl, trivial⟩
          · skip
            refine dt_aloadn dX12_dated_64 rfl rfl ?_
            refine dt_iload dX12_dated_65 rfl ?_
            refine dt_xV dX12_dated_67 pc_X12_74 rfl (s_X12_finding (by first | assumption | exact hwf _ _ | exact dt_b32 _ | omega | exact ⟨by omega, by omega⟩ | decide | exact ⟨by simp (disch := omega) only [dt_up_s, dt_up_k, dt_up_n]; omega, by simp (disch := omega) only [dt_up_s, dt_up_k, dt_up_n]; omega⟩)) rfl rfl ⟨by decide, by decide⟩ rfl rfl (Nat.le_of_ble_eq_true rfl) ⟨by decide, by decide⟩ (dt_k3 ?_)
            refine dt_iret dX12_dated_70 rfl (by decide) (by decide) ?_
            cases hq : sR A r.toNat with
            | none =>
              rw [hq] at hl
              have hl : lo = 1 := hl
              have e : oDated A r i n m = (-1000011, sSt A 1) := by
                unfold oDated
                rw [if_neg hn, if_neg (by omega)]
                simp only [hq]
              rw [e, hl]
              exact ⟨rfl, rfl, hA.st 1, fun b hb => (dt_up_o (by omega)).trans (fa b hb)⟩
            | some q =>
              by_cases g : 0 ≤ i ∧ i + n ≤ (q.2.length : Int)
              · rw [hq, show lk (some q) i n = 0 from if_pos g] at hl; omega
              · rw [hq, show lk (some q) i n = 2 from if_neg g] at hl
                have e : oDated A r i n m = (-1000012, sSt A 2) := by
                  unfold oDated
                  rw [if_neg hn, if_neg (by omega)]
                  simp only [hq]
                  rw [if_pos g]
                rw [e, hl]
                exact ⟨rfl, rfl, hA.st 2, fun b hb => (dt_up_o (by omega)).trans (fa b hb)⟩
        · skip
          try simp only [dt_b0, dt_b1, Decidable.not_not, Classical.not_not] at c4
          refine dt_ldc dX12_dated_47 pk_X12_73 ?_
          refine dt_iret dX12_dated_49 rfl (by decide) (by decide) ?_
          have e : oDated A r i n m = (-1000001, A) := by
            unfold oDated
            rw [if_neg hn, if_pos (by omega)]
          rw [e]
          exact ⟨rfl, rfl, hA, fa⟩
  · skip
    rw [e7] at c1
    have hn : (sN A).1 = [] := by simpa [dt_b0] using c1
    refine dt_ldc dX12_dated_12 pk_X12_204 ?_
    refine dt_iret dX12_dated_14 rfl (by decide) (by decide) ?_
    have e : oDated A r i n m = (-1000002, A) := by
      unfold oDated
      rw [if_pos hn]
    rw [e]
    exact ⟨rfl, rfl, hA, fa⟩
/-! bargains -/
abbrev xE (α : Type) : Type := Except Int α
def xOne (X : dX) (l : List Int) : xE ((Nat → Prop) × List Int) := match l with
  | [] => .error (-1000012)
  | [day] => if day < 0 then .error (-1000001) else .error (-1000012)
  | day :: n :: l2 => if day < 0 then .error (-1000001) else if ¬ (0 ≤ n ∧ n ≤ 6) then .error (-1000001) else match xSd X (day % (X.1.length : Int)) (l2.take n.toNat) with
    | none => .error (-1000001)
    | some P => if (l2.length : Int) < n then .error (-1000012) else .ok (P, l2.drop n.toNat)
def xBar (X : dX) : Nat → (Nat → Prop) → List Int → xE (Nat → Prop)
  | 0, Q, _ => .ok Q
  | m + 1, Q, l => match xOne X l with
    | .error e => .error e
    | .ok p => xBar X m (fun k => Q k ∧ p.1 k) p.2
theorem xBar_e {X : dX} {m : Nat} {Q : Nat → Prop} {l : List Int} {e : Int} (h : xOne X l = .error e) : xBar X (m + 1) Q l = .error e := by
  simp only [xBar]
  rw [h]
theorem xBar_s {X : dX} {m : Nat} {Q P : Nat → Prop} {l l2 : List Int} (h : xOne X l = .ok (P, l2)) : xBar X (m + 1) Q l = xBar X m (fun k => Q k ∧ P k) l2 := by
  simp only [xBar]
  rw [h]
theorem xOne_d {X : dX} {day : Int} {l : List Int} (h : day < 0) : xOne X (day :: l) = .error (-1000001) := by
  cases l with
  | nil => exact if_pos h
  | cons n l2 => exact if_pos h
theorem xOne_1 {X : dX} {day : Int} (h : ¬ day < 0) : xOne X [day] = .error (-1000012) := if_neg h
theorem xOne_n {X : dX} {day n : Int} {l2 : List Int} (h : ¬ day < 0) (h2 : ¬ (0 ≤ n ∧ n ≤ 6)) : xOne X (day :: n :: l2) = .error (-1000001) := (if_neg h).trans (if_pos h2)
theorem xOne_w {X : dX} {day n : Int} {l2 : List Int} (h : ¬ day < 0) (h2 : 0 ≤ n ∧ n ≤ 6) (hs : xSd X (day % (X.1.length : Int)) (l2.take n.toNat) = none) : xOne X (day :: n :: l2) = .error (-1000001) := by
  unfold xOne
  dsimp only
  rw [if_neg h, if_neg (fun z => z h2), hs]
theorem xOne_p {X : dX} {day n : Int} {l2 : List Int} {P : Nat → Prop} (h : ¬ day < 0) (h2 : 0 ≤ n ∧ n ≤ 6) (hs : xSd X (day % (X.1.length : Int)) (l2.take n.toNat) = some P) (hl : (l2.length : Int) < n) : xOne X (day :: n :: l2) = .error (-1000012) := by
  unfold xOne
  dsimp only
  rw [if_neg h, if_neg (fun z => z h2), hs]
  exact if_pos hl
theorem xOne_y {X : dX} {day n : Int} {l2 : List Int} {P : Nat → Prop} (h : ¬ day < 0) (h2 : 0 ≤ n ∧ n ≤ 6) (hs : xSd X (day % (X.1.length : Int)) (l2.take n.toNat) = some P) (hl : ¬ (l2.length : Int) < n) : xOne X (day :: n :: l2) = .ok (P, l2.drop n.toNat) := by
  unfold xOne
  dsimp only
  rw [if_neg h, if_neg (fun z => z h2), hs]
  exact if_neg hl
theorem xOne_r {X : dX} {l : List Int} {e : Int} (h : xOne X l = .error e) : e = -1000001 ∨ e = -1000012 := by
  unfold xOne at h
  split at h
  · obtain rfl := Except.error.inj h; exact Or.inr rfl
  · split at h
    · obtain rfl := Except.error.inj h; exact Or.inl rfl
    · obtain rfl := Except.error.inj h; exact Or.inr rfl
  · split at h
    · obtain rfl := Except.error.inj h; exact Or.inl rfl
    · split at h
      · obtain rfl := Except.error.inj h; exact Or.inl rfl
      · split at h
        · obtain rfl := Except.error.inj h; exact Or.inl rfl
        · split at h
          · obtain rfl := Except.error.inj h; exact Or.inr rfl
          · cases h
theorem xOne_i {X : dX} {l : List Int} {P : Nat → Prop} {l3 : List Int} (h : xOne X l = .ok (P, l3)) : ∃ (day n : Int) (l2 : List Int), l = day :: n :: l2 ∧ 0 ≤ n ∧ n ≤ 6 ∧ n ≤ l2.length ∧ l3 = l2.drop n.toNat := by
  match l with
  | [] => cases h
  | [day] =>
    by_cases h1 : day < 0
    · rw [xOne_d h1] at h; cases h
    · rw [xOne_1 h1] at h; cases h
  | day :: n :: l2 =>
    by_cases h1 : day < 0
    · rw [xOne_d h1] at h; cases h
    by_cases h2 : 0 ≤ n ∧ n ≤ 6
    · cases hs : xSd X (day % (X.1.length : Int)) (l2.take n.toNat) with
      | none => rw [xOne_w h1 h2 hs] at h; cases h
      | some P2 =>
        by_cases h3 : (l2.length : Int) < n
        · rw [xOne_p h1 h2 hs h3] at h; cases h
        · rw [xOne_y h1 h2 hs h3] at h
          have e := congrArg Prod.snd (Except.ok.inj h)
          exact ⟨day, n, l2, rfl, h2.1, h2.2, by omega, e.symm⟩
    · rw [xOne_n h1 h2] at h; cases h
noncomputable def oBargain (A : dS) (r m k : Int) : Int × dS := if (sN A).1 = [] then (-1000002, A) else if ¬ ((0 ≤ r ∧ r < 8) ∧ (1 ≤ m ∧ m ≤ 5) ∧ -1 ≤ k) then (-1000001, A) else match sR A r.toNat with
  | none => (-1000011, sSt A 1)
  | some q => match xBar (sN A) m.toNat (fun _ => True) q.2 with
    | .error e => (e, if e = -1000012 then sSt A 2 else A)
    | .ok Q => (oM Q k, sSt A 0)
theorem drop_c {l : List Int} {c : Nat} {x : Int} (h : l[c]? = some x) : l.drop c = x :: l.drop (c + 1) := by
  obtain ⟨h1, h2⟩ := List.getElem?_eq_some_iff.mp h
  rw [List.drop_eq_getElem_cons h1, h2]
def rfv {α : Type} (s : xE α) : Int := match s with
  | .error e => if e = -1000012 then 2 else e
  | .ok _ => 0
theorem xE_c {α : Type} (r : xE α) : (∃ e, r = .error e) ∨ ∃ a, r = .ok a := by
  cases r with
  | error e => exact Or.inl ⟨e, rfl⟩
  | ok a => exact Or.inr ⟨a, rfl⟩
theorem s_X11_refusalOfSaying {ex : List dt_Shp} {σ : dt_Mem} {X : dX} {c : Nat} {r : Int} {q : Nat × List Int} (hX : cPort σ 7 X) (hok : dX_ok X) (hr1 : 0 ≤ r) (hr2 : r < 8) (hrow : hRow σ 2 3 4 r.toNat (some q)) (hc : c ≤ q.2.length) (h0 : 0 < X.1.length) : dt_Sp mX11_refusalOfSaying 5 0 0 [dt_R 0, dt_I r, dt_I (c : Int)] (dt_SH ++ ex) σ (fun v sh2 σ2 => v = some (dt_I (rfv (xOne X (q.2.drop c)))) ∧ sh2 = dt_SH ++ ex ∧ (∀ b, b ≠ 32 → b ≠ 33 → σ2 b = σ b) ∧ ∀ p, xOne X (q.2.drop c) = .ok p → mP σ2 32 256 p.1) := by
  refine dt_Sp_of (by decide) (Nat.le_of_ble_eq_true rfl) ?_
  refine dt_wfV fun hwf => ?_
  obtain ⟨q1, q2, q3, q4, q5⟩ := hRow_it hrow
  have e5 := hX.t
  have e6 := hX.1.1
  show dt_V _ _ _ 0 0 0 [some (dt_R 0), some (dt_I r), some (dt_I (c : Int)), none, none, none] [] _ _
  refine dt_aloadn dX11_refusalOfSaying_0 rfl rfl ?_
  refine dt_getR dX11_refusalOfSaying_1 pg_X11_10_11 rfl rfl ?_
  refine dt_iloadn dX11_refusalOfSaying_4 rfl rfl ?_
  refine dt_iloadn dX11_refusalOfSaying_5 rfl rfl ?_
  refine dt_iconst dX11_refusalOfSaying_6 ?_
  refine dt_xV dX11_refusalOfSaying_7 pc_X11_89 rfl (s_X7_hasPlaces hr1 hr2 ⟨by omega, by omega⟩ (by decide)) rfl rfl ⟨by decide, by decide⟩ rfl rfl (Nat.le_of_ble_eq_true rfl) ⟨by decide, by decide⟩ (dt_k3 ?_)
  refine dt_if_ne (tgt := 15) dX11_refusalOfSaying_10 (by decide) (by first | assumption | exact hwf _ _ | exact dt_b32 _ | omega | exact ⟨by omega, by omega⟩ | decide | exact ⟨by simp (disch := omega) only [dt_up_s, dt_up_k, dt_up_n]; omega, by simp (disch := omega) only [dt_up_s, dt_up_k, dt_up_n]; omega⟩) (fun c1 => ?_) (fun c1 => ?_)
  · skip
    try simp only [dt_b0, dt_b1, Decidable.not_not, Classical.not_not] at c1
    have hcl : c < q.2.length := by
      have z : cHP σ r (c : Int) 1 := by assumption
      obtain ⟨z1, z2, z3, z4⟩ := z
      omega
    obtain ⟨x, hx⟩ := dt_lg hcl
    have hd := drop_c hx
    have hx32 : dt_in32 x := by have := hwf 4 (r.toNat * 40 + c); rw [q5 c x hx] at this; exact this
    refine dt_aloadn dX11_refusalOfSaying_15 rfl rfl ?_
    refine dt_getR dX11_refusalOfSaying_16 pg_X11_10_11 rfl rfl ?_
    refine dt_iloadn dX11_refusalOfSaying_19 rfl rfl ?_
    refine dt_iloadn dX11_refusalOfSaying_20 rfl rfl ?_
    refine dt_xV dX11_refusalOfSaying_21 pc_X11_204 rfl (s_X7_item hr1 hr2 (by assumption) (by omega)) rfl rfl ⟨by decide, by decide⟩ rfl rfl (Nat.le_of_ble_eq_true rfl) ⟨by decide, by decide⟩ (dt_k3 ?_)
    skip
    rw [show σ 4 (r * 40 + ((c : Int))).toNat = x by rw [show (r * 40 + ((c : Int))).toNat = r.toNat * 40 + (c) by omega]; exact q5 _ _ hx]
    refine dt_istoren dX11_refusalOfSaying_24 rfl (by decide) rfl ?_
    dsimp only [List.set]
    refine dt_iloadn dX11_refusalOfSaying_25 rfl rfl ?_
    refine dt_if_ge (tgt := 32) dX11_refusalOfSaying_26 (by decide) (by first | assumption | exact hwf _ _ | exact dt_b32 _ | omega | exact ⟨by omega, by omega⟩ | decide | exact ⟨by simp (disch := omega) only [dt_up_s, dt_up_k, dt_up_n]; omega, by simp (disch := omega) only [dt_up_s, dt_up_k, dt_up_n]; omega⟩) (fun c2 => ?_) (fun c2 => ?_)
    · skip
      refine dt_aloadn dX11_refusalOfSaying_32 rfl rfl ?_
      refine dt_getR dX11_refusalOfSaying_33 pg_X11_10_11 rfl rfl ?_
      refine dt_iloadn dX11_refusalOfSaying_36 rfl rfl ?_
      refine dt_iloadn dX11_refusalOfSaying_37 rfl rfl ?_
      refine dt_iconst dX11_refusalOfSaying_38 ?_
      refine dt_iadd dX11_refusalOfSaying_39 ?_
      refine dt_iconst dX11_refusalOfSaying_40 ?_
      refine dt_xV dX11_refusalOfSaying_41 pc_X11_89 rfl (s_X7_hasPlaces hr1 hr2 ⟨by omega, by omega⟩ (by decide)) rfl rfl ⟨by decide, by decide⟩ rfl rfl (Nat.le_of_ble_eq_true rfl) ⟨by decide, by decide⟩ (dt_k3 ?_)
      refine dt_if_ne (tgt := 49) dX11_refusalOfSaying_44 (by decide) (by first | assumption | exact hwf _ _ | exact dt_b32 _ | omega | exact ⟨by omega, by omega⟩ | decide | exact ⟨by simp (disch := omega) only [dt_up_s, dt_up_k, dt_up_n]; omega, by simp (disch := omega) only [dt_up_s, dt_up_k, dt_up_n]; omega⟩) (fun c3 => ?_) (fun c3 => ?_)
      · skip
        try simp only [dt_b0, dt_b1, Decidable.not_not, Classical.not_not] at c3
        have hcl2 : c + 1 < q.2.length := by
          have z : cHP σ r ((c : Int) + 1) 1 := by assumption
          obtain ⟨z1, z2, z3, z4⟩ := z
          omega
        obtain ⟨y, hy⟩ := dt_lg hcl2
        have hd2 := drop_c hy
        rw [hd2] at hd
        have hy32 : dt_in32 y := by have := hwf 4 (r.toNat * 40 + (c + 1)); rw [q5 (c + 1) y hy] at this; exact this
        refine dt_aloadn dX11_refusalOfSaying_49 rfl rfl ?_
        refine dt_getR dX11_refusalOfSaying_50 pg_X11_10_11 rfl rfl ?_
        refine dt_iloadn dX11_refusalOfSaying_53 rfl rfl ?_
        refine dt_iloadn dX11_refusalOfSaying_54 rfl rfl ?_
        refine dt_iconst dX11_refusalOfSaying_55 ?_
        refine dt_iadd dX11_refusalOfSaying_56 ?_
        refine dt_xV dX11_refusalOfSaying_57 pc_X11_204 rfl (s_X7_item hr1 hr2 (by assumption) (by omega)) rfl rfl ⟨by decide, by decide⟩ rfl rfl (Nat.le_of_ble_eq_true rfl) ⟨by decide, by decide⟩ (dt_k3 ?_)
        rw [show σ 4 (r * 40 + ((c : Int) + 1)).toNat = y by rw [show (r * 40 + ((c : Int) + 1)).toNat = r.toNat * 40 + (c + 1) by omega]; exact q5 _ _ hy]
        refine dt_istore dX11_refusalOfSaying_60 (by decide) rfl ?_
        dsimp only [List.set]
        refine dt_iload dX11_refusalOfSaying_62 rfl ?_
        refine dt_iconst dX11_refusalOfSaying_64 ?_
        refine dt_bipush dX11_refusalOfSaying_65 (by decide) ?_
        refine dt_xS dX11_refusalOfSaying_67 pc_X11_70 (s_X11_isWithin hy32 (by decide) (by decide)) rfl rfl ⟨by decide, by decide⟩ (Nat.le_of_ble_eq_true rfl) ⟨by decide, by decide⟩ (dt_k3 ?_)
        refine dt_if_ne (tgt := 76) dX11_refusalOfSaying_70 (by decide) (by first | assumption | exact hwf _ _ | exact dt_b32 _ | omega | exact ⟨by omega, by omega⟩ | decide | exact ⟨by simp (disch := omega) only [dt_up_s, dt_up_k, dt_up_n]; omega, by simp (disch := omega) only [dt_up_s, dt_up_k, dt_up_n]; omega⟩) (fun c4 => ?_) (fun c4 => ?_)
        · skip
          try simp only [dt_b0, dt_b1, Decidable.not_not, Classical.not_not] at c4
          refine dt_iload dX11_refusalOfSaying_76 rfl ?_
          refine dt_aloadn dX11_refusalOfSaying_78 rfl rfl ?_
          refine dt_getR dX11_refusalOfSaying_79 pg_X11_10_11 rfl rfl ?_
          refine dt_iloadn dX11_refusalOfSaying_82 rfl rfl ?_
          refine dt_xV dX11_refusalOfSaying_83 pc_X11_276 rfl (s_X7_sizeOf hr1 hr2) rfl rfl ⟨by decide, by decide⟩ rfl rfl (Nat.le_of_ble_eq_true rfl) ⟨by decide, by decide⟩ (dt_k3 ?_)
          rw [q3]
          refine dt_iloadn dX11_refusalOfSaying_86 rfl rfl ?_
          refine dt_isub dX11_refusalOfSaying_87 ?_
          refine dt_iconst dX11_refusalOfSaying_88 ?_
          refine dt_isub dX11_refusalOfSaying_89 ?_
          refine dt_min dX11_refusalOfSaying_90 po_X11_279 pmm_s pmm_i pmm_c (by decide) (by decide) (by decide) (by decide) hy32 ⟨by omega, by omega⟩ ?_
          obtain ⟨th, hth⟩ : ∃ th : Nat, (th : Int) = (if (q.2.length : Int) - (c : Int) - 2 < y then (q.2.length : Int) - (c : Int) - 2 else y) := ⟨(if (q.2.length : Int) - (c : Int) - 2 < y then (q.2.length : Int) - (c : Int) - 2 else y).toNat, by split <;> omega⟩
          have hth2 : (th : Int) ≤ y ∧ (th : Int) ≤ (q.2.length : Int) - (c : Int) - 2 ∧ ((th : Int) = y ∨ (th : Int) = (q.2.length : Int) - (c : Int) - 2) := by rw [hth]; split <;> omega
          rw [← hth]
          have hl2 : (q.2.drop (c + 2)).length = q.2.length - (c + 2) := List.length_drop
          have htk : (q.2.drop (c + 2)).take y.toNat = (q.2.drop (c + 2)).take th := by
            rcases hth2.2.2 with g | g
            · rw [← g, Int.toNat_natCast]
            · rw [List.take_of_length_le (by omega), List.take_of_length_le (by omega)]
          refine dt_istore dX11_refusalOfSaying_93 (by decide) rfl ?_
          dsimp only [List.set]
          refine dt_aloadn dX11_refusalOfSaying_95 rfl rfl ?_
          refine dt_aloadn dX11_refusalOfSaying_96 rfl rfl ?_
          refine dt_getR dX11_refusalOfSaying_97 pg_X11_26_11 rfl rfl ?_
          refine dt_iloadn dX11_refusalOfSaying_100 rfl rfl ?_
          refine dt_xV dX11_refusalOfSaying_101 pc_X11_172 dt_p7.1 (s_X6_tongueOf dt_p7 (by omega) (by have := hx32.2; omega) (by omega)) rfl rfl ⟨by decide, by decide⟩ rfl rfl (Nat.le_of_ble_eq_true rfl) ⟨by decide, by decide⟩ (dt_k3 ?_)
          rw [e5]
          obtain ⟨t, ht⟩ : ∃ t : Nat, x % (X.1.length : Int) = t := ⟨(x % (X.1.length : Int)).toNat, by have := Int.emod_nonneg x (b := (X.1.length : Int)) (by omega); omega⟩
          have ht7 : t < X.1.length := by have := Int.emod_lt_of_pos x (b := (X.1.length : Int)) (by omega); omega
          rw [ht]
          refine dt_iloadn dX11_refusalOfSaying_104 rfl rfl ?_
          refine dt_iloadn dX11_refusalOfSaying_105 rfl rfl ?_
          refine dt_iconst dX11_refusalOfSaying_106 ?_
          refine dt_iadd dX11_refusalOfSaying_107 ?_
          rw [show (c : Int) + 2 = ((c + 2 : Nat) : Int) from rfl]
          refine dt_iload dX11_refusalOfSaying_108 rfl ?_
          refine dt_xV dX11_refusalOfSaying_110 pc_X11_175 rfl (s_X11_isSaid hX hok hr1 hr2 hrow (by omega) (by omega)) rfl rfl ⟨by decide, by decide⟩ rfl rfl (Nat.le_of_ble_eq_true rfl) ⟨by decide, by decide⟩ ?_
          intro vs shs σs hqs
          obtain ⟨rfl, hss, hfs, hPs⟩ := hqs
          obtain rfl := hss.symm
          refine dt_if_ne (tgt := 119) dX11_refusalOfSaying_113 (by decide) (by first | assumption | exact hwf _ _ | exact dt_b32 _ | omega | exact ⟨by omega, by omega⟩ | decide | exact ⟨by simp (disch := omega) only [dt_up_s, dt_up_k, dt_up_n]; omega, by simp (disch := omega) only [dt_up_s, dt_up_k, dt_up_n]; omega⟩) (fun c5 => ?_) (fun c5 => ?_)
          · skip
            try simp only [dt_b0, dt_b1, Decidable.not_not, Classical.not_not] at c5
            have hs : xSd X t ((q.2.drop (c + 2)).take th) ≠ none := by assumption
            obtain ⟨P, hP⟩ := Option.ne_none_iff_exists'.mp hs
            have hMP := hPs P hP
            rw [← htk] at hP
            refine dt_iload dX11_refusalOfSaying_119 rfl ?_
            refine dt_iload dX11_refusalOfSaying_121 rfl ?_
            refine dt_cm_ge (tgt := 130) dX11_refusalOfSaying_123 (by decide) (by first | assumption | exact hwf _ _ | exact dt_b32 _ | omega | exact ⟨by omega, by omega⟩ | decide | exact ⟨by simp (disch := omega) only [dt_up_s, dt_up_k, dt_up_n]; omega, by simp (disch := omega) only [dt_up_s, dt_up_k, dt_up_n]; omega⟩) (by first | assumption | exact hwf _ _ | exact dt_b32 _ | omega | exact ⟨by omega, by omega⟩ | decide | exact ⟨by simp (disch := omega) only [dt_up_s, dt_up_k, dt_up_n]; omega, by simp (disch := omega) only [dt_up_s, dt_up_k, dt_up_n]; omega⟩) (fun c6 => ?_) (fun c6 => ?_)
            · skip
              refine dt_iconst dX11_refusalOfSaying_130 ?_
              refine dt_iret dX11_refusalOfSaying_131 rfl (by decide) (by decide) ?_
              first
              | (have hlt : ((q.2.drop (c + 2)).length : Int) < y := by omega
                 rw [show xOne X (q.2.drop c) = .error (-1000012) from by rw [hd]; exact xOne_p (by omega) (by omega) (by rw [ht]; exact hP) hlt]
                 exact ⟨rfl, rfl, hfs, fun p h => by cases h⟩)
              | (have hlt : ¬ ((q.2.drop (c + 2)).length : Int) < y := by omega
                 rw [show xOne X (q.2.drop c) = .ok (P, (q.2.drop (c + 2)).drop y.toNat) from by rw [hd]; exact xOne_y (by omega) (by omega) (by rw [ht]; exact hP) hlt]
                 exact ⟨rfl, rfl, hfs, fun p h => by obtain rfl := Except.ok.inj h; exact hMP⟩)
            · skip
              refine dt_iconst dX11_refusalOfSaying_126 ?_
              refine dt_goto (tgt := 131) dX11_refusalOfSaying_127 (by decide) ?_
              refine dt_iret dX11_refusalOfSaying_131 rfl (by decide) (by decide) ?_
              first
              | (have hlt : ((q.2.drop (c + 2)).length : Int) < y := by omega
                 rw [show xOne X (q.2.drop c) = .error (-1000012) from by rw [hd]; exact xOne_p (by omega) (by omega) (by rw [ht]; exact hP) hlt]
                 exact ⟨rfl, rfl, hfs, fun p h => by cases h⟩)
              | (have hlt : ¬ ((q.2.drop (c + 2)).length : Int) < y := by omega
                 rw [show xOne X (q.2.drop c) = .ok (P, (q.2.drop (c + 2)).drop y.toNat) from by rw [hd]; exact xOne_y (by omega) (by omega) (by rw [ht]; exact hP) hlt]
                 exact ⟨rfl, rfl, hfs, fun p h => by obtain rfl := Except.ok.inj h; exact hMP⟩)
          · skip
            try simp only [dt_b0, dt_b1, Decidable.not_not, Classical.not_not] at c5
            have hs : xSd X t ((q.2.drop (c + 2)).take th) = none := by first | assumption | exact Classical.not_not.mp (by assumption)
            rw [← htk] at hs
            refine dt_ldc dX11_refusalOfSaying_116 pk_X11_74 ?_
            refine dt_iret dX11_refusalOfSaying_118 rfl (by decide) (by decide) ?_
            rw [show xOne X (q.2.drop c) = .error (-1000001) from by rw [hd]; exact xOne_w (by omega) (by omega) (by rw [ht]; exact hs)]
            exact ⟨rfl, rfl, hfs, fun p h => by cases h⟩
        · skip
          try simp only [dt_b0, dt_b1, Decidable.not_not, Classical.not_not] at c4
          refine dt_ldc dX11_refusalOfSaying_73 pk_X11_74 ?_
          refine dt_iret dX11_refusalOfSaying_75 rfl (by decide) (by decide) ?_
          rw [show xOne X (q.2.drop c) = .error (-1000001) from by rw [hd]; exact xOne_n (by omega) (by omega)]
          exact ⟨rfl, rfl, fun _ _ _ => rfl, fun p h => by cases h⟩
      · skip
        try simp only [dt_b0, dt_b1, Decidable.not_not, Classical.not_not] at c3
        have z : ¬ cHP σ r ((c : Int) + 1) 1 := by assumption
        unfold cHP at z
        have hd2 : q.2.drop (c + 1) = [] := List.drop_of_length_le (by omega)
        rw [hd2] at hd
        refine dt_iconst dX11_refusalOfSaying_47 ?_
        refine dt_iret dX11_refusalOfSaying_48 rfl (by decide) (by decide) ?_
        rw [show xOne X (q.2.drop c) = .error (-1000012) from by rw [hd]; exact xOne_1 (by omega)]
        exact ⟨rfl, rfl, fun _ _ _ => rfl, fun p h => by cases h⟩
    · skip
      refine dt_ldc dX11_refusalOfSaying_29 pk_X11_74 ?_
      refine dt_iret dX11_refusalOfSaying_31 rfl (by decide) (by decide) ?_
      rw [show xOne X (q.2.drop c) = .error (-1000001) from by rw [hd]; exact xOne_d (by omega)]
      exact ⟨rfl, rfl, fun _ _ _ => rfl, fun p h => by cases h⟩
  · skip
    try simp only [dt_b0, dt_b1, Decidable.not_not, Classical.not_not] at c1
    have z : ¬ cHP σ r (c : Int) 1 := by assumption
    unfold cHP at z
    have hd : q.2.drop c = [] := List.drop_of_length_le (by omega)
    refine dt_iconst dX11_refusalOfSaying_13 ?_
    refine dt_iret dX11_refusalOfSaying_14 rfl (by decide) (by decide) ?_
    rw [hd]
    exact ⟨rfl, rfl, fun _ _ _ => rfl, fun p h => by cases h⟩
theorem s_X8_beginBargain {ex : List dt_Shp} {σ : dt_Mem}  : dt_Sp mX8_beginBargain 0 0 0 [dt_R 31] (dt_SH ++ ex) σ (fun v sh2 σ2 => v = none ∧ sh2 = dt_SH ++ ex ∧ (∀ b, b ≠ 34 → σ2 b = σ b) ∧ mP σ2 34 256 (fun _ => True)) := by
  refine dt_Sp_of (by decide) (Nat.le_of_ble_eq_true rfl) ?_
  refine dt_wfV fun hwf => ?_
  show dt_V _ _ _ 0 0 0 [some (dt_R 31), none] [] _ _
  refine dt_iconst dX8_beginBargain_0 ?_
  refine dt_istoren dX8_beginBargain_1 rfl (by decide) rfl ?_
  dsimp only [List.set]
  have lp2 : ∀ (fu : Nat) (i : Nat) (σ1 : dt_Mem), 256 - (i : Int) < (fu : Int) → (i ≤ 256) → (∀ b, b ≠ 34 → σ1 b = σ b) → (mP σ1 34 i (fun _ => True)) →  dt_V mX8_beginBargain (dt_rm 0 0 0) (dt_MC (fun v sh2 σ2 => v = none ∧ sh2 = dt_SH ++ ex ∧ (∀ b, b ≠ 34 → σ2 b = σ b) ∧ mP σ2 34 256 (fun _ => True)) 0 0) 0 0 2 [some (dt_R 31), some (dt_I (i : Int))] [] (dt_SH ++ ex) σ1 := by
    intro fu
    induction fu with
    | zero =>
      intro i σ1 hm ji jf jm
      exfalso
      omega
    | succ fu ih =>
      intro i σ1 hm ji jf jm
      refine dt_wfV fun hwf => ?_
      refine dt_iloadn dX8_beginBargain_2 rfl rfl ?_
      refine dt_sipush dX8_beginBargain_3 (by decide) ?_
      refine dt_cm_ge (tgt := 22) dX8_beginBargain_6 (by decide) (by first | assumption | exact hwf _ _ | exact dt_b32 _ | omega | exact ⟨by omega, by omega⟩ | decide | exact ⟨by simp (disch := omega) only [dt_up_s, dt_up_k, dt_up_n]; omega, by simp (disch := omega) only [dt_up_s, dt_up_k, dt_up_n]; omega⟩) (by first | assumption | exact hwf _ _ | exact dt_b32 _ | omega | exact ⟨by omega, by omega⟩ | decide | exact ⟨by simp (disch := omega) only [dt_up_s, dt_up_k, dt_up_n]; omega, by simp (disch := omega) only [dt_up_s, dt_up_k, dt_up_n]; omega⟩) (fun c1 => ?_) (fun c1 => ?_)
      · skip
        refine dt_vret dX8_beginBargain_22 rfl (by decide) (by decide) ?_
        obtain rfl : i = 256 := by omega
        exact ⟨rfl, rfl, jf, jm⟩
      · skip
        refine dt_aloadn dX8_beginBargain_9 rfl rfl ?_
        refine dt_getR dX8_beginBargain_10 pg_X8_22_8 rfl rfl ?_
        refine dt_iloadn dX8_beginBargain_13 rfl rfl ?_
        refine dt_iconst dX8_beginBargain_14 ?_
        refine dt_zast dX8_beginBargain_15 rfl (by first | omega | (simp (disch := omega) only [dt_up_s, dt_up_k, dt_up_n]; omega)) (by first | omega | (simp (disch := omega) only [dt_up_s, dt_up_k, dt_up_n]; omega)) (by decide) (by first | exact Or.inl rfl | exact Or.inr rfl | assumption | omega) ?_
        refine dt_iinc dX8_beginBargain_16 rfl (by decide) rfl ?_
        dsimp only [List.set]
        refine dt_goto (tgt := 2) dX8_beginBargain_19 (by decide) ?_
        exact dt_lb (ih (i + 1) _ (by omega) (by omega) (fun b hb => (dt_up_o hb).trans (jf b hb)) (jm.put (dt_bT trivial).symm)) ⟨rfl, rfl, trivial⟩
  exact dt_lb (lp2 300 0 σ (by omega) (by omega) (fun _ _ => rfl) (mP.z _ _ _)) ⟨rfl, rfl, trivial⟩
theorem s_X8_joinBargain {ex : List dt_Shp} {σ : dt_Mem} {P Q : Nat → Prop} (hM : mP σ 32 256 P) (hQ : mP σ 34 256 Q) : dt_Sp mX8_joinBargain 0 0 0 [dt_R 31] (dt_SH ++ ex) σ (fun v sh2 σ2 => v = none ∧ sh2 = dt_SH ++ ex ∧ (∀ b, b ≠ 34 → σ2 b = σ b) ∧ mP σ2 34 256 (fun k => Q k ∧ P k)) := by
  refine dt_Sp_of (by decide) (Nat.le_of_ble_eq_true rfl) ?_
  refine dt_wfV fun hwf => ?_
  show dt_V _ _ _ 0 0 0 [some (dt_R 31), none] [] _ _
  refine dt_iconst dX8_joinBargain_0 ?_
  refine dt_istoren dX8_joinBargain_1 rfl (by decide) rfl ?_
  dsimp only [List.set]
  have lp2 : ∀ (fu : Nat) (i : Nat) (σ1 : dt_Mem), 256 - (i : Int) < (fu : Int) → (i ≤ 256) → (∀ b, b ≠ 34 → σ1 b = σ b) → (mP σ1 34 256 (fun k => Q k ∧ (k < i → P k))) →  dt_V mX8_joinBargain (dt_rm 0 0 0) (dt_MC (fun v sh2 σ2 => v = none ∧ sh2 = dt_SH ++ ex ∧ (∀ b, b ≠ 34 → σ2 b = σ b) ∧ mP σ2 34 256 (fun k => Q k ∧ P k)) 0 0) 0 0 2 [some (dt_R 31), some (dt_I (i : Int))] [] (dt_SH ++ ex) σ1 := by
    intro fu
    induction fu with
    | zero =>
      intro i σ1 hm ji jf jm
      exfalso
      omega
    | succ fu ih =>
      intro i σ1 hm ji jf jm
      refine dt_wfV fun hwf => ?_
      refine dt_iloadn dX8_joinBargain_2 rfl rfl ?_
      refine dt_sipush dX8_joinBargain_3 (by decide) ?_
      refine dt_cm_ge (tgt := 44) dX8_joinBargain_6 (by decide) (by first | assumption | exact hwf _ _ | exact dt_b32 _ | omega | exact ⟨by omega, by omega⟩ | decide | exact ⟨by simp (disch := omega) only [dt_up_s, dt_up_k, dt_up_n]; omega, by simp (disch := omega) only [dt_up_s, dt_up_k, dt_up_n]; omega⟩) (by first | assumption | exact hwf _ _ | exact dt_b32 _ | omega | exact ⟨by omega, by omega⟩ | decide | exact ⟨by simp (disch := omega) only [dt_up_s, dt_up_k, dt_up_n]; omega, by simp (disch := omega) only [dt_up_s, dt_up_k, dt_up_n]; omega⟩) (fun c1 => ?_) (fun c1 => ?_)
      · skip
        refine dt_vret dX8_joinBargain_44 rfl (by decide) (by decide) ?_
        obtain rfl : i = 256 := by omega
        exact ⟨rfl, rfl, jf, jm.ext (fun k hk => ⟨fun z => ⟨z.1, z.2 hk⟩, fun z => ⟨z.1, fun _ => z.2⟩⟩)⟩
      · skip
        have hi : i < 256 := by omega
        refine dt_aloadn dX8_joinBargain_9 rfl rfl ?_
        refine dt_getR dX8_joinBargain_10 pg_X8_22_8 rfl rfl ?_
        refine dt_iloadn dX8_joinBargain_13 rfl rfl ?_
        refine dt_aloadn dX8_joinBargain_14 rfl rfl ?_
        refine dt_getR dX8_joinBargain_15 pg_X8_22_8 rfl rfl ?_
        refine dt_iloadn dX8_joinBargain_18 rfl rfl ?_
        refine dt_zald dX8_joinBargain_19 rfl (by first | omega | (simp (disch := omega) only [dt_up_s, dt_up_k, dt_up_n]; omega)) (by first | omega | (simp (disch := omega) only [dt_up_s, dt_up_k, dt_up_n]; omega)) (by decide) ?_
        rw [Int.toNat_natCast, jm i hi]
        refine dt_if_eq (tgt := 36) dX8_joinBargain_20 (by decide) (by first | assumption | exact hwf _ _ | exact dt_b32 _ | omega | exact ⟨by omega, by omega⟩ | decide | exact ⟨by simp (disch := omega) only [dt_up_s, dt_up_k, dt_up_n]; omega, by simp (disch := omega) only [dt_up_s, dt_up_k, dt_up_n]; omega⟩) (fun c2 => ?_) (fun c2 => ?_)
        · skip
          try simp only [dt_b0, dt_b1, Decidable.not_not, Classical.not_not] at c2
          have hnn : ¬ (Q i ∧ P i) := fun z => (show ¬ (Q i ∧ (i < i → P i)) by assumption) ⟨z.1, fun h => absurd h (Nat.lt_irrefl i)⟩
          refine dt_iconst dX8_joinBargain_36 ?_
          refine dt_zast dX8_joinBargain_37 rfl (by first | omega | (simp (disch := omega) only [dt_up_s, dt_up_k, dt_up_n]; omega)) (by first | omega | (simp (disch := omega) only [dt_up_s, dt_up_k, dt_up_n]; omega)) (by decide) (by first | exact Or.inl rfl | exact Or.inr rfl | assumption | omega) ?_
          rw [Int.toNat_natCast]
          refine dt_iinc dX8_joinBargain_38 rfl (by decide) rfl ?_
          dsimp only [List.set]
          refine dt_goto (tgt := 2) dX8_joinBargain_41 (by decide) ?_
          have jm2 : mP (dt_up σ1 34 i 0) 34 256 (fun k => Q k ∧ (k < i + 1 → P k)) := fun k hk => by
            by_cases e : k = i
            · subst e; rw [dt_up_s]; exact (dt_bF (fun z => hnn ⟨z.1, z.2 (by omega)⟩)).symm
            · rw [dt_up_k e, jm k hk]; exact dt_bc ⟨fun z => ⟨z.1, fun _ => z.2 (by omega)⟩, fun z => ⟨z.1, fun _ => z.2 (by omega)⟩⟩
          exact dt_lb (ih (i + 1) _ (by omega) (by omega) (fun b hb => (dt_up_o hb).trans (jf b hb)) jm2) ⟨rfl, rfl, trivial⟩
        · skip
          try simp only [dt_b0, dt_b1, Decidable.not_not, Classical.not_not] at c2
          have hqy : Q i := (show Q i ∧ (i < i → P i) by assumption).1
          refine dt_aloadn dX8_joinBargain_23 rfl rfl ?_
          refine dt_getR dX8_joinBargain_24 pg_X8_15_8 rfl rfl ?_
          refine dt_iloadn dX8_joinBargain_27 rfl rfl ?_
          refine dt_zald dX8_joinBargain_28 rfl (by first | omega | (simp (disch := omega) only [dt_up_s, dt_up_k, dt_up_n]; omega)) (by first | omega | (simp (disch := omega) only [dt_up_s, dt_up_k, dt_up_n]; omega)) (by decide) ?_
          rw [Int.toNat_natCast, show σ1 32 i = dt_b (P i) by rw [jf 32 (by decide)]; exact hM i hi]
          refine dt_if_eq (tgt := 36) dX8_joinBargain_29 (by decide) (by first | assumption | exact hwf _ _ | exact dt_b32 _ | omega | exact ⟨by omega, by omega⟩ | decide | exact ⟨by simp (disch := omega) only [dt_up_s, dt_up_k, dt_up_n]; omega, by simp (disch := omega) only [dt_up_s, dt_up_k, dt_up_n]; omega⟩) (fun c3 => ?_) (fun c3 => ?_)
          · skip
            try simp only [dt_b0, dt_b1, Decidable.not_not, Classical.not_not] at c3
            have hnn : ¬ (Q i ∧ P i) := fun z => (show ¬ P i by assumption) z.2
            refine dt_iconst dX8_joinBargain_36 ?_
            refine dt_zast dX8_joinBargain_37 rfl (by first | omega | (simp (disch := omega) only [dt_up_s, dt_up_k, dt_up_n]; omega)) (by first | omega | (simp (disch := omega) only [dt_up_s, dt_up_k, dt_up_n]; omega)) (by decide) (by first | exact Or.inl rfl | exact Or.inr rfl | assumption | omega) ?_
            rw [Int.toNat_natCast]
            refine dt_iinc dX8_joinBargain_38 rfl (by decide) rfl ?_
            dsimp only [List.set]
            refine dt_goto (tgt := 2) dX8_joinBargain_41 (by decide) ?_
            have jm2 : mP (dt_up σ1 34 i 0) 34 256 (fun k => Q k ∧ (k < i + 1 → P k)) := fun k hk => by
              by_cases e : k = i
              · subst e; rw [dt_up_s]; exact (dt_bF (fun z => hnn ⟨z.1, z.2 (by omega)⟩)).symm
              · rw [dt_up_k e, jm k hk]; exact dt_bc ⟨fun z => ⟨z.1, fun _ => z.2 (by omega)⟩, fun z => ⟨z.1, fun _ => z.2 (by omega)⟩⟩
            exact dt_lb (ih (i + 1) _ (by omega) (by omega) (fun b hb => (dt_up_o hb).trans (jf b hb)) jm2) ⟨rfl, rfl, trivial⟩
          · skip
            try simp only [dt_b0, dt_b1, Decidable.not_not, Classical.not_not] at c3
            have hpy : P i := by assumption
            refine dt_iconst dX8_joinBargain_32 ?_
            refine dt_goto (tgt := 37) dX8_joinBargain_33 (by decide) ?_
            refine dt_zast dX8_joinBargain_37 rfl (by first | omega | (simp (disch := omega) only [dt_up_s, dt_up_k, dt_up_n]; omega)) (by first | omega | (simp (disch := omega) only [dt_up_s, dt_up_k, dt_up_n]; omega)) (by decide) (by first | exact Or.inl rfl | exact Or.inr rfl | assumption | omega) ?_
            rw [Int.toNat_natCast]
            refine dt_iinc dX8_joinBargain_38 rfl (by decide) rfl ?_
            dsimp only [List.set]
            refine dt_goto (tgt := 2) dX8_joinBargain_41 (by decide) ?_
            have jm2 : mP (dt_up σ1 34 i 1) 34 256 (fun k => Q k ∧ (k < i + 1 → P k)) := fun k hk => by
              by_cases e : k = i
              · subst e; rw [dt_up_s]; exact (dt_bT ⟨hqy, fun _ => hpy⟩).symm
              · rw [dt_up_k e, jm k hk]; exact dt_bc ⟨fun z => ⟨z.1, fun _ => z.2 (by omega)⟩, fun z => ⟨z.1, fun _ => z.2 (by omega)⟩⟩
            exact dt_lb (ih (i + 1) _ (by omega) (by omega) (fun b hb => (dt_up_o hb).trans (jf b hb)) jm2) ⟨rfl, rfl, trivial⟩
  exact dt_lb (lp2 300 0 σ (by omega) (by omega) (fun _ _ => rfl) (hQ.ext (fun k _ => ⟨fun z => ⟨z, fun h => absurd h (Nat.not_lt_zero k)⟩, fun z => z.1⟩))) ⟨rfl, rfl, trivial⟩
theorem oBar_e {A : dS} {r m k e : Int} {q : Nat × List Int} (h1 : ¬ (sN A).1 = []) (h2 : (0 ≤ r ∧ r < 8) ∧ (1 ≤ m ∧ m ≤ 5) ∧ -1 ≤ k) (hq : sR A r.toNat = some q) (h3 : xBar (sN A) m.toNat (fun _ => True) q.2 = .error e) : oBargain A r m k = (e, if e = -1000012 then sSt A 2 else A) := by
  unfold oBargain
  rw [if_neg h1, if_neg (fun z => z h2)]
  simp only [hq, h3]
theorem oBar_o {A : dS} {r m k : Int} {q : Nat × List Int} {Q : Nat → Prop} (h1 : ¬ (sN A).1 = []) (h2 : (0 ≤ r ∧ r < 8) ∧ (1 ≤ m ∧ m ≤ 5) ∧ -1 ≤ k) (hq : sR A r.toNat = some q) (h3 : xBar (sN A) m.toNat (fun _ => True) q.2 = .ok Q) : oBargain A r m k = (oM Q k, sSt A 0) := by
  unfold oBargain
  rw [if_neg h1, if_neg (fun z => z h2)]
  simp only [hq, h3]
theorem s_X11_bargain {ex : List dt_Shp} {σ : dt_Mem} {A : dS} {r m k : Int} (hI : cInv ex σ A) (h_r : dt_in32 r) (h_m : dt_in32 m) (h_k : dt_in32 k) : dt_Sp mX11_bargain 6 0 0 [dt_R 0, dt_I r, dt_I m, dt_I k] (dt_SH ++ ex) σ (fun v sh2 σ2 => v = some (dt_I (oBargain A r m k).1) ∧ sh2 = dt_SH ++ ex ∧ cEnd ex σ σ2 (oBargain A r m k).2) := by
  refine dt_Sp_of (by decide) (Nat.le_of_ble_eq_true rfl) ?_
  refine dt_wfV fun hwf => ?_
  have hc := hI.2.2.1.1
  have hok := hI.2.2.1.2.1
  have e5 := hc.t
  have e6 := hc.p
  have e7 := hc.1
  show dt_V _ _ _ 0 0 0 [some (dt_R 0), some (dt_I r), some (dt_I m), some (dt_I k), none, none, none] [] _ _
  refine dt_aloadn dX11_bargain_0 rfl rfl ?_
  refine dt_xV dX11_bargain_1 pc_X11_132 rfl s_X11_hasNoPort rfl rfl ⟨by decide, by decide⟩ rfl rfl (Nat.le_of_ble_eq_true rfl) ⟨by decide, by decide⟩ (dt_k3 ?_)
  refine dt_if_eq (tgt := 10) dX11_bargain_4 (by decide) (by first | assumption | exact hwf _ _ | exact dt_b32 _ | omega | exact ⟨by omega, by omega⟩ | decide | exact ⟨by simp (disch := omega) only [dt_up_s, dt_up_k, dt_up_n]; omega, by simp (disch := omega) only [dt_up_s, dt_up_k, dt_up_n]; omega⟩) (fun c1 => ?_) (fun c1 => ?_)
  · skip
    try simp only [dt_b0, dt_b1, Decidable.not_not, Classical.not_not] at c1
    refine dt_iloadn dX11_bargain_10 rfl rfl ?_
    refine dt_xS dX11_bargain_11 pc_X11_66 (s_X7_isOne (by first | assumption | exact hwf _ _ | exact dt_b32 _ | omega | exact ⟨by omega, by omega⟩ | decide | exact ⟨by simp (disch := omega) only [dt_up_s, dt_up_k, dt_up_n]; omega, by simp (disch := omega) only [dt_up_s, dt_up_k, dt_up_n]; omega⟩)) rfl rfl ⟨by decide, by decide⟩ (Nat.le_of_ble_eq_true rfl) ⟨by decide, by decide⟩ (dt_k3 ?_)
    refine dt_if_eq (tgt := 31) dX11_bargain_14 (by decide) (by first | assumption | exact hwf _ _ | exact dt_b32 _ | omega | exact ⟨by omega, by omega⟩ | decide | exact ⟨by simp (disch := omega) only [dt_up_s, dt_up_k, dt_up_n]; omega, by simp (disch := omega) only [dt_up_s, dt_up_k, dt_up_n]; omega⟩) (fun c2 => ?_) (fun c2 => ?_)
    · skip
      try simp only [dt_b0, dt_b1, Decidable.not_not, Classical.not_not] at c2
      refine dt_ldc dX11_bargain_31 pk_X11_74 ?_
      refine dt_iret dX11_bargain_33 rfl (by decide) (by decide) ?_
      have e : oBargain A r m k = (-1000001, A) := by
        unfold oBargain
        rw [if_neg (fun q => by have := dt_nn.mpr q; omega), if_pos (by omega)]
      rw [e]
      exact ⟨rfl, rfl, hI, fun b _ _ => rfl⟩
    · skip
      try simp only [dt_b0, dt_b1, Decidable.not_not, Classical.not_not] at c2
      refine dt_iloadn dX11_bargain_17 rfl rfl ?_
      refine dt_iconst dX11_bargain_18 ?_
      refine dt_iconst dX11_bargain_19 ?_
      refine dt_xS dX11_bargain_20 pc_X11_70 (s_X11_isWithin (by first | assumption | exact hwf _ _ | exact dt_b32 _ | omega | exact ⟨by omega, by omega⟩ | decide | exact ⟨by simp (disch := omega) only [dt_up_s, dt_up_k, dt_up_n]; omega, by simp (disch := omega) only [dt_up_s, dt_up_k, dt_up_n]; omega⟩) (by first | assumption | exact hwf _ _ | exact dt_b32 _ | omega | exact ⟨by omega, by omega⟩ | decide | exact ⟨by simp (disch := omega) only [dt_up_s, dt_up_k, dt_up_n]; omega, by simp (disch := omega) only [dt_up_s, dt_up_k, dt_up_n]; omega⟩) (by first | assumption | exact hwf _ _ | exact dt_b32 _ | omega | exact ⟨by omega, by omega⟩ | decide | exact ⟨by simp (disch := omega) only [dt_up_s, dt_up_k, dt_up_n]; omega, by simp (disch := omega) only [dt_up_s, dt_up_k, dt_up_n]; omega⟩)) rfl rfl ⟨by decide, by decide⟩ (Nat.le_of_ble_eq_true rfl) ⟨by decide, by decide⟩ (dt_k3 ?_)
      refine dt_if_eq (tgt := 31) dX11_bargain_23 (by decide) (by first | assumption | exact hwf _ _ | exact dt_b32 _ | omega | exact ⟨by omega, by omega⟩ | decide | exact ⟨by simp (disch := omega) only [dt_up_s, dt_up_k, dt_up_n]; omega, by simp (disch := omega) only [dt_up_s, dt_up_k, dt_up_n]; omega⟩) (fun c3 => ?_) (fun c3 => ?_)
      · skip
        try simp only [dt_b0, dt_b1, Decidable.not_not, Classical.not_not] at c3
        refine dt_ldc dX11_bargain_31 pk_X11_74 ?_
        refine dt_iret dX11_bargain_33 rfl (by decide) (by decide) ?_
        have e : oBargain A r m k = (-1000001, A) := by
          unfold oBargain
          rw [if_neg (fun q => by have := dt_nn.mpr q; omega), if_pos (by omega)]
        rw [e]
        exact ⟨rfl, rfl, hI, fun b _ _ => rfl⟩
      · skip
        try simp only [dt_b0, dt_b1, Decidable.not_not, Classical.not_not] at c3
        refine dt_iloadn dX11_bargain_26 rfl rfl ?_
        refine dt_iconst dX11_bargain_27 ?_
        refine dt_cm_ge (tgt := 34) dX11_bargain_28 (by decide) (by first | assumption | exact hwf _ _ | exact dt_b32 _ | omega | exact ⟨by omega, by omega⟩ | decide | exact ⟨by simp (disch := omega) only [dt_up_s, dt_up_k, dt_up_n]; omega, by simp (disch := omega) only [dt_up_s, dt_up_k, dt_up_n]; omega⟩) (by first | assumption | exact hwf _ _ | exact dt_b32 _ | omega | exact ⟨by omega, by omega⟩ | decide | exact ⟨by simp (disch := omega) only [dt_up_s, dt_up_k, dt_up_n]; omega, by simp (disch := omega) only [dt_up_s, dt_up_k, dt_up_n]; omega⟩) (fun c4 => ?_) (fun c4 => ?_)
        · skip
          refine dt_aloadn dX11_bargain_34 rfl rfl ?_
          refine dt_getR dX11_bargain_35 pg_X11_10_11 rfl rfl ?_
          refine dt_iloadn dX11_bargain_38 rfl rfl ?_
          refine dt_xV dX11_bargain_39 pc_X11_86 rfl (s_X7_isMissing (by first | assumption | exact hwf _ _ | exact dt_b32 _ | omega | exact ⟨by omega, by omega⟩ | decide | exact ⟨by simp (disch := omega) only [dt_up_s, dt_up_k, dt_up_n]; omega, by simp (disch := omega) only [dt_up_s, dt_up_k, dt_up_n]; omega⟩) (by first | assumption | exact hwf _ _ | exact dt_b32 _ | omega | exact ⟨by omega, by omega⟩ | decide | exact ⟨by simp (disch := omega) only [dt_up_s, dt_up_k, dt_up_n]; omega, by simp (disch := omega) only [dt_up_s, dt_up_k, dt_up_n]; omega⟩)) rfl rfl ⟨by decide, by decide⟩ rfl rfl (Nat.le_of_ble_eq_true rfl) ⟨by decide, by decide⟩ (dt_k3 ?_)
          refine dt_if_eq (tgt := 51) dX11_bargain_42 (by decide) (by first | assumption | exact hwf _ _ | exact dt_b32 _ | omega | exact ⟨by omega, by omega⟩ | decide | exact ⟨by simp (disch := omega) only [dt_up_s, dt_up_k, dt_up_n]; omega, by simp (disch := omega) only [dt_up_s, dt_up_k, dt_up_n]; omega⟩) (fun c5 => ?_) (fun c5 => ?_)
          · skip
            try simp only [dt_b0, dt_b1, Decidable.not_not, Classical.not_not] at c5
            have hrr := hI.row (r := r.toNat) (by omega)
            obtain ⟨q, hq, q1, q2, q3, q4, q5⟩ := hrr.some (by assumption)
            rw [hq] at hrr
            refine dt_aloadn dX11_bargain_51 rfl rfl ?_
            refine dt_getR dX11_bargain_52 pg_X11_44_11 rfl rfl ?_
            refine dt_xV dX11_bargain_55 pc_X11_195 rfl s_X8_beginBargain rfl rfl ⟨by decide, by decide⟩ rfl rfl (Nat.le_of_ble_eq_true rfl) ⟨by decide, by decide⟩ ?_
            intro vb shb σb hqb
            obtain ⟨rfl, hsb, hfb, hMb⟩ := hqb
            obtain rfl := hsb.symm
            refine dt_iconst dX11_bargain_58 ?_
            refine dt_istore dX11_bargain_59 (by decide) rfl ?_
            dsimp only [List.set]
            refine dt_iconst dX11_bargain_61 ?_
            refine dt_istore dX11_bargain_62 (by decide) rfl ?_
            dsimp only [List.set]
            have lp64 : ∀ (fu : Nat) (s c : Nat) (Q : Nat → Prop) (σ1 : dt_Mem), m - (s : Int) < (fu : Int) → ((s : Int) ≤ m) → (c ≤ q.2.length) → (∀ b, b ≠ 32 → b ≠ 33 → b ≠ 34 → σ1 b = σ b) → (mP σ1 34 256 Q) → (xBar (sN A) (m.toNat - s) Q (q.2.drop c) = xBar (sN A) m.toNat (fun _ => True) q.2) →  dt_V mX11_bargain (dt_rm 6 0 0) (dt_MC (fun v sh2 σ2 => v = some (dt_I (oBargain A r m k).1) ∧ sh2 = dt_SH ++ ex ∧ cEnd ex σ σ2 (oBargain A r m k).2) 0 0) 0 0 64 [some (dt_R 0), some (dt_I r), some (dt_I m), some (dt_I k), some (dt_I (c : Int)), some (dt_I (s : Int)), none] [] (dt_SH ++ ex) σ1 := by
              intro fu
              induction fu with
              | zero =>
                intro s c Q σ1 hm sl hc2 jf jm jr
                exfalso
                omega
              | succ fu ih =>
                intro s c Q σ1 hm sl hc2 jf jm jr
                refine dt_wfV fun hwf => ?_
                have hX1 : cPort σ1 7 (sN A) := hc.kept (fun b _ _ => jf b (by omega) (by omega) (by omega))
                refine dt_iload dX11_bargain_64 rfl ?_
                refine dt_iloadn dX11_bargain_66 rfl rfl ?_
                refine dt_cm_ge (tgt := 134) dX11_bargain_67 (by decide) (by first | assumption | exact hwf _ _ | exact dt_b32 _ | omega | exact ⟨by omega, by omega⟩ | decide | exact ⟨by simp (disch := omega) only [dt_up_s, dt_up_k, dt_up_n]; omega, by simp (disch := omega) only [dt_up_s, dt_up_k, dt_up_n]; omega⟩) (by first | assumption | exact hwf _ _ | exact dt_b32 _ | omega | exact ⟨by omega, by omega⟩ | decide | exact ⟨by simp (disch := omega) only [dt_up_s, dt_up_k, dt_up_n]; omega, by simp (disch := omega) only [dt_up_s, dt_up_k, dt_up_n]; omega⟩) (fun c6 => ?_) (fun c6 => ?_)
                · skip
                  refine dt_aloadn dX11_bargain_134 rfl rfl ?_
                  refine dt_aloadn dX11_bargain_135 rfl rfl ?_
                  refine dt_getR dX11_bargain_136 pg_X11_44_11 rfl rfl ?_
                  refine dt_iloadn dX11_bargain_139 rfl rfl ?_
                  refine dt_xV dX11_bargain_140 pc_X11_207 rfl (s_X8_meaningAlike jm (by assumption)) rfl rfl ⟨by decide, by decide⟩ rfl rfl (Nat.le_of_ble_eq_true rfl) ⟨by decide, by decide⟩ (dt_k3 ?_)
                  refine dt_xV dX11_bargain_143 pc_X11_83 rfl s_X11_well rfl rfl ⟨by decide, by decide⟩ rfl rfl (Nat.le_of_ble_eq_true rfl) ⟨by decide, by decide⟩ (dt_k3 ?_)
                  refine dt_iret dX11_bargain_146 rfl (by decide) (by decide) ?_
                  rw [show m.toNat - s = 0 by omega] at jr
                  rw [oBar_o (fun q => by have := dt_nn.mpr q; omega) (by omega) hq jr.symm]
                  exact ⟨rfl, rfl, (hI.sy (fun b hb => jf b (by omega) (by omega) (by omega))).st 0, fun b h1 h2 => (dt_up_o (by omega)).trans (jf b (by omega) (by omega) (by omega))⟩
                · skip
                  obtain ⟨z, hz⟩ : ∃ z, m.toNat - s = z + 1 := ⟨m.toNat - s - 1, by omega⟩
                  rw [hz] at jr
                  refine dt_aloadn dX11_bargain_70 rfl rfl ?_
                  refine dt_iloadn dX11_bargain_71 rfl rfl ?_
                  refine dt_iload dX11_bargain_72 rfl ?_
                  refine dt_xV dX11_bargain_74 pc_X11_198 rfl (s_X11_refusalOfSaying hX1 hok (by omega) (by omega) (hrr.kept (congrFun (jf 2 (by decide) (by decide) (by decide)) _) (congrFun (jf 3 (by decide) (by decide) (by decide)) _) (fun _ _ => congrFun (jf 4 (by decide) (by decide) (by decide)) _)) hc2 (by omega)) rfl rfl ⟨by decide, by decide⟩ rfl rfl (Nat.le_of_ble_eq_true rfl) ⟨by decide, by decide⟩ ?_
                  intro vs shs σs hqs
                  obtain ⟨rfl, hss, hfs, hPs⟩ := hqs
                  obtain rfl := hss.symm
                  refine dt_istore dX11_bargain_77 (by decide) rfl ?_
                  dsimp only [List.set]
                  have hrfb : dt_in32 (rfv (xOne (sN A) (q.2.drop c))) := by
                    obtain ⟨e, he⟩ | ⟨p, he⟩ := xE_c (xOne (sN A) (q.2.drop c))
                    · rw [he]
                      rcases xOne_r he with g | g <;> (rw [g]; decide)
                    · rw [he]; exact (by decide : dt_in32 0)
                  refine dt_iload dX11_bargain_79 rfl ?_
                  refine dt_if_eq (tgt := 102) dX11_bargain_81 (by decide) hrfb (fun c7 => ?_) (fun c7 => ?_)
                  · skip
                    obtain ⟨e, he⟩ | ⟨⟨P, l3⟩, he⟩ := xE_c (xOne (sN A) (q.2.drop c))
                    · exfalso
                      have z : rfv (xOne (sN A) (q.2.drop c)) = 0 := by assumption
                      rw [he] at z
                      have z : (if e = -1000012 then (2 : Int) else e) = 0 := z
                      have := xOne_r he
                      split at z <;> omega
                    have hMP := hPs _ he
                    obtain ⟨day, nn, l2, hl, n0, n6, nl, rfl⟩ := xOne_i he
                    have hcl : c + 1 < q.2.length := by have := congrArg List.length hl; rw [List.length_drop] at this; simp only [List.length_cons] at this; omega
                    obtain ⟨y, hy⟩ := dt_lg hcl
                    obtain ⟨x, hx⟩ := dt_lg (show c < q.2.length by omega)
                    have hd := drop_c hx
                    rw [drop_c hy, hl] at hd
                    obtain ⟨-, hd1⟩ := List.cons.inj hd
                    obtain ⟨hyn, hd2⟩ := List.cons.inj hd1
                    have hdl := congrArg List.length hd2
                    rw [List.length_drop] at hdl
                    rw [← hyn] at hy
                    have jr2 := (xBar_s he).symm.trans jr
                    refine dt_aloadn dX11_bargain_102 rfl rfl ?_
                    refine dt_getR dX11_bargain_103 pg_X11_44_11 rfl rfl ?_
                    refine dt_xV dX11_bargain_106 pc_X11_201 rfl (s_X8_joinBargain hMP (jm.kept (hfs 34 (by decide) (by decide)))) rfl rfl ⟨by decide, by decide⟩ rfl rfl (Nat.le_of_ble_eq_true rfl) ⟨by decide, by decide⟩ ?_
                    intro vj shj σj hqj
                    obtain ⟨rfl, hsj, hfj, hMj⟩ := hqj
                    obtain rfl := hsj.symm
                    refine dt_iload dX11_bargain_109 rfl ?_
                    refine dt_iconst dX11_bargain_111 ?_
                    refine dt_aloadn dX11_bargain_112 rfl rfl ?_
                    refine dt_getR dX11_bargain_113 pg_X11_10_11 rfl rfl ?_
                    refine dt_iloadn dX11_bargain_116 rfl rfl ?_
                    refine dt_iload dX11_bargain_117 rfl ?_
                    refine dt_iconst dX11_bargain_119 ?_
                    refine dt_iadd dX11_bargain_120 ?_
                    refine dt_xV dX11_bargain_121 pc_X11_204 rfl (s_X7_item (by omega) (by omega) ⟨by omega, by omega, by rw [hfj 3 (by decide), hfs 3 (by decide) (by decide), jf 3 (by decide) (by decide) (by decide)]; omega, by rw [hfj 3 (by decide), hfs 3 (by decide) (by decide), jf 3 (by decide) (by decide) (by decide)]; omega⟩ (by rw [hfj 3 (by decide), hfs 3 (by decide) (by decide), jf 3 (by decide) (by decide) (by decide)]; omega)) rfl rfl ⟨by decide, by decide⟩ rfl rfl (Nat.le_of_ble_eq_true rfl) ⟨by decide, by decide⟩ (dt_k3 ?_)
                    rw [show σj 4 (r * 40 + ((c : Int) + 1)).toNat = nn by rw [hfj 4 (by decide), hfs 4 (by decide) (by decide), jf 4 (by decide) (by decide) (by decide), show (r * 40 + ((c : Int) + 1)).toNat = r.toNat * 40 + (c + 1) by omega]; exact q5 _ _ hy]
                    refine dt_iadd dX11_bargain_124 ?_
                    refine dt_iadd dX11_bargain_125 ?_
                    refine dt_istore dX11_bargain_126 (by decide) rfl ?_
                    dsimp only [List.set]
                    refine dt_iinc dX11_bargain_128 rfl (by decide) rfl ?_
                    dsimp only [List.set]
                    refine dt_goto (tgt := 64) dX11_bargain_131 (by decide) ?_
                    have hc3 : c + 2 + nn.toNat ≤ q.2.length := by omega
                    exact dt_lb (ih (s + 1) (c + 2 + nn.toNat) (fun k => Q k ∧ P k) σj (by omega) (by omega) hc3 (fun b h1 h2 h3 => (hfj b h3).trans ((hfs b h1 h2).trans (jf b h1 h2 h3))) hMj (by rw [show m.toNat - (s + 1) = z by omega, show q.2.drop (c + 2 + nn.toNat) = l2.drop nn.toNat by rw [hd2, List.drop_drop]]; exact jr2)) ⟨rfl, rfl, rfl, rfl, (dt_ie (by omega)), rfl, trivial⟩
                  · skip
                    obtain ⟨e, he⟩ | ⟨p, he⟩ := xE_c (xOne (sN A) (q.2.drop c))
                    rotate_left
                    · exfalso
                      have z : ¬ rfv (xOne (sN A) (q.2.drop c)) = 0 := by assumption
                      rw [he] at z
                      exact z rfl
                    have her := xOne_r he
                    have hfin : xBar (sN A) m.toNat (fun _ => True) q.2 = .error e := jr.symm.trans (xBar_e he)
                    have hrv : rfv (xOne (sN A) (q.2.drop c)) = (if e = -1000012 then 2 else e) := by rw [he]; rfl
                    refine dt_iload dX11_bargain_84 rfl ?_
                    refine dt_ldc dX11_bargain_86 pk_X11_74 ?_
                    refine dt_cm_ne (tgt := 96) dX11_bargain_88 (by decide) hrfb (by decide) (fun c8 => ?_) (fun c8 => ?_)
                    · skip
                      have he12 : e = -1000012 := by
                        rcases her with g | g
                        · rw [g] at hrv; have hrv : rfv (xOne (sN A) (q.2.drop c)) = -1000001 := hrv; omega
                        · exact g
                      refine dt_aloadn dX11_bargain_96 rfl rfl ?_
                      refine dt_iconst dX11_bargain_97 ?_
                      refine dt_xV dX11_bargain_98 pc_X11_75 rfl (s_X11_found (by first | assumption | exact hwf _ _ | exact dt_b32 _ | omega | exact ⟨by omega, by omega⟩ | decide | exact ⟨by simp (disch := omega) only [dt_up_s, dt_up_k, dt_up_n]; omega, by simp (disch := omega) only [dt_up_s, dt_up_k, dt_up_n]; omega⟩)) rfl rfl ⟨by decide, by decide⟩ rfl rfl (Nat.le_of_ble_eq_true rfl) ⟨by decide, by decide⟩ (dt_k3 ?_)
                      refine dt_iret dX11_bargain_101 rfl (by decide) (by decide) ?_
                      rw [oBar_e (fun q => by have := dt_nn.mpr q; omega) (by omega) hq hfin, he12, if_pos rfl]
                      exact ⟨rfl, rfl, (hI.sy (fun b hb => (hfs b (by omega) (by omega)).trans (jf b (by omega) (by omega) (by omega)))).st 2, fun b h1 h2 => (dt_up_o (by omega)).trans ((hfs b (by omega) (by omega)).trans (jf b (by omega) (by omega) (by omega)))⟩
                    · skip
                      have he1 : e = -1000001 := by
                        rcases her with g | g
                        · exact g
                        · rw [g] at hrv; have hrv : rfv (xOne (sN A) (q.2.drop c)) = 2 := hrv; omega
                      refine dt_ldc dX11_bargain_91 pk_X11_74 ?_
                      refine dt_goto (tgt := 101) dX11_bargain_93 (by decide) ?_
                      refine dt_iret dX11_bargain_101 rfl (by decide) (by decide) ?_
                      rw [oBar_e (fun q => by have := dt_nn.mpr q; omega) (by omega) hq hfin, he1, if_neg (by decide)]
                      exact ⟨rfl, rfl, hI.sy (fun b hb => (hfs b (by omega) (by omega)).trans (jf b (by omega) (by omega) (by omega))), fun b h1 h2 => (hfs b (by omega) (by omega)).trans (jf b (by omega) (by omega) (by omega))⟩
            exact dt_lb (lp64 9 0 0 (fun _ => True) σb (by omega) (by omega) (Nat.zero_le _) (fun b _ _ h => hfb b h) hMb rfl) ⟨rfl, rfl, rfl, rfl, rfl, rfl, trivial⟩
          · skip
            try simp only [dt_b0, dt_b1, Decidable.not_not, Classical.not_not] at c5
            have hrr := hI.row (r := r.toNat) (by omega)
            have hq := hrr.none (by assumption)
            refine dt_aloadn dX11_bargain_45 rfl rfl ?_
            refine dt_iconst dX11_bargain_46 ?_
            refine dt_xV dX11_bargain_47 pc_X11_75 rfl (s_X11_found (by first | assumption | exact hwf _ _ | exact dt_b32 _ | omega | exact ⟨by omega, by omega⟩ | decide | exact ⟨by simp (disch := omega) only [dt_up_s, dt_up_k, dt_up_n]; omega, by simp (disch := omega) only [dt_up_s, dt_up_k, dt_up_n]; omega⟩)) rfl rfl ⟨by decide, by decide⟩ rfl rfl (Nat.le_of_ble_eq_true rfl) ⟨by decide, by decide⟩ (dt_k3 ?_)
            refine dt_iret dX11_bargain_50 rfl (by decide) (by decide) ?_
            have e : oBargain A r m k = (-1000011, sSt A 1) := by
              unfold oBargain
              rw [if_neg (fun q => by have := dt_nn.mpr q; omega), if_neg (by omega)]
              simp only [hq]
            rw [e]
            exact ⟨rfl, rfl, hI.st 1, fun b _ _ => dt_up_o (by omega)⟩
        · skip
          refine dt_ldc dX11_bargain_31 pk_X11_74 ?_
          refine dt_iret dX11_bargain_33 rfl (by decide) (by decide) ?_
          have e : oBargain A r m k = (-1000001, A) := by
            unfold oBargain
            rw [if_neg (fun q => by have := dt_nn.mpr q; omega), if_pos (by omega)]
          rw [e]
          exact ⟨rfl, rfl, hI, fun b _ _ => rfl⟩
  · skip
    try simp only [dt_b0, dt_b1, Decidable.not_not, Classical.not_not] at c1
    refine dt_ldc dX11_bargain_7 pk_X11_136 ?_
    refine dt_iret dX11_bargain_9 rfl (by decide) (by decide) ?_
    have e : oBargain A r m k = (-1000002, A) := by
      unfold oBargain
      rw [if_pos (dt_nn.mp (by omega))]
    rw [e]
    exact ⟨rfl, rfl, hI, fun b _ _ => rfl⟩
