
/-! how far a reading may go on -/
def zM (n : Nat) (s : pR Tok) : Nat := match s with
  | .ok _ => n
  | .error _ => 0
theorem zM_le (n : Nat) (s : pR Tok) : zM n s ≤ n := by
  cases s with
  | ok u => exact Nat.le_refl n
  | error e => exact Nat.zero_le n
def pNw (T : List Nat) (tg : List (Nat × List Nat)) (s : pR Tok) : pR (List (Nat × List Nat) × Tok) := match s with
  | .ok u => pWords T (9 - tg.length) tg u
  | .error e => .error e
def pNt (T : List Nat) (Ts : List (List (Nat × List Nat))) (s : pR Tok) : pR (List (List (Nat × List Nat)) × Tok) := match s with
  | .ok u => pTongues T (8 - Ts.length) Ts u
  | .error e => .error e
def pNp (T : List Nat) (m : Nat) (Ps : List Nat) (s : pR Tok) : pR (List Nat × Tok) := match s with
  | .ok u => pPersons T m (9 - Ps.length) Ps u
  | .error e => .error e
def r1T (T : List Nat) : pR (List (List (Nat × List Nat)) × Tok) := if ¬ isN T (tk T 0) 0 = true then .error (1, (tk T 0).2.1) else pTongues T 8 [] (tk T 0)
def r2T (T : List Nat) : pR (List Nat × Tok) := match r1T T with
  | .error e => .error e
  | .ok q => pPersons T q.1.length 9 [] q.2
theorem r2T_e {T : List Nat} {e : Nat × Nat} (h : r1T T = .error e) : r2T T = .error e := by
  unfold r2T
  rw [h]
theorem r2T_o {T : List Nat} {Ts : List (List (Nat × List Nat))} {u : Tok} (h : r1T T = .ok (Ts, u)) : r2T T = pPersons T Ts.length 9 [] u := by
  unfold r2T
  rw [h]
theorem pPort_r {T : List Nat} : pPort T = match r1T T with
    | .error e => .error e
    | .ok q => match r2T T with
      | .error e => .error e
      | .ok p => if p.2.1 = 0 then .ok (q.1, p.1) else .error (1, p.2.2.1) := by
  unfold pPort r1T r2T r1T
  by_cases h : isN T (tk T 0) 0 = true
  · rw [if_neg (fun q => q h), if_neg (fun q => q h)]
    cases pTongues T 8 [] (tk T 0) with
    | error e => rfl
    | ok q =>
      cases pPersons T q.1.length 9 [] q.2 with
      | error e => rfl
      | ok p => rfl
  · rw [if_pos h, if_pos h]
theorem pPort_e {T : List Nat} {e : Nat × Nat} (h : r2T T = .error e) : pPort T = .error e := by
  rw [pPort_r]
  cases h1 : r1T T with
  | error e2 =>
    rw [r2T_e h1] at h
    obtain rfl := Except.error.inj h
    rfl
  | ok q => simp only [h]
theorem pPort_y {T : List Nat} {Ts : List (List (Nat × List Nat))} {Ps : List Nat} {t u : Tok} (h1 : r1T T = .ok (Ts, t)) (h2 : r2T T = .ok (Ps, u)) : pPort T = if u.1 = 0 then .ok (Ts, Ps) else .error (1, u.2.1) := by
  rw [pPort_r, h1]
  simp only [h2]
theorem pPerson_s {T : List Nat} {m n : Nat} {t : Tok} (h : ¬ 8 ≤ n) : pS (pPerson T m n t) = mEnd T (mNum T 0 (((2 ^ m : Nat) : Int) - 1) (.ok (tk T t.2.2))) ∧ ∀ q, pPerson T m n t = .ok q → q.1 = mVal T (.ok (tk T t.2.2)) := by
  obtain ⟨P2, hP⟩ : ∃ z, z = 2 ^ m := ⟨_, rfl⟩
  by_cases h2 : (tk T t.2.2).1 = 2
  · by_cases h3 : 2 ^ m ≤ nT T (tk T t.2.2)
    · have e : mNum T 0 (((2 ^ m : Nat) : Int) - 1) (.ok (tk T t.2.2)) = .error (2, (tk T t.2.2).2.1) := (if_neg (fun z => z h2)).trans (if_neg (by rw [← hP] at h3 ⊢; omega))
      rw [pPerson_b h h2 h3, e]
      exact ⟨rfl, fun q hq => by cases hq⟩
    · have e : mNum T 0 (((2 ^ m : Nat) : Int) - 1) (.ok (tk T t.2.2)) = .ok (tk T (tk T t.2.2).2.2) := (if_neg (fun z => z h2)).trans (if_pos (by rw [← hP] at h3 ⊢; omega))
      have v : mVal T (.ok (tk T t.2.2)) = nT T (tk T t.2.2) := if_pos h2
      rw [e, v]
      rcases pR_c (pSemi T (tk T (tk T t.2.2).2.2)) with ⟨e, hs⟩ | ⟨u, hs⟩
      · rw [pPerson_e h h2 h3 hs]
        exact ⟨hs.symm, fun q hq => by cases hq⟩
      · rw [pPerson_o h h2 h3 hs]
        exact ⟨hs.symm, fun q hq => by obtain rfl := Except.ok.inj hq; rfl⟩
  · have e : mNum T 0 (((2 ^ m : Nat) : Int) - 1) (.ok (tk T t.2.2)) = .error (1, (tk T t.2.2).2.1) := if_pos h2
    rw [pPerson_n h h2, e]
    exact ⟨rfl, fun q hq => by cases hq⟩
theorem rZ.kept {σ σ1 : dt_Mem} {T : List Nat} {s : pR Tok} (h : rZ σ T s) (e : ∀ b, b ≠ 45 → σ1 b = σ b) : rZ σ1 T s := by
  have e40 := e 40 (by decide)
  obtain ⟨⟨l1, l2, l3, l4⟩, t, ⟨⟨t1, t2, t3, t4⟩, tq⟩, hs⟩ := h
  refine ⟨⟨by rw [e40]; exact l1, l2, l3, by rw [e 46 (by decide)]; exact l4⟩, t, ⟨⟨by rw [e40]; exact t1, by rw [e40]; exact t2, by rw [e40]; exact t3, by rw [e40]; exact t4⟩, tq⟩, ?_⟩
  rw [e40]
  exact hs
/-- the reference after a text is read -/
theorem rInv.read {σ σ' : dt_Mem} {A : dS} {F : Int} {X : dX} (h : rInv σ A) (e : ∀ b k, b ≠ 44 → b ≠ 45 → (b ≠ 40 ∨ (k ≠ 0 ∧ k ≠ 7 ∧ k ≠ 9 ∧ k ≠ 10 ∧ (k < 11 ∨ 17 < k))) → σ' b k = σ b k) (e9 : σ' 40 9 = 0) (e10 : σ' 40 10 = F) (hX : rPort σ' 44 0 X ∧ σ' 40 7 = dt_b (X.1 ≠ [])) : rInv σ' (sR A, [], X, sI A, F, sS A, sC A) := by
  obtain ⟨h1, h2, h3, h4, h5, h6, h7, h8⟩ := h
  have g : ∀ b, b ≠ 40 → b ≠ 44 → b ≠ 45 → σ' b = σ b := fun b p q r => funext fun k => e b k q r (Or.inl p)
  refine ⟨h1.kept (g 41 (by decide) (by decide) (by decide)) (g 42 (by decide) (by decide) (by decide)) (g 43 (by decide) (by decide) (by decide)), ⟨e9, fun i x hx => by cases (show (none : Option Nat) = some x from hx)⟩, hX, ⟨fun z => (h4.1 z).kept (g 53 (by decide) (by decide) (by decide)), by rw [g 52 (by decide) (by decide) (by decide)]; exact h4.2⟩, ⟨fun z => (h5.1 z).kept (g 53 (by decide) (by decide) (by decide)), by rw [g 52 (by decide) (by decide) (by decide)]; exact h5.2⟩, e10, (e 40 1 (by decide) (by decide) (Or.inr (by decide))).trans h7, ⟨(e 40 29 (by decide) (by decide) (Or.inr (by decide))).trans h8.1, h8.2.1, by rw [g 54 (by decide) (by decide) (by decide)]; exact h8.2.2⟩⟩
theorem s_X12_readTongue {ex : List dt_Shp} {σ : dt_Mem} {T : List Nat} {t : Tok} {Ts : List (List (Nat × List Nat))} {Ps : List Nat} (hZ : rZ σ T (.ok t)) (hR : rFr σ Ts Ps) : dt_Sp mX12_readTongue 5 0 0 [dt_R 40] (dt_SH ++ ex) σ (fun v sh2 σ2 => v = none ∧ sh2 = dt_SH ++ ex ∧ rH σ σ2 ∧ rZ σ2 T (pS (pTongue T Ts.length t)) ∧ ∀ q, pTongue T Ts.length t = .ok q → rFr σ2 (Ts ++ [q.1]) Ps) := by
  refine dt_Sp_of (by decide) (Nat.le_of_ble_eq_true rfl) ?_
  refine dt_wfV fun hwf => ?_
  obtain ⟨⟨e0, -⟩, -, l7, -⟩ := id hR
  show dt_V _ _ _ 0 0 0 [some (dt_R 40)] [] _ _
  refine dt_aloadn dX12_readTongue_0 rfl rfl ?_
  refine dt_getR dX12_readTongue_1 pg_X12_22_12 rfl rfl ?_
  refine dt_iconst dX12_readTongue_4 ?_
  refine dt_iald dX12_readTongue_5 rfl (by first | omega | (simp (disch := omega) only [dt_up_s, dt_up_k, dt_up_n]; omega)) (by first | omega | (simp (disch := omega) only [dt_up_s, dt_up_k, dt_up_n]; omega)) (by decide) ?_
  rw [show Int.toNat 0 = 0 from rfl, e0]
  refine dt_bipush dX12_readTongue_6 (by decide) ?_
  refine dt_cm_ne (tgt := 16) dX12_readTongue_8 (by decide) (by first | assumption | exact hwf _ _ | exact dt_b32 _ | omega | exact ⟨by omega, by omega⟩ | decide | exact ⟨by simp (disch := omega) only [dt_up_s, dt_up_k, dt_up_n]; omega, by simp (disch := omega) only [dt_up_s, dt_up_k, dt_up_n]; omega⟩) (by first | assumption | exact hwf _ _ | exact dt_b32 _ | omega | exact ⟨by omega, by omega⟩ | decide | exact ⟨by simp (disch := omega) only [dt_up_s, dt_up_k, dt_up_n]; omega, by simp (disch := omega) only [dt_up_s, dt_up_k, dt_up_n]; omega⟩) (fun c1 => ?_) (fun c1 => ?_)
  · skip
    have hl7 : Ts.length < 7 := by omega
    have hfr : rH σ σ := rH.refl σ
    have hM := hZ
    refine dt_aloadn dX12_readTongue_16 rfl rfl ?_
    refine dt_iconst dX12_readTongue_17 ?_
    refine dt_xV dX12_readTongue_18 pc_X12_128 rfl (s_X12_must hM (by decide)) rfl rfl ⟨by decide, by decide⟩ rfl rfl (Nat.le_of_ble_eq_true rfl) ⟨by decide, by decide⟩ ?_
    intro vm shm σm hqm
    obtain ⟨rfl, hsm, hfm, hZm⟩ := hqm
    obtain rfl := hsm.symm
    rw [mMust_y] at hZm
    have hfr1 := hfr.tr hfm.h
    refine dt_aloadn dX12_readTongue_21 rfl rfl ?_
    refine dt_xV dX12_readTongue_22 pc_X12_154 rfl (s_X12_mustEnd hZm) rfl rfl ⟨by decide, by decide⟩ rfl rfl (Nat.le_of_ble_eq_true rfl) ⟨by decide, by decide⟩ ?_
    intro vz shz σz hqz
    obtain ⟨rfl, hsz, hfz, hZz⟩ := hqz
    obtain rfl := hsz.symm
    have hfz2 := hfr1.tr hfz.h
    refine dt_wfV fun hwf => ?_
    have hez : σz 45 0 = (Ts.length : Int) := (hfz 45 0 (Or.inl (by decide))).trans ((hfm 45 0 (Or.inl (by decide))).trans e0)
    refine dt_aloadn dX12_readTongue_25 rfl rfl ?_
    refine dt_getI dX12_readTongue_26 pg_X12_111_12 rfl rfl ?_
    refine dt_if_ne (tgt := 42) dX12_readTongue_29 (by decide) (by first | assumption | exact hwf _ _ | exact dt_b32 _ | omega | exact ⟨by omega, by omega⟩ | decide | exact ⟨by simp (disch := omega) only [dt_up_s, dt_up_k, dt_up_n]; omega, by simp (disch := omega) only [dt_up_s, dt_up_k, dt_up_n]; omega⟩) (fun c2 => ?_) (fun c2 => ?_)
    · skip
      obtain ⟨e, hsm⟩ | ⟨u, hsm⟩ := pR_c (pSemi T (tk T t.2.2))
      rotate_left
      · exfalso; rw [show mEnd T (.ok (tk T t.2.2)) = .ok u from hsm] at hZz; exact absurd hZz.o.2.2 (by assumption)
      obtain ⟨e, hE, he⟩ : ∃ e, rZ σz T (.error e) ∧ pTongue T Ts.length t = .error e := ⟨e, by rw [show mEnd T (.ok (tk T t.2.2)) = .error e from hsm] at hZz; exact hZz, pTongue_e (by omega) hsm⟩
      have lp42 : ∀ (fu : Nat) (tg : List (Nat × List Nat)) (s : pR Tok) (σ1 : dt_Mem), ((zM (10 - tg.length) s : Nat) : Int) < (fu : Int) → (rZ σ1 T s) → (∀ u, s = .ok u → rFr σ1 (Ts ++ [tg]) Ps) → (rH σ σ1) → (pNw T tg s = pTongue T Ts.length t) →  dt_V mX12_readTongue (dt_rm 5 0 0) (dt_MC (fun v sh2 σ2 => v = none ∧ sh2 = dt_SH ++ ex ∧ rH σ σ2 ∧ rZ σ2 T (pS (pTongue T Ts.length t)) ∧ ∀ q, pTongue T Ts.length t = .ok q → rFr σ2 (Ts ++ [q.1]) Ps) 0 0) 0 0 42 [some (dt_R 40)] [] (dt_SH ++ ex) σ1 := by
        intro fu
        induction fu with
        | zero =>
          intro tg s σ1 hm jZ jR jf jr
          exfalso
          omega
        | succ fu ih =>
          intro tg s σ1 hm jZ jR jf jr
          refine dt_wfV fun hwf => ?_
          refine dt_aloadn dX12_readTongue_42 rfl rfl ?_
          refine dt_xV dX12_readTongue_43 pc_X12_142 rfl (s_X12_name jZ) rfl rfl ⟨by decide, by decide⟩ rfl rfl (Nat.le_of_ble_eq_true rfl) ⟨by decide, by decide⟩ (dt_k3 ?_)
          refine dt_ldc2 dX12_readTongue_46 pk_X12_157 ?_
          refine dt_lcmp dX12_readTongue_49 (nmZ_in jZ.1.2.2.1 _) (by first | assumption | exact ⟨by omega, by omega⟩ | decide) ?_
          refine dt_if_ne (tgt := 60) dX12_readTongue_50 (by decide) (dj_c32 _ _) (fun c3 => ?_) (fun c3 => ?_)
          · skip
            simp only [dj_cl, dj_cle, dj_cg, dj_cge, dj_ce] at c3
            have hc : ¬ ((nmZ T s : Nat) : Int) = 2003792484 := by assumption
            refine dt_vret dX12_readTongue_60 rfl (by decide) (by decide) ?_
            obtain ⟨u, rfl, jL, jt, j0⟩ | ⟨e, u, rfl, -⟩ := jZ.c
            · have l8 := (jR u rfl).last.2.2.2
              have hn : ¬ isN T u 1 = true := fun q => hc (by have := (nmV_i jt.y (show 1 < 8 by decide)).mpr q; have g : nmV T u = 2003792484 := this; show ((nmV T u : Nat) : Int) = 2003792484; omega)
              obtain ⟨z, hz⟩ : ∃ z, 9 - tg.length = z + 1 := ⟨9 - tg.length - 1, by omega⟩
              have jr : pWords T (9 - tg.length) tg u = pTongue T Ts.length t := jr
              rw [hz] at jr
              rw [show pTongue T Ts.length t = .ok (tg, u) from jr.symm.trans (pWords_n hn)]
              exact ⟨rfl, rfl, jf, jZ, fun q h => by obtain rfl := Except.ok.inj h; exact jR u rfl⟩
            · rw [show pTongue T Ts.length t = .error e from jr.symm]
              exact ⟨rfl, rfl, jf, jZ, fun q h => by cases h⟩
          · skip
            simp only [dj_cl, dj_cle, dj_cg, dj_cge, dj_ce] at c3
            have hc : ((nmZ T s : Nat) : Int) = 2003792484 := by assumption
            obtain ⟨u, rfl, jL, jt, j0⟩ | ⟨e, u, rfl, -⟩ := jZ.c
            rotate_left
            · exact absurd hc (show ¬ ((0 : Nat) : Int) = 2003792484 by decide)
            have hn : isN T u 1 = true := (nmV_i jt.y (show 1 < 8 by decide)).mp (by have hc : ((nmV T u : Nat) : Int) = 2003792484 := hc; show nmV T u = 2003792484; omega)
            refine dt_aloadn dX12_readTongue_53 rfl rfl ?_
            refine dt_xV dX12_readTongue_54 pc_X12_159 rfl (s_X12_readWord jZ (jR u rfl)) rfl rfl ⟨by decide, by decide⟩ rfl rfl (Nat.le_of_ble_eq_true rfl) ⟨by decide, by decide⟩ ?_
            intro vw shw σw hqw
            obtain ⟨rfl, hsw, hfw, hZw, hRw⟩ := hqw
            obtain rfl := hsw.symm
            refine dt_goto (tgt := 42) dX12_readTongue_57 (by decide) ?_
            have l8 := (jR u rfl).last.2.2.2
            have hm2 : ((10 - tg.length : Nat) : Int) < ((fu + 1 : Nat) : Int) := hm
            obtain ⟨z, hz⟩ : ∃ z, 9 - tg.length = z + 1 := ⟨9 - tg.length - 1, by omega⟩
            have jr : pWords T (9 - tg.length) tg u = pTongue T Ts.length t := jr
            rw [hz] at jr
            obtain ⟨e, hw⟩ | ⟨⟨q, u2⟩, hw⟩ := pR_c (pWord T tg.length u)
            · rw [hw] at hZw
              exact dt_lb (ih tg (.error e) σw (by show ((0 : Nat) : Int) < _; omega) hZw (fun _ h => by cases h) (jf.tr hfw) ((pWords_e hn hw).symm.trans jr)) ⟨rfl, trivial⟩
            rw [hw] at hZw
            have el : (tg ++ [q]).length = tg.length + 1 := List.length_append
            exact dt_lb (ih (tg ++ [q]) (.ok u2) σw (by show ((10 - (tg ++ [q]).length : Nat) : Int) < _; omega) hZw (fun _ _ => hRw _ hw) (jf.tr hfw) (by show pWords T (9 - (tg ++ [q]).length) _ _ = _; rw [show 9 - (tg ++ [q]).length = z by omega]; exact (pWords_s hn hw).symm.trans jr)) ⟨rfl, trivial⟩
      exact dt_lb (lp42 20 [] (.error e) σz (by show ((0 : Nat) : Int) < _; omega) hE (fun u h => by cases h) hfz2 he.symm) ⟨rfl, trivial⟩
    · skip
      obtain ⟨e, hsm⟩ | ⟨u, hsm⟩ := pR_c (pSemi T (tk T t.2.2))
      · exfalso; rw [show mEnd T (.ok (tk T t.2.2)) = .error e from hsm] at hZz; have := hZz.x; omega
      rw [show mEnd T (.ok (tk T t.2.2)) = .ok u from hsm] at hZz
      refine dt_aloadn dX12_readTongue_32 rfl rfl ?_
      refine dt_getR dX12_readTongue_33 pg_X12_22_12 rfl rfl ?_
      refine dt_iconst dX12_readTongue_36 ?_
      refine dt_dup2 dX12_readTongue_37 ?_
      refine dt_iald dX12_readTongue_38 rfl (by first | omega | (simp (disch := omega) only [dt_up_s, dt_up_k, dt_up_n]; omega)) (by first | omega | (simp (disch := omega) only [dt_up_s, dt_up_k, dt_up_n]; omega)) (by decide) ?_
      rw [show Int.toNat 0 = 0 from rfl, hez]
      refine dt_iconst dX12_readTongue_39 ?_
      refine dt_iadd dX12_readTongue_40 ?_
      refine dt_wfV fun hwf => ?_
      refine dt_iast dX12_readTongue_41 rfl (by first | omega | (simp (disch := omega) only [dt_up_s, dt_up_k, dt_up_n]; omega)) (by first | omega | (simp (disch := omega) only [dt_up_s, dt_up_k, dt_up_n]; omega)) (by decide) (by first | assumption | exact hwf _ _ | exact dt_b32 _ | omega | exact ⟨by omega, by omega⟩ | decide | exact ⟨by simp (disch := omega) only [dt_up_s, dt_up_k, dt_up_n]; omega, by simp (disch := omega) only [dt_up_s, dt_up_k, dt_up_n]; omega⟩) ?_
      have lp42 : ∀ (fu : Nat) (tg : List (Nat × List Nat)) (s : pR Tok) (σ1 : dt_Mem), ((zM (10 - tg.length) s : Nat) : Int) < (fu : Int) → (rZ σ1 T s) → (∀ u, s = .ok u → rFr σ1 (Ts ++ [tg]) Ps) → (rH σ σ1) → (pNw T tg s = pTongue T Ts.length t) →  dt_V mX12_readTongue (dt_rm 5 0 0) (dt_MC (fun v sh2 σ2 => v = none ∧ sh2 = dt_SH ++ ex ∧ rH σ σ2 ∧ rZ σ2 T (pS (pTongue T Ts.length t)) ∧ ∀ q, pTongue T Ts.length t = .ok q → rFr σ2 (Ts ++ [q.1]) Ps) 0 0) 0 0 42 [some (dt_R 40)] [] (dt_SH ++ ex) σ1 := by
        intro fu
        induction fu with
        | zero =>
          intro tg s σ1 hm jZ jR jf jr
          exfalso
          omega
        | succ fu ih =>
          intro tg s σ1 hm jZ jR jf jr
          refine dt_wfV fun hwf => ?_
          refine dt_aloadn dX12_readTongue_42 rfl rfl ?_
          refine dt_xV dX12_readTongue_43 pc_X12_142 rfl (s_X12_name jZ) rfl rfl ⟨by decide, by decide⟩ rfl rfl (Nat.le_of_ble_eq_true rfl) ⟨by decide, by decide⟩ (dt_k3 ?_)
          refine dt_ldc2 dX12_readTongue_46 pk_X12_157 ?_
          refine dt_lcmp dX12_readTongue_49 (nmZ_in jZ.1.2.2.1 _) (by first | assumption | exact ⟨by omega, by omega⟩ | decide) ?_
          refine dt_if_ne (tgt := 60) dX12_readTongue_50 (by decide) (dj_c32 _ _) (fun c4 => ?_) (fun c4 => ?_)
          · skip
            simp only [dj_cl, dj_cle, dj_cg, dj_cge, dj_ce] at c4
            have hc : ¬ ((nmZ T s : Nat) : Int) = 2003792484 := by assumption
            refine dt_vret dX12_readTongue_60 rfl (by decide) (by decide) ?_
            obtain ⟨u, rfl, jL, jt, j0⟩ | ⟨e, u, rfl, -⟩ := jZ.c
            · have l8 := (jR u rfl).last.2.2.2
              have hn : ¬ isN T u 1 = true := fun q => hc (by have := (nmV_i jt.y (show 1 < 8 by decide)).mpr q; have g : nmV T u = 2003792484 := this; show ((nmV T u : Nat) : Int) = 2003792484; omega)
              obtain ⟨z, hz⟩ : ∃ z, 9 - tg.length = z + 1 := ⟨9 - tg.length - 1, by omega⟩
              have jr : pWords T (9 - tg.length) tg u = pTongue T Ts.length t := jr
              rw [hz] at jr
              rw [show pTongue T Ts.length t = .ok (tg, u) from jr.symm.trans (pWords_n hn)]
              exact ⟨rfl, rfl, jf, jZ, fun q h => by obtain rfl := Except.ok.inj h; exact jR u rfl⟩
            · rw [show pTongue T Ts.length t = .error e from jr.symm]
              exact ⟨rfl, rfl, jf, jZ, fun q h => by cases h⟩
          · skip
            simp only [dj_cl, dj_cle, dj_cg, dj_cge, dj_ce] at c4
            have hc : ((nmZ T s : Nat) : Int) = 2003792484 := by assumption
            obtain ⟨u, rfl, jL, jt, j0⟩ | ⟨e, u, rfl, -⟩ := jZ.c
            rotate_left
            · exact absurd hc (show ¬ ((0 : Nat) : Int) = 2003792484 by decide)
            have hn : isN T u 1 = true := (nmV_i jt.y (show 1 < 8 by decide)).mp (by have hc : ((nmV T u : Nat) : Int) = 2003792484 := hc; show nmV T u = 2003792484; omega)
            refine dt_aloadn dX12_readTongue_53 rfl rfl ?_
            refine dt_xV dX12_readTongue_54 pc_X12_159 rfl (s_X12_readWord jZ (jR u rfl)) rfl rfl ⟨by decide, by decide⟩ rfl rfl (Nat.le_of_ble_eq_true rfl) ⟨by decide, by decide⟩ ?_
            intro vw shw σw hqw
            obtain ⟨rfl, hsw, hfw, hZw, hRw⟩ := hqw
            obtain rfl := hsw.symm
            refine dt_goto (tgt := 42) dX12_readTongue_57 (by decide) ?_
            have l8 := (jR u rfl).last.2.2.2
            have hm2 : ((10 - tg.length : Nat) : Int) < ((fu + 1 : Nat) : Int) := hm
            obtain ⟨z, hz⟩ : ∃ z, 9 - tg.length = z + 1 := ⟨9 - tg.length - 1, by omega⟩
            have jr : pWords T (9 - tg.length) tg u = pTongue T Ts.length t := jr
            rw [hz] at jr
            obtain ⟨e, hw⟩ | ⟨⟨q, u2⟩, hw⟩ := pR_c (pWord T tg.length u)
            · rw [hw] at hZw
              exact dt_lb (ih tg (.error e) σw (by show ((0 : Nat) : Int) < _; omega) hZw (fun _ h => by cases h) (jf.tr hfw) ((pWords_e hn hw).symm.trans jr)) ⟨rfl, trivial⟩
            rw [hw] at hZw
            have el : (tg ++ [q]).length = tg.length + 1 := List.length_append
            exact dt_lb (ih (tg ++ [q]) (.ok u2) σw (by show ((10 - (tg ++ [q]).length : Nat) : Int) < _; omega) hZw (fun _ _ => hRw _ hw) (jf.tr hfw) (by show pWords T (9 - (tg ++ [q]).length) _ _ = _; rw [show 9 - (tg ++ [q]).length = z by omega]; exact (pWords_s hn hw).symm.trans jr)) ⟨rfl, trivial⟩
      have hRt := (hfz.fr (hfm.fr hR)).tongue hl7
      exact dt_lb (lp42 20 [] (.ok u) _ (by show ((10 : Nat) : Int) < _; omega) hZz.up (fun _ _ => hRt) hfz2.up (pTongue_o (by omega) hsm).symm) ⟨rfl, trivial⟩
  · skip
    have he0 : pTongue T Ts.length t = .error (3, t.2.1) := pTongue_f (by omega)
    refine dt_aloadn dX12_readTongue_11 rfl rfl ?_
    refine dt_iconst dX12_readTongue_12 ?_
    refine dt_xV dX12_readTongue_13 pc_X12_120 rfl (s_X12_bad hZ (by decide)) rfl rfl ⟨by decide, by decide⟩ rfl rfl (Nat.le_of_ble_eq_true rfl) ⟨by decide, by decide⟩ ?_
    intro vb shb σb hqb
    obtain ⟨rfl, hsb, hfb, hZb⟩ := hqb
    obtain rfl := hsb.symm
    have hM : rZ σb T (.error (3, t.2.1)) := hZb
    have hfr : rH σ σb := hfb.h
    refine dt_aloadn dX12_readTongue_16 rfl rfl ?_
    refine dt_iconst dX12_readTongue_17 ?_
    refine dt_xV dX12_readTongue_18 pc_X12_128 rfl (s_X12_must hM (by decide)) rfl rfl ⟨by decide, by decide⟩ rfl rfl (Nat.le_of_ble_eq_true rfl) ⟨by decide, by decide⟩ ?_
    intro vm shm σm hqm
    obtain ⟨rfl, hsm, hfm, hZm⟩ := hqm
    obtain rfl := hsm.symm
    rw [mMust_e] at hZm
    have hfr1 := hfr.tr hfm.h
    refine dt_aloadn dX12_readTongue_21 rfl rfl ?_
    refine dt_xV dX12_readTongue_22 pc_X12_154 rfl (s_X12_mustEnd hZm) rfl rfl ⟨by decide, by decide⟩ rfl rfl (Nat.le_of_ble_eq_true rfl) ⟨by decide, by decide⟩ ?_
    intro vz shz σz hqz
    obtain ⟨rfl, hsz, hfz, hZz⟩ := hqz
    obtain rfl := hsz.symm
    have hfz2 := hfr1.tr hfz.h
    refine dt_wfV fun hwf => ?_
    obtain ⟨z1, z2, z3, z4⟩ := rZ.x hZz
    refine dt_aloadn dX12_readTongue_25 rfl rfl ?_
    refine dt_getI dX12_readTongue_26 pg_X12_111_12 rfl rfl ?_
    refine dt_if_ne (tgt := 42) dX12_readTongue_29 (by decide) (by first | assumption | exact hwf _ _ | exact dt_b32 _ | omega | exact ⟨by omega, by omega⟩ | decide | exact ⟨by simp (disch := omega) only [dt_up_s, dt_up_k, dt_up_n]; omega, by simp (disch := omega) only [dt_up_s, dt_up_k, dt_up_n]; omega⟩) (fun c5 => ?_) (fun c5 => ?_)
    · skip
      obtain ⟨e, hE, he⟩ : ∃ e, rZ σz T (.error e) ∧ pTongue T Ts.length t = .error e := ⟨_, hZz, he0⟩
      have lp42 : ∀ (fu : Nat) (tg : List (Nat × List Nat)) (s : pR Tok) (σ1 : dt_Mem), ((zM (10 - tg.length) s : Nat) : Int) < (fu : Int) → (rZ σ1 T s) → (∀ u, s = .ok u → rFr σ1 (Ts ++ [tg]) Ps) → (rH σ σ1) → (pNw T tg s = pTongue T Ts.length t) →  dt_V mX12_readTongue (dt_rm 5 0 0) (dt_MC (fun v sh2 σ2 => v = none ∧ sh2 = dt_SH ++ ex ∧ rH σ σ2 ∧ rZ σ2 T (pS (pTongue T Ts.length t)) ∧ ∀ q, pTongue T Ts.length t = .ok q → rFr σ2 (Ts ++ [q.1]) Ps) 0 0) 0 0 42 [some (dt_R 40)] [] (dt_SH ++ ex) σ1 := by
        intro fu
        induction fu with
        | zero =>
          intro tg s σ1 hm jZ jR jf jr
          exfalso
          omega
        | succ fu ih =>
          intro tg s σ1 hm jZ jR jf jr
          refine dt_wfV fun hwf => ?_
          refine dt_aloadn dX12_readTongue_42 rfl rfl ?_
          refine dt_xV dX12_readTongue_43 pc_X12_142 rfl (s_X12_name jZ) rfl rfl ⟨by decide, by decide⟩ rfl rfl (Nat.le_of_ble_eq_true rfl) ⟨by decide, by decide⟩ (dt_k3 ?_)
          refine dt_ldc2 dX12_readTongue_46 pk_X12_157 ?_
          refine dt_lcmp dX12_readTongue_49 (nmZ_in jZ.1.2.2.1 _) (by first | assumption | exact ⟨by omega, by omega⟩ | decide) ?_
          refine dt_if_ne (tgt := 60) dX12_readTongue_50 (by decide) (dj_c32 _ _) (fun c6 => ?_) (fun c6 => ?_)
          · skip
            simp only [dj_cl, dj_cle, dj_cg, dj_cge, dj_ce] at c6
            have hc : ¬ ((nmZ T s : Nat) : Int) = 2003792484 := by assumption
            refine dt_vret dX12_readTongue_60 rfl (by decide) (by decide) ?_
            obtain ⟨u, rfl, jL, jt, j0⟩ | ⟨e, u, rfl, -⟩ := jZ.c
            · have l8 := (jR u rfl).last.2.2.2
              have hn : ¬ isN T u 1 = true := fun q => hc (by have := (nmV_i jt.y (show 1 < 8 by decide)).mpr q; have g : nmV T u = 2003792484 := this; show ((nmV T u : Nat) : Int) = 2003792484; omega)
              obtain ⟨z, hz⟩ : ∃ z, 9 - tg.length = z + 1 := ⟨9 - tg.length - 1, by omega⟩
              have jr : pWords T (9 - tg.length) tg u = pTongue T Ts.length t := jr
              rw [hz] at jr
              rw [show pTongue T Ts.length t = .ok (tg, u) from jr.symm.trans (pWords_n hn)]
              exact ⟨rfl, rfl, jf, jZ, fun q h => by obtain rfl := Except.ok.inj h; exact jR u rfl⟩
            · rw [show pTongue T Ts.length t = .error e from jr.symm]
              exact ⟨rfl, rfl, jf, jZ, fun q h => by cases h⟩
          · skip
            simp only [dj_cl, dj_cle, dj_cg, dj_cge, dj_ce] at c6
            have hc : ((nmZ T s : Nat) : Int) = 2003792484 := by assumption
            obtain ⟨u, rfl, jL, jt, j0⟩ | ⟨e, u, rfl, -⟩ := jZ.c
            rotate_left
            · exact absurd hc (show ¬ ((0 : Nat) : Int) = 2003792484 by decide)
            have hn : isN T u 1 = true := (nmV_i jt.y (show 1 < 8 by decide)).mp (by have hc : ((nmV T u : Nat) : Int) = 2003792484 := hc; show nmV T u = 2003792484; omega)
            refine dt_aloadn dX12_readTongue_53 rfl rfl ?_
            refine dt_xV dX12_readTongue_54 pc_X12_159 rfl (s_X12_readWord jZ (jR u rfl)) rfl rfl ⟨by decide, by decide⟩ rfl rfl (Nat.le_of_ble_eq_true rfl) ⟨by decide, by decide⟩ ?_
            intro vw shw σw hqw
            obtain ⟨rfl, hsw, hfw, hZw, hRw⟩ := hqw
            obtain rfl := hsw.symm
            refine dt_goto (tgt := 42) dX12_readTongue_57 (by decide) ?_
            have l8 := (jR u rfl).last.2.2.2
            have hm2 : ((10 - tg.length : Nat) : Int) < ((fu + 1 : Nat) : Int) := hm
            obtain ⟨z, hz⟩ : ∃ z, 9 - tg.length = z + 1 := ⟨9 - tg.length - 1, by omega⟩
            have jr : pWords T (9 - tg.length) tg u = pTongue T Ts.length t := jr
            rw [hz] at jr
            obtain ⟨e, hw⟩ | ⟨⟨q, u2⟩, hw⟩ := pR_c (pWord T tg.length u)
            · rw [hw] at hZw
              exact dt_lb (ih tg (.error e) σw (by show ((0 : Nat) : Int) < _; omega) hZw (fun _ h => by cases h) (jf.tr hfw) ((pWords_e hn hw).symm.trans jr)) ⟨rfl, trivial⟩
            rw [hw] at hZw
            have el : (tg ++ [q]).length = tg.length + 1 := List.length_append
            exact dt_lb (ih (tg ++ [q]) (.ok u2) σw (by show ((10 - (tg ++ [q]).length : Nat) : Int) < _; omega) hZw (fun _ _ => hRw _ hw) (jf.tr hfw) (by show pWords T (9 - (tg ++ [q]).length) _ _ = _; rw [show 9 - (tg ++ [q]).length = z by omega]; exact (pWords_s hn hw).symm.trans jr)) ⟨rfl, trivial⟩
      exact dt_lb (lp42 20 [] (.error e) σz (by show ((0 : Nat) : Int) < _; omega) hE (fun u h => by cases h) hfz2 he.symm) ⟨rfl, trivial⟩
    · skip
      first | exact absurd c5 (by omega) | exact absurd c5 (by decide) | exact absurd rfl c5
theorem s_X12_readPerson {ex : List dt_Shp} {σ : dt_Mem} {T : List Nat} {t : Tok} {Ts : List (List (Nat × List Nat))} {Ps : List Nat} (hZ : rZ σ T (.ok t)) (hR : rFr σ Ts Ps) : dt_Sp mX12_readPerson 4 0 0 [dt_R 40] (dt_SH ++ ex) σ (fun v sh2 σ2 => v = none ∧ sh2 = dt_SH ++ ex ∧ rH σ σ2 ∧ rZ σ2 T (pS (pPerson T Ts.length Ps.length t)) ∧ ∀ q, pPerson T Ts.length Ps.length t = .ok q → rFr σ2 Ts (Ps ++ [q.1])) := by
  refine dt_Sp_of (by decide) (Nat.le_of_ble_eq_true rfl) ?_
  refine dt_wfV fun hwf => ?_
  obtain ⟨⟨e0, e1, -⟩, -, l7, -, l8⟩ := id hR
  show dt_V _ _ _ 0 0 0 [some (dt_R 40), none] [] _ _
  refine dt_aloadn dX12_readPerson_0 rfl rfl ?_
  refine dt_getR dX12_readPerson_1 pg_X12_22_12 rfl rfl ?_
  refine dt_iconst dX12_readPerson_4 ?_
  refine dt_iald dX12_readPerson_5 rfl (by first | omega | (simp (disch := omega) only [dt_up_s, dt_up_k, dt_up_n]; omega)) (by first | omega | (simp (disch := omega) only [dt_up_s, dt_up_k, dt_up_n]; omega)) (by decide) ?_
  rw [show Int.toNat 1 = 1 from rfl, e1]
  refine dt_bipush dX12_readPerson_6 (by decide) ?_
  refine dt_cm_ne (tgt := 16) dX12_readPerson_8 (by decide) (by first | assumption | exact hwf _ _ | exact dt_b32 _ | omega | exact ⟨by omega, by omega⟩ | decide | exact ⟨by simp (disch := omega) only [dt_up_s, dt_up_k, dt_up_n]; omega, by simp (disch := omega) only [dt_up_s, dt_up_k, dt_up_n]; omega⟩) (by first | assumption | exact hwf _ _ | exact dt_b32 _ | omega | exact ⟨by omega, by omega⟩ | decide | exact ⟨by simp (disch := omega) only [dt_up_s, dt_up_k, dt_up_n]; omega, by simp (disch := omega) only [dt_up_s, dt_up_k, dt_up_n]; omega⟩) (fun c1 => ?_) (fun c1 => ?_)
  · skip
    have hl8 : Ps.length < 8 := by omega
    have hfr : rH σ σ := rH.refl σ
    have hM := hZ
    have hRb := hR
    refine dt_aloadn dX12_readPerson_16 rfl rfl ?_
    refine dt_iconst dX12_readPerson_17 ?_
    refine dt_xV dX12_readPerson_18 pc_X12_128 rfl (s_X12_must hM (by decide)) rfl rfl ⟨by decide, by decide⟩ rfl rfl (Nat.le_of_ble_eq_true rfl) ⟨by decide, by decide⟩ ?_
    intro vm shm σm hqm
    obtain ⟨rfl, hsm, hfm, hZm⟩ := hqm
    obtain rfl := hsm.symm
    rw [mMust_y] at hZm
    have hfr1 := hfr.tr hfm.h
    have hRm := hfm.fr hRb
    refine dt_aloadn dX12_readPerson_21 rfl rfl ?_
    refine dt_iconst dX12_readPerson_22 ?_
    refine dt_iconst dX12_readPerson_23 ?_
    refine dt_aloadn dX12_readPerson_24 rfl rfl ?_
    refine dt_getR dX12_readPerson_25 pg_X12_22_12 rfl rfl ?_
    refine dt_iconst dX12_readPerson_28 ?_
    refine dt_iald dX12_readPerson_29 rfl (by first | omega | (simp (disch := omega) only [dt_up_s, dt_up_k, dt_up_n]; omega)) (by first | omega | (simp (disch := omega) only [dt_up_s, dt_up_k, dt_up_n]; omega)) (by decide) ?_
    rw [show Int.toNat 0 = 0 from rfl, hRm.1.1]
    refine dt_ishl dX12_readPerson_30 ?_
    rw [dj_shl1 (by omega)]
    have hp7 : 2 ^ Ts.length ≤ 2 ^ 7 := Nat.pow_le_pow_right (by decide) l7
    have hp1 : 1 ≤ 2 ^ Ts.length := Nat.one_le_two_pow
    obtain ⟨P2, hP2⟩ : ∃ z, z = 2 ^ Ts.length := ⟨_, rfl⟩
    rw [← hP2] at hp7 hp1 ⊢
    refine dt_iconst dX12_readPerson_31 ?_
    refine dt_isub dX12_readPerson_32 ?_
    refine dt_xV dX12_readPerson_33 pc_X12_150 rfl (s_X12_number hZm (by decide) ⟨by omega, by omega⟩) rfl rfl ⟨by decide, by decide⟩ rfl rfl (Nat.le_of_ble_eq_true rfl) ⟨by decide, by decide⟩ ?_
    intro vn shn σn hqn
    obtain ⟨rfl, hsn, hfn, hZn⟩ := hqn
    obtain rfl := hsn.symm
    refine dt_istoren dX12_readPerson_36 rfl (by decide) rfl ?_
    dsimp only [List.set]
    refine dt_aloadn dX12_readPerson_37 rfl rfl ?_
    refine dt_xV dX12_readPerson_38 pc_X12_154 rfl (s_X12_mustEnd hZn) rfl rfl ⟨by decide, by decide⟩ rfl rfl (Nat.le_of_ble_eq_true rfl) ⟨by decide, by decide⟩ ?_
    intro vz shz σz hqz
    obtain ⟨rfl, hsz, hfz, hZz⟩ := hqz
    obtain rfl := hsz.symm
    have hfz2 := hfr1.tr (hfn.h.tr hfz.h)
    refine dt_wfV fun hwf => ?_
    have hRz := hfz.fr (hfn.fr hRm)
    obtain ⟨ps1, ps2⟩ := pPerson_s (T := T) (m := Ts.length) (n := Ps.length) (t := t) (by omega)
    rw [hP2, ← ps1] at hZz
    refine dt_aloadn dX12_readPerson_41 rfl rfl ?_
    refine dt_getI dX12_readPerson_42 pg_X12_111_12 rfl rfl ?_
    refine dt_if_ne (tgt := 73) dX12_readPerson_45 (by decide) (by first | assumption | exact hwf _ _ | exact dt_b32 _ | omega | exact ⟨by omega, by omega⟩ | decide | exact ⟨by simp (disch := omega) only [dt_up_s, dt_up_k, dt_up_n]; omega, by simp (disch := omega) only [dt_up_s, dt_up_k, dt_up_n]; omega⟩) (fun c2 => ?_) (fun c2 => ?_)
    · skip
      obtain ⟨e, he⟩ | ⟨q, he⟩ := pR_c (pPerson T Ts.length Ps.length t)
      rotate_left
      · exfalso; rw [he] at hZz; exact absurd (rZ.o (t := q.2) hZz).2.2 (by assumption)
      rw [he] at hZz
      refine dt_vret dX12_readPerson_73 rfl (by decide) (by decide) ?_
      rw [he]
      exact ⟨rfl, rfl, hfz2, hZz, fun q h => by cases h⟩
    · skip
      obtain ⟨e, he⟩ | ⟨⟨k, u⟩, he⟩ := pR_c (pPerson T Ts.length Ps.length t)
      · exfalso; rw [he] at hZz; have := rZ.x (e := e) hZz; omega
      have hkv : k = mVal T (.ok (tk T t.2.2)) := ps2 _ he
      have hk2 : k < 2 ^ Ts.length := (pPerson_ok he).2
      rw [← hP2] at hk2
      rw [he] at hZz
      refine dt_aloadn dX12_readPerson_48 rfl rfl ?_
      refine dt_getR dX12_readPerson_49 pg_X12_22_12 rfl rfl ?_
      refine dt_bipush dX12_readPerson_52 (by decide) ?_
      refine dt_aloadn dX12_readPerson_54 rfl rfl ?_
      refine dt_getR dX12_readPerson_55 pg_X12_22_12 rfl rfl ?_
      refine dt_iconst dX12_readPerson_58 ?_
      refine dt_iald dX12_readPerson_59 rfl (by first | omega | (simp (disch := omega) only [dt_up_s, dt_up_k, dt_up_n]; omega)) (by first | omega | (simp (disch := omega) only [dt_up_s, dt_up_k, dt_up_n]; omega)) (by decide) ?_
      rw [show Int.toNat 1 = 1 from rfl, hRz.1.2.1]
      refine dt_iadd dX12_readPerson_60 ?_
      refine dt_iloadn dX12_readPerson_61 rfl rfl ?_
      rw [← hkv]
      refine dt_wfV fun hwf => ?_
      refine dt_iast dX12_readPerson_62 rfl (by first | omega | (simp (disch := omega) only [dt_up_s, dt_up_k, dt_up_n]; omega)) (by first | omega | (simp (disch := omega) only [dt_up_s, dt_up_k, dt_up_n]; omega)) (by decide) (by first | assumption | exact hwf _ _ | exact dt_b32 _ | omega | exact ⟨by omega, by omega⟩ | decide | exact ⟨by simp (disch := omega) only [dt_up_s, dt_up_k, dt_up_n]; omega, by simp (disch := omega) only [dt_up_s, dt_up_k, dt_up_n]; omega⟩) ?_
      rw [show ((10 : Int) + (Ps.length : Int)).toNat = 10 + Ps.length by omega]
      refine dt_aloadn dX12_readPerson_63 rfl rfl ?_
      refine dt_getR dX12_readPerson_64 pg_X12_22_12 rfl rfl ?_
      refine dt_iconst dX12_readPerson_67 ?_
      refine dt_dup2 dX12_readPerson_68 ?_
      refine dt_iald dX12_readPerson_69 rfl (by first | omega | (simp (disch := omega) only [dt_up_s, dt_up_k, dt_up_n]; omega)) (by first | omega | (simp (disch := omega) only [dt_up_s, dt_up_k, dt_up_n]; omega)) (by decide) ?_
      rw [show Int.toNat 1 = 1 from rfl, dt_up_k (by omega), hRz.1.2.1]
      refine dt_iconst dX12_readPerson_70 ?_
      refine dt_iadd dX12_readPerson_71 ?_
      refine dt_wfV fun hwf => ?_
      refine dt_iast dX12_readPerson_72 rfl (by first | omega | (simp (disch := omega) only [dt_up_s, dt_up_k, dt_up_n]; omega)) (by first | omega | (simp (disch := omega) only [dt_up_s, dt_up_k, dt_up_n]; omega)) (by decide) (by first | assumption | exact hwf _ _ | exact dt_b32 _ | omega | exact ⟨by omega, by omega⟩ | decide | exact ⟨by simp (disch := omega) only [dt_up_s, dt_up_k, dt_up_n]; omega, by simp (disch := omega) only [dt_up_s, dt_up_k, dt_up_n]; omega⟩) ?_
      refine dt_vret dX12_readPerson_73 rfl (by decide) (by decide) ?_
      rw [he]
      refine ⟨rfl, rfl, hfz2.up.up, (show rZ σz T (.ok u) from hZz).up.up, fun q h => ?_⟩
      obtain rfl := Except.ok.inj h
      exact hRz.person hl8
  · skip
    have he : pPerson T Ts.length Ps.length t = .error (3, t.2.1) := pPerson_f (by omega)
    refine dt_aloadn dX12_readPerson_11 rfl rfl ?_
    refine dt_iconst dX12_readPerson_12 ?_
    refine dt_xV dX12_readPerson_13 pc_X12_120 rfl (s_X12_bad hZ (by decide)) rfl rfl ⟨by decide, by decide⟩ rfl rfl (Nat.le_of_ble_eq_true rfl) ⟨by decide, by decide⟩ ?_
    intro vb shb σb hqb
    obtain ⟨rfl, hsb, hfb, hZb⟩ := hqb
    obtain rfl := hsb.symm
    have hM : rZ σb T (.error (3, t.2.1)) := hZb
    have hfr : rH σ σb := hfb.h
    have hRb := hfb.fr hR
    refine dt_aloadn dX12_readPerson_16 rfl rfl ?_
    refine dt_iconst dX12_readPerson_17 ?_
    refine dt_xV dX12_readPerson_18 pc_X12_128 rfl (s_X12_must hM (by decide)) rfl rfl ⟨by decide, by decide⟩ rfl rfl (Nat.le_of_ble_eq_true rfl) ⟨by decide, by decide⟩ ?_
    intro vm shm σm hqm
    obtain ⟨rfl, hsm, hfm, hZm⟩ := hqm
    obtain rfl := hsm.symm
    rw [mMust_e] at hZm
    have hfr1 := hfr.tr hfm.h
    have hRm := hfm.fr hRb
    refine dt_aloadn dX12_readPerson_21 rfl rfl ?_
    refine dt_iconst dX12_readPerson_22 ?_
    refine dt_iconst dX12_readPerson_23 ?_
    refine dt_aloadn dX12_readPerson_24 rfl rfl ?_
    refine dt_getR dX12_readPerson_25 pg_X12_22_12 rfl rfl ?_
    refine dt_iconst dX12_readPerson_28 ?_
    refine dt_iald dX12_readPerson_29 rfl (by first | omega | (simp (disch := omega) only [dt_up_s, dt_up_k, dt_up_n]; omega)) (by first | omega | (simp (disch := omega) only [dt_up_s, dt_up_k, dt_up_n]; omega)) (by decide) ?_
    rw [show Int.toNat 0 = 0 from rfl, hRm.1.1]
    refine dt_ishl dX12_readPerson_30 ?_
    rw [dj_shl1 (by omega)]
    have hp7 : 2 ^ Ts.length ≤ 2 ^ 7 := Nat.pow_le_pow_right (by decide) l7
    have hp1 : 1 ≤ 2 ^ Ts.length := Nat.one_le_two_pow
    obtain ⟨P2, hP2⟩ : ∃ z, z = 2 ^ Ts.length := ⟨_, rfl⟩
    rw [← hP2] at hp7 hp1 ⊢
    refine dt_iconst dX12_readPerson_31 ?_
    refine dt_isub dX12_readPerson_32 ?_
    refine dt_xV dX12_readPerson_33 pc_X12_150 rfl (s_X12_number hZm (by decide) ⟨by omega, by omega⟩) rfl rfl ⟨by decide, by decide⟩ rfl rfl (Nat.le_of_ble_eq_true rfl) ⟨by decide, by decide⟩ ?_
    intro vn shn σn hqn
    obtain ⟨rfl, hsn, hfn, hZn⟩ := hqn
    obtain rfl := hsn.symm
    refine dt_istoren dX12_readPerson_36 rfl (by decide) rfl ?_
    dsimp only [List.set]
    refine dt_aloadn dX12_readPerson_37 rfl rfl ?_
    refine dt_xV dX12_readPerson_38 pc_X12_154 rfl (s_X12_mustEnd hZn) rfl rfl ⟨by decide, by decide⟩ rfl rfl (Nat.le_of_ble_eq_true rfl) ⟨by decide, by decide⟩ ?_
    intro vz shz σz hqz
    obtain ⟨rfl, hsz, hfz, hZz⟩ := hqz
    obtain rfl := hsz.symm
    have hfz2 := hfr1.tr (hfn.h.tr hfz.h)
    refine dt_wfV fun hwf => ?_
    obtain ⟨z1, z2, z3, z4⟩ := rZ.x (e := (3, t.2.1)) hZz
    refine dt_aloadn dX12_readPerson_41 rfl rfl ?_
    refine dt_getI dX12_readPerson_42 pg_X12_111_12 rfl rfl ?_
    refine dt_if_ne (tgt := 73) dX12_readPerson_45 (by decide) (by first | assumption | exact hwf _ _ | exact dt_b32 _ | omega | exact ⟨by omega, by omega⟩ | decide | exact ⟨by simp (disch := omega) only [dt_up_s, dt_up_k, dt_up_n]; omega, by simp (disch := omega) only [dt_up_s, dt_up_k, dt_up_n]; omega⟩) (fun c3 => ?_) (fun c3 => ?_)
    · skip
      refine dt_vret dX12_readPerson_73 rfl (by decide) (by decide) ?_
      rw [he]
      exact ⟨rfl, rfl, hfz2, hZz, fun q h => by cases h⟩
    · skip
      first | exact absurd c3 (by omega) | exact absurd c3 (by decide) | exact absurd rfl c3
theorem s_X12_port {ex : List dt_Shp} {σ : dt_Mem} {A : dS} (hI : rInv σ A) (hTl : (sT A).length ≤ 500) (hTb : ∀ x ∈ sT A, x < 256) : dt_Sp mX12_port 6 0 0 [dt_R 40] (dt_SH ++ ex) σ (fun v sh2 σ2 => v = some (dt_I (oPort A).1) ∧ sh2 = dt_SH ++ ex ∧ rEnd σ σ2 (oPort A).2) := by
  refine dt_Sp_of (by decide) (Nat.le_of_ble_eq_true rfl) ?_
  refine dt_wfV fun hwf => ?_
  show dt_V _ _ _ 0 0 0 [some (dt_R 40), none] [] _ _
  refine dt_aloadn dX12_port_0 rfl rfl ?_
  refine dt_iconst dX12_port_1 ?_
  refine dt_wfV fun hwf => ?_
  refine dt_putI dX12_port_2 pw_X12_53_12 rfl rfl (by first | assumption | exact hwf _ _ | exact dt_b32 _ | omega | exact ⟨by omega, by omega⟩ | decide | exact ⟨by simp (disch := omega) only [dt_up_s, dt_up_k, dt_up_n]; omega, by simp (disch := omega) only [dt_up_s, dt_up_k, dt_up_n]; omega⟩) ?_
  obtain ⟨σa, ea⟩ : ∃ z, z = dt_up σ 40 0 0 := ⟨_, rfl⟩
  rw [← ea]
  have hA := hI.up40 0 0 (by decide)
  rw [← ea] at hA
  have fa : ∀ b, (b < 40 ∨ 55 ≤ b) → σa b = σ b := fun b hb => by rw [ea]; exact dt_up_o (by omega)
  clear ea
  refine dt_wfV fun hwf => ?_
  have hfga : True := trivial
  refine dt_aloadn dX12_port_5 rfl rfl ?_
  refine dt_xV dX12_port_6 pc_X12_162 rfl (s_X12_begin hA.2.1 hTl hTb) rfl rfl ⟨by decide, by decide⟩ rfl rfl (Nat.le_of_ble_eq_true rfl) ⟨by decide, by decide⟩ ?_
  intro vg shg σg hqg
  obtain ⟨rfl, hsg, hfg, h9g, hZg⟩ := hqg
  obtain rfl := hsg.symm
  refine dt_wfV fun hwf => ?_
  have hgw : True := trivial
  refine dt_iconst dX12_port_9 ?_
  refine dt_istoren dX12_port_10 rfl (by decide) rfl ?_
  dsimp only [List.set]
  have lp11 : ∀ (fu : Nat) (i : Nat), 298 - (i : Int) < (fu : Int) → (i ≤ 298) →  dt_V mX12_port (dt_rm 6 0 0) (dt_MC (fun v sh2 σ2 => v = some (dt_I (oPort A).1) ∧ sh2 = dt_SH ++ ex ∧ rEnd σ σ2 (oPort A).2) 0 0) 0 0 11 [some (dt_R 40), some (dt_I (i : Int))] [] (dt_SH ++ ex) (dt_fil σg 45 0 i (fun _ => 0)) := by
    intro fu
    induction fu with
    | zero =>
      intro i hm hi
      exfalso
      omega
    | succ fu ih =>
      intro i hm hi
      refine dt_wfV fun hwf => ?_
      refine dt_iloadn dX12_port_11 rfl rfl ?_
      refine dt_sipush dX12_port_12 (by decide) ?_
      refine dt_cm_ge (tgt := 31) dX12_port_15 (by decide) (by first | assumption | exact hwf _ _ | exact dt_b32 _ | omega | exact ⟨by omega, by omega⟩ | decide | exact ⟨by simp (disch := omega) only [dt_up_s, dt_up_k, dt_up_n]; omega, by simp (disch := omega) only [dt_up_s, dt_up_k, dt_up_n]; omega⟩) (by first | assumption | exact hwf _ _ | exact dt_b32 _ | omega | exact ⟨by omega, by omega⟩ | decide | exact ⟨by simp (disch := omega) only [dt_up_s, dt_up_k, dt_up_n]; omega, by simp (disch := omega) only [dt_up_s, dt_up_k, dt_up_n]; omega⟩) (fun c1 => ?_) (fun c1 => ?_)
      · skip
        obtain ⟨σf, ef⟩ : ∃ z, z = dt_fil σg 45 0 i (fun _ => (0 : Int)) := ⟨_, rfl⟩
        rw [← ef]
        have hfo : ∀ b, b ≠ 45 → σf b = σg b := fun b hb => by rw [ef]; exact dt_fil_o hb
        have hf45 : ∀ j, j < 298 → σf 45 j = 0 := fun j hj => by rw [ef]; exact dt_fil_in (Nat.zero_le _) (by omega)
        clear ef
        have hZf := hZg.kept hfo
        have hRf : rFr σf [] [] := ⟨⟨hf45 0 (by decide), hf45 1 (by decide), hf45 2 (by decide), (fun t tg ht => by cases (show (none : Option (List (Nat × List Nat))) = some tg from ht)), (fun i k hk => by cases (show (none : Option Nat) = some k from hk))⟩, fun t _ h2 => hf45 _ (by omega), by decide, (fun t tg ht => by cases (show (none : Option (List (Nat × List Nat))) = some tg from ht)), by decide⟩
        have hff : rH σg σf := fun b k h1 _ => by rw [hfo b h1]
        refine dt_wfV fun hwf => ?_
        refine dt_aloadn dX12_port_31 rfl rfl ?_
        refine dt_xV dX12_port_32 pc_X12_142 rfl (s_X12_name hZf) rfl rfl ⟨by decide, by decide⟩ rfl rfl (Nat.le_of_ble_eq_true rfl) ⟨by decide, by decide⟩ (dt_k3 ?_)
        refine dt_ldc2 dX12_port_35 pk_X12_165 ?_
        refine dt_lcmp dX12_port_38 (nmZ_in hTb _) (by first | assumption | exact ⟨by omega, by omega⟩ | decide) ?_
        refine dt_if_eq (tgt := 47) dX12_port_39 (by decide) (dj_c32 _ _) (fun c2 => ?_) (fun c2 => ?_)
        · skip
          simp only [dj_cl, dj_cle, dj_cg, dj_cge, dj_ce] at c2
          have hc0 : ((nmZ (sT A) (.ok (tk (sT A) 0)) : Nat) : Int) = 128021942465893 := by assumption
          have hn0 : isN (sT A) (tk (sT A) 0) 0 = true := (nmV_i hZf.o.2.1.y (show 0 < 8 by decide)).mp (by have hc : ((nmV (sT A) (tk (sT A) 0) : Nat) : Int) = 128021942465893 := hc0; show nmV (sT A) (tk (sT A) 0) = 128021942465893; omega)
          have lp47 : ∀ (fu : Nat) (Ts : List (List (Nat × List Nat))) (s : pR Tok) (σ1 : dt_Mem), ((zM (9 - Ts.length) s : Nat) : Int) < (fu : Int) → (rZ σ1 (sT A) s) → (∀ u, s = .ok u → rFr σ1 Ts []) → (rH σg σ1) → (pNt (sT A) Ts s = r1T (sT A)) →  dt_V mX12_port (dt_rm 6 0 0) (dt_MC (fun v sh2 σ2 => v = some (dt_I (oPort A).1) ∧ sh2 = dt_SH ++ ex ∧ rEnd σ σ2 (oPort A).2) 0 0) 0 0 47 [some (dt_R 40), none] [] (dt_SH ++ ex) σ1 := by
            intro fu
            induction fu with
            | zero =>
              intro Ts s σ1 hm jZ jR jf jr
              exfalso
              omega
            | succ fu ih =>
              intro Ts s σ1 hm jZ jR jf jr
              refine dt_wfV fun hwf => ?_
              refine dt_aloadn dX12_port_47 rfl rfl ?_
              refine dt_xV dX12_port_48 pc_X12_142 rfl (s_X12_name jZ) rfl rfl ⟨by decide, by decide⟩ rfl rfl (Nat.le_of_ble_eq_true rfl) ⟨by decide, by decide⟩ (dt_k3 ?_)
              refine dt_ldc2 dX12_port_51 pk_X12_165 ?_
              refine dt_lcmp dX12_port_54 (nmZ_in hTb _) (by first | assumption | exact ⟨by omega, by omega⟩ | decide) ?_
              refine dt_if_ne (tgt := 65) dX12_port_55 (by decide) (dj_c32 _ _) (fun c3 => ?_) (fun c3 => ?_)
              · skip
                simp only [dj_cl, dj_cle, dj_cg, dj_cge, dj_ce] at c3
                have hc : ¬ ((nmZ (sT A) s : Nat) : Int) = 128021942465893 := by assumption
                have hx : (∃ u, s = .ok u ∧ r1T (sT A) = .ok (Ts, u)) ∨ (∃ e, s = .error e ∧ r1T (sT A) = .error e) := by
                  obtain ⟨u, rfl, jL, jt, j0⟩ | ⟨e, u, rfl, -⟩ := jZ.c
                  · have l8 := (jR u rfl).2.2.1
                    have hn : ¬ isN (sT A) u 0 = true := fun q => hc (by have := (nmV_i jt.y (show 0 < 8 by decide)).mpr q; have g : nmV (sT A) u = 128021942465893 := this; show ((nmV (sT A) u : Nat) : Int) = 128021942465893; omega)
                    obtain ⟨z, hz⟩ : ∃ z, 8 - Ts.length = z + 1 := ⟨8 - Ts.length - 1, by omega⟩
                    have jr : pTongues (sT A) (8 - Ts.length) Ts u = r1T (sT A) := jr
                    rw [hz] at jr
                    exact Or.inl ⟨u, rfl, jr.symm.trans (pTongues_n hn)⟩
                  · exact Or.inr ⟨e, rfl, jr.symm⟩
                have lp65 : ∀ (fu : Nat) (Ps : List Nat) (s2 : pR Tok) (σ1b : dt_Mem), ((zM (10 - Ps.length) s2 : Nat) : Int) < (fu : Int) → (rZ σ1b (sT A) s2) → (∀ u, s2 = .ok u → rFr σ1b Ts Ps) → (rH σg σ1b) → (pNp (sT A) Ts.length Ps s2 = r2T (sT A)) → (∀ u, s2 = .ok u → ∃ u1, r1T (sT A) = .ok (Ts, u1)) →  dt_V mX12_port (dt_rm 6 0 0) (dt_MC (fun v sh2 σ2 => v = some (dt_I (oPort A).1) ∧ sh2 = dt_SH ++ ex ∧ rEnd σ σ2 (oPort A).2) 0 0) 0 0 65 [some (dt_R 40), none] [] (dt_SH ++ ex) σ1b := by
                  intro fu
                  induction fu with
                  | zero =>
                    intro Ps s2 σ1b hm kZ kR kf kr k1
                    exfalso
                    omega
                  | succ fu ih =>
                    intro Ps s2 σ1b hm kZ kR kf kr k1
                    refine dt_wfV fun hwf => ?_
                    refine dt_aloadn dX12_port_65 rfl rfl ?_
                    refine dt_xV dX12_port_66 pc_X12_142 rfl (s_X12_name kZ) rfl rfl ⟨by decide, by decide⟩ rfl rfl (Nat.le_of_ble_eq_true rfl) ⟨by decide, by decide⟩ (dt_k3 ?_)
                    refine dt_ldc2 dX12_port_69 pk_X12_170 ?_
                    refine dt_lcmp dX12_port_72 (nmZ_in hTb _) (by first | assumption | exact ⟨by omega, by omega⟩ | decide) ?_
                    refine dt_if_ne (tgt := 83) dX12_port_73 (by decide) (dj_c32 _ _) (fun c4 => ?_) (fun c4 => ?_)
                    · skip
                      simp only [dj_cl, dj_cle, dj_cg, dj_cge, dj_ce] at c4
                      have hc : ¬ ((nmZ (sT A) s2 : Nat) : Int) = 123581014175598 := by assumption
                      have hx2 : (∃ u, s2 = .ok u ∧ r2T (sT A) = .ok (Ps, u)) ∨ (∃ e, s2 = .error e ∧ r2T (sT A) = .error e) := by
                        obtain ⟨u, rfl, jL, jt, j0⟩ | ⟨e, u, rfl, -⟩ := kZ.c
                        · have l8 := (kR u rfl).2.2.2.2
                          have hn : ¬ isN (sT A) u 7 = true := fun q => hc (by have := (nmV_i jt.y (show 7 < 8 by decide)).mpr q; have g : nmV (sT A) u = 123581014175598 := this; show ((nmV (sT A) u : Nat) : Int) = 123581014175598; omega)
                          obtain ⟨z, hz⟩ : ∃ z, 9 - Ps.length = z + 1 := ⟨9 - Ps.length - 1, by omega⟩
                          have kr : pPersons (sT A) Ts.length (9 - Ps.length) Ps u = r2T (sT A) := kr
                          rw [hz] at kr
                          exact Or.inl ⟨u, rfl, kr.symm.trans (pPersons_n hn)⟩
                        · exact Or.inr ⟨e, rfl, kr.symm⟩
                      refine dt_wfV fun hwf => ?_
                      refine dt_aloadn dX12_port_83 rfl rfl ?_
                      refine dt_getI dX12_port_84 pg_X12_111_12 rfl rfl ?_
                      refine dt_if_ne (tgt := 103) dX12_port_87 (by decide) (by first | assumption | exact hwf _ _ | exact dt_b32 _ | omega | exact ⟨by omega, by omega⟩ | decide | exact ⟨by simp (disch := omega) only [dt_up_s, dt_up_k, dt_up_n]; omega, by simp (disch := omega) only [dt_up_s, dt_up_k, dt_up_n]; omega⟩) (fun c5 => ?_) (fun c5 => ?_)
                      · skip
                        obtain ⟨u, rfl, h⟩ | ⟨e, rfl, h⟩ := hx2
                        · exact absurd kZ.o.2.2 (by assumption)
                        have hp := pPort_e h
                        have hF := kZ
                        have hfF := kf
                        obtain ⟨x1, x2, x3, x4⟩ := hF.x
                        refine dt_aloadn dX12_port_103 rfl rfl ?_
                        refine dt_getI dX12_port_104 pg_X12_111_12 rfl rfl ?_
                        refine dt_if_le (tgt := 126) dX12_port_107 (by decide) (by first | assumption | exact hwf _ _ | exact dt_b32 _ | omega | exact ⟨by omega, by omega⟩ | decide | exact ⟨by simp (disch := omega) only [dt_up_s, dt_up_k, dt_up_n]; omega, by simp (disch := omega) only [dt_up_s, dt_up_k, dt_up_n]; omega⟩) (fun c6 => ?_) (fun c6 => ?_)
                        · skip
                          first | exact absurd c6 (by omega) | exact absurd c6 (by decide) | exact absurd rfl c6
                        · skip
                          refine dt_aloadn dX12_port_110 rfl rfl ?_
                          refine dt_aloadn dX12_port_111 rfl rfl ?_
                          refine dt_getI dX12_port_112 pg_X12_111_12 rfl rfl ?_
                          refine dt_wfV fun hwf => ?_
                          refine dt_putI dX12_port_115 pw_X12_175_12 rfl rfl (by first | assumption | exact hwf _ _ | exact dt_b32 _ | omega | exact ⟨by omega, by omega⟩ | decide | exact ⟨by simp (disch := omega) only [dt_up_s, dt_up_k, dt_up_n]; omega, by simp (disch := omega) only [dt_up_s, dt_up_k, dt_up_n]; omega⟩) ?_
                          refine dt_ldc dX12_port_118 pk_X12_178 ?_
                          refine dt_aloadn dX12_port_120 rfl rfl ?_
                          refine dt_getI dX12_port_121 pg_X12_117_12 rfl rfl ?_
                          refine dt_isub dX12_port_124 ?_
                          refine dt_iret dX12_port_125 rfl (by decide) (by decide) ?_
                          rw [oPort_e hp, dt_up_k (by decide), x4]
                          refine ⟨rfl, rfl, hA.read (fun b k h4 h5 h6 => ?_) ?_ ?_ ⟨hA.2.2.1.1.kept ?_, ?_⟩, fun b hb => funext fun k => ?_⟩
                          · rw [dt_up_ne (by omega), hfF b k h5 (by omega), hfg b k (by omega)]
                          · rw [dt_up_k (by decide), hfF 40 9 (by decide) (by decide)]; exact h9g
                          · rw [dt_up_s]; exact x1
                          · funext k; rw [dt_up_n (by decide), hfF 44 k (by decide) (Or.inl (by decide)), hfg 44 k (Or.inl (by decide))]
                          · rw [dt_up_k (by decide), hfF 40 7 (by decide) (by decide), hfg 40 7 (by decide)]; exact hA.2.2.1.2
                          · rw [dt_up_n (by omega), hfF b k (by omega) (Or.inl (by omega)), hfg b k (Or.inl (by omega))]; exact congrFun (fa b hb) k
                      · skip
                        obtain ⟨u, rfl, h⟩ | ⟨e, rfl, h⟩ := hx2
                        rotate_left
                        · exfalso; have := kZ.x; omega
                        obtain ⟨kL, kt, k0⟩ := kZ.o
                        obtain ⟨r1, r2, r3, r4⟩ := rS_i kt.ok.2.2.1
                        have t1 := kt.1.1
                        obtain ⟨u1, hr1⟩ := k1 u rfl
                        have hp := pPort_y hr1 h
                        refine dt_aloadn dX12_port_90 rfl rfl ?_
                        refine dt_getI dX12_port_91 pg_X12_99_12 rfl rfl ?_
                        refine dt_iconst dX12_port_94 ?_
                        refine dt_cm_eq (tgt := 103) dX12_port_95 (by decide) (by first | assumption | exact hwf _ _ | exact dt_b32 _ | omega | exact ⟨by omega, by omega⟩ | decide | exact ⟨by simp (disch := omega) only [dt_up_s, dt_up_k, dt_up_n]; omega, by simp (disch := omega) only [dt_up_s, dt_up_k, dt_up_n]; omega⟩) (by first | assumption | exact hwf _ _ | exact dt_b32 _ | omega | exact ⟨by omega, by omega⟩ | decide | exact ⟨by simp (disch := omega) only [dt_up_s, dt_up_k, dt_up_n]; omega, by simp (disch := omega) only [dt_up_s, dt_up_k, dt_up_n]; omega⟩) (fun c7 => ?_) (fun c7 => ?_)
                        · skip
                          have hu0 : u.1 = 0 := r1.mp (by omega)
                          rw [if_pos hu0] at hp
                          refine dt_aloadn dX12_port_103 rfl rfl ?_
                          refine dt_getI dX12_port_104 pg_X12_111_12 rfl rfl ?_
                          refine dt_if_le (tgt := 126) dX12_port_107 (by decide) (by first | assumption | exact hwf _ _ | exact dt_b32 _ | omega | exact ⟨by omega, by omega⟩ | decide | exact ⟨by simp (disch := omega) only [dt_up_s, dt_up_k, dt_up_n]; omega, by simp (disch := omega) only [dt_up_s, dt_up_k, dt_up_n]; omega⟩) (fun c8 => ?_) (fun c8 => ?_)
                          · skip
                            refine dt_aloadn dX12_port_126 rfl rfl ?_
                            refine dt_iconst dX12_port_127 ?_
                            refine dt_wfV fun hwf => ?_
                            refine dt_putZ dX12_port_128 pw_X12_179_12 rfl rfl (by first | exact Or.inl rfl | exact Or.inr rfl | assumption | omega) ?_
                            obtain ⟨σh, eh⟩ : ∃ z, z = dt_up σ1b 40 7 1 := ⟨_, rfl⟩
                            rw [← eh]
                            refine dt_wfV fun hwfh => ?_
                            refine dt_iconst dX12_port_131 ?_
                            refine dt_istoren dX12_port_132 rfl (by decide) rfl ?_
                            dsimp only [List.set]
                            have lp133 : ∀ (fu : Nat) (i : Nat), 298 - (i : Int) < (fu : Int) → (i ≤ 298) →  dt_V mX12_port (dt_rm 6 0 0) (dt_MC (fun v sh2 σ2 => v = some (dt_I (oPort A).1) ∧ sh2 = dt_SH ++ ex ∧ rEnd σ σ2 (oPort A).2) 0 0) 0 0 133 [some (dt_R 40), some (dt_I (i : Int))] [] (dt_SH ++ ex) (dt_fil σh 44 0 i (fun j => σh 45 j)) := by
                              intro fu
                              induction fu with
                              | zero =>
                                intro i hm hi
                                exfalso
                                omega
                              | succ fu ih =>
                                intro i hm hi
                                refine dt_wfV fun hwf => ?_
                                refine dt_iloadn dX12_port_133 rfl rfl ?_
                                refine dt_sipush dX12_port_134 (by decide) ?_
                                refine dt_cm_ge (tgt := 158) dX12_port_137 (by decide) (by first | assumption | exact hwf _ _ | exact dt_b32 _ | omega | exact ⟨by omega, by omega⟩ | decide | exact ⟨by simp (disch := omega) only [dt_up_s, dt_up_k, dt_up_n]; omega, by simp (disch := omega) only [dt_up_s, dt_up_k, dt_up_n]; omega⟩) (by first | assumption | exact hwf _ _ | exact dt_b32 _ | omega | exact ⟨by omega, by omega⟩ | decide | exact ⟨by simp (disch := omega) only [dt_up_s, dt_up_k, dt_up_n]; omega, by simp (disch := omega) only [dt_up_s, dt_up_k, dt_up_n]; omega⟩) (fun c9 => ?_) (fun c9 => ?_)
                                · skip
                                  refine dt_aloadn dX12_port_158 rfl rfl ?_
                                  refine dt_getR dX12_port_159 pg_X12_19_12 rfl rfl ?_
                                  refine dt_iconst dX12_port_162 ?_
                                  refine dt_iald dX12_port_163 rfl (by first | omega | (simp (disch := omega) only [dt_up_s, dt_up_k, dt_up_n]; omega)) (by first | omega | (simp (disch := omega) only [dt_up_s, dt_up_k, dt_up_n]; omega)) (by decide) ?_
                                  refine dt_iret dX12_port_164 rfl (by decide) (by decide) ?_
                                  obtain ⟨ok1, ok2⟩ := pPort_ok hp
                                  have hRh := kR u rfl
                                  have e45 : ∀ k, σh 45 k = σ1b 45 k := fun k => by rw [eh]; exact dt_up_n (by decide)
                                  have hP := (hRh.kept e45).port
                                  have hP4 : rPort (dt_fil σh 44 0 i (fun j => σh 45 j)) 44 0 (Ts, Ps, 0) := hP.copy ok2 (fun j hj => by rw [dt_fil_in (by omega) (by omega)])
                                  have hfr : ∀ b k, b ≠ 44 → dt_fil σh 44 0 i (fun j => σh 45 j) b k = σh b k := fun b k hb => by rw [dt_fil_o hb]
                                  rw [oPort_o hp, show Int.toNat 0 = 0 from rfl, hP4.1]
                                  refine ⟨rfl, rfl, hA.read (fun b k h4 h5 h6 => ?_) ?_ ?_ ⟨hP4, ?_⟩, fun b hb => funext fun k => ?_⟩
                                  · rw [hfr b k h4, eh, dt_up_ne (by omega), kf b k h5 (by omega), hfg b k (by omega)]
                                  · rw [hfr 40 9 (by decide), eh, dt_up_k (by decide), kf 40 9 (by decide) (by decide)]; exact h9g
                                  · rw [hfr 40 10 (by decide), eh, dt_up_k (by decide), kf 40 10 (by decide) (by decide), hfg 40 10 (by decide)]; exact hA.2.2.2.2.2.1
                                  · rw [hfr 40 7 (by decide), eh, dt_up_s]; exact (dt_bT ok1).symm
                                  · rw [hfr b k (by omega), eh, dt_up_n (by omega), kf b k (by omega) (Or.inl (by omega)), hfg b k (Or.inl (by omega))]; exact congrFun (fa b hb) k
                                · skip
                                  refine dt_aloadn dX12_port_140 rfl rfl ?_
                                  refine dt_getR dX12_port_141 pg_X12_19_12 rfl rfl ?_
                                  refine dt_iloadn dX12_port_144 rfl rfl ?_
                                  refine dt_aloadn dX12_port_145 rfl rfl ?_
                                  refine dt_getR dX12_port_146 pg_X12_22_12 rfl rfl ?_
                                  refine dt_iloadn dX12_port_149 rfl rfl ?_
                                  refine dt_iald dX12_port_150 rfl (by first | omega | (simp (disch := omega) only [dt_up_s, dt_up_k, dt_up_n]; omega)) (by first | omega | (simp (disch := omega) only [dt_up_s, dt_up_k, dt_up_n]; omega)) (by decide) ?_
                                  rw [dt_fil_o (by decide), Int.toNat_natCast]
                                  refine dt_wfV fun hwf => ?_
                                  refine dt_iast dX12_port_151 rfl (by first | omega | (simp (disch := omega) only [dt_up_s, dt_up_k, dt_up_n]; omega)) (by first | omega | (simp (disch := omega) only [dt_up_s, dt_up_k, dt_up_n]; omega)) (by decide) (hwfh _ _) ?_
                                  have z : dt_up (dt_fil σh 44 0 i (fun j => σh 45 j)) 44 i (σh 45 i) = dt_fil σh 44 0 (i + 1) (fun j => σh 45 j) := by
                                    have q := dt_fil_s σh 44 0 i (fun j => σh 45 j)
                                    rw [Nat.zero_add] at q
                                    exact q
                                  rw [Int.toNat_natCast, z]
                                  refine dt_iinc dX12_port_152 rfl (by decide) rfl ?_
                                  dsimp only [List.set]
                                  refine dt_goto (tgt := 133) dX12_port_155 (by decide) ?_
                                  exact dt_lb (ih (i + 1) (by omega) (by omega)) ⟨rfl, rfl, trivial⟩
                            have h := lp133 300 0 (by omega) (by omega)
                            rw [dt_fil_0] at h
                            exact dt_lb (h) ⟨rfl, rfl, trivial⟩
                          · skip
                            first | exact absurd c8 (by omega) | exact absurd c8 (by decide) | exact absurd rfl c8
                        · skip
                          have hu0 : ¬ u.1 = 0 := fun z => by have := r1.mpr z; omega
                          rw [if_neg hu0] at hp
                          refine dt_aloadn dX12_port_98 rfl rfl ?_
                          refine dt_iconst dX12_port_99 ?_
                          refine dt_xV dX12_port_100 pc_X12_120 rfl (s_X12_bad kZ (by decide)) rfl rfl ⟨by decide, by decide⟩ rfl rfl (Nat.le_of_ble_eq_true rfl) ⟨by decide, by decide⟩ ?_
                          intro vc shc σc hqc
                          obtain ⟨rfl, hsc, hfc, hZc⟩ := hqc
                          obtain rfl := hsc.symm
                          have hF : rZ σc (sT A) (.error (1, u.2.1)) := hZc
                          have hfF := kf.tr hfc.h
                          refine dt_wfV fun hwf => ?_
                          obtain ⟨x1, x2, x3, x4⟩ := hF.x
                          refine dt_aloadn dX12_port_103 rfl rfl ?_
                          refine dt_getI dX12_port_104 pg_X12_111_12 rfl rfl ?_
                          refine dt_if_le (tgt := 126) dX12_port_107 (by decide) (by first | assumption | exact hwf _ _ | exact dt_b32 _ | omega | exact ⟨by omega, by omega⟩ | decide | exact ⟨by simp (disch := omega) only [dt_up_s, dt_up_k, dt_up_n]; omega, by simp (disch := omega) only [dt_up_s, dt_up_k, dt_up_n]; omega⟩) (fun c10 => ?_) (fun c10 => ?_)
                          · skip
                            first | exact absurd c10 (by omega) | exact absurd c10 (by decide) | exact absurd rfl c10
                          · skip
                            refine dt_aloadn dX12_port_110 rfl rfl ?_
                            refine dt_aloadn dX12_port_111 rfl rfl ?_
                            refine dt_getI dX12_port_112 pg_X12_111_12 rfl rfl ?_
                            refine dt_wfV fun hwf => ?_
                            refine dt_putI dX12_port_115 pw_X12_175_12 rfl rfl (by first | assumption | exact hwf _ _ | exact dt_b32 _ | omega | exact ⟨by omega, by omega⟩ | decide | exact ⟨by simp (disch := omega) only [dt_up_s, dt_up_k, dt_up_n]; omega, by simp (disch := omega) only [dt_up_s, dt_up_k, dt_up_n]; omega⟩) ?_
                            refine dt_ldc dX12_port_118 pk_X12_178 ?_
                            refine dt_aloadn dX12_port_120 rfl rfl ?_
                            refine dt_getI dX12_port_121 pg_X12_117_12 rfl rfl ?_
                            refine dt_isub dX12_port_124 ?_
                            refine dt_iret dX12_port_125 rfl (by decide) (by decide) ?_
                            rw [oPort_e hp, dt_up_k (by decide), x4]
                            refine ⟨rfl, rfl, hA.read (fun b k h4 h5 h6 => ?_) ?_ ?_ ⟨hA.2.2.1.1.kept ?_, ?_⟩, fun b hb => funext fun k => ?_⟩
                            · rw [dt_up_ne (by omega), hfF b k h5 (by omega), hfg b k (by omega)]
                            · rw [dt_up_k (by decide), hfF 40 9 (by decide) (by decide)]; exact h9g
                            · rw [dt_up_s]; exact x1
                            · funext k; rw [dt_up_n (by decide), hfF 44 k (by decide) (Or.inl (by decide)), hfg 44 k (Or.inl (by decide))]
                            · rw [dt_up_k (by decide), hfF 40 7 (by decide) (by decide), hfg 40 7 (by decide)]; exact hA.2.2.1.2
                            · rw [dt_up_n (by omega), hfF b k (by omega) (Or.inl (by omega)), hfg b k (Or.inl (by omega))]; exact congrFun (fa b hb) k
                    · skip
                      simp only [dj_cl, dj_cle, dj_cg, dj_cge, dj_ce] at c4
                      have hc : ((nmZ (sT A) s2 : Nat) : Int) = 123581014175598 := by assumption
                      obtain ⟨u, rfl, jL, jt, j0⟩ | ⟨e, u, rfl, -⟩ := kZ.c
                      rotate_left
                      · exact absurd hc (show ¬ ((0 : Nat) : Int) = 123581014175598 by decide)
                      have hn : isN (sT A) u 7 = true := (nmV_i jt.y (show 7 < 8 by decide)).mp (by have hc : ((nmV (sT A) u : Nat) : Int) = 123581014175598 := hc; show nmV (sT A) u = 123581014175598; omega)
                      refine dt_aloadn dX12_port_76 rfl rfl ?_
                      refine dt_xV dX12_port_77 pc_X12_172 rfl (s_X12_readPerson kZ (kR u rfl)) rfl rfl ⟨by decide, by decide⟩ rfl rfl (Nat.le_of_ble_eq_true rfl) ⟨by decide, by decide⟩ ?_
                      intro vp shp σp hqp
                      obtain ⟨rfl, hsp, hfp, hZp, hRp⟩ := hqp
                      obtain rfl := hsp.symm
                      refine dt_goto (tgt := 65) dX12_port_80 (by decide) ?_
                      have l8 := (kR u rfl).2.2.2.2
                      have hm2 : ((10 - Ps.length : Nat) : Int) < ((fu + 1 : Nat) : Int) := hm
                      obtain ⟨z, hz⟩ : ∃ z, 9 - Ps.length = z + 1 := ⟨9 - Ps.length - 1, by omega⟩
                      have kr : pPersons (sT A) Ts.length (9 - Ps.length) Ps u = r2T (sT A) := kr
                      rw [hz] at kr
                      obtain ⟨e, hw⟩ | ⟨⟨q, u2⟩, hw⟩ := pR_c (pPerson (sT A) Ts.length Ps.length u)
                      · rw [hw] at hZp
                        exact dt_lb (ih Ps (.error e) σp (by show ((0 : Nat) : Int) < _; omega) hZp (fun _ h => by cases h) (kf.tr hfp) ((pPersons_e hn hw).symm.trans kr) (fun _ h => by cases h)) ⟨rfl, trivial⟩
                      rw [hw] at hZp
                      have el : (Ps ++ [q]).length = Ps.length + 1 := List.length_append
                      exact dt_lb (ih (Ps ++ [q]) (.ok u2) σp (by show ((10 - (Ps ++ [q]).length : Nat) : Int) < _; omega) hZp (fun _ _ => hRp _ hw) (kf.tr hfp) (by show pPersons (sT A) Ts.length (9 - (Ps ++ [q]).length) _ _ = _; rw [show 9 - (Ps ++ [q]).length = z by omega]; exact (pPersons_s hn hw).symm.trans kr) (fun _ _ => k1 u rfl)) ⟨rfl, trivial⟩
                have kr0 : pNp (sT A) Ts.length [] s = r2T (sT A) := by
                  rcases hx with ⟨u, rfl, h⟩ | ⟨e, rfl, h⟩
                  · exact (r2T_o h).symm
                  · exact (r2T_e h).symm
                have k10 : ∀ u, s = .ok u → ∃ u1, r1T (sT A) = .ok (Ts, u1) := by
                  rcases hx with ⟨u, rfl, h⟩ | ⟨e, rfl, h⟩
                  · exact fun _ _ => ⟨u, h⟩
                  · exact fun _ h => by cases h
                have hz20 := zM_le (10 - ([] : List Nat).length) s
                exact dt_lb (lp65 20 [] s σ1 (by have h : 10 - ([] : List Nat).length = 10 := rfl; omega) jZ jR jf kr0 k10) ⟨rfl, trivial⟩
              · skip
                simp only [dj_cl, dj_cle, dj_cg, dj_cge, dj_ce] at c3
                have hc : ((nmZ (sT A) s : Nat) : Int) = 128021942465893 := by assumption
                obtain ⟨u, rfl, jL, jt, j0⟩ | ⟨e, u, rfl, -⟩ := jZ.c
                rotate_left
                · exact absurd hc (show ¬ ((0 : Nat) : Int) = 128021942465893 by decide)
                have hn : isN (sT A) u 0 = true := (nmV_i jt.y (show 0 < 8 by decide)).mp (by have hc : ((nmV (sT A) u : Nat) : Int) = 128021942465893 := hc; show nmV (sT A) u = 128021942465893; omega)
                refine dt_aloadn dX12_port_58 rfl rfl ?_
                refine dt_xV dX12_port_59 pc_X12_167 rfl (s_X12_readTongue jZ (jR u rfl)) rfl rfl ⟨by decide, by decide⟩ rfl rfl (Nat.le_of_ble_eq_true rfl) ⟨by decide, by decide⟩ ?_
                intro vw shw σw hqw
                obtain ⟨rfl, hsw, hfw, hZw, hRw⟩ := hqw
                obtain rfl := hsw.symm
                refine dt_goto (tgt := 47) dX12_port_62 (by decide) ?_
                have l8 := (jR u rfl).2.2.1
                have hm2 : ((9 - Ts.length : Nat) : Int) < ((fu + 1 : Nat) : Int) := hm
                obtain ⟨z, hz⟩ : ∃ z, 8 - Ts.length = z + 1 := ⟨8 - Ts.length - 1, by omega⟩
                have jr : pTongues (sT A) (8 - Ts.length) Ts u = r1T (sT A) := jr
                rw [hz] at jr
                obtain ⟨e, hw⟩ | ⟨⟨q, u2⟩, hw⟩ := pR_c (pTongue (sT A) Ts.length u)
                · rw [hw] at hZw
                  exact dt_lb (ih Ts (.error e) σw (by show ((0 : Nat) : Int) < _; omega) hZw (fun _ h => by cases h) (jf.tr hfw) ((pTongues_e hn hw).symm.trans jr)) ⟨rfl, trivial⟩
                rw [hw] at hZw
                have el : (Ts ++ [q]).length = Ts.length + 1 := List.length_append
                exact dt_lb (ih (Ts ++ [q]) (.ok u2) σw (by show ((9 - (Ts ++ [q]).length : Nat) : Int) < _; omega) hZw (fun _ _ => hRw _ hw) (jf.tr hfw) (by show pTongues (sT A) (8 - (Ts ++ [q]).length) _ _ = _; rw [show 8 - (Ts ++ [q]).length = z by omega]; exact (pTongues_s hn hw).symm.trans jr)) ⟨rfl, trivial⟩
          exact dt_lb (lp47 20 [] (.ok (tk (sT A) 0)) σf (by show ((9 : Nat) : Int) < _; omega) hZf (fun _ _ => hRf) hff (if_neg (fun q => q hn0)).symm) ⟨rfl, trivial⟩
        · skip
          simp only [dj_cl, dj_cle, dj_cg, dj_cge, dj_ce] at c2
          have hc0 : ¬ ((nmZ (sT A) (.ok (tk (sT A) 0)) : Nat) : Int) = 128021942465893 := by assumption
          have hn0 : ¬ isN (sT A) (tk (sT A) 0) 0 = true := fun q => hc0 (by have := (nmV_i hZf.o.2.1.y (show 0 < 8 by decide)).mpr q; have g : nmV (sT A) (tk (sT A) 0) = 128021942465893 := this; show ((nmV (sT A) (tk (sT A) 0) : Nat) : Int) = 128021942465893; omega)
          refine dt_aloadn dX12_port_42 rfl rfl ?_
          refine dt_iconst dX12_port_43 ?_
          refine dt_xV dX12_port_44 pc_X12_120 rfl (s_X12_bad hZf (by decide)) rfl rfl ⟨by decide, by decide⟩ rfl rfl (Nat.le_of_ble_eq_true rfl) ⟨by decide, by decide⟩ ?_
          intro vb shb σb hqb
          obtain ⟨rfl, hsb, hfb, hZb⟩ := hqb
          obtain rfl := hsb.symm
          have lp47 : ∀ (fu : Nat) (Ts : List (List (Nat × List Nat))) (s : pR Tok) (σ1 : dt_Mem), ((zM (9 - Ts.length) s : Nat) : Int) < (fu : Int) → (rZ σ1 (sT A) s) → (∀ u, s = .ok u → rFr σ1 Ts []) → (rH σg σ1) → (pNt (sT A) Ts s = r1T (sT A)) →  dt_V mX12_port (dt_rm 6 0 0) (dt_MC (fun v sh2 σ2 => v = some (dt_I (oPort A).1) ∧ sh2 = dt_SH ++ ex ∧ rEnd σ σ2 (oPort A).2) 0 0) 0 0 47 [some (dt_R 40), none] [] (dt_SH ++ ex) σ1 := by
            intro fu
            induction fu with
            | zero =>
              intro Ts s σ1 hm jZ jR jf jr
              exfalso
              omega
            | succ fu ih =>
              intro Ts s σ1 hm jZ jR jf jr
              refine dt_wfV fun hwf => ?_
              refine dt_aloadn dX12_port_47 rfl rfl ?_
              refine dt_xV dX12_port_48 pc_X12_142 rfl (s_X12_name jZ) rfl rfl ⟨by decide, by decide⟩ rfl rfl (Nat.le_of_ble_eq_true rfl) ⟨by decide, by decide⟩ (dt_k3 ?_)
              refine dt_ldc2 dX12_port_51 pk_X12_165 ?_
              refine dt_lcmp dX12_port_54 (nmZ_in hTb _) (by first | assumption | exact ⟨by omega, by omega⟩ | decide) ?_
              refine dt_if_ne (tgt := 65) dX12_port_55 (by decide) (dj_c32 _ _) (fun c11 => ?_) (fun c11 => ?_)
              · skip
                simp only [dj_cl, dj_cle, dj_cg, dj_cge, dj_ce] at c11
                have hc : ¬ ((nmZ (sT A) s : Nat) : Int) = 128021942465893 := by assumption
                have hx : (∃ u, s = .ok u ∧ r1T (sT A) = .ok (Ts, u)) ∨ (∃ e, s = .error e ∧ r1T (sT A) = .error e) := by
                  obtain ⟨u, rfl, jL, jt, j0⟩ | ⟨e, u, rfl, -⟩ := jZ.c
                  · have l8 := (jR u rfl).2.2.1
                    have hn : ¬ isN (sT A) u 0 = true := fun q => hc (by have := (nmV_i jt.y (show 0 < 8 by decide)).mpr q; have g : nmV (sT A) u = 128021942465893 := this; show ((nmV (sT A) u : Nat) : Int) = 128021942465893; omega)
                    obtain ⟨z, hz⟩ : ∃ z, 8 - Ts.length = z + 1 := ⟨8 - Ts.length - 1, by omega⟩
                    have jr : pTongues (sT A) (8 - Ts.length) Ts u = r1T (sT A) := jr
                    rw [hz] at jr
                    exact Or.inl ⟨u, rfl, jr.symm.trans (pTongues_n hn)⟩
                  · exact Or.inr ⟨e, rfl, jr.symm⟩
                have lp65 : ∀ (fu : Nat) (Ps : List Nat) (s2 : pR Tok) (σ1b : dt_Mem), ((zM (10 - Ps.length) s2 : Nat) : Int) < (fu : Int) → (rZ σ1b (sT A) s2) → (∀ u, s2 = .ok u → rFr σ1b Ts Ps) → (rH σg σ1b) → (pNp (sT A) Ts.length Ps s2 = r2T (sT A)) → (∀ u, s2 = .ok u → ∃ u1, r1T (sT A) = .ok (Ts, u1)) →  dt_V mX12_port (dt_rm 6 0 0) (dt_MC (fun v sh2 σ2 => v = some (dt_I (oPort A).1) ∧ sh2 = dt_SH ++ ex ∧ rEnd σ σ2 (oPort A).2) 0 0) 0 0 65 [some (dt_R 40), none] [] (dt_SH ++ ex) σ1b := by
                  intro fu
                  induction fu with
                  | zero =>
                    intro Ps s2 σ1b hm kZ kR kf kr k1
                    exfalso
                    omega
                  | succ fu ih =>
                    intro Ps s2 σ1b hm kZ kR kf kr k1
                    refine dt_wfV fun hwf => ?_
                    refine dt_aloadn dX12_port_65 rfl rfl ?_
                    refine dt_xV dX12_port_66 pc_X12_142 rfl (s_X12_name kZ) rfl rfl ⟨by decide, by decide⟩ rfl rfl (Nat.le_of_ble_eq_true rfl) ⟨by decide, by decide⟩ (dt_k3 ?_)
                    refine dt_ldc2 dX12_port_69 pk_X12_170 ?_
                    refine dt_lcmp dX12_port_72 (nmZ_in hTb _) (by first | assumption | exact ⟨by omega, by omega⟩ | decide) ?_
                    refine dt_if_ne (tgt := 83) dX12_port_73 (by decide) (dj_c32 _ _) (fun c12 => ?_) (fun c12 => ?_)
                    · skip
                      simp only [dj_cl, dj_cle, dj_cg, dj_cge, dj_ce] at c12
                      have hc : ¬ ((nmZ (sT A) s2 : Nat) : Int) = 123581014175598 := by assumption
                      have hx2 : (∃ u, s2 = .ok u ∧ r2T (sT A) = .ok (Ps, u)) ∨ (∃ e, s2 = .error e ∧ r2T (sT A) = .error e) := by
                        obtain ⟨u, rfl, jL, jt, j0⟩ | ⟨e, u, rfl, -⟩ := kZ.c
                        · have l8 := (kR u rfl).2.2.2.2
                          have hn : ¬ isN (sT A) u 7 = true := fun q => hc (by have := (nmV_i jt.y (show 7 < 8 by decide)).mpr q; have g : nmV (sT A) u = 123581014175598 := this; show ((nmV (sT A) u : Nat) : Int) = 123581014175598; omega)
                          obtain ⟨z, hz⟩ : ∃ z, 9 - Ps.length = z + 1 := ⟨9 - Ps.length - 1, by omega⟩
                          have kr : pPersons (sT A) Ts.length (9 - Ps.length) Ps u = r2T (sT A) := kr
                          rw [hz] at kr
                          exact Or.inl ⟨u, rfl, kr.symm.trans (pPersons_n hn)⟩
                        · exact Or.inr ⟨e, rfl, kr.symm⟩
                      refine dt_wfV fun hwf => ?_
                      refine dt_aloadn dX12_port_83 rfl rfl ?_
                      refine dt_getI dX12_port_84 pg_X12_111_12 rfl rfl ?_
                      refine dt_if_ne (tgt := 103) dX12_port_87 (by decide) (by first | assumption | exact hwf _ _ | exact dt_b32 _ | omega | exact ⟨by omega, by omega⟩ | decide | exact ⟨by simp (disch := omega) only [dt_up_s, dt_up_k, dt_up_n]; omega, by simp (disch := omega) only [dt_up_s, dt_up_k, dt_up_n]; omega⟩) (fun c13 => ?_) (fun c13 => ?_)
                      · skip
                        obtain ⟨u, rfl, h⟩ | ⟨e, rfl, h⟩ := hx2
                        · exact absurd kZ.o.2.2 (by assumption)
                        have hp := pPort_e h
                        have hF := kZ
                        have hfF := kf
                        obtain ⟨x1, x2, x3, x4⟩ := hF.x
                        refine dt_aloadn dX12_port_103 rfl rfl ?_
                        refine dt_getI dX12_port_104 pg_X12_111_12 rfl rfl ?_
                        refine dt_if_le (tgt := 126) dX12_port_107 (by decide) (by first | assumption | exact hwf _ _ | exact dt_b32 _ | omega | exact ⟨by omega, by omega⟩ | decide | exact ⟨by simp (disch := omega) only [dt_up_s, dt_up_k, dt_up_n]; omega, by simp (disch := omega) only [dt_up_s, dt_up_k, dt_up_n]; omega⟩) (fun c14 => ?_) (fun c14 => ?_)
                        · skip
                          first | exact absurd c14 (by omega) | exact absurd c14 (by decide) | exact absurd rfl c14
                        · skip
                          refine dt_aloadn dX12_port_110 rfl rfl ?_
                          refine dt_aloadn dX12_port_111 rfl rfl ?_
                          refine dt_getI dX12_port_112 pg_X12_111_12 rfl rfl ?_
                          refine dt_wfV fun hwf => ?_
                          refine dt_putI dX12_port_115 pw_X12_175_12 rfl rfl (by first | assumption | exact hwf _ _ | exact dt_b32 _ | omega | exact ⟨by omega, by omega⟩ | decide | exact ⟨by simp (disch := omega) only [dt_up_s, dt_up_k, dt_up_n]; omega, by simp (disch := omega) only [dt_up_s, dt_up_k, dt_up_n]; omega⟩) ?_
                          refine dt_ldc dX12_port_118 pk_X12_178 ?_
                          refine dt_aloadn dX12_port_120 rfl rfl ?_
                          refine dt_getI dX12_port_121 pg_X12_117_12 rfl rfl ?_
                          refine dt_isub dX12_port_124 ?_
                          refine dt_iret dX12_port_125 rfl (by decide) (by decide) ?_
                          rw [oPort_e hp, dt_up_k (by decide), x4]
                          refine ⟨rfl, rfl, hA.read (fun b k h4 h5 h6 => ?_) ?_ ?_ ⟨hA.2.2.1.1.kept ?_, ?_⟩, fun b hb => funext fun k => ?_⟩
                          · rw [dt_up_ne (by omega), hfF b k h5 (by omega), hfg b k (by omega)]
                          · rw [dt_up_k (by decide), hfF 40 9 (by decide) (by decide)]; exact h9g
                          · rw [dt_up_s]; exact x1
                          · funext k; rw [dt_up_n (by decide), hfF 44 k (by decide) (Or.inl (by decide)), hfg 44 k (Or.inl (by decide))]
                          · rw [dt_up_k (by decide), hfF 40 7 (by decide) (by decide), hfg 40 7 (by decide)]; exact hA.2.2.1.2
                          · rw [dt_up_n (by omega), hfF b k (by omega) (Or.inl (by omega)), hfg b k (Or.inl (by omega))]; exact congrFun (fa b hb) k
                      · skip
                        obtain ⟨u, rfl, h⟩ | ⟨e, rfl, h⟩ := hx2
                        rotate_left
                        · exfalso; have := kZ.x; omega
                        obtain ⟨kL, kt, k0⟩ := kZ.o
                        obtain ⟨r1, r2, r3, r4⟩ := rS_i kt.ok.2.2.1
                        have t1 := kt.1.1
                        obtain ⟨u1, hr1⟩ := k1 u rfl
                        have hp := pPort_y hr1 h
                        refine dt_aloadn dX12_port_90 rfl rfl ?_
                        refine dt_getI dX12_port_91 pg_X12_99_12 rfl rfl ?_
                        refine dt_iconst dX12_port_94 ?_
                        refine dt_cm_eq (tgt := 103) dX12_port_95 (by decide) (by first | assumption | exact hwf _ _ | exact dt_b32 _ | omega | exact ⟨by omega, by omega⟩ | decide | exact ⟨by simp (disch := omega) only [dt_up_s, dt_up_k, dt_up_n]; omega, by simp (disch := omega) only [dt_up_s, dt_up_k, dt_up_n]; omega⟩) (by first | assumption | exact hwf _ _ | exact dt_b32 _ | omega | exact ⟨by omega, by omega⟩ | decide | exact ⟨by simp (disch := omega) only [dt_up_s, dt_up_k, dt_up_n]; omega, by simp (disch := omega) only [dt_up_s, dt_up_k, dt_up_n]; omega⟩) (fun c15 => ?_) (fun c15 => ?_)
                        · skip
                          have hu0 : u.1 = 0 := r1.mp (by omega)
                          rw [if_pos hu0] at hp
                          refine dt_aloadn dX12_port_103 rfl rfl ?_
                          refine dt_getI dX12_port_104 pg_X12_111_12 rfl rfl ?_
                          refine dt_if_le (tgt := 126) dX12_port_107 (by decide) (by first | assumption | exact hwf _ _ | exact dt_b32 _ | omega | exact ⟨by omega, by omega⟩ | decide | exact ⟨by simp (disch := omega) only [dt_up_s, dt_up_k, dt_up_n]; omega, by simp (disch := omega) only [dt_up_s, dt_up_k, dt_up_n]; omega⟩) (fun c16 => ?_) (fun c16 => ?_)
                          · skip
                            refine dt_aloadn dX12_port_126 rfl rfl ?_
                            refine dt_iconst dX12_port_127 ?_
                            refine dt_wfV fun hwf => ?_
                            refine dt_putZ dX12_port_128 pw_X12_179_12 rfl rfl (by first | exact Or.inl rfl | exact Or.inr rfl | assumption | omega) ?_
                            obtain ⟨σh, eh⟩ : ∃ z, z = dt_up σ1b 40 7 1 := ⟨_, rfl⟩
                            rw [← eh]
                            refine dt_wfV fun hwfh => ?_
                            refine dt_iconst dX12_port_131 ?_
                            refine dt_istoren dX12_port_132 rfl (by decide) rfl ?_
                            dsimp only [List.set]
                            have lp133 : ∀ (fu : Nat) (i : Nat), 298 - (i : Int) < (fu : Int) → (i ≤ 298) →  dt_V mX12_port (dt_rm 6 0 0) (dt_MC (fun v sh2 σ2 => v = some (dt_I (oPort A).1) ∧ sh2 = dt_SH ++ ex ∧ rEnd σ σ2 (oPort A).2) 0 0) 0 0 133 [some (dt_R 40), some (dt_I (i : Int))] [] (dt_SH ++ ex) (dt_fil σh 44 0 i (fun j => σh 45 j)) := by
                              intro fu
                              induction fu with
                              | zero =>
                                intro i hm hi
                                exfalso
                                omega
                              | succ fu ih =>
                                intro i hm hi
                                refine dt_wfV fun hwf => ?_
                                refine dt_iloadn dX12_port_133 rfl rfl ?_
                                refine dt_sipush dX12_port_134 (by decide) ?_
                                refine dt_cm_ge (tgt := 158) dX12_port_137 (by decide) (by first | assumption | exact hwf _ _ | exact dt_b32 _ | omega | exact ⟨by omega, by omega⟩ | decide | exact ⟨by simp (disch := omega) only [dt_up_s, dt_up_k, dt_up_n]; omega, by simp (disch := omega) only [dt_up_s, dt_up_k, dt_up_n]; omega⟩) (by first | assumption | exact hwf _ _ | exact dt_b32 _ | omega | exact ⟨by omega, by omega⟩ | decide | exact ⟨by simp (disch := omega) only [dt_up_s, dt_up_k, dt_up_n]; omega, by simp (disch := omega) only [dt_up_s, dt_up_k, dt_up_n]; omega⟩) (fun c17 => ?_) (fun c17 => ?_)
                                · skip
                                  refine dt_aloadn dX12_port_158 rfl rfl ?_
                                  refine dt_getR dX12_port_159 pg_X12_19_12 rfl rfl ?_
                                  refine dt_iconst dX12_port_162 ?_
                                  refine dt_iald dX12_port_163 rfl (by first | omega | (simp (disch := omega) only [dt_up_s, dt_up_k, dt_up_n]; omega)) (by first | omega | (simp (disch := omega) only [dt_up_s, dt_up_k, dt_up_n]; omega)) (by decide) ?_
                                  refine dt_iret dX12_port_164 rfl (by decide) (by decide) ?_
                                  obtain ⟨ok1, ok2⟩ := pPort_ok hp
                                  have hRh := kR u rfl
                                  have e45 : ∀ k, σh 45 k = σ1b 45 k := fun k => by rw [eh]; exact dt_up_n (by decide)
                                  have hP := (hRh.kept e45).port
                                  have hP4 : rPort (dt_fil σh 44 0 i (fun j => σh 45 j)) 44 0 (Ts, Ps, 0) := hP.copy ok2 (fun j hj => by rw [dt_fil_in (by omega) (by omega)])
                                  have hfr : ∀ b k, b ≠ 44 → dt_fil σh 44 0 i (fun j => σh 45 j) b k = σh b k := fun b k hb => by rw [dt_fil_o hb]
                                  rw [oPort_o hp, show Int.toNat 0 = 0 from rfl, hP4.1]
                                  refine ⟨rfl, rfl, hA.read (fun b k h4 h5 h6 => ?_) ?_ ?_ ⟨hP4, ?_⟩, fun b hb => funext fun k => ?_⟩
                                  · rw [hfr b k h4, eh, dt_up_ne (by omega), kf b k h5 (by omega), hfg b k (by omega)]
                                  · rw [hfr 40 9 (by decide), eh, dt_up_k (by decide), kf 40 9 (by decide) (by decide)]; exact h9g
                                  · rw [hfr 40 10 (by decide), eh, dt_up_k (by decide), kf 40 10 (by decide) (by decide), hfg 40 10 (by decide)]; exact hA.2.2.2.2.2.1
                                  · rw [hfr 40 7 (by decide), eh, dt_up_s]; exact (dt_bT ok1).symm
                                  · rw [hfr b k (by omega), eh, dt_up_n (by omega), kf b k (by omega) (Or.inl (by omega)), hfg b k (Or.inl (by omega))]; exact congrFun (fa b hb) k
                                · skip
                                  refine dt_aloadn dX12_port_140 rfl rfl ?_
                                  refine dt_getR dX12_port_141 pg_X12_19_12 rfl rfl ?_
                                  refine dt_iloadn dX12_port_144 rfl rfl ?_
                                  refine dt_aloadn dX12_port_145 rfl rfl ?_
                                  refine dt_getR dX12_port_146 pg_X12_22_12 rfl rfl ?_
                                  refine dt_iloadn dX12_port_149 rfl rfl ?_
                                  refine dt_iald dX12_port_150 rfl (by first | omega | (simp (disch := omega) only [dt_up_s, dt_up_k, dt_up_n]; omega)) (by first | omega | (simp (disch := omega) only [dt_up_s, dt_up_k, dt_up_n]; omega)) (by decide) ?_
                                  rw [dt_fil_o (by decide), Int.toNat_natCast]
                                  refine dt_wfV fun hwf => ?_
                                  refine dt_iast dX12_port_151 rfl (by first | omega | (simp (disch := omega) only [dt_up_s, dt_up_k, dt_up_n]; omega)) (by first | omega | (simp (disch := omega) only [dt_up_s, dt_up_k, dt_up_n]; omega)) (by decide) (hwfh _ _) ?_
                                  have z : dt_up (dt_fil σh 44 0 i (fun j => σh 45 j)) 44 i (σh 45 i) = dt_fil σh 44 0 (i + 1) (fun j => σh 45 j) := by
                                    have q := dt_fil_s σh 44 0 i (fun j => σh 45 j)
                                    rw [Nat.zero_add] at q
                                    exact q
                                  rw [Int.toNat_natCast, z]
                                  refine dt_iinc dX12_port_152 rfl (by decide) rfl ?_
                                  dsimp only [List.set]
                                  refine dt_goto (tgt := 133) dX12_port_155 (by decide) ?_
                                  exact dt_lb (ih (i + 1) (by omega) (by omega)) ⟨rfl, rfl, trivial⟩
                            have h := lp133 300 0 (by omega) (by omega)
                            rw [dt_fil_0] at h
                            exact dt_lb (h) ⟨rfl, rfl, trivial⟩
                          · skip
                            first | exact absurd c16 (by omega) | exact absurd c16 (by decide) | exact absurd rfl c16
                        · skip
                          have hu0 : ¬ u.1 = 0 := fun z => by have := r1.mpr z; omega
                          rw [if_neg hu0] at hp
                          refine dt_aloadn dX12_port_98 rfl rfl ?_
                          refine dt_iconst dX12_port_99 ?_
                          refine dt_xV dX12_port_100 pc_X12_120 rfl (s_X12_bad kZ (by decide)) rfl rfl ⟨by decide, by decide⟩ rfl rfl (Nat.le_of_ble_eq_true rfl) ⟨by decide, by decide⟩ ?_
                          intro vc shc σc hqc
                          obtain ⟨rfl, hsc, hfc, hZc⟩ := hqc
                          obtain rfl := hsc.symm
                          have hF : rZ σc (sT A) (.error (1, u.2.1)) := hZc
                          have hfF := kf.tr hfc.h
                          refine dt_wfV fun hwf => ?_
                          obtain ⟨x1, x2, x3, x4⟩ := hF.x
                          refine dt_aloadn dX12_port_103 rfl rfl ?_
                          refine dt_getI dX12_port_104 pg_X12_111_12 rfl rfl ?_
                          refine dt_if_le (tgt := 126) dX12_port_107 (by decide) (by first | assumption | exact hwf _ _ | exact dt_b32 _ | omega | exact ⟨by omega, by omega⟩ | decide | exact ⟨by simp (disch := omega) only [dt_up_s, dt_up_k, dt_up_n]; omega, by simp (disch := omega) only [dt_up_s, dt_up_k, dt_up_n]; omega⟩) (fun c18 => ?_) (fun c18 => ?_)
                          · skip
                            first | exact absurd c18 (by omega) | exact absurd c18 (by decide) | exact absurd rfl c18
                          · skip
                            refine dt_aloadn dX12_port_110 rfl rfl ?_
                            refine dt_aloadn dX12_port_111 rfl rfl ?_
                            refine dt_getI dX12_port_112 pg_X12_111_12 rfl rfl ?_
                            refine dt_wfV fun hwf => ?_
                            refine dt_putI dX12_port_115 pw_X12_175_12 rfl rfl (by first | assumption | exact hwf _ _ | exact dt_b32 _ | omega | exact ⟨by omega, by omega⟩ | decide | exact ⟨by simp (disch := omega) only [dt_up_s, dt_up_k, dt_up_n]; omega, by simp (disch := omega) only [dt_up_s, dt_up_k, dt_up_n]; omega⟩) ?_
                            refine dt_ldc dX12_port_118 pk_X12_178 ?_
                            refine dt_aloadn dX12_port_120 rfl rfl ?_
                            refine dt_getI dX12_port_121 pg_X12_117_12 rfl rfl ?_
                            refine dt_isub dX12_port_124 ?_
                            refine dt_iret dX12_port_125 rfl (by decide) (by decide) ?_
                            rw [oPort_e hp, dt_up_k (by decide), x4]
                            refine ⟨rfl, rfl, hA.read (fun b k h4 h5 h6 => ?_) ?_ ?_ ⟨hA.2.2.1.1.kept ?_, ?_⟩, fun b hb => funext fun k => ?_⟩
                            · rw [dt_up_ne (by omega), hfF b k h5 (by omega), hfg b k (by omega)]
                            · rw [dt_up_k (by decide), hfF 40 9 (by decide) (by decide)]; exact h9g
                            · rw [dt_up_s]; exact x1
                            · funext k; rw [dt_up_n (by decide), hfF 44 k (by decide) (Or.inl (by decide)), hfg 44 k (Or.inl (by decide))]
                            · rw [dt_up_k (by decide), hfF 40 7 (by decide) (by decide), hfg 40 7 (by decide)]; exact hA.2.2.1.2
                            · rw [dt_up_n (by omega), hfF b k (by omega) (Or.inl (by omega)), hfg b k (Or.inl (by omega))]; exact congrFun (fa b hb) k
                    · skip
                      simp only [dj_cl, dj_cle, dj_cg, dj_cge, dj_ce] at c12
                      have hc : ((nmZ (sT A) s2 : Nat) : Int) = 123581014175598 := by assumption
                      obtain ⟨u, rfl, jL, jt, j0⟩ | ⟨e, u, rfl, -⟩ := kZ.c
                      rotate_left
                      · exact absurd hc (show ¬ ((0 : Nat) : Int) = 123581014175598 by decide)
                      have hn : isN (sT A) u 7 = true := (nmV_i jt.y (show 7 < 8 by decide)).mp (by have hc : ((nmV (sT A) u : Nat) : Int) = 123581014175598 := hc; show nmV (sT A) u = 123581014175598; omega)
                      refine dt_aloadn dX12_port_76 rfl rfl ?_
                      refine dt_xV dX12_port_77 pc_X12_172 rfl (s_X12_readPerson kZ (kR u rfl)) rfl rfl ⟨by decide, by decide⟩ rfl rfl (Nat.le_of_ble_eq_true rfl) ⟨by decide, by decide⟩ ?_
                      intro vp shp σp hqp
                      obtain ⟨rfl, hsp, hfp, hZp, hRp⟩ := hqp
                      obtain rfl := hsp.symm
                      refine dt_goto (tgt := 65) dX12_port_80 (by decide) ?_
                      have l8 := (kR u rfl).2.2.2.2
                      have hm2 : ((10 - Ps.length : Nat) : Int) < ((fu + 1 : Nat) : Int) := hm
                      obtain ⟨z, hz⟩ : ∃ z, 9 - Ps.length = z + 1 := ⟨9 - Ps.length - 1, by omega⟩
                      have kr : pPersons (sT A) Ts.length (9 - Ps.length) Ps u = r2T (sT A) := kr
                      rw [hz] at kr
                      obtain ⟨e, hw⟩ | ⟨⟨q, u2⟩, hw⟩ := pR_c (pPerson (sT A) Ts.length Ps.length u)
                      · rw [hw] at hZp
                        exact dt_lb (ih Ps (.error e) σp (by show ((0 : Nat) : Int) < _; omega) hZp (fun _ h => by cases h) (kf.tr hfp) ((pPersons_e hn hw).symm.trans kr) (fun _ h => by cases h)) ⟨rfl, trivial⟩
                      rw [hw] at hZp
                      have el : (Ps ++ [q]).length = Ps.length + 1 := List.length_append
                      exact dt_lb (ih (Ps ++ [q]) (.ok u2) σp (by show ((10 - (Ps ++ [q]).length : Nat) : Int) < _; omega) hZp (fun _ _ => hRp _ hw) (kf.tr hfp) (by show pPersons (sT A) Ts.length (9 - (Ps ++ [q]).length) _ _ = _; rw [show 9 - (Ps ++ [q]).length = z by omega]; exact (pPersons_s hn hw).symm.trans kr) (fun _ _ => k1 u rfl)) ⟨rfl, trivial⟩
                have kr0 : pNp (sT A) Ts.length [] s = r2T (sT A) := by
                  rcases hx with ⟨u, rfl, h⟩ | ⟨e, rfl, h⟩
                  · exact (r2T_o h).symm
                  · exact (r2T_e h).symm
                have k10 : ∀ u, s = .ok u → ∃ u1, r1T (sT A) = .ok (Ts, u1) := by
                  rcases hx with ⟨u, rfl, h⟩ | ⟨e, rfl, h⟩
                  · exact fun _ _ => ⟨u, h⟩
                  · exact fun _ h => by cases h
                have hz20 := zM_le (10 - ([] : List Nat).length) s
                exact dt_lb (lp65 20 [] s σ1 (by have h : 10 - ([] : List Nat).length = 10 := rfl; omega) jZ jR jf kr0 k10) ⟨rfl, trivial⟩
              · skip
                simp only [dj_cl, dj_cle, dj_cg, dj_cge, dj_ce] at c11
                have hc : ((nmZ (sT A) s : Nat) : Int) = 128021942465893 := by assumption
                obtain ⟨u, rfl, jL, jt, j0⟩ | ⟨e, u, rfl, -⟩ := jZ.c
                rotate_left
                · exact absurd hc (show ¬ ((0 : Nat) : Int) = 128021942465893 by decide)
                have hn : isN (sT A) u 0 = true := (nmV_i jt.y (show 0 < 8 by decide)).mp (by have hc : ((nmV (sT A) u : Nat) : Int) = 128021942465893 := hc; show nmV (sT A) u = 128021942465893; omega)
                refine dt_aloadn dX12_port_58 rfl rfl ?_
                refine dt_xV dX12_port_59 pc_X12_167 rfl (s_X12_readTongue jZ (jR u rfl)) rfl rfl ⟨by decide, by decide⟩ rfl rfl (Nat.le_of_ble_eq_true rfl) ⟨by decide, by decide⟩ ?_
                intro vw shw σw hqw
                obtain ⟨rfl, hsw, hfw, hZw, hRw⟩ := hqw
                obtain rfl := hsw.symm
                refine dt_goto (tgt := 47) dX12_port_62 (by decide) ?_
                have l8 := (jR u rfl).2.2.1
                have hm2 : ((9 - Ts.length : Nat) : Int) < ((fu + 1 : Nat) : Int) := hm
                obtain ⟨z, hz⟩ : ∃ z, 8 - Ts.length = z + 1 := ⟨8 - Ts.length - 1, by omega⟩
                have jr : pTongues (sT A) (8 - Ts.length) Ts u = r1T (sT A) := jr
                rw [hz] at jr
                obtain ⟨e, hw⟩ | ⟨⟨q, u2⟩, hw⟩ := pR_c (pTongue (sT A) Ts.length u)
                · rw [hw] at hZw
                  exact dt_lb (ih Ts (.error e) σw (by show ((0 : Nat) : Int) < _; omega) hZw (fun _ h => by cases h) (jf.tr hfw) ((pTongues_e hn hw).symm.trans jr)) ⟨rfl, trivial⟩
                rw [hw] at hZw
                have el : (Ts ++ [q]).length = Ts.length + 1 := List.length_append
                exact dt_lb (ih (Ts ++ [q]) (.ok u2) σw (by show ((9 - (Ts ++ [q]).length : Nat) : Int) < _; omega) hZw (fun _ _ => hRw _ hw) (jf.tr hfw) (by show pTongues (sT A) (8 - (Ts ++ [q]).length) _ _ = _; rw [show 8 - (Ts ++ [q]).length = z by omega]; exact (pTongues_s hn hw).symm.trans jr)) ⟨rfl, trivial⟩
          exact dt_lb (lp47 20 [] (.error (1, (tk (sT A) 0).2.1)) σb (by show ((0 : Nat) : Int) < _; omega) hZb (fun _ h => by cases h) (hff.tr hfb.h) (if_pos hn0).symm) ⟨rfl, trivial⟩
      · skip
        refine dt_aloadn dX12_port_18 rfl rfl ?_
        refine dt_getR dX12_port_19 pg_X12_22_12 rfl rfl ?_
        refine dt_iloadn dX12_port_22 rfl rfl ?_
        refine dt_iconst dX12_port_23 ?_
        refine dt_wfV fun hwf => ?_
        refine dt_iast dX12_port_24 rfl (by first | omega | (simp (disch := omega) only [dt_up_s, dt_up_k, dt_up_n]; omega)) (by first | omega | (simp (disch := omega) only [dt_up_s, dt_up_k, dt_up_n]; omega)) (by decide) (by first | assumption | exact hwf _ _ | exact dt_b32 _ | omega | exact ⟨by omega, by omega⟩ | decide | exact ⟨by simp (disch := omega) only [dt_up_s, dt_up_k, dt_up_n]; omega, by simp (disch := omega) only [dt_up_s, dt_up_k, dt_up_n]; omega⟩) ?_
        have z : dt_up (dt_fil σg 45 0 i (fun _ => 0)) 45 i 0 = dt_fil σg 45 0 (i + 1) (fun _ => 0) := by
          have q := dt_fil_s σg 45 0 i (fun _ => (0 : Int))
          rw [Nat.zero_add] at q
          exact q
        rw [Int.toNat_natCast, z]
        refine dt_iinc dX12_port_25 rfl (by decide) rfl ?_
        dsimp only [List.set]
        refine dt_goto (tgt := 11) dX12_port_28 (by decide) ?_
        exact dt_lb (ih (i + 1) (by omega) (by omega)) ⟨rfl, rfl, trivial⟩
  have h := lp11 300 0 (by omega) (by omega)
  rw [dt_fil_0] at h
  exact dt_lb (h) ⟨rfl, rfl, trivial⟩
