
theorem cPort.t {σ : dt_Mem} {p : Nat} {X : dX} (h : cPort σ p X) : σ p 5 = X.1.length := h.2.1
theorem cPort.p {σ : dt_Mem} {p : Nat} {X : dX} (h : cPort σ p X) : σ p 6 = X.2.1.length := h.2.2.1
theorem cPort.y {σ : dt_Mem} {p : Nat} {X : dX} (h : cPort σ p X) : σ p 7 = X.2.2 := h.2.2.2.1
theorem cPort.kept {σ σ' : dt_Mem} {p : Nat} {X : dX} (h : cPort σ p X) (e : ∀ b, p ≤ b → b ≤ p + 5 → σ' b = σ b) : cPort σ' p X := by
  unfold cPort
  rw [e p (by omega) (by omega), e (p + 1) (by omega) (by omega), e (p + 2) (by omega) (by omega), e (p + 3) (by omega) (by omega), e (p + 4) (by omega) (by omega), e (p + 5) (by omega) (by omega)]
  exact h
theorem dt_ap {α : Type} {l : List α} {y x : α} {i : Nat} (h : (l ++ [y])[i]? = some x) : l[i]? = some x ∨ (i = l.length ∧ x = y) := by
  rcases Nat.lt_or_ge i l.length with g | g
  · rw [List.getElem?_append_left g] at h
    exact Or.inl h
  · have g2 := dt_gl h
    rw [List.length_append] at g2
    have g3 : i = l.length := by
      have : ([y] : List α).length = 1 := rfl
      omega
    subst g3
    rw [List.getElem?_append_right (Nat.le_refl _), Nat.sub_self] at h
    exact Or.inr ⟨rfl, (Option.some.inj h).symm⟩
theorem cPort.addTongue {σ : dt_Mem} {p : Nat} {X : dX} (h : cPort σ p X) (hl : X.1.length < 7) : cPort (dt_up (dt_up σ (p + 1) X.1.length 0) p 5 ((X.1.length : Int) + 1)) p (X.1 ++ [[]], X.2) := by
  obtain ⟨⟨h1, h2⟩, h3, h4, h5, h6, h7⟩ := h
  refine ⟨⟨by rw [List.length_append]; exact hl, h2⟩, by rw [dt_up_s, List.length_append]; rfl, by rw [dt_up_k (by decide), dt_up_n (by omega)]; exact h4, by rw [dt_up_k (by decide), dt_up_n (by omega)]; exact h5, fun t tg ht => ?_, fun i k hk => by rw [dt_up_n (by omega), dt_up_n (by omega)]; exact h7 i k hk⟩
  rcases dt_ap ht with g | ⟨rfl, rfl⟩
  · obtain ⟨a1, a2, a3⟩ := h6 t tg g
    have gl := dt_gl g
    refine ⟨a1, by simp (disch := omega) only [dt_up_s, dt_up_k, dt_up_n]; exact a2, fun w wd hw => ?_⟩
    simp (disch := omega) only [dt_up_s, dt_up_k, dt_up_n]
    exact a3 w wd hw
  · exact ⟨by decide, by simp (disch := omega) only [dt_up_s, dt_up_k, dt_up_n]; rfl, fun w wd hw => by simp at hw⟩
theorem cPort.addWord {σ : dt_Mem} {p kd : Nat} {Ts : List (List (Nat × List Nat))} {tg : List (Nat × List Nat)} {Y : List Nat × Nat} (h : cPort σ p (Ts ++ [tg], Y)) (hl : tg.length < 8) : cPort (dt_up (dt_up (dt_up σ (p + 2) (Ts.length * 8 + tg.length) kd) (p + 3) (Ts.length * 8 + tg.length) 0) (p + 1) Ts.length ((tg.length : Int) + 1)) p (Ts ++ [tg ++ [(kd, [])]], Y) := by
  obtain ⟨⟨h1, h2⟩, h3, h4, h5, h6, h7⟩ := h
  rw [List.length_append] at h1 h3
  refine ⟨⟨by rw [List.length_append]; exact h1, h2⟩, by rw [List.length_append]; simp (disch := omega) only [dt_up_s, dt_up_k, dt_up_n]; exact h3, by simp (disch := omega) only [dt_up_s, dt_up_k, dt_up_n]; exact h4, by simp (disch := omega) only [dt_up_s, dt_up_k, dt_up_n]; exact h5, fun t tg' ht => ?_, fun i k hk => by simp (disch := omega) only [dt_up_s, dt_up_k, dt_up_n]; exact h7 i k hk⟩
  rcases dt_ap ht with g | ⟨rfl, rfl⟩
  · have gl := dt_gl g
    obtain ⟨a1, a2, a3⟩ := h6 t tg' (by rw [List.getElem?_append_left gl]; exact g)
    refine ⟨a1, by simp (disch := omega) only [dt_up_s, dt_up_k, dt_up_n]; exact a2, fun w wd hw => ?_⟩
    have gw := dt_gl hw
    simp (disch := omega) only [dt_up_s, dt_up_k, dt_up_n]
    exact a3 w wd hw
  · obtain ⟨a1, a2, a3⟩ := h6 Ts.length tg (by rw [List.getElem?_append_right (Nat.le_refl _), Nat.sub_self]; rfl)
    refine ⟨by rw [List.length_append]; exact hl, by rw [dt_up_s, List.length_append]; rfl, fun w wd hw => ?_⟩
    rcases dt_ap hw with g | ⟨rfl, rfl⟩
    · have gw := dt_gl g
      simp (disch := omega) only [dt_up_s, dt_up_k, dt_up_n]
      exact a3 w wd g
    · refine ⟨Nat.zero_le _, by simp (disch := omega) only [dt_up_s, dt_up_k, dt_up_n], by simp (disch := omega) only [dt_up_s, dt_up_k, dt_up_n]; rfl, fun q r hq => by simp at hq⟩
theorem cPort.addReading {σ : dt_Mem} {p kd r : Nat} {Ts : List (List (Nat × List Nat))} {tg : List (Nat × List Nat)} {rs : List Nat} {Y : List Nat × Nat} (h : cPort σ p (Ts ++ [tg ++ [(kd, rs)]], Y)) (hl : rs.length < 3) : cPort (dt_up (dt_up σ (p + 4) ((Ts.length * 8 + tg.length) * 3 + rs.length) r) (p + 3) (Ts.length * 8 + tg.length) ((rs.length : Int) + 1)) p (Ts ++ [tg ++ [(kd, rs ++ [r])]], Y) := by
  obtain ⟨⟨h1, h2⟩, h3, h4, h5, h6, h7⟩ := h
  rw [List.length_append] at h1 h3
  refine ⟨⟨by rw [List.length_append]; exact h1, h2⟩, by rw [List.length_append]; simp (disch := omega) only [dt_up_s, dt_up_k, dt_up_n]; exact h3, by simp (disch := omega) only [dt_up_s, dt_up_k, dt_up_n]; exact h4, by simp (disch := omega) only [dt_up_s, dt_up_k, dt_up_n]; exact h5, fun t tg' ht => ?_, fun i k hk => by simp (disch := omega) only [dt_up_s, dt_up_k, dt_up_n]; exact h7 i k hk⟩
  obtain ⟨b1, b2, b3⟩ := h6 Ts.length (tg ++ [(kd, rs)]) (by rw [List.getElem?_append_right (Nat.le_refl _), Nat.sub_self]; rfl)
  rw [List.length_append] at b1 b2
  have b4 : ([(kd, rs)] : List (Nat × List Nat)).length = 1 := rfl
  rcases dt_ap ht with g | ⟨rfl, rfl⟩
  · have gl := dt_gl g
    obtain ⟨a1, a2, a3⟩ := h6 t tg' (by rw [List.getElem?_append_left gl]; exact g)
    refine ⟨a1, by simp (disch := omega) only [dt_up_s, dt_up_k, dt_up_n]; exact a2, fun w wd hw => ?_⟩
    have gw := dt_gl hw
    obtain ⟨c1, c2, c3, c4⟩ := a3 w wd hw
    refine ⟨c1, by simp (disch := omega) only [dt_up_s, dt_up_k, dt_up_n]; exact c2, by simp (disch := omega) only [dt_up_s, dt_up_k, dt_up_n]; exact c3, fun q r' hq => ?_⟩
    have gq := dt_gl hq
    simp (disch := omega) only [dt_up_s, dt_up_k, dt_up_n]
    exact c4 q r' hq
  · refine ⟨by rw [List.length_append]; exact b1, by simp (disch := omega) only [dt_up_s, dt_up_k, dt_up_n]; rw [b2, List.length_append]; rfl, fun w wd hw => ?_⟩
    rcases dt_ap hw with g | ⟨rfl, rfl⟩
    · have gw := dt_gl g
      obtain ⟨c1, c2, c3, c4⟩ := b3 w wd (by rw [List.getElem?_append_left gw]; exact g)
      refine ⟨c1, by simp (disch := omega) only [dt_up_s, dt_up_k, dt_up_n]; exact c2, by simp (disch := omega) only [dt_up_s, dt_up_k, dt_up_n]; exact c3, fun q r' hq => ?_⟩
      have gq := dt_gl hq
      simp (disch := omega) only [dt_up_s, dt_up_k, dt_up_n]
      exact c4 q r' hq
    · obtain ⟨c1, c2, c3, c4⟩ := b3 tg.length (kd, rs) (by rw [List.getElem?_append_right (Nat.le_refl _), Nat.sub_self]; rfl)
      refine ⟨by rw [List.length_append]; exact hl, by simp (disch := omega) only [dt_up_s, dt_up_k, dt_up_n]; exact c2, by rw [dt_up_s, List.length_append]; rfl, fun q r' hq => ?_⟩
      rcases dt_ap hq with g | ⟨rfl, rfl⟩
      · have gq := dt_gl g
        simp (disch := omega) only [dt_up_s, dt_up_k, dt_up_n]
        exact c4 q r' g
      · simp (disch := omega) only [dt_up_s, dt_up_k, dt_up_n]
theorem cPort.addPerson {σ : dt_Mem} {p k : Nat} {X : dX} (h : cPort σ p X) (hl : X.2.1.length < 8) : cPort (dt_up (dt_up σ (p + 5) X.2.1.length k) p 6 ((X.2.1.length : Int) + 1)) p (X.1, X.2.1 ++ [k], X.2.2) := by
  obtain ⟨⟨h1, h2⟩, h3, h4, h5, h6, h7⟩ := h
  refine ⟨⟨h1, by rw [List.length_append]; exact hl⟩, by simp (disch := omega) only [dt_up_s, dt_up_k, dt_up_n]; exact h3, by rw [dt_up_s, List.length_append]; rfl, by simp (disch := omega) only [dt_up_s, dt_up_k, dt_up_n]; exact h5, fun t tg ht => ?_, fun i k' hk => ?_⟩
  · simp (disch := omega) only [dt_up_s, dt_up_k, dt_up_n]
    exact h6 t tg ht
  · rcases dt_ap hk with g | ⟨rfl, rfl⟩
    · have gi := dt_gl g
      simp (disch := omega) only [dt_up_s, dt_up_k, dt_up_n]
      exact h7 i k' g
    · simp (disch := omega) only [dt_up_s, dt_up_k, dt_up_n]

theorem s_X6_clear {sh : List dt_Shp} {σ : dt_Mem} {p : Nat} {X : dX} (hp : dt_pSh sh p) : dt_Sp mX6_clear 0 0 0 [dt_R p] sh σ (fun v sh2 σ2 => v = none ∧ sh2 = sh ∧ (∀ b, (b < p ∨ p + 5 < b) → σ2 b = σ b) ∧ cPort σ2 p ([], [], 0)) := by
  refine dt_Sp_of (by decide) (Nat.le_of_ble_eq_true rfl) ?_
  refine dt_wfV fun hwf => ?_
  show dt_V _ _ _ 0 0 0 [some (dt_R p)] [] _ _
  refine dt_aloadn dX6_clear_0 rfl rfl ?_
  refine dt_iconst dX6_clear_1 ?_
  refine dt_wfV fun hwf => ?_
  refine dt_putI dX6_clear_2 pw_X6_27_6 hp.1 rfl (by first | assumption | exact hwf _ _ | exact dt_b32 _ | omega | exact ⟨by omega, by omega⟩ | decide | exact ⟨by simp (disch := omega) only [dt_up_s, dt_up_k, dt_up_n]; omega, by simp (disch := omega) only [dt_up_s, dt_up_k, dt_up_n]; omega⟩) ?_
  refine dt_aloadn dX6_clear_5 rfl rfl ?_
  refine dt_iconst dX6_clear_6 ?_
  refine dt_wfV fun hwf => ?_
  refine dt_putI dX6_clear_7 pw_X6_31_6 hp.1 rfl (by first | assumption | exact hwf _ _ | exact dt_b32 _ | omega | exact ⟨by omega, by omega⟩ | decide | exact ⟨by simp (disch := omega) only [dt_up_s, dt_up_k, dt_up_n]; omega, by simp (disch := omega) only [dt_up_s, dt_up_k, dt_up_n]; omega⟩) ?_
  refine dt_aloadn dX6_clear_10 rfl rfl ?_
  refine dt_iconst dX6_clear_11 ?_
  refine dt_wfV fun hwf => ?_
  refine dt_putI dX6_clear_12 pw_X6_34_6 hp.1 rfl (by first | assumption | exact hwf _ _ | exact dt_b32 _ | omega | exact ⟨by omega, by omega⟩ | decide | exact ⟨by simp (disch := omega) only [dt_up_s, dt_up_k, dt_up_n]; omega, by simp (disch := omega) only [dt_up_s, dt_up_k, dt_up_n]; omega⟩) ?_
  refine dt_vret dX6_clear_15 rfl (by decide) (by decide) ?_
  refine ⟨rfl, rfl, fun b hb => by rw [dt_up_o (by omega), dt_up_o (by omega), dt_up_o (by omega)], ⟨by decide, by decide⟩, ?_, ?_, ?_, fun t tg ht => by simp at ht, fun i k hk => by simp at hk⟩
  all_goals simp (disch := omega) only [dt_up_s, dt_up_k, dt_up_n]
  all_goals rfl
theorem s_X6_addTongue {sh : List dt_Shp} {σ : dt_Mem} {p : Nat} {X : dX} (hp : dt_pSh sh p) (hX : cPort σ p X) (hl : X.1.length < 7) : dt_Sp mX6_addTongue 0 0 0 [dt_R p] sh σ (fun v sh2 σ2 => v = none ∧ sh2 = sh ∧ (∀ b, (b < p ∨ p + 5 < b) → σ2 b = σ b) ∧ cPort σ2 p (X.1 ++ [[]], X.2)) := by
  refine dt_Sp_of (by decide) (Nat.le_of_ble_eq_true rfl) ?_
  refine dt_wfV fun hwf => ?_
  have e5 := hX.t
  have e6 := hX.1.1
  show dt_V _ _ _ 0 0 0 [some (dt_R p)] [] _ _
  refine dt_aloadn dX6_addTongue_0 rfl rfl ?_
  refine dt_getI dX6_addTongue_1 pg_X6_27_6 hp.1 rfl ?_
  refine dt_bipush dX6_addTongue_4 (by decide) ?_
  refine dt_cm_ge (tgt := 29) dX6_addTongue_6 (by decide) (by first | assumption | exact hwf _ _ | exact dt_b32 _ | omega | exact ⟨by omega, by omega⟩ | decide | exact ⟨by simp (disch := omega) only [dt_up_s, dt_up_k, dt_up_n]; omega, by simp (disch := omega) only [dt_up_s, dt_up_k, dt_up_n]; omega⟩) (by first | assumption | exact hwf _ _ | exact dt_b32 _ | omega | exact ⟨by omega, by omega⟩ | decide | exact ⟨by simp (disch := omega) only [dt_up_s, dt_up_k, dt_up_n]; omega, by simp (disch := omega) only [dt_up_s, dt_up_k, dt_up_n]; omega⟩) (fun c1 => ?_) (fun c1 => ?_)
  · skip
    first | exact absurd c1 (by omega) | exact absurd c1 (by decide) | exact absurd rfl c1
  · skip
    refine dt_aloadn dX6_addTongue_9 rfl rfl ?_
    refine dt_getR dX6_addTongue_10 pg_X6_9_6 hp.1 rfl ?_
    refine dt_aloadn dX6_addTongue_13 rfl rfl ?_
    refine dt_getI dX6_addTongue_14 pg_X6_27_6 hp.1 rfl ?_
    refine dt_iconst dX6_addTongue_17 ?_
    refine dt_wfV fun hwf => ?_
    refine dt_iast dX6_addTongue_18 hp.2.1 (by first | omega | (simp (disch := omega) only [dt_up_s, dt_up_k, dt_up_n]; omega)) (by first | omega | (simp (disch := omega) only [dt_up_s, dt_up_k, dt_up_n]; omega)) (by decide) (by first | assumption | exact hwf _ _ | exact dt_b32 _ | omega | exact ⟨by omega, by omega⟩ | decide | exact ⟨by simp (disch := omega) only [dt_up_s, dt_up_k, dt_up_n]; omega, by simp (disch := omega) only [dt_up_s, dt_up_k, dt_up_n]; omega⟩) ?_
    refine dt_aloadn dX6_addTongue_19 rfl rfl ?_
    refine dt_dupR dX6_addTongue_20 ?_
    refine dt_getI dX6_addTongue_21 pg_X6_27_6 hp.1 rfl ?_
    refine dt_iconst dX6_addTongue_24 ?_
    refine dt_iadd dX6_addTongue_25 ?_
    refine dt_wfV fun hwf => ?_
    refine dt_putI dX6_addTongue_26 pw_X6_27_6 hp.1 rfl (by first | assumption | exact hwf _ _ | exact dt_b32 _ | omega | exact ⟨by omega, by omega⟩ | decide | exact ⟨by simp (disch := omega) only [dt_up_s, dt_up_k, dt_up_n]; omega, by simp (disch := omega) only [dt_up_s, dt_up_k, dt_up_n]; omega⟩) ?_
    refine dt_vret dX6_addTongue_29 rfl (by decide) (by decide) ?_
    refine ⟨rfl, rfl, fun b hb => by rw [dt_up_o (by omega), dt_up_o (by omega)], ?_⟩
    have q := hX.addTongue hl
    simp (disch := omega) only [dt_up_s, dt_up_k, dt_up_n]
    rw [e5, Int.toNat_natCast]
    exact q
theorem s_X6_addWord {sh : List dt_Shp} {σ : dt_Mem} {p kd : Nat} {Ts : List (List (Nat × List Nat))} {tg : List (Nat × List Nat)} {Y : List Nat × Nat} (hp : dt_pSh sh p) (hX : cPort σ p (Ts ++ [tg], Y)) (hl : tg.length < 8) (hk : kd < 6) : dt_Sp mX6_addWord 1 0 0 [dt_R p, dt_I (kd : Int)] sh σ (fun v sh2 σ2 => v = none ∧ sh2 = sh ∧ (∀ b, (b < p ∨ p + 5 < b) → σ2 b = σ b) ∧ cPort σ2 p (Ts ++ [tg ++ [(kd, [])]], Y)) := by
  refine dt_Sp_of (by decide) (Nat.le_of_ble_eq_true rfl) ?_
  refine dt_wfV fun hwf => ?_
  have e5 := hX.t
  have e6 := hX.1.1
  obtain ⟨e7, e8, -⟩ := hX.2.2.2.2.1 Ts.length _ (by rw [List.getElem?_append_right (Nat.le_refl _), Nat.sub_self]; rfl)
  simp only [List.length_append, List.length_cons, List.length_nil] at e5 e6 e7 e8
  have e9 : (((Ts.length : Int) + 1) - 1).toNat = Ts.length := by omega
  have e10 : ((Ts.length + 1 : Nat) : Int) - 1 = (Ts.length : Int) := by omega
  have e12 : σ (p + 1) ((Ts.length : Int)).toNat = tg.length := by rw [Int.toNat_natCast]; exact e8
  show dt_V _ _ _ 0 0 0 [some (dt_R p), some (dt_I (kd : Int)), none, none] [] _ _
  refine dt_aloadn dX6_addWord_0 rfl rfl ?_
  refine dt_getI dX6_addWord_1 pg_X6_27_6 hp.1 rfl ?_
  refine dt_iconst dX6_addWord_4 ?_
  refine dt_isub dX6_addWord_5 ?_
  rw [e5, e10]
  refine dt_istoren dX6_addWord_6 rfl (by decide) rfl ?_
  dsimp only [List.set]
  refine dt_aloadn dX6_addWord_7 rfl rfl ?_
  refine dt_iloadn dX6_addWord_8 rfl rfl ?_
  refine dt_xV dX6_addWord_9 pc_X6_41 hp.1 (s_X6_hasTongue (by first | assumption | exact hwf _ _ | exact dt_b32 _ | omega | exact ⟨by omega, by omega⟩ | decide | exact ⟨by simp (disch := omega) only [dt_up_s, dt_up_k, dt_up_n]; omega, by simp (disch := omega) only [dt_up_s, dt_up_k, dt_up_n]; omega⟩) (by first | assumption | exact hwf _ _ | exact dt_b32 _ | omega | exact ⟨by omega, by omega⟩ | decide | exact ⟨by simp (disch := omega) only [dt_up_s, dt_up_k, dt_up_n]; omega, by simp (disch := omega) only [dt_up_s, dt_up_k, dt_up_n]; omega⟩)) rfl rfl ⟨by decide, by decide⟩ rfl rfl (Nat.le_of_ble_eq_true rfl) ⟨by decide, by decide⟩ (dt_k3 ?_)
  refine dt_if_eq (tgt := 61) dX6_addWord_12 (by decide) (by first | assumption | exact hwf _ _ | exact dt_b32 _ | omega | exact ⟨by omega, by omega⟩ | decide | exact ⟨by simp (disch := omega) only [dt_up_s, dt_up_k, dt_up_n]; omega, by simp (disch := omega) only [dt_up_s, dt_up_k, dt_up_n]; omega⟩) (fun c1 => ?_) (fun c1 => ?_)
  · skip
    try simp only [dt_b0, dt_b1, Decidable.not_not, Classical.not_not] at c1
    exact absurd (show cT σ p (Ts.length : Int) from ⟨by omega, by omega, by omega⟩) c1
  · skip
    try simp only [dt_b0, dt_b1, Decidable.not_not, Classical.not_not] at c1
    refine dt_aloadn dX6_addWord_15 rfl rfl ?_
    refine dt_getR dX6_addWord_16 pg_X6_9_6 hp.1 rfl ?_
    refine dt_iloadn dX6_addWord_19 rfl rfl ?_
    refine dt_iald dX6_addWord_20 hp.2.1 (by first | omega | (simp (disch := omega) only [dt_up_s, dt_up_k, dt_up_n]; omega)) (by first | omega | (simp (disch := omega) only [dt_up_s, dt_up_k, dt_up_n]; omega)) (by decide) ?_
    refine dt_bipush dX6_addWord_21 (by decide) ?_
    refine dt_cm_ge (tgt := 61) dX6_addWord_23 (by decide) (by first | assumption | exact hwf _ _ | exact dt_b32 _ | omega | exact ⟨by omega, by omega⟩ | decide | exact ⟨by simp (disch := omega) only [dt_up_s, dt_up_k, dt_up_n]; omega, by simp (disch := omega) only [dt_up_s, dt_up_k, dt_up_n]; omega⟩) (by first | assumption | exact hwf _ _ | exact dt_b32 _ | omega | exact ⟨by omega, by omega⟩ | decide | exact ⟨by simp (disch := omega) only [dt_up_s, dt_up_k, dt_up_n]; omega, by simp (disch := omega) only [dt_up_s, dt_up_k, dt_up_n]; omega⟩) (fun c2 => ?_) (fun c2 => ?_)
    · skip
      exact absurd c2 (by omega)
    · skip
      refine dt_iloadn dX6_addWord_26 rfl rfl ?_
      refine dt_aloadn dX6_addWord_27 rfl rfl ?_
      refine dt_getR dX6_addWord_28 pg_X6_9_6 hp.1 rfl ?_
      refine dt_iloadn dX6_addWord_31 rfl rfl ?_
      refine dt_iald dX6_addWord_32 hp.2.1 (by first | omega | (simp (disch := omega) only [dt_up_s, dt_up_k, dt_up_n]; omega)) (by first | omega | (simp (disch := omega) only [dt_up_s, dt_up_k, dt_up_n]; omega)) (by decide) ?_
      refine dt_xS dX6_addWord_33 pc_X6_56 s_X6_slotOf rfl rfl ⟨by decide, by decide⟩ (Nat.le_of_ble_eq_true rfl) ⟨by decide, by decide⟩ (dt_k3 ?_)
      refine dt_istoren dX6_addWord_36 rfl (by decide) rfl ?_
      dsimp only [List.set]
      refine dt_aloadn dX6_addWord_37 rfl rfl ?_
      refine dt_getR dX6_addWord_38 pg_X6_15_6 hp.1 rfl ?_
      refine dt_iloadn dX6_addWord_41 rfl rfl ?_
      refine dt_iloadn dX6_addWord_42 rfl rfl ?_
      refine dt_wfV fun hwf => ?_
      refine dt_iast dX6_addWord_43 hp.2.2.1 (by first | omega | (simp (disch := omega) only [dt_up_s, dt_up_k, dt_up_n]; omega)) (by first | omega | (simp (disch := omega) only [dt_up_s, dt_up_k, dt_up_n]; omega)) (by decide) (by first | assumption | exact hwf _ _ | exact dt_b32 _ | omega | exact ⟨by omega, by omega⟩ | decide | exact ⟨by simp (disch := omega) only [dt_up_s, dt_up_k, dt_up_n]; omega, by simp (disch := omega) only [dt_up_s, dt_up_k, dt_up_n]; omega⟩) ?_
      refine dt_aloadn dX6_addWord_44 rfl rfl ?_
      refine dt_getR dX6_addWord_45 pg_X6_18_6 hp.1 rfl ?_
      refine dt_iloadn dX6_addWord_48 rfl rfl ?_
      refine dt_iconst dX6_addWord_49 ?_
      refine dt_wfV fun hwf => ?_
      refine dt_iast dX6_addWord_50 hp.2.2.2.1 (by first | omega | (simp (disch := omega) only [dt_up_s, dt_up_k, dt_up_n]; omega)) (by first | omega | (simp (disch := omega) only [dt_up_s, dt_up_k, dt_up_n]; omega)) (by decide) (by first | assumption | exact hwf _ _ | exact dt_b32 _ | omega | exact ⟨by omega, by omega⟩ | decide | exact ⟨by simp (disch := omega) only [dt_up_s, dt_up_k, dt_up_n]; omega, by simp (disch := omega) only [dt_up_s, dt_up_k, dt_up_n]; omega⟩) ?_
      refine dt_aloadn dX6_addWord_51 rfl rfl ?_
      refine dt_getR dX6_addWord_52 pg_X6_9_6 hp.1 rfl ?_
      refine dt_iloadn dX6_addWord_55 rfl rfl ?_
      refine dt_dup2 dX6_addWord_56 ?_
      refine dt_iald dX6_addWord_57 hp.2.1 (by first | omega | (simp (disch := omega) only [dt_up_s, dt_up_k, dt_up_n]; omega)) (by first | omega | (simp (disch := omega) only [dt_up_s, dt_up_k, dt_up_n]; omega)) (by decide) ?_
      refine dt_iconst dX6_addWord_58 ?_
      refine dt_iadd dX6_addWord_59 ?_
      refine dt_wfV fun hwf => ?_
      refine dt_iast dX6_addWord_60 hp.2.1 (by first | omega | (simp (disch := omega) only [dt_up_s, dt_up_k, dt_up_n]; omega)) (by first | omega | (simp (disch := omega) only [dt_up_s, dt_up_k, dt_up_n]; omega)) (by decide) (by first | assumption | exact hwf _ _ | exact dt_b32 _ | omega | exact ⟨by omega, by omega⟩ | decide | exact ⟨by simp (disch := omega) only [dt_up_s, dt_up_k, dt_up_n]; omega, by simp (disch := omega) only [dt_up_s, dt_up_k, dt_up_n]; omega⟩) ?_
      refine dt_vret dX6_addWord_61 rfl (by decide) (by decide) ?_
      refine ⟨rfl, rfl, fun b hb => by rw [dt_up_o (by omega), dt_up_o (by omega), dt_up_o (by omega)], ?_⟩
      have q := hX.addWord (kd := kd) hl
      have e11 : ((Ts.length : Int) * 8 + (tg.length : Int)).toNat = Ts.length * 8 + tg.length := by omega
      simp (disch := omega) only [dt_up_s, dt_up_k, dt_up_n, Int.toNat_natCast, e8, e11]
      exact q
theorem s_X6_addReading {sh : List dt_Shp} {σ : dt_Mem} {p kd r : Nat} {Ts : List (List (Nat × List Nat))} {tg : List (Nat × List Nat)} {rs : List Nat} {Y : List Nat × Nat} (hp : dt_pSh sh p) (hX : cPort σ p (Ts ++ [tg ++ [(kd, rs)]], Y)) (hl : rs.length < 3) (hk : r < 256) : dt_Sp mX6_addReading 2 0 0 [dt_R p, dt_I (r : Int)] sh σ (fun v sh2 σ2 => v = none ∧ sh2 = sh ∧ (∀ b, (b < p ∨ p + 5 < b) → σ2 b = σ b) ∧ cPort σ2 p (Ts ++ [tg ++ [(kd, rs ++ [r])]], Y)) := by
  refine dt_Sp_of (by decide) (Nat.le_of_ble_eq_true rfl) ?_
  refine dt_wfV fun hwf => ?_
  have e5 := hX.t
  have e6 := hX.1.1
  obtain ⟨e7, e8, e8b⟩ := hX.2.2.2.2.1 Ts.length _ (by rw [List.getElem?_append_right (Nat.le_refl _), Nat.sub_self]; rfl)
  obtain ⟨e8c, e8d, e8e, -⟩ := e8b tg.length (kd, rs) (by rw [List.getElem?_append_right (Nat.le_refl _), Nat.sub_self]; rfl)
  simp only [List.length_append, List.length_cons, List.length_nil] at e5 e6 e7 e8 e8c e8e
  have e10 : ((Ts.length + 1 : Nat) : Int) - 1 = (Ts.length : Int) := by omega
  have e11 : ((tg.length + 1 : Nat) : Int) - 1 = (tg.length : Int) := by omega
  have e12 : σ (p + 1) ((Ts.length : Int)).toNat = ((tg.length + 1 : Nat) : Int) := by rw [Int.toNat_natCast]; exact e8
  have e13 : ((Ts.length : Int) * 8 + (tg.length : Int)).toNat = Ts.length * 8 + tg.length := by omega
  have e14 : σ (p + 3) ((Ts.length : Int) * 8 + (tg.length : Int)).toNat = rs.length := by rw [e13]; exact e8e
  have e15 : (((Ts.length : Int) * 8 + (tg.length : Int)) * 3 + (rs.length : Int)).toNat = (Ts.length * 8 + tg.length) * 3 + rs.length := by omega
  show dt_V _ _ _ 0 0 0 [some (dt_R p), some (dt_I (r : Int)), none, none, none, none] [] _ _
  refine dt_aloadn dX6_addReading_0 rfl rfl ?_
  refine dt_getI dX6_addReading_1 pg_X6_27_6 hp.1 rfl ?_
  refine dt_iconst dX6_addReading_4 ?_
  refine dt_isub dX6_addReading_5 ?_
  rw [e5, e10]
  refine dt_istoren dX6_addReading_6 rfl (by decide) rfl ?_
  dsimp only [List.set]
  refine dt_aloadn dX6_addReading_7 rfl rfl ?_
  refine dt_iloadn dX6_addReading_8 rfl rfl ?_
  refine dt_xV dX6_addReading_9 pc_X6_45 hp.1 (s_X6_wordsOf (by first | assumption | exact hwf _ _ | exact dt_b32 _ | omega | exact ⟨by omega, by omega⟩ | decide | exact ⟨by simp (disch := omega) only [dt_up_s, dt_up_k, dt_up_n]; omega, by simp (disch := omega) only [dt_up_s, dt_up_k, dt_up_n]; omega⟩) ⟨by omega, by omega, by omega⟩) rfl rfl ⟨by decide, by decide⟩ rfl rfl (Nat.le_of_ble_eq_true rfl) ⟨by decide, by decide⟩ (dt_k3 ?_)
  rw [e12]
  refine dt_iconst dX6_addReading_12 ?_
  refine dt_isub dX6_addReading_13 ?_
  rw [e11]
  refine dt_istoren dX6_addReading_14 rfl (by decide) rfl ?_
  dsimp only [List.set]
  refine dt_aloadn dX6_addReading_15 rfl rfl ?_
  refine dt_iloadn dX6_addReading_16 rfl rfl ?_
  refine dt_iloadn dX6_addReading_17 rfl rfl ?_
  refine dt_xV dX6_addReading_18 pc_X6_52 hp.1 (s_X6_hasWord (by first | assumption | exact hwf _ _ | exact dt_b32 _ | omega | exact ⟨by omega, by omega⟩ | decide | exact ⟨by simp (disch := omega) only [dt_up_s, dt_up_k, dt_up_n]; omega, by simp (disch := omega) only [dt_up_s, dt_up_k, dt_up_n]; omega⟩) (by first | assumption | exact hwf _ _ | exact dt_b32 _ | omega | exact ⟨by omega, by omega⟩ | decide | exact ⟨by simp (disch := omega) only [dt_up_s, dt_up_k, dt_up_n]; omega, by simp (disch := omega) only [dt_up_s, dt_up_k, dt_up_n]; omega⟩) (by first | assumption | exact hwf _ _ | exact dt_b32 _ | omega | exact ⟨by omega, by omega⟩ | decide | exact ⟨by simp (disch := omega) only [dt_up_s, dt_up_k, dt_up_n]; omega, by simp (disch := omega) only [dt_up_s, dt_up_k, dt_up_n]; omega⟩)) rfl rfl ⟨by decide, by decide⟩ rfl rfl (Nat.le_of_ble_eq_true rfl) ⟨by decide, by decide⟩ (dt_k3 ?_)
  refine dt_if_ne (tgt := 25) dX6_addReading_21 (by decide) (by first | assumption | exact hwf _ _ | exact dt_b32 _ | omega | exact ⟨by omega, by omega⟩ | decide | exact ⟨by simp (disch := omega) only [dt_up_s, dt_up_k, dt_up_n]; omega, by simp (disch := omega) only [dt_up_s, dt_up_k, dt_up_n]; omega⟩) (fun c1 => ?_) (fun c1 => ?_)
  · skip
    try simp only [dt_b0, dt_b1, Decidable.not_not, Classical.not_not] at c1
    refine dt_iloadn dX6_addReading_25 rfl rfl ?_
    refine dt_iloadn dX6_addReading_26 rfl rfl ?_
    refine dt_xS dX6_addReading_27 pc_X6_56 s_X6_slotOf rfl rfl ⟨by decide, by decide⟩ (Nat.le_of_ble_eq_true rfl) ⟨by decide, by decide⟩ (dt_k3 ?_)
    refine dt_istore dX6_addReading_30 (by decide) rfl ?_
    dsimp only [List.set]
    refine dt_aloadn dX6_addReading_32 rfl rfl ?_
    refine dt_getR dX6_addReading_33 pg_X6_18_6 hp.1 rfl ?_
    refine dt_iload dX6_addReading_36 rfl ?_
    refine dt_iald dX6_addReading_38 hp.2.2.2.1 (by first | omega | (simp (disch := omega) only [dt_up_s, dt_up_k, dt_up_n]; omega)) (by first | omega | (simp (disch := omega) only [dt_up_s, dt_up_k, dt_up_n]; omega)) (by decide) ?_
    rw [e14]
    refine dt_istore dX6_addReading_39 (by decide) rfl ?_
    dsimp only [List.set]
    refine dt_iconst dX6_addReading_41 ?_
    refine dt_iload dX6_addReading_42 rfl ?_
    refine dt_cm_gt (tgt := 77) dX6_addReading_44 (by decide) (by first | assumption | exact hwf _ _ | exact dt_b32 _ | omega | exact ⟨by omega, by omega⟩ | decide | exact ⟨by simp (disch := omega) only [dt_up_s, dt_up_k, dt_up_n]; omega, by simp (disch := omega) only [dt_up_s, dt_up_k, dt_up_n]; omega⟩) (by first | assumption | exact hwf _ _ | exact dt_b32 _ | omega | exact ⟨by omega, by omega⟩ | decide | exact ⟨by simp (disch := omega) only [dt_up_s, dt_up_k, dt_up_n]; omega, by simp (disch := omega) only [dt_up_s, dt_up_k, dt_up_n]; omega⟩) (fun c2 => ?_) (fun c2 => ?_)
    · skip
      exact absurd c2 (by omega)
    · skip
      refine dt_iload dX6_addReading_47 rfl ?_
      refine dt_iconst dX6_addReading_49 ?_
      refine dt_cm_ge (tgt := 77) dX6_addReading_50 (by decide) (by first | assumption | exact hwf _ _ | exact dt_b32 _ | omega | exact ⟨by omega, by omega⟩ | decide | exact ⟨by simp (disch := omega) only [dt_up_s, dt_up_k, dt_up_n]; omega, by simp (disch := omega) only [dt_up_s, dt_up_k, dt_up_n]; omega⟩) (by first | assumption | exact hwf _ _ | exact dt_b32 _ | omega | exact ⟨by omega, by omega⟩ | decide | exact ⟨by simp (disch := omega) only [dt_up_s, dt_up_k, dt_up_n]; omega, by simp (disch := omega) only [dt_up_s, dt_up_k, dt_up_n]; omega⟩) (fun c3 => ?_) (fun c3 => ?_)
      · skip
        exact absurd c3 (by omega)
      · skip
        refine dt_aloadn dX6_addReading_53 rfl rfl ?_
        refine dt_getR dX6_addReading_54 pg_X6_21_6 hp.1 rfl ?_
        refine dt_iload dX6_addReading_57 rfl ?_
        refine dt_iconst dX6_addReading_59 ?_
        refine dt_imul dX6_addReading_60 ?_
        refine dt_iload dX6_addReading_61 rfl ?_
        refine dt_iadd dX6_addReading_63 ?_
        refine dt_iloadn dX6_addReading_64 rfl rfl ?_
        refine dt_wfV fun hwf => ?_
        refine dt_iast dX6_addReading_65 hp.2.2.2.2.1 (by first | omega | (simp (disch := omega) only [dt_up_s, dt_up_k, dt_up_n]; omega)) (by first | omega | (simp (disch := omega) only [dt_up_s, dt_up_k, dt_up_n]; omega)) (by decide) (by first | assumption | exact hwf _ _ | exact dt_b32 _ | omega | exact ⟨by omega, by omega⟩ | decide | exact ⟨by simp (disch := omega) only [dt_up_s, dt_up_k, dt_up_n]; omega, by simp (disch := omega) only [dt_up_s, dt_up_k, dt_up_n]; omega⟩) ?_
        refine dt_aloadn dX6_addReading_66 rfl rfl ?_
        refine dt_getR dX6_addReading_67 pg_X6_18_6 hp.1 rfl ?_
        refine dt_iload dX6_addReading_70 rfl ?_
        refine dt_dup2 dX6_addReading_72 ?_
        refine dt_iald dX6_addReading_73 hp.2.2.2.1 (by first | omega | (simp (disch := omega) only [dt_up_s, dt_up_k, dt_up_n]; omega)) (by first | omega | (simp (disch := omega) only [dt_up_s, dt_up_k, dt_up_n]; omega)) (by decide) ?_
        refine dt_iconst dX6_addReading_74 ?_
        refine dt_iadd dX6_addReading_75 ?_
        refine dt_wfV fun hwf => ?_
        refine dt_iast dX6_addReading_76 hp.2.2.2.1 (by first | omega | (simp (disch := omega) only [dt_up_s, dt_up_k, dt_up_n]; omega)) (by first | omega | (simp (disch := omega) only [dt_up_s, dt_up_k, dt_up_n]; omega)) (by decide) (by first | assumption | exact hwf _ _ | exact dt_b32 _ | omega | exact ⟨by omega, by omega⟩ | decide | exact ⟨by simp (disch := omega) only [dt_up_s, dt_up_k, dt_up_n]; omega, by simp (disch := omega) only [dt_up_s, dt_up_k, dt_up_n]; omega⟩) ?_
        refine dt_vret dX6_addReading_77 rfl (by decide) (by decide) ?_
        refine ⟨rfl, rfl, fun b hb => by rw [dt_up_o (by omega), dt_up_o (by omega)], ?_⟩
        have q := hX.addReading (r := r) hl
        simp (disch := omega) only [dt_up_s, dt_up_k, dt_up_n, e13, e15, e8e]
        exact q
  · skip
    try simp only [dt_b0, dt_b1, Decidable.not_not, Classical.not_not] at c1
    exact absurd (show cW σ p (Ts.length : Int) (tg.length : Int) from ⟨by omega, by omega, by omega, by omega, by omega, by omega⟩) c1
theorem s_X6_addPerson {sh : List dt_Shp} {σ : dt_Mem} {p : Nat} {X : dX} {k : Nat} (hp : dt_pSh sh p) (hX : cPort σ p X) (hl : X.2.1.length < 8) (hk : k < 1000) : dt_Sp mX6_addPerson 0 0 0 [dt_R p, dt_I (k : Int)] sh σ (fun v sh2 σ2 => v = none ∧ sh2 = sh ∧ (∀ b, (b < p ∨ p + 5 < b) → σ2 b = σ b) ∧ cPort σ2 p (X.1, X.2.1 ++ [k], X.2.2)) := by
  refine dt_Sp_of (by decide) (Nat.le_of_ble_eq_true rfl) ?_
  refine dt_wfV fun hwf => ?_
  have e5 := hX.p
  show dt_V _ _ _ 0 0 0 [some (dt_R p), some (dt_I (k : Int))] [] _ _
  refine dt_aloadn dX6_addPerson_0 rfl rfl ?_
  refine dt_getI dX6_addPerson_1 pg_X6_31_6 hp.1 rfl ?_
  refine dt_bipush dX6_addPerson_4 (by decide) ?_
  refine dt_cm_ge (tgt := 29) dX6_addPerson_6 (by decide) (by first | assumption | exact hwf _ _ | exact dt_b32 _ | omega | exact ⟨by omega, by omega⟩ | decide | exact ⟨by simp (disch := omega) only [dt_up_s, dt_up_k, dt_up_n]; omega, by simp (disch := omega) only [dt_up_s, dt_up_k, dt_up_n]; omega⟩) (by first | assumption | exact hwf _ _ | exact dt_b32 _ | omega | exact ⟨by omega, by omega⟩ | decide | exact ⟨by simp (disch := omega) only [dt_up_s, dt_up_k, dt_up_n]; omega, by simp (disch := omega) only [dt_up_s, dt_up_k, dt_up_n]; omega⟩) (fun c1 => ?_) (fun c1 => ?_)
  · skip
    first | exact absurd c1 (by omega) | exact absurd c1 (by decide) | exact absurd rfl c1
  · skip
    refine dt_aloadn dX6_addPerson_9 rfl rfl ?_
    refine dt_getR dX6_addPerson_10 pg_X6_24_6 hp.1 rfl ?_
    refine dt_aloadn dX6_addPerson_13 rfl rfl ?_
    refine dt_getI dX6_addPerson_14 pg_X6_31_6 hp.1 rfl ?_
    refine dt_iloadn dX6_addPerson_17 rfl rfl ?_
    refine dt_wfV fun hwf => ?_
    refine dt_iast dX6_addPerson_18 hp.2.2.2.2.2 (by first | omega | (simp (disch := omega) only [dt_up_s, dt_up_k, dt_up_n]; omega)) (by first | omega | (simp (disch := omega) only [dt_up_s, dt_up_k, dt_up_n]; omega)) (by decide) (by first | assumption | exact hwf _ _ | exact dt_b32 _ | omega | exact ⟨by omega, by omega⟩ | decide | exact ⟨by simp (disch := omega) only [dt_up_s, dt_up_k, dt_up_n]; omega, by simp (disch := omega) only [dt_up_s, dt_up_k, dt_up_n]; omega⟩) ?_
    refine dt_aloadn dX6_addPerson_19 rfl rfl ?_
    refine dt_dupR dX6_addPerson_20 ?_
    refine dt_getI dX6_addPerson_21 pg_X6_31_6 hp.1 rfl ?_
    refine dt_iconst dX6_addPerson_24 ?_
    refine dt_iadd dX6_addPerson_25 ?_
    refine dt_wfV fun hwf => ?_
    refine dt_putI dX6_addPerson_26 pw_X6_31_6 hp.1 rfl (by first | assumption | exact hwf _ _ | exact dt_b32 _ | omega | exact ⟨by omega, by omega⟩ | decide | exact ⟨by simp (disch := omega) only [dt_up_s, dt_up_k, dt_up_n]; omega, by simp (disch := omega) only [dt_up_s, dt_up_k, dt_up_n]; omega⟩) ?_
    refine dt_vret dX6_addPerson_29 rfl (by decide) (by decide) ?_
    refine ⟨rfl, rfl, fun b hb => by rw [dt_up_o (by omega), dt_up_o (by omega)], ?_⟩
    have q := hX.addPerson (k := k) hl
    simp (disch := omega) only [dt_up_s, dt_up_k, dt_up_n]
    rw [e5, Int.toNat_natCast]
    exact q
theorem dt_cp_o {σ : dt_Mem} {a b sp dp n c : Nat} (h : c ≠ b) : dt_cp σ a b sp dp n c = σ c := by funext j; simp [dt_cp, h]
theorem dt_cp_s {σ : dt_Mem} {a b n j : Nat} (h : j < n) : dt_cp σ a b 0 0 n b j = σ a j := by
  simp only [dt_cp, if_true]
  rw [if_pos ⟨Nat.zero_le _, by omega⟩, Nat.sub_zero, Nat.zero_add]
theorem cPort.become {σ σ' : dt_Mem} {p o : Nat} {X : dX} (h : cPort σ o X) (e1 : ∀ j, j < 7 → σ' (p + 1) j = σ (o + 1) j) (e2 : ∀ j, j < 56 → σ' (p + 2) j = σ (o + 2) j) (e3 : ∀ j, j < 56 → σ' (p + 3) j = σ (o + 3) j) (e4 : ∀ j, j < 168 → σ' (p + 4) j = σ (o + 4) j) (e5 : ∀ j, j < 8 → σ' (p + 5) j = σ (o + 5) j) (e6 : σ' p 5 = σ o 5) (e7 : σ' p 6 = σ o 6) (e8 : σ' p 7 = σ o 7) : cPort σ' p X := by
  obtain ⟨⟨h1, h2⟩, h3, h4, h5, h6, h7⟩ := h
  refine ⟨⟨h1, h2⟩, by rw [e6]; exact h3, by rw [e7]; exact h4, by rw [e8]; exact h5, fun t tg ht => ?_, fun i k hk => ?_⟩
  · have gt := dt_gl ht
    obtain ⟨a1, a2, a3⟩ := h6 t tg ht
    refine ⟨a1, by rw [e1 t (by omega)]; exact a2, fun w wd hw => ?_⟩
    have gw := dt_gl hw
    obtain ⟨c1, c2, c3, c4⟩ := a3 w wd hw
    refine ⟨c1, by rw [e2 _ (by omega)]; exact c2, by rw [e3 _ (by omega)]; exact c3, fun q r hq => ?_⟩
    have gq := dt_gl hq
    rw [e4 _ (by omega)]
    exact c4 q r hq
  · have gi := dt_gl hk
    rw [e5 i (by omega)]
    exact h7 i k hk
theorem s_X6_become {sh : List dt_Shp} {σ : dt_Mem} {p o : Nat} (hp : dt_pSh sh p) (ho : dt_pSh sh o) (hpo : p + 6 ≤ o ∨ o + 6 ≤ p) : dt_Sp mX6_become 1 0 0 [dt_R p, dt_R o] sh σ (fun v sh2 σ2 => v = none ∧ sh2 = sh ∧ (∀ b, (b < p ∨ p + 5 < b) → σ2 b = σ b) ∧ ∀ X, cPort σ o X → cPort σ2 p X) := by
  refine dt_Sp_of (by decide) (Nat.le_of_ble_eq_true rfl) ?_
  refine dt_wfV fun hwf => ?_
  show dt_V _ _ _ 0 0 0 [some (dt_R p), some (dt_R o)] [] _ _
  refine dt_aloadn dX6_become_0 rfl rfl ?_
  refine dt_getR dX6_become_1 pg_X6_9_6 ho.1 rfl ?_
  refine dt_iconst dX6_become_4 ?_
  refine dt_aloadn dX6_become_5 rfl rfl ?_
  refine dt_getR dX6_become_6 pg_X6_9_6 hp.1 rfl ?_
  refine dt_iconst dX6_become_9 ?_
  refine dt_aloadn dX6_become_10 rfl rfl ?_
  refine dt_getR dX6_become_11 pg_X6_9_6 hp.1 rfl ?_
  refine dt_alen dX6_become_14 hp.2.1 (by decide) ?_
  refine dt_copy dX6_become_15 po_X6_70 psy_n psy_s psy_i (by decide) (by decide) ho.2.1 hp.2.1 (Or.inl rfl) (by decide) (by decide) (by first | omega | (simp (disch := omega) only [dt_up_s, dt_up_k, dt_up_n]; omega)) (by first | omega | (simp (disch := omega) only [dt_up_s, dt_up_k, dt_up_n]; omega)) (by first | omega | (simp (disch := omega) only [dt_up_s, dt_up_k, dt_up_n]; omega)) (by first | omega | (simp (disch := omega) only [dt_up_s, dt_up_k, dt_up_n]; omega)) (by first | omega | (simp (disch := omega) only [dt_up_s, dt_up_k, dt_up_n]; omega)) ?_
  refine dt_aloadn dX6_become_18 rfl rfl ?_
  refine dt_getR dX6_become_19 pg_X6_15_6 ho.1 rfl ?_
  refine dt_iconst dX6_become_22 ?_
  refine dt_aloadn dX6_become_23 rfl rfl ?_
  refine dt_getR dX6_become_24 pg_X6_15_6 hp.1 rfl ?_
  refine dt_iconst dX6_become_27 ?_
  refine dt_aloadn dX6_become_28 rfl rfl ?_
  refine dt_getR dX6_become_29 pg_X6_15_6 hp.1 rfl ?_
  refine dt_alen dX6_become_32 hp.2.2.1 (by decide) ?_
  refine dt_copy dX6_become_33 po_X6_70 psy_n psy_s psy_i (by decide) (by decide) ho.2.2.1 hp.2.2.1 (Or.inl rfl) (by decide) (by decide) (by first | omega | (simp (disch := omega) only [dt_up_s, dt_up_k, dt_up_n]; omega)) (by first | omega | (simp (disch := omega) only [dt_up_s, dt_up_k, dt_up_n]; omega)) (by first | omega | (simp (disch := omega) only [dt_up_s, dt_up_k, dt_up_n]; omega)) (by first | omega | (simp (disch := omega) only [dt_up_s, dt_up_k, dt_up_n]; omega)) (by first | omega | (simp (disch := omega) only [dt_up_s, dt_up_k, dt_up_n]; omega)) ?_
  refine dt_aloadn dX6_become_36 rfl rfl ?_
  refine dt_getR dX6_become_37 pg_X6_18_6 ho.1 rfl ?_
  refine dt_iconst dX6_become_40 ?_
  refine dt_aloadn dX6_become_41 rfl rfl ?_
  refine dt_getR dX6_become_42 pg_X6_18_6 hp.1 rfl ?_
  refine dt_iconst dX6_become_45 ?_
  refine dt_aloadn dX6_become_46 rfl rfl ?_
  refine dt_getR dX6_become_47 pg_X6_18_6 hp.1 rfl ?_
  refine dt_alen dX6_become_50 hp.2.2.2.1 (by decide) ?_
  refine dt_copy dX6_become_51 po_X6_70 psy_n psy_s psy_i (by decide) (by decide) ho.2.2.2.1 hp.2.2.2.1 (Or.inl rfl) (by decide) (by decide) (by first | omega | (simp (disch := omega) only [dt_up_s, dt_up_k, dt_up_n]; omega)) (by first | omega | (simp (disch := omega) only [dt_up_s, dt_up_k, dt_up_n]; omega)) (by first | omega | (simp (disch := omega) only [dt_up_s, dt_up_k, dt_up_n]; omega)) (by first | omega | (simp (disch := omega) only [dt_up_s, dt_up_k, dt_up_n]; omega)) (by first | omega | (simp (disch := omega) only [dt_up_s, dt_up_k, dt_up_n]; omega)) ?_
  refine dt_aloadn dX6_become_54 rfl rfl ?_
  refine dt_getR dX6_become_55 pg_X6_21_6 ho.1 rfl ?_
  refine dt_iconst dX6_become_58 ?_
  refine dt_aloadn dX6_become_59 rfl rfl ?_
  refine dt_getR dX6_become_60 pg_X6_21_6 hp.1 rfl ?_
  refine dt_iconst dX6_become_63 ?_
  refine dt_aloadn dX6_become_64 rfl rfl ?_
  refine dt_getR dX6_become_65 pg_X6_21_6 hp.1 rfl ?_
  refine dt_alen dX6_become_68 hp.2.2.2.2.1 (by decide) ?_
  refine dt_copy dX6_become_69 po_X6_70 psy_n psy_s psy_i (by decide) (by decide) ho.2.2.2.2.1 hp.2.2.2.2.1 (Or.inl rfl) (by decide) (by decide) (by first | omega | (simp (disch := omega) only [dt_up_s, dt_up_k, dt_up_n]; omega)) (by first | omega | (simp (disch := omega) only [dt_up_s, dt_up_k, dt_up_n]; omega)) (by first | omega | (simp (disch := omega) only [dt_up_s, dt_up_k, dt_up_n]; omega)) (by first | omega | (simp (disch := omega) only [dt_up_s, dt_up_k, dt_up_n]; omega)) (by first | omega | (simp (disch := omega) only [dt_up_s, dt_up_k, dt_up_n]; omega)) ?_
  refine dt_aloadn dX6_become_72 rfl rfl ?_
  refine dt_getR dX6_become_73 pg_X6_24_6 ho.1 rfl ?_
  refine dt_iconst dX6_become_76 ?_
  refine dt_aloadn dX6_become_77 rfl rfl ?_
  refine dt_getR dX6_become_78 pg_X6_24_6 hp.1 rfl ?_
  refine dt_iconst dX6_become_81 ?_
  refine dt_aloadn dX6_become_82 rfl rfl ?_
  refine dt_getR dX6_become_83 pg_X6_24_6 hp.1 rfl ?_
  refine dt_alen dX6_become_86 hp.2.2.2.2.2 (by decide) ?_
  refine dt_copy dX6_become_87 po_X6_70 psy_n psy_s psy_i (by decide) (by decide) ho.2.2.2.2.2 hp.2.2.2.2.2 (Or.inl rfl) (by decide) (by decide) (by first | omega | (simp (disch := omega) only [dt_up_s, dt_up_k, dt_up_n]; omega)) (by first | omega | (simp (disch := omega) only [dt_up_s, dt_up_k, dt_up_n]; omega)) (by first | omega | (simp (disch := omega) only [dt_up_s, dt_up_k, dt_up_n]; omega)) (by first | omega | (simp (disch := omega) only [dt_up_s, dt_up_k, dt_up_n]; omega)) (by first | omega | (simp (disch := omega) only [dt_up_s, dt_up_k, dt_up_n]; omega)) ?_
  refine dt_aloadn dX6_become_90 rfl rfl ?_
  refine dt_aloadn dX6_become_91 rfl rfl ?_
  refine dt_getI dX6_become_92 pg_X6_27_6 ho.1 rfl ?_
  refine dt_wfV fun hwf => ?_
  refine dt_putI dX6_become_95 pw_X6_27_6 hp.1 rfl (by first | assumption | exact hwf _ _ | exact dt_b32 _ | omega | exact ⟨by omega, by omega⟩ | decide | exact ⟨by simp (disch := omega) only [dt_up_s, dt_up_k, dt_up_n]; omega, by simp (disch := omega) only [dt_up_s, dt_up_k, dt_up_n]; omega⟩) ?_
  refine dt_aloadn dX6_become_98 rfl rfl ?_
  refine dt_aloadn dX6_become_99 rfl rfl ?_
  refine dt_getI dX6_become_100 pg_X6_31_6 ho.1 rfl ?_
  refine dt_wfV fun hwf => ?_
  refine dt_putI dX6_become_103 pw_X6_31_6 hp.1 rfl (by first | assumption | exact hwf _ _ | exact dt_b32 _ | omega | exact ⟨by omega, by omega⟩ | decide | exact ⟨by simp (disch := omega) only [dt_up_s, dt_up_k, dt_up_n]; omega, by simp (disch := omega) only [dt_up_s, dt_up_k, dt_up_n]; omega⟩) ?_
  refine dt_aloadn dX6_become_106 rfl rfl ?_
  refine dt_aloadn dX6_become_107 rfl rfl ?_
  refine dt_getI dX6_become_108 pg_X6_34_6 ho.1 rfl ?_
  refine dt_wfV fun hwf => ?_
  refine dt_putI dX6_become_111 pw_X6_34_6 hp.1 rfl (by first | assumption | exact hwf _ _ | exact dt_b32 _ | omega | exact ⟨by omega, by omega⟩ | decide | exact ⟨by simp (disch := omega) only [dt_up_s, dt_up_k, dt_up_n]; omega, by simp (disch := omega) only [dt_up_s, dt_up_k, dt_up_n]; omega⟩) ?_
  refine dt_vret dX6_become_114 rfl (by decide) (by decide) ?_
  refine ⟨rfl, rfl, fun b hb => by rw [dt_up_o (by omega), dt_up_o (by omega), dt_up_o (by omega), dt_cp_o (by omega), dt_cp_o (by omega), dt_cp_o (by omega), dt_cp_o (by omega), dt_cp_o (by omega)], fun X hX => hX.become ?_ ?_ ?_ ?_ ?_ ?_ ?_ ?_⟩
  · intro j hj; simp (disch := omega) only [dt_up_n, dt_cp_o]; rw [show Int.toNat 0 = 0 from rfl]; exact (dt_cp_s hj).trans (by simp (disch := omega) only [dt_cp_o])
  · intro j hj; simp (disch := omega) only [dt_up_n, dt_cp_o]; rw [show Int.toNat 0 = 0 from rfl]; exact (dt_cp_s hj).trans (by simp (disch := omega) only [dt_cp_o])
  · intro j hj; simp (disch := omega) only [dt_up_n, dt_cp_o]; rw [show Int.toNat 0 = 0 from rfl]; exact (dt_cp_s hj).trans (by simp (disch := omega) only [dt_cp_o])
  · intro j hj; simp (disch := omega) only [dt_up_n, dt_cp_o]; rw [show Int.toNat 0 = 0 from rfl]; exact (dt_cp_s hj).trans (by simp (disch := omega) only [dt_cp_o])
  · intro j hj; simp (disch := omega) only [dt_up_n, dt_cp_o]; rw [show Int.toNat 0 = 0 from rfl]; exact (dt_cp_s hj).trans (by simp (disch := omega) only [dt_cp_o])
  · simp (disch := omega) only [dt_up_s, dt_up_k, dt_up_n, dt_cp_o]
  · simp (disch := omega) only [dt_up_s, dt_up_k, dt_up_n, dt_cp_o]
  · simp (disch := omega) only [dt_up_s, dt_up_k, dt_up_n, dt_cp_o]
