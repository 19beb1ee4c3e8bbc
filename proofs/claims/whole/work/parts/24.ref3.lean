
theorem dt_upup {σ : dt_Mem} {a k : Nat} {v u : Int} : dt_up (dt_up σ a k v) a k u = dt_up σ a k u := by
  funext b j
  unfold dt_up
  by_cases h : b = a
  · subst h
    by_cases g : j = k <;> simp [g]
  · simp [h]
theorem dt_up_ne {σ : dt_Mem} {a k b j : Nat} {v : Int} (h : b ≠ a ∨ j ≠ k) : dt_up σ a k v b j = σ b j := by
  by_cases g : b = a
  · subst g
    exact dt_up_k (by omega)
  · exact dt_up_n g
theorem dj_x0 {a b : Nat} : a ^^^ b = 0 ↔ a = b := by
  constructor
  · intro h
    apply Nat.eq_of_testBit_eq
    intro i
    have hb : (a ^^^ b).testBit i = false := by rw [h]; exact Nat.zero_testBit i
    rw [Nat.testBit_xor] at hb
    cases h1 : a.testBit i <;> cases h2 : b.testBit i <;> simp_all
  · rintro rfl
    exact Nat.xor_self _
theorem rPort.set {σ : dt_Mem} {t w q r : Nat} {X : dX} {tg : List (Nat × List Nat)} {wd : Nat × List Nat} (h : rPort σ 44 0 X) (ok : dX_ok X) (hg : X.1[t]? = some tg) (hwd : tg[w]? = some wd) (hq : q < wd.2.length) : rPort (dt_up σ 44 (18 + 40 * t + 5 * w + 2 + q) r) 44 0 (xSet X t w q r) := by
  have o1 := ok.wd ⟨tg, hg, hwd⟩
  have o2 := o1.2.2.2.2.2.2.1
  rw [xSet_eq hg hwd]
  obtain ⟨h3, h4, h5, h6, h7⟩ := h
  obtain ⟨a2, a3⟩ := h6 t tg hg
  obtain ⟨b2, b3, b4⟩ := a3 w wd hwd
  have hp8 := ok.2.2.1
  refine ⟨by rw [List.length_set, dt_up_k (by omega)]; exact h3, by rw [dt_up_k (by omega)]; exact h4, by rw [dt_up_k (by omega)]; exact h5, fun t' tg' ht' => ?_, fun i k hk => by rw [dt_up_k (by have : i < X.2.1.length := dt_gl hk; omega)]; exact h7 i k hk⟩
  rcases dt_st ht' with ⟨hne, ht'⟩ | ⟨rfl, rfl⟩
  · obtain ⟨c2, c3⟩ := h6 t' tg' ht'
    have c1 := (ok.2.1 tg' (List.mem_of_getElem? ht')).1
    have lt' := dt_gl ht'
    have l7 := ok.1
    refine ⟨by rw [dt_up_k (by omega)]; exact c2, fun w' wd' hw' => ?_⟩
    have lw' := dt_gl hw'
    obtain ⟨d2, d3, d4⟩ := c3 w' wd' hw'
    refine ⟨by rw [dt_up_k (by omega)]; exact d2, by rw [dt_up_k (by omega)]; exact d3, fun q' r' hq' => ?_⟩
    have lq' := dt_gl hq'
    have d1 := (ok.wd ⟨tg', ht', hw'⟩).2.2.2.2.2.2.1
    rw [dt_up_k (by omega)]
    exact d4 q' r' hq'
  · refine ⟨by rw [List.length_set, dt_up_k (by omega)]; exact a2, fun w' wd' hw' => ?_⟩
    rcases dt_st hw' with ⟨hnw, hw'⟩ | ⟨rfl, rfl⟩
    · obtain ⟨d2, d3, d4⟩ := a3 w' wd' hw'
      have d1 := (ok.wd ⟨tg, hg, hw'⟩).2.2.2.2.2.2.1
      refine ⟨by rw [dt_up_k (by omega)]; exact d2, by rw [dt_up_k (by omega)]; exact d3, fun q' r' hq' => ?_⟩
      have lq' := dt_gl hq'
      rw [dt_up_k (by omega)]
      exact d4 q' r' hq'
    · refine ⟨by rw [dt_up_k (by omega)]; exact b2, by rw [List.length_set, dt_up_k (by omega)]; exact b3, fun q' r' hq' => ?_⟩
      rcases dt_st hq' with ⟨hnq, hq'⟩ | ⟨rfl, rfl⟩
      · rw [dt_up_k (by omega)]
        exact b4 q' r' hq'
      · rw [show 0 + (18 + 40 * t' + 5 * w' + 2 + q') = 18 + 40 * t' + 5 * w' + 2 + q' by omega, dt_up_s]
/-- the same row of numbers, elsewhere -/
theorem rPort.copy {σ σ' : dt_Mem} {a o a2 o2 : Nat} {X : dX} (h : rPort σ a o X) (ok : dX_ok X) (e : ∀ j, j < 298 → σ' a2 (o2 + j) = σ a (o + j)) : rPort σ' a2 o2 X := by
  obtain ⟨h3, h4, h5, h6, h7⟩ := h
  refine ⟨by have := e 0 (by decide); rw [Nat.add_zero, Nat.add_zero] at this; rw [this]; exact h3, by rw [e 1 (by decide)]; exact h4, by rw [e 2 (by decide)]; exact h5, fun t tg ht => ?_, fun i k hk => ?_⟩
  · have lt := dt_gl ht
    have l7 := ok.1
    obtain ⟨c2, c3⟩ := h6 t tg ht
    have c1 := (ok.2.1 tg (List.mem_of_getElem? ht)).1
    refine ⟨by rw [e _ (by omega)]; exact c2, fun w wd hw => ?_⟩
    have lw := dt_gl hw
    obtain ⟨d2, d3, d4⟩ := c3 w wd hw
    refine ⟨by rw [e _ (by omega)]; exact d2, by rw [e _ (by omega)]; exact d3, fun q r hq => ?_⟩
    have lq := dt_gl hq
    have d1 := (ok.wd ⟨tg, ht, hw⟩).2.2.2.2.2.2.1
    rw [e _ (by omega)]
    exact d4 q r hq
  · have := dt_gl hk
    have := ok.2.2.1
    rw [e _ (by omega)]
    exact h7 i k hk
theorem rPort.years {σ : dt_Mem} {T : List (List (Nat × List Nat))} {P : List Nat} {y z : Nat} (h : rPort σ 44 0 (T, P, y)) : rPort (dt_up σ 44 2 z) 44 0 (T, P, z) := by
  obtain ⟨h3, h4, h5, h6, h7⟩ := h
  refine ⟨by rw [dt_up_k (by decide)]; exact h3, by rw [dt_up_k (by decide)]; exact h4, by rw [Nat.zero_add, dt_up_s], fun t tg ht => ?_, fun i k hk => by rw [dt_up_k (by omega)]; exact h7 i k hk⟩
  obtain ⟨c2, c3⟩ := h6 t tg ht
  refine ⟨by rw [dt_up_k (by omega)]; exact c2, fun w wd hw => ?_⟩
  obtain ⟨d2, d3, d4⟩ := c3 w wd hw
  exact ⟨by rw [dt_up_k (by omega)]; exact d2, by rw [dt_up_k (by omega)]; exact d3, fun q r hq => by rw [dt_up_k (by omega)]; exact d4 q r hq⟩
theorem rInv.port {σ σ' : dt_Mem} {A : dS} {X : dX} (h : rInv σ A) (hX : rPort σ' 44 0 X) (hn : (sN A).1 ≠ [] ↔ X.1 ≠ []) (e40 : ∀ k, k = 1 ∨ k = 7 ∨ k = 9 ∨ k = 10 ∨ k = 29 → σ' 40 k = σ 40 k) (e : ∀ b, 41 ≤ b → b < 55 → b ≠ 44 → σ' b = σ b) : rInv σ' (sPt A X) := by
  obtain ⟨h1, h2, h3, h4, h5, h6, h7, h8⟩ := h
  refine ⟨h1.kept (e 41 (by decide) (by decide) (by decide)) (e 42 (by decide) (by decide) (by decide)) (e 43 (by decide) (by decide) (by decide)), ⟨by rw [e40 9 (by decide)]; exact h2.1, by rw [e 46 (by decide) (by decide) (by decide)]; exact h2.2⟩, ⟨hX, by rw [e40 7 (by decide), h3.2]; exact dt_bc hn⟩, ⟨fun g => (h4.1 g).kept (e 53 (by decide) (by decide) (by decide)), by rw [e 52 (by decide) (by decide) (by decide)]; exact h4.2⟩, ⟨fun g => (h5.1 g).kept (e 53 (by decide) (by decide) (by decide)), by rw [e 52 (by decide) (by decide) (by decide)]; exact h5.2⟩, by rw [e40 10 (by decide)]; exact h6, by rw [e40 1 (by decide)]; exact h7, ⟨by rw [e40 29 (by decide)]; exact h8.1, h8.2.1, by rw [e 54 (by decide) (by decide) (by decide)]; exact h8.2.2⟩⟩
theorem s_X12_draw {ex : List dt_Shp} {σ : dt_Mem} {f : Int} (h1 : 0 ≤ σ 40 18) (h2 : σ 40 18 < 2147483648) (h3 : 0 < f) (h4 : f < 2147483648) : dt_Sp mX12_draw 0 0 0 [dt_R 40, dt_I f] (dt_SH ++ ex) σ (fun v sh2 σ2 => v = some (dt_I (xd (σ 40 18) % f)) ∧ sh2 = dt_SH ++ ex ∧ σ2 = dt_up σ 40 18 (xd (σ 40 18))) := by
  refine dt_Sp_of (by decide) (Nat.le_of_ble_eq_true rfl) ?_
  refine dt_wfV fun hwf => ?_
  have y1 := xd_in (σ 40 18)
  show dt_V _ _ _ 0 0 0 [some (dt_R 40), some (dt_I f)] [] _ _
  refine dt_aloadn dX12_draw_0 rfl rfl ?_
  refine dt_aloadn dX12_draw_1 rfl rfl ?_
  refine dt_getL dX12_draw_2 pg_X12_186_12 rfl rfl ?_
  refine dt_ldc2 dX12_draw_5 pk_X12_190 ?_
  refine dt_lmul dX12_draw_8 ?_
  refine dt_ldc2 dX12_draw_9 pk_X12_192 ?_
  refine dt_lrem dX12_draw_12 (by decide) (by decide) ?_
  rw [dj_lrem_i (by omega) (by omega) (by omega) (by omega), show σ 40 18 * 16807 % 2147483647 = xd (σ 40 18) from rfl]
  refine dt_wfV fun hwf => ?_
  refine dt_putL dX12_draw_13 pw_X12_186_12 rfl rfl (by first | assumption | exact hwf _ _ | exact dt_b32 _ | omega | exact ⟨by omega, by omega⟩ | decide | exact ⟨by simp (disch := omega) only [dt_up_s, dt_up_k, dt_up_n]; omega, by simp (disch := omega) only [dt_up_s, dt_up_k, dt_up_n]; omega⟩) ?_
  refine dt_aloadn dX12_draw_16 rfl rfl ?_
  refine dt_getL dX12_draw_17 pg_X12_186_12 rfl rfl ?_
  rw [dt_up_s]
  refine dt_iloadn dX12_draw_20 rfl rfl ?_
  refine dt_ui2l dX12_draw_21 (by first | assumption | exact hwf _ _ | exact dt_b32 _ | omega | exact ⟨by omega, by omega⟩ | decide | exact ⟨by simp (disch := omega) only [dt_up_s, dt_up_k, dt_up_n]; omega, by simp (disch := omega) only [dt_up_s, dt_up_k, dt_up_n]; omega⟩) ?_
  refine dt_lrem dX12_draw_22 ⟨by omega, by omega⟩ (by omega) ?_
  refine dt_ul2i dX12_draw_23 ?_
  refine dt_iret dX12_draw_24 rfl (by decide) (by decide) ?_
  exact ⟨by rw [dj_lrem_i (by omega) (by omega) (by omega) (by omega)], rfl, rfl⟩
theorem s_X12_year {ex : List dt_Shp} {σ : dt_Mem} {X : dX} (hX : rX σ X) (h0 : 0 < X.1.length) (h1 : 0 ≤ σ 40 18) (h2 : σ 40 18 < 2147483648) : dt_Sp mX12_year 1 0 0 [dt_R 40] (dt_SH ++ ex) σ (fun v sh2 σ2 => v = none ∧ sh2 = dt_SH ++ ex ∧ rX σ2 (xYear X (σ 40 18)).1 ∧ σ2 40 18 = (xYear X (σ 40 18)).2 ∧ ∀ b k, b ≠ 44 → (b ≠ 40 ∨ k ≠ 18) → σ2 b k = σ b k) := by
  refine dt_Sp_of (by decide) (Nat.le_of_ble_eq_true rfl) ?_
  refine dt_wfV fun hwf => ?_
  have e0 := hX.t
  have e1 := hX.p
  have e2 := hX.2.1
  have e3 := hX.2.2.2.1
  have hK : ∀ v, rX (dt_up σ 40 18 v) X := fun v => hX.kept (dt_up_o (by decide))
  obtain ⟨t, tg, ht, hg, hc⟩ := xYear_c hX.2 h0 (σ 40 18)
  obtain ⟨f1, f2, f3, f4, f5⟩ := hX.tg hg
  have e7 : ((3 : Int) + (t : Int)).toNat = 3 + t := by omega
  show dt_V _ _ _ 0 0 0 [some (dt_R 40), none, none, none, none, none] [] _ _
  refine dt_aloadn dX12_year_0 rfl rfl ?_
  refine dt_aloadn dX12_year_1 rfl rfl ?_
  refine dt_getR dX12_year_2 pg_X12_19_12 rfl rfl ?_
  refine dt_iconst dX12_year_5 ?_
  refine dt_iald dX12_year_6 rfl (by first | omega | (simp (disch := omega) only [dt_up_s, dt_up_k, dt_up_n]; omega)) (by first | omega | (simp (disch := omega) only [dt_up_s, dt_up_k, dt_up_n]; omega)) (by decide) ?_
  rw [show Int.toNat 0 = 0 from rfl, e0]
  refine dt_xV dX12_year_7 pc_X12_194 rfl (s_X12_draw h1 h2 (by omega) (by omega)) rfl rfl ⟨by decide, by decide⟩ rfl rfl (Nat.le_of_ble_eq_true rfl) ⟨by decide, by decide⟩ (dt_k3 ?_)
  rw [ht]
  refine dt_istoren dX12_year_10 rfl (by decide) rfl ?_
  dsimp only [List.set]
  refine dt_aloadn dX12_year_11 rfl rfl ?_
  refine dt_getR dX12_year_12 pg_X12_19_12 rfl rfl ?_
  refine dt_iconst dX12_year_15 ?_
  refine dt_iloadn dX12_year_16 rfl rfl ?_
  refine dt_iadd dX12_year_17 ?_
  refine dt_iald dX12_year_18 rfl (by first | omega | (simp (disch := omega) only [dt_up_s, dt_up_k, dt_up_n]; omega)) (by first | omega | (simp (disch := omega) only [dt_up_s, dt_up_k, dt_up_n]; omega)) (by decide) ?_
  rw [e7, ((hK _).tg hg).1]
  refine dt_istoren dX12_year_19 rfl (by decide) rfl ?_
  dsimp only [List.set]
  refine dt_aloadn dX12_year_20 rfl rfl ?_
  refine dt_iloadn dX12_year_21 rfl rfl ?_
  refine dt_if_le (tgt := 29) dX12_year_22 (by decide) (by first | assumption | exact hwf _ _ | exact dt_b32 _ | omega | exact ⟨by omega, by omega⟩ | decide | exact ⟨by simp (disch := omega) only [dt_up_s, dt_up_k, dt_up_n]; omega, by simp (disch := omega) only [dt_up_s, dt_up_k, dt_up_n]; omega⟩) (fun c1 => ?_) (fun c1 => ?_)
  · skip
    refine dt_iconst dX12_year_29 ?_
    refine dt_xV dX12_year_30 pc_X12_194 rfl (s_X12_draw (by rw [dt_up_s]; exact (xd_in _).1) (by rw [dt_up_s]; exact Int.lt_trans (xd_in _).2 (by decide)) (by omega) (by omega)) rfl rfl ⟨by decide, by decide⟩ rfl rfl (Nat.le_of_ble_eq_true rfl) ⟨by decide, by decide⟩ (dt_k3 ?_)
    rw [dt_up_s, dt_upup]
    refine dt_istoren dX12_year_33 rfl (by decide) rfl ?_
    dsimp only [List.set]
    refine dt_iloadn dX12_year_34 rfl rfl ?_
    refine dt_if_ne (tgt := 39) dX12_year_35 (by decide) (by first | assumption | exact hwf _ _ | exact dt_b32 _ | omega | exact ⟨by omega, by omega⟩ | decide | exact ⟨by simp (disch := omega) only [dt_up_s, dt_up_k, dt_up_n]; omega, by simp (disch := omega) only [dt_up_s, dt_up_k, dt_up_n]; omega⟩) (fun c2 => ?_) (fun c2 => ?_)
    · skip
      first | exact absurd c2 (by omega) | exact absurd c2 (by decide) | exact absurd rfl c2
    · skip
      refine dt_vret dX12_year_38 rfl (by decide) (by decide) ?_
      refine ⟨rfl, rfl, ?_, ?_, fun b k h44 h40 => ?_⟩
      · rw [xYear_0 ht hg (by omega)]; exact hK _
      · rw [xYear_0 ht hg (by omega), dt_up_s]
      · exact dt_up_ne h40
  · skip
    have c2 : tg.length ≠ 0 := by omega
    obtain ⟨w, q, r, k, wd, w1, w2, w3, w4, w5, w6, w7, w8⟩ := hc c2
    have hw : xW X t w wd := ⟨tg, hg, w2⟩
    have lw := dt_gl w2
    have z5 := w3.2.2.1
    have z6 := w3.2.2.2.1
    have lq := dt_gl w5
    have hr8 := (w3.2.2.2.2.2 r (List.mem_of_getElem? w5)).2
    have hk8 : 2 ^ k < 2 ^ 8 := Nat.pow_lt_pow_right (by decide) w7
    have i2 : ((18 : Int) + 40 * (t : Int) + 5 * (w : Int) + 2 + (q : Int)).toNat = 18 + 40 * t + 5 * w + 2 + q := by omega
    refine dt_iloadn dX12_year_25 rfl rfl ?_
    refine dt_goto (tgt := 30) dX12_year_26 (by decide) ?_
    refine dt_xV dX12_year_30 pc_X12_194 rfl (s_X12_draw (by rw [dt_up_s]; exact (xd_in _).1) (by rw [dt_up_s]; exact Int.lt_trans (xd_in _).2 (by decide)) (by omega) (by omega)) rfl rfl ⟨by decide, by decide⟩ rfl rfl (Nat.le_of_ble_eq_true rfl) ⟨by decide, by decide⟩ (dt_k3 ?_)
    rw [dt_up_s, dt_upup]
    rw [w1]
    refine dt_istoren dX12_year_33 rfl (by decide) rfl ?_
    dsimp only [List.set]
    refine dt_iloadn dX12_year_34 rfl rfl ?_
    refine dt_if_ne (tgt := 39) dX12_year_35 (by decide) (by first | assumption | exact hwf _ _ | exact dt_b32 _ | omega | exact ⟨by omega, by omega⟩ | decide | exact ⟨by simp (disch := omega) only [dt_up_s, dt_up_k, dt_up_n]; omega, by simp (disch := omega) only [dt_up_s, dt_up_k, dt_up_n]; omega⟩) (fun c3 => ?_) (fun c3 => ?_)
    · skip
      refine dt_aloadn dX12_year_39 rfl rfl ?_
      refine dt_aloadn dX12_year_40 rfl rfl ?_
      refine dt_iloadn dX12_year_41 rfl rfl ?_
      refine dt_iloadn dX12_year_42 rfl rfl ?_
      refine dt_xV dX12_year_43 pc_X12_197 rfl (s_X12_readings (hK _) hw) rfl rfl ⟨by decide, by decide⟩ rfl rfl (Nat.le_of_ble_eq_true rfl) ⟨by decide, by decide⟩ (dt_k3 ?_)
      refine dt_xV dX12_year_46 pc_X12_194 rfl (s_X12_draw (by rw [dt_up_s]; exact (xd_in _).1) (by rw [dt_up_s]; exact Int.lt_trans (xd_in _).2 (by decide)) (by omega) (by omega)) rfl rfl ⟨by decide, by decide⟩ rfl rfl (Nat.le_of_ble_eq_true rfl) ⟨by decide, by decide⟩ (dt_k3 ?_)
      rw [dt_up_s, dt_upup]
      rw [w4]
      refine dt_istore dX12_year_49 (by decide) rfl ?_
      dsimp only [List.set]
      refine dt_iconst dX12_year_51 ?_
      refine dt_aloadn dX12_year_52 rfl rfl ?_
      refine dt_bipush dX12_year_53 (by decide) ?_
      refine dt_xV dX12_year_55 pc_X12_194 rfl (s_X12_draw (by rw [dt_up_s]; exact (xd_in _).1) (by rw [dt_up_s]; exact Int.lt_trans (xd_in _).2 (by decide)) (by omega) (by omega)) rfl rfl ⟨by decide, by decide⟩ rfl rfl (Nat.le_of_ble_eq_true rfl) ⟨by decide, by decide⟩ (dt_k3 ?_)
      rw [dt_up_s, dt_upup]
      rw [w6]
      refine dt_ishl dX12_year_58 ?_
      rw [dj_shl1 (by omega)]
      obtain ⟨pk, hpk⟩ : ∃ z : Nat, z = 2 ^ k := ⟨_, rfl⟩
      rw [← hpk]
      rw [← hpk] at hk8 w8
      have hk9 : pk < 256 := hk8
      refine dt_istore dX12_year_59 (by decide) rfl ?_
      dsimp only [List.set]
      refine dt_aloadn dX12_year_61 rfl rfl ?_
      refine dt_iloadn dX12_year_62 rfl rfl ?_
      refine dt_iloadn dX12_year_63 rfl rfl ?_
      refine dt_iload dX12_year_64 rfl ?_
      refine dt_xV dX12_year_66 pc_X12_200 rfl (s_X12_reading (hK _) hw w5) rfl rfl ⟨by decide, by decide⟩ rfl rfl (Nat.le_of_ble_eq_true rfl) ⟨by decide, by decide⟩ (dt_k3 ?_)
      refine dt_iload dX12_year_69 rfl ?_
      refine dt_cm_eq (tgt := 100) dX12_year_71 (by decide) (by first | assumption | exact hwf _ _ | exact dt_b32 _ | omega | exact ⟨by omega, by omega⟩ | decide | exact ⟨by simp (disch := omega) only [dt_up_s, dt_up_k, dt_up_n]; omega, by simp (disch := omega) only [dt_up_s, dt_up_k, dt_up_n]; omega⟩) (by first | assumption | exact hwf _ _ | exact dt_b32 _ | omega | exact ⟨by omega, by omega⟩ | decide | exact ⟨by simp (disch := omega) only [dt_up_s, dt_up_k, dt_up_n]; omega, by simp (disch := omega) only [dt_up_s, dt_up_k, dt_up_n]; omega⟩) (fun c4 => ?_) (fun c4 => ?_)
      · skip
        refine dt_vret dX12_year_100 rfl (by decide) (by decide) ?_
        subst hpk
        have e := xYear_1 (X := X) (x := σ 40 18) ht hg c2 w1 w2 w4 w5 w6
        first
        | (have z : r ^^^ 2 ^ k = 0 := dj_x0.mpr (by omega)
           rw [if_pos z] at e
           refine ⟨rfl, rfl, ?_, ?_, fun b k h44 h40 => ?_⟩
           · rw [e]; exact hK _
           · rw [e, dt_up_s]
           · exact dt_up_ne h40)
        | (have z : ¬ r ^^^ 2 ^ k = 0 := fun q => by have := dj_x0.mp q; omega
           rw [if_neg z] at e
           refine ⟨rfl, rfl, ?_, ?_, fun b k h44 h40 => ?_⟩
           · rw [e, i2]; exact ⟨rPort.set (hK _).1 hX.2 hg w2 (dt_gl w5), xSet_ok hX.2 hg w2 ⟨by omega, w8⟩⟩
           · rw [e, dt_up_n (by decide), dt_up_s]
           · rw [dt_up_n h44]; exact dt_up_ne h40)
      · skip
        refine dt_aloadn dX12_year_74 rfl rfl ?_
        refine dt_getR dX12_year_75 pg_X12_19_12 rfl rfl ?_
        refine dt_bipush dX12_year_78 (by decide) ?_
        refine dt_bipush dX12_year_80 (by decide) ?_
        refine dt_iloadn dX12_year_82 rfl rfl ?_
        refine dt_imul dX12_year_83 ?_
        refine dt_iadd dX12_year_84 ?_
        refine dt_iconst dX12_year_85 ?_
        refine dt_iloadn dX12_year_86 rfl rfl ?_
        refine dt_imul dX12_year_87 ?_
        refine dt_iadd dX12_year_88 ?_
        refine dt_iconst dX12_year_89 ?_
        refine dt_iadd dX12_year_90 ?_
        refine dt_iload dX12_year_91 rfl ?_
        refine dt_iadd dX12_year_93 ?_
        refine dt_dup2 dX12_year_94 ?_
        refine dt_iald dX12_year_95 rfl (by first | omega | (simp (disch := omega) only [dt_up_s, dt_up_k, dt_up_n]; omega)) (by first | omega | (simp (disch := omega) only [dt_up_s, dt_up_k, dt_up_n]; omega)) (by decide) ?_
        rw [i2, ((hK _).wd hw).2.2.2 q r w5 |>.1]
        refine dt_iload dX12_year_96 rfl ?_
        refine dt_ixor dX12_year_98 ?_
        rw [dj_xor_nn (by omega) (by omega)]
        refine dt_wfV fun hwf => ?_
        refine dt_iast dX12_year_99 rfl (by first | omega | (simp (disch := omega) only [dt_up_s, dt_up_k, dt_up_n]; omega)) (by first | omega | (simp (disch := omega) only [dt_up_s, dt_up_k, dt_up_n]; omega)) (by decide) (by first | assumption | exact hwf _ _ | exact dt_b32 _ | omega | exact ⟨by omega, by omega⟩ | decide | exact ⟨by simp (disch := omega) only [dt_up_s, dt_up_k, dt_up_n]; omega, by simp (disch := omega) only [dt_up_s, dt_up_k, dt_up_n]; omega⟩) ?_
        refine dt_vret dX12_year_100 rfl (by decide) (by decide) ?_
        subst hpk
        have e := xYear_1 (X := X) (x := σ 40 18) ht hg c2 w1 w2 w4 w5 w6
        first
        | (have z : r ^^^ 2 ^ k = 0 := dj_x0.mpr (by omega)
           rw [if_pos z] at e
           refine ⟨rfl, rfl, ?_, ?_, fun b k h44 h40 => ?_⟩
           · rw [e]; exact hK _
           · rw [e, dt_up_s]
           · exact dt_up_ne h40)
        | (have z : ¬ r ^^^ 2 ^ k = 0 := fun q => by have := dj_x0.mp q; omega
           rw [if_neg z] at e
           refine ⟨rfl, rfl, ?_, ?_, fun b k h44 h40 => ?_⟩
           · rw [e, i2]; exact ⟨rPort.set (hK _).1 hX.2 hg w2 (dt_gl w5), xSet_ok hX.2 hg w2 ⟨by omega, w8⟩⟩
           · rw [e, dt_up_n (by decide), dt_up_s]
           · rw [dt_up_n h44]; exact dt_up_ne h40)
    · skip
      first | exact absurd c3 (by omega) | exact absurd c3 (by decide) | exact absurd rfl c3
