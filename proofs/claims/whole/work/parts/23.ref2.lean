
def rX (σ : dt_Mem) (X : dX) : Prop := rPort σ 44 0 X ∧ dX_ok X
theorem rX.t {σ : dt_Mem} {X : dX} (h : rX σ X) : σ 44 0 = X.1.length := h.1.1
theorem rX.p {σ : dt_Mem} {X : dX} (h : rX σ X) : σ 44 1 = X.2.1.length := h.1.2.1
theorem rX.y {σ : dt_Mem} {X : dX} (h : rX σ X) : σ 44 2 = X.2.2 := h.1.2.2.1
theorem rX.kept {σ σ' : dt_Mem} {X : dX} (h : rX σ X) (e : σ' 44 = σ 44) : rX σ' X := ⟨h.1.kept e, h.2⟩
theorem rX.tg {σ : dt_Mem} {X : dX} (h : rX σ X) {t : Nat} {tg : List (Nat × List Nat)} (ht : X.1[t]? = some tg) : σ 44 (3 + t) = tg.length ∧ tg.length ≤ 8 ∧ t < 7 ∧ t < X.1.length ∧ ∀ wd ∈ tg, wdOk wd := by
  have l := dt_gl ht
  have q := h.2.2.1 tg (List.mem_of_getElem? ht)
  have a := (h.1.2.2.2.1 t tg ht).1
  rw [Nat.zero_add] at a
  exact ⟨a, q.1, by have := h.2.1; omega, l, q.2⟩
theorem rX.wd {σ : dt_Mem} {X : dX} (h : rX σ X) {t w : Nat} {wd : Nat × List Nat} (hw : xW X t w wd) : (t < X.1.length ∧ t < 7 ∧ w < 8 ∧ wdOk wd) ∧ σ 44 (18 + 40 * t + 5 * w) = wd.1 ∧ σ 44 (18 + 40 * t + 5 * w + 1) = wd.2.length ∧ ∀ (q r : Nat), wd.2[q]? = some r → σ 44 (18 + 40 * t + 5 * w + 2 + q) = r ∧ 1 ≤ r ∧ r < 256 ∧ q < 3 := by
  have ok := h.2.wd hw
  obtain ⟨tg, h1, h2⟩ := hw
  obtain ⟨-, b⟩ := h.1.2.2.2.1 t tg h1
  obtain ⟨c1, c2, c3⟩ := b w wd h2
  rw [Nat.zero_add] at c1 c2
  refine ⟨ok, c1, c2, fun q r hq => ?_⟩
  have c4 := c3 q r hq
  rw [Nat.zero_add] at c4
  have := dt_gl hq
  have r1 := ok.2.2.2.2.2.2.2.2 r (List.mem_of_getElem? hq)
  exact ⟨c4, r1.1, r1.2, by have := ok.2.2.2.2.2.2.1; omega⟩
theorem rInv.X {σ : dt_Mem} {A : dS} (h : rInv σ A) (ok : dX_ok (sN A)) : rX σ (sN A) := ⟨h.2.2.1.1, ok⟩
theorem dj_nsub {r m : Nat} (hr : r < 256) (hm : m < 256) : (dj_and r (dj_xor m (-1)) = 0) ↔ r ||| m = m := by
  have e1 : dj_and r (dj_xor m (-1)) = ((r &&& (m ^^^ 4294967295) : Nat) : Int) := by
    unfold dj_and dj_xor
    rw [Int32.ofInt_toInt, dj_of, dj_of, show Int32.ofInt (-1) = nI 4294967295 from rfl, fb_xorI, fa_and, nI_toInt (Nat.lt_of_le_of_lt Nat.and_le_left (by omega))]
  rw [e1]
  have key : (r &&& (m ^^^ 4294967295) = 0) ↔ r ||| m = m := by
    have ones : ∀ i, (4294967295 : Nat).testBit i = decide (i < 32) := fun i => by
      have := Nat.testBit_two_pow_sub_one 32 i
      exact this
    constructor
    · intro h
      apply Nat.eq_of_testBit_eq
      intro i
      have hb : (r &&& (m ^^^ 4294967295)).testBit i = false := by rw [h]; exact Nat.zero_testBit i
      rw [Nat.testBit_and, Nat.testBit_xor, ones] at hb
      rw [Nat.testBit_or]
      by_cases hi : i < 32
      · rw [decide_eq_true hi] at hb
        cases h1 : r.testBit i <;> cases h2 : m.testBit i <;> simp_all
      · rw [Nat.testBit_lt_two_pow (Nat.lt_of_lt_of_le (show r < 2 ^ 32 by omega) (Nat.pow_le_pow_right (by decide) (by omega)))]
        simp
    · intro h
      apply Nat.eq_of_testBit_eq
      intro i
      have hb : (r ||| m).testBit i = m.testBit i := by rw [h]
      rw [Nat.testBit_or] at hb
      rw [Nat.testBit_and, Nat.testBit_xor, ones, Nat.zero_testBit]
      by_cases hi : i < 32
      · rw [decide_eq_true hi]
        cases h1 : r.testBit i <;> cases h2 : m.testBit i <;> simp_all
      · rw [Nat.testBit_lt_two_pow (Nat.lt_of_lt_of_le (show r < 2 ^ 32 by omega) (Nat.pow_le_pow_right (by decide) (by omega)))]
        simp
  rw [← key]
  omega
/-- all readings lie within -/
def xWithin (rs : List Nat) (m : Nat) : Prop := ∀ r ∈ rs, r ||| m = m
theorem xWithin_t {rs : List Nat} {i m x : Nat} (h : rs[i]? = some x) : xWithin (rs.take (i + 1)) m ↔ xWithin (rs.take i) m ∧ x ||| m = m := by
  unfold xWithin
  rw [List.take_add_one, h]
  constructor
  · intro g
    exact ⟨fun r hr => g r (List.mem_append_left _ hr), g x (List.mem_append_right _ List.mem_cons_self)⟩
  · rintro ⟨g1, g2⟩ r hr
    rcases List.mem_append.mp hr with q | q
    · exact g1 r q
    · rw [List.mem_singleton.mp q]; exact g2
theorem xCom_lt (rs : List Nat) : xCom rs < 256 := Nat.lt_of_le_of_lt (xCom_le rs 255) (by decide)
theorem s_X12_isTongue {ex : List dt_Shp} {σ : dt_Mem} {X : dX} {t : Int} (hX : rX σ X) (h_t : dt_in32 t) : dt_Sp mX12_isTongue 1 0 0 [dt_R 40, dt_I t] (dt_SH ++ ex) σ (fun v sh2 σ2 => v = some (dt_I (dt_b (0 ≤ t ∧ t < X.1.length))) ∧ sh2 = dt_SH ++ ex ∧ σ2 = σ) := by
  refine dt_Sp_of (by decide) (Nat.le_of_ble_eq_true rfl) ?_
  refine dt_wfV fun hwf => ?_
  have e0 := hX.t
  have e1 := hX.p
  have e2 := hX.2.1
  have e3 := hX.2.2.2.1
  show dt_V _ _ _ 0 0 0 [some (dt_R 40), some (dt_I t)] [] _ _
  refine dt_iloadn dX12_isTongue_0 rfl rfl ?_
  refine dt_ui2l dX12_isTongue_1 (by first | assumption | exact hwf _ _ | exact dt_b32 _ | omega | exact ⟨by omega, by omega⟩ | decide | exact ⟨by simp (disch := omega) only [dt_up_s, dt_up_k, dt_up_n]; omega, by simp (disch := omega) only [dt_up_s, dt_up_k, dt_up_n]; omega⟩) ?_
  refine dt_lconst (x := 0) dX12_isTongue_2 (by decide) ?_
  refine dt_aloadn dX12_isTongue_3 rfl rfl ?_
  refine dt_getR dX12_isTongue_4 pg_X12_19_12 rfl rfl ?_
  refine dt_iconst dX12_isTongue_7 ?_
  refine dt_iald dX12_isTongue_8 rfl (by first | omega | (simp (disch := omega) only [dt_up_s, dt_up_k, dt_up_n]; omega)) (by first | omega | (simp (disch := omega) only [dt_up_s, dt_up_k, dt_up_n]; omega)) (by decide) ?_
  rw [show Int.toNat 0 = 0 from rfl, e0]
  refine dt_iconst dX12_isTongue_9 ?_
  refine dt_isub dX12_isTongue_10 ?_
  refine dt_ui2l dX12_isTongue_11 (by first | assumption | exact hwf _ _ | exact dt_b32 _ | omega | exact ⟨by omega, by omega⟩ | decide | exact ⟨by simp (disch := omega) only [dt_up_s, dt_up_k, dt_up_n]; omega, by simp (disch := omega) only [dt_up_s, dt_up_k, dt_up_n]; omega⟩) ?_
  refine dt_xS dX12_isTongue_12 pc_X12_63 (s_X12_in (by first | exact ⟨by omega, by omega⟩ | decide) (by first | exact ⟨by omega, by omega⟩ | decide) (by first | exact ⟨by omega, by omega⟩ | decide)) rfl rfl ⟨by decide, by decide⟩ (Nat.le_of_ble_eq_true rfl) ⟨by decide, by decide⟩ (dt_k3 ?_)
  refine dt_zret dX12_isTongue_15 rfl (by decide) (by decide) (dt_b01 _) ?_
  exact ⟨dt_vb (by omega), rfl, rfl⟩
theorem s_X12_isOne {ex : List dt_Shp} {σ : dt_Mem} {X : dX} {t : Int} (hX : rX σ X) (h_t : dt_in32 t) : dt_Sp mX12_isOne 1 0 0 [dt_R 40, dt_I t] (dt_SH ++ ex) σ (fun v sh2 σ2 => v = some (dt_I (dt_b (0 ≤ t ∧ t < X.2.1.length))) ∧ sh2 = dt_SH ++ ex ∧ σ2 = σ) := by
  refine dt_Sp_of (by decide) (Nat.le_of_ble_eq_true rfl) ?_
  refine dt_wfV fun hwf => ?_
  have e0 := hX.t
  have e1 := hX.p
  have e2 := hX.2.1
  have e3 := hX.2.2.2.1
  show dt_V _ _ _ 0 0 0 [some (dt_R 40), some (dt_I t)] [] _ _
  refine dt_iloadn dX12_isOne_0 rfl rfl ?_
  refine dt_ui2l dX12_isOne_1 (by first | assumption | exact hwf _ _ | exact dt_b32 _ | omega | exact ⟨by omega, by omega⟩ | decide | exact ⟨by simp (disch := omega) only [dt_up_s, dt_up_k, dt_up_n]; omega, by simp (disch := omega) only [dt_up_s, dt_up_k, dt_up_n]; omega⟩) ?_
  refine dt_lconst (x := 0) dX12_isOne_2 (by decide) ?_
  refine dt_aloadn dX12_isOne_3 rfl rfl ?_
  refine dt_getR dX12_isOne_4 pg_X12_19_12 rfl rfl ?_
  refine dt_iconst dX12_isOne_7 ?_
  refine dt_iald dX12_isOne_8 rfl (by first | omega | (simp (disch := omega) only [dt_up_s, dt_up_k, dt_up_n]; omega)) (by first | omega | (simp (disch := omega) only [dt_up_s, dt_up_k, dt_up_n]; omega)) (by decide) ?_
  rw [show Int.toNat 1 = 1 from rfl, e1]
  refine dt_iconst dX12_isOne_9 ?_
  refine dt_isub dX12_isOne_10 ?_
  refine dt_ui2l dX12_isOne_11 (by first | assumption | exact hwf _ _ | exact dt_b32 _ | omega | exact ⟨by omega, by omega⟩ | decide | exact ⟨by simp (disch := omega) only [dt_up_s, dt_up_k, dt_up_n]; omega, by simp (disch := omega) only [dt_up_s, dt_up_k, dt_up_n]; omega⟩) ?_
  refine dt_xS dX12_isOne_12 pc_X12_63 (s_X12_in (by first | exact ⟨by omega, by omega⟩ | decide) (by first | exact ⟨by omega, by omega⟩ | decide) (by first | exact ⟨by omega, by omega⟩ | decide)) rfl rfl ⟨by decide, by decide⟩ (Nat.le_of_ble_eq_true rfl) ⟨by decide, by decide⟩ (dt_k3 ?_)
  refine dt_zret dX12_isOne_15 rfl (by decide) (by decide) (dt_b01 _) ?_
  exact ⟨dt_vb (by omega), rfl, rfl⟩
theorem s_X12_isWord {ex : List dt_Shp} {σ : dt_Mem} {X : dX} {t w : Int} (hX : rX σ X) (h_t : dt_in32 t) (h_w : dt_in32 w) : dt_Sp mX12_isWord 2 0 0 [dt_R 40, dt_I t, dt_I w] (dt_SH ++ ex) σ (fun v sh2 σ2 => v = some (dt_I (dt_b (xAt X t w ≠ none))) ∧ sh2 = dt_SH ++ ex ∧ σ2 = σ) := by
  refine dt_Sp_of (by decide) (Nat.le_of_ble_eq_true rfl) ?_
  refine dt_wfV fun hwf => ?_
  have e0 := hX.t
  have e1 := hX.p
  have e2 := hX.2.1
  have e3 := hX.2.2.2.1
  show dt_V _ _ _ 0 0 0 [some (dt_R 40), some (dt_I t), some (dt_I w)] [] _ _
  refine dt_aloadn dX12_isWord_0 rfl rfl ?_
  refine dt_iloadn dX12_isWord_1 rfl rfl ?_
  refine dt_xV dX12_isWord_2 pc_X12_183 rfl (s_X12_isTongue (by first | assumption | exact hwf _ _ | exact dt_b32 _ | omega | exact ⟨by omega, by omega⟩ | decide | exact ⟨by simp (disch := omega) only [dt_up_s, dt_up_k, dt_up_n]; omega, by simp (disch := omega) only [dt_up_s, dt_up_k, dt_up_n]; omega⟩) (by first | assumption | exact hwf _ _ | exact dt_b32 _ | omega | exact ⟨by omega, by omega⟩ | decide | exact ⟨by simp (disch := omega) only [dt_up_s, dt_up_k, dt_up_n]; omega, by simp (disch := omega) only [dt_up_s, dt_up_k, dt_up_n]; omega⟩)) rfl rfl ⟨by decide, by decide⟩ rfl rfl (Nat.le_of_ble_eq_true rfl) ⟨by decide, by decide⟩ (dt_k3 ?_)
  refine dt_if_eq (tgt := 32) dX12_isWord_5 (by decide) (by first | assumption | exact hwf _ _ | exact dt_b32 _ | omega | exact ⟨by omega, by omega⟩ | decide | exact ⟨by simp (disch := omega) only [dt_up_s, dt_up_k, dt_up_n]; omega, by simp (disch := omega) only [dt_up_s, dt_up_k, dt_up_n]; omega⟩) (fun c1 => ?_) (fun c1 => ?_)
  · skip
    try simp only [dt_b0, dt_b1, Decidable.not_not, Classical.not_not] at c1
    have hn : xAt X t w = none := by
      cases e : xAt X t w with
      | none => rfl
      | some wd => obtain ⟨t, w, rfl, rfl, hw⟩ := xAt_sp e; have := (hX.wd hw).1.1; omega
    refine dt_iconst dX12_isWord_32 ?_
    refine dt_zret dX12_isWord_33 rfl (by decide) (by decide) (by first | exact Or.inl rfl | exact Or.inr rfl | assumption | omega) ?_
    first | (rw [dt_bF (fun q => q hn)]; exact ⟨rfl, rfl, rfl⟩) | (rw [dt_bT (by rw [hn]; exact Option.some_ne_none _)]; exact ⟨rfl, rfl, rfl⟩)
  · skip
    try simp only [dt_b0, dt_b1, Decidable.not_not, Classical.not_not] at c1
    obtain ⟨t, rfl⟩ : ∃ z : Nat, t = z := ⟨t.toNat, by omega⟩
    obtain ⟨tg, ht⟩ := dt_lg (l := X.1) (i := t) (by omega)
    obtain ⟨f1, f2, f3, f4, f5⟩ := hX.tg ht
    have e7 : ((3 : Int) + (t : Int)).toNat = 3 + t := by omega
    refine dt_iloadn dX12_isWord_8 rfl rfl ?_
    refine dt_ui2l dX12_isWord_9 (by first | assumption | exact hwf _ _ | exact dt_b32 _ | omega | exact ⟨by omega, by omega⟩ | decide | exact ⟨by simp (disch := omega) only [dt_up_s, dt_up_k, dt_up_n]; omega, by simp (disch := omega) only [dt_up_s, dt_up_k, dt_up_n]; omega⟩) ?_
    refine dt_lconst (x := 0) dX12_isWord_10 (by decide) ?_
    refine dt_aloadn dX12_isWord_11 rfl rfl ?_
    refine dt_getR dX12_isWord_12 pg_X12_19_12 rfl rfl ?_
    refine dt_iconst dX12_isWord_15 ?_
    refine dt_iloadn dX12_isWord_16 rfl rfl ?_
    refine dt_iadd dX12_isWord_17 ?_
    refine dt_iald dX12_isWord_18 rfl (by first | omega | (simp (disch := omega) only [dt_up_s, dt_up_k, dt_up_n]; omega)) (by first | omega | (simp (disch := omega) only [dt_up_s, dt_up_k, dt_up_n]; omega)) (by decide) ?_
    refine dt_iconst dX12_isWord_19 ?_
    refine dt_isub dX12_isWord_20 ?_
    rw [e7, f1]
    refine dt_ui2l dX12_isWord_21 (by first | assumption | exact hwf _ _ | exact dt_b32 _ | omega | exact ⟨by omega, by omega⟩ | decide | exact ⟨by simp (disch := omega) only [dt_up_s, dt_up_k, dt_up_n]; omega, by simp (disch := omega) only [dt_up_s, dt_up_k, dt_up_n]; omega⟩) ?_
    refine dt_xS dX12_isWord_22 pc_X12_63 (s_X12_in (by first | exact ⟨by omega, by omega⟩ | decide) (by first | exact ⟨by omega, by omega⟩ | decide) (by first | exact ⟨by omega, by omega⟩ | decide)) rfl rfl ⟨by decide, by decide⟩ (Nat.le_of_ble_eq_true rfl) ⟨by decide, by decide⟩ (dt_k3 ?_)
    refine dt_if_eq (tgt := 32) dX12_isWord_25 (by decide) (by first | assumption | exact hwf _ _ | exact dt_b32 _ | omega | exact ⟨by omega, by omega⟩ | decide | exact ⟨by simp (disch := omega) only [dt_up_s, dt_up_k, dt_up_n]; omega, by simp (disch := omega) only [dt_up_s, dt_up_k, dt_up_n]; omega⟩) (fun c2 => ?_) (fun c2 => ?_)
    · skip
      try simp only [dt_b0, dt_b1, Decidable.not_not, Classical.not_not] at c2
      have hn : xAt X t w = none := by
        cases e : xAt X t w with
        | none => rfl
        | some wd =>
          obtain ⟨t2, w, q1, rfl, tg2, hw2, hw3⟩ := xAt_sp e
          obtain rfl : t = t2 := by omega
          obtain rfl : tg = tg2 := Option.some.inj (ht.symm.trans hw2)
          have := dt_gl hw3
          omega
      refine dt_iconst dX12_isWord_32 ?_
      refine dt_zret dX12_isWord_33 rfl (by decide) (by decide) (by first | exact Or.inl rfl | exact Or.inr rfl | assumption | omega) ?_
      first | (rw [dt_bF (fun q => q hn)]; exact ⟨rfl, rfl, rfl⟩) | (rw [dt_bT (by rw [hn]; exact Option.some_ne_none _)]; exact ⟨rfl, rfl, rfl⟩)
    · skip
      try simp only [dt_b0, dt_b1, Decidable.not_not, Classical.not_not] at c2
      obtain ⟨w, rfl⟩ : ∃ z : Nat, w = z := ⟨w.toNat, by omega⟩
      obtain ⟨wd, hwd⟩ := dt_lg (l := tg) (i := w) (by omega)
      have hn := xAt_of ⟨tg, ht, hwd⟩
      refine dt_iconst dX12_isWord_28 ?_
      refine dt_goto (tgt := 33) dX12_isWord_29 (by decide) ?_
      refine dt_zret dX12_isWord_33 rfl (by decide) (by decide) (by first | exact Or.inl rfl | exact Or.inr rfl | assumption | omega) ?_
      first | (rw [dt_bF (fun q => q hn)]; exact ⟨rfl, rfl, rfl⟩) | (rw [dt_bT (by rw [hn]; exact Option.some_ne_none _)]; exact ⟨rfl, rfl, rfl⟩)
theorem s_X12_readings {ex : List dt_Shp} {σ : dt_Mem} {X : dX} {t w : Nat} {wd : Nat × List Nat} (hX : rX σ X) (hw : xW X t w wd) : dt_Sp mX12_readings 0 0 0 [dt_R 40, dt_I (t : Int), dt_I (w : Int)] (dt_SH ++ ex) σ (fun v sh2 σ2 => v = some (dt_I ((wd.2.length : Nat) : Int)) ∧ sh2 = dt_SH ++ ex ∧ σ2 = σ) := by
  refine dt_Sp_of (by decide) (Nat.le_of_ble_eq_true rfl) ?_
  refine dt_wfV fun hwf => ?_
  obtain ⟨⟨k0, k1, k2, k3⟩, k4, k5, k6⟩ := hX.wd hw
  have k7 := k3.2.2.1
  have k8 := k3.2.2.2.1
  have i0 : ((18 : Int) + 40 * (t : Int) + 5 * (w : Int)).toNat = 18 + 40 * t + 5 * w := by omega
  have i1 : ((18 : Int) + 40 * (t : Int) + 5 * (w : Int) + 1).toNat = 18 + 40 * t + 5 * w + 1 := by omega
  show dt_V _ _ _ 0 0 0 [some (dt_R 40), some (dt_I (t : Int)), some (dt_I (w : Int))] [] _ _
  refine dt_aloadn dX12_readings_0 rfl rfl ?_
  refine dt_getR dX12_readings_1 pg_X12_19_12 rfl rfl ?_
  refine dt_bipush dX12_readings_4 (by decide) ?_
  refine dt_bipush dX12_readings_6 (by decide) ?_
  refine dt_iloadn dX12_readings_8 rfl rfl ?_
  refine dt_imul dX12_readings_9 ?_
  refine dt_iadd dX12_readings_10 ?_
  refine dt_iconst dX12_readings_11 ?_
  refine dt_iloadn dX12_readings_12 rfl rfl ?_
  refine dt_imul dX12_readings_13 ?_
  refine dt_iadd dX12_readings_14 ?_
  refine dt_iconst dX12_readings_15 ?_
  refine dt_iadd dX12_readings_16 ?_
  refine dt_iald dX12_readings_17 rfl (by first | omega | (simp (disch := omega) only [dt_up_s, dt_up_k, dt_up_n]; omega)) (by first | omega | (simp (disch := omega) only [dt_up_s, dt_up_k, dt_up_n]; omega)) (by decide) ?_
  refine dt_iret dX12_readings_18 rfl (by decide) (by decide) ?_
  exact ⟨by rw [i1, k5], rfl, rfl⟩
theorem s_X12_kindOf {ex : List dt_Shp} {σ : dt_Mem} {X : dX} {t w : Nat} {wd : Nat × List Nat} (hX : rX σ X) (hw : xW X t w wd) : dt_Sp mX12_kindOf 0 0 0 [dt_R 40, dt_I (t : Int), dt_I (w : Int)] (dt_SH ++ ex) σ (fun v sh2 σ2 => v = some (dt_I ((wd.1 : Nat) : Int)) ∧ sh2 = dt_SH ++ ex ∧ σ2 = σ) := by
  refine dt_Sp_of (by decide) (Nat.le_of_ble_eq_true rfl) ?_
  refine dt_wfV fun hwf => ?_
  obtain ⟨⟨k0, k1, k2, k3⟩, k4, k5, k6⟩ := hX.wd hw
  have k7 := k3.2.2.1
  have k8 := k3.2.2.2.1
  have i0 : ((18 : Int) + 40 * (t : Int) + 5 * (w : Int)).toNat = 18 + 40 * t + 5 * w := by omega
  have i1 : ((18 : Int) + 40 * (t : Int) + 5 * (w : Int) + 1).toNat = 18 + 40 * t + 5 * w + 1 := by omega
  show dt_V _ _ _ 0 0 0 [some (dt_R 40), some (dt_I (t : Int)), some (dt_I (w : Int))] [] _ _
  refine dt_aloadn dX12_kindOf_0 rfl rfl ?_
  refine dt_getR dX12_kindOf_1 pg_X12_19_12 rfl rfl ?_
  refine dt_bipush dX12_kindOf_4 (by decide) ?_
  refine dt_bipush dX12_kindOf_6 (by decide) ?_
  refine dt_iloadn dX12_kindOf_8 rfl rfl ?_
  refine dt_imul dX12_kindOf_9 ?_
  refine dt_iadd dX12_kindOf_10 ?_
  refine dt_iconst dX12_kindOf_11 ?_
  refine dt_iloadn dX12_kindOf_12 rfl rfl ?_
  refine dt_imul dX12_kindOf_13 ?_
  refine dt_iadd dX12_kindOf_14 ?_
  refine dt_iald dX12_kindOf_15 rfl (by first | omega | (simp (disch := omega) only [dt_up_s, dt_up_k, dt_up_n]; omega)) (by first | omega | (simp (disch := omega) only [dt_up_s, dt_up_k, dt_up_n]; omega)) (by decide) ?_
  refine dt_iret dX12_kindOf_16 rfl (by decide) (by decide) ?_
  exact ⟨by rw [i0, k4], rfl, rfl⟩
theorem s_X12_reading {ex : List dt_Shp} {σ : dt_Mem} {X : dX} {t w : Nat} {wd : Nat × List Nat} {q r : Nat} (hX : rX σ X) (hw : xW X t w wd) (hr : wd.2[q]? = some r) : dt_Sp mX12_reading 0 0 0 [dt_R 40, dt_I (t : Int), dt_I (w : Int), dt_I (q : Int)] (dt_SH ++ ex) σ (fun v sh2 σ2 => v = some (dt_I ((r : Nat) : Int)) ∧ sh2 = dt_SH ++ ex ∧ σ2 = σ) := by
  refine dt_Sp_of (by decide) (Nat.le_of_ble_eq_true rfl) ?_
  refine dt_wfV fun hwf => ?_
  obtain ⟨⟨k0, k1, k2, k3⟩, k4, k5, k6⟩ := hX.wd hw
  have k7 := k3.2.2.1
  have k8 := k3.2.2.2.1
  have i0 : ((18 : Int) + 40 * (t : Int) + 5 * (w : Int)).toNat = 18 + 40 * t + 5 * w := by omega
  have i1 : ((18 : Int) + 40 * (t : Int) + 5 * (w : Int) + 1).toNat = 18 + 40 * t + 5 * w + 1 := by omega
  obtain ⟨k9, k10, k11, k12⟩ := k6 q r hr
  have i2 : ((18 : Int) + 40 * (t : Int) + 5 * (w : Int) + 2 + (q : Int)).toNat = 18 + 40 * t + 5 * w + 2 + q := by omega
  show dt_V _ _ _ 0 0 0 [some (dt_R 40), some (dt_I (t : Int)), some (dt_I (w : Int)), some (dt_I (q : Int))] [] _ _
  refine dt_aloadn dX12_reading_0 rfl rfl ?_
  refine dt_getR dX12_reading_1 pg_X12_19_12 rfl rfl ?_
  refine dt_bipush dX12_reading_4 (by decide) ?_
  refine dt_bipush dX12_reading_6 (by decide) ?_
  refine dt_iloadn dX12_reading_8 rfl rfl ?_
  refine dt_imul dX12_reading_9 ?_
  refine dt_iadd dX12_reading_10 ?_
  refine dt_iconst dX12_reading_11 ?_
  refine dt_iloadn dX12_reading_12 rfl rfl ?_
  refine dt_imul dX12_reading_13 ?_
  refine dt_iadd dX12_reading_14 ?_
  refine dt_iconst dX12_reading_15 ?_
  refine dt_iadd dX12_reading_16 ?_
  refine dt_iloadn dX12_reading_17 rfl rfl ?_
  refine dt_iadd dX12_reading_18 ?_
  refine dt_iald dX12_reading_19 rfl (by first | omega | (simp (disch := omega) only [dt_up_s, dt_up_k, dt_up_n]; omega)) (by first | omega | (simp (disch := omega) only [dt_up_s, dt_up_k, dt_up_n]; omega)) (by decide) ?_
  refine dt_iret dX12_reading_20 rfl (by decide) (by decide) ?_
  exact ⟨by rw [i2, k9], rfl, rfl⟩
theorem s_X12_tongueOf {ex : List dt_Shp} {σ : dt_Mem} {X : dX} {d : Int} (hX : rX σ X) (h1 : 0 ≤ d) (h2 : d < 2147483648) (h3 : 0 < X.1.length) : dt_Sp mX12_tongueOf 0 0 0 [dt_R 40, dt_I d] (dt_SH ++ ex) σ (fun v sh2 σ2 => v = some (dt_I (d % X.1.length)) ∧ sh2 = dt_SH ++ ex ∧ σ2 = σ) := by
  refine dt_Sp_of (by decide) (Nat.le_of_ble_eq_true rfl) ?_
  refine dt_wfV fun hwf => ?_
  have e0 := hX.t
  have e1 := hX.p
  have e2 := hX.2.1
  have e3 := hX.2.2.2.1
  show dt_V _ _ _ 0 0 0 [some (dt_R 40), some (dt_I d)] [] _ _
  refine dt_iloadn dX12_tongueOf_0 rfl rfl ?_
  refine dt_aloadn dX12_tongueOf_1 rfl rfl ?_
  refine dt_getR dX12_tongueOf_2 pg_X12_19_12 rfl rfl ?_
  refine dt_iconst dX12_tongueOf_5 ?_
  refine dt_iald dX12_tongueOf_6 rfl (by first | omega | (simp (disch := omega) only [dt_up_s, dt_up_k, dt_up_n]; omega)) (by first | omega | (simp (disch := omega) only [dt_up_s, dt_up_k, dt_up_n]; omega)) (by decide) ?_
  rw [show Int.toNat 0 = 0 from rfl, e0]
  refine dt_irem dX12_tongueOf_7 (by first | assumption | exact hwf _ _ | exact dt_b32 _ | omega | exact ⟨by omega, by omega⟩ | decide | exact ⟨by simp (disch := omega) only [dt_up_s, dt_up_k, dt_up_n]; omega, by simp (disch := omega) only [dt_up_s, dt_up_k, dt_up_n]; omega⟩) (by first | omega | (simp (disch := omega) only [dt_up_s, dt_up_k, dt_up_n]; omega)) ?_
  refine dt_iret dX12_tongueOf_8 rfl (by decide) (by decide) ?_
  exact ⟨by rw [dj_rem_i h1 h2 (by omega) (by omega)], rfl, rfl⟩
theorem s_X12_common {ex : List dt_Shp} {σ : dt_Mem} {X : dX} {t w : Nat} {wd : Nat × List Nat} (hX : rX σ X) (hw : xW X t w wd) : dt_Sp mX12_common 1 0 0 [dt_R 40, dt_I (t : Int), dt_I (w : Int)] (dt_SH ++ ex) σ (fun v sh2 σ2 => v = some (dt_I ((xCom wd.2 : Nat) : Int)) ∧ sh2 = dt_SH ++ ex ∧ σ2 = σ) := by
  refine dt_Sp_of (by decide) (Nat.le_of_ble_eq_true rfl) ?_
  refine dt_wfV fun hwf => ?_
  obtain ⟨⟨k0, k1, k2, k3⟩, k4, k5, k6⟩ := hX.wd hw
  have k7 := k3.2.2.1
  have k8 := k3.2.2.2.1
  have i0 : ((18 : Int) + 40 * (t : Int) + 5 * (w : Int)).toNat = 18 + 40 * t + 5 * w := by omega
  have i1 : ((18 : Int) + 40 * (t : Int) + 5 * (w : Int) + 1).toNat = 18 + 40 * t + 5 * w + 1 := by omega
  show dt_V _ _ _ 0 0 0 [some (dt_R 40), some (dt_I (t : Int)), some (dt_I (w : Int)), none, none] [] _ _
  refine dt_sipush dX12_common_0 (by decide) ?_
  refine dt_istoren dX12_common_3 rfl (by decide) rfl ?_
  dsimp only [List.set]
  refine dt_iconst dX12_common_4 ?_
  refine dt_istore dX12_common_5 (by decide) rfl ?_
  dsimp only [List.set]
  have lp7 : ∀ (fu : Nat) (i : Nat), (wd.2.length : Int) - i < (fu : Int) → (i ≤ wd.2.length) →  dt_V mX12_common (dt_rm 1 0 0) (dt_MC (fun v sh2 σ2 => v = some (dt_I ((xCom wd.2 : Nat) : Int)) ∧ sh2 = dt_SH ++ ex ∧ σ2 = σ) 0 0) 0 0 7 [some (dt_R 40), some (dt_I t), some (dt_I w), some (dt_I (((wd.2.take i).foldl (fun a r => a &&& r) 255 : Nat) : Int)), some (dt_I (i : Int))] [] (dt_SH ++ ex) σ := by
    intro fu
    induction fu with
    | zero =>
      intro i hm hi
      exfalso
      omega
    | succ fu ih =>
      intro i hm hi
      refine dt_wfV fun hwf => ?_
      refine dt_iload dX12_common_7 rfl ?_
      refine dt_aloadn dX12_common_9 rfl rfl ?_
      refine dt_iloadn dX12_common_10 rfl rfl ?_
      refine dt_iloadn dX12_common_11 rfl rfl ?_
      refine dt_xV dX12_common_12 pc_X12_197 rfl (s_X12_readings (by first | assumption | exact hwf _ _ | exact dt_b32 _ | omega | exact ⟨by omega, by omega⟩ | decide | exact ⟨by simp (disch := omega) only [dt_up_s, dt_up_k, dt_up_n]; omega, by simp (disch := omega) only [dt_up_s, dt_up_k, dt_up_n]; omega⟩) (by first | assumption | exact hwf _ _ | exact dt_b32 _ | omega | exact ⟨by omega, by omega⟩ | decide | exact ⟨by simp (disch := omega) only [dt_up_s, dt_up_k, dt_up_n]; omega, by simp (disch := omega) only [dt_up_s, dt_up_k, dt_up_n]; omega⟩)) rfl rfl ⟨by decide, by decide⟩ rfl rfl (Nat.le_of_ble_eq_true rfl) ⟨by decide, by decide⟩ (dt_k3 ?_)
      refine dt_cm_ge (tgt := 35) dX12_common_15 (by decide) (by first | assumption | exact hwf _ _ | exact dt_b32 _ | omega | exact ⟨by omega, by omega⟩ | decide | exact ⟨by simp (disch := omega) only [dt_up_s, dt_up_k, dt_up_n]; omega, by simp (disch := omega) only [dt_up_s, dt_up_k, dt_up_n]; omega⟩) (by first | assumption | exact hwf _ _ | exact dt_b32 _ | omega | exact ⟨by omega, by omega⟩ | decide | exact ⟨by simp (disch := omega) only [dt_up_s, dt_up_k, dt_up_n]; omega, by simp (disch := omega) only [dt_up_s, dt_up_k, dt_up_n]; omega⟩) (fun c1 => ?_) (fun c1 => ?_)
      · skip
        refine dt_iloadn dX12_common_35 rfl rfl ?_
        refine dt_iret dX12_common_36 rfl (by decide) (by decide) ?_
        exact ⟨by rw [fl_e (by omega)]; rfl, rfl, rfl⟩
      · skip
        obtain ⟨x, hx⟩ := dt_lg (l := wd.2) (i := i) (by omega)
        refine dt_iloadn dX12_common_18 rfl rfl ?_
        refine dt_aloadn dX12_common_19 rfl rfl ?_
        refine dt_iloadn dX12_common_20 rfl rfl ?_
        refine dt_iloadn dX12_common_21 rfl rfl ?_
        refine dt_iload dX12_common_22 rfl ?_
        refine dt_xV dX12_common_24 pc_X12_200 rfl (s_X12_reading (by first | assumption | exact hwf _ _ | exact dt_b32 _ | omega | exact ⟨by omega, by omega⟩ | decide | exact ⟨by simp (disch := omega) only [dt_up_s, dt_up_k, dt_up_n]; omega, by simp (disch := omega) only [dt_up_s, dt_up_k, dt_up_n]; omega⟩) (by first | assumption | exact hwf _ _ | exact dt_b32 _ | omega | exact ⟨by omega, by omega⟩ | decide | exact ⟨by simp (disch := omega) only [dt_up_s, dt_up_k, dt_up_n]; omega, by simp (disch := omega) only [dt_up_s, dt_up_k, dt_up_n]; omega⟩) hx) rfl rfl ⟨by decide, by decide⟩ rfl rfl (Nat.le_of_ble_eq_true rfl) ⟨by decide, by decide⟩ (dt_k3 ?_)
        refine dt_iand dX12_common_27 ?_
        refine dt_istoren dX12_common_28 rfl (by decide) rfl ?_
        dsimp only [List.set]
        refine dt_iinc dX12_common_29 rfl (by decide) rfl ?_
        dsimp only [List.set]
        refine dt_goto (tgt := 7) dX12_common_32 (by decide) ?_
        exact dt_lb (ih (i + 1) (by omega) (by omega)) ⟨rfl, rfl, rfl, (by rw [dj_and_nn (Nat.lt_of_le_of_lt (xCom_le _ _) (by omega)), fl_s hx]), rfl, trivial⟩
  exact dt_lb (lp7 5 0 (by omega) (by omega)) ⟨rfl, rfl, rfl, rfl, rfl, trivial⟩
theorem s_X12_isWithin {ex : List dt_Shp} {σ : dt_Mem} {X : dX} {t w : Nat} {wd : Nat × List Nat} {m : Nat} (hX : rX σ X) (hw : xW X t w wd) (hmm : m < 256) : dt_Sp mX12_isWithin 1 0 0 [dt_R 40, dt_I (t : Int), dt_I (w : Int), dt_I (m : Int)] (dt_SH ++ ex) σ (fun v sh2 σ2 => v = some (dt_I (dt_b (xWithin wd.2 m))) ∧ sh2 = dt_SH ++ ex ∧ σ2 = σ) := by
  refine dt_Sp_of (by decide) (Nat.le_of_ble_eq_true rfl) ?_
  refine dt_wfV fun hwf => ?_
  obtain ⟨⟨k0, k1, k2, k3⟩, k4, k5, k6⟩ := hX.wd hw
  have k7 := k3.2.2.1
  have k8 := k3.2.2.2.1
  have i0 : ((18 : Int) + 40 * (t : Int) + 5 * (w : Int)).toNat = 18 + 40 * t + 5 * w := by omega
  have i1 : ((18 : Int) + 40 * (t : Int) + 5 * (w : Int) + 1).toNat = 18 + 40 * t + 5 * w + 1 := by omega
  show dt_V _ _ _ 0 0 0 [some (dt_R 40), some (dt_I (t : Int)), some (dt_I (w : Int)), some (dt_I (m : Int)), none, none] [] _ _
  refine dt_iconst dX12_isWithin_0 ?_
  refine dt_istore dX12_isWithin_1 (by decide) rfl ?_
  dsimp only [List.set]
  refine dt_iconst dX12_isWithin_3 ?_
  refine dt_istore dX12_isWithin_4 (by decide) rfl ?_
  dsimp only [List.set]
  have lp6 : ∀ (fu : Nat) (i : Nat), (wd.2.length : Int) - i < (fu : Int) → (i ≤ wd.2.length) →  dt_V mX12_isWithin (dt_rm 1 0 0) (dt_MC (fun v sh2 σ2 => v = some (dt_I (dt_b (xWithin wd.2 m))) ∧ sh2 = dt_SH ++ ex ∧ σ2 = σ) 0 0) 0 0 6 [some (dt_R 40), some (dt_I t), some (dt_I w), some (dt_I (m : Int)), some (dt_I (dt_b (xWithin (wd.2.take i) m))), some (dt_I (i : Int))] [] (dt_SH ++ ex) σ := by
    intro fu
    induction fu with
    | zero =>
      intro i hm hi
      exfalso
      omega
    | succ fu ih =>
      intro i hm hi
      refine dt_wfV fun hwf => ?_
      refine dt_iload dX12_isWithin_6 rfl ?_
      refine dt_aloadn dX12_isWithin_8 rfl rfl ?_
      refine dt_iloadn dX12_isWithin_9 rfl rfl ?_
      refine dt_iloadn dX12_isWithin_10 rfl rfl ?_
      refine dt_xV dX12_isWithin_11 pc_X12_197 rfl (s_X12_readings (by first | assumption | exact hwf _ _ | exact dt_b32 _ | omega | exact ⟨by omega, by omega⟩ | decide | exact ⟨by simp (disch := omega) only [dt_up_s, dt_up_k, dt_up_n]; omega, by simp (disch := omega) only [dt_up_s, dt_up_k, dt_up_n]; omega⟩) (by first | assumption | exact hwf _ _ | exact dt_b32 _ | omega | exact ⟨by omega, by omega⟩ | decide | exact ⟨by simp (disch := omega) only [dt_up_s, dt_up_k, dt_up_n]; omega, by simp (disch := omega) only [dt_up_s, dt_up_k, dt_up_n]; omega⟩)) rfl rfl ⟨by decide, by decide⟩ rfl rfl (Nat.le_of_ble_eq_true rfl) ⟨by decide, by decide⟩ (dt_k3 ?_)
      refine dt_cm_ge (tgt := 50) dX12_isWithin_14 (by decide) (by first | assumption | exact hwf _ _ | exact dt_b32 _ | omega | exact ⟨by omega, by omega⟩ | decide | exact ⟨by simp (disch := omega) only [dt_up_s, dt_up_k, dt_up_n]; omega, by simp (disch := omega) only [dt_up_s, dt_up_k, dt_up_n]; omega⟩) (by first | assumption | exact hwf _ _ | exact dt_b32 _ | omega | exact ⟨by omega, by omega⟩ | decide | exact ⟨by simp (disch := omega) only [dt_up_s, dt_up_k, dt_up_n]; omega, by simp (disch := omega) only [dt_up_s, dt_up_k, dt_up_n]; omega⟩) (fun c1 => ?_) (fun c1 => ?_)
      · skip
        refine dt_iload dX12_isWithin_50 rfl ?_
        refine dt_zret dX12_isWithin_52 rfl (by decide) (by decide) (dt_b01 _) ?_
        exact ⟨by rw [List.take_of_length_le (by omega)], rfl, rfl⟩
      · skip
        obtain ⟨x, hx⟩ := dt_lg (l := wd.2) (i := i) (by omega)
        have hxl := (k6 i x hx).2.2.1
        refine dt_iload dX12_isWithin_17 rfl ?_
        refine dt_if_eq (tgt := 41) dX12_isWithin_19 (by decide) (by first | assumption | exact hwf _ _ | exact dt_b32 _ | omega | exact ⟨by omega, by omega⟩ | decide | exact ⟨by simp (disch := omega) only [dt_up_s, dt_up_k, dt_up_n]; omega, by simp (disch := omega) only [dt_up_s, dt_up_k, dt_up_n]; omega⟩) (fun c2 => ?_) (fun c2 => ?_)
        · skip
          try simp only [dt_b0, dt_b1, Decidable.not_not, Classical.not_not] at c2
          refine dt_iconst dX12_isWithin_41 ?_
          refine dt_istore dX12_isWithin_42 (by decide) rfl ?_
          dsimp only [List.set]
          refine dt_iinc dX12_isWithin_44 rfl (by decide) rfl ?_
          dsimp only [List.set]
          refine dt_goto (tgt := 6) dX12_isWithin_47 (by decide) ?_
          exact dt_lb (ih (i + 1) (by omega) (by omega)) ⟨rfl, rfl, rfl, rfl, (by first | rw [dt_bT ((xWithin_t hx).mpr ⟨c2, (dj_nsub hxl hmm).mp c3⟩)] | rw [dt_bF (fun q => c3 ((dj_nsub hxl hmm).mpr ((xWithin_t hx).mp q).2))] | rw [dt_bF (fun q => c2 ((xWithin_t hx).mp q).1)]), rfl, trivial⟩
        · skip
          try simp only [dt_b0, dt_b1, Decidable.not_not, Classical.not_not] at c2
          refine dt_aloadn dX12_isWithin_22 rfl rfl ?_
          refine dt_iloadn dX12_isWithin_23 rfl rfl ?_
          refine dt_iloadn dX12_isWithin_24 rfl rfl ?_
          refine dt_iload dX12_isWithin_25 rfl ?_
          refine dt_xV dX12_isWithin_27 pc_X12_200 rfl (s_X12_reading (by first | assumption | exact hwf _ _ | exact dt_b32 _ | omega | exact ⟨by omega, by omega⟩ | decide | exact ⟨by simp (disch := omega) only [dt_up_s, dt_up_k, dt_up_n]; omega, by simp (disch := omega) only [dt_up_s, dt_up_k, dt_up_n]; omega⟩) (by first | assumption | exact hwf _ _ | exact dt_b32 _ | omega | exact ⟨by omega, by omega⟩ | decide | exact ⟨by simp (disch := omega) only [dt_up_s, dt_up_k, dt_up_n]; omega, by simp (disch := omega) only [dt_up_s, dt_up_k, dt_up_n]; omega⟩) hx) rfl rfl ⟨by decide, by decide⟩ rfl rfl (Nat.le_of_ble_eq_true rfl) ⟨by decide, by decide⟩ (dt_k3 ?_)
          refine dt_iloadn dX12_isWithin_30 rfl rfl ?_
          refine dt_iconst dX12_isWithin_31 ?_
          refine dt_ixor dX12_isWithin_32 ?_
          refine dt_iand dX12_isWithin_33 ?_
          refine dt_if_ne (tgt := 41) dX12_isWithin_34 (by decide) ⟨Int32.le_toInt _, Int32.toInt_lt _⟩ (fun c3 => ?_) (fun c3 => ?_)
          · skip
            refine dt_iconst dX12_isWithin_41 ?_
            refine dt_istore dX12_isWithin_42 (by decide) rfl ?_
            dsimp only [List.set]
            refine dt_iinc dX12_isWithin_44 rfl (by decide) rfl ?_
            dsimp only [List.set]
            refine dt_goto (tgt := 6) dX12_isWithin_47 (by decide) ?_
            exact dt_lb (ih (i + 1) (by omega) (by omega)) ⟨rfl, rfl, rfl, rfl, (by first | rw [dt_bT ((xWithin_t hx).mpr ⟨c2, (dj_nsub hxl hmm).mp c3⟩)] | rw [dt_bF (fun q => c3 ((dj_nsub hxl hmm).mpr ((xWithin_t hx).mp q).2))] | rw [dt_bF (fun q => c2 ((xWithin_t hx).mp q).1)]), rfl, trivial⟩
          · skip
            refine dt_iconst dX12_isWithin_37 ?_
            refine dt_goto (tgt := 42) dX12_isWithin_38 (by decide) ?_
            refine dt_istore dX12_isWithin_42 (by decide) rfl ?_
            dsimp only [List.set]
            refine dt_iinc dX12_isWithin_44 rfl (by decide) rfl ?_
            dsimp only [List.set]
            refine dt_goto (tgt := 6) dX12_isWithin_47 (by decide) ?_
            exact dt_lb (ih (i + 1) (by omega) (by omega)) ⟨rfl, rfl, rfl, rfl, (by first | rw [dt_bT ((xWithin_t hx).mpr ⟨c2, (dj_nsub hxl hmm).mp c3⟩)] | rw [dt_bF (fun q => c3 ((dj_nsub hxl hmm).mpr ((xWithin_t hx).mp q).2))] | rw [dt_bF (fun q => c2 ((xWithin_t hx).mp q).1)]), rfl, trivial⟩
  exact dt_lb (lp6 5 0 (by omega) (by omega)) ⟨rfl, rfl, rfl, rfl, (by rw [dt_bT (show xWithin _ m from fun r hr => by simp at hr)]), rfl, trivial⟩
theorem s_X12_kind {ex : List dt_Shp} {σ : dt_Mem} {A : dS} {t w : Int} (hI : rInv σ A) (h_t : dt_in32 t) (h_w : dt_in32 w) (hok : dX_ok (sN A)) : dt_Sp mX12_kind 3 0 0 [dt_R 40, dt_I t, dt_I w] (dt_SH ++ ex) σ (fun v sh2 σ2 => v = some (dt_I (oKind A t w).1) ∧ sh2 = dt_SH ++ ex ∧ rEnd σ σ2 (oKind A t w).2) := by
  refine dt_Sp_of (by decide) (Nat.le_of_ble_eq_true rfl) ?_
  refine dt_wfV fun hwf => ?_
  show dt_V _ _ _ 0 0 0 [some (dt_R 40), some (dt_I t), some (dt_I w)] [] _ _
  refine dt_aloadn dX12_kind_0 rfl rfl ?_
  refine dt_iconst dX12_kind_1 ?_
  refine dt_wfV fun hwf => ?_
  refine dt_putI dX12_kind_2 pw_X12_53_12 rfl rfl (by first | assumption | exact hwf _ _ | exact dt_b32 _ | omega | exact ⟨by omega, by omega⟩ | decide | exact ⟨by simp (disch := omega) only [dt_up_s, dt_up_k, dt_up_n]; omega, by simp (disch := omega) only [dt_up_s, dt_up_k, dt_up_n]; omega⟩) ?_
  obtain ⟨σa, ea⟩ : ∃ z, z = dt_up σ 40 0 0 := ⟨_, rfl⟩
  rw [← ea]
  have hA := hI.up40 0 0 (by decide)
  rw [← ea] at hA
  have fa : ∀ b, (b < 40 ∨ 55 ≤ b) → σa b = σ b := fun b hb => by rw [ea]; exact dt_up_o (by omega)
  clear ea
  refine dt_wfV fun hwf => ?_
  have hX := hA.X hok
  have e0 := hX.t
  have e1 := hX.p
  have e2 := hX.2.1
  have e3 := hX.2.2.2.1
  refine dt_aloadn dX12_kind_5 rfl rfl ?_
  refine dt_iloadn dX12_kind_6 rfl rfl ?_
  refine dt_iloadn dX12_kind_7 rfl rfl ?_
  refine dt_xV dX12_kind_8 pc_X12_212 rfl (s_X12_isWord hX (by first | assumption | exact hwf _ _ | exact dt_b32 _ | omega | exact ⟨by omega, by omega⟩ | decide | exact ⟨by simp (disch := omega) only [dt_up_s, dt_up_k, dt_up_n]; omega, by simp (disch := omega) only [dt_up_s, dt_up_k, dt_up_n]; omega⟩) (by first | assumption | exact hwf _ _ | exact dt_b32 _ | omega | exact ⟨by omega, by omega⟩ | decide | exact ⟨by simp (disch := omega) only [dt_up_s, dt_up_k, dt_up_n]; omega, by simp (disch := omega) only [dt_up_s, dt_up_k, dt_up_n]; omega⟩)) rfl rfl ⟨by decide, by decide⟩ rfl rfl (Nat.le_of_ble_eq_true rfl) ⟨by decide, by decide⟩ (dt_k3 ?_)
  refine dt_if_eq (tgt := 23) dX12_kind_11 (by decide) (by first | assumption | exact hwf _ _ | exact dt_b32 _ | omega | exact ⟨by omega, by omega⟩ | decide | exact ⟨by simp (disch := omega) only [dt_up_s, dt_up_k, dt_up_n]; omega, by simp (disch := omega) only [dt_up_s, dt_up_k, dt_up_n]; omega⟩) (fun c1 => ?_) (fun c1 => ?_)
  · skip
    try simp only [dt_b0, dt_b1, Decidable.not_not, Classical.not_not] at c1
    have hat := c1
    refine dt_ldc dX12_kind_23 pk_X12_73 ?_
    refine dt_iret dX12_kind_25 rfl (by decide) (by decide) ?_
    refine ⟨?_, rfl, hA, fa⟩
    unfold oKind
    first
    | (simp only [hat]; done)
  · skip
    try simp only [dt_b0, dt_b1, Decidable.not_not, Classical.not_not] at c1
    obtain ⟨t, w, wd, rfl, rfl, hw⟩ := xAt_ne c1
    obtain ⟨⟨k0, k1, k2, k3⟩, k4, k5, k6⟩ := hX.wd hw
    have hat := xAt_of hw
    have k7 := k3.2.2.1
    have k8 := k3.2.2.2.1
    refine dt_aloadn dX12_kind_14 rfl rfl ?_
    refine dt_iloadn dX12_kind_15 rfl rfl ?_
    refine dt_iloadn dX12_kind_16 rfl rfl ?_
    refine dt_xV dX12_kind_17 pc_X12_300 rfl (s_X12_kindOf hX hw) rfl rfl ⟨by decide, by decide⟩ rfl rfl (Nat.le_of_ble_eq_true rfl) ⟨by decide, by decide⟩ (dt_k3 ?_)
    refine dt_goto (tgt := 25) dX12_kind_20 (by decide) ?_
    refine dt_iret dX12_kind_25 rfl (by decide) (by decide) ?_
    refine ⟨?_, rfl, hA, fa⟩
    unfold oKind
    first
    | (simp only [hat]; done)
theorem s_X12_words {ex : List dt_Shp} {σ : dt_Mem} {A : dS} {t : Int} (hI : rInv σ A) (h_t : dt_in32 t) (hok : dX_ok (sN A)) : dt_Sp mX12_words 2 0 0 [dt_R 40, dt_I t] (dt_SH ++ ex) σ (fun v sh2 σ2 => v = some (dt_I (oWords A t).1) ∧ sh2 = dt_SH ++ ex ∧ rEnd σ σ2 (oWords A t).2) := by
  refine dt_Sp_of (by decide) (Nat.le_of_ble_eq_true rfl) ?_
  refine dt_wfV fun hwf => ?_
  show dt_V _ _ _ 0 0 0 [some (dt_R 40), some (dt_I t)] [] _ _
  refine dt_aloadn dX12_words_0 rfl rfl ?_
  refine dt_iconst dX12_words_1 ?_
  refine dt_wfV fun hwf => ?_
  refine dt_putI dX12_words_2 pw_X12_53_12 rfl rfl (by first | assumption | exact hwf _ _ | exact dt_b32 _ | omega | exact ⟨by omega, by omega⟩ | decide | exact ⟨by simp (disch := omega) only [dt_up_s, dt_up_k, dt_up_n]; omega, by simp (disch := omega) only [dt_up_s, dt_up_k, dt_up_n]; omega⟩) ?_
  obtain ⟨σa, ea⟩ : ∃ z, z = dt_up σ 40 0 0 := ⟨_, rfl⟩
  rw [← ea]
  have hA := hI.up40 0 0 (by decide)
  rw [← ea] at hA
  have fa : ∀ b, (b < 40 ∨ 55 ≤ b) → σa b = σ b := fun b hb => by rw [ea]; exact dt_up_o (by omega)
  clear ea
  refine dt_wfV fun hwf => ?_
  have hX := hA.X hok
  have e0 := hX.t
  have e1 := hX.p
  have e2 := hX.2.1
  have e3 := hX.2.2.2.1
  refine dt_aloadn dX12_words_5 rfl rfl ?_
  refine dt_iloadn dX12_words_6 rfl rfl ?_
  refine dt_xV dX12_words_7 pc_X12_183 rfl (s_X12_isTongue hX (by first | assumption | exact hwf _ _ | exact dt_b32 _ | omega | exact ⟨by omega, by omega⟩ | decide | exact ⟨by simp (disch := omega) only [dt_up_s, dt_up_k, dt_up_n]; omega, by simp (disch := omega) only [dt_up_s, dt_up_k, dt_up_n]; omega⟩)) rfl rfl ⟨by decide, by decide⟩ rfl rfl (Nat.le_of_ble_eq_true rfl) ⟨by decide, by decide⟩ (dt_k3 ?_)
  refine dt_if_eq (tgt := 24) dX12_words_10 (by decide) (by first | assumption | exact hwf _ _ | exact dt_b32 _ | omega | exact ⟨by omega, by omega⟩ | decide | exact ⟨by simp (disch := omega) only [dt_up_s, dt_up_k, dt_up_n]; omega, by simp (disch := omega) only [dt_up_s, dt_up_k, dt_up_n]; omega⟩) (fun c1 => ?_) (fun c1 => ?_)
  · skip
    try simp only [dt_b0, dt_b1, Decidable.not_not, Classical.not_not] at c1
    refine dt_ldc dX12_words_24 pk_X12_73 ?_
    refine dt_iret dX12_words_26 rfl (by decide) (by decide) ?_
    refine ⟨?_, rfl, hA, fa⟩
    unfold oWords
    first
    | (rw [if_pos (by omega), Int.toNat_natCast, dt_gd ht, e7, f1]; done)
    | (rw [if_neg (by omega)]; done)
  · skip
    try simp only [dt_b0, dt_b1, Decidable.not_not, Classical.not_not] at c1
    obtain ⟨t, rfl⟩ : ∃ z : Nat, t = z := ⟨t.toNat, by omega⟩
    obtain ⟨tg, ht⟩ := dt_lg (l := (sN A).1) (i := t) (by omega)
    obtain ⟨f1, f2, f3, f4, f5⟩ := hX.tg ht
    have e7 : ((3 : Int) + (t : Int)).toNat = 3 + t := by omega
    refine dt_aloadn dX12_words_13 rfl rfl ?_
    refine dt_getR dX12_words_14 pg_X12_19_12 rfl rfl ?_
    refine dt_iconst dX12_words_17 ?_
    refine dt_iloadn dX12_words_18 rfl rfl ?_
    refine dt_iadd dX12_words_19 ?_
    refine dt_iald dX12_words_20 rfl (by first | omega | (simp (disch := omega) only [dt_up_s, dt_up_k, dt_up_n]; omega)) (by first | omega | (simp (disch := omega) only [dt_up_s, dt_up_k, dt_up_n]; omega)) (by decide) ?_
    refine dt_goto (tgt := 26) dX12_words_21 (by decide) ?_
    refine dt_iret dX12_words_26 rfl (by decide) (by decide) ?_
    refine ⟨?_, rfl, hA, fa⟩
    unfold oWords
    first
    | (rw [if_pos (by omega), Int.toNat_natCast, dt_gd ht, e7, f1]; done)
    | (rw [if_neg (by omega)]; done)
theorem s_X12_knows {ex : List dt_Shp} {σ : dt_Mem} {A : dS} {t : Int} (hI : rInv σ A) (h_t : dt_in32 t) (hok : dX_ok (sN A)) : dt_Sp mX12_knows 2 0 0 [dt_R 40, dt_I t] (dt_SH ++ ex) σ (fun v sh2 σ2 => v = some (dt_I (oKnows A t).1) ∧ sh2 = dt_SH ++ ex ∧ rEnd σ σ2 (oKnows A t).2) := by
  refine dt_Sp_of (by decide) (Nat.le_of_ble_eq_true rfl) ?_
  refine dt_wfV fun hwf => ?_
  show dt_V _ _ _ 0 0 0 [some (dt_R 40), some (dt_I t)] [] _ _
  refine dt_aloadn dX12_knows_0 rfl rfl ?_
  refine dt_iconst dX12_knows_1 ?_
  refine dt_wfV fun hwf => ?_
  refine dt_putI dX12_knows_2 pw_X12_53_12 rfl rfl (by first | assumption | exact hwf _ _ | exact dt_b32 _ | omega | exact ⟨by omega, by omega⟩ | decide | exact ⟨by simp (disch := omega) only [dt_up_s, dt_up_k, dt_up_n]; omega, by simp (disch := omega) only [dt_up_s, dt_up_k, dt_up_n]; omega⟩) ?_
  obtain ⟨σa, ea⟩ : ∃ z, z = dt_up σ 40 0 0 := ⟨_, rfl⟩
  rw [← ea]
  have hA := hI.up40 0 0 (by decide)
  rw [← ea] at hA
  have fa : ∀ b, (b < 40 ∨ 55 ≤ b) → σa b = σ b := fun b hb => by rw [ea]; exact dt_up_o (by omega)
  clear ea
  refine dt_wfV fun hwf => ?_
  have hX := hA.X hok
  have e0 := hX.t
  have e1 := hX.p
  have e2 := hX.2.1
  have e3 := hX.2.2.2.1
  refine dt_aloadn dX12_knows_5 rfl rfl ?_
  refine dt_iloadn dX12_knows_6 rfl rfl ?_
  refine dt_xV dX12_knows_7 pc_X12_218 rfl (s_X12_isOne hX (by first | assumption | exact hwf _ _ | exact dt_b32 _ | omega | exact ⟨by omega, by omega⟩ | decide | exact ⟨by simp (disch := omega) only [dt_up_s, dt_up_k, dt_up_n]; omega, by simp (disch := omega) only [dt_up_s, dt_up_k, dt_up_n]; omega⟩)) rfl rfl ⟨by decide, by decide⟩ rfl rfl (Nat.le_of_ble_eq_true rfl) ⟨by decide, by decide⟩ (dt_k3 ?_)
  refine dt_if_eq (tgt := 25) dX12_knows_10 (by decide) (by first | assumption | exact hwf _ _ | exact dt_b32 _ | omega | exact ⟨by omega, by omega⟩ | decide | exact ⟨by simp (disch := omega) only [dt_up_s, dt_up_k, dt_up_n]; omega, by simp (disch := omega) only [dt_up_s, dt_up_k, dt_up_n]; omega⟩) (fun c1 => ?_) (fun c1 => ?_)
  · skip
    try simp only [dt_b0, dt_b1, Decidable.not_not, Classical.not_not] at c1
    refine dt_ldc dX12_knows_25 pk_X12_73 ?_
    refine dt_iret dX12_knows_27 rfl (by decide) (by decide) ?_
    refine ⟨?_, rfl, hA, fa⟩
    unfold oKnows
    first
    | (rw [if_pos (by omega), Int.toNat_natCast, dt_gd ht, e7, f1]; done)
    | (rw [if_neg (by omega)]; done)
  · skip
    try simp only [dt_b0, dt_b1, Decidable.not_not, Classical.not_not] at c1
    obtain ⟨t, rfl⟩ : ∃ z : Nat, t = z := ⟨t.toNat, by omega⟩
    obtain ⟨k, ht⟩ := dt_lg (l := (sN A).2.1) (i := t) (by omega)
    have f1 := hX.1.2.2.2.2 t k ht
    rw [Nat.zero_add] at f1
    have e7 : ((10 : Int) + (t : Int)).toNat = 10 + t := by omega
    refine dt_aloadn dX12_knows_13 rfl rfl ?_
    refine dt_getR dX12_knows_14 pg_X12_19_12 rfl rfl ?_
    refine dt_bipush dX12_knows_17 (by decide) ?_
    refine dt_iloadn dX12_knows_19 rfl rfl ?_
    refine dt_iadd dX12_knows_20 ?_
    refine dt_iald dX12_knows_21 rfl (by first | omega | (simp (disch := omega) only [dt_up_s, dt_up_k, dt_up_n]; omega)) (by first | omega | (simp (disch := omega) only [dt_up_s, dt_up_k, dt_up_n]; omega)) (by decide) ?_
    refine dt_goto (tgt := 27) dX12_knows_22 (by decide) ?_
    refine dt_iret dX12_knows_27 rfl (by decide) (by decide) ?_
    refine ⟨?_, rfl, hA, fa⟩
    unfold oKnows
    first
    | (rw [if_pos (by omega), Int.toNat_natCast, dt_gd ht, e7, f1]; done)
    | (rw [if_neg (by omega)]; done)
theorem s_X12_word {ex : List dt_Shp} {σ : dt_Mem} {A : dS} {t w what : Int} (hI : rInv σ A) (h_t : dt_in32 t) (h_w : dt_in32 w) (h_what : dt_in32 what) (hok : dX_ok (sN A)) : dt_Sp mX12_word 3 0 0 [dt_R 40, dt_I t, dt_I w, dt_I what] (dt_SH ++ ex) σ (fun v sh2 σ2 => v = some (dt_I (oWord A t w what).1) ∧ sh2 = dt_SH ++ ex ∧ rEnd σ σ2 (oWord A t w what).2) := by
  refine dt_Sp_of (by decide) (Nat.le_of_ble_eq_true rfl) ?_
  refine dt_wfV fun hwf => ?_
  show dt_V _ _ _ 0 0 0 [some (dt_R 40), some (dt_I t), some (dt_I w), some (dt_I what)] [] _ _
  refine dt_aloadn dX12_word_0 rfl rfl ?_
  refine dt_iconst dX12_word_1 ?_
  refine dt_wfV fun hwf => ?_
  refine dt_putI dX12_word_2 pw_X12_53_12 rfl rfl (by first | assumption | exact hwf _ _ | exact dt_b32 _ | omega | exact ⟨by omega, by omega⟩ | decide | exact ⟨by simp (disch := omega) only [dt_up_s, dt_up_k, dt_up_n]; omega, by simp (disch := omega) only [dt_up_s, dt_up_k, dt_up_n]; omega⟩) ?_
  obtain ⟨σa, ea⟩ : ∃ z, z = dt_up σ 40 0 0 := ⟨_, rfl⟩
  rw [← ea]
  have hA := hI.up40 0 0 (by decide)
  rw [← ea] at hA
  have fa : ∀ b, (b < 40 ∨ 55 ≤ b) → σa b = σ b := fun b hb => by rw [ea]; exact dt_up_o (by omega)
  clear ea
  refine dt_wfV fun hwf => ?_
  have hX := hA.X hok
  have e0 := hX.t
  have e1 := hX.p
  have e2 := hX.2.1
  have e3 := hX.2.2.2.1
  refine dt_aloadn dX12_word_5 rfl rfl ?_
  refine dt_iloadn dX12_word_6 rfl rfl ?_
  refine dt_iloadn dX12_word_7 rfl rfl ?_
  refine dt_xV dX12_word_8 pc_X12_212 rfl (s_X12_isWord hX (by first | assumption | exact hwf _ _ | exact dt_b32 _ | omega | exact ⟨by omega, by omega⟩ | decide | exact ⟨by simp (disch := omega) only [dt_up_s, dt_up_k, dt_up_n]; omega, by simp (disch := omega) only [dt_up_s, dt_up_k, dt_up_n]; omega⟩) (by first | assumption | exact hwf _ _ | exact dt_b32 _ | omega | exact ⟨by omega, by omega⟩ | decide | exact ⟨by simp (disch := omega) only [dt_up_s, dt_up_k, dt_up_n]; omega, by simp (disch := omega) only [dt_up_s, dt_up_k, dt_up_n]; omega⟩)) rfl rfl ⟨by decide, by decide⟩ rfl rfl (Nat.le_of_ble_eq_true rfl) ⟨by decide, by decide⟩ (dt_k3 ?_)
  refine dt_if_eq (tgt := 26) dX12_word_11 (by decide) (by first | assumption | exact hwf _ _ | exact dt_b32 _ | omega | exact ⟨by omega, by omega⟩ | decide | exact ⟨by simp (disch := omega) only [dt_up_s, dt_up_k, dt_up_n]; omega, by simp (disch := omega) only [dt_up_s, dt_up_k, dt_up_n]; omega⟩) (fun c1 => ?_) (fun c1 => ?_)
  · skip
    try simp only [dt_b0, dt_b1, Decidable.not_not, Classical.not_not] at c1
    have hat := c1
    refine dt_ldc dX12_word_26 pk_X12_73 ?_
    refine dt_iret dX12_word_28 rfl (by decide) (by decide) ?_
    refine ⟨?_, rfl, hA, fa⟩
    unfold oWord
    first
    | (simp only [hat]; rw [if_neg (by omega)]; done)
    | (simp only [hat]; done)
  · skip
    try simp only [dt_b0, dt_b1, Decidable.not_not, Classical.not_not] at c1
    obtain ⟨t, w, wd, rfl, rfl, hw⟩ := xAt_ne c1
    obtain ⟨⟨k0, k1, k2, k3⟩, k4, k5, k6⟩ := hX.wd hw
    have hat := xAt_of hw
    have k7 := k3.2.2.1
    have k8 := k3.2.2.2.1
    refine dt_iloadn dX12_word_14 rfl rfl ?_
    refine dt_ui2l dX12_word_15 (by first | assumption | exact hwf _ _ | exact dt_b32 _ | omega | exact ⟨by omega, by omega⟩ | decide | exact ⟨by simp (disch := omega) only [dt_up_s, dt_up_k, dt_up_n]; omega, by simp (disch := omega) only [dt_up_s, dt_up_k, dt_up_n]; omega⟩) ?_
    refine dt_lconst (x := 0) dX12_word_16 (by decide) ?_
    refine dt_ldc2 dX12_word_17 pk_X12_216 ?_
    refine dt_xS dX12_word_20 pc_X12_63 (s_X12_in (by first | exact ⟨by omega, by omega⟩ | decide) (by first | exact ⟨by omega, by omega⟩ | decide) (by first | exact ⟨by omega, by omega⟩ | decide)) rfl rfl ⟨by decide, by decide⟩ (Nat.le_of_ble_eq_true rfl) ⟨by decide, by decide⟩ (dt_k3 ?_)
    refine dt_if_ne (tgt := 29) dX12_word_23 (by decide) (by first | assumption | exact hwf _ _ | exact dt_b32 _ | omega | exact ⟨by omega, by omega⟩ | decide | exact ⟨by simp (disch := omega) only [dt_up_s, dt_up_k, dt_up_n]; omega, by simp (disch := omega) only [dt_up_s, dt_up_k, dt_up_n]; omega⟩) (fun c2 => ?_) (fun c2 => ?_)
    · skip
      try simp only [dt_b0, dt_b1, Decidable.not_not, Classical.not_not] at c2
      refine dt_iloadn dX12_word_29 rfl rfl ?_
      refine dt_if_ne (tgt := 42) dX12_word_30 (by decide) (by first | assumption | exact hwf _ _ | exact dt_b32 _ | omega | exact ⟨by omega, by omega⟩ | decide | exact ⟨by simp (disch := omega) only [dt_up_s, dt_up_k, dt_up_n]; omega, by simp (disch := omega) only [dt_up_s, dt_up_k, dt_up_n]; omega⟩) (fun c3 => ?_) (fun c3 => ?_)
      · skip
        refine dt_iloadn dX12_word_42 rfl rfl ?_
        refine dt_aloadn dX12_word_43 rfl rfl ?_
        refine dt_iloadn dX12_word_44 rfl rfl ?_
        refine dt_iloadn dX12_word_45 rfl rfl ?_
        refine dt_xV dX12_word_46 pc_X12_197 rfl (s_X12_readings hX hw) rfl rfl ⟨by decide, by decide⟩ rfl rfl (Nat.le_of_ble_eq_true rfl) ⟨by decide, by decide⟩ (dt_k3 ?_)
        refine dt_cm_gt (tgt := 64) dX12_word_49 (by decide) (by first | assumption | exact hwf _ _ | exact dt_b32 _ | omega | exact ⟨by omega, by omega⟩ | decide | exact ⟨by simp (disch := omega) only [dt_up_s, dt_up_k, dt_up_n]; omega, by simp (disch := omega) only [dt_up_s, dt_up_k, dt_up_n]; omega⟩) (by first | assumption | exact hwf _ _ | exact dt_b32 _ | omega | exact ⟨by omega, by omega⟩ | decide | exact ⟨by simp (disch := omega) only [dt_up_s, dt_up_k, dt_up_n]; omega, by simp (disch := omega) only [dt_up_s, dt_up_k, dt_up_n]; omega⟩) (fun c4 => ?_) (fun c4 => ?_)
        · skip
          refine dt_ldc dX12_word_64 pk_X12_89 ?_
          refine dt_iret dX12_word_66 rfl (by decide) (by decide) ?_
          refine ⟨?_, rfl, hA, fa⟩
          unfold oWord
          first
          | (simp only [hat]; rw [if_pos (by omega), if_pos (by omega)]; done)
          | (simp only [hat]; rw [if_pos (by omega), if_neg (by omega), if_pos (by omega), hq, Int.toNat_natCast, dt_gd hr]; done)
          | (simp only [hat]; rw [if_pos (by omega), if_neg (by omega), if_neg (by omega)]; done)
        · skip
          refine dt_aloadn dX12_word_52 rfl rfl ?_
          refine dt_iloadn dX12_word_53 rfl rfl ?_
          refine dt_iloadn dX12_word_54 rfl rfl ?_
          refine dt_iloadn dX12_word_55 rfl rfl ?_
          refine dt_iconst dX12_word_56 ?_
          refine dt_isub dX12_word_57 ?_
          obtain ⟨q, hq⟩ : ∃ q : Nat, what - 1 = q := ⟨(what - 1).toNat, by omega⟩
          rw [hq]
          obtain ⟨r, hr⟩ := dt_lg (l := wd.2) (i := q) (by omega)
          refine dt_xV dX12_word_58 pc_X12_200 rfl (s_X12_reading hX hw hr) rfl rfl ⟨by decide, by decide⟩ rfl rfl (Nat.le_of_ble_eq_true rfl) ⟨by decide, by decide⟩ (dt_k3 ?_)
          refine dt_goto (tgt := 66) dX12_word_61 (by decide) ?_
          refine dt_iret dX12_word_66 rfl (by decide) (by decide) ?_
          refine ⟨?_, rfl, hA, fa⟩
          unfold oWord
          first
          | (simp only [hat]; rw [if_pos (by omega), if_pos (by omega)]; done)
          | (simp only [hat]; rw [if_pos (by omega), if_neg (by omega), if_pos (by omega), hq, Int.toNat_natCast, dt_gd hr]; done)
          | (simp only [hat]; rw [if_pos (by omega), if_neg (by omega), if_neg (by omega)]; done)
      · skip
        refine dt_aloadn dX12_word_33 rfl rfl ?_
        refine dt_iloadn dX12_word_34 rfl rfl ?_
        refine dt_iloadn dX12_word_35 rfl rfl ?_
        refine dt_xV dX12_word_36 pc_X12_197 rfl (s_X12_readings hX hw) rfl rfl ⟨by decide, by decide⟩ rfl rfl (Nat.le_of_ble_eq_true rfl) ⟨by decide, by decide⟩ (dt_k3 ?_)
        refine dt_goto (tgt := 66) dX12_word_39 (by decide) ?_
        refine dt_iret dX12_word_66 rfl (by decide) (by decide) ?_
        refine ⟨?_, rfl, hA, fa⟩
        unfold oWord
        first
        | (simp only [hat]; rw [if_pos (by omega), if_pos (by omega)]; done)
        | (simp only [hat]; rw [if_pos (by omega), if_neg (by omega), if_pos (by omega), hq, Int.toNat_natCast, dt_gd hr]; done)
        | (simp only [hat]; rw [if_pos (by omega), if_neg (by omega), if_neg (by omega)]; done)
    · skip
      try simp only [dt_b0, dt_b1, Decidable.not_not, Classical.not_not] at c2
      refine dt_ldc dX12_word_26 pk_X12_73 ?_
      refine dt_iret dX12_word_28 rfl (by decide) (by decide) ?_
      refine ⟨?_, rfl, hA, fa⟩
      unfold oWord
      first
      | (simp only [hat]; rw [if_neg (by omega)]; done)
      | (simp only [hat]; done)
theorem rRows.many {σ : dt_Mem} {R : dR} (h : rRows σ R) {r : Nat} (hr : r < 8) : (σ 41 r < 0 ↔ R r = none) := by
  have q := h r hr
  constructor
  · intro g
    cases e : R r with
    | none => rfl
    | some o => rw [e] at q; have := q.1; omega
  · intro g
    rw [g] at q
    have : σ 41 r = -1 := q
    omega
