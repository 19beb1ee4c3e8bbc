
/-! the reference's bargain: how far its row is read, what bars it -/
def rBr (σ : dt_Mem) (q2 : List Int) (st0 : Int) (s : xE (List Int)) : Prop := match s with
  | .ok l => σ 40 25 = 0 ∧ σ 40 1 = st0 ∧ ∃ c : Nat, c ≤ q2.length ∧ σ 40 24 = c ∧ l = q2.drop c
  | .error e => σ 40 25 = e ∧ ((e = -1000001 ∧ σ 40 1 = st0) ∨ (e = -1000012 ∧ σ 40 1 = 2))
theorem rBr.kept {σ σ' : dt_Mem} {q2 : List Int} {st0 : Int} {s : xE (List Int)} (h : rBr σ q2 st0 s) (e : σ' 40 = σ 40) : rBr σ' q2 st0 s := by
  unfold rBr
  rw [e]
  exact h
theorem rBr.c {σ : dt_Mem} {q2 : List Int} {st0 : Int} {s : xE (List Int)} (h : rBr σ q2 st0 s) : (∃ l, s = .ok l ∧ σ 40 25 = 0 ∧ σ 40 1 = st0 ∧ ∃ c : Nat, c ≤ q2.length ∧ σ 40 24 = c ∧ l = q2.drop c) ∨ ∃ e, s = .error e ∧ σ 40 25 = e ∧ e < 0 ∧ ((e = -1000001 ∧ σ 40 1 = st0) ∨ (e = -1000012 ∧ σ 40 1 = 2)) := by
  cases s with
  | ok l => exact Or.inl ⟨l, rfl, h⟩
  | error e =>
    obtain ⟨h1, h2⟩ := h
    exact Or.inr ⟨e, rfl, h1, by omega, h2⟩
def nxV (s : xE (List Int)) : Int := match s with
  | .ok (x :: _) => x
  | _ => 0
def nxS (s : xE (List Int)) : xE (List Int) := match s with
  | .ok (_ :: l) => .ok l
  | .ok [] => .error (-1000012)
  | .error e => .error e
def bsS (b : Int) (s : xE (List Int)) : xE (List Int) := match s with
  | .ok l => if b = 1 then .error (-1000001) else .ok l
  | .error e => .error e
def x1S (r : xE ((Nat → Prop) × List Int)) : xE (List Int) := match r with
  | .ok p => .ok p.2
  | .error e => .error e
theorem one_hd {X : dX} {l : List Int} {day n b b2 : Int} (hday : day = nxV (.ok l)) (hn : n = nxV (bsS b (nxS (.ok l)))) (hb : (b = 1 ∧ day < 0) ∨ (b = 0 ∧ ¬ day < 0)) (hb2 : (b2 = 1 ∧ ¬ (0 ≤ n ∧ n ≤ 6)) ∨ (b2 = 0 ∧ (0 ≤ n ∧ n ≤ 6))) : (∃ e, bsS b2 (nxS (bsS b (nxS (.ok l)))) = .error e ∧ xOne X l = .error e) ∨ (∃ l2, bsS b2 (nxS (bsS b (nxS (.ok l)))) = .ok l2 ∧ l = day :: n :: l2 ∧ ¬ day < 0 ∧ 0 ≤ n ∧ n ≤ 6) := by
  match l with
  | [] => exact Or.inl ⟨-1000012, rfl, rfl⟩
  | [d] =>
    obtain rfl : day = d := hday
    rcases hb with ⟨rfl, h⟩ | ⟨rfl, h⟩
    · exact Or.inl ⟨-1000001, rfl, xOne_d h⟩
    · exact Or.inl ⟨-1000012, rfl, xOne_1 h⟩
  | d :: m :: l2 =>
    obtain rfl : day = d := hday
    rcases hb with ⟨rfl, h⟩ | ⟨rfl, h⟩
    · exact Or.inl ⟨-1000001, rfl, xOne_d h⟩
    · obtain rfl : n = m := hn
      rcases hb2 with ⟨rfl, g⟩ | ⟨rfl, g⟩
      · exact Or.inl ⟨-1000001, rfl, xOne_n h g⟩
      · exact Or.inr ⟨l2, rfl, rfl, h, g⟩
theorem rInv.sy2 {σ σ' : dt_Mem} {A : dS} {x : Int} (h : rInv σ A) (e1 : σ' 40 1 = x) (e40 : ∀ k, k = 7 ∨ k = 9 ∨ k = 10 ∨ k = 29 → σ' 40 k = σ 40 k) (e : ∀ b, 41 ≤ b → (b < 47 ∨ 51 < b) → b < 55 → σ' b = σ b) : rInv σ' (sSt A x) := by
  obtain ⟨h1, h2, h3, h4, h5, h6, h7, h8⟩ := h
  refine ⟨h1.kept (e 41 (by omega) (by omega) (by omega)) (e 42 (by omega) (by omega) (by omega)) (e 43 (by omega) (by omega) (by omega)), ⟨by rw [e40 9 (by decide)]; exact h2.1, by rw [e 46 (by omega) (by omega) (by omega)]; exact h2.2⟩, ⟨h3.1.kept (e 44 (by omega) (by omega) (by omega)), by rw [e40 7 (by decide)]; exact h3.2⟩, ⟨fun g => (h4.1 g).kept (e 53 (by omega) (by omega) (by omega)), by rw [e 52 (by omega) (by omega) (by omega)]; exact h4.2⟩, ⟨fun g => (h5.1 g).kept (e 53 (by omega) (by omega) (by omega)), by rw [e 52 (by omega) (by omega) (by omega)]; exact h5.2⟩, by rw [e40 10 (by decide)]; exact h6, e1, ⟨by rw [e40 29 (by decide)]; exact h8.1, h8.2.1, by rw [e 54 (by omega) (by omega) (by omega)]; exact h8.2.2⟩⟩
theorem s_X12_nextItem {ex : List dt_Shp} {σ : dt_Mem} {q : Nat × List Int} {r st0 : Int} {s : xE (List Int)} (hr1 : 0 ≤ r) (hr2 : r < 8) (hrow : hRow σ 41 42 43 r.toNat (some q)) (hB : rBr σ q.2 st0 s) : dt_Sp mX12_nextItem 1 0 0 [dt_R 40, dt_I r] (dt_SH ++ ex) σ (fun v sh2 σ2 => v = some (dt_I (nxV s)) ∧ sh2 = dt_SH ++ ex ∧ (∀ b k, (b ≠ 40 ∨ (k ≠ 1 ∧ k ≠ 24 ∧ k ≠ 25)) → σ2 b k = σ b k) ∧ rBr σ2 q.2 st0 (nxS s) ∧ dt_in32 (nxV s)) := by
  refine dt_Sp_of (by decide) (Nat.le_of_ble_eq_true rfl) ?_
  refine dt_wfV fun hwf => ?_
  obtain ⟨q1, q2, q3, q4, q5⟩ := hRow_it hrow
  have hwf0 := hwf
  show dt_V _ _ _ 0 0 0 [some (dt_R 40), some (dt_I r)] [] _ _
  refine dt_aloadn dX12_nextItem_0 rfl rfl ?_
  refine dt_getI dX12_nextItem_1 pg_X12_274_12 rfl rfl ?_
  refine dt_if_eq (tgt := 9) dX12_nextItem_4 (by decide) (by first | assumption | exact hwf _ _ | exact dt_b32 _ | omega | exact ⟨by omega, by omega⟩ | decide | exact ⟨by simp (disch := omega) only [dt_up_s, dt_up_k, dt_up_n]; omega, by simp (disch := omega) only [dt_up_s, dt_up_k, dt_up_n]; omega⟩) (fun c1 => ?_) (fun c1 => ?_)
  · skip
    obtain ⟨l, rfl, b0, b1, c, hc, b24, hld⟩ | ⟨e, rfl, b0, b1, b2⟩ := hB.c
    rotate_left
    · omega
    refine dt_aloadn dX12_nextItem_9 rfl rfl ?_
    refine dt_getI dX12_nextItem_10 pg_X12_277_12 rfl rfl ?_
    refine dt_aloadn dX12_nextItem_13 rfl rfl ?_
    refine dt_getR dX12_nextItem_14 pg_X12_13_12 rfl rfl ?_
    refine dt_iloadn dX12_nextItem_17 rfl rfl ?_
    refine dt_iald dX12_nextItem_18 rfl (by first | omega | (simp (disch := omega) only [dt_up_s, dt_up_k, dt_up_n]; omega)) (by first | omega | (simp (disch := omega) only [dt_up_s, dt_up_k, dt_up_n]; omega)) (by decide) ?_
    rw [q3, b24]
    refine dt_cm_ne (tgt := 33) dX12_nextItem_19 (by decide) (by first | assumption | exact hwf _ _ | exact dt_b32 _ | omega | exact ⟨by omega, by omega⟩ | decide | exact ⟨by simp (disch := omega) only [dt_up_s, dt_up_k, dt_up_n]; omega, by simp (disch := omega) only [dt_up_s, dt_up_k, dt_up_n]; omega⟩) (by first | assumption | exact hwf _ _ | exact dt_b32 _ | omega | exact ⟨by omega, by omega⟩ | decide | exact ⟨by simp (disch := omega) only [dt_up_s, dt_up_k, dt_up_n]; omega, by simp (disch := omega) only [dt_up_s, dt_up_k, dt_up_n]; omega⟩) (fun c2 => ?_) (fun c2 => ?_)
    · skip
      obtain ⟨x, hx⟩ := dt_lg (l := q.2) (i := c) (by omega)
      have hd := drop_c hx
      rw [← hld] at hd
      subst hd
      refine dt_aloadn dX12_nextItem_33 rfl rfl ?_
      refine dt_dupR dX12_nextItem_34 ?_
      refine dt_getI dX12_nextItem_35 pg_X12_277_12 rfl rfl ?_
      refine dt_iconst dX12_nextItem_38 ?_
      refine dt_iadd dX12_nextItem_39 ?_
      rw [b24]
      refine dt_wfV fun hwf => ?_
      refine dt_putI dX12_nextItem_40 pw_X12_277_12 rfl rfl (by first | assumption | exact hwf _ _ | exact dt_b32 _ | omega | exact ⟨by omega, by omega⟩ | decide | exact ⟨by simp (disch := omega) only [dt_up_s, dt_up_k, dt_up_n]; omega, by simp (disch := omega) only [dt_up_s, dt_up_k, dt_up_n]; omega⟩) ?_
      obtain ⟨σm, em⟩ : ∃ z, z = dt_up σ 40 24 ((c : Int) + 1) := ⟨_, rfl⟩
      rw [← em]
      have m24 : σm 40 24 = (c : Int) + 1 := by rw [em]; exact dt_up_s
      refine dt_aloadn dX12_nextItem_43 rfl rfl ?_
      refine dt_getR dX12_nextItem_44 pg_X12_16_12 rfl rfl ?_
      refine dt_bipush dX12_nextItem_47 (by decide) ?_
      refine dt_iloadn dX12_nextItem_49 rfl rfl ?_
      refine dt_imul dX12_nextItem_50 ?_
      refine dt_aloadn dX12_nextItem_51 rfl rfl ?_
      refine dt_getI dX12_nextItem_52 pg_X12_277_12 rfl rfl ?_
      rw [m24]
      refine dt_iadd dX12_nextItem_55 ?_
      refine dt_iconst dX12_nextItem_56 ?_
      refine dt_isub dX12_nextItem_57 ?_
      refine dt_iald dX12_nextItem_58 rfl (by first | omega | (simp (disch := omega) only [dt_up_s, dt_up_k, dt_up_n]; omega)) (by first | omega | (simp (disch := omega) only [dt_up_s, dt_up_k, dt_up_n]; omega)) (by decide) ?_
      rw [show ((40 : Int) * r + ((c : Int) + 1) - 1).toNat = r.toNat * 40 + c by omega, show σm 43 (r.toNat * 40 + c) = x by rw [em, dt_up_n (by decide)]; exact q5 c x hx]
      refine dt_iret dX12_nextItem_59 rfl (by decide) (by decide) ?_
      have hx32 : dt_in32 x := by have z := hwf0 43 (r.toNat * 40 + c); rw [q5 c x hx] at z; exact z
      refine ⟨rfl, rfl, fun b k hb => by rw [em]; exact dt_up_ne (by omega), ⟨?_, ?_, c + 1, by have := dt_gl hx; omega, m24, rfl⟩, hx32⟩
      · rw [em, dt_up_k (by decide)]; exact b0
      · rw [em, dt_up_k (by decide)]; exact b1
    · skip
      obtain rfl : c = q.2.length := by omega
      rw [List.drop_length] at hld
      subst hld
      refine dt_aloadn dX12_nextItem_22 rfl rfl ?_
      refine dt_aloadn dX12_nextItem_23 rfl rfl ?_
      refine dt_iconst dX12_nextItem_24 ?_
      refine dt_xV dX12_nextItem_25 pc_X12_74 rfl (s_X12_finding (by first | assumption | exact hwf _ _ | exact dt_b32 _ | omega | exact ⟨by omega, by omega⟩ | decide | exact ⟨by simp (disch := omega) only [dt_up_s, dt_up_k, dt_up_n]; omega, by simp (disch := omega) only [dt_up_s, dt_up_k, dt_up_n]; omega⟩)) rfl rfl ⟨by decide, by decide⟩ rfl rfl (Nat.le_of_ble_eq_true rfl) ⟨by decide, by decide⟩ (dt_k3 ?_)
      refine dt_wfV fun hwf => ?_
      refine dt_putI dX12_nextItem_28 pw_X12_274_12 rfl rfl (by first | assumption | exact hwf _ _ | exact dt_b32 _ | omega | exact ⟨by omega, by omega⟩ | decide | exact ⟨by simp (disch := omega) only [dt_up_s, dt_up_k, dt_up_n]; omega, by simp (disch := omega) only [dt_up_s, dt_up_k, dt_up_n]; omega⟩) ?_
      refine dt_iconst dX12_nextItem_31 ?_
      refine dt_iret dX12_nextItem_32 rfl (by decide) (by decide) ?_
      refine ⟨rfl, rfl, fun b k hb => by simp (disch := omega) only [dt_up_ne], ⟨dt_up_s, Or.inr ⟨rfl, ?_⟩⟩, (by decide : dt_in32 0)⟩
      rw [dt_up_k (by decide), dt_up_s]
  · skip
    obtain ⟨l, rfl, b0, b1, c, hc, b24, hld⟩ | ⟨e, rfl, b0, b1, b2⟩ := hB.c
    · omega
    refine dt_iconst dX12_nextItem_7 ?_
    refine dt_iret dX12_nextItem_8 rfl (by decide) (by decide) ?_
    exact ⟨rfl, rfl, fun _ _ _ => rfl, hB, (by decide : dt_in32 0)⟩
theorem s_X12_bars {ex : List dt_Shp} {σ : dt_Mem} {q2 : List Int} {st0 b : Int} {s : xE (List Int)} (hB : rBr σ q2 st0 s) (hb : b = 0 ∨ b = 1) : dt_Sp mX12_bars 0 0 0 [dt_R 40, dt_I b] (dt_SH ++ ex) σ (fun v sh2 σ2 => v = none ∧ sh2 = dt_SH ++ ex ∧ (∀ a k, (a ≠ 40 ∨ k ≠ 25) → σ2 a k = σ a k) ∧ rBr σ2 q2 st0 (bsS b s)) := by
  refine dt_Sp_of (by decide) (Nat.le_of_ble_eq_true rfl) ?_
  refine dt_wfV fun hwf => ?_
  show dt_V _ _ _ 0 0 0 [some (dt_R 40), some (dt_I b)] [] _ _
  refine dt_aloadn dX12_bars_0 rfl rfl ?_
  refine dt_aloadn dX12_bars_1 rfl rfl ?_
  refine dt_getI dX12_bars_2 pg_X12_274_12 rfl rfl ?_
  refine dt_if_ne (tgt := 17) dX12_bars_5 (by decide) (by first | assumption | exact hwf _ _ | exact dt_b32 _ | omega | exact ⟨by omega, by omega⟩ | decide | exact ⟨by simp (disch := omega) only [dt_up_s, dt_up_k, dt_up_n]; omega, by simp (disch := omega) only [dt_up_s, dt_up_k, dt_up_n]; omega⟩) (fun c1 => ?_) (fun c1 => ?_)
  · skip
    obtain ⟨l, rfl, b0, b1, c, hc, b24, hld⟩ | ⟨e, rfl, b0, b1, b2⟩ := hB.c
    · omega
    refine dt_aloadn dX12_bars_17 rfl rfl ?_
    refine dt_getI dX12_bars_18 pg_X12_274_12 rfl rfl ?_
    refine dt_wfV fun hwf => ?_
    refine dt_putI dX12_bars_21 pw_X12_274_12 rfl rfl (by first | assumption | exact hwf _ _ | exact dt_b32 _ | omega | exact ⟨by omega, by omega⟩ | decide | exact ⟨by simp (disch := omega) only [dt_up_s, dt_up_k, dt_up_n]; omega, by simp (disch := omega) only [dt_up_s, dt_up_k, dt_up_n]; omega⟩) ?_
    refine dt_vret dX12_bars_24 rfl (by decide) (by decide) ?_
    refine ⟨rfl, rfl, fun a k h => dt_up_ne h, ⟨dt_up_s.trans b0, ?_⟩⟩
    rw [dt_up_k (by decide)]; exact b2
  · skip
    obtain ⟨l, rfl, b0, b1, c, hc, b24, hld⟩ | ⟨e, rfl, b0, b1, b2⟩ := hB.c
    rotate_left
    · omega
    refine dt_iloadn dX12_bars_8 rfl rfl ?_
    refine dt_if_eq (tgt := 17) dX12_bars_9 (by decide) (by first | assumption | exact hwf _ _ | exact dt_b32 _ | omega | exact ⟨by omega, by omega⟩ | decide | exact ⟨by simp (disch := omega) only [dt_up_s, dt_up_k, dt_up_n]; omega, by simp (disch := omega) only [dt_up_s, dt_up_k, dt_up_n]; omega⟩) (fun c2 => ?_) (fun c2 => ?_)
    · skip
      obtain rfl : b = 0 := by omega
      refine dt_aloadn dX12_bars_17 rfl rfl ?_
      refine dt_getI dX12_bars_18 pg_X12_274_12 rfl rfl ?_
      refine dt_wfV fun hwf => ?_
      refine dt_putI dX12_bars_21 pw_X12_274_12 rfl rfl (by first | assumption | exact hwf _ _ | exact dt_b32 _ | omega | exact ⟨by omega, by omega⟩ | decide | exact ⟨by simp (disch := omega) only [dt_up_s, dt_up_k, dt_up_n]; omega, by simp (disch := omega) only [dt_up_s, dt_up_k, dt_up_n]; omega⟩) ?_
      refine dt_vret dX12_bars_24 rfl (by decide) (by decide) ?_
      refine ⟨rfl, rfl, fun a k h => dt_up_ne h, ⟨dt_up_s.trans b0, ?_, c, hc, ?_, hld⟩⟩
      · rw [dt_up_k (by decide)]; exact b1
      · rw [dt_up_k (by decide)]; exact b24
    · skip
      obtain rfl : b = 1 := by omega
      refine dt_ldc dX12_bars_12 pk_X12_73 ?_
      refine dt_goto (tgt := 21) dX12_bars_14 (by decide) ?_
      refine dt_wfV fun hwf => ?_
      refine dt_putI dX12_bars_21 pw_X12_274_12 rfl rfl (by first | assumption | exact hwf _ _ | exact dt_b32 _ | omega | exact ⟨by omega, by omega⟩ | decide | exact ⟨by simp (disch := omega) only [dt_up_s, dt_up_k, dt_up_n]; omega, by simp (disch := omega) only [dt_up_s, dt_up_k, dt_up_n]; omega⟩) ?_
      refine dt_vret dX12_bars_24 rfl (by decide) (by decide) ?_
      refine ⟨rfl, rfl, fun a k h => dt_up_ne h, ⟨dt_up_s, Or.inl ⟨rfl, ?_⟩⟩⟩
      rw [dt_up_k (by decide)]; exact b1
theorem s_X12_oneSaying {ex : List dt_Shp} {σ : dt_Mem} {X : dX} {q : Nat × List Int} {r st0 : Int} {l : List Int} {Q : Nat → Prop} (hX : rX σ X) (hr1 : 0 ≤ r) (hr2 : r < 8) (hrow : hRow σ 41 42 43 r.toNat (some q)) (hB : rBr σ q.2 st0 (.ok l)) (hQ : mP σ 51 256 Q) (h0 : 0 < X.1.length) : dt_Sp mX12_oneSaying 3 0 0 [dt_R 40, dt_I r] (dt_SH ++ ex) σ (fun v sh2 σ2 => v = none ∧ sh2 = dt_SH ++ ex ∧ (∀ b k, (b ≠ 47 ∧ b ≠ 48 ∧ b ≠ 51) → (b ≠ 40 ∨ (k ≠ 1 ∧ k ≠ 24 ∧ k ≠ 25)) → σ2 b k = σ b k) ∧ rBr σ2 q.2 st0 (x1S (xOne X l)) ∧ ∀ p, xOne X l = .ok p → mP σ2 51 256 (fun k => Q k ∧ p.1 k)) := by
  refine dt_Sp_of (by decide) (Nat.le_of_ble_eq_true rfl) ?_
  refine dt_wfV fun hwf => ?_
  have e2 := hX.2.1
  show dt_V _ _ _ 0 0 0 [some (dt_R 40), some (dt_I r), none, none, none, none, none] [] _ _
  refine dt_aloadn dX12_oneSaying_0 rfl rfl ?_
  refine dt_iloadn dX12_oneSaying_1 rfl rfl ?_
  refine dt_xV dX12_oneSaying_2 pc_X12_280 rfl (s_X12_nextItem hr1 hr2 hrow hB) rfl rfl ⟨by decide, by decide⟩ rfl rfl (Nat.le_of_ble_eq_true rfl) ⟨by decide, by decide⟩ ?_
  intro va sha σa hqa
  obtain ⟨rfl, hsa, hfa, hBa, hia⟩ := hqa
  obtain rfl := hsa.symm
  obtain ⟨day, hday⟩ : ∃ z, z = nxV (.ok l) := ⟨_, rfl⟩
  rw [← hday] at hia ⊢
  obtain ⟨d1, d2⟩ := id hia
  have fA : ∀ b k, (b ≠ 40 ∨ (k ≠ 1 ∧ k ≠ 24 ∧ k ≠ 25)) → σa b k = σ b k := hfa
  refine dt_istoren dX12_oneSaying_5 rfl (by decide) rfl ?_
  dsimp only [List.set]
  refine dt_aloadn dX12_oneSaying_6 rfl rfl ?_
  refine dt_iloadn dX12_oneSaying_7 rfl rfl ?_
  refine dt_if_ge (tgt := 15) dX12_oneSaying_8 (by decide) (by first | assumption | exact hwf _ _ | exact dt_b32 _ | omega | exact ⟨by omega, by omega⟩ | decide | exact ⟨by simp (disch := omega) only [dt_up_s, dt_up_k, dt_up_n]; omega, by simp (disch := omega) only [dt_up_s, dt_up_k, dt_up_n]; omega⟩) (fun c1 => ?_) (fun c1 => ?_)
  · skip
    have hb : ((0 : Int) = 1 ∧ day < 0) ∨ ((0 : Int) = 0 ∧ ¬ day < 0) := Or.inr ⟨rfl, by omega⟩
    refine dt_iconst dX12_oneSaying_15 ?_
    refine dt_xV dX12_oneSaying_16 pc_X12_283 rfl (s_X12_bars hBa (by decide)) rfl rfl ⟨by decide, by decide⟩ rfl rfl (Nat.le_of_ble_eq_true rfl) ⟨by decide, by decide⟩ ?_
    intro vb shb σb hqb
    obtain ⟨rfl, hsb, hfb, hBb⟩ := hqb
    obtain rfl := hsb.symm
    have fB : ∀ b k, (b ≠ 40 ∨ (k ≠ 1 ∧ k ≠ 24 ∧ k ≠ 25)) → σb b k = σ b k := fun b k h => (hfb b k (by omega)).trans (fA b k h)
    refine dt_aloadn dX12_oneSaying_19 rfl rfl ?_
    refine dt_iloadn dX12_oneSaying_20 rfl rfl ?_
    refine dt_xV dX12_oneSaying_21 pc_X12_280 rfl (s_X12_nextItem hr1 hr2 (hrow.kept (fB 41 _ (Or.inl (by decide))) (fB 42 _ (Or.inl (by decide))) (fun _ _ => fB 43 _ (Or.inl (by decide)))) hBb) rfl rfl ⟨by decide, by decide⟩ rfl rfl (Nat.le_of_ble_eq_true rfl) ⟨by decide, by decide⟩ ?_
    intro vc shc σc hqc
    obtain ⟨rfl, hsc, hfc, hBc, hic⟩ := hqc
    obtain rfl := hsc.symm
    obtain ⟨n, hn⟩ : ∃ z, z = nxV (bsS 0 (nxS (.ok l))) := ⟨_, rfl⟩
    rw [← hn] at hic ⊢
    obtain ⟨n1, n2⟩ := id hic
    have fC : ∀ b k, (b ≠ 40 ∨ (k ≠ 1 ∧ k ≠ 24 ∧ k ≠ 25)) → σc b k = σ b k := fun b k h => (hfc b k h).trans (fB b k h)
    refine dt_istoren dX12_oneSaying_24 rfl (by decide) rfl ?_
    dsimp only [List.set]
    refine dt_aloadn dX12_oneSaying_25 rfl rfl ?_
    refine dt_iloadn dX12_oneSaying_26 rfl rfl ?_
    refine dt_ui2l dX12_oneSaying_27 (by first | assumption | exact hwf _ _ | exact dt_b32 _ | omega | exact ⟨by omega, by omega⟩ | decide | exact ⟨by simp (disch := omega) only [dt_up_s, dt_up_k, dt_up_n]; omega, by simp (disch := omega) only [dt_up_s, dt_up_k, dt_up_n]; omega⟩) ?_
    refine dt_lconst (x := 0) dX12_oneSaying_28 (by decide) ?_
    refine dt_ldc2 dX12_oneSaying_29 pk_X12_226 ?_
    refine dt_xS dX12_oneSaying_32 pc_X12_63 (s_X12_in (by first | exact ⟨by omega, by omega⟩ | decide) (by first | exact ⟨by omega, by omega⟩ | decide) (by first | exact ⟨by omega, by omega⟩ | decide)) rfl rfl ⟨by decide, by decide⟩ (Nat.le_of_ble_eq_true rfl) ⟨by decide, by decide⟩ (dt_k3 ?_)
    refine dt_if_ne (tgt := 42) dX12_oneSaying_35 (by decide) (by first | assumption | exact hwf _ _ | exact dt_b32 _ | omega | exact ⟨by omega, by omega⟩ | decide | exact ⟨by simp (disch := omega) only [dt_up_s, dt_up_k, dt_up_n]; omega, by simp (disch := omega) only [dt_up_s, dt_up_k, dt_up_n]; omega⟩) (fun c2 => ?_) (fun c2 => ?_)
    · skip
      try simp only [dt_b0, dt_b1, Decidable.not_not, Classical.not_not] at c2
      have hb2 : ((0 : Int) = 1 ∧ ¬ (0 ≤ n ∧ n ≤ 6)) ∨ ((0 : Int) = 0 ∧ (0 ≤ n ∧ n ≤ 6)) := Or.inr ⟨rfl, by omega⟩
      refine dt_iconst dX12_oneSaying_42 ?_
      refine dt_xV dX12_oneSaying_43 pc_X12_283 rfl (s_X12_bars hBc (by decide)) rfl rfl ⟨by decide, by decide⟩ rfl rfl (Nat.le_of_ble_eq_true rfl) ⟨by decide, by decide⟩ ?_
      intro ve she σe hqe
      obtain ⟨rfl, hse, hfe, hBe⟩ := hqe
      obtain rfl := hse.symm
      have fE : ∀ b k, (b ≠ 40 ∨ (k ≠ 1 ∧ k ≠ 24 ∧ k ≠ 25)) → σe b k = σ b k := fun b k h => (hfe b k (by omega)).trans (fC b k h)
      have hh := one_hd (X := X) hday hn hb hb2
      have hXe : rX σe X := hX.kept (funext fun k => fE 44 k (Or.inl (by decide)))
      refine dt_wfV fun hwf => ?_
      refine dt_aloadn dX12_oneSaying_46 rfl rfl ?_
      refine dt_getI dX12_oneSaying_47 pg_X12_274_12 rfl rfl ?_
      refine dt_if_ne (tgt := 61) dX12_oneSaying_50 (by decide) (by first | assumption | exact hwf _ _ | exact dt_b32 _ | omega | exact ⟨by omega, by omega⟩ | decide | exact ⟨by simp (disch := omega) only [dt_up_s, dt_up_k, dt_up_n]; omega, by simp (disch := omega) only [dt_up_s, dt_up_k, dt_up_n]; omega⟩) (fun c3 => ?_) (fun c3 => ?_)
      · skip
        obtain ⟨e, h4, hx⟩ | ⟨l2, h4, -⟩ := hh
        rotate_left
        · exfalso; rw [h4] at hBe; exact absurd hBe.1 (by assumption)
        rw [h4] at hBe
        refine dt_iconst dX12_oneSaying_61 ?_
        refine dt_istore dX12_oneSaying_62 (by decide) rfl ?_
        dsimp only [List.set]
        refine dt_aloadn dX12_oneSaying_64 rfl rfl ?_
        refine dt_xV dX12_oneSaying_65 pc_X12_234 rfl s_X12_startMeaning rfl rfl ⟨by decide, by decide⟩ rfl rfl (Nat.le_of_ble_eq_true rfl) ⟨by decide, by decide⟩ ?_
        intro vs shs σs hqs
        obtain ⟨rfl, hss, hfs, hMs⟩ := hqs
        obtain rfl := hss.symm
        have fS : ∀ b k, (b ≠ 47 ∧ b ≠ 48 ∧ b ≠ 51) → (b ≠ 40 ∨ (k ≠ 1 ∧ k ≠ 24 ∧ k ≠ 25)) → σs b k = σ b k := fun b k h1 h => (congrFun (hfs b h1.1) k).trans (fE b k h)
        have hBs := hBe.kept (hfs 40 (by decide))
        have hQs : mP σs 51 256 Q := hQ.kept (funext fun k => (congrFun (hfs 51 (by decide)) k).trans (fE 51 k (Or.inl (by decide))))
        refine dt_wfV fun hwf => ?_
        refine dt_iconst dX12_oneSaying_68 ?_
        refine dt_istore dX12_oneSaying_69 (by decide) rfl ?_
        dsimp only [List.set]
        refine dt_iload dX12_oneSaying_71 rfl ?_
        refine dt_iloadn dX12_oneSaying_73 rfl rfl ?_
        refine dt_cm_ge (tgt := 132) dX12_oneSaying_74 (by decide) (by first | assumption | exact hwf _ _ | exact dt_b32 _ | omega | exact ⟨by omega, by omega⟩ | decide | exact ⟨by simp (disch := omega) only [dt_up_s, dt_up_k, dt_up_n]; omega, by simp (disch := omega) only [dt_up_s, dt_up_k, dt_up_n]; omega⟩) (by first | assumption | exact hwf _ _ | exact dt_b32 _ | omega | exact ⟨by omega, by omega⟩ | decide | exact ⟨by simp (disch := omega) only [dt_up_s, dt_up_k, dt_up_n]; omega, by simp (disch := omega) only [dt_up_s, dt_up_k, dt_up_n]; omega⟩) (fun c4 => ?_) (fun c4 => ?_)
        · skip
          have hfin : (∃ p, xOne X l = .ok p ∧ mP σs 47 256 p.1) ∨ ∃ e, xOne X l = .error e := Or.inr ⟨e, hx⟩
          have hBp : rBr σs q.2 st0 (x1S (xOne X l)) := by rw [hx]; exact hBs
          have hQp := hQs
          have hfp := fS
          refine dt_iconst dX12_oneSaying_132 ?_
          refine dt_istore dX12_oneSaying_133 (by decide) rfl ?_
          dsimp only [List.set]
          have lp135 : ∀ (fu : Nat) (i : Nat) (σ3 : dt_Mem), 256 - (i : Int) < (fu : Int) → (i ≤ 256) → (∀ b, b ≠ 51 → σ3 b = σs b) → (mP σ3 51 256 (fun k => Q k ∧ (k < i → σs 47 k ≠ 0))) →  dt_V mX12_oneSaying (dt_rm 3 0 0) (dt_MC (fun v sh2 σ2 => v = none ∧ sh2 = dt_SH ++ ex ∧ (∀ b k, (b ≠ 47 ∧ b ≠ 48 ∧ b ≠ 51) → (b ≠ 40 ∨ (k ≠ 1 ∧ k ≠ 24 ∧ k ≠ 25)) → σ2 b k = σ b k) ∧ rBr σ2 q.2 st0 (x1S (xOne X l)) ∧ ∀ p, xOne X l = .ok p → mP σ2 51 256 (fun k => Q k ∧ p.1 k)) 0 0) 0 0 135 [some (dt_R 40), some (dt_I r), some (dt_I day), some (dt_I n), none, some (dt_I (i : Int)), none] [] (dt_SH ++ ex) σ3 := by
            intro fu
            induction fu with
            | zero =>
              intro i σ3 hm ji jf jm
              exfalso
              omega
            | succ fu ih =>
              intro i σ3 hm ji jf jm
              refine dt_wfV fun hwf => ?_
              refine dt_iload dX12_oneSaying_135 rfl ?_
              refine dt_sipush dX12_oneSaying_137 (by decide) ?_
              refine dt_cm_ge (tgt := 181) dX12_oneSaying_140 (by decide) (by first | assumption | exact hwf _ _ | exact dt_b32 _ | omega | exact ⟨by omega, by omega⟩ | decide | exact ⟨by simp (disch := omega) only [dt_up_s, dt_up_k, dt_up_n]; omega, by simp (disch := omega) only [dt_up_s, dt_up_k, dt_up_n]; omega⟩) (by first | assumption | exact hwf _ _ | exact dt_b32 _ | omega | exact ⟨by omega, by omega⟩ | decide | exact ⟨by simp (disch := omega) only [dt_up_s, dt_up_k, dt_up_n]; omega, by simp (disch := omega) only [dt_up_s, dt_up_k, dt_up_n]; omega⟩) (fun c5 => ?_) (fun c5 => ?_)
              · skip
                refine dt_vret dX12_oneSaying_181 rfl (by decide) (by decide) ?_
                obtain rfl : i = 256 := by omega
                refine ⟨rfl, rfl, fun b k h1 h => (congrFun (jf b h1.2.2) k).trans (hfp b k h1 h), hBp.kept (jf 40 (by decide)), fun p hp => ?_⟩
                rcases hfin with ⟨p2, h1, h2⟩ | ⟨e, h1⟩
                · rw [h1] at hp
                  obtain rfl := Except.ok.inj hp
                  exact jm.ext (fun k hk => by
                    have h3 : σs 47 k ≠ 0 ↔ p2.1 k := by
                      rw [h2 k hk]
                      by_cases g : p2.1 k
                      · rw [dt_bT g]; exact ⟨fun _ => g, fun _ => by decide⟩
                      · rw [dt_bF g]; exact ⟨fun z => absurd rfl z, fun z => absurd z g⟩
                    exact ⟨fun z => ⟨z.1, h3.mp (z.2 hk)⟩, fun z => ⟨z.1, fun _ => h3.mpr z.2⟩⟩)
                · rw [h1] at hp; cases hp
              · skip
                have hi : i < 256 := by omega
                refine dt_aloadn dX12_oneSaying_143 rfl rfl ?_
                refine dt_getR dX12_oneSaying_144 pg_X12_41_12 rfl rfl ?_
                refine dt_iload dX12_oneSaying_147 rfl ?_
                refine dt_aloadn dX12_oneSaying_149 rfl rfl ?_
                refine dt_getR dX12_oneSaying_150 pg_X12_41_12 rfl rfl ?_
                refine dt_iload dX12_oneSaying_153 rfl ?_
                refine dt_zald dX12_oneSaying_155 rfl (by first | omega | (simp (disch := omega) only [dt_up_s, dt_up_k, dt_up_n]; omega)) (by first | omega | (simp (disch := omega) only [dt_up_s, dt_up_k, dt_up_n]; omega)) (by decide) ?_
                rw [Int.toNat_natCast, jm i hi]
                refine dt_if_eq (tgt := 173) dX12_oneSaying_156 (by decide) (by first | assumption | exact hwf _ _ | exact dt_b32 _ | omega | exact ⟨by omega, by omega⟩ | decide | exact ⟨by simp (disch := omega) only [dt_up_s, dt_up_k, dt_up_n]; omega, by simp (disch := omega) only [dt_up_s, dt_up_k, dt_up_n]; omega⟩) (fun c6 => ?_) (fun c6 => ?_)
                · skip
                  try simp only [dt_b0, dt_b1, Decidable.not_not, Classical.not_not] at c6
                  have hnn : ¬ (Q i ∧ σs 47 i ≠ 0) := fun z => (show ¬ (Q i ∧ (i < i → σs 47 i ≠ 0)) by assumption) ⟨z.1, fun h => absurd h (Nat.lt_irrefl i)⟩
                  refine dt_iconst dX12_oneSaying_173 ?_
                  refine dt_zast dX12_oneSaying_174 rfl (by first | omega | (simp (disch := omega) only [dt_up_s, dt_up_k, dt_up_n]; omega)) (by first | omega | (simp (disch := omega) only [dt_up_s, dt_up_k, dt_up_n]; omega)) (by decide) (by first | exact Or.inl rfl | exact Or.inr rfl | assumption | omega) ?_
                  rw [Int.toNat_natCast]
                  refine dt_iinc dX12_oneSaying_175 rfl (by decide) rfl ?_
                  dsimp only [List.set]
                  refine dt_goto (tgt := 135) dX12_oneSaying_178 (by decide) ?_
                  have jm2 : mP (dt_up σ3 51 i 0) 51 256 (fun k => Q k ∧ (k < i + 1 → σs 47 k ≠ 0)) := fun k hk => by
                    by_cases e : k = i
                    · subst e; rw [dt_up_s]; exact (dt_bF (fun z => hnn ⟨z.1, z.2 (by omega)⟩)).symm
                    · rw [dt_up_k e, jm k hk]; exact dt_bc ⟨fun z => ⟨z.1, fun _ => z.2 (by omega)⟩, fun z => ⟨z.1, fun _ => z.2 (by omega)⟩⟩
                  exact dt_lb (ih (i + 1) _ (by omega) (by omega) (fun b hb => (dt_up_o hb).trans (jf b hb)) jm2) ⟨rfl, rfl, rfl, rfl, rfl, trivial⟩
                · skip
                  try simp only [dt_b0, dt_b1, Decidable.not_not, Classical.not_not] at c6
                  have hqy : Q i := (show Q i ∧ (i < i → σs 47 i ≠ 0) by assumption).1
                  refine dt_wfV fun hwf => ?_
                  refine dt_aloadn dX12_oneSaying_159 rfl rfl ?_
                  refine dt_getR dX12_oneSaying_160 pg_X12_28_12 rfl rfl ?_
                  refine dt_iload dX12_oneSaying_163 rfl ?_
                  refine dt_zald dX12_oneSaying_165 rfl (by first | omega | (simp (disch := omega) only [dt_up_s, dt_up_k, dt_up_n]; omega)) (by first | omega | (simp (disch := omega) only [dt_up_s, dt_up_k, dt_up_n]; omega)) (by decide) ?_
                  rw [Int.toNat_natCast, show σ3 47 i = σs 47 i by rw [jf 47 (by decide)]]
                  refine dt_if_eq (tgt := 173) dX12_oneSaying_166 (by decide) (by have z := hwf 47 i; rw [jf 47 (by decide)] at z; exact z) (fun c7 => ?_) (fun c7 => ?_)
                  · skip
                    have hnn : ¬ (Q i ∧ σs 47 i ≠ 0) := fun z => z.2 (by assumption)
                    refine dt_iconst dX12_oneSaying_173 ?_
                    refine dt_zast dX12_oneSaying_174 rfl (by first | omega | (simp (disch := omega) only [dt_up_s, dt_up_k, dt_up_n]; omega)) (by first | omega | (simp (disch := omega) only [dt_up_s, dt_up_k, dt_up_n]; omega)) (by decide) (by first | exact Or.inl rfl | exact Or.inr rfl | assumption | omega) ?_
                    rw [Int.toNat_natCast]
                    refine dt_iinc dX12_oneSaying_175 rfl (by decide) rfl ?_
                    dsimp only [List.set]
                    refine dt_goto (tgt := 135) dX12_oneSaying_178 (by decide) ?_
                    have jm2 : mP (dt_up σ3 51 i 0) 51 256 (fun k => Q k ∧ (k < i + 1 → σs 47 k ≠ 0)) := fun k hk => by
                      by_cases e : k = i
                      · subst e; rw [dt_up_s]; exact (dt_bF (fun z => hnn ⟨z.1, z.2 (by omega)⟩)).symm
                      · rw [dt_up_k e, jm k hk]; exact dt_bc ⟨fun z => ⟨z.1, fun _ => z.2 (by omega)⟩, fun z => ⟨z.1, fun _ => z.2 (by omega)⟩⟩
                    exact dt_lb (ih (i + 1) _ (by omega) (by omega) (fun b hb => (dt_up_o hb).trans (jf b hb)) jm2) ⟨rfl, rfl, rfl, rfl, rfl, trivial⟩
                  · skip
                    have hpy : σs 47 i ≠ 0 := by assumption
                    refine dt_iconst dX12_oneSaying_169 ?_
                    refine dt_goto (tgt := 174) dX12_oneSaying_170 (by decide) ?_
                    refine dt_zast dX12_oneSaying_174 rfl (by first | omega | (simp (disch := omega) only [dt_up_s, dt_up_k, dt_up_n]; omega)) (by first | omega | (simp (disch := omega) only [dt_up_s, dt_up_k, dt_up_n]; omega)) (by decide) (by first | exact Or.inl rfl | exact Or.inr rfl | assumption | omega) ?_
                    rw [Int.toNat_natCast]
                    refine dt_iinc dX12_oneSaying_175 rfl (by decide) rfl ?_
                    dsimp only [List.set]
                    refine dt_goto (tgt := 135) dX12_oneSaying_178 (by decide) ?_
                    have jm2 : mP (dt_up σ3 51 i 1) 51 256 (fun k => Q k ∧ (k < i + 1 → σs 47 k ≠ 0)) := fun k hk => by
                      by_cases e : k = i
                      · subst e; rw [dt_up_s]; exact (dt_bT ⟨hqy, fun _ => hpy⟩).symm
                      · rw [dt_up_k e, jm k hk]; exact dt_bc ⟨fun z => ⟨z.1, fun _ => z.2 (by omega)⟩, fun z => ⟨z.1, fun _ => z.2 (by omega)⟩⟩
                    exact dt_lb (ih (i + 1) _ (by omega) (by omega) (fun b hb => (dt_up_o hb).trans (jf b hb)) jm2) ⟨rfl, rfl, rfl, rfl, rfl, trivial⟩
          exact dt_lb (lp135 300 0 σs (by omega) (by omega) (fun _ _ => rfl) (hQp.ext (fun k _ => ⟨fun z => ⟨z, fun h => absurd h (Nat.not_lt_zero k)⟩, fun z => z.1⟩))) ⟨rfl, rfl, rfl, rfl, rfl, trivial⟩
        · skip
          refine dt_aloadn dX12_oneSaying_77 rfl rfl ?_
          refine dt_getI dX12_oneSaying_78 pg_X12_274_12 rfl rfl ?_
          refine dt_if_ne (tgt := 132) dX12_oneSaying_81 (by decide) (by first | assumption | exact hwf _ _ | exact dt_b32 _ | omega | exact ⟨by omega, by omega⟩ | decide | exact ⟨by simp (disch := omega) only [dt_up_s, dt_up_k, dt_up_n]; omega, by simp (disch := omega) only [dt_up_s, dt_up_k, dt_up_n]; omega⟩) (fun c8 => ?_) (fun c8 => ?_)
          · skip
            have hfin : (∃ p, xOne X l = .ok p ∧ mP σs 47 256 p.1) ∨ ∃ e, xOne X l = .error e := Or.inr ⟨e, hx⟩
            have hBp : rBr σs q.2 st0 (x1S (xOne X l)) := by rw [hx]; exact hBs
            have hQp := hQs
            have hfp := fS
            refine dt_iconst dX12_oneSaying_132 ?_
            refine dt_istore dX12_oneSaying_133 (by decide) rfl ?_
            dsimp only [List.set]
            have lp135 : ∀ (fu : Nat) (i : Nat) (σ3 : dt_Mem), 256 - (i : Int) < (fu : Int) → (i ≤ 256) → (∀ b, b ≠ 51 → σ3 b = σs b) → (mP σ3 51 256 (fun k => Q k ∧ (k < i → σs 47 k ≠ 0))) →  dt_V mX12_oneSaying (dt_rm 3 0 0) (dt_MC (fun v sh2 σ2 => v = none ∧ sh2 = dt_SH ++ ex ∧ (∀ b k, (b ≠ 47 ∧ b ≠ 48 ∧ b ≠ 51) → (b ≠ 40 ∨ (k ≠ 1 ∧ k ≠ 24 ∧ k ≠ 25)) → σ2 b k = σ b k) ∧ rBr σ2 q.2 st0 (x1S (xOne X l)) ∧ ∀ p, xOne X l = .ok p → mP σ2 51 256 (fun k => Q k ∧ p.1 k)) 0 0) 0 0 135 [some (dt_R 40), some (dt_I r), some (dt_I day), some (dt_I n), none, some (dt_I (i : Int)), none] [] (dt_SH ++ ex) σ3 := by
              intro fu
              induction fu with
              | zero =>
                intro i σ3 hm ji jf jm
                exfalso
                omega
              | succ fu ih =>
                intro i σ3 hm ji jf jm
                refine dt_wfV fun hwf => ?_
                refine dt_iload dX12_oneSaying_135 rfl ?_
                refine dt_sipush dX12_oneSaying_137 (by decide) ?_
                refine dt_cm_ge (tgt := 181) dX12_oneSaying_140 (by decide) (by first | assumption | exact hwf _ _ | exact dt_b32 _ | omega | exact ⟨by omega, by omega⟩ | decide | exact ⟨by simp (disch := omega) only [dt_up_s, dt_up_k, dt_up_n]; omega, by simp (disch := omega) only [dt_up_s, dt_up_k, dt_up_n]; omega⟩) (by first | assumption | exact hwf _ _ | exact dt_b32 _ | omega | exact ⟨by omega, by omega⟩ | decide | exact ⟨by simp (disch := omega) only [dt_up_s, dt_up_k, dt_up_n]; omega, by simp (disch := omega) only [dt_up_s, dt_up_k, dt_up_n]; omega⟩) (fun c9 => ?_) (fun c9 => ?_)
                · skip
                  refine dt_vret dX12_oneSaying_181 rfl (by decide) (by decide) ?_
                  obtain rfl : i = 256 := by omega
                  refine ⟨rfl, rfl, fun b k h1 h => (congrFun (jf b h1.2.2) k).trans (hfp b k h1 h), hBp.kept (jf 40 (by decide)), fun p hp => ?_⟩
                  rcases hfin with ⟨p2, h1, h2⟩ | ⟨e, h1⟩
                  · rw [h1] at hp
                    obtain rfl := Except.ok.inj hp
                    exact jm.ext (fun k hk => by
                      have h3 : σs 47 k ≠ 0 ↔ p2.1 k := by
                        rw [h2 k hk]
                        by_cases g : p2.1 k
                        · rw [dt_bT g]; exact ⟨fun _ => g, fun _ => by decide⟩
                        · rw [dt_bF g]; exact ⟨fun z => absurd rfl z, fun z => absurd z g⟩
                      exact ⟨fun z => ⟨z.1, h3.mp (z.2 hk)⟩, fun z => ⟨z.1, fun _ => h3.mpr z.2⟩⟩)
                  · rw [h1] at hp; cases hp
                · skip
                  have hi : i < 256 := by omega
                  refine dt_aloadn dX12_oneSaying_143 rfl rfl ?_
                  refine dt_getR dX12_oneSaying_144 pg_X12_41_12 rfl rfl ?_
                  refine dt_iload dX12_oneSaying_147 rfl ?_
                  refine dt_aloadn dX12_oneSaying_149 rfl rfl ?_
                  refine dt_getR dX12_oneSaying_150 pg_X12_41_12 rfl rfl ?_
                  refine dt_iload dX12_oneSaying_153 rfl ?_
                  refine dt_zald dX12_oneSaying_155 rfl (by first | omega | (simp (disch := omega) only [dt_up_s, dt_up_k, dt_up_n]; omega)) (by first | omega | (simp (disch := omega) only [dt_up_s, dt_up_k, dt_up_n]; omega)) (by decide) ?_
                  rw [Int.toNat_natCast, jm i hi]
                  refine dt_if_eq (tgt := 173) dX12_oneSaying_156 (by decide) (by first | assumption | exact hwf _ _ | exact dt_b32 _ | omega | exact ⟨by omega, by omega⟩ | decide | exact ⟨by simp (disch := omega) only [dt_up_s, dt_up_k, dt_up_n]; omega, by simp (disch := omega) only [dt_up_s, dt_up_k, dt_up_n]; omega⟩) (fun c10 => ?_) (fun c10 => ?_)
                  · skip
                    try simp only [dt_b0, dt_b1, Decidable.not_not, Classical.not_not] at c10
                    have hnn : ¬ (Q i ∧ σs 47 i ≠ 0) := fun z => (show ¬ (Q i ∧ (i < i → σs 47 i ≠ 0)) by assumption) ⟨z.1, fun h => absurd h (Nat.lt_irrefl i)⟩
                    refine dt_iconst dX12_oneSaying_173 ?_
                    refine dt_zast dX12_oneSaying_174 rfl (by first | omega | (simp (disch := omega) only [dt_up_s, dt_up_k, dt_up_n]; omega)) (by first | omega | (simp (disch := omega) only [dt_up_s, dt_up_k, dt_up_n]; omega)) (by decide) (by first | exact Or.inl rfl | exact Or.inr rfl | assumption | omega) ?_
                    rw [Int.toNat_natCast]
                    refine dt_iinc dX12_oneSaying_175 rfl (by decide) rfl ?_
                    dsimp only [List.set]
                    refine dt_goto (tgt := 135) dX12_oneSaying_178 (by decide) ?_
                    have jm2 : mP (dt_up σ3 51 i 0) 51 256 (fun k => Q k ∧ (k < i + 1 → σs 47 k ≠ 0)) := fun k hk => by
                      by_cases e : k = i
                      · subst e; rw [dt_up_s]; exact (dt_bF (fun z => hnn ⟨z.1, z.2 (by omega)⟩)).symm
                      · rw [dt_up_k e, jm k hk]; exact dt_bc ⟨fun z => ⟨z.1, fun _ => z.2 (by omega)⟩, fun z => ⟨z.1, fun _ => z.2 (by omega)⟩⟩
                    exact dt_lb (ih (i + 1) _ (by omega) (by omega) (fun b hb => (dt_up_o hb).trans (jf b hb)) jm2) ⟨rfl, rfl, rfl, rfl, rfl, trivial⟩
                  · skip
                    try simp only [dt_b0, dt_b1, Decidable.not_not, Classical.not_not] at c10
                    have hqy : Q i := (show Q i ∧ (i < i → σs 47 i ≠ 0) by assumption).1
                    refine dt_wfV fun hwf => ?_
                    refine dt_aloadn dX12_oneSaying_159 rfl rfl ?_
                    refine dt_getR dX12_oneSaying_160 pg_X12_28_12 rfl rfl ?_
                    refine dt_iload dX12_oneSaying_163 rfl ?_
                    refine dt_zald dX12_oneSaying_165 rfl (by first | omega | (simp (disch := omega) only [dt_up_s, dt_up_k, dt_up_n]; omega)) (by first | omega | (simp (disch := omega) only [dt_up_s, dt_up_k, dt_up_n]; omega)) (by decide) ?_
                    rw [Int.toNat_natCast, show σ3 47 i = σs 47 i by rw [jf 47 (by decide)]]
                    refine dt_if_eq (tgt := 173) dX12_oneSaying_166 (by decide) (by have z := hwf 47 i; rw [jf 47 (by decide)] at z; exact z) (fun c11 => ?_) (fun c11 => ?_)
                    · skip
                      have hnn : ¬ (Q i ∧ σs 47 i ≠ 0) := fun z => z.2 (by assumption)
                      refine dt_iconst dX12_oneSaying_173 ?_
                      refine dt_zast dX12_oneSaying_174 rfl (by first | omega | (simp (disch := omega) only [dt_up_s, dt_up_k, dt_up_n]; omega)) (by first | omega | (simp (disch := omega) only [dt_up_s, dt_up_k, dt_up_n]; omega)) (by decide) (by first | exact Or.inl rfl | exact Or.inr rfl | assumption | omega) ?_
                      rw [Int.toNat_natCast]
                      refine dt_iinc dX12_oneSaying_175 rfl (by decide) rfl ?_
                      dsimp only [List.set]
                      refine dt_goto (tgt := 135) dX12_oneSaying_178 (by decide) ?_
                      have jm2 : mP (dt_up σ3 51 i 0) 51 256 (fun k => Q k ∧ (k < i + 1 → σs 47 k ≠ 0)) := fun k hk => by
                        by_cases e : k = i
                        · subst e; rw [dt_up_s]; exact (dt_bF (fun z => hnn ⟨z.1, z.2 (by omega)⟩)).symm
                        · rw [dt_up_k e, jm k hk]; exact dt_bc ⟨fun z => ⟨z.1, fun _ => z.2 (by omega)⟩, fun z => ⟨z.1, fun _ => z.2 (by omega)⟩⟩
                      exact dt_lb (ih (i + 1) _ (by omega) (by omega) (fun b hb => (dt_up_o hb).trans (jf b hb)) jm2) ⟨rfl, rfl, rfl, rfl, rfl, trivial⟩
                    · skip
                      have hpy : σs 47 i ≠ 0 := by assumption
                      refine dt_iconst dX12_oneSaying_169 ?_
                      refine dt_goto (tgt := 174) dX12_oneSaying_170 (by decide) ?_
                      refine dt_zast dX12_oneSaying_174 rfl (by first | omega | (simp (disch := omega) only [dt_up_s, dt_up_k, dt_up_n]; omega)) (by first | omega | (simp (disch := omega) only [dt_up_s, dt_up_k, dt_up_n]; omega)) (by decide) (by first | exact Or.inl rfl | exact Or.inr rfl | assumption | omega) ?_
                      rw [Int.toNat_natCast]
                      refine dt_iinc dX12_oneSaying_175 rfl (by decide) rfl ?_
                      dsimp only [List.set]
                      refine dt_goto (tgt := 135) dX12_oneSaying_178 (by decide) ?_
                      have jm2 : mP (dt_up σ3 51 i 1) 51 256 (fun k => Q k ∧ (k < i + 1 → σs 47 k ≠ 0)) := fun k hk => by
                        by_cases e : k = i
                        · subst e; rw [dt_up_s]; exact (dt_bT ⟨hqy, fun _ => hpy⟩).symm
                        · rw [dt_up_k e, jm k hk]; exact dt_bc ⟨fun z => ⟨z.1, fun _ => z.2 (by omega)⟩, fun z => ⟨z.1, fun _ => z.2 (by omega)⟩⟩
                      exact dt_lb (ih (i + 1) _ (by omega) (by omega) (fun b hb => (dt_up_o hb).trans (jf b hb)) jm2) ⟨rfl, rfl, rfl, rfl, rfl, trivial⟩
            exact dt_lb (lp135 300 0 σs (by omega) (by omega) (fun _ _ => rfl) (hQp.ext (fun k _ => ⟨fun z => ⟨z, fun h => absurd h (Nat.not_lt_zero k)⟩, fun z => z.1⟩))) ⟨rfl, rfl, rfl, rfl, rfl, trivial⟩
          · skip
            obtain ⟨z1, z2⟩ := id hBs
            exfalso; omega
      · skip
        obtain ⟨e, h4, hx⟩ | ⟨l2, h4, hl, hd0, hn0, hn6⟩ := hh
        · exfalso; rw [h4] at hBe; obtain ⟨z1, z2⟩ := hBe; omega
        rw [h4] at hBe
        refine dt_aloadn dX12_oneSaying_53 rfl rfl ?_
        refine dt_iloadn dX12_oneSaying_54 rfl rfl ?_
        refine dt_xV dX12_oneSaying_55 pc_X12_231 rfl (s_X12_tongueOf hXe (by omega) (by omega) h0) rfl rfl ⟨by decide, by decide⟩ rfl rfl (Nat.le_of_ble_eq_true rfl) ⟨by decide, by decide⟩ (dt_k3 ?_)
        obtain ⟨t, ht⟩ : ∃ t : Nat, day % (X.1.length : Int) = t := ⟨(day % (X.1.length : Int)).toNat, by have := Int.emod_nonneg day (b := (X.1.length : Int)) (by omega); omega⟩
        have ht7 : t < X.1.length := by have := Int.emod_lt_of_pos day (b := (X.1.length : Int)) (by omega); omega
        rw [ht]
        refine dt_goto (tgt := 62) dX12_oneSaying_58 (by decide) ?_
        refine dt_istore dX12_oneSaying_62 (by decide) rfl ?_
        dsimp only [List.set]
        refine dt_aloadn dX12_oneSaying_64 rfl rfl ?_
        refine dt_xV dX12_oneSaying_65 pc_X12_234 rfl s_X12_startMeaning rfl rfl ⟨by decide, by decide⟩ rfl rfl (Nat.le_of_ble_eq_true rfl) ⟨by decide, by decide⟩ ?_
        intro vs shs σs hqs
        obtain ⟨rfl, hss, hfs, hMs⟩ := hqs
        obtain rfl := hss.symm
        have fS : ∀ b k, (b ≠ 47 ∧ b ≠ 48 ∧ b ≠ 51) → (b ≠ 40 ∨ (k ≠ 1 ∧ k ≠ 24 ∧ k ≠ 25)) → σs b k = σ b k := fun b k h1 h => (congrFun (hfs b h1.1) k).trans (fE b k h)
        have hBs := hBe.kept (hfs 40 (by decide))
        have hQs : mP σs 51 256 Q := hQ.kept (funext fun k => (congrFun (hfs 51 (by decide)) k).trans (fE 51 k (Or.inl (by decide))))
        refine dt_wfV fun hwf => ?_
        refine dt_iconst dX12_oneSaying_68 ?_
        refine dt_istore dX12_oneSaying_69 (by decide) rfl ?_
        dsimp only [List.set]
        have lp71 : ∀ (fu : Nat) (z : Nat) (P : Nat → Prop) (s : xE (List Int)) (σs : dt_Mem), n - (z : Int) < (fu : Int) → ((z : Int) ≤ n) → (rBr σs q.2 st0 s) → (mP σs 51 256 Q) → (∀ b k, (b ≠ 47 ∧ b ≠ 48 ∧ b ≠ 51) → (b ≠ 40 ∨ (k ≠ 1 ∧ k ≠ 24 ∧ k ≠ 25)) → σs b k = σ b k) → ((s = .ok (l2.drop z) ∧ z ≤ l2.length ∧ xSd X t (l2.take z) = some P ∧ mP σs 47 256 P) ∨ ∃ e, s = .error e ∧ xOne X l = .error e) →  dt_V mX12_oneSaying (dt_rm 3 0 0) (dt_MC (fun v sh2 σ2 => v = none ∧ sh2 = dt_SH ++ ex ∧ (∀ b k, (b ≠ 47 ∧ b ≠ 48 ∧ b ≠ 51) → (b ≠ 40 ∨ (k ≠ 1 ∧ k ≠ 24 ∧ k ≠ 25)) → σ2 b k = σ b k) ∧ rBr σ2 q.2 st0 (x1S (xOne X l)) ∧ ∀ p, xOne X l = .ok p → mP σ2 51 256 (fun k => Q k ∧ p.1 k)) 0 0) 0 0 71 [some (dt_R 40), some (dt_I r), some (dt_I day), some (dt_I n), some (dt_I (t : Int)), some (dt_I (z : Int)), none] [] (dt_SH ++ ex) σs := by
          intro fu
          induction fu with
          | zero =>
            intro z P s σs hm zl kB kQ kf ks
            exfalso
            omega
          | succ fu ih =>
            intro z P s σs hm zl kB kQ kf ks
            refine dt_wfV fun hwf => ?_
            refine dt_iload dX12_oneSaying_71 rfl ?_
            refine dt_iloadn dX12_oneSaying_73 rfl rfl ?_
            refine dt_cm_ge (tgt := 132) dX12_oneSaying_74 (by decide) (by first | assumption | exact hwf _ _ | exact dt_b32 _ | omega | exact ⟨by omega, by omega⟩ | decide | exact ⟨by simp (disch := omega) only [dt_up_s, dt_up_k, dt_up_n]; omega, by simp (disch := omega) only [dt_up_s, dt_up_k, dt_up_n]; omega⟩) (by first | assumption | exact hwf _ _ | exact dt_b32 _ | omega | exact ⟨by omega, by omega⟩ | decide | exact ⟨by simp (disch := omega) only [dt_up_s, dt_up_k, dt_up_n]; omega, by simp (disch := omega) only [dt_up_s, dt_up_k, dt_up_n]; omega⟩) (fun c12 => ?_) (fun c12 => ?_)
            · skip
              have hzn : z = n.toNat := by omega
              have hfin : (∃ p, xOne X l = .ok p ∧ mP σs 47 256 p.1) ∨ ∃ e, xOne X l = .error e := by
                rcases ks with ⟨h1, h2, h3, h4⟩ | ⟨e, h1, h2⟩
                · rw [hzn] at h1 h2 h3
                  have hy : xOne X l = .ok (P, l2.drop n.toNat) := by rw [hl]; exact xOne_y hd0 ⟨hn0, hn6⟩ (by rw [ht]; exact h3) (by omega)
                  exact Or.inl ⟨_, hy, h4⟩
                · exact Or.inr ⟨e, h2⟩
              have hBp : rBr σs q.2 st0 (x1S (xOne X l)) := by
                rcases ks with ⟨h1, h2, h3, h4⟩ | ⟨e, h1, h2⟩
                · rw [hzn] at h1 h2 h3
                  rw [h1] at kB
                  have hy : xOne X l = .ok (P, l2.drop n.toNat) := by rw [hl]; exact xOne_y hd0 ⟨hn0, hn6⟩ (by rw [ht]; exact h3) (by omega)
                  rw [hy]
                  exact kB
                · rw [h2]; rw [h1] at kB; exact kB
              have hQp := kQ
              have hfp := kf
              refine dt_iconst dX12_oneSaying_132 ?_
              refine dt_istore dX12_oneSaying_133 (by decide) rfl ?_
              dsimp only [List.set]
              have lp135 : ∀ (fu : Nat) (i : Nat) (σ3 : dt_Mem), 256 - (i : Int) < (fu : Int) → (i ≤ 256) → (∀ b, b ≠ 51 → σ3 b = σs b) → (mP σ3 51 256 (fun k => Q k ∧ (k < i → σs 47 k ≠ 0))) →  dt_V mX12_oneSaying (dt_rm 3 0 0) (dt_MC (fun v sh2 σ2 => v = none ∧ sh2 = dt_SH ++ ex ∧ (∀ b k, (b ≠ 47 ∧ b ≠ 48 ∧ b ≠ 51) → (b ≠ 40 ∨ (k ≠ 1 ∧ k ≠ 24 ∧ k ≠ 25)) → σ2 b k = σ b k) ∧ rBr σ2 q.2 st0 (x1S (xOne X l)) ∧ ∀ p, xOne X l = .ok p → mP σ2 51 256 (fun k => Q k ∧ p.1 k)) 0 0) 0 0 135 [some (dt_R 40), some (dt_I r), some (dt_I day), some (dt_I n), none, some (dt_I (i : Int)), none] [] (dt_SH ++ ex) σ3 := by
                intro fu
                induction fu with
                | zero =>
                  intro i σ3 hm ji jf jm
                  exfalso
                  omega
                | succ fu ih =>
                  intro i σ3 hm ji jf jm
                  refine dt_wfV fun hwf => ?_
                  refine dt_iload dX12_oneSaying_135 rfl ?_
                  refine dt_sipush dX12_oneSaying_137 (by decide) ?_
                  refine dt_cm_ge (tgt := 181) dX12_oneSaying_140 (by decide) (by first | assumption | exact hwf _ _ | exact dt_b32 _ | omega | exact ⟨by omega, by omega⟩ | decide | exact ⟨by simp (disch := omega) only [dt_up_s, dt_up_k, dt_up_n]; omega, by simp (disch := omega) only [dt_up_s, dt_up_k, dt_up_n]; omega⟩) (by first | assumption | exact hwf _ _ | exact dt_b32 _ | omega | exact ⟨by omega, by omega⟩ | decide | exact ⟨by simp (disch := omega) only [dt_up_s, dt_up_k, dt_up_n]; omega, by simp (disch := omega) only [dt_up_s, dt_up_k, dt_up_n]; omega⟩) (fun c13 => ?_) (fun c13 => ?_)
                  · skip
                    refine dt_vret dX12_oneSaying_181 rfl (by decide) (by decide) ?_
                    obtain rfl : i = 256 := by omega
                    refine ⟨rfl, rfl, fun b k h1 h => (congrFun (jf b h1.2.2) k).trans (hfp b k h1 h), hBp.kept (jf 40 (by decide)), fun p hp => ?_⟩
                    rcases hfin with ⟨p2, h1, h2⟩ | ⟨e, h1⟩
                    · rw [h1] at hp
                      obtain rfl := Except.ok.inj hp
                      exact jm.ext (fun k hk => by
                        have h3 : σs 47 k ≠ 0 ↔ p2.1 k := by
                          rw [h2 k hk]
                          by_cases g : p2.1 k
                          · rw [dt_bT g]; exact ⟨fun _ => g, fun _ => by decide⟩
                          · rw [dt_bF g]; exact ⟨fun z => absurd rfl z, fun z => absurd z g⟩
                        exact ⟨fun z => ⟨z.1, h3.mp (z.2 hk)⟩, fun z => ⟨z.1, fun _ => h3.mpr z.2⟩⟩)
                    · rw [h1] at hp; cases hp
                  · skip
                    have hi : i < 256 := by omega
                    refine dt_aloadn dX12_oneSaying_143 rfl rfl ?_
                    refine dt_getR dX12_oneSaying_144 pg_X12_41_12 rfl rfl ?_
                    refine dt_iload dX12_oneSaying_147 rfl ?_
                    refine dt_aloadn dX12_oneSaying_149 rfl rfl ?_
                    refine dt_getR dX12_oneSaying_150 pg_X12_41_12 rfl rfl ?_
                    refine dt_iload dX12_oneSaying_153 rfl ?_
                    refine dt_zald dX12_oneSaying_155 rfl (by first | omega | (simp (disch := omega) only [dt_up_s, dt_up_k, dt_up_n]; omega)) (by first | omega | (simp (disch := omega) only [dt_up_s, dt_up_k, dt_up_n]; omega)) (by decide) ?_
                    rw [Int.toNat_natCast, jm i hi]
                    refine dt_if_eq (tgt := 173) dX12_oneSaying_156 (by decide) (by first | assumption | exact hwf _ _ | exact dt_b32 _ | omega | exact ⟨by omega, by omega⟩ | decide | exact ⟨by simp (disch := omega) only [dt_up_s, dt_up_k, dt_up_n]; omega, by simp (disch := omega) only [dt_up_s, dt_up_k, dt_up_n]; omega⟩) (fun c14 => ?_) (fun c14 => ?_)
                    · skip
                      try simp only [dt_b0, dt_b1, Decidable.not_not, Classical.not_not] at c14
                      have hnn : ¬ (Q i ∧ σs 47 i ≠ 0) := fun z => (show ¬ (Q i ∧ (i < i → σs 47 i ≠ 0)) by assumption) ⟨z.1, fun h => absurd h (Nat.lt_irrefl i)⟩
                      refine dt_iconst dX12_oneSaying_173 ?_
                      refine dt_zast dX12_oneSaying_174 rfl (by first | omega | (simp (disch := omega) only [dt_up_s, dt_up_k, dt_up_n]; omega)) (by first | omega | (simp (disch := omega) only [dt_up_s, dt_up_k, dt_up_n]; omega)) (by decide) (by first | exact Or.inl rfl | exact Or.inr rfl | assumption | omega) ?_
                      rw [Int.toNat_natCast]
                      refine dt_iinc dX12_oneSaying_175 rfl (by decide) rfl ?_
                      dsimp only [List.set]
                      refine dt_goto (tgt := 135) dX12_oneSaying_178 (by decide) ?_
                      have jm2 : mP (dt_up σ3 51 i 0) 51 256 (fun k => Q k ∧ (k < i + 1 → σs 47 k ≠ 0)) := fun k hk => by
                        by_cases e : k = i
                        · subst e; rw [dt_up_s]; exact (dt_bF (fun z => hnn ⟨z.1, z.2 (by omega)⟩)).symm
                        · rw [dt_up_k e, jm k hk]; exact dt_bc ⟨fun z => ⟨z.1, fun _ => z.2 (by omega)⟩, fun z => ⟨z.1, fun _ => z.2 (by omega)⟩⟩
                      exact dt_lb (ih (i + 1) _ (by omega) (by omega) (fun b hb => (dt_up_o hb).trans (jf b hb)) jm2) ⟨rfl, rfl, rfl, rfl, rfl, trivial⟩
                    · skip
                      try simp only [dt_b0, dt_b1, Decidable.not_not, Classical.not_not] at c14
                      have hqy : Q i := (show Q i ∧ (i < i → σs 47 i ≠ 0) by assumption).1
                      refine dt_wfV fun hwf => ?_
                      refine dt_aloadn dX12_oneSaying_159 rfl rfl ?_
                      refine dt_getR dX12_oneSaying_160 pg_X12_28_12 rfl rfl ?_
                      refine dt_iload dX12_oneSaying_163 rfl ?_
                      refine dt_zald dX12_oneSaying_165 rfl (by first | omega | (simp (disch := omega) only [dt_up_s, dt_up_k, dt_up_n]; omega)) (by first | omega | (simp (disch := omega) only [dt_up_s, dt_up_k, dt_up_n]; omega)) (by decide) ?_
                      rw [Int.toNat_natCast, show σ3 47 i = σs 47 i by rw [jf 47 (by decide)]]
                      refine dt_if_eq (tgt := 173) dX12_oneSaying_166 (by decide) (by have z := hwf 47 i; rw [jf 47 (by decide)] at z; exact z) (fun c15 => ?_) (fun c15 => ?_)
                      · skip
                        have hnn : ¬ (Q i ∧ σs 47 i ≠ 0) := fun z => z.2 (by assumption)
                        refine dt_iconst dX12_oneSaying_173 ?_
                        refine dt_zast dX12_oneSaying_174 rfl (by first | omega | (simp (disch := omega) only [dt_up_s, dt_up_k, dt_up_n]; omega)) (by first | omega | (simp (disch := omega) only [dt_up_s, dt_up_k, dt_up_n]; omega)) (by decide) (by first | exact Or.inl rfl | exact Or.inr rfl | assumption | omega) ?_
                        rw [Int.toNat_natCast]
                        refine dt_iinc dX12_oneSaying_175 rfl (by decide) rfl ?_
                        dsimp only [List.set]
                        refine dt_goto (tgt := 135) dX12_oneSaying_178 (by decide) ?_
                        have jm2 : mP (dt_up σ3 51 i 0) 51 256 (fun k => Q k ∧ (k < i + 1 → σs 47 k ≠ 0)) := fun k hk => by
                          by_cases e : k = i
                          · subst e; rw [dt_up_s]; exact (dt_bF (fun z => hnn ⟨z.1, z.2 (by omega)⟩)).symm
                          · rw [dt_up_k e, jm k hk]; exact dt_bc ⟨fun z => ⟨z.1, fun _ => z.2 (by omega)⟩, fun z => ⟨z.1, fun _ => z.2 (by omega)⟩⟩
                        exact dt_lb (ih (i + 1) _ (by omega) (by omega) (fun b hb => (dt_up_o hb).trans (jf b hb)) jm2) ⟨rfl, rfl, rfl, rfl, rfl, trivial⟩
                      · skip
                        have hpy : σs 47 i ≠ 0 := by assumption
                        refine dt_iconst dX12_oneSaying_169 ?_
                        refine dt_goto (tgt := 174) dX12_oneSaying_170 (by decide) ?_
                        refine dt_zast dX12_oneSaying_174 rfl (by first | omega | (simp (disch := omega) only [dt_up_s, dt_up_k, dt_up_n]; omega)) (by first | omega | (simp (disch := omega) only [dt_up_s, dt_up_k, dt_up_n]; omega)) (by decide) (by first | exact Or.inl rfl | exact Or.inr rfl | assumption | omega) ?_
                        rw [Int.toNat_natCast]
                        refine dt_iinc dX12_oneSaying_175 rfl (by decide) rfl ?_
                        dsimp only [List.set]
                        refine dt_goto (tgt := 135) dX12_oneSaying_178 (by decide) ?_
                        have jm2 : mP (dt_up σ3 51 i 1) 51 256 (fun k => Q k ∧ (k < i + 1 → σs 47 k ≠ 0)) := fun k hk => by
                          by_cases e : k = i
                          · subst e; rw [dt_up_s]; exact (dt_bT ⟨hqy, fun _ => hpy⟩).symm
                          · rw [dt_up_k e, jm k hk]; exact dt_bc ⟨fun z => ⟨z.1, fun _ => z.2 (by omega)⟩, fun z => ⟨z.1, fun _ => z.2 (by omega)⟩⟩
                        exact dt_lb (ih (i + 1) _ (by omega) (by omega) (fun b hb => (dt_up_o hb).trans (jf b hb)) jm2) ⟨rfl, rfl, rfl, rfl, rfl, trivial⟩
              exact dt_lb (lp135 300 0 σs (by omega) (by omega) (fun _ _ => rfl) (hQp.ext (fun k _ => ⟨fun z => ⟨z, fun h => absurd h (Nat.not_lt_zero k)⟩, fun z => z.1⟩))) ⟨rfl, rfl, rfl, rfl, rfl, trivial⟩
            · skip
              refine dt_aloadn dX12_oneSaying_77 rfl rfl ?_
              refine dt_getI dX12_oneSaying_78 pg_X12_274_12 rfl rfl ?_
              refine dt_if_ne (tgt := 132) dX12_oneSaying_81 (by decide) (by first | assumption | exact hwf _ _ | exact dt_b32 _ | omega | exact ⟨by omega, by omega⟩ | decide | exact ⟨by simp (disch := omega) only [dt_up_s, dt_up_k, dt_up_n]; omega, by simp (disch := omega) only [dt_up_s, dt_up_k, dt_up_n]; omega⟩) (fun c16 => ?_) (fun c16 => ?_)
              · skip
                have hfin : (∃ p, xOne X l = .ok p ∧ mP σs 47 256 p.1) ∨ ∃ e, xOne X l = .error e := by
                  rcases ks with ⟨h1, h2, h3, h4⟩ | ⟨e, h1, h2⟩
                  · rw [h1] at kB; exact absurd kB.1 (by assumption)
                  · exact Or.inr ⟨e, h2⟩
                have hBp : rBr σs q.2 st0 (x1S (xOne X l)) := by
                  rcases ks with ⟨h1, h2, h3, h4⟩ | ⟨e, h1, h2⟩
                  · rw [h1] at kB; exact absurd kB.1 (by assumption)
                  · rw [h2]; rw [h1] at kB; exact kB
                have hQp := kQ
                have hfp := kf
                refine dt_iconst dX12_oneSaying_132 ?_
                refine dt_istore dX12_oneSaying_133 (by decide) rfl ?_
                dsimp only [List.set]
                have lp135 : ∀ (fu : Nat) (i : Nat) (σ3 : dt_Mem), 256 - (i : Int) < (fu : Int) → (i ≤ 256) → (∀ b, b ≠ 51 → σ3 b = σs b) → (mP σ3 51 256 (fun k => Q k ∧ (k < i → σs 47 k ≠ 0))) →  dt_V mX12_oneSaying (dt_rm 3 0 0) (dt_MC (fun v sh2 σ2 => v = none ∧ sh2 = dt_SH ++ ex ∧ (∀ b k, (b ≠ 47 ∧ b ≠ 48 ∧ b ≠ 51) → (b ≠ 40 ∨ (k ≠ 1 ∧ k ≠ 24 ∧ k ≠ 25)) → σ2 b k = σ b k) ∧ rBr σ2 q.2 st0 (x1S (xOne X l)) ∧ ∀ p, xOne X l = .ok p → mP σ2 51 256 (fun k => Q k ∧ p.1 k)) 0 0) 0 0 135 [some (dt_R 40), some (dt_I r), some (dt_I day), some (dt_I n), none, some (dt_I (i : Int)), none] [] (dt_SH ++ ex) σ3 := by
                  intro fu
                  induction fu with
                  | zero =>
                    intro i σ3 hm ji jf jm
                    exfalso
                    omega
                  | succ fu ih =>
                    intro i σ3 hm ji jf jm
                    refine dt_wfV fun hwf => ?_
                    refine dt_iload dX12_oneSaying_135 rfl ?_
                    refine dt_sipush dX12_oneSaying_137 (by decide) ?_
                    refine dt_cm_ge (tgt := 181) dX12_oneSaying_140 (by decide) (by first | assumption | exact hwf _ _ | exact dt_b32 _ | omega | exact ⟨by omega, by omega⟩ | decide | exact ⟨by simp (disch := omega) only [dt_up_s, dt_up_k, dt_up_n]; omega, by simp (disch := omega) only [dt_up_s, dt_up_k, dt_up_n]; omega⟩) (by first | assumption | exact hwf _ _ | exact dt_b32 _ | omega | exact ⟨by omega, by omega⟩ | decide | exact ⟨by simp (disch := omega) only [dt_up_s, dt_up_k, dt_up_n]; omega, by simp (disch := omega) only [dt_up_s, dt_up_k, dt_up_n]; omega⟩) (fun c17 => ?_) (fun c17 => ?_)
                    · skip
                      refine dt_vret dX12_oneSaying_181 rfl (by decide) (by decide) ?_
                      obtain rfl : i = 256 := by omega
                      refine ⟨rfl, rfl, fun b k h1 h => (congrFun (jf b h1.2.2) k).trans (hfp b k h1 h), hBp.kept (jf 40 (by decide)), fun p hp => ?_⟩
                      rcases hfin with ⟨p2, h1, h2⟩ | ⟨e, h1⟩
                      · rw [h1] at hp
                        obtain rfl := Except.ok.inj hp
                        exact jm.ext (fun k hk => by
                          have h3 : σs 47 k ≠ 0 ↔ p2.1 k := by
                            rw [h2 k hk]
                            by_cases g : p2.1 k
                            · rw [dt_bT g]; exact ⟨fun _ => g, fun _ => by decide⟩
                            · rw [dt_bF g]; exact ⟨fun z => absurd rfl z, fun z => absurd z g⟩
                          exact ⟨fun z => ⟨z.1, h3.mp (z.2 hk)⟩, fun z => ⟨z.1, fun _ => h3.mpr z.2⟩⟩)
                      · rw [h1] at hp; cases hp
                    · skip
                      have hi : i < 256 := by omega
                      refine dt_aloadn dX12_oneSaying_143 rfl rfl ?_
                      refine dt_getR dX12_oneSaying_144 pg_X12_41_12 rfl rfl ?_
                      refine dt_iload dX12_oneSaying_147 rfl ?_
                      refine dt_aloadn dX12_oneSaying_149 rfl rfl ?_
                      refine dt_getR dX12_oneSaying_150 pg_X12_41_12 rfl rfl ?_
                      refine dt_iload dX12_oneSaying_153 rfl ?_
                      refine dt_zald dX12_oneSaying_155 rfl (by first | omega | (simp (disch := omega) only [dt_up_s, dt_up_k, dt_up_n]; omega)) (by first | omega | (simp (disch := omega) only [dt_up_s, dt_up_k, dt_up_n]; omega)) (by decide) ?_
                      rw [Int.toNat_natCast, jm i hi]
                      refine dt_if_eq (tgt := 173) dX12_oneSaying_156 (by decide) (by first | assumption | exact hwf _ _ | exact dt_b32 _ | omega | exact ⟨by omega, by omega⟩ | decide | exact ⟨by simp (disch := omega) only [dt_up_s, dt_up_k, dt_up_n]; omega, by simp (disch := omega) only [dt_up_s, dt_up_k, dt_up_n]; omega⟩) (fun c18 => ?_) (fun c18 => ?_)
                      · skip
                        try simp only [dt_b0, dt_b1, Decidable.not_not, Classical.not_not] at c18
                        have hnn : ¬ (Q i ∧ σs 47 i ≠ 0) := fun z => (show ¬ (Q i ∧ (i < i → σs 47 i ≠ 0)) by assumption) ⟨z.1, fun h => absurd h (Nat.lt_irrefl i)⟩
                        refine dt_iconst dX12_oneSaying_173 ?_
                        refine dt_zast dX12_oneSaying_174 rfl (by first | omega | (simp (disch := omega) only [dt_up_s, dt_up_k, dt_up_n]; omega)) (by first | omega | (simp (disch := omega) only [dt_up_s, dt_up_k, dt_up_n]; omega)) (by decide) (by first | exact Or.inl rfl | exact Or.inr rfl | assumption | omega) ?_
                        rw [Int.toNat_natCast]
                        refine dt_iinc dX12_oneSaying_175 rfl (by decide) rfl ?_
                        dsimp only [List.set]
                        refine dt_goto (tgt := 135) dX12_oneSaying_178 (by decide) ?_
                        have jm2 : mP (dt_up σ3 51 i 0) 51 256 (fun k => Q k ∧ (k < i + 1 → σs 47 k ≠ 0)) := fun k hk => by
                          by_cases e : k = i
                          · subst e; rw [dt_up_s]; exact (dt_bF (fun z => hnn ⟨z.1, z.2 (by omega)⟩)).symm
                          · rw [dt_up_k e, jm k hk]; exact dt_bc ⟨fun z => ⟨z.1, fun _ => z.2 (by omega)⟩, fun z => ⟨z.1, fun _ => z.2 (by omega)⟩⟩
                        exact dt_lb (ih (i + 1) _ (by omega) (by omega) (fun b hb => (dt_up_o hb).trans (jf b hb)) jm2) ⟨rfl, rfl, rfl, rfl, rfl, trivial⟩
                      · skip
                        try simp only [dt_b0, dt_b1, Decidable.not_not, Classical.not_not] at c18
                        have hqy : Q i := (show Q i ∧ (i < i → σs 47 i ≠ 0) by assumption).1
                        refine dt_wfV fun hwf => ?_
                        refine dt_aloadn dX12_oneSaying_159 rfl rfl ?_
                        refine dt_getR dX12_oneSaying_160 pg_X12_28_12 rfl rfl ?_
                        refine dt_iload dX12_oneSaying_163 rfl ?_
                        refine dt_zald dX12_oneSaying_165 rfl (by first | omega | (simp (disch := omega) only [dt_up_s, dt_up_k, dt_up_n]; omega)) (by first | omega | (simp (disch := omega) only [dt_up_s, dt_up_k, dt_up_n]; omega)) (by decide) ?_
                        rw [Int.toNat_natCast, show σ3 47 i = σs 47 i by rw [jf 47 (by decide)]]
                        refine dt_if_eq (tgt := 173) dX12_oneSaying_166 (by decide) (by have z := hwf 47 i; rw [jf 47 (by decide)] at z; exact z) (fun c19 => ?_) (fun c19 => ?_)
                        · skip
                          have hnn : ¬ (Q i ∧ σs 47 i ≠ 0) := fun z => z.2 (by assumption)
                          refine dt_iconst dX12_oneSaying_173 ?_
                          refine dt_zast dX12_oneSaying_174 rfl (by first | omega | (simp (disch := omega) only [dt_up_s, dt_up_k, dt_up_n]; omega)) (by first | omega | (simp (disch := omega) only [dt_up_s, dt_up_k, dt_up_n]; omega)) (by decide) (by first | exact Or.inl rfl | exact Or.inr rfl | assumption | omega) ?_
                          rw [Int.toNat_natCast]
                          refine dt_iinc dX12_oneSaying_175 rfl (by decide) rfl ?_
                          dsimp only [List.set]
                          refine dt_goto (tgt := 135) dX12_oneSaying_178 (by decide) ?_
                          have jm2 : mP (dt_up σ3 51 i 0) 51 256 (fun k => Q k ∧ (k < i + 1 → σs 47 k ≠ 0)) := fun k hk => by
                            by_cases e : k = i
                            · subst e; rw [dt_up_s]; exact (dt_bF (fun z => hnn ⟨z.1, z.2 (by omega)⟩)).symm
                            · rw [dt_up_k e, jm k hk]; exact dt_bc ⟨fun z => ⟨z.1, fun _ => z.2 (by omega)⟩, fun z => ⟨z.1, fun _ => z.2 (by omega)⟩⟩
                          exact dt_lb (ih (i + 1) _ (by omega) (by omega) (fun b hb => (dt_up_o hb).trans (jf b hb)) jm2) ⟨rfl, rfl, rfl, rfl, rfl, trivial⟩
                        · skip
                          have hpy : σs 47 i ≠ 0 := by assumption
                          refine dt_iconst dX12_oneSaying_169 ?_
                          refine dt_goto (tgt := 174) dX12_oneSaying_170 (by decide) ?_
                          refine dt_zast dX12_oneSaying_174 rfl (by first | omega | (simp (disch := omega) only [dt_up_s, dt_up_k, dt_up_n]; omega)) (by first | omega | (simp (disch := omega) only [dt_up_s, dt_up_k, dt_up_n]; omega)) (by decide) (by first | exact Or.inl rfl | exact Or.inr rfl | assumption | omega) ?_
                          rw [Int.toNat_natCast]
                          refine dt_iinc dX12_oneSaying_175 rfl (by decide) rfl ?_
                          dsimp only [List.set]
                          refine dt_goto (tgt := 135) dX12_oneSaying_178 (by decide) ?_
                          have jm2 : mP (dt_up σ3 51 i 1) 51 256 (fun k => Q k ∧ (k < i + 1 → σs 47 k ≠ 0)) := fun k hk => by
                            by_cases e : k = i
                            · subst e; rw [dt_up_s]; exact (dt_bT ⟨hqy, fun _ => hpy⟩).symm
                            · rw [dt_up_k e, jm k hk]; exact dt_bc ⟨fun z => ⟨z.1, fun _ => z.2 (by omega)⟩, fun z => ⟨z.1, fun _ => z.2 (by omega)⟩⟩
                          exact dt_lb (ih (i + 1) _ (by omega) (by omega) (fun b hb => (dt_up_o hb).trans (jf b hb)) jm2) ⟨rfl, rfl, rfl, rfl, rfl, trivial⟩
                exact dt_lb (lp135 300 0 σs (by omega) (by omega) (fun _ _ => rfl) (hQp.ext (fun k _ => ⟨fun z => ⟨z, fun h => absurd h (Nat.not_lt_zero k)⟩, fun z => z.1⟩))) ⟨rfl, rfl, rfl, rfl, rfl, trivial⟩
              · skip
                obtain ⟨h1, h2, h3, h4⟩ | ⟨e, h1, h2⟩ := ks
                rotate_left
                · exfalso; rw [h1] at kB; obtain ⟨z1, z2⟩ := kB; omega
                subst h1
                refine dt_aloadn dX12_oneSaying_84 rfl rfl ?_
                refine dt_iloadn dX12_oneSaying_85 rfl rfl ?_
                refine dt_xV dX12_oneSaying_86 pc_X12_280 rfl (s_X12_nextItem hr1 hr2 (hrow.kept (kf 41 _ (by decide) (Or.inl (by decide))) (kf 42 _ (by decide) (Or.inl (by decide))) (fun _ _ => kf 43 _ (by decide) (Or.inl (by decide)))) kB) rfl rfl ⟨by decide, by decide⟩ rfl rfl (Nat.le_of_ble_eq_true rfl) ⟨by decide, by decide⟩ ?_
                intro vf shf σf hqf
                obtain ⟨rfl, hsf, hff, hBf, hif⟩ := hqf
                obtain rfl := hsf.symm
                obtain ⟨w, hw0⟩ : ∃ w, w = nxV (.ok (l2.drop z)) := ⟨_, rfl⟩
                rw [← hw0] at hif ⊢
                have gF : ∀ b k, (b ≠ 47 ∧ b ≠ 48 ∧ b ≠ 51) → (b ≠ 40 ∨ (k ≠ 1 ∧ k ≠ 24 ∧ k ≠ 25)) → σf b k = σ b k := fun b k h1 h => (hff b k h).trans (kf b k h1 h)
                have hXf : rX σf X := hX.kept (funext fun k => gF 44 k (by decide) (Or.inl (by decide)))
                refine dt_istore dX12_oneSaying_89 (by decide) rfl ?_
                dsimp only [List.set]
                refine dt_aloadn dX12_oneSaying_91 rfl rfl ?_
                refine dt_aloadn dX12_oneSaying_92 rfl rfl ?_
                refine dt_iload dX12_oneSaying_93 rfl ?_
                refine dt_iload dX12_oneSaying_95 rfl ?_
                refine dt_xV dX12_oneSaying_97 pc_X12_212 rfl (s_X12_isWord hXf (by omega) hif) rfl rfl ⟨by decide, by decide⟩ rfl rfl (Nat.le_of_ble_eq_true rfl) ⟨by decide, by decide⟩ (dt_k3 ?_)
                refine dt_if_ne (tgt := 107) dX12_oneSaying_100 (by decide) (by first | assumption | exact hwf _ _ | exact dt_b32 _ | omega | exact ⟨by omega, by omega⟩ | decide | exact ⟨by simp (disch := omega) only [dt_up_s, dt_up_k, dt_up_n]; omega, by simp (disch := omega) only [dt_up_s, dt_up_k, dt_up_n]; omega⟩) (fun c20 => ?_) (fun c20 => ?_)
                · skip
                  try simp only [dt_b0, dt_b1, Decidable.not_not, Classical.not_not] at c20
                  have hwx : xAt X t w ≠ none := by assumption
                  refine dt_iconst dX12_oneSaying_107 ?_
                  refine dt_xV dX12_oneSaying_108 pc_X12_283 rfl (s_X12_bars hBf (by decide)) rfl rfl ⟨by decide, by decide⟩ rfl rfl (Nat.le_of_ble_eq_true rfl) ⟨by decide, by decide⟩ ?_
                  intro vg shg σg hqg
                  obtain ⟨rfl, hsg, hfg, hBg⟩ := hqg
                  obtain rfl := hsg.symm
                  have gG : ∀ b k, (b ≠ 47 ∧ b ≠ 48 ∧ b ≠ 51) → (b ≠ 40 ∨ (k ≠ 1 ∧ k ≠ 24 ∧ k ≠ 25)) → σg b k = σ b k := fun b k h1 h => (hfg b k (by omega)).trans (gF b k h1 h)
                  have hgm : ∀ b, b ≠ 40 → σg b = σs b := fun b hb => funext fun k => (hfg b k (Or.inl hb)).trans (hff b k (Or.inl hb))
                  refine dt_wfV fun hwf => ?_
                  refine dt_aloadn dX12_oneSaying_111 rfl rfl ?_
                  refine dt_getI dX12_oneSaying_112 pg_X12_274_12 rfl rfl ?_
                  refine dt_if_ne (tgt := 126) dX12_oneSaying_115 (by decide) (by first | assumption | exact hwf _ _ | exact dt_b32 _ | omega | exact ⟨by omega, by omega⟩ | decide | exact ⟨by simp (disch := omega) only [dt_up_s, dt_up_k, dt_up_n]; omega, by simp (disch := omega) only [dt_up_s, dt_up_k, dt_up_n]; omega⟩) (fun c21 => ?_) (fun c21 => ?_)
                  · skip
                    have hxe : ∃ e, bsS 0 (nxS (.ok (l2.drop z))) = .error e ∧ xOne X l = .error e := by
                      rcases Nat.lt_or_ge z l2.length with g | g
                      · obtain ⟨x, hx⟩ := dt_lg g
                        rw [drop_c hx] at hBg hw0 ⊢
                        exact absurd hBg.1 (by assumption)
                      · rw [List.drop_of_length_le g]
                        refine ⟨-1000012, rfl, ?_⟩
                        rw [hl]
                        exact xOne_p hd0 ⟨hn0, hn6⟩ (by rw [ht, List.take_of_length_le (by omega)]; rw [List.take_of_length_le g] at h3; exact h3) (by omega)
                    obtain ⟨e, hxe1, hxe2⟩ := hxe
                    rw [hxe1] at hBg
                    refine dt_iinc dX12_oneSaying_126 rfl (by decide) rfl ?_
                    dsimp only [List.set]
                    refine dt_goto (tgt := 71) dX12_oneSaying_129 (by decide) ?_
                    exact dt_lb (ih (z + 1) P (.error e) σg (by omega) (by omega) hBg (kQ.kept (hgm 51 (by decide))) gG (Or.inr ⟨e, rfl, hxe2⟩)) ⟨rfl, rfl, rfl, rfl, rfl, rfl, trivial⟩
                  · skip
                    obtain ⟨x, hx⟩ : ∃ x, l2[z]? = some x := by
                      rcases Nat.lt_or_ge z l2.length with g | g
                      · exact dt_lg g
                      · exfalso
                        rw [List.drop_of_length_le g] at hBg
                        obtain ⟨z1, z2⟩ : σg 40 25 = -1000012 ∧ _ := hBg
                        omega
                    rw [drop_c hx] at hBg hw0
                    obtain rfl : w = x := hw0
                    obtain ⟨t2, wn, wd, et, rfl, hw⟩ := xAt_ne hwx
                    obtain rfl : t = t2 := by omega
                    have hXg : rX σg X := hX.kept (funext fun k => gG 44 k (by decide) (Or.inl (by decide)))
                    refine dt_aloadn dX12_oneSaying_118 rfl rfl ?_
                    refine dt_iload dX12_oneSaying_119 rfl ?_
                    refine dt_iload dX12_oneSaying_121 rfl ?_
                    refine dt_xV dX12_oneSaying_123 pc_X12_237 rfl (s_X12_mean hXg hw (h4.kept (hgm 47 (by decide)))) rfl rfl ⟨by decide, by decide⟩ rfl rfl (Nat.le_of_ble_eq_true rfl) ⟨by decide, by decide⟩ ?_
                    intro vm shm σm hqm
                    obtain ⟨rfl, hsm, hfm, hMm⟩ := hqm
                    obtain rfl := hsm.symm
                    refine dt_iinc dX12_oneSaying_126 rfl (by decide) rfl ?_
                    dsimp only [List.set]
                    refine dt_goto (tgt := 71) dX12_oneSaying_129 (by decide) ?_
                    have hMmm := hMm
                    exact dt_lb (ih (z + 1) (xSay P wd.2) (.ok (l2.drop (z + 1))) σm (by omega) (by omega) (hBg.kept (hfm 40 (by decide) (by decide))) (kQ.kept ((hfm 51 (by decide) (by decide)).trans (hgm 51 (by decide)))) (fun b k h1 h => (congrFun (hfm b h1.1 h1.2.1) k).trans (gG b k h1 h)) (Or.inl ⟨rfl, by have := dt_gl hx; omega, by rw [xSd_s hx, h3]; exact xSd1_y (xAt_of hw), hMm⟩)) ⟨rfl, rfl, rfl, rfl, rfl, rfl, trivial⟩
                · skip
                  try simp only [dt_b0, dt_b1, Decidable.not_not, Classical.not_not] at c20
                  have hwx : xAt X t w = none := by first | assumption | exact Classical.not_not.mp (by assumption)
                  refine dt_iconst dX12_oneSaying_103 ?_
                  refine dt_goto (tgt := 108) dX12_oneSaying_104 (by decide) ?_
                  refine dt_xV dX12_oneSaying_108 pc_X12_283 rfl (s_X12_bars hBf (by decide)) rfl rfl ⟨by decide, by decide⟩ rfl rfl (Nat.le_of_ble_eq_true rfl) ⟨by decide, by decide⟩ ?_
                  intro vg shg σg hqg
                  obtain ⟨rfl, hsg, hfg, hBg⟩ := hqg
                  obtain rfl := hsg.symm
                  have gG : ∀ b k, (b ≠ 47 ∧ b ≠ 48 ∧ b ≠ 51) → (b ≠ 40 ∨ (k ≠ 1 ∧ k ≠ 24 ∧ k ≠ 25)) → σg b k = σ b k := fun b k h1 h => (hfg b k (by omega)).trans (gF b k h1 h)
                  have hgm : ∀ b, b ≠ 40 → σg b = σs b := fun b hb => funext fun k => (hfg b k (Or.inl hb)).trans (hff b k (Or.inl hb))
                  refine dt_wfV fun hwf => ?_
                  refine dt_aloadn dX12_oneSaying_111 rfl rfl ?_
                  refine dt_getI dX12_oneSaying_112 pg_X12_274_12 rfl rfl ?_
                  refine dt_if_ne (tgt := 126) dX12_oneSaying_115 (by decide) (by first | assumption | exact hwf _ _ | exact dt_b32 _ | omega | exact ⟨by omega, by omega⟩ | decide | exact ⟨by simp (disch := omega) only [dt_up_s, dt_up_k, dt_up_n]; omega, by simp (disch := omega) only [dt_up_s, dt_up_k, dt_up_n]; omega⟩) (fun c22 => ?_) (fun c22 => ?_)
                  · skip
                    have hxe : ∃ e, bsS 1 (nxS (.ok (l2.drop z))) = .error e ∧ xOne X l = .error e := by
                      rcases Nat.lt_or_ge z l2.length with g | g
                      · obtain ⟨x, hx⟩ := dt_lg g
                        rw [drop_c hx] at hBg hw0 ⊢
                        obtain rfl : w = x := hw0
                        refine ⟨-1000001, rfl, ?_⟩
                        rw [hl]
                        exact xOne_w hd0 ⟨hn0, hn6⟩ (by rw [ht]; exact xSd_no (j := z) (by rw [List.getElem?_take_of_lt (by omega)]; exact hx) hwx)
                      · rw [List.drop_of_length_le g]
                        refine ⟨-1000012, rfl, ?_⟩
                        rw [hl]
                        exact xOne_p hd0 ⟨hn0, hn6⟩ (by rw [ht, List.take_of_length_le (by omega)]; rw [List.take_of_length_le g] at h3; exact h3) (by omega)
                    obtain ⟨e, hxe1, hxe2⟩ := hxe
                    rw [hxe1] at hBg
                    refine dt_iinc dX12_oneSaying_126 rfl (by decide) rfl ?_
                    dsimp only [List.set]
                    refine dt_goto (tgt := 71) dX12_oneSaying_129 (by decide) ?_
                    exact dt_lb (ih (z + 1) P (.error e) σg (by omega) (by omega) hBg (kQ.kept (hgm 51 (by decide))) gG (Or.inr ⟨e, rfl, hxe2⟩)) ⟨rfl, rfl, rfl, rfl, rfl, rfl, trivial⟩
                  · skip
                    exfalso
                    rcases Nat.lt_or_ge z l2.length with g | g
                    · obtain ⟨x, hx⟩ := dt_lg g
                      rw [drop_c hx] at hBg
                      obtain ⟨z1, z2⟩ : σg 40 25 = -1000001 ∧ _ := hBg
                      omega
                    · rw [List.drop_of_length_le g] at hBg
                      obtain ⟨z1, z2⟩ : σg 40 25 = -1000012 ∧ _ := hBg
                      omega
        exact dt_lb (lp71 9 0 xZ (.ok l2) σs (by omega) (by omega) hBs hQs fS (Or.inl ⟨rfl, Nat.zero_le _, rfl, hMs⟩)) ⟨rfl, rfl, rfl, rfl, rfl, rfl, trivial⟩
    · skip
      try simp only [dt_b0, dt_b1, Decidable.not_not, Classical.not_not] at c2
      have hb2 : ((1 : Int) = 1 ∧ ¬ (0 ≤ n ∧ n ≤ 6)) ∨ ((1 : Int) = 0 ∧ (0 ≤ n ∧ n ≤ 6)) := Or.inl ⟨rfl, by omega⟩
      refine dt_iconst dX12_oneSaying_38 ?_
      refine dt_goto (tgt := 43) dX12_oneSaying_39 (by decide) ?_
      refine dt_xV dX12_oneSaying_43 pc_X12_283 rfl (s_X12_bars hBc (by decide)) rfl rfl ⟨by decide, by decide⟩ rfl rfl (Nat.le_of_ble_eq_true rfl) ⟨by decide, by decide⟩ ?_
      intro ve she σe hqe
      obtain ⟨rfl, hse, hfe, hBe⟩ := hqe
      obtain rfl := hse.symm
      have fE : ∀ b k, (b ≠ 40 ∨ (k ≠ 1 ∧ k ≠ 24 ∧ k ≠ 25)) → σe b k = σ b k := fun b k h => (hfe b k (by omega)).trans (fC b k h)
      have hh := one_hd (X := X) hday hn hb hb2
      have hXe : rX σe X := hX.kept (funext fun k => fE 44 k (Or.inl (by decide)))
      refine dt_wfV fun hwf => ?_
      refine dt_aloadn dX12_oneSaying_46 rfl rfl ?_
      refine dt_getI dX12_oneSaying_47 pg_X12_274_12 rfl rfl ?_
      refine dt_if_ne (tgt := 61) dX12_oneSaying_50 (by decide) (by first | assumption | exact hwf _ _ | exact dt_b32 _ | omega | exact ⟨by omega, by omega⟩ | decide | exact ⟨by simp (disch := omega) only [dt_up_s, dt_up_k, dt_up_n]; omega, by simp (disch := omega) only [dt_up_s, dt_up_k, dt_up_n]; omega⟩) (fun c23 => ?_) (fun c23 => ?_)
      · skip
        obtain ⟨e, h4, hx⟩ | ⟨l2, h4, -⟩ := hh
        rotate_left
        · exfalso; rw [h4] at hBe; exact absurd hBe.1 (by assumption)
        rw [h4] at hBe
        refine dt_iconst dX12_oneSaying_61 ?_
        refine dt_istore dX12_oneSaying_62 (by decide) rfl ?_
        dsimp only [List.set]
        refine dt_aloadn dX12_oneSaying_64 rfl rfl ?_
        refine dt_xV dX12_oneSaying_65 pc_X12_234 rfl s_X12_startMeaning rfl rfl ⟨by decide, by decide⟩ rfl rfl (Nat.le_of_ble_eq_true rfl) ⟨by decide, by decide⟩ ?_
        intro vs shs σs hqs
        obtain ⟨rfl, hss, hfs, hMs⟩ := hqs
        obtain rfl := hss.symm
        have fS : ∀ b k, (b ≠ 47 ∧ b ≠ 48 ∧ b ≠ 51) → (b ≠ 40 ∨ (k ≠ 1 ∧ k ≠ 24 ∧ k ≠ 25)) → σs b k = σ b k := fun b k h1 h => (congrFun (hfs b h1.1) k).trans (fE b k h)
        have hBs := hBe.kept (hfs 40 (by decide))
        have hQs : mP σs 51 256 Q := hQ.kept (funext fun k => (congrFun (hfs 51 (by decide)) k).trans (fE 51 k (Or.inl (by decide))))
        refine dt_wfV fun hwf => ?_
        refine dt_iconst dX12_oneSaying_68 ?_
        refine dt_istore dX12_oneSaying_69 (by decide) rfl ?_
        dsimp only [List.set]
        refine dt_iload dX12_oneSaying_71 rfl ?_
        refine dt_iloadn dX12_oneSaying_73 rfl rfl ?_
        refine dt_cm_ge (tgt := 132) dX12_oneSaying_74 (by decide) (by first | assumption | exact hwf _ _ | exact dt_b32 _ | omega | exact ⟨by omega, by omega⟩ | decide | exact ⟨by simp (disch := omega) only [dt_up_s, dt_up_k, dt_up_n]; omega, by simp (disch := omega) only [dt_up_s, dt_up_k, dt_up_n]; omega⟩) (by first | assumption | exact hwf _ _ | exact dt_b32 _ | omega | exact ⟨by omega, by omega⟩ | decide | exact ⟨by simp (disch := omega) only [dt_up_s, dt_up_k, dt_up_n]; omega, by simp (disch := omega) only [dt_up_s, dt_up_k, dt_up_n]; omega⟩) (fun c24 => ?_) (fun c24 => ?_)
        · skip
          have hfin : (∃ p, xOne X l = .ok p ∧ mP σs 47 256 p.1) ∨ ∃ e, xOne X l = .error e := Or.inr ⟨e, hx⟩
          have hBp : rBr σs q.2 st0 (x1S (xOne X l)) := by rw [hx]; exact hBs
          have hQp := hQs
          have hfp := fS
          refine dt_iconst dX12_oneSaying_132 ?_
          refine dt_istore dX12_oneSaying_133 (by decide) rfl ?_
          dsimp only [List.set]
          have lp135 : ∀ (fu : Nat) (i : Nat) (σ3 : dt_Mem), 256 - (i : Int) < (fu : Int) → (i ≤ 256) → (∀ b, b ≠ 51 → σ3 b = σs b) → (mP σ3 51 256 (fun k => Q k ∧ (k < i → σs 47 k ≠ 0))) →  dt_V mX12_oneSaying (dt_rm 3 0 0) (dt_MC (fun v sh2 σ2 => v = none ∧ sh2 = dt_SH ++ ex ∧ (∀ b k, (b ≠ 47 ∧ b ≠ 48 ∧ b ≠ 51) → (b ≠ 40 ∨ (k ≠ 1 ∧ k ≠ 24 ∧ k ≠ 25)) → σ2 b k = σ b k) ∧ rBr σ2 q.2 st0 (x1S (xOne X l)) ∧ ∀ p, xOne X l = .ok p → mP σ2 51 256 (fun k => Q k ∧ p.1 k)) 0 0) 0 0 135 [some (dt_R 40), some (dt_I r), some (dt_I day), some (dt_I n), none, some (dt_I (i : Int)), none] [] (dt_SH ++ ex) σ3 := by
            intro fu
            induction fu with
            | zero =>
              intro i σ3 hm ji jf jm
              exfalso
              omega
            | succ fu ih =>
              intro i σ3 hm ji jf jm
              refine dt_wfV fun hwf => ?_
              refine dt_iload dX12_oneSaying_135 rfl ?_
              refine dt_sipush dX12_oneSaying_137 (by decide) ?_
              refine dt_cm_ge (tgt := 181) dX12_oneSaying_140 (by decide) (by first | assumption | exact hwf _ _ | exact dt_b32 _ | omega | exact ⟨by omega, by omega⟩ | decide | exact ⟨by simp (disch := omega) only [dt_up_s, dt_up_k, dt_up_n]; omega, by simp (disch := omega) only [dt_up_s, dt_up_k, dt_up_n]; omega⟩) (by first | assumption | exact hwf _ _ | exact dt_b32 _ | omega | exact ⟨by omega, by omega⟩ | decide | exact ⟨by simp (disch := omega) only [dt_up_s, dt_up_k, dt_up_n]; omega, by simp (disch := omega) only [dt_up_s, dt_up_k, dt_up_n]; omega⟩) (fun c25 => ?_) (fun c25 => ?_)
              · skip
                refine dt_vret dX12_oneSaying_181 rfl (by decide) (by decide) ?_
                obtain rfl : i = 256 := by omega
                refine ⟨rfl, rfl, fun b k h1 h => (congrFun (jf b h1.2.2) k).trans (hfp b k h1 h), hBp.kept (jf 40 (by decide)), fun p hp => ?_⟩
                rcases hfin with ⟨p2, h1, h2⟩ | ⟨e, h1⟩
                · rw [h1] at hp
                  obtain rfl := Except.ok.inj hp
                  exact jm.ext (fun k hk => by
                    have h3 : σs 47 k ≠ 0 ↔ p2.1 k := by
                      rw [h2 k hk]
                      by_cases g : p2.1 k
                      · rw [dt_bT g]; exact ⟨fun _ => g, fun _ => by decide⟩
                      · rw [dt_bF g]; exact ⟨fun z => absurd rfl z, fun z => absurd z g⟩
                    exact ⟨fun z => ⟨z.1, h3.mp (z.2 hk)⟩, fun z => ⟨z.1, fun _ => h3.mpr z.2⟩⟩)
                · rw [h1] at hp; cases hp
              · skip
                have hi : i < 256 := by omega
                refine dt_aloadn dX12_oneSaying_143 rfl rfl ?_
                refine dt_getR dX12_oneSaying_144 pg_X12_41_12 rfl rfl ?_
                refine dt_iload dX12_oneSaying_147 rfl ?_
                refine dt_aloadn dX12_oneSaying_149 rfl rfl ?_
                refine dt_getR dX12_oneSaying_150 pg_X12_41_12 rfl rfl ?_
                refine dt_iload dX12_oneSaying_153 rfl ?_
                refine dt_zald dX12_oneSaying_155 rfl (by first | omega | (simp (disch := omega) only [dt_up_s, dt_up_k, dt_up_n]; omega)) (by first | omega | (simp (disch := omega) only [dt_up_s, dt_up_k, dt_up_n]; omega)) (by decide) ?_
                rw [Int.toNat_natCast, jm i hi]
                refine dt_if_eq (tgt := 173) dX12_oneSaying_156 (by decide) (by first | assumption | exact hwf _ _ | exact dt_b32 _ | omega | exact ⟨by omega, by omega⟩ | decide | exact ⟨by simp (disch := omega) only [dt_up_s, dt_up_k, dt_up_n]; omega, by simp (disch := omega) only [dt_up_s, dt_up_k, dt_up_n]; omega⟩) (fun c26 => ?_) (fun c26 => ?_)
                · skip
                  try simp only [dt_b0, dt_b1, Decidable.not_not, Classical.not_not] at c26
                  have hnn : ¬ (Q i ∧ σs 47 i ≠ 0) := fun z => (show ¬ (Q i ∧ (i < i → σs 47 i ≠ 0)) by assumption) ⟨z.1, fun h => absurd h (Nat.lt_irrefl i)⟩
                  refine dt_iconst dX12_oneSaying_173 ?_
                  refine dt_zast dX12_oneSaying_174 rfl (by first | omega | (simp (disch := omega) only [dt_up_s, dt_up_k, dt_up_n]; omega)) (by first | omega | (simp (disch := omega) only [dt_up_s, dt_up_k, dt_up_n]; omega)) (by decide) (by first | exact Or.inl rfl | exact Or.inr rfl | assumption | omega) ?_
                  rw [Int.toNat_natCast]
                  refine dt_iinc dX12_oneSaying_175 rfl (by decide) rfl ?_
                  dsimp only [List.set]
                  refine dt_goto (tgt := 135) dX12_oneSaying_178 (by decide) ?_
                  have jm2 : mP (dt_up σ3 51 i 0) 51 256 (fun k => Q k ∧ (k < i + 1 → σs 47 k ≠ 0)) := fun k hk => by
                    by_cases e : k = i
                    · subst e; rw [dt_up_s]; exact (dt_bF (fun z => hnn ⟨z.1, z.2 (by omega)⟩)).symm
                    · rw [dt_up_k e, jm k hk]; exact dt_bc ⟨fun z => ⟨z.1, fun _ => z.2 (by omega)⟩, fun z => ⟨z.1, fun _ => z.2 (by omega)⟩⟩
                  exact dt_lb (ih (i + 1) _ (by omega) (by omega) (fun b hb => (dt_up_o hb).trans (jf b hb)) jm2) ⟨rfl, rfl, rfl, rfl, rfl, trivial⟩
                · skip
                  try simp only [dt_b0, dt_b1, Decidable.not_not, Classical.not_not] at c26
                  have hqy : Q i := (show Q i ∧ (i < i → σs 47 i ≠ 0) by assumption).1
                  refine dt_wfV fun hwf => ?_
                  refine dt_aloadn dX12_oneSaying_159 rfl rfl ?_
                  refine dt_getR dX12_oneSaying_160 pg_X12_28_12 rfl rfl ?_
                  refine dt_iload dX12_oneSaying_163 rfl ?_
                  refine dt_zald dX12_oneSaying_165 rfl (by first | omega | (simp (disch := omega) only [dt_up_s, dt_up_k, dt_up_n]; omega)) (by first | omega | (simp (disch := omega) only [dt_up_s, dt_up_k, dt_up_n]; omega)) (by decide) ?_
                  rw [Int.toNat_natCast, show σ3 47 i = σs 47 i by rw [jf 47 (by decide)]]
                  refine dt_if_eq (tgt := 173) dX12_oneSaying_166 (by decide) (by have z := hwf 47 i; rw [jf 47 (by decide)] at z; exact z) (fun c27 => ?_) (fun c27 => ?_)
                  · skip
                    have hnn : ¬ (Q i ∧ σs 47 i ≠ 0) := fun z => z.2 (by assumption)
                    refine dt_iconst dX12_oneSaying_173 ?_
                    refine dt_zast dX12_oneSaying_174 rfl (by first | omega | (simp (disch := omega) only [dt_up_s, dt_up_k, dt_up_n]; omega)) (by first | omega | (simp (disch := omega) only [dt_up_s, dt_up_k, dt_up_n]; omega)) (by decide) (by first | exact Or.inl rfl | exact Or.inr rfl | assumption | omega) ?_
                    rw [Int.toNat_natCast]
                    refine dt_iinc dX12_oneSaying_175 rfl (by decide) rfl ?_
                    dsimp only [List.set]
                    refine dt_goto (tgt := 135) dX12_oneSaying_178 (by decide) ?_
                    have jm2 : mP (dt_up σ3 51 i 0) 51 256 (fun k => Q k ∧ (k < i + 1 → σs 47 k ≠ 0)) := fun k hk => by
                      by_cases e : k = i
                      · subst e; rw [dt_up_s]; exact (dt_bF (fun z => hnn ⟨z.1, z.2 (by omega)⟩)).symm
                      · rw [dt_up_k e, jm k hk]; exact dt_bc ⟨fun z => ⟨z.1, fun _ => z.2 (by omega)⟩, fun z => ⟨z.1, fun _ => z.2 (by omega)⟩⟩
                    exact dt_lb (ih (i + 1) _ (by omega) (by omega) (fun b hb => (dt_up_o hb).trans (jf b hb)) jm2) ⟨rfl, rfl, rfl, rfl, rfl, trivial⟩
                  · skip
                    have hpy : σs 47 i ≠ 0 := by assumption
                    refine dt_iconst dX12_oneSaying_169 ?_
                    refine dt_goto (tgt := 174) dX12_oneSaying_170 (by decide) ?_
                    refine dt_zast dX12_oneSaying_174 rfl (by first | omega | (simp (disch := omega) only [dt_up_s, dt_up_k, dt_up_n]; omega)) (by first | omega | (simp (disch := omega) only [dt_up_s, dt_up_k, dt_up_n]; omega)) (by decide) (by first | exact Or.inl rfl | exact Or.inr rfl | assumption | omega) ?_
                    rw [Int.toNat_natCast]
                    refine dt_iinc dX12_oneSaying_175 rfl (by decide) rfl ?_
                    dsimp only [List.set]
                    refine dt_goto (tgt := 135) dX12_oneSaying_178 (by decide) ?_
                    have jm2 : mP (dt_up σ3 51 i 1) 51 256 (fun k => Q k ∧ (k < i + 1 → σs 47 k ≠ 0)) := fun k hk => by
                      by_cases e : k = i
                      · subst e; rw [dt_up_s]; exact (dt_bT ⟨hqy, fun _ => hpy⟩).symm
                      · rw [dt_up_k e, jm k hk]; exact dt_bc ⟨fun z => ⟨z.1, fun _ => z.2 (by omega)⟩, fun z => ⟨z.1, fun _ => z.2 (by omega)⟩⟩
                    exact dt_lb (ih (i + 1) _ (by omega) (by omega) (fun b hb => (dt_up_o hb).trans (jf b hb)) jm2) ⟨rfl, rfl, rfl, rfl, rfl, trivial⟩
          exact dt_lb (lp135 300 0 σs (by omega) (by omega) (fun _ _ => rfl) (hQp.ext (fun k _ => ⟨fun z => ⟨z, fun h => absurd h (Nat.not_lt_zero k)⟩, fun z => z.1⟩))) ⟨rfl, rfl, rfl, rfl, rfl, trivial⟩
        · skip
          refine dt_aloadn dX12_oneSaying_77 rfl rfl ?_
          refine dt_getI dX12_oneSaying_78 pg_X12_274_12 rfl rfl ?_
          refine dt_if_ne (tgt := 132) dX12_oneSaying_81 (by decide) (by first | assumption | exact hwf _ _ | exact dt_b32 _ | omega | exact ⟨by omega, by omega⟩ | decide | exact ⟨by simp (disch := omega) only [dt_up_s, dt_up_k, dt_up_n]; omega, by simp (disch := omega) only [dt_up_s, dt_up_k, dt_up_n]; omega⟩) (fun c28 => ?_) (fun c28 => ?_)
          · skip
            have hfin : (∃ p, xOne X l = .ok p ∧ mP σs 47 256 p.1) ∨ ∃ e, xOne X l = .error e := Or.inr ⟨e, hx⟩
            have hBp : rBr σs q.2 st0 (x1S (xOne X l)) := by rw [hx]; exact hBs
            have hQp := hQs
            have hfp := fS
            refine dt_iconst dX12_oneSaying_132 ?_
            refine dt_istore dX12_oneSaying_133 (by decide) rfl ?_
            dsimp only [List.set]
            have lp135 : ∀ (fu : Nat) (i : Nat) (σ3 : dt_Mem), 256 - (i : Int) < (fu : Int) → (i ≤ 256) → (∀ b, b ≠ 51 → σ3 b = σs b) → (mP σ3 51 256 (fun k => Q k ∧ (k < i → σs 47 k ≠ 0))) →  dt_V mX12_oneSaying (dt_rm 3 0 0) (dt_MC (fun v sh2 σ2 => v = none ∧ sh2 = dt_SH ++ ex ∧ (∀ b k, (b ≠ 47 ∧ b ≠ 48 ∧ b ≠ 51) → (b ≠ 40 ∨ (k ≠ 1 ∧ k ≠ 24 ∧ k ≠ 25)) → σ2 b k = σ b k) ∧ rBr σ2 q.2 st0 (x1S (xOne X l)) ∧ ∀ p, xOne X l = .ok p → mP σ2 51 256 (fun k => Q k ∧ p.1 k)) 0 0) 0 0 135 [some (dt_R 40), some (dt_I r), some (dt_I day), some (dt_I n), none, some (dt_I (i : Int)), none] [] (dt_SH ++ ex) σ3 := by
              intro fu
              induction fu with
              | zero =>
                intro i σ3 hm ji jf jm
                exfalso
                omega
              | succ fu ih =>
                intro i σ3 hm ji jf jm
                refine dt_wfV fun hwf => ?_
                refine dt_iload dX12_oneSaying_135 rfl ?_
                refine dt_sipush dX12_oneSaying_137 (by decide) ?_
                refine dt_cm_ge (tgt := 181) dX12_oneSaying_140 (by decide) (by first | assumption | exact hwf _ _ | exact dt_b32 _ | omega | exact ⟨by omega, by omega⟩ | decide | exact ⟨by simp (disch := omega) only [dt_up_s, dt_up_k, dt_up_n]; omega, by simp (disch := omega) only [dt_up_s, dt_up_k, dt_up_n]; omega⟩) (by first | assumption | exact hwf _ _ | exact dt_b32 _ | omega | exact ⟨by omega, by omega⟩ | decide | exact ⟨by simp (disch := omega) only [dt_up_s, dt_up_k, dt_up_n]; omega, by simp (disch := omega) only [dt_up_s, dt_up_k, dt_up_n]; omega⟩) (fun c29 => ?_) (fun c29 => ?_)
                · skip
                  refine dt_vret dX12_oneSaying_181 rfl (by decide) (by decide) ?_
                  obtain rfl : i = 256 := by omega
                  refine ⟨rfl, rfl, fun b k h1 h => (congrFun (jf b h1.2.2) k).trans (hfp b k h1 h), hBp.kept (jf 40 (by decide)), fun p hp => ?_⟩
                  rcases hfin with ⟨p2, h1, h2⟩ | ⟨e, h1⟩
                  · rw [h1] at hp
                    obtain rfl := Except.ok.inj hp
                    exact jm.ext (fun k hk => by
                      have h3 : σs 47 k ≠ 0 ↔ p2.1 k := by
                        rw [h2 k hk]
                        by_cases g : p2.1 k
                        · rw [dt_bT g]; exact ⟨fun _ => g, fun _ => by decide⟩
                        · rw [dt_bF g]; exact ⟨fun z => absurd rfl z, fun z => absurd z g⟩
                      exact ⟨fun z => ⟨z.1, h3.mp (z.2 hk)⟩, fun z => ⟨z.1, fun _ => h3.mpr z.2⟩⟩)
                  · rw [h1] at hp; cases hp
                · skip
                  have hi : i < 256 := by omega
                  refine dt_aloadn dX12_oneSaying_143 rfl rfl ?_
                  refine dt_getR dX12_oneSaying_144 pg_X12_41_12 rfl rfl ?_
                  refine dt_iload dX12_oneSaying_147 rfl ?_
                  refine dt_aloadn dX12_oneSaying_149 rfl rfl ?_
                  refine dt_getR dX12_oneSaying_150 pg_X12_41_12 rfl rfl ?_
                  refine dt_iload dX12_oneSaying_153 rfl ?_
                  refine dt_zald dX12_oneSaying_155 rfl (by first | omega | (simp (disch := omega) only [dt_up_s, dt_up_k, dt_up_n]; omega)) (by first | omega | (simp (disch := omega) only [dt_up_s, dt_up_k, dt_up_n]; omega)) (by decide) ?_
                  rw [Int.toNat_natCast, jm i hi]
                  refine dt_if_eq (tgt := 173) dX12_oneSaying_156 (by decide) (by first | assumption | exact hwf _ _ | exact dt_b32 _ | omega | exact ⟨by omega, by omega⟩ | decide | exact ⟨by simp (disch := omega) only [dt_up_s, dt_up_k, dt_up_n]; omega, by simp (disch := omega) only [dt_up_s, dt_up_k, dt_up_n]; omega⟩) (fun c30 => ?_) (fun c30 => ?_)
                  · skip
                    try simp only [dt_b0, dt_b1, Decidable.not_not, Classical.not_not] at c30
                    have hnn : ¬ (Q i ∧ σs 47 i ≠ 0) := fun z => (show ¬ (Q i ∧ (i < i → σs 47 i ≠ 0)) by assumption) ⟨z.1, fun h => absurd h (Nat.lt_irrefl i)⟩
                    refine dt_iconst dX12_oneSaying_173 ?_
                    refine dt_zast dX12_oneSaying_174 rfl (by first | omega | (simp (disch := omega) only [dt_up_s, dt_up_k, dt_up_n]; omega)) (by first | omega | (simp (disch := omega) only [dt_up_s, dt_up_k, dt_up_n]; omega)) (by decide) (by first | exact Or.inl rfl | exact Or.inr rfl | assumption | omega) ?_
                    rw [Int.toNat_natCast]
                    refine dt_iinc dX12_oneSaying_175 rfl (by decide) rfl ?_
                    dsimp only [List.set]
                    refine dt_goto (tgt := 135) dX12_oneSaying_178 (by decide) ?_
                    have jm2 : mP (dt_up σ3 51 i 0) 51 256 (fun k => Q k ∧ (k < i + 1 → σs 47 k ≠ 0)) := fun k hk => by
                      by_cases e : k = i
                      · subst e; rw [dt_up_s]; exact (dt_bF (fun z => hnn ⟨z.1, z.2 (by omega)⟩)).symm
                      · rw [dt_up_k e, jm k hk]; exact dt_bc ⟨fun z => ⟨z.1, fun _ => z.2 (by omega)⟩, fun z => ⟨z.1, fun _ => z.2 (by omega)⟩⟩
                    exact dt_lb (ih (i + 1) _ (by omega) (by omega) (fun b hb => (dt_up_o hb).trans (jf b hb)) jm2) ⟨rfl, rfl, rfl, rfl, rfl, trivial⟩
                  · skip
                    try simp only [dt_b0, dt_b1, Decidable.not_not, Classical.not_not] at c30
                    have hqy : Q i := (show Q i ∧ (i < i → σs 47 i ≠ 0) by assumption).1
                    refine dt_wfV fun hwf => ?_
                    refine dt_aloadn dX12_oneSaying_159 rfl rfl ?_
                    refine dt_getR dX12_oneSaying_160 pg_X12_28_12 rfl rfl ?_
                    refine dt_iload dX12_oneSaying_163 rfl ?_
                    refine dt_zald dX12_oneSaying_165 rfl (by first | omega | (simp (disch := omega) only [dt_up_s, dt_up_k, dt_up_n]; omega)) (by first | omega | (simp (disch := omega) only [dt_up_s, dt_up_k, dt_up_n]; omega)) (by decide) ?_
                    rw [Int.toNat_natCast, show σ3 47 i = σs 47 i by rw [jf 47 (by decide)]]
                    refine dt_if_eq (tgt := 173) dX12_oneSaying_166 (by decide) (by have z := hwf 47 i; rw [jf 47 (by decide)] at z; exact z) (fun c31 => ?_) (fun c31 => ?_)
                    · skip
                      have hnn : ¬ (Q i ∧ σs 47 i ≠ 0) := fun z => z.2 (by assumption)
                      refine dt_iconst dX12_oneSaying_173 ?_
                      refine dt_zast dX12_oneSaying_174 rfl (by first | omega | (simp (disch := omega) only [dt_up_s, dt_up_k, dt_up_n]; omega)) (by first | omega | (simp (disch := omega) only [dt_up_s, dt_up_k, dt_up_n]; omega)) (by decide) (by first | exact Or.inl rfl | exact Or.inr rfl | assumption | omega) ?_
                      rw [Int.toNat_natCast]
                      refine dt_iinc dX12_oneSaying_175 rfl (by decide) rfl ?_
                      dsimp only [List.set]
                      refine dt_goto (tgt := 135) dX12_oneSaying_178 (by decide) ?_
                      have jm2 : mP (dt_up σ3 51 i 0) 51 256 (fun k => Q k ∧ (k < i + 1 → σs 47 k ≠ 0)) := fun k hk => by
                        by_cases e : k = i
                        · subst e; rw [dt_up_s]; exact (dt_bF (fun z => hnn ⟨z.1, z.2 (by omega)⟩)).symm
                        · rw [dt_up_k e, jm k hk]; exact dt_bc ⟨fun z => ⟨z.1, fun _ => z.2 (by omega)⟩, fun z => ⟨z.1, fun _ => z.2 (by omega)⟩⟩
                      exact dt_lb (ih (i + 1) _ (by omega) (by omega) (fun b hb => (dt_up_o hb).trans (jf b hb)) jm2) ⟨rfl, rfl, rfl, rfl, rfl, trivial⟩
                    · skip
                      have hpy : σs 47 i ≠ 0 := by assumption
                      refine dt_iconst dX12_oneSaying_169 ?_
                      refine dt_goto (tgt := 174) dX12_oneSaying_170 (by decide) ?_
                      refine dt_zast dX12_oneSaying_174 rfl (by first | omega | (simp (disch := omega) only [dt_up_s, dt_up_k, dt_up_n]; omega)) (by first | omega | (simp (disch := omega) only [dt_up_s, dt_up_k, dt_up_n]; omega)) (by decide) (by first | exact Or.inl rfl | exact Or.inr rfl | assumption | omega) ?_
                      rw [Int.toNat_natCast]
                      refine dt_iinc dX12_oneSaying_175 rfl (by decide) rfl ?_
                      dsimp only [List.set]
                      refine dt_goto (tgt := 135) dX12_oneSaying_178 (by decide) ?_
                      have jm2 : mP (dt_up σ3 51 i 1) 51 256 (fun k => Q k ∧ (k < i + 1 → σs 47 k ≠ 0)) := fun k hk => by
                        by_cases e : k = i
                        · subst e; rw [dt_up_s]; exact (dt_bT ⟨hqy, fun _ => hpy⟩).symm
                        · rw [dt_up_k e, jm k hk]; exact dt_bc ⟨fun z => ⟨z.1, fun _ => z.2 (by omega)⟩, fun z => ⟨z.1, fun _ => z.2 (by omega)⟩⟩
                      exact dt_lb (ih (i + 1) _ (by omega) (by omega) (fun b hb => (dt_up_o hb).trans (jf b hb)) jm2) ⟨rfl, rfl, rfl, rfl, rfl, trivial⟩
            exact dt_lb (lp135 300 0 σs (by omega) (by omega) (fun _ _ => rfl) (hQp.ext (fun k _ => ⟨fun z => ⟨z, fun h => absurd h (Nat.not_lt_zero k)⟩, fun z => z.1⟩))) ⟨rfl, rfl, rfl, rfl, rfl, trivial⟩
          · skip
            obtain ⟨z1, z2⟩ := id hBs
            exfalso; omega
      · skip
        obtain ⟨e, h4, hx⟩ | ⟨l2, h4, hl, hd0, hn0, hn6⟩ := hh
        · exfalso; rw [h4] at hBe; obtain ⟨z1, z2⟩ := hBe; omega
        rw [h4] at hBe
        refine dt_aloadn dX12_oneSaying_53 rfl rfl ?_
        refine dt_iloadn dX12_oneSaying_54 rfl rfl ?_
        refine dt_xV dX12_oneSaying_55 pc_X12_231 rfl (s_X12_tongueOf hXe (by omega) (by omega) h0) rfl rfl ⟨by decide, by decide⟩ rfl rfl (Nat.le_of_ble_eq_true rfl) ⟨by decide, by decide⟩ (dt_k3 ?_)
        obtain ⟨t, ht⟩ : ∃ t : Nat, day % (X.1.length : Int) = t := ⟨(day % (X.1.length : Int)).toNat, by have := Int.emod_nonneg day (b := (X.1.length : Int)) (by omega); omega⟩
        have ht7 : t < X.1.length := by have := Int.emod_lt_of_pos day (b := (X.1.length : Int)) (by omega); omega
        rw [ht]
        refine dt_goto (tgt := 62) dX12_oneSaying_58 (by decide) ?_
        refine dt_istore dX12_oneSaying_62 (by decide) rfl ?_
        dsimp only [List.set]
        refine dt_aloadn dX12_oneSaying_64 rfl rfl ?_
        refine dt_xV dX12_oneSaying_65 pc_X12_234 rfl s_X12_startMeaning rfl rfl ⟨by decide, by decide⟩ rfl rfl (Nat.le_of_ble_eq_true rfl) ⟨by decide, by decide⟩ ?_
        intro vs shs σs hqs
        obtain ⟨rfl, hss, hfs, hMs⟩ := hqs
        obtain rfl := hss.symm
        have fS : ∀ b k, (b ≠ 47 ∧ b ≠ 48 ∧ b ≠ 51) → (b ≠ 40 ∨ (k ≠ 1 ∧ k ≠ 24 ∧ k ≠ 25)) → σs b k = σ b k := fun b k h1 h => (congrFun (hfs b h1.1) k).trans (fE b k h)
        have hBs := hBe.kept (hfs 40 (by decide))
        have hQs : mP σs 51 256 Q := hQ.kept (funext fun k => (congrFun (hfs 51 (by decide)) k).trans (fE 51 k (Or.inl (by decide))))
        refine dt_wfV fun hwf => ?_
        refine dt_iconst dX12_oneSaying_68 ?_
        refine dt_istore dX12_oneSaying_69 (by decide) rfl ?_
        dsimp only [List.set]
        have lp71 : ∀ (fu : Nat) (z : Nat) (P : Nat → Prop) (s : xE (List Int)) (σs : dt_Mem), n - (z : Int) < (fu : Int) → ((z : Int) ≤ n) → (rBr σs q.2 st0 s) → (mP σs 51 256 Q) → (∀ b k, (b ≠ 47 ∧ b ≠ 48 ∧ b ≠ 51) → (b ≠ 40 ∨ (k ≠ 1 ∧ k ≠ 24 ∧ k ≠ 25)) → σs b k = σ b k) → ((s = .ok (l2.drop z) ∧ z ≤ l2.length ∧ xSd X t (l2.take z) = some P ∧ mP σs 47 256 P) ∨ ∃ e, s = .error e ∧ xOne X l = .error e) →  dt_V mX12_oneSaying (dt_rm 3 0 0) (dt_MC (fun v sh2 σ2 => v = none ∧ sh2 = dt_SH ++ ex ∧ (∀ b k, (b ≠ 47 ∧ b ≠ 48 ∧ b ≠ 51) → (b ≠ 40 ∨ (k ≠ 1 ∧ k ≠ 24 ∧ k ≠ 25)) → σ2 b k = σ b k) ∧ rBr σ2 q.2 st0 (x1S (xOne X l)) ∧ ∀ p, xOne X l = .ok p → mP σ2 51 256 (fun k => Q k ∧ p.1 k)) 0 0) 0 0 71 [some (dt_R 40), some (dt_I r), some (dt_I day), some (dt_I n), some (dt_I (t : Int)), some (dt_I (z : Int)), none] [] (dt_SH ++ ex) σs := by
          intro fu
          induction fu with
          | zero =>
            intro z P s σs hm zl kB kQ kf ks
            exfalso
            omega
          | succ fu ih =>
            intro z P s σs hm zl kB kQ kf ks
            refine dt_wfV fun hwf => ?_
            refine dt_iload dX12_oneSaying_71 rfl ?_
            refine dt_iloadn dX12_oneSaying_73 rfl rfl ?_
            refine dt_cm_ge (tgt := 132) dX12_oneSaying_74 (by decide) (by first | assumption | exact hwf _ _ | exact dt_b32 _ | omega | exact ⟨by omega, by omega⟩ | decide | exact ⟨by simp (disch := omega) only [dt_up_s, dt_up_k, dt_up_n]; omega, by simp (disch := omega) only [dt_up_s, dt_up_k, dt_up_n]; omega⟩) (by first | assumption | exact hwf _ _ | exact dt_b32 _ | omega | exact ⟨by omega, by omega⟩ | decide | exact ⟨by simp (disch := omega) only [dt_up_s, dt_up_k, dt_up_n]; omega, by simp (disch := omega) only [dt_up_s, dt_up_k, dt_up_n]; omega⟩) (fun c32 => ?_) (fun c32 => ?_)
            · skip
              have hzn : z = n.toNat := by omega
              have hfin : (∃ p, xOne X l = .ok p ∧ mP σs 47 256 p.1) ∨ ∃ e, xOne X l = .error e := by
                rcases ks with ⟨h1, h2, h3, h4⟩ | ⟨e, h1, h2⟩
                · rw [hzn] at h1 h2 h3
                  have hy : xOne X l = .ok (P, l2.drop n.toNat) := by rw [hl]; exact xOne_y hd0 ⟨hn0, hn6⟩ (by rw [ht]; exact h3) (by omega)
                  exact Or.inl ⟨_, hy, h4⟩
                · exact Or.inr ⟨e, h2⟩
              have hBp : rBr σs q.2 st0 (x1S (xOne X l)) := by
                rcases ks with ⟨h1, h2, h3, h4⟩ | ⟨e, h1, h2⟩
                · rw [hzn] at h1 h2 h3
                  rw [h1] at kB
                  have hy : xOne X l = .ok (P, l2.drop n.toNat) := by rw [hl]; exact xOne_y hd0 ⟨hn0, hn6⟩ (by rw [ht]; exact h3) (by omega)
                  rw [hy]
                  exact kB
                · rw [h2]; rw [h1] at kB; exact kB
              have hQp := kQ
              have hfp := kf
              refine dt_iconst dX12_oneSaying_132 ?_
              refine dt_istore dX12_oneSaying_133 (by decide) rfl ?_
              dsimp only [List.set]
              have lp135 : ∀ (fu : Nat) (i : Nat) (σ3 : dt_Mem), 256 - (i : Int) < (fu : Int) → (i ≤ 256) → (∀ b, b ≠ 51 → σ3 b = σs b) → (mP σ3 51 256 (fun k => Q k ∧ (k < i → σs 47 k ≠ 0))) →  dt_V mX12_oneSaying (dt_rm 3 0 0) (dt_MC (fun v sh2 σ2 => v = none ∧ sh2 = dt_SH ++ ex ∧ (∀ b k, (b ≠ 47 ∧ b ≠ 48 ∧ b ≠ 51) → (b ≠ 40 ∨ (k ≠ 1 ∧ k ≠ 24 ∧ k ≠ 25)) → σ2 b k = σ b k) ∧ rBr σ2 q.2 st0 (x1S (xOne X l)) ∧ ∀ p, xOne X l = .ok p → mP σ2 51 256 (fun k => Q k ∧ p.1 k)) 0 0) 0 0 135 [some (dt_R 40), some (dt_I r), some (dt_I day), some (dt_I n), none, some (dt_I (i : Int)), none] [] (dt_SH ++ ex) σ3 := by
                intro fu
                induction fu with
                | zero =>
                  intro i σ3 hm ji jf jm
                  exfalso
                  omega
                | succ fu ih =>
                  intro i σ3 hm ji jf jm
                  refine dt_wfV fun hwf => ?_
                  refine dt_iload dX12_oneSaying_135 rfl ?_
                  refine dt_sipush dX12_oneSaying_137 (by decide) ?_
                  refine dt_cm_ge (tgt := 181) dX12_oneSaying_140 (by decide) (by first | assumption | exact hwf _ _ | exact dt_b32 _ | omega | exact ⟨by omega, by omega⟩ | decide | exact ⟨by simp (disch := omega) only [dt_up_s, dt_up_k, dt_up_n]; omega, by simp (disch := omega) only [dt_up_s, dt_up_k, dt_up_n]; omega⟩) (by first | assumption | exact hwf _ _ | exact dt_b32 _ | omega | exact ⟨by omega, by omega⟩ | decide | exact ⟨by simp (disch := omega) only [dt_up_s, dt_up_k, dt_up_n]; omega, by simp (disch := omega) only [dt_up_s, dt_up_k, dt_up_n]; omega⟩) (fun c33 => ?_) (fun c33 => ?_)
                  · skip
                    refine dt_vret dX12_oneSaying_181 rfl (by decide) (by decide) ?_
                    obtain rfl : i = 256 := by omega
                    refine ⟨rfl, rfl, fun b k h1 h => (congrFun (jf b h1.2.2) k).trans (hfp b k h1 h), hBp.kept (jf 40 (by decide)), fun p hp => ?_⟩
                    rcases hfin with ⟨p2, h1, h2⟩ | ⟨e, h1⟩
                    · rw [h1] at hp
                      obtain rfl := Except.ok.inj hp
                      exact jm.ext (fun k hk => by
                        have h3 : σs 47 k ≠ 0 ↔ p2.1 k := by
                          rw [h2 k hk]
                          by_cases g : p2.1 k
                          · rw [dt_bT g]; exact ⟨fun _ => g, fun _ => by decide⟩
                          · rw [dt_bF g]; exact ⟨fun z => absurd rfl z, fun z => absurd z g⟩
                        exact ⟨fun z => ⟨z.1, h3.mp (z.2 hk)⟩, fun z => ⟨z.1, fun _ => h3.mpr z.2⟩⟩)
                    · rw [h1] at hp; cases hp
                  · skip
                    have hi : i < 256 := by omega
                    refine dt_aloadn dX12_oneSaying_143 rfl rfl ?_
                    refine dt_getR dX12_oneSaying_144 pg_X12_41_12 rfl rfl ?_
                    refine dt_iload dX12_oneSaying_147 rfl ?_
                    refine dt_aloadn dX12_oneSaying_149 rfl rfl ?_
                    refine dt_getR dX12_oneSaying_150 pg_X12_41_12 rfl rfl ?_
                    refine dt_iload dX12_oneSaying_153 rfl ?_
                    refine dt_zald dX12_oneSaying_155 rfl (by first | omega | (simp (disch := omega) only [dt_up_s, dt_up_k, dt_up_n]; omega)) (by first | omega | (simp (disch := omega) only [dt_up_s, dt_up_k, dt_up_n]; omega)) (by decide) ?_
                    rw [Int.toNat_natCast, jm i hi]
                    refine dt_if_eq (tgt := 173) dX12_oneSaying_156 (by decide) (by first | assumption | exact hwf _ _ | exact dt_b32 _ | omega | exact ⟨by omega, by omega⟩ | decide | exact ⟨by simp (disch := omega) only [dt_up_s, dt_up_k, dt_up_n]; omega, by simp (disch := omega) only [dt_up_s, dt_up_k, dt_up_n]; omega⟩) (fun c34 => ?_) (fun c34 => ?_)
                    · skip
                      try simp only [dt_b0, dt_b1, Decidable.not_not, Classical.not_not] at c34
                      have hnn : ¬ (Q i ∧ σs 47 i ≠ 0) := fun z => (show ¬ (Q i ∧ (i < i → σs 47 i ≠ 0)) by assumption) ⟨z.1, fun h => absurd h (Nat.lt_irrefl i)⟩
                      refine dt_iconst dX12_oneSaying_173 ?_
                      refine dt_zast dX12_oneSaying_174 rfl (by first | omega | (simp (disch := omega) only [dt_up_s, dt_up_k, dt_up_n]; omega)) (by first | omega | (simp (disch := omega) only [dt_up_s, dt_up_k, dt_up_n]; omega)) (by decide) (by first | exact Or.inl rfl | exact Or.inr rfl | assumption | omega) ?_
                      rw [Int.toNat_natCast]
                      refine dt_iinc dX12_oneSaying_175 rfl (by decide) rfl ?_
                      dsimp only [List.set]
                      refine dt_goto (tgt := 135) dX12_oneSaying_178 (by decide) ?_
                      have jm2 : mP (dt_up σ3 51 i 0) 51 256 (fun k => Q k ∧ (k < i + 1 → σs 47 k ≠ 0)) := fun k hk => by
                        by_cases e : k = i
                        · subst e; rw [dt_up_s]; exact (dt_bF (fun z => hnn ⟨z.1, z.2 (by omega)⟩)).symm
                        · rw [dt_up_k e, jm k hk]; exact dt_bc ⟨fun z => ⟨z.1, fun _ => z.2 (by omega)⟩, fun z => ⟨z.1, fun _ => z.2 (by omega)⟩⟩
                      exact dt_lb (ih (i + 1) _ (by omega) (by omega) (fun b hb => (dt_up_o hb).trans (jf b hb)) jm2) ⟨rfl, rfl, rfl, rfl, rfl, trivial⟩
                    · skip
                      try simp only [dt_b0, dt_b1, Decidable.not_not, Classical.not_not] at c34
                      have hqy : Q i := (show Q i ∧ (i < i → σs 47 i ≠ 0) by assumption).1
                      refine dt_wfV fun hwf => ?_
                      refine dt_aloadn dX12_oneSaying_159 rfl rfl ?_
                      refine dt_getR dX12_oneSaying_160 pg_X12_28_12 rfl rfl ?_
                      refine dt_iload dX12_oneSaying_163 rfl ?_
                      refine dt_zald dX12_oneSaying_165 rfl (by first | omega | (simp (disch := omega) only [dt_up_s, dt_up_k, dt_up_n]; omega)) (by first | omega | (simp (disch := omega) only [dt_up_s, dt_up_k, dt_up_n]; omega)) (by decide) ?_
                      rw [Int.toNat_natCast, show σ3 47 i = σs 47 i by rw [jf 47 (by decide)]]
                      refine dt_if_eq (tgt := 173) dX12_oneSaying_166 (by decide) (by have z := hwf 47 i; rw [jf 47 (by decide)] at z; exact z) (fun c35 => ?_) (fun c35 => ?_)
                      · skip
                        have hnn : ¬ (Q i ∧ σs 47 i ≠ 0) := fun z => z.2 (by assumption)
                        refine dt_iconst dX12_oneSaying_173 ?_
                        refine dt_zast dX12_oneSaying_174 rfl (by first | omega | (simp (disch := omega) only [dt_up_s, dt_up_k, dt_up_n]; omega)) (by first | omega | (simp (disch := omega) only [dt_up_s, dt_up_k, dt_up_n]; omega)) (by decide) (by first | exact Or.inl rfl | exact Or.inr rfl | assumption | omega) ?_
                        rw [Int.toNat_natCast]
                        refine dt_iinc dX12_oneSaying_175 rfl (by decide) rfl ?_
                        dsimp only [List.set]
                        refine dt_goto (tgt := 135) dX12_oneSaying_178 (by decide) ?_
                        have jm2 : mP (dt_up σ3 51 i 0) 51 256 (fun k => Q k ∧ (k < i + 1 → σs 47 k ≠ 0)) := fun k hk => by
                          by_cases e : k = i
                          · subst e; rw [dt_up_s]; exact (dt_bF (fun z => hnn ⟨z.1, z.2 (by omega)⟩)).symm
                          · rw [dt_up_k e, jm k hk]; exact dt_bc ⟨fun z => ⟨z.1, fun _ => z.2 (by omega)⟩, fun z => ⟨z.1, fun _ => z.2 (by omega)⟩⟩
                        exact dt_lb (ih (i + 1) _ (by omega) (by omega) (fun b hb => (dt_up_o hb).trans (jf b hb)) jm2) ⟨rfl, rfl, rfl, rfl, rfl, trivial⟩
                      · skip
                        have hpy : σs 47 i ≠ 0 := by assumption
                        refine dt_iconst dX12_oneSaying_169 ?_
                        refine dt_goto (tgt := 174) dX12_oneSaying_170 (by decide) ?_
                        refine dt_zast dX12_oneSaying_174 rfl (by first | omega | (simp (disch := omega) only [dt_up_s, dt_up_k, dt_up_n]; omega)) (by first | omega | (simp (disch := omega) only [dt_up_s, dt_up_k, dt_up_n]; omega)) (by decide) (by first | exact Or.inl rfl | exact Or.inr rfl | assumption | omega) ?_
                        rw [Int.toNat_natCast]
                        refine dt_iinc dX12_oneSaying_175 rfl (by decide) rfl ?_
                        dsimp only [List.set]
                        refine dt_goto (tgt := 135) dX12_oneSaying_178 (by decide) ?_
                        have jm2 : mP (dt_up σ3 51 i 1) 51 256 (fun k => Q k ∧ (k < i + 1 → σs 47 k ≠ 0)) := fun k hk => by
                          by_cases e : k = i
                          · subst e; rw [dt_up_s]; exact (dt_bT ⟨hqy, fun _ => hpy⟩).symm
                          · rw [dt_up_k e, jm k hk]; exact dt_bc ⟨fun z => ⟨z.1, fun _ => z.2 (by omega)⟩, fun z => ⟨z.1, fun _ => z.2 (by omega)⟩⟩
                        exact dt_lb (ih (i + 1) _ (by omega) (by omega) (fun b hb => (dt_up_o hb).trans (jf b hb)) jm2) ⟨rfl, rfl, rfl, rfl, rfl, trivial⟩
              exact dt_lb (lp135 300 0 σs (by omega) (by omega) (fun _ _ => rfl) (hQp.ext (fun k _ => ⟨fun z => ⟨z, fun h => absurd h (Nat.not_lt_zero k)⟩, fun z => z.1⟩))) ⟨rfl, rfl, rfl, rfl, rfl, trivial⟩
            · skip
              refine dt_aloadn dX12_oneSaying_77 rfl rfl ?_
              refine dt_getI dX12_oneSaying_78 pg_X12_274_12 rfl rfl ?_
              refine dt_if_ne (tgt := 132) dX12_oneSaying_81 (by decide) (by first | assumption | exact hwf _ _ | exact dt_b32 _ | omega | exact ⟨by omega, by omega⟩ | decide | exact ⟨by simp (disch := omega) only [dt_up_s, dt_up_k, dt_up_n]; omega, by simp (disch := omega) only [dt_up_s, dt_up_k, dt_up_n]; omega⟩) (fun c36 => ?_) (fun c36 => ?_)
              · skip
                have hfin : (∃ p, xOne X l = .ok p ∧ mP σs 47 256 p.1) ∨ ∃ e, xOne X l = .error e := by
                  rcases ks with ⟨h1, h2, h3, h4⟩ | ⟨e, h1, h2⟩
                  · rw [h1] at kB; exact absurd kB.1 (by assumption)
                  · exact Or.inr ⟨e, h2⟩
                have hBp : rBr σs q.2 st0 (x1S (xOne X l)) := by
                  rcases ks with ⟨h1, h2, h3, h4⟩ | ⟨e, h1, h2⟩
                  · rw [h1] at kB; exact absurd kB.1 (by assumption)
                  · rw [h2]; rw [h1] at kB; exact kB
                have hQp := kQ
                have hfp := kf
                refine dt_iconst dX12_oneSaying_132 ?_
                refine dt_istore dX12_oneSaying_133 (by decide) rfl ?_
                dsimp only [List.set]
                have lp135 : ∀ (fu : Nat) (i : Nat) (σ3 : dt_Mem), 256 - (i : Int) < (fu : Int) → (i ≤ 256) → (∀ b, b ≠ 51 → σ3 b = σs b) → (mP σ3 51 256 (fun k => Q k ∧ (k < i → σs 47 k ≠ 0))) →  dt_V mX12_oneSaying (dt_rm 3 0 0) (dt_MC (fun v sh2 σ2 => v = none ∧ sh2 = dt_SH ++ ex ∧ (∀ b k, (b ≠ 47 ∧ b ≠ 48 ∧ b ≠ 51) → (b ≠ 40 ∨ (k ≠ 1 ∧ k ≠ 24 ∧ k ≠ 25)) → σ2 b k = σ b k) ∧ rBr σ2 q.2 st0 (x1S (xOne X l)) ∧ ∀ p, xOne X l = .ok p → mP σ2 51 256 (fun k => Q k ∧ p.1 k)) 0 0) 0 0 135 [some (dt_R 40), some (dt_I r), some (dt_I day), some (dt_I n), none, some (dt_I (i : Int)), none] [] (dt_SH ++ ex) σ3 := by
                  intro fu
                  induction fu with
                  | zero =>
                    intro i σ3 hm ji jf jm
                    exfalso
                    omega
                  | succ fu ih =>
                    intro i σ3 hm ji jf jm
                    refine dt_wfV fun hwf => ?_
                    refine dt_iload dX12_oneSaying_135 rfl ?_
                    refine dt_sipush dX12_oneSaying_137 (by decide) ?_
                    refine dt_cm_ge (tgt := 181) dX12_oneSaying_140 (by decide) (by first | assumption | exact hwf _ _ | exact dt_b32 _ | omega | exact ⟨by omega, by omega⟩ | decide | exact ⟨by simp (disch := omega) only [dt_up_s, dt_up_k, dt_up_n]; omega, by simp (disch := omega) only [dt_up_s, dt_up_k, dt_up_n]; omega⟩) (by first | assumption | exact hwf _ _ | exact dt_b32 _ | omega | exact ⟨by omega, by omega⟩ | decide | exact ⟨by simp (disch := omega) only [dt_up_s, dt_up_k, dt_up_n]; omega, by simp (disch := omega) only [dt_up_s, dt_up_k, dt_up_n]; omega⟩) (fun c37 => ?_) (fun c37 => ?_)
                    · skip
                      refine dt_vret dX12_oneSaying_181 rfl (by decide) (by decide) ?_
                      obtain rfl : i = 256 := by omega
                      refine ⟨rfl, rfl, fun b k h1 h => (congrFun (jf b h1.2.2) k).trans (hfp b k h1 h), hBp.kept (jf 40 (by decide)), fun p hp => ?_⟩
                      rcases hfin with ⟨p2, h1, h2⟩ | ⟨e, h1⟩
                      · rw [h1] at hp
                        obtain rfl := Except.ok.inj hp
                        exact jm.ext (fun k hk => by
                          have h3 : σs 47 k ≠ 0 ↔ p2.1 k := by
                            rw [h2 k hk]
                            by_cases g : p2.1 k
                            · rw [dt_bT g]; exact ⟨fun _ => g, fun _ => by decide⟩
                            · rw [dt_bF g]; exact ⟨fun z => absurd rfl z, fun z => absurd z g⟩
                          exact ⟨fun z => ⟨z.1, h3.mp (z.2 hk)⟩, fun z => ⟨z.1, fun _ => h3.mpr z.2⟩⟩)
                      · rw [h1] at hp; cases hp
                    · skip
                      have hi : i < 256 := by omega
                      refine dt_aloadn dX12_oneSaying_143 rfl rfl ?_
                      refine dt_getR dX12_oneSaying_144 pg_X12_41_12 rfl rfl ?_
                      refine dt_iload dX12_oneSaying_147 rfl ?_
                      refine dt_aloadn dX12_oneSaying_149 rfl rfl ?_
                      refine dt_getR dX12_oneSaying_150 pg_X12_41_12 rfl rfl ?_
                      refine dt_iload dX12_oneSaying_153 rfl ?_
                      refine dt_zald dX12_oneSaying_155 rfl (by first | omega | (simp (disch := omega) only [dt_up_s, dt_up_k, dt_up_n]; omega)) (by first | omega | (simp (disch := omega) only [dt_up_s, dt_up_k, dt_up_n]; omega)) (by decide) ?_
                      rw [Int.toNat_natCast, jm i hi]
                      refine dt_if_eq (tgt := 173) dX12_oneSaying_156 (by decide) (by first | assumption | exact hwf _ _ | exact dt_b32 _ | omega | exact ⟨by omega, by omega⟩ | decide | exact ⟨by simp (disch := omega) only [dt_up_s, dt_up_k, dt_up_n]; omega, by simp (disch := omega) only [dt_up_s, dt_up_k, dt_up_n]; omega⟩) (fun c38 => ?_) (fun c38 => ?_)
                      · skip
                        try simp only [dt_b0, dt_b1, Decidable.not_not, Classical.not_not] at c38
                        have hnn : ¬ (Q i ∧ σs 47 i ≠ 0) := fun z => (show ¬ (Q i ∧ (i < i → σs 47 i ≠ 0)) by assumption) ⟨z.1, fun h => absurd h (Nat.lt_irrefl i)⟩
                        refine dt_iconst dX12_oneSaying_173 ?_
                        refine dt_zast dX12_oneSaying_174 rfl (by first | omega | (simp (disch := omega) only [dt_up_s, dt_up_k, dt_up_n]; omega)) (by first | omega | (simp (disch := omega) only [dt_up_s, dt_up_k, dt_up_n]; omega)) (by decide) (by first | exact Or.inl rfl | exact Or.inr rfl | assumption | omega) ?_
                        rw [Int.toNat_natCast]
                        refine dt_iinc dX12_oneSaying_175 rfl (by decide) rfl ?_
                        dsimp only [List.set]
                        refine dt_goto (tgt := 135) dX12_oneSaying_178 (by decide) ?_
                        have jm2 : mP (dt_up σ3 51 i 0) 51 256 (fun k => Q k ∧ (k < i + 1 → σs 47 k ≠ 0)) := fun k hk => by
                          by_cases e : k = i
                          · subst e; rw [dt_up_s]; exact (dt_bF (fun z => hnn ⟨z.1, z.2 (by omega)⟩)).symm
                          · rw [dt_up_k e, jm k hk]; exact dt_bc ⟨fun z => ⟨z.1, fun _ => z.2 (by omega)⟩, fun z => ⟨z.1, fun _ => z.2 (by omega)⟩⟩
                        exact dt_lb (ih (i + 1) _ (by omega) (by omega) (fun b hb => (dt_up_o hb).trans (jf b hb)) jm2) ⟨rfl, rfl, rfl, rfl, rfl, trivial⟩
                      · skip
                        try simp only [dt_b0, dt_b1, Decidable.not_not, Classical.not_not] at c38
                        have hqy : Q i := (show Q i ∧ (i < i → σs 47 i ≠ 0) by assumption).1
                        refine dt_wfV fun hwf => ?_
                        refine dt_aloadn dX12_oneSaying_159 rfl rfl ?_
                        refine dt_getR dX12_oneSaying_160 pg_X12_28_12 rfl rfl ?_
                        refine dt_iload dX12_oneSaying_163 rfl ?_
                        refine dt_zald dX12_oneSaying_165 rfl (by first | omega | (simp (disch := omega) only [dt_up_s, dt_up_k, dt_up_n]; omega)) (by first | omega | (simp (disch := omega) only [dt_up_s, dt_up_k, dt_up_n]; omega)) (by decide) ?_
                        rw [Int.toNat_natCast, show σ3 47 i = σs 47 i by rw [jf 47 (by decide)]]
                        refine dt_if_eq (tgt := 173) dX12_oneSaying_166 (by decide) (by have z := hwf 47 i; rw [jf 47 (by decide)] at z; exact z) (fun c39 => ?_) (fun c39 => ?_)
                        · skip
                          have hnn : ¬ (Q i ∧ σs 47 i ≠ 0) := fun z => z.2 (by assumption)
                          refine dt_iconst dX12_oneSaying_173 ?_
                          refine dt_zast dX12_oneSaying_174 rfl (by first | omega | (simp (disch := omega) only [dt_up_s, dt_up_k, dt_up_n]; omega)) (by first | omega | (simp (disch := omega) only [dt_up_s, dt_up_k, dt_up_n]; omega)) (by decide) (by first | exact Or.inl rfl | exact Or.inr rfl | assumption | omega) ?_
                          rw [Int.toNat_natCast]
                          refine dt_iinc dX12_oneSaying_175 rfl (by decide) rfl ?_
                          dsimp only [List.set]
                          refine dt_goto (tgt := 135) dX12_oneSaying_178 (by decide) ?_
                          have jm2 : mP (dt_up σ3 51 i 0) 51 256 (fun k => Q k ∧ (k < i + 1 → σs 47 k ≠ 0)) := fun k hk => by
                            by_cases e : k = i
                            · subst e; rw [dt_up_s]; exact (dt_bF (fun z => hnn ⟨z.1, z.2 (by omega)⟩)).symm
                            · rw [dt_up_k e, jm k hk]; exact dt_bc ⟨fun z => ⟨z.1, fun _ => z.2 (by omega)⟩, fun z => ⟨z.1, fun _ => z.2 (by omega)⟩⟩
                          exact dt_lb (ih (i + 1) _ (by omega) (by omega) (fun b hb => (dt_up_o hb).trans (jf b hb)) jm2) ⟨rfl, rfl, rfl, rfl, rfl, trivial⟩
                        · skip
                          have hpy : σs 47 i ≠ 0 := by assumption
                          refine dt_iconst dX12_oneSaying_169 ?_
                          refine dt_goto (tgt := 174) dX12_oneSaying_170 (by decide) ?_
                          refine dt_zast dX12_oneSaying_174 rfl (by first | omega | (simp (disch := omega) only [dt_up_s, dt_up_k, dt_up_n]; omega)) (by first | omega | (simp (disch := omega) only [dt_up_s, dt_up_k, dt_up_n]; omega)) (by decide) (by first | exact Or.inl rfl | exact Or.inr rfl | assumption | omega) ?_
                          rw [Int.toNat_natCast]
                          refine dt_iinc dX12_oneSaying_175 rfl (by decide) rfl ?_
                          dsimp only [List.set]
                          refine dt_goto (tgt := 135) dX12_oneSaying_178 (by decide) ?_
                          have jm2 : mP (dt_up σ3 51 i 1) 51 256 (fun k => Q k ∧ (k < i + 1 → σs 47 k ≠ 0)) := fun k hk => by
                            by_cases e : k = i
                            · subst e; rw [dt_up_s]; exact (dt_bT ⟨hqy, fun _ => hpy⟩).symm
                            · rw [dt_up_k e, jm k hk]; exact dt_bc ⟨fun z => ⟨z.1, fun _ => z.2 (by omega)⟩, fun z => ⟨z.1, fun _ => z.2 (by omega)⟩⟩
                          exact dt_lb (ih (i + 1) _ (by omega) (by omega) (fun b hb => (dt_up_o hb).trans (jf b hb)) jm2) ⟨rfl, rfl, rfl, rfl, rfl, trivial⟩
                exact dt_lb (lp135 300 0 σs (by omega) (by omega) (fun _ _ => rfl) (hQp.ext (fun k _ => ⟨fun z => ⟨z, fun h => absurd h (Nat.not_lt_zero k)⟩, fun z => z.1⟩))) ⟨rfl, rfl, rfl, rfl, rfl, trivial⟩
              · skip
                obtain ⟨h1, h2, h3, h4⟩ | ⟨e, h1, h2⟩ := ks
                rotate_left
                · exfalso; rw [h1] at kB; obtain ⟨z1, z2⟩ := kB; omega
                subst h1
                refine dt_aloadn dX12_oneSaying_84 rfl rfl ?_
                refine dt_iloadn dX12_oneSaying_85 rfl rfl ?_
                refine dt_xV dX12_oneSaying_86 pc_X12_280 rfl (s_X12_nextItem hr1 hr2 (hrow.kept (kf 41 _ (by decide) (Or.inl (by decide))) (kf 42 _ (by decide) (Or.inl (by decide))) (fun _ _ => kf 43 _ (by decide) (Or.inl (by decide)))) kB) rfl rfl ⟨by decide, by decide⟩ rfl rfl (Nat.le_of_ble_eq_true rfl) ⟨by decide, by decide⟩ ?_
                intro vf shf σf hqf
                obtain ⟨rfl, hsf, hff, hBf, hif⟩ := hqf
                obtain rfl := hsf.symm
                obtain ⟨w, hw0⟩ : ∃ w, w = nxV (.ok (l2.drop z)) := ⟨_, rfl⟩
                rw [← hw0] at hif ⊢
                have gF : ∀ b k, (b ≠ 47 ∧ b ≠ 48 ∧ b ≠ 51) → (b ≠ 40 ∨ (k ≠ 1 ∧ k ≠ 24 ∧ k ≠ 25)) → σf b k = σ b k := fun b k h1 h => (hff b k h).trans (kf b k h1 h)
                have hXf : rX σf X := hX.kept (funext fun k => gF 44 k (by decide) (Or.inl (by decide)))
                refine dt_istore dX12_oneSaying_89 (by decide) rfl ?_
                dsimp only [List.set]
                refine dt_aloadn dX12_oneSaying_91 rfl rfl ?_
                refine dt_aloadn dX12_oneSaying_92 rfl rfl ?_
                refine dt_iload dX12_oneSaying_93 rfl ?_
                refine dt_iload dX12_oneSaying_95 rfl ?_
                refine dt_xV dX12_oneSaying_97 pc_X12_212 rfl (s_X12_isWord hXf (by omega) hif) rfl rfl ⟨by decide, by decide⟩ rfl rfl (Nat.le_of_ble_eq_true rfl) ⟨by decide, by decide⟩ (dt_k3 ?_)
                refine dt_if_ne (tgt := 107) dX12_oneSaying_100 (by decide) (by first | assumption | exact hwf _ _ | exact dt_b32 _ | omega | exact ⟨by omega, by omega⟩ | decide | exact ⟨by simp (disch := omega) only [dt_up_s, dt_up_k, dt_up_n]; omega, by simp (disch := omega) only [dt_up_s, dt_up_k, dt_up_n]; omega⟩) (fun c40 => ?_) (fun c40 => ?_)
                · skip
                  try simp only [dt_b0, dt_b1, Decidable.not_not, Classical.not_not] at c40
                  have hwx : xAt X t w ≠ none := by assumption
                  refine dt_iconst dX12_oneSaying_107 ?_
                  refine dt_xV dX12_oneSaying_108 pc_X12_283 rfl (s_X12_bars hBf (by decide)) rfl rfl ⟨by decide, by decide⟩ rfl rfl (Nat.le_of_ble_eq_true rfl) ⟨by decide, by decide⟩ ?_
                  intro vg shg σg hqg
                  obtain ⟨rfl, hsg, hfg, hBg⟩ := hqg
                  obtain rfl := hsg.symm
                  have gG : ∀ b k, (b ≠ 47 ∧ b ≠ 48 ∧ b ≠ 51) → (b ≠ 40 ∨ (k ≠ 1 ∧ k ≠ 24 ∧ k ≠ 25)) → σg b k = σ b k := fun b k h1 h => (hfg b k (by omega)).trans (gF b k h1 h)
                  have hgm : ∀ b, b ≠ 40 → σg b = σs b := fun b hb => funext fun k => (hfg b k (Or.inl hb)).trans (hff b k (Or.inl hb))
                  refine dt_wfV fun hwf => ?_
                  refine dt_aloadn dX12_oneSaying_111 rfl rfl ?_
                  refine dt_getI dX12_oneSaying_112 pg_X12_274_12 rfl rfl ?_
                  refine dt_if_ne (tgt := 126) dX12_oneSaying_115 (by decide) (by first | assumption | exact hwf _ _ | exact dt_b32 _ | omega | exact ⟨by omega, by omega⟩ | decide | exact ⟨by simp (disch := omega) only [dt_up_s, dt_up_k, dt_up_n]; omega, by simp (disch := omega) only [dt_up_s, dt_up_k, dt_up_n]; omega⟩) (fun c41 => ?_) (fun c41 => ?_)
                  · skip
                    have hxe : ∃ e, bsS 0 (nxS (.ok (l2.drop z))) = .error e ∧ xOne X l = .error e := by
                      rcases Nat.lt_or_ge z l2.length with g | g
                      · obtain ⟨x, hx⟩ := dt_lg g
                        rw [drop_c hx] at hBg hw0 ⊢
                        exact absurd hBg.1 (by assumption)
                      · rw [List.drop_of_length_le g]
                        refine ⟨-1000012, rfl, ?_⟩
                        rw [hl]
                        exact xOne_p hd0 ⟨hn0, hn6⟩ (by rw [ht, List.take_of_length_le (by omega)]; rw [List.take_of_length_le g] at h3; exact h3) (by omega)
                    obtain ⟨e, hxe1, hxe2⟩ := hxe
                    rw [hxe1] at hBg
                    refine dt_iinc dX12_oneSaying_126 rfl (by decide) rfl ?_
                    dsimp only [List.set]
                    refine dt_goto (tgt := 71) dX12_oneSaying_129 (by decide) ?_
                    exact dt_lb (ih (z + 1) P (.error e) σg (by omega) (by omega) hBg (kQ.kept (hgm 51 (by decide))) gG (Or.inr ⟨e, rfl, hxe2⟩)) ⟨rfl, rfl, rfl, rfl, rfl, rfl, trivial⟩
                  · skip
                    obtain ⟨x, hx⟩ : ∃ x, l2[z]? = some x := by
                      rcases Nat.lt_or_ge z l2.length with g | g
                      · exact dt_lg g
                      · exfalso
                        rw [List.drop_of_length_le g] at hBg
                        obtain ⟨z1, z2⟩ : σg 40 25 = -1000012 ∧ _ := hBg
                        omega
                    rw [drop_c hx] at hBg hw0
                    obtain rfl : w = x := hw0
                    obtain ⟨t2, wn, wd, et, rfl, hw⟩ := xAt_ne hwx
                    obtain rfl : t = t2 := by omega
                    have hXg : rX σg X := hX.kept (funext fun k => gG 44 k (by decide) (Or.inl (by decide)))
                    refine dt_aloadn dX12_oneSaying_118 rfl rfl ?_
                    refine dt_iload dX12_oneSaying_119 rfl ?_
                    refine dt_iload dX12_oneSaying_121 rfl ?_
                    refine dt_xV dX12_oneSaying_123 pc_X12_237 rfl (s_X12_mean hXg hw (h4.kept (hgm 47 (by decide)))) rfl rfl ⟨by decide, by decide⟩ rfl rfl (Nat.le_of_ble_eq_true rfl) ⟨by decide, by decide⟩ ?_
                    intro vm shm σm hqm
                    obtain ⟨rfl, hsm, hfm, hMm⟩ := hqm
                    obtain rfl := hsm.symm
                    refine dt_iinc dX12_oneSaying_126 rfl (by decide) rfl ?_
                    dsimp only [List.set]
                    refine dt_goto (tgt := 71) dX12_oneSaying_129 (by decide) ?_
                    have hMmm := hMm
                    exact dt_lb (ih (z + 1) (xSay P wd.2) (.ok (l2.drop (z + 1))) σm (by omega) (by omega) (hBg.kept (hfm 40 (by decide) (by decide))) (kQ.kept ((hfm 51 (by decide) (by decide)).trans (hgm 51 (by decide)))) (fun b k h1 h => (congrFun (hfm b h1.1 h1.2.1) k).trans (gG b k h1 h)) (Or.inl ⟨rfl, by have := dt_gl hx; omega, by rw [xSd_s hx, h3]; exact xSd1_y (xAt_of hw), hMm⟩)) ⟨rfl, rfl, rfl, rfl, rfl, rfl, trivial⟩
                · skip
                  try simp only [dt_b0, dt_b1, Decidable.not_not, Classical.not_not] at c40
                  have hwx : xAt X t w = none := by first | assumption | exact Classical.not_not.mp (by assumption)
                  refine dt_iconst dX12_oneSaying_103 ?_
                  refine dt_goto (tgt := 108) dX12_oneSaying_104 (by decide) ?_
                  refine dt_xV dX12_oneSaying_108 pc_X12_283 rfl (s_X12_bars hBf (by decide)) rfl rfl ⟨by decide, by decide⟩ rfl rfl (Nat.le_of_ble_eq_true rfl) ⟨by decide, by decide⟩ ?_
                  intro vg shg σg hqg
                  obtain ⟨rfl, hsg, hfg, hBg⟩ := hqg
                  obtain rfl := hsg.symm
                  have gG : ∀ b k, (b ≠ 47 ∧ b ≠ 48 ∧ b ≠ 51) → (b ≠ 40 ∨ (k ≠ 1 ∧ k ≠ 24 ∧ k ≠ 25)) → σg b k = σ b k := fun b k h1 h => (hfg b k (by omega)).trans (gF b k h1 h)
                  have hgm : ∀ b, b ≠ 40 → σg b = σs b := fun b hb => funext fun k => (hfg b k (Or.inl hb)).trans (hff b k (Or.inl hb))
                  refine dt_wfV fun hwf => ?_
                  refine dt_aloadn dX12_oneSaying_111 rfl rfl ?_
                  refine dt_getI dX12_oneSaying_112 pg_X12_274_12 rfl rfl ?_
                  refine dt_if_ne (tgt := 126) dX12_oneSaying_115 (by decide) (by first | assumption | exact hwf _ _ | exact dt_b32 _ | omega | exact ⟨by omega, by omega⟩ | decide | exact ⟨by simp (disch := omega) only [dt_up_s, dt_up_k, dt_up_n]; omega, by simp (disch := omega) only [dt_up_s, dt_up_k, dt_up_n]; omega⟩) (fun c42 => ?_) (fun c42 => ?_)
                  · skip
                    have hxe : ∃ e, bsS 1 (nxS (.ok (l2.drop z))) = .error e ∧ xOne X l = .error e := by
                      rcases Nat.lt_or_ge z l2.length with g | g
                      · obtain ⟨x, hx⟩ := dt_lg g
                        rw [drop_c hx] at hBg hw0 ⊢
                        obtain rfl : w = x := hw0
                        refine ⟨-1000001, rfl, ?_⟩
                        rw [hl]
                        exact xOne_w hd0 ⟨hn0, hn6⟩ (by rw [ht]; exact xSd_no (j := z) (by rw [List.getElem?_take_of_lt (by omega)]; exact hx) hwx)
                      · rw [List.drop_of_length_le g]
                        refine ⟨-1000012, rfl, ?_⟩
                        rw [hl]
                        exact xOne_p hd0 ⟨hn0, hn6⟩ (by rw [ht, List.take_of_length_le (by omega)]; rw [List.take_of_length_le g] at h3; exact h3) (by omega)
                    obtain ⟨e, hxe1, hxe2⟩ := hxe
                    rw [hxe1] at hBg
                    refine dt_iinc dX12_oneSaying_126 rfl (by decide) rfl ?_
                    dsimp only [List.set]
                    refine dt_goto (tgt := 71) dX12_oneSaying_129 (by decide) ?_
                    exact dt_lb (ih (z + 1) P (.error e) σg (by omega) (by omega) hBg (kQ.kept (hgm 51 (by decide))) gG (Or.inr ⟨e, rfl, hxe2⟩)) ⟨rfl, rfl, rfl, rfl, rfl, rfl, trivial⟩
                  · skip
                    exfalso
                    rcases Nat.lt_or_ge z l2.length with g | g
                    · obtain ⟨x, hx⟩ := dt_lg g
                      rw [drop_c hx] at hBg
                      obtain ⟨z1, z2⟩ : σg 40 25 = -1000001 ∧ _ := hBg
                      omega
                    · rw [List.drop_of_length_le g] at hBg
                      obtain ⟨z1, z2⟩ : σg 40 25 = -1000012 ∧ _ := hBg
                      omega
        exact dt_lb (lp71 9 0 xZ (.ok l2) σs (by omega) (by omega) hBs hQs fS (Or.inl ⟨rfl, Nat.zero_le _, rfl, hMs⟩)) ⟨rfl, rfl, rfl, rfl, rfl, rfl, trivial⟩
  · skip
    have hb : ((1 : Int) = 1 ∧ day < 0) ∨ ((1 : Int) = 0 ∧ ¬ day < 0) := Or.inl ⟨rfl, by omega⟩
    refine dt_iconst dX12_oneSaying_11 ?_
    refine dt_goto (tgt := 16) dX12_oneSaying_12 (by decide) ?_
    refine dt_xV dX12_oneSaying_16 pc_X12_283 rfl (s_X12_bars hBa (by decide)) rfl rfl ⟨by decide, by decide⟩ rfl rfl (Nat.le_of_ble_eq_true rfl) ⟨by decide, by decide⟩ ?_
    intro vb shb σb hqb
    obtain ⟨rfl, hsb, hfb, hBb⟩ := hqb
    obtain rfl := hsb.symm
    have fB : ∀ b k, (b ≠ 40 ∨ (k ≠ 1 ∧ k ≠ 24 ∧ k ≠ 25)) → σb b k = σ b k := fun b k h => (hfb b k (by omega)).trans (fA b k h)
    refine dt_aloadn dX12_oneSaying_19 rfl rfl ?_
    refine dt_iloadn dX12_oneSaying_20 rfl rfl ?_
    refine dt_xV dX12_oneSaying_21 pc_X12_280 rfl (s_X12_nextItem hr1 hr2 (hrow.kept (fB 41 _ (Or.inl (by decide))) (fB 42 _ (Or.inl (by decide))) (fun _ _ => fB 43 _ (Or.inl (by decide)))) hBb) rfl rfl ⟨by decide, by decide⟩ rfl rfl (Nat.le_of_ble_eq_true rfl) ⟨by decide, by decide⟩ ?_
    intro vc shc σc hqc
    obtain ⟨rfl, hsc, hfc, hBc, hic⟩ := hqc
    obtain rfl := hsc.symm
    obtain ⟨n, hn⟩ : ∃ z, z = nxV (bsS 1 (nxS (.ok l))) := ⟨_, rfl⟩
    rw [← hn] at hic ⊢
    obtain ⟨n1, n2⟩ := id hic
    have fC : ∀ b k, (b ≠ 40 ∨ (k ≠ 1 ∧ k ≠ 24 ∧ k ≠ 25)) → σc b k = σ b k := fun b k h => (hfc b k h).trans (fB b k h)
    refine dt_istoren dX12_oneSaying_24 rfl (by decide) rfl ?_
    dsimp only [List.set]
    refine dt_aloadn dX12_oneSaying_25 rfl rfl ?_
    refine dt_iloadn dX12_oneSaying_26 rfl rfl ?_
    refine dt_ui2l dX12_oneSaying_27 (by first | assumption | exact hwf _ _ | exact dt_b32 _ | omega | exact ⟨by omega, by omega⟩ | decide | exact ⟨by simp (disch := omega) only [dt_up_s, dt_up_k, dt_up_n]; omega, by simp (disch := omega) only [dt_up_s, dt_up_k, dt_up_n]; omega⟩) ?_
    refine dt_lconst (x := 0) dX12_oneSaying_28 (by decide) ?_
    refine dt_ldc2 dX12_oneSaying_29 pk_X12_226 ?_
    refine dt_xS dX12_oneSaying_32 pc_X12_63 (s_X12_in (by first | exact ⟨by omega, by omega⟩ | decide) (by first | exact ⟨by omega, by omega⟩ | decide) (by first | exact ⟨by omega, by omega⟩ | decide)) rfl rfl ⟨by decide, by decide⟩ (Nat.le_of_ble_eq_true rfl) ⟨by decide, by decide⟩ (dt_k3 ?_)
    refine dt_if_ne (tgt := 42) dX12_oneSaying_35 (by decide) (by first | assumption | exact hwf _ _ | exact dt_b32 _ | omega | exact ⟨by omega, by omega⟩ | decide | exact ⟨by simp (disch := omega) only [dt_up_s, dt_up_k, dt_up_n]; omega, by simp (disch := omega) only [dt_up_s, dt_up_k, dt_up_n]; omega⟩) (fun c43 => ?_) (fun c43 => ?_)
    · skip
      try simp only [dt_b0, dt_b1, Decidable.not_not, Classical.not_not] at c43
      have hb2 : ((0 : Int) = 1 ∧ ¬ (0 ≤ n ∧ n ≤ 6)) ∨ ((0 : Int) = 0 ∧ (0 ≤ n ∧ n ≤ 6)) := Or.inr ⟨rfl, by omega⟩
      refine dt_iconst dX12_oneSaying_42 ?_
      refine dt_xV dX12_oneSaying_43 pc_X12_283 rfl (s_X12_bars hBc (by decide)) rfl rfl ⟨by decide, by decide⟩ rfl rfl (Nat.le_of_ble_eq_true rfl) ⟨by decide, by decide⟩ ?_
      intro ve she σe hqe
      obtain ⟨rfl, hse, hfe, hBe⟩ := hqe
      obtain rfl := hse.symm
      have fE : ∀ b k, (b ≠ 40 ∨ (k ≠ 1 ∧ k ≠ 24 ∧ k ≠ 25)) → σe b k = σ b k := fun b k h => (hfe b k (by omega)).trans (fC b k h)
      have hh := one_hd (X := X) hday hn hb hb2
      have hXe : rX σe X := hX.kept (funext fun k => fE 44 k (Or.inl (by decide)))
      refine dt_wfV fun hwf => ?_
      refine dt_aloadn dX12_oneSaying_46 rfl rfl ?_
      refine dt_getI dX12_oneSaying_47 pg_X12_274_12 rfl rfl ?_
      refine dt_if_ne (tgt := 61) dX12_oneSaying_50 (by decide) (by first | assumption | exact hwf _ _ | exact dt_b32 _ | omega | exact ⟨by omega, by omega⟩ | decide | exact ⟨by simp (disch := omega) only [dt_up_s, dt_up_k, dt_up_n]; omega, by simp (disch := omega) only [dt_up_s, dt_up_k, dt_up_n]; omega⟩) (fun c44 => ?_) (fun c44 => ?_)
      · skip
        obtain ⟨e, h4, hx⟩ | ⟨l2, h4, -⟩ := hh
        rotate_left
        · exfalso; rw [h4] at hBe; exact absurd hBe.1 (by assumption)
        rw [h4] at hBe
        refine dt_iconst dX12_oneSaying_61 ?_
        refine dt_istore dX12_oneSaying_62 (by decide) rfl ?_
        dsimp only [List.set]
        refine dt_aloadn dX12_oneSaying_64 rfl rfl ?_
        refine dt_xV dX12_oneSaying_65 pc_X12_234 rfl s_X12_startMeaning rfl rfl ⟨by decide, by decide⟩ rfl rfl (Nat.le_of_ble_eq_true rfl) ⟨by decide, by decide⟩ ?_
        intro vs shs σs hqs
        obtain ⟨rfl, hss, hfs, hMs⟩ := hqs
        obtain rfl := hss.symm
        have fS : ∀ b k, (b ≠ 47 ∧ b ≠ 48 ∧ b ≠ 51) → (b ≠ 40 ∨ (k ≠ 1 ∧ k ≠ 24 ∧ k ≠ 25)) → σs b k = σ b k := fun b k h1 h => (congrFun (hfs b h1.1) k).trans (fE b k h)
        have hBs := hBe.kept (hfs 40 (by decide))
        have hQs : mP σs 51 256 Q := hQ.kept (funext fun k => (congrFun (hfs 51 (by decide)) k).trans (fE 51 k (Or.inl (by decide))))
        refine dt_wfV fun hwf => ?_
        refine dt_iconst dX12_oneSaying_68 ?_
        refine dt_istore dX12_oneSaying_69 (by decide) rfl ?_
        dsimp only [List.set]
        refine dt_iload dX12_oneSaying_71 rfl ?_
        refine dt_iloadn dX12_oneSaying_73 rfl rfl ?_
        refine dt_cm_ge (tgt := 132) dX12_oneSaying_74 (by decide) (by first | assumption | exact hwf _ _ | exact dt_b32 _ | omega | exact ⟨by omega, by omega⟩ | decide | exact ⟨by simp (disch := omega) only [dt_up_s, dt_up_k, dt_up_n]; omega, by simp (disch := omega) only [dt_up_s, dt_up_k, dt_up_n]; omega⟩) (by first | assumption | exact hwf _ _ | exact dt_b32 _ | omega | exact ⟨by omega, by omega⟩ | decide | exact ⟨by simp (disch := omega) only [dt_up_s, dt_up_k, dt_up_n]; omega, by simp (disch := omega) only [dt_up_s, dt_up_k, dt_up_n]; omega⟩) (fun c45 => ?_) (fun c45 => ?_)
        · skip
          have hfin : (∃ p, xOne X l = .ok p ∧ mP σs 47 256 p.1) ∨ ∃ e, xOne X l = .error e := Or.inr ⟨e, hx⟩
          have hBp : rBr σs q.2 st0 (x1S (xOne X l)) := by rw [hx]; exact hBs
          have hQp := hQs
          have hfp := fS
          refine dt_iconst dX12_oneSaying_132 ?_
          refine dt_istore dX12_oneSaying_133 (by decide) rfl ?_
          dsimp only [List.set]
          have lp135 : ∀ (fu : Nat) (i : Nat) (σ3 : dt_Mem), 256 - (i : Int) < (fu : Int) → (i ≤ 256) → (∀ b, b ≠ 51 → σ3 b = σs b) → (mP σ3 51 256 (fun k => Q k ∧ (k < i → σs 47 k ≠ 0))) →  dt_V mX12_oneSaying (dt_rm 3 0 0) (dt_MC (fun v sh2 σ2 => v = none ∧ sh2 = dt_SH ++ ex ∧ (∀ b k, (b ≠ 47 ∧ b ≠ 48 ∧ b ≠ 51) → (b ≠ 40 ∨ (k ≠ 1 ∧ k ≠ 24 ∧ k ≠ 25)) → σ2 b k = σ b k) ∧ rBr σ2 q.2 st0 (x1S (xOne X l)) ∧ ∀ p, xOne X l = .ok p → mP σ2 51 256 (fun k => Q k ∧ p.1 k)) 0 0) 0 0 135 [some (dt_R 40), some (dt_I r), some (dt_I day), some (dt_I n), none, some (dt_I (i : Int)), none] [] (dt_SH ++ ex) σ3 := by
            intro fu
            induction fu with
            | zero =>
              intro i σ3 hm ji jf jm
              exfalso
              omega
            | succ fu ih =>
              intro i σ3 hm ji jf jm
              refine dt_wfV fun hwf => ?_
              refine dt_iload dX12_oneSaying_135 rfl ?_
              refine dt_sipush dX12_oneSaying_137 (by decide) ?_
              refine dt_cm_ge (tgt := 181) dX12_oneSaying_140 (by decide) (by first | assumption | exact hwf _ _ | exact dt_b32 _ | omega | exact ⟨by omega, by omega⟩ | decide | exact ⟨by simp (disch := omega) only [dt_up_s, dt_up_k, dt_up_n]; omega, by simp (disch := omega) only [dt_up_s, dt_up_k, dt_up_n]; omega⟩) (by first | assumption | exact hwf _ _ | exact dt_b32 _ | omega | exact ⟨by omega, by omega⟩ | decide | exact ⟨by simp (disch := omega) only [dt_up_s, dt_up_k, dt_up_n]; omega, by simp (disch := omega) only [dt_up_s, dt_up_k, dt_up_n]; omega⟩) (fun c46 => ?_) (fun c46 => ?_)
              · skip
                refine dt_vret dX12_oneSaying_181 rfl (by decide) (by decide) ?_
                obtain rfl : i = 256 := by omega
                refine ⟨rfl, rfl, fun b k h1 h => (congrFun (jf b h1.2.2) k).trans (hfp b k h1 h), hBp.kept (jf 40 (by decide)), fun p hp => ?_⟩
                rcases hfin with ⟨p2, h1, h2⟩ | ⟨e, h1⟩
                · rw [h1] at hp
                  obtain rfl := Except.ok.inj hp
                  exact jm.ext (fun k hk => by
                    have h3 : σs 47 k ≠ 0 ↔ p2.1 k := by
                      rw [h2 k hk]
                      by_cases g : p2.1 k
                      · rw [dt_bT g]; exact ⟨fun _ => g, fun _ => by decide⟩
                      · rw [dt_bF g]; exact ⟨fun z => absurd rfl z, fun z => absurd z g⟩
                    exact ⟨fun z => ⟨z.1, h3.mp (z.2 hk)⟩, fun z => ⟨z.1, fun _ => h3.mpr z.2⟩⟩)
                · rw [h1] at hp; cases hp
              · skip
                have hi : i < 256 := by omega
                refine dt_aloadn dX12_oneSaying_143 rfl rfl ?_
                refine dt_getR dX12_oneSaying_144 pg_X12_41_12 rfl rfl ?_
                refine dt_iload dX12_oneSaying_147 rfl ?_
                refine dt_aloadn dX12_oneSaying_149 rfl rfl ?_
                refine dt_getR dX12_oneSaying_150 pg_X12_41_12 rfl rfl ?_
                refine dt_iload dX12_oneSaying_153 rfl ?_
                refine dt_zald dX12_oneSaying_155 rfl (by first | omega | (simp (disch := omega) only [dt_up_s, dt_up_k, dt_up_n]; omega)) (by first | omega | (simp (disch := omega) only [dt_up_s, dt_up_k, dt_up_n]; omega)) (by decide) ?_
                rw [Int.toNat_natCast, jm i hi]
                refine dt_if_eq (tgt := 173) dX12_oneSaying_156 (by decide) (by first | assumption | exact hwf _ _ | exact dt_b32 _ | omega | exact ⟨by omega, by omega⟩ | decide | exact ⟨by simp (disch := omega) only [dt_up_s, dt_up_k, dt_up_n]; omega, by simp (disch := omega) only [dt_up_s, dt_up_k, dt_up_n]; omega⟩) (fun c47 => ?_) (fun c47 => ?_)
                · skip
                  try simp only [dt_b0, dt_b1, Decidable.not_not, Classical.not_not] at c47
                  have hnn : ¬ (Q i ∧ σs 47 i ≠ 0) := fun z => (show ¬ (Q i ∧ (i < i → σs 47 i ≠ 0)) by assumption) ⟨z.1, fun h => absurd h (Nat.lt_irrefl i)⟩
                  refine dt_iconst dX12_oneSaying_173 ?_
                  refine dt_zast dX12_oneSaying_174 rfl (by first | omega | (simp (disch := omega) only [dt_up_s, dt_up_k, dt_up_n]; omega)) (by first | omega | (simp (disch := omega) only [dt_up_s, dt_up_k, dt_up_n]; omega)) (by decide) (by first | exact Or.inl rfl | exact Or.inr rfl | assumption | omega) ?_
                  rw [Int.toNat_natCast]
                  refine dt_iinc dX12_oneSaying_175 rfl (by decide) rfl ?_
                  dsimp only [List.set]
                  refine dt_goto (tgt := 135) dX12_oneSaying_178 (by decide) ?_
                  have jm2 : mP (dt_up σ3 51 i 0) 51 256 (fun k => Q k ∧ (k < i + 1 → σs 47 k ≠ 0)) := fun k hk => by
                    by_cases e : k = i
                    · subst e; rw [dt_up_s]; exact (dt_bF (fun z => hnn ⟨z.1, z.2 (by omega)⟩)).symm
                    · rw [dt_up_k e, jm k hk]; exact dt_bc ⟨fun z => ⟨z.1, fun _ => z.2 (by omega)⟩, fun z => ⟨z.1, fun _ => z.2 (by omega)⟩⟩
                  exact dt_lb (ih (i + 1) _ (by omega) (by omega) (fun b hb => (dt_up_o hb).trans (jf b hb)) jm2) ⟨rfl, rfl, rfl, rfl, rfl, trivial⟩
                · skip
                  try simp only [dt_b0, dt_b1, Decidable.not_not, Classical.not_not] at c47
                  have hqy : Q i := (show Q i ∧ (i < i → σs 47 i ≠ 0) by assumption).1
                  refine dt_wfV fun hwf => ?_
                  refine dt_aloadn dX12_oneSaying_159 rfl rfl ?_
                  refine dt_getR dX12_oneSaying_160 pg_X12_28_12 rfl rfl ?_
                  refine dt_iload dX12_oneSaying_163 rfl ?_
                  refine dt_zald dX12_oneSaying_165 rfl (by first | omega | (simp (disch := omega) only [dt_up_s, dt_up_k, dt_up_n]; omega)) (by first | omega | (simp (disch := omega) only [dt_up_s, dt_up_k, dt_up_n]; omega)) (by decide) ?_
                  rw [Int.toNat_natCast, show σ3 47 i = σs 47 i by rw [jf 47 (by decide)]]
                  refine dt_if_eq (tgt := 173) dX12_oneSaying_166 (by decide) (by have z := hwf 47 i; rw [jf 47 (by decide)] at z; exact z) (fun c48 => ?_) (fun c48 => ?_)
                  · skip
                    have hnn : ¬ (Q i ∧ σs 47 i ≠ 0) := fun z => z.2 (by assumption)
                    refine dt_iconst dX12_oneSaying_173 ?_
                    refine dt_zast dX12_oneSaying_174 rfl (by first | omega | (simp (disch := omega) only [dt_up_s, dt_up_k, dt_up_n]; omega)) (by first | omega | (simp (disch := omega) only [dt_up_s, dt_up_k, dt_up_n]; omega)) (by decide) (by first | exact Or.inl rfl | exact Or.inr rfl | assumption | omega) ?_
                    rw [Int.toNat_natCast]
                    refine dt_iinc dX12_oneSaying_175 rfl (by decide) rfl ?_
                    dsimp only [List.set]
                    refine dt_goto (tgt := 135) dX12_oneSaying_178 (by decide) ?_
                    have jm2 : mP (dt_up σ3 51 i 0) 51 256 (fun k => Q k ∧ (k < i + 1 → σs 47 k ≠ 0)) := fun k hk => by
                      by_cases e : k = i
                      · subst e; rw [dt_up_s]; exact (dt_bF (fun z => hnn ⟨z.1, z.2 (by omega)⟩)).symm
                      · rw [dt_up_k e, jm k hk]; exact dt_bc ⟨fun z => ⟨z.1, fun _ => z.2 (by omega)⟩, fun z => ⟨z.1, fun _ => z.2 (by omega)⟩⟩
                    exact dt_lb (ih (i + 1) _ (by omega) (by omega) (fun b hb => (dt_up_o hb).trans (jf b hb)) jm2) ⟨rfl, rfl, rfl, rfl, rfl, trivial⟩
                  · skip
                    have hpy : σs 47 i ≠ 0 := by assumption
                    refine dt_iconst dX12_oneSaying_169 ?_
                    refine dt_goto (tgt := 174) dX12_oneSaying_170 (by decide) ?_
                    refine dt_zast dX12_oneSaying_174 rfl (by first | omega | (simp (disch := omega) only [dt_up_s, dt_up_k, dt_up_n]; omega)) (by first | omega | (simp (disch := omega) only [dt_up_s, dt_up_k, dt_up_n]; omega)) (by decide) (by first | exact Or.inl rfl | exact Or.inr rfl | assumption | omega) ?_
                    rw [Int.toNat_natCast]
                    refine dt_iinc dX12_oneSaying_175 rfl (by decide) rfl ?_
                    dsimp only [List.set]
                    refine dt_goto (tgt := 135) dX12_oneSaying_178 (by decide) ?_
                    have jm2 : mP (dt_up σ3 51 i 1) 51 256 (fun k => Q k ∧ (k < i + 1 → σs 47 k ≠ 0)) := fun k hk => by
                      by_cases e : k = i
                      · subst e; rw [dt_up_s]; exact (dt_bT ⟨hqy, fun _ => hpy⟩).symm
                      · rw [dt_up_k e, jm k hk]; exact dt_bc ⟨fun z => ⟨z.1, fun _ => z.2 (by omega)⟩, fun z => ⟨z.1, fun _ => z.2 (by omega)⟩⟩
                    exact dt_lb (ih (i + 1) _ (by omega) (by omega) (fun b hb => (dt_up_o hb).trans (jf b hb)) jm2) ⟨rfl, rfl, rfl, rfl, rfl, trivial⟩
          exact dt_lb (lp135 300 0 σs (by omega) (by omega) (fun _ _ => rfl) (hQp.ext (fun k _ => ⟨fun z => ⟨z, fun h => absurd h (Nat.not_lt_zero k)⟩, fun z => z.1⟩))) ⟨rfl, rfl, rfl, rfl, rfl, trivial⟩
        · skip
          refine dt_aloadn dX12_oneSaying_77 rfl rfl ?_
          refine dt_getI dX12_oneSaying_78 pg_X12_274_12 rfl rfl ?_
          refine dt_if_ne (tgt := 132) dX12_oneSaying_81 (by decide) (by first | assumption | exact hwf _ _ | exact dt_b32 _ | omega | exact ⟨by omega, by omega⟩ | decide | exact ⟨by simp (disch := omega) only [dt_up_s, dt_up_k, dt_up_n]; omega, by simp (disch := omega) only [dt_up_s, dt_up_k, dt_up_n]; omega⟩) (fun c49 => ?_) (fun c49 => ?_)
          · skip
            have hfin : (∃ p, xOne X l = .ok p ∧ mP σs 47 256 p.1) ∨ ∃ e, xOne X l = .error e := Or.inr ⟨e, hx⟩
            have hBp : rBr σs q.2 st0 (x1S (xOne X l)) := by rw [hx]; exact hBs
            have hQp := hQs
            have hfp := fS
            refine dt_iconst dX12_oneSaying_132 ?_
            refine dt_istore dX12_oneSaying_133 (by decide) rfl ?_
            dsimp only [List.set]
            have lp135 : ∀ (fu : Nat) (i : Nat) (σ3 : dt_Mem), 256 - (i : Int) < (fu : Int) → (i ≤ 256) → (∀ b, b ≠ 51 → σ3 b = σs b) → (mP σ3 51 256 (fun k => Q k ∧ (k < i → σs 47 k ≠ 0))) →  dt_V mX12_oneSaying (dt_rm 3 0 0) (dt_MC (fun v sh2 σ2 => v = none ∧ sh2 = dt_SH ++ ex ∧ (∀ b k, (b ≠ 47 ∧ b ≠ 48 ∧ b ≠ 51) → (b ≠ 40 ∨ (k ≠ 1 ∧ k ≠ 24 ∧ k ≠ 25)) → σ2 b k = σ b k) ∧ rBr σ2 q.2 st0 (x1S (xOne X l)) ∧ ∀ p, xOne X l = .ok p → mP σ2 51 256 (fun k => Q k ∧ p.1 k)) 0 0) 0 0 135 [some (dt_R 40), some (dt_I r), some (dt_I day), some (dt_I n), none, some (dt_I (i : Int)), none] [] (dt_SH ++ ex) σ3 := by
              intro fu
              induction fu with
              | zero =>
                intro i σ3 hm ji jf jm
                exfalso
                omega
              | succ fu ih =>
                intro i σ3 hm ji jf jm
                refine dt_wfV fun hwf => ?_
                refine dt_iload dX12_oneSaying_135 rfl ?_
                refine dt_sipush dX12_oneSaying_137 (by decide) ?_
                refine dt_cm_ge (tgt := 181) dX12_oneSaying_140 (by decide) (by first | assumption | exact hwf _ _ | exact dt_b32 _ | omega | exact ⟨by omega, by omega⟩ | decide | exact ⟨by simp (disch := omega) only [dt_up_s, dt_up_k, dt_up_n]; omega, by simp (disch := omega) only [dt_up_s, dt_up_k, dt_up_n]; omega⟩) (by first | assumption | exact hwf _ _ | exact dt_b32 _ | omega | exact ⟨by omega, by omega⟩ | decide | exact ⟨by simp (disch := omega) only [dt_up_s, dt_up_k, dt_up_n]; omega, by simp (disch := omega) only [dt_up_s, dt_up_k, dt_up_n]; omega⟩) (fun c50 => ?_) (fun c50 => ?_)
                · skip
                  refine dt_vret dX12_oneSaying_181 rfl (by decide) (by decide) ?_
                  obtain rfl : i = 256 := by omega
                  refine ⟨rfl, rfl, fun b k h1 h => (congrFun (jf b h1.2.2) k).trans (hfp b k h1 h), hBp.kept (jf 40 (by decide)), fun p hp => ?_⟩
                  rcases hfin with ⟨p2, h1, h2⟩ | ⟨e, h1⟩
                  · rw [h1] at hp
                    obtain rfl := Except.ok.inj hp
                    exact jm.ext (fun k hk => by
                      have h3 : σs 47 k ≠ 0 ↔ p2.1 k := by
                        rw [h2 k hk]
                        by_cases g : p2.1 k
                        · rw [dt_bT g]; exact ⟨fun _ => g, fun _ => by decide⟩
                        · rw [dt_bF g]; exact ⟨fun z => absurd rfl z, fun z => absurd z g⟩
                      exact ⟨fun z => ⟨z.1, h3.mp (z.2 hk)⟩, fun z => ⟨z.1, fun _ => h3.mpr z.2⟩⟩)
                  · rw [h1] at hp; cases hp
                · skip
                  have hi : i < 256 := by omega
                  refine dt_aloadn dX12_oneSaying_143 rfl rfl ?_
                  refine dt_getR dX12_oneSaying_144 pg_X12_41_12 rfl rfl ?_
                  refine dt_iload dX12_oneSaying_147 rfl ?_
                  refine dt_aloadn dX12_oneSaying_149 rfl rfl ?_
                  refine dt_getR dX12_oneSaying_150 pg_X12_41_12 rfl rfl ?_
                  refine dt_iload dX12_oneSaying_153 rfl ?_
                  refine dt_zald dX12_oneSaying_155 rfl (by first | omega | (simp (disch := omega) only [dt_up_s, dt_up_k, dt_up_n]; omega)) (by first | omega | (simp (disch := omega) only [dt_up_s, dt_up_k, dt_up_n]; omega)) (by decide) ?_
                  rw [Int.toNat_natCast, jm i hi]
                  refine dt_if_eq (tgt := 173) dX12_oneSaying_156 (by decide) (by first | assumption | exact hwf _ _ | exact dt_b32 _ | omega | exact ⟨by omega, by omega⟩ | decide | exact ⟨by simp (disch := omega) only [dt_up_s, dt_up_k, dt_up_n]; omega, by simp (disch := omega) only [dt_up_s, dt_up_k, dt_up_n]; omega⟩) (fun c51 => ?_) (fun c51 => ?_)
                  · skip
                    try simp only [dt_b0, dt_b1, Decidable.not_not, Classical.not_not] at c51
                    have hnn : ¬ (Q i ∧ σs 47 i ≠ 0) := fun z => (show ¬ (Q i ∧ (i < i → σs 47 i ≠ 0)) by assumption) ⟨z.1, fun h => absurd h (Nat.lt_irrefl i)⟩
                    refine dt_iconst dX12_oneSaying_173 ?_
                    refine dt_zast dX12_oneSaying_174 rfl (by first | omega | (simp (disch := omega) only [dt_up_s, dt_up_k, dt_up_n]; omega)) (by first | omega | (simp (disch := omega) only [dt_up_s, dt_up_k, dt_up_n]; omega)) (by decide) (by first | exact Or.inl rfl | exact Or.inr rfl | assumption | omega) ?_
                    rw [Int.toNat_natCast]
                    refine dt_iinc dX12_oneSaying_175 rfl (by decide) rfl ?_
                    dsimp only [List.set]
                    refine dt_goto (tgt := 135) dX12_oneSaying_178 (by decide) ?_
                    have jm2 : mP (dt_up σ3 51 i 0) 51 256 (fun k => Q k ∧ (k < i + 1 → σs 47 k ≠ 0)) := fun k hk => by
                      by_cases e : k = i
                      · subst e; rw [dt_up_s]; exact (dt_bF (fun z => hnn ⟨z.1, z.2 (by omega)⟩)).symm
                      · rw [dt_up_k e, jm k hk]; exact dt_bc ⟨fun z => ⟨z.1, fun _ => z.2 (by omega)⟩, fun z => ⟨z.1, fun _ => z.2 (by omega)⟩⟩
                    exact dt_lb (ih (i + 1) _ (by omega) (by omega) (fun b hb => (dt_up_o hb).trans (jf b hb)) jm2) ⟨rfl, rfl, rfl, rfl, rfl, trivial⟩
                  · skip
                    try simp only [dt_b0, dt_b1, Decidable.not_not, Classical.not_not] at c51
                    have hqy : Q i := (show Q i ∧ (i < i → σs 47 i ≠ 0) by assumption).1
                    refine dt_wfV fun hwf => ?_
                    refine dt_aloadn dX12_oneSaying_159 rfl rfl ?_
                    refine dt_getR dX12_oneSaying_160 pg_X12_28_12 rfl rfl ?_
                    refine dt_iload dX12_oneSaying_163 rfl ?_
                    refine dt_zald dX12_oneSaying_165 rfl (by first | omega | (simp (disch := omega) only [dt_up_s, dt_up_k, dt_up_n]; omega)) (by first | omega | (simp (disch := omega) only [dt_up_s, dt_up_k, dt_up_n]; omega)) (by decide) ?_
                    rw [Int.toNat_natCast, show σ3 47 i = σs 47 i by rw [jf 47 (by decide)]]
                    refine dt_if_eq (tgt := 173) dX12_oneSaying_166 (by decide) (by have z := hwf 47 i; rw [jf 47 (by decide)] at z; exact z) (fun c52 => ?_) (fun c52 => ?_)
                    · skip
                      have hnn : ¬ (Q i ∧ σs 47 i ≠ 0) := fun z => z.2 (by assumption)
                      refine dt_iconst dX12_oneSaying_173 ?_
                      refine dt_zast dX12_oneSaying_174 rfl (by first | omega | (simp (disch := omega) only [dt_up_s, dt_up_k, dt_up_n]; omega)) (by first | omega | (simp (disch := omega) only [dt_up_s, dt_up_k, dt_up_n]; omega)) (by decide) (by first | exact Or.inl rfl | exact Or.inr rfl | assumption | omega) ?_
                      rw [Int.toNat_natCast]
                      refine dt_iinc dX12_oneSaying_175 rfl (by decide) rfl ?_
                      dsimp only [List.set]
                      refine dt_goto (tgt := 135) dX12_oneSaying_178 (by decide) ?_
                      have jm2 : mP (dt_up σ3 51 i 0) 51 256 (fun k => Q k ∧ (k < i + 1 → σs 47 k ≠ 0)) := fun k hk => by
                        by_cases e : k = i
                        · subst e; rw [dt_up_s]; exact (dt_bF (fun z => hnn ⟨z.1, z.2 (by omega)⟩)).symm
                        · rw [dt_up_k e, jm k hk]; exact dt_bc ⟨fun z => ⟨z.1, fun _ => z.2 (by omega)⟩, fun z => ⟨z.1, fun _ => z.2 (by omega)⟩⟩
                      exact dt_lb (ih (i + 1) _ (by omega) (by omega) (fun b hb => (dt_up_o hb).trans (jf b hb)) jm2) ⟨rfl, rfl, rfl, rfl, rfl, trivial⟩
                    · skip
                      have hpy : σs 47 i ≠ 0 := by assumption
                      refine dt_iconst dX12_oneSaying_169 ?_
                      refine dt_goto (tgt := 174) dX12_oneSaying_170 (by decide) ?_
                      refine dt_zast dX12_oneSaying_174 rfl (by first | omega | (simp (disch := omega) only [dt_up_s, dt_up_k, dt_up_n]; omega)) (by first | omega | (simp (disch := omega) only [dt_up_s, dt_up_k, dt_up_n]; omega)) (by decide) (by first | exact Or.inl rfl | exact Or.inr rfl | assumption | omega) ?_
                      rw [Int.toNat_natCast]
                      refine dt_iinc dX12_oneSaying_175 rfl (by decide) rfl ?_
                      dsimp only [List.set]
                      refine dt_goto (tgt := 135) dX12_oneSaying_178 (by decide) ?_
                      have jm2 : mP (dt_up σ3 51 i 1) 51 256 (fun k => Q k ∧ (k < i + 1 → σs 47 k ≠ 0)) := fun k hk => by
                        by_cases e : k = i
                        · subst e; rw [dt_up_s]; exact (dt_bT ⟨hqy, fun _ => hpy⟩).symm
                        · rw [dt_up_k e, jm k hk]; exact dt_bc ⟨fun z => ⟨z.1, fun _ => z.2 (by omega)⟩, fun z => ⟨z.1, fun _ => z.2 (by omega)⟩⟩
                      exact dt_lb (ih (i + 1) _ (by omega) (by omega) (fun b hb => (dt_up_o hb).trans (jf b hb)) jm2) ⟨rfl, rfl, rfl, rfl, rfl, trivial⟩
            exact dt_lb (lp135 300 0 σs (by omega) (by omega) (fun _ _ => rfl) (hQp.ext (fun k _ => ⟨fun z => ⟨z, fun h => absurd h (Nat.not_lt_zero k)⟩, fun z => z.1⟩))) ⟨rfl, rfl, rfl, rfl, rfl, trivial⟩
          · skip
            obtain ⟨z1, z2⟩ := id hBs
            exfalso; omega
      · skip
        obtain ⟨e, h4, hx⟩ | ⟨l2, h4, hl, hd0, hn0, hn6⟩ := hh
        · exfalso; rw [h4] at hBe; obtain ⟨z1, z2⟩ := hBe; omega
        rw [h4] at hBe
        refine dt_aloadn dX12_oneSaying_53 rfl rfl ?_
        refine dt_iloadn dX12_oneSaying_54 rfl rfl ?_
        refine dt_xV dX12_oneSaying_55 pc_X12_231 rfl (s_X12_tongueOf hXe (by omega) (by omega) h0) rfl rfl ⟨by decide, by decide⟩ rfl rfl (Nat.le_of_ble_eq_true rfl) ⟨by decide, by decide⟩ (dt_k3 ?_)
        obtain ⟨t, ht⟩ : ∃ t : Nat, day % (X.1.length : Int) = t := ⟨(day % (X.1.length : Int)).toNat, by have := Int.emod_nonneg day (b := (X.1.length : Int)) (by omega); omega⟩
        have ht7 : t < X.1.length := by have := Int.emod_lt_of_pos day (b := (X.1.length : Int)) (by omega); omega
        rw [ht]
        refine dt_goto (tgt := 62) dX12_oneSaying_58 (by decide) ?_
        refine dt_istore dX12_oneSaying_62 (by decide) rfl ?_
        dsimp only [List.set]
        refine dt_aloadn dX12_oneSaying_64 rfl rfl ?_
        refine dt_xV dX12_oneSaying_65 pc_X12_234 rfl s_X12_startMeaning rfl rfl ⟨by decide, by decide⟩ rfl rfl (Nat.le_of_ble_eq_true rfl) ⟨by decide, by decide⟩ ?_
        intro vs shs σs hqs
        obtain ⟨rfl, hss, hfs, hMs⟩ := hqs
        obtain rfl := hss.symm
        have fS : ∀ b k, (b ≠ 47 ∧ b ≠ 48 ∧ b ≠ 51) → (b ≠ 40 ∨ (k ≠ 1 ∧ k ≠ 24 ∧ k ≠ 25)) → σs b k = σ b k := fun b k h1 h => (congrFun (hfs b h1.1) k).trans (fE b k h)
        have hBs := hBe.kept (hfs 40 (by decide))
        have hQs : mP σs 51 256 Q := hQ.kept (funext fun k => (congrFun (hfs 51 (by decide)) k).trans (fE 51 k (Or.inl (by decide))))
        refine dt_wfV fun hwf => ?_
        refine dt_iconst dX12_oneSaying_68 ?_
        refine dt_istore dX12_oneSaying_69 (by decide) rfl ?_
        dsimp only [List.set]
        have lp71 : ∀ (fu : Nat) (z : Nat) (P : Nat → Prop) (s : xE (List Int)) (σs : dt_Mem), n - (z : Int) < (fu : Int) → ((z : Int) ≤ n) → (rBr σs q.2 st0 s) → (mP σs 51 256 Q) → (∀ b k, (b ≠ 47 ∧ b ≠ 48 ∧ b ≠ 51) → (b ≠ 40 ∨ (k ≠ 1 ∧ k ≠ 24 ∧ k ≠ 25)) → σs b k = σ b k) → ((s = .ok (l2.drop z) ∧ z ≤ l2.length ∧ xSd X t (l2.take z) = some P ∧ mP σs 47 256 P) ∨ ∃ e, s = .error e ∧ xOne X l = .error e) →  dt_V mX12_oneSaying (dt_rm 3 0 0) (dt_MC (fun v sh2 σ2 => v = none ∧ sh2 = dt_SH ++ ex ∧ (∀ b k, (b ≠ 47 ∧ b ≠ 48 ∧ b ≠ 51) → (b ≠ 40 ∨ (k ≠ 1 ∧ k ≠ 24 ∧ k ≠ 25)) → σ2 b k = σ b k) ∧ rBr σ2 q.2 st0 (x1S (xOne X l)) ∧ ∀ p, xOne X l = .ok p → mP σ2 51 256 (fun k => Q k ∧ p.1 k)) 0 0) 0 0 71 [some (dt_R 40), some (dt_I r), some (dt_I day), some (dt_I n), some (dt_I (t : Int)), some (dt_I (z : Int)), none] [] (dt_SH ++ ex) σs := by
          intro fu
          induction fu with
          | zero =>
            intro z P s σs hm zl kB kQ kf ks
            exfalso
            omega
          | succ fu ih =>
            intro z P s σs hm zl kB kQ kf ks
            refine dt_wfV fun hwf => ?_
            refine dt_iload dX12_oneSaying_71 rfl ?_
            refine dt_iloadn dX12_oneSaying_73 rfl rfl ?_
            refine dt_cm_ge (tgt := 132) dX12_oneSaying_74 (by decide) (by first | assumption | exact hwf _ _ | exact dt_b32 _ | omega | exact ⟨by omega, by omega⟩ | decide | exact ⟨by simp (disch := omega) only [dt_up_s, dt_up_k, dt_up_n]; omega, by simp (disch := omega) only [dt_up_s, dt_up_k, dt_up_n]; omega⟩) (by first | assumption | exact hwf _ _ | exact dt_b32 _ | omega | exact ⟨by omega, by omega⟩ | decide | exact ⟨by simp (disch := omega) only [dt_up_s, dt_up_k, dt_up_n]; omega, by simp (disch := omega) only [dt_up_s, dt_up_k, dt_up_n]; omega⟩) (fun c53 => ?_) (fun c53 => ?_)
            · skip
              have hzn : z = n.toNat := by omega
              have hfin : (∃ p, xOne X l = .ok p ∧ mP σs 47 256 p.1) ∨ ∃ e, xOne X l = .error e := by
                rcases ks with ⟨h1, h2, h3, h4⟩ | ⟨e, h1, h2⟩
                · rw [hzn] at h1 h2 h3
                  have hy : xOne X l = .ok (P, l2.drop n.toNat) := by rw [hl]; exact xOne_y hd0 ⟨hn0, hn6⟩ (by rw [ht]; exact h3) (by omega)
                  exact Or.inl ⟨_, hy, h4⟩
                · exact Or.inr ⟨e, h2⟩
              have hBp : rBr σs q.2 st0 (x1S (xOne X l)) := by
                rcases ks with ⟨h1, h2, h3, h4⟩ | ⟨e, h1, h2⟩
                · rw [hzn] at h1 h2 h3
                  rw [h1] at kB
                  have hy : xOne X l = .ok (P, l2.drop n.toNat) := by rw [hl]; exact xOne_y hd0 ⟨hn0, hn6⟩ (by rw [ht]; exact h3) (by omega)
                  rw [hy]
                  exact kB
                · rw [h2]; rw [h1] at kB; exact kB
              have hQp := kQ
              have hfp := kf
              refine dt_iconst dX12_oneSaying_132 ?_
              refine dt_istore dX12_oneSaying_133 (by decide) rfl ?_
              dsimp only [List.set]
              have lp135 : ∀ (fu : Nat) (i : Nat) (σ3 : dt_Mem), 256 - (i : Int) < (fu : Int) → (i ≤ 256) → (∀ b, b ≠ 51 → σ3 b = σs b) → (mP σ3 51 256 (fun k => Q k ∧ (k < i → σs 47 k ≠ 0))) →  dt_V mX12_oneSaying (dt_rm 3 0 0) (dt_MC (fun v sh2 σ2 => v = none ∧ sh2 = dt_SH ++ ex ∧ (∀ b k, (b ≠ 47 ∧ b ≠ 48 ∧ b ≠ 51) → (b ≠ 40 ∨ (k ≠ 1 ∧ k ≠ 24 ∧ k ≠ 25)) → σ2 b k = σ b k) ∧ rBr σ2 q.2 st0 (x1S (xOne X l)) ∧ ∀ p, xOne X l = .ok p → mP σ2 51 256 (fun k => Q k ∧ p.1 k)) 0 0) 0 0 135 [some (dt_R 40), some (dt_I r), some (dt_I day), some (dt_I n), none, some (dt_I (i : Int)), none] [] (dt_SH ++ ex) σ3 := by
                intro fu
                induction fu with
                | zero =>
                  intro i σ3 hm ji jf jm
                  exfalso
                  omega
                | succ fu ih =>
                  intro i σ3 hm ji jf jm
                  refine dt_wfV fun hwf => ?_
                  refine dt_iload dX12_oneSaying_135 rfl ?_
                  refine dt_sipush dX12_oneSaying_137 (by decide) ?_
                  refine dt_cm_ge (tgt := 181) dX12_oneSaying_140 (by decide) (by first | assumption | exact hwf _ _ | exact dt_b32 _ | omega | exact ⟨by omega, by omega⟩ | decide | exact ⟨by simp (disch := omega) only [dt_up_s, dt_up_k, dt_up_n]; omega, by simp (disch := omega) only [dt_up_s, dt_up_k, dt_up_n]; omega⟩) (by first | assumption | exact hwf _ _ | exact dt_b32 _ | omega | exact ⟨by omega, by omega⟩ | decide | exact ⟨by simp (disch := omega) only [dt_up_s, dt_up_k, dt_up_n]; omega, by simp (disch := omega) only [dt_up_s, dt_up_k, dt_up_n]; omega⟩) (fun c54 => ?_) (fun c54 => ?_)
                  · skip
                    refine dt_vret dX12_oneSaying_181 rfl (by decide) (by decide) ?_
                    obtain rfl : i = 256 := by omega
                    refine ⟨rfl, rfl, fun b k h1 h => (congrFun (jf b h1.2.2) k).trans (hfp b k h1 h), hBp.kept (jf 40 (by decide)), fun p hp => ?_⟩
                    rcases hfin with ⟨p2, h1, h2⟩ | ⟨e, h1⟩
                    · rw [h1] at hp
                      obtain rfl := Except.ok.inj hp
                      exact jm.ext (fun k hk => by
                        have h3 : σs 47 k ≠ 0 ↔ p2.1 k := by
                          rw [h2 k hk]
                          by_cases g : p2.1 k
                          · rw [dt_bT g]; exact ⟨fun _ => g, fun _ => by decide⟩
                          · rw [dt_bF g]; exact ⟨fun z => absurd rfl z, fun z => absurd z g⟩
                        exact ⟨fun z => ⟨z.1, h3.mp (z.2 hk)⟩, fun z => ⟨z.1, fun _ => h3.mpr z.2⟩⟩)
                    · rw [h1] at hp; cases hp
                  · skip
                    have hi : i < 256 := by omega
                    refine dt_aloadn dX12_oneSaying_143 rfl rfl ?_
                    refine dt_getR dX12_oneSaying_144 pg_X12_41_12 rfl rfl ?_
                    refine dt_iload dX12_oneSaying_147 rfl ?_
                    refine dt_aloadn dX12_oneSaying_149 rfl rfl ?_
                    refine dt_getR dX12_oneSaying_150 pg_X12_41_12 rfl rfl ?_
                    refine dt_iload dX12_oneSaying_153 rfl ?_
                    refine dt_zald dX12_oneSaying_155 rfl (by first | omega | (simp (disch := omega) only [dt_up_s, dt_up_k, dt_up_n]; omega)) (by first | omega | (simp (disch := omega) only [dt_up_s, dt_up_k, dt_up_n]; omega)) (by decide) ?_
                    rw [Int.toNat_natCast, jm i hi]
                    refine dt_if_eq (tgt := 173) dX12_oneSaying_156 (by decide) (by first | assumption | exact hwf _ _ | exact dt_b32 _ | omega | exact ⟨by omega, by omega⟩ | decide | exact ⟨by simp (disch := omega) only [dt_up_s, dt_up_k, dt_up_n]; omega, by simp (disch := omega) only [dt_up_s, dt_up_k, dt_up_n]; omega⟩) (fun c55 => ?_) (fun c55 => ?_)
                    · skip
                      try simp only [dt_b0, dt_b1, Decidable.not_not, Classical.not_not] at c55
                      have hnn : ¬ (Q i ∧ σs 47 i ≠ 0) := fun z => (show ¬ (Q i ∧ (i < i → σs 47 i ≠ 0)) by assumption) ⟨z.1, fun h => absurd h (Nat.lt_irrefl i)⟩
                      refine dt_iconst dX12_oneSaying_173 ?_
                      refine dt_zast dX12_oneSaying_174 rfl (by first | omega | (simp (disch := omega) only [dt_up_s, dt_up_k, dt_up_n]; omega)) (by first | omega | (simp (disch := omega) only [dt_up_s, dt_up_k, dt_up_n]; omega)) (by decide) (by first | exact Or.inl rfl | exact Or.inr rfl | assumption | omega) ?_
                      rw [Int.toNat_natCast]
                      refine dt_iinc dX12_oneSaying_175 rfl (by decide) rfl ?_
                      dsimp only [List.set]
                      refine dt_goto (tgt := 135) dX12_oneSaying_178 (by decide) ?_
                      have jm2 : mP (dt_up σ3 51 i 0) 51 256 (fun k => Q k ∧ (k < i + 1 → σs 47 k ≠ 0)) := fun k hk => by
                        by_cases e : k = i
                        · subst e; rw [dt_up_s]; exact (dt_bF (fun z => hnn ⟨z.1, z.2 (by omega)⟩)).symm
                        · rw [dt_up_k e, jm k hk]; exact dt_bc ⟨fun z => ⟨z.1, fun _ => z.2 (by omega)⟩, fun z => ⟨z.1, fun _ => z.2 (by omega)⟩⟩
                      exact dt_lb (ih (i + 1) _ (by omega) (by omega) (fun b hb => (dt_up_o hb).trans (jf b hb)) jm2) ⟨rfl, rfl, rfl, rfl, rfl, trivial⟩
                    · skip
                      try simp only [dt_b0, dt_b1, Decidable.not_not, Classical.not_not] at c55
                      have hqy : Q i := (show Q i ∧ (i < i → σs 47 i ≠ 0) by assumption).1
                      refine dt_wfV fun hwf => ?_
                      refine dt_aloadn dX12_oneSaying_159 rfl rfl ?_
                      refine dt_getR dX12_oneSaying_160 pg_X12_28_12 rfl rfl ?_
                      refine dt_iload dX12_oneSaying_163 rfl ?_
                      refine dt_zald dX12_oneSaying_165 rfl (by first | omega | (simp (disch := omega) only [dt_up_s, dt_up_k, dt_up_n]; omega)) (by first | omega | (simp (disch := omega) only [dt_up_s, dt_up_k, dt_up_n]; omega)) (by decide) ?_
                      rw [Int.toNat_natCast, show σ3 47 i = σs 47 i by rw [jf 47 (by decide)]]
                      refine dt_if_eq (tgt := 173) dX12_oneSaying_166 (by decide) (by have z := hwf 47 i; rw [jf 47 (by decide)] at z; exact z) (fun c56 => ?_) (fun c56 => ?_)
                      · skip
                        have hnn : ¬ (Q i ∧ σs 47 i ≠ 0) := fun z => z.2 (by assumption)
                        refine dt_iconst dX12_oneSaying_173 ?_
                        refine dt_zast dX12_oneSaying_174 rfl (by first | omega | (simp (disch := omega) only [dt_up_s, dt_up_k, dt_up_n]; omega)) (by first | omega | (simp (disch := omega) only [dt_up_s, dt_up_k, dt_up_n]; omega)) (by decide) (by first | exact Or.inl rfl | exact Or.inr rfl | assumption | omega) ?_
                        rw [Int.toNat_natCast]
                        refine dt_iinc dX12_oneSaying_175 rfl (by decide) rfl ?_
                        dsimp only [List.set]
                        refine dt_goto (tgt := 135) dX12_oneSaying_178 (by decide) ?_
                        have jm2 : mP (dt_up σ3 51 i 0) 51 256 (fun k => Q k ∧ (k < i + 1 → σs 47 k ≠ 0)) := fun k hk => by
                          by_cases e : k = i
                          · subst e; rw [dt_up_s]; exact (dt_bF (fun z => hnn ⟨z.1, z.2 (by omega)⟩)).symm
                          · rw [dt_up_k e, jm k hk]; exact dt_bc ⟨fun z => ⟨z.1, fun _ => z.2 (by omega)⟩, fun z => ⟨z.1, fun _ => z.2 (by omega)⟩⟩
                        exact dt_lb (ih (i + 1) _ (by omega) (by omega) (fun b hb => (dt_up_o hb).trans (jf b hb)) jm2) ⟨rfl, rfl, rfl, rfl, rfl, trivial⟩
                      · skip
                        have hpy : σs 47 i ≠ 0 := by assumption
                        refine dt_iconst dX12_oneSaying_169 ?_
                        refine dt_goto (tgt := 174) dX12_oneSaying_170 (by decide) ?_
                        refine dt_zast dX12_oneSaying_174 rfl (by first | omega | (simp (disch := omega) only [dt_up_s, dt_up_k, dt_up_n]; omega)) (by first | omega | (simp (disch := omega) only [dt_up_s, dt_up_k, dt_up_n]; omega)) (by decide) (by first | exact Or.inl rfl | exact Or.inr rfl | assumption | omega) ?_
                        rw [Int.toNat_natCast]
                        refine dt_iinc dX12_oneSaying_175 rfl (by decide) rfl ?_
                        dsimp only [List.set]
                        refine dt_goto (tgt := 135) dX12_oneSaying_178 (by decide) ?_
                        have jm2 : mP (dt_up σ3 51 i 1) 51 256 (fun k => Q k ∧ (k < i + 1 → σs 47 k ≠ 0)) := fun k hk => by
                          by_cases e : k = i
                          · subst e; rw [dt_up_s]; exact (dt_bT ⟨hqy, fun _ => hpy⟩).symm
                          · rw [dt_up_k e, jm k hk]; exact dt_bc ⟨fun z => ⟨z.1, fun _ => z.2 (by omega)⟩, fun z => ⟨z.1, fun _ => z.2 (by omega)⟩⟩
                        exact dt_lb (ih (i + 1) _ (by omega) (by omega) (fun b hb => (dt_up_o hb).trans (jf b hb)) jm2) ⟨rfl, rfl, rfl, rfl, rfl, trivial⟩
              exact dt_lb (lp135 300 0 σs (by omega) (by omega) (fun _ _ => rfl) (hQp.ext (fun k _ => ⟨fun z => ⟨z, fun h => absurd h (Nat.not_lt_zero k)⟩, fun z => z.1⟩))) ⟨rfl, rfl, rfl, rfl, rfl, trivial⟩
            · skip
              refine dt_aloadn dX12_oneSaying_77 rfl rfl ?_
              refine dt_getI dX12_oneSaying_78 pg_X12_274_12 rfl rfl ?_
              refine dt_if_ne (tgt := 132) dX12_oneSaying_81 (by decide) (by first | assumption | exact hwf _ _ | exact dt_b32 _ | omega | exact ⟨by omega, by omega⟩ | decide | exact ⟨by simp (disch := omega) only [dt_up_s, dt_up_k, dt_up_n]; omega, by simp (disch := omega) only [dt_up_s, dt_up_k, dt_up_n]; omega⟩) (fun c57 => ?_) (fun c57 => ?_)
              · skip
                have hfin : (∃ p, xOne X l = .ok p ∧ mP σs 47 256 p.1) ∨ ∃ e, xOne X l = .error e := by
                  rcases ks with ⟨h1, h2, h3, h4⟩ | ⟨e, h1, h2⟩
                  · rw [h1] at kB; exact absurd kB.1 (by assumption)
                  · exact Or.inr ⟨e, h2⟩
                have hBp : rBr σs q.2 st0 (x1S (xOne X l)) := by
                  rcases ks with ⟨h1, h2, h3, h4⟩ | ⟨e, h1, h2⟩
                  · rw [h1] at kB; exact absurd kB.1 (by assumption)
                  · rw [h2]; rw [h1] at kB; exact kB
                have hQp := kQ
                have hfp := kf
                refine dt_iconst dX12_oneSaying_132 ?_
                refine dt_istore dX12_oneSaying_133 (by decide) rfl ?_
                dsimp only [List.set]
                have lp135 : ∀ (fu : Nat) (i : Nat) (σ3 : dt_Mem), 256 - (i : Int) < (fu : Int) → (i ≤ 256) → (∀ b, b ≠ 51 → σ3 b = σs b) → (mP σ3 51 256 (fun k => Q k ∧ (k < i → σs 47 k ≠ 0))) →  dt_V mX12_oneSaying (dt_rm 3 0 0) (dt_MC (fun v sh2 σ2 => v = none ∧ sh2 = dt_SH ++ ex ∧ (∀ b k, (b ≠ 47 ∧ b ≠ 48 ∧ b ≠ 51) → (b ≠ 40 ∨ (k ≠ 1 ∧ k ≠ 24 ∧ k ≠ 25)) → σ2 b k = σ b k) ∧ rBr σ2 q.2 st0 (x1S (xOne X l)) ∧ ∀ p, xOne X l = .ok p → mP σ2 51 256 (fun k => Q k ∧ p.1 k)) 0 0) 0 0 135 [some (dt_R 40), some (dt_I r), some (dt_I day), some (dt_I n), none, some (dt_I (i : Int)), none] [] (dt_SH ++ ex) σ3 := by
                  intro fu
                  induction fu with
                  | zero =>
                    intro i σ3 hm ji jf jm
                    exfalso
                    omega
                  | succ fu ih =>
                    intro i σ3 hm ji jf jm
                    refine dt_wfV fun hwf => ?_
                    refine dt_iload dX12_oneSaying_135 rfl ?_
                    refine dt_sipush dX12_oneSaying_137 (by decide) ?_
                    refine dt_cm_ge (tgt := 181) dX12_oneSaying_140 (by decide) (by first | assumption | exact hwf _ _ | exact dt_b32 _ | omega | exact ⟨by omega, by omega⟩ | decide | exact ⟨by simp (disch := omega) only [dt_up_s, dt_up_k, dt_up_n]; omega, by simp (disch := omega) only [dt_up_s, dt_up_k, dt_up_n]; omega⟩) (by first | assumption | exact hwf _ _ | exact dt_b32 _ | omega | exact ⟨by omega, by omega⟩ | decide | exact ⟨by simp (disch := omega) only [dt_up_s, dt_up_k, dt_up_n]; omega, by simp (disch := omega) only [dt_up_s, dt_up_k, dt_up_n]; omega⟩) (fun c58 => ?_) (fun c58 => ?_)
                    · skip
                      refine dt_vret dX12_oneSaying_181 rfl (by decide) (by decide) ?_
                      obtain rfl : i = 256 := by omega
                      refine ⟨rfl, rfl, fun b k h1 h => (congrFun (jf b h1.2.2) k).trans (hfp b k h1 h), hBp.kept (jf 40 (by decide)), fun p hp => ?_⟩
                      rcases hfin with ⟨p2, h1, h2⟩ | ⟨e, h1⟩
                      · rw [h1] at hp
                        obtain rfl := Except.ok.inj hp
                        exact jm.ext (fun k hk => by
                          have h3 : σs 47 k ≠ 0 ↔ p2.1 k := by
                            rw [h2 k hk]
                            by_cases g : p2.1 k
                            · rw [dt_bT g]; exact ⟨fun _ => g, fun _ => by decide⟩
                            · rw [dt_bF g]; exact ⟨fun z => absurd rfl z, fun z => absurd z g⟩
                          exact ⟨fun z => ⟨z.1, h3.mp (z.2 hk)⟩, fun z => ⟨z.1, fun _ => h3.mpr z.2⟩⟩)
                      · rw [h1] at hp; cases hp
                    · skip
                      have hi : i < 256 := by omega
                      refine dt_aloadn dX12_oneSaying_143 rfl rfl ?_
                      refine dt_getR dX12_oneSaying_144 pg_X12_41_12 rfl rfl ?_
                      refine dt_iload dX12_oneSaying_147 rfl ?_
                      refine dt_aloadn dX12_oneSaying_149 rfl rfl ?_
                      refine dt_getR dX12_oneSaying_150 pg_X12_41_12 rfl rfl ?_
                      refine dt_iload dX12_oneSaying_153 rfl ?_
                      refine dt_zald dX12_oneSaying_155 rfl (by first | omega | (simp (disch := omega) only [dt_up_s, dt_up_k, dt_up_n]; omega)) (by first | omega | (simp (disch := omega) only [dt_up_s, dt_up_k, dt_up_n]; omega)) (by decide) ?_
                      rw [Int.toNat_natCast, jm i hi]
                      refine dt_if_eq (tgt := 173) dX12_oneSaying_156 (by decide) (by first | assumption | exact hwf _ _ | exact dt_b32 _ | omega | exact ⟨by omega, by omega⟩ | decide | exact ⟨by simp (disch := omega) only [dt_up_s, dt_up_k, dt_up_n]; omega, by simp (disch := omega) only [dt_up_s, dt_up_k, dt_up_n]; omega⟩) (fun c59 => ?_) (fun c59 => ?_)
                      · skip
                        try simp only [dt_b0, dt_b1, Decidable.not_not, Classical.not_not] at c59
                        have hnn : ¬ (Q i ∧ σs 47 i ≠ 0) := fun z => (show ¬ (Q i ∧ (i < i → σs 47 i ≠ 0)) by assumption) ⟨z.1, fun h => absurd h (Nat.lt_irrefl i)⟩
                        refine dt_iconst dX12_oneSaying_173 ?_
                        refine dt_zast dX12_oneSaying_174 rfl (by first | omega | (simp (disch := omega) only [dt_up_s, dt_up_k, dt_up_n]; omega)) (by first | omega | (simp (disch := omega) only [dt_up_s, dt_up_k, dt_up_n]; omega)) (by decide) (by first | exact Or.inl rfl | exact Or.inr rfl | assumption | omega) ?_
                        rw [Int.toNat_natCast]
                        refine dt_iinc dX12_oneSaying_175 rfl (by decide) rfl ?_
                        dsimp only [List.set]
                        refine dt_goto (tgt := 135) dX12_oneSaying_178 (by decide) ?_
                        have jm2 : mP (dt_up σ3 51 i 0) 51 256 (fun k => Q k ∧ (k < i + 1 → σs 47 k ≠ 0)) := fun k hk => by
                          by_cases e : k = i
                          · subst e; rw [dt_up_s]; exact (dt_bF (fun z => hnn ⟨z.1, z.2 (by omega)⟩)).symm
                          · rw [dt_up_k e, jm k hk]; exact dt_bc ⟨fun z => ⟨z.1, fun _ => z.2 (by omega)⟩, fun z => ⟨z.1, fun _ => z.2 (by omega)⟩⟩
                        exact dt_lb (ih (i + 1) _ (by omega) (by omega) (fun b hb => (dt_up_o hb).trans (jf b hb)) jm2) ⟨rfl, rfl, rfl, rfl, rfl, trivial⟩
                      · skip
                        try simp only [dt_b0, dt_b1, Decidable.not_not, Classical.not_not] at c59
                        have hqy : Q i := (show Q i ∧ (i < i → σs 47 i ≠ 0) by assumption).1
                        refine dt_wfV fun hwf => ?_
                        refine dt_aloadn dX12_oneSaying_159 rfl rfl ?_
                        refine dt_getR dX12_oneSaying_160 pg_X12_28_12 rfl rfl ?_
                        refine dt_iload dX12_oneSaying_163 rfl ?_
                        refine dt_zald dX12_oneSaying_165 rfl (by first | omega | (simp (disch := omega) only [dt_up_s, dt_up_k, dt_up_n]; omega)) (by first | omega | (simp (disch := omega) only [dt_up_s, dt_up_k, dt_up_n]; omega)) (by decide) ?_
                        rw [Int.toNat_natCast, show σ3 47 i = σs 47 i by rw [jf 47 (by decide)]]
                        refine dt_if_eq (tgt := 173) dX12_oneSaying_166 (by decide) (by have z := hwf 47 i; rw [jf 47 (by decide)] at z; exact z) (fun c60 => ?_) (fun c60 => ?_)
                        · skip
                          have hnn : ¬ (Q i ∧ σs 47 i ≠ 0) := fun z => z.2 (by assumption)
                          refine dt_iconst dX12_oneSaying_173 ?_
                          refine dt_zast dX12_oneSaying_174 rfl (by first | omega | (simp (disch := omega) only [dt_up_s, dt_up_k, dt_up_n]; omega)) (by first | omega | (simp (disch := omega) only [dt_up_s, dt_up_k, dt_up_n]; omega)) (by decide) (by first | exact Or.inl rfl | exact Or.inr rfl | assumption | omega) ?_
                          rw [Int.toNat_natCast]
                          refine dt_iinc dX12_oneSaying_175 rfl (by decide) rfl ?_
                          dsimp only [List.set]
                          refine dt_goto (tgt := 135) dX12_oneSaying_178 (by decide) ?_
                          have jm2 : mP (dt_up σ3 51 i 0) 51 256 (fun k => Q k ∧ (k < i + 1 → σs 47 k ≠ 0)) := fun k hk => by
                            by_cases e : k = i
                            · subst e; rw [dt_up_s]; exact (dt_bF (fun z => hnn ⟨z.1, z.2 (by omega)⟩)).symm
                            · rw [dt_up_k e, jm k hk]; exact dt_bc ⟨fun z => ⟨z.1, fun _ => z.2 (by omega)⟩, fun z => ⟨z.1, fun _ => z.2 (by omega)⟩⟩
                          exact dt_lb (ih (i + 1) _ (by omega) (by omega) (fun b hb => (dt_up_o hb).trans (jf b hb)) jm2) ⟨rfl, rfl, rfl, rfl, rfl, trivial⟩
                        · skip
                          have hpy : σs 47 i ≠ 0 := by assumption
                          refine dt_iconst dX12_oneSaying_169 ?_
                          refine dt_goto (tgt := 174) dX12_oneSaying_170 (by decide) ?_
                          refine dt_zast dX12_oneSaying_174 rfl (by first | omega | (simp (disch := omega) only [dt_up_s, dt_up_k, dt_up_n]; omega)) (by first | omega | (simp (disch := omega) only [dt_up_s, dt_up_k, dt_up_n]; omega)) (by decide) (by first | exact Or.inl rfl | exact Or.inr rfl | assumption | omega) ?_
                          rw [Int.toNat_natCast]
                          refine dt_iinc dX12_oneSaying_175 rfl (by decide) rfl ?_
                          dsimp only [List.set]
                          refine dt_goto (tgt := 135) dX12_oneSaying_178 (by decide) ?_
                          have jm2 : mP (dt_up σ3 51 i 1) 51 256 (fun k => Q k ∧ (k < i + 1 → σs 47 k ≠ 0)) := fun k hk => by
                            by_cases e : k = i
                            · subst e; rw [dt_up_s]; exact (dt_bT ⟨hqy, fun _ => hpy⟩).symm
                            · rw [dt_up_k e, jm k hk]; exact dt_bc ⟨fun z => ⟨z.1, fun _ => z.2 (by omega)⟩, fun z => ⟨z.1, fun _ => z.2 (by omega)⟩⟩
                          exact dt_lb (ih (i + 1) _ (by omega) (by omega) (fun b hb => (dt_up_o hb).trans (jf b hb)) jm2) ⟨rfl, rfl, rfl, rfl, rfl, trivial⟩
                exact dt_lb (lp135 300 0 σs (by omega) (by omega) (fun _ _ => rfl) (hQp.ext (fun k _ => ⟨fun z => ⟨z, fun h => absurd h (Nat.not_lt_zero k)⟩, fun z => z.1⟩))) ⟨rfl, rfl, rfl, rfl, rfl, trivial⟩
              · skip
                obtain ⟨h1, h2, h3, h4⟩ | ⟨e, h1, h2⟩ := ks
                rotate_left
                · exfalso; rw [h1] at kB; obtain ⟨z1, z2⟩ := kB; omega
                subst h1
                refine dt_aloadn dX12_oneSaying_84 rfl rfl ?_
                refine dt_iloadn dX12_oneSaying_85 rfl rfl ?_
                refine dt_xV dX12_oneSaying_86 pc_X12_280 rfl (s_X12_nextItem hr1 hr2 (hrow.kept (kf 41 _ (by decide) (Or.inl (by decide))) (kf 42 _ (by decide) (Or.inl (by decide))) (fun _ _ => kf 43 _ (by decide) (Or.inl (by decide)))) kB) rfl rfl ⟨by decide, by decide⟩ rfl rfl (Nat.le_of_ble_eq_true rfl) ⟨by decide, by decide⟩ ?_
                intro vf shf σf hqf
                obtain ⟨rfl, hsf, hff, hBf, hif⟩ := hqf
                obtain rfl := hsf.symm
                obtain ⟨w, hw0⟩ : ∃ w, w = nxV (.ok (l2.drop z)) := ⟨_, rfl⟩
                rw [← hw0] at hif ⊢
                have gF : ∀ b k, (b ≠ 47 ∧ b ≠ 48 ∧ b ≠ 51) → (b ≠ 40 ∨ (k ≠ 1 ∧ k ≠ 24 ∧ k ≠ 25)) → σf b k = σ b k := fun b k h1 h => (hff b k h).trans (kf b k h1 h)
                have hXf : rX σf X := hX.kept (funext fun k => gF 44 k (by decide) (Or.inl (by decide)))
                refine dt_istore dX12_oneSaying_89 (by decide) rfl ?_
                dsimp only [List.set]
                refine dt_aloadn dX12_oneSaying_91 rfl rfl ?_
                refine dt_aloadn dX12_oneSaying_92 rfl rfl ?_
                refine dt_iload dX12_oneSaying_93 rfl ?_
                refine dt_iload dX12_oneSaying_95 rfl ?_
                refine dt_xV dX12_oneSaying_97 pc_X12_212 rfl (s_X12_isWord hXf (by omega) hif) rfl rfl ⟨by decide, by decide⟩ rfl rfl (Nat.le_of_ble_eq_true rfl) ⟨by decide, by decide⟩ (dt_k3 ?_)
                refine dt_if_ne (tgt := 107) dX12_oneSaying_100 (by decide) (by first | assumption | exact hwf _ _ | exact dt_b32 _ | omega | exact ⟨by omega, by omega⟩ | decide | exact ⟨by simp (disch := omega) only [dt_up_s, dt_up_k, dt_up_n]; omega, by simp (disch := omega) only [dt_up_s, dt_up_k, dt_up_n]; omega⟩) (fun c61 => ?_) (fun c61 => ?_)
                · skip
                  try simp only [dt_b0, dt_b1, Decidable.not_not, Classical.not_not] at c61
                  have hwx : xAt X t w ≠ none := by assumption
                  refine dt_iconst dX12_oneSaying_107 ?_
                  refine dt_xV dX12_oneSaying_108 pc_X12_283 rfl (s_X12_bars hBf (by decide)) rfl rfl ⟨by decide, by decide⟩ rfl rfl (Nat.le_of_ble_eq_true rfl) ⟨by decide, by decide⟩ ?_
                  intro vg shg σg hqg
                  obtain ⟨rfl, hsg, hfg, hBg⟩ := hqg
                  obtain rfl := hsg.symm
                  have gG : ∀ b k, (b ≠ 47 ∧ b ≠ 48 ∧ b ≠ 51) → (b ≠ 40 ∨ (k ≠ 1 ∧ k ≠ 24 ∧ k ≠ 25)) → σg b k = σ b k := fun b k h1 h => (hfg b k (by omega)).trans (gF b k h1 h)
                  have hgm : ∀ b, b ≠ 40 → σg b = σs b := fun b hb => funext fun k => (hfg b k (Or.inl hb)).trans (hff b k (Or.inl hb))
                  refine dt_wfV fun hwf => ?_
                  refine dt_aloadn dX12_oneSaying_111 rfl rfl ?_
                  refine dt_getI dX12_oneSaying_112 pg_X12_274_12 rfl rfl ?_
                  refine dt_if_ne (tgt := 126) dX12_oneSaying_115 (by decide) (by first | assumption | exact hwf _ _ | exact dt_b32 _ | omega | exact ⟨by omega, by omega⟩ | decide | exact ⟨by simp (disch := omega) only [dt_up_s, dt_up_k, dt_up_n]; omega, by simp (disch := omega) only [dt_up_s, dt_up_k, dt_up_n]; omega⟩) (fun c62 => ?_) (fun c62 => ?_)
                  · skip
                    have hxe : ∃ e, bsS 0 (nxS (.ok (l2.drop z))) = .error e ∧ xOne X l = .error e := by
                      rcases Nat.lt_or_ge z l2.length with g | g
                      · obtain ⟨x, hx⟩ := dt_lg g
                        rw [drop_c hx] at hBg hw0 ⊢
                        exact absurd hBg.1 (by assumption)
                      · rw [List.drop_of_length_le g]
                        refine ⟨-1000012, rfl, ?_⟩
                        rw [hl]
                        exact xOne_p hd0 ⟨hn0, hn6⟩ (by rw [ht, List.take_of_length_le (by omega)]; rw [List.take_of_length_le g] at h3; exact h3) (by omega)
                    obtain ⟨e, hxe1, hxe2⟩ := hxe
                    rw [hxe1] at hBg
                    refine dt_iinc dX12_oneSaying_126 rfl (by decide) rfl ?_
                    dsimp only [List.set]
                    refine dt_goto (tgt := 71) dX12_oneSaying_129 (by decide) ?_
                    exact dt_lb (ih (z + 1) P (.error e) σg (by omega) (by omega) hBg (kQ.kept (hgm 51 (by decide))) gG (Or.inr ⟨e, rfl, hxe2⟩)) ⟨rfl, rfl, rfl, rfl, rfl, rfl, trivial⟩
                  · skip
                    obtain ⟨x, hx⟩ : ∃ x, l2[z]? = some x := by
                      rcases Nat.lt_or_ge z l2.length with g | g
                      · exact dt_lg g
                      · exfalso
                        rw [List.drop_of_length_le g] at hBg
                        obtain ⟨z1, z2⟩ : σg 40 25 = -1000012 ∧ _ := hBg
                        omega
                    rw [drop_c hx] at hBg hw0
                    obtain rfl : w = x := hw0
                    obtain ⟨t2, wn, wd, et, rfl, hw⟩ := xAt_ne hwx
                    obtain rfl : t = t2 := by omega
                    have hXg : rX σg X := hX.kept (funext fun k => gG 44 k (by decide) (Or.inl (by decide)))
                    refine dt_aloadn dX12_oneSaying_118 rfl rfl ?_
                    refine dt_iload dX12_oneSaying_119 rfl ?_
                    refine dt_iload dX12_oneSaying_121 rfl ?_
                    refine dt_xV dX12_oneSaying_123 pc_X12_237 rfl (s_X12_mean hXg hw (h4.kept (hgm 47 (by decide)))) rfl rfl ⟨by decide, by decide⟩ rfl rfl (Nat.le_of_ble_eq_true rfl) ⟨by decide, by decide⟩ ?_
                    intro vm shm σm hqm
                    obtain ⟨rfl, hsm, hfm, hMm⟩ := hqm
                    obtain rfl := hsm.symm
                    refine dt_iinc dX12_oneSaying_126 rfl (by decide) rfl ?_
                    dsimp only [List.set]
                    refine dt_goto (tgt := 71) dX12_oneSaying_129 (by decide) ?_
                    have hMmm := hMm
                    exact dt_lb (ih (z + 1) (xSay P wd.2) (.ok (l2.drop (z + 1))) σm (by omega) (by omega) (hBg.kept (hfm 40 (by decide) (by decide))) (kQ.kept ((hfm 51 (by decide) (by decide)).trans (hgm 51 (by decide)))) (fun b k h1 h => (congrFun (hfm b h1.1 h1.2.1) k).trans (gG b k h1 h)) (Or.inl ⟨rfl, by have := dt_gl hx; omega, by rw [xSd_s hx, h3]; exact xSd1_y (xAt_of hw), hMm⟩)) ⟨rfl, rfl, rfl, rfl, rfl, rfl, trivial⟩
                · skip
                  try simp only [dt_b0, dt_b1, Decidable.not_not, Classical.not_not] at c61
                  have hwx : xAt X t w = none := by first | assumption | exact Classical.not_not.mp (by assumption)
                  refine dt_iconst dX12_oneSaying_103 ?_
                  refine dt_goto (tgt := 108) dX12_oneSaying_104 (by decide) ?_
                  refine dt_xV dX12_oneSaying_108 pc_X12_283 rfl (s_X12_bars hBf (by decide)) rfl rfl ⟨by decide, by decide⟩ rfl rfl (Nat.le_of_ble_eq_true rfl) ⟨by decide, by decide⟩ ?_
                  intro vg shg σg hqg
                  obtain ⟨rfl, hsg, hfg, hBg⟩ := hqg
                  obtain rfl := hsg.symm
                  have gG : ∀ b k, (b ≠ 47 ∧ b ≠ 48 ∧ b ≠ 51) → (b ≠ 40 ∨ (k ≠ 1 ∧ k ≠ 24 ∧ k ≠ 25)) → σg b k = σ b k := fun b k h1 h => (hfg b k (by omega)).trans (gF b k h1 h)
                  have hgm : ∀ b, b ≠ 40 → σg b = σs b := fun b hb => funext fun k => (hfg b k (Or.inl hb)).trans (hff b k (Or.inl hb))
                  refine dt_wfV fun hwf => ?_
                  refine dt_aloadn dX12_oneSaying_111 rfl rfl ?_
                  refine dt_getI dX12_oneSaying_112 pg_X12_274_12 rfl rfl ?_
                  refine dt_if_ne (tgt := 126) dX12_oneSaying_115 (by decide) (by first | assumption | exact hwf _ _ | exact dt_b32 _ | omega | exact ⟨by omega, by omega⟩ | decide | exact ⟨by simp (disch := omega) only [dt_up_s, dt_up_k, dt_up_n]; omega, by simp (disch := omega) only [dt_up_s, dt_up_k, dt_up_n]; omega⟩) (fun c63 => ?_) (fun c63 => ?_)
                  · skip
                    have hxe : ∃ e, bsS 1 (nxS (.ok (l2.drop z))) = .error e ∧ xOne X l = .error e := by
                      rcases Nat.lt_or_ge z l2.length with g | g
                      · obtain ⟨x, hx⟩ := dt_lg g
                        rw [drop_c hx] at hBg hw0 ⊢
                        obtain rfl : w = x := hw0
                        refine ⟨-1000001, rfl, ?_⟩
                        rw [hl]
                        exact xOne_w hd0 ⟨hn0, hn6⟩ (by rw [ht]; exact xSd_no (j := z) (by rw [List.getElem?_take_of_lt (by omega)]; exact hx) hwx)
                      · rw [List.drop_of_length_le g]
                        refine ⟨-1000012, rfl, ?_⟩
                        rw [hl]
                        exact xOne_p hd0 ⟨hn0, hn6⟩ (by rw [ht, List.take_of_length_le (by omega)]; rw [List.take_of_length_le g] at h3; exact h3) (by omega)
                    obtain ⟨e, hxe1, hxe2⟩ := hxe
                    rw [hxe1] at hBg
                    refine dt_iinc dX12_oneSaying_126 rfl (by decide) rfl ?_
                    dsimp only [List.set]
                    refine dt_goto (tgt := 71) dX12_oneSaying_129 (by decide) ?_
                    exact dt_lb (ih (z + 1) P (.error e) σg (by omega) (by omega) hBg (kQ.kept (hgm 51 (by decide))) gG (Or.inr ⟨e, rfl, hxe2⟩)) ⟨rfl, rfl, rfl, rfl, rfl, rfl, trivial⟩
                  · skip
                    exfalso
                    rcases Nat.lt_or_ge z l2.length with g | g
                    · obtain ⟨x, hx⟩ := dt_lg g
                      rw [drop_c hx] at hBg
                      obtain ⟨z1, z2⟩ : σg 40 25 = -1000001 ∧ _ := hBg
                      omega
                    · rw [List.drop_of_length_le g] at hBg
                      obtain ⟨z1, z2⟩ : σg 40 25 = -1000012 ∧ _ := hBg
                      omega
        exact dt_lb (lp71 9 0 xZ (.ok l2) σs (by omega) (by omega) hBs hQs fS (Or.inl ⟨rfl, Nat.zero_le _, rfl, hMs⟩)) ⟨rfl, rfl, rfl, rfl, rfl, rfl, trivial⟩
    · skip
      try simp only [dt_b0, dt_b1, Decidable.not_not, Classical.not_not] at c43
      have hb2 : ((1 : Int) = 1 ∧ ¬ (0 ≤ n ∧ n ≤ 6)) ∨ ((1 : Int) = 0 ∧ (0 ≤ n ∧ n ≤ 6)) := Or.inl ⟨rfl, by omega⟩
      refine dt_iconst dX12_oneSaying_38 ?_
      refine dt_goto (tgt := 43) dX12_oneSaying_39 (by decide) ?_
      refine dt_xV dX12_oneSaying_43 pc_X12_283 rfl (s_X12_bars hBc (by decide)) rfl rfl ⟨by decide, by decide⟩ rfl rfl (Nat.le_of_ble_eq_true rfl) ⟨by decide, by decide⟩ ?_
      intro ve she σe hqe
      obtain ⟨rfl, hse, hfe, hBe⟩ := hqe
      obtain rfl := hse.symm
      have fE : ∀ b k, (b ≠ 40 ∨ (k ≠ 1 ∧ k ≠ 24 ∧ k ≠ 25)) → σe b k = σ b k := fun b k h => (hfe b k (by omega)).trans (fC b k h)
      have hh := one_hd (X := X) hday hn hb hb2
      have hXe : rX σe X := hX.kept (funext fun k => fE 44 k (Or.inl (by decide)))
      refine dt_wfV fun hwf => ?_
      refine dt_aloadn dX12_oneSaying_46 rfl rfl ?_
      refine dt_getI dX12_oneSaying_47 pg_X12_274_12 rfl rfl ?_
      refine dt_if_ne (tgt := 61) dX12_oneSaying_50 (by decide) (by first | assumption | exact hwf _ _ | exact dt_b32 _ | omega | exact ⟨by omega, by omega⟩ | decide | exact ⟨by simp (disch := omega) only [dt_up_s, dt_up_k, dt_up_n]; omega, by simp (disch := omega) only [dt_up_s, dt_up_k, dt_up_n]; omega⟩) (fun c64 => ?_) (fun c64 => ?_)
      · skip
        obtain ⟨e, h4, hx⟩ | ⟨l2, h4, -⟩ := hh
        rotate_left
        · exfalso; rw [h4] at hBe; exact absurd hBe.1 (by assumption)
        rw [h4] at hBe
        refine dt_iconst dX12_oneSaying_61 ?_
        refine dt_istore dX12_oneSaying_62 (by decide) rfl ?_
        dsimp only [List.set]
        refine dt_aloadn dX12_oneSaying_64 rfl rfl ?_
        refine dt_xV dX12_oneSaying_65 pc_X12_234 rfl s_X12_startMeaning rfl rfl ⟨by decide, by decide⟩ rfl rfl (Nat.le_of_ble_eq_true rfl) ⟨by decide, by decide⟩ ?_
        intro vs shs σs hqs
        obtain ⟨rfl, hss, hfs, hMs⟩ := hqs
        obtain rfl := hss.symm
        have fS : ∀ b k, (b ≠ 47 ∧ b ≠ 48 ∧ b ≠ 51) → (b ≠ 40 ∨ (k ≠ 1 ∧ k ≠ 24 ∧ k ≠ 25)) → σs b k = σ b k := fun b k h1 h => (congrFun (hfs b h1.1) k).trans (fE b k h)
        have hBs := hBe.kept (hfs 40 (by decide))
        have hQs : mP σs 51 256 Q := hQ.kept (funext fun k => (congrFun (hfs 51 (by decide)) k).trans (fE 51 k (Or.inl (by decide))))
        refine dt_wfV fun hwf => ?_
        refine dt_iconst dX12_oneSaying_68 ?_
        refine dt_istore dX12_oneSaying_69 (by decide) rfl ?_
        dsimp only [List.set]
        refine dt_iload dX12_oneSaying_71 rfl ?_
        refine dt_iloadn dX12_oneSaying_73 rfl rfl ?_
        refine dt_cm_ge (tgt := 132) dX12_oneSaying_74 (by decide) (by first | assumption | exact hwf _ _ | exact dt_b32 _ | omega | exact ⟨by omega, by omega⟩ | decide | exact ⟨by simp (disch := omega) only [dt_up_s, dt_up_k, dt_up_n]; omega, by simp (disch := omega) only [dt_up_s, dt_up_k, dt_up_n]; omega⟩) (by first | assumption | exact hwf _ _ | exact dt_b32 _ | omega | exact ⟨by omega, by omega⟩ | decide | exact ⟨by simp (disch := omega) only [dt_up_s, dt_up_k, dt_up_n]; omega, by simp (disch := omega) only [dt_up_s, dt_up_k, dt_up_n]; omega⟩) (fun c65 => ?_) (fun c65 => ?_)
        · skip
          have hfin : (∃ p, xOne X l = .ok p ∧ mP σs 47 256 p.1) ∨ ∃ e, xOne X l = .error e := Or.inr ⟨e, hx⟩
          have hBp : rBr σs q.2 st0 (x1S (xOne X l)) := by rw [hx]; exact hBs
          have hQp := hQs
          have hfp := fS
          refine dt_iconst dX12_oneSaying_132 ?_
          refine dt_istore dX12_oneSaying_133 (by decide) rfl ?_
          dsimp only [List.set]
          have lp135 : ∀ (fu : Nat) (i : Nat) (σ3 : dt_Mem), 256 - (i : Int) < (fu : Int) → (i ≤ 256) → (∀ b, b ≠ 51 → σ3 b = σs b) → (mP σ3 51 256 (fun k => Q k ∧ (k < i → σs 47 k ≠ 0))) →  dt_V mX12_oneSaying (dt_rm 3 0 0) (dt_MC (fun v sh2 σ2 => v = none ∧ sh2 = dt_SH ++ ex ∧ (∀ b k, (b ≠ 47 ∧ b ≠ 48 ∧ b ≠ 51) → (b ≠ 40 ∨ (k ≠ 1 ∧ k ≠ 24 ∧ k ≠ 25)) → σ2 b k = σ b k) ∧ rBr σ2 q.2 st0 (x1S (xOne X l)) ∧ ∀ p, xOne X l = .ok p → mP σ2 51 256 (fun k => Q k ∧ p.1 k)) 0 0) 0 0 135 [some (dt_R 40), some (dt_I r), some (dt_I day), some (dt_I n), none, some (dt_I (i : Int)), none] [] (dt_SH ++ ex) σ3 := by
            intro fu
            induction fu with
            | zero =>
              intro i σ3 hm ji jf jm
              exfalso
              omega
            | succ fu ih =>
              intro i σ3 hm ji jf jm
              refine dt_wfV fun hwf => ?_
              refine dt_iload dX12_oneSaying_135 rfl ?_
              refine dt_sipush dX12_oneSaying_137 (by decide) ?_
              refine dt_cm_ge (tgt := 181) dX12_oneSaying_140 (by decide) (by first | assumption | exact hwf _ _ | exact dt_b32 _ | omega | exact ⟨by omega, by omega⟩ | decide | exact ⟨by simp (disch := omega) only [dt_up_s, dt_up_k, dt_up_n]; omega, by simp (disch := omega) only [dt_up_s, dt_up_k, dt_up_n]; omega⟩) (by first | assumption | exact hwf _ _ | exact dt_b32 _ | omega | exact ⟨by omega, by omega⟩ | decide | exact ⟨by simp (disch := omega) only [dt_up_s, dt_up_k, dt_up_n]; omega, by simp (disch := omega) only [dt_up_s, dt_up_k, dt_up_n]; omega⟩) (fun c66 => ?_) (fun c66 => ?_)
              · skip
                refine dt_vret dX12_oneSaying_181 rfl (by decide) (by decide) ?_
                obtain rfl : i = 256 := by omega
                refine ⟨rfl, rfl, fun b k h1 h => (congrFun (jf b h1.2.2) k).trans (hfp b k h1 h), hBp.kept (jf 40 (by decide)), fun p hp => ?_⟩
                rcases hfin with ⟨p2, h1, h2⟩ | ⟨e, h1⟩
                · rw [h1] at hp
                  obtain rfl := Except.ok.inj hp
                  exact jm.ext (fun k hk => by
                    have h3 : σs 47 k ≠ 0 ↔ p2.1 k := by
                      rw [h2 k hk]
                      by_cases g : p2.1 k
                      · rw [dt_bT g]; exact ⟨fun _ => g, fun _ => by decide⟩
                      · rw [dt_bF g]; exact ⟨fun z => absurd rfl z, fun z => absurd z g⟩
                    exact ⟨fun z => ⟨z.1, h3.mp (z.2 hk)⟩, fun z => ⟨z.1, fun _ => h3.mpr z.2⟩⟩)
                · rw [h1] at hp; cases hp
              · skip
                have hi : i < 256 := by omega
                refine dt_aloadn dX12_oneSaying_143 rfl rfl ?_
                refine dt_getR dX12_oneSaying_144 pg_X12_41_12 rfl rfl ?_
                refine dt_iload dX12_oneSaying_147 rfl ?_
                refine dt_aloadn dX12_oneSaying_149 rfl rfl ?_
                refine dt_getR dX12_oneSaying_150 pg_X12_41_12 rfl rfl ?_
                refine dt_iload dX12_oneSaying_153 rfl ?_
                refine dt_zald dX12_oneSaying_155 rfl (by first | omega | (simp (disch := omega) only [dt_up_s, dt_up_k, dt_up_n]; omega)) (by first | omega | (simp (disch := omega) only [dt_up_s, dt_up_k, dt_up_n]; omega)) (by decide) ?_
                rw [Int.toNat_natCast, jm i hi]
                refine dt_if_eq (tgt := 173) dX12_oneSaying_156 (by decide) (by first | assumption | exact hwf _ _ | exact dt_b32 _ | omega | exact ⟨by omega, by omega⟩ | decide | exact ⟨by simp (disch := omega) only [dt_up_s, dt_up_k, dt_up_n]; omega, by simp (disch := omega) only [dt_up_s, dt_up_k, dt_up_n]; omega⟩) (fun c67 => ?_) (fun c67 => ?_)
                · skip
                  try simp only [dt_b0, dt_b1, Decidable.not_not, Classical.not_not] at c67
                  have hnn : ¬ (Q i ∧ σs 47 i ≠ 0) := fun z => (show ¬ (Q i ∧ (i < i → σs 47 i ≠ 0)) by assumption) ⟨z.1, fun h => absurd h (Nat.lt_irrefl i)⟩
                  refine dt_iconst dX12_oneSaying_173 ?_
                  refine dt_zast dX12_oneSaying_174 rfl (by first | omega | (simp (disch := omega) only [dt_up_s, dt_up_k, dt_up_n]; omega)) (by first | omega | (simp (disch := omega) only [dt_up_s, dt_up_k, dt_up_n]; omega)) (by decide) (by first | exact Or.inl rfl | exact Or.inr rfl | assumption | omega) ?_
                  rw [Int.toNat_natCast]
                  refine dt_iinc dX12_oneSaying_175 rfl (by decide) rfl ?_
                  dsimp only [List.set]
                  refine dt_goto (tgt := 135) dX12_oneSaying_178 (by decide) ?_
                  have jm2 : mP (dt_up σ3 51 i 0) 51 256 (fun k => Q k ∧ (k < i + 1 → σs 47 k ≠ 0)) := fun k hk => by
                    by_cases e : k = i
                    · subst e; rw [dt_up_s]; exact (dt_bF (fun z => hnn ⟨z.1, z.2 (by omega)⟩)).symm
                    · rw [dt_up_k e, jm k hk]; exact dt_bc ⟨fun z => ⟨z.1, fun _ => z.2 (by omega)⟩, fun z => ⟨z.1, fun _ => z.2 (by omega)⟩⟩
                  exact dt_lb (ih (i + 1) _ (by omega) (by omega) (fun b hb => (dt_up_o hb).trans (jf b hb)) jm2) ⟨rfl, rfl, rfl, rfl, rfl, trivial⟩
                · skip
                  try simp only [dt_b0, dt_b1, Decidable.not_not, Classical.not_not] at c67
                  have hqy : Q i := (show Q i ∧ (i < i → σs 47 i ≠ 0) by assumption).1
                  refine dt_wfV fun hwf => ?_
                  refine dt_aloadn dX12_oneSaying_159 rfl rfl ?_
                  refine dt_getR dX12_oneSaying_160 pg_X12_28_12 rfl rfl ?_
                  refine dt_iload dX12_oneSaying_163 rfl ?_
                  refine dt_zald dX12_oneSaying_165 rfl (by first | omega | (simp (disch := omega) only [dt_up_s, dt_up_k, dt_up_n]; omega)) (by first | omega | (simp (disch := omega) only [dt_up_s, dt_up_k, dt_up_n]; omega)) (by decide) ?_
                  rw [Int.toNat_natCast, show σ3 47 i = σs 47 i by rw [jf 47 (by decide)]]
                  refine dt_if_eq (tgt := 173) dX12_oneSaying_166 (by decide) (by have z := hwf 47 i; rw [jf 47 (by decide)] at z; exact z) (fun c68 => ?_) (fun c68 => ?_)
                  · skip
                    have hnn : ¬ (Q i ∧ σs 47 i ≠ 0) := fun z => z.2 (by assumption)
                    refine dt_iconst dX12_oneSaying_173 ?_
                    refine dt_zast dX12_oneSaying_174 rfl (by first | omega | (simp (disch := omega) only [dt_up_s, dt_up_k, dt_up_n]; omega)) (by first | omega | (simp (disch := omega) only [dt_up_s, dt_up_k, dt_up_n]; omega)) (by decide) (by first | exact Or.inl rfl | exact Or.inr rfl | assumption | omega) ?_
                    rw [Int.toNat_natCast]
                    refine dt_iinc dX12_oneSaying_175 rfl (by decide) rfl ?_
                    dsimp only [List.set]
                    refine dt_goto (tgt := 135) dX12_oneSaying_178 (by decide) ?_
                    have jm2 : mP (dt_up σ3 51 i 0) 51 256 (fun k => Q k ∧ (k < i + 1 → σs 47 k ≠ 0)) := fun k hk => by
                      by_cases e : k = i
                      · subst e; rw [dt_up_s]; exact (dt_bF (fun z => hnn ⟨z.1, z.2 (by omega)⟩)).symm
                      · rw [dt_up_k e, jm k hk]; exact dt_bc ⟨fun z => ⟨z.1, fun _ => z.2 (by omega)⟩, fun z => ⟨z.1, fun _ => z.2 (by omega)⟩⟩
                    exact dt_lb (ih (i + 1) _ (by omega) (by omega) (fun b hb => (dt_up_o hb).trans (jf b hb)) jm2) ⟨rfl, rfl, rfl, rfl, rfl, trivial⟩
                  · skip
                    have hpy : σs 47 i ≠ 0 := by assumption
                    refine dt_iconst dX12_oneSaying_169 ?_
                    refine dt_goto (tgt := 174) dX12_oneSaying_170 (by decide) ?_
                    refine dt_zast dX12_oneSaying_174 rfl (by first | omega | (simp (disch := omega) only [dt_up_s, dt_up_k, dt_up_n]; omega)) (by first | omega | (simp (disch := omega) only [dt_up_s, dt_up_k, dt_up_n]; omega)) (by decide) (by first | exact Or.inl rfl | exact Or.inr rfl | assumption | omega) ?_
                    rw [Int.toNat_natCast]
                    refine dt_iinc dX12_oneSaying_175 rfl (by decide) rfl ?_
                    dsimp only [List.set]
                    refine dt_goto (tgt := 135) dX12_oneSaying_178 (by decide) ?_
                    have jm2 : mP (dt_up σ3 51 i 1) 51 256 (fun k => Q k ∧ (k < i + 1 → σs 47 k ≠ 0)) := fun k hk => by
                      by_cases e : k = i
                      · subst e; rw [dt_up_s]; exact (dt_bT ⟨hqy, fun _ => hpy⟩).symm
                      · rw [dt_up_k e, jm k hk]; exact dt_bc ⟨fun z => ⟨z.1, fun _ => z.2 (by omega)⟩, fun z => ⟨z.1, fun _ => z.2 (by omega)⟩⟩
                    exact dt_lb (ih (i + 1) _ (by omega) (by omega) (fun b hb => (dt_up_o hb).trans (jf b hb)) jm2) ⟨rfl, rfl, rfl, rfl, rfl, trivial⟩
          exact dt_lb (lp135 300 0 σs (by omega) (by omega) (fun _ _ => rfl) (hQp.ext (fun k _ => ⟨fun z => ⟨z, fun h => absurd h (Nat.not_lt_zero k)⟩, fun z => z.1⟩))) ⟨rfl, rfl, rfl, rfl, rfl, trivial⟩
        · skip
          refine dt_aloadn dX12_oneSaying_77 rfl rfl ?_
          refine dt_getI dX12_oneSaying_78 pg_X12_274_12 rfl rfl ?_
          refine dt_if_ne (tgt := 132) dX12_oneSaying_81 (by decide) (by first | assumption | exact hwf _ _ | exact dt_b32 _ | omega | exact ⟨by omega, by omega⟩ | decide | exact ⟨by simp (disch := omega) only [dt_up_s, dt_up_k, dt_up_n]; omega, by simp (disch := omega) only [dt_up_s, dt_up_k, dt_up_n]; omega⟩) (fun c69 => ?_) (fun c69 => ?_)
          · skip
            have hfin : (∃ p, xOne X l = .ok p ∧ mP σs 47 256 p.1) ∨ ∃ e, xOne X l = .error e := Or.inr ⟨e, hx⟩
            have hBp : rBr σs q.2 st0 (x1S (xOne X l)) := by rw [hx]; exact hBs
            have hQp := hQs
            have hfp := fS
            refine dt_iconst dX12_oneSaying_132 ?_
            refine dt_istore dX12_oneSaying_133 (by decide) rfl ?_
            dsimp only [List.set]
            have lp135 : ∀ (fu : Nat) (i : Nat) (σ3 : dt_Mem), 256 - (i : Int) < (fu : Int) → (i ≤ 256) → (∀ b, b ≠ 51 → σ3 b = σs b) → (mP σ3 51 256 (fun k => Q k ∧ (k < i → σs 47 k ≠ 0))) →  dt_V mX12_oneSaying (dt_rm 3 0 0) (dt_MC (fun v sh2 σ2 => v = none ∧ sh2 = dt_SH ++ ex ∧ (∀ b k, (b ≠ 47 ∧ b ≠ 48 ∧ b ≠ 51) → (b ≠ 40 ∨ (k ≠ 1 ∧ k ≠ 24 ∧ k ≠ 25)) → σ2 b k = σ b k) ∧ rBr σ2 q.2 st0 (x1S (xOne X l)) ∧ ∀ p, xOne X l = .ok p → mP σ2 51 256 (fun k => Q k ∧ p.1 k)) 0 0) 0 0 135 [some (dt_R 40), some (dt_I r), some (dt_I day), some (dt_I n), none, some (dt_I (i : Int)), none] [] (dt_SH ++ ex) σ3 := by
              intro fu
              induction fu with
              | zero =>
                intro i σ3 hm ji jf jm
                exfalso
                omega
              | succ fu ih =>
                intro i σ3 hm ji jf jm
                refine dt_wfV fun hwf => ?_
                refine dt_iload dX12_oneSaying_135 rfl ?_
                refine dt_sipush dX12_oneSaying_137 (by decide) ?_
                refine dt_cm_ge (tgt := 181) dX12_oneSaying_140 (by decide) (by first | assumption | exact hwf _ _ | exact dt_b32 _ | omega | exact ⟨by omega, by omega⟩ | decide | exact ⟨by simp (disch := omega) only [dt_up_s, dt_up_k, dt_up_n]; omega, by simp (disch := omega) only [dt_up_s, dt_up_k, dt_up_n]; omega⟩) (by first | assumption | exact hwf _ _ | exact dt_b32 _ | omega | exact ⟨by omega, by omega⟩ | decide | exact ⟨by simp (disch := omega) only [dt_up_s, dt_up_k, dt_up_n]; omega, by simp (disch := omega) only [dt_up_s, dt_up_k, dt_up_n]; omega⟩) (fun c70 => ?_) (fun c70 => ?_)
                · skip
                  refine dt_vret dX12_oneSaying_181 rfl (by decide) (by decide) ?_
                  obtain rfl : i = 256 := by omega
                  refine ⟨rfl, rfl, fun b k h1 h => (congrFun (jf b h1.2.2) k).trans (hfp b k h1 h), hBp.kept (jf 40 (by decide)), fun p hp => ?_⟩
                  rcases hfin with ⟨p2, h1, h2⟩ | ⟨e, h1⟩
                  · rw [h1] at hp
                    obtain rfl := Except.ok.inj hp
                    exact jm.ext (fun k hk => by
                      have h3 : σs 47 k ≠ 0 ↔ p2.1 k := by
                        rw [h2 k hk]
                        by_cases g : p2.1 k
                        · rw [dt_bT g]; exact ⟨fun _ => g, fun _ => by decide⟩
                        · rw [dt_bF g]; exact ⟨fun z => absurd rfl z, fun z => absurd z g⟩
                      exact ⟨fun z => ⟨z.1, h3.mp (z.2 hk)⟩, fun z => ⟨z.1, fun _ => h3.mpr z.2⟩⟩)
                  · rw [h1] at hp; cases hp
                · skip
                  have hi : i < 256 := by omega
                  refine dt_aloadn dX12_oneSaying_143 rfl rfl ?_
                  refine dt_getR dX12_oneSaying_144 pg_X12_41_12 rfl rfl ?_
                  refine dt_iload dX12_oneSaying_147 rfl ?_
                  refine dt_aloadn dX12_oneSaying_149 rfl rfl ?_
                  refine dt_getR dX12_oneSaying_150 pg_X12_41_12 rfl rfl ?_
                  refine dt_iload dX12_oneSaying_153 rfl ?_
                  refine dt_zald dX12_oneSaying_155 rfl (by first | omega | (simp (disch := omega) only [dt_up_s, dt_up_k, dt_up_n]; omega)) (by first | omega | (simp (disch := omega) only [dt_up_s, dt_up_k, dt_up_n]; omega)) (by decide) ?_
                  rw [Int.toNat_natCast, jm i hi]
                  refine dt_if_eq (tgt := 173) dX12_oneSaying_156 (by decide) (by first | assumption | exact hwf _ _ | exact dt_b32 _ | omega | exact ⟨by omega, by omega⟩ | decide | exact ⟨by simp (disch := omega) only [dt_up_s, dt_up_k, dt_up_n]; omega, by simp (disch := omega) only [dt_up_s, dt_up_k, dt_up_n]; omega⟩) (fun c71 => ?_) (fun c71 => ?_)
                  · skip
                    try simp only [dt_b0, dt_b1, Decidable.not_not, Classical.not_not] at c71
                    have hnn : ¬ (Q i ∧ σs 47 i ≠ 0) := fun z => (show ¬ (Q i ∧ (i < i → σs 47 i ≠ 0)) by assumption) ⟨z.1, fun h => absurd h (Nat.lt_irrefl i)⟩
                    refine dt_iconst dX12_oneSaying_173 ?_
                    refine dt_zast dX12_oneSaying_174 rfl (by first | omega | (simp (disch := omega) only [dt_up_s, dt_up_k, dt_up_n]; omega)) (by first | omega | (simp (disch := omega) only [dt_up_s, dt_up_k, dt_up_n]; omega)) (by decide) (by first | exact Or.inl rfl | exact Or.inr rfl | assumption | omega) ?_
                    rw [Int.toNat_natCast]
                    refine dt_iinc dX12_oneSaying_175 rfl (by decide) rfl ?_
                    dsimp only [List.set]
                    refine dt_goto (tgt := 135) dX12_oneSaying_178 (by decide) ?_
                    have jm2 : mP (dt_up σ3 51 i 0) 51 256 (fun k => Q k ∧ (k < i + 1 → σs 47 k ≠ 0)) := fun k hk => by
                      by_cases e : k = i
                      · subst e; rw [dt_up_s]; exact (dt_bF (fun z => hnn ⟨z.1, z.2 (by omega)⟩)).symm
                      · rw [dt_up_k e, jm k hk]; exact dt_bc ⟨fun z => ⟨z.1, fun _ => z.2 (by omega)⟩, fun z => ⟨z.1, fun _ => z.2 (by omega)⟩⟩
                    exact dt_lb (ih (i + 1) _ (by omega) (by omega) (fun b hb => (dt_up_o hb).trans (jf b hb)) jm2) ⟨rfl, rfl, rfl, rfl, rfl, trivial⟩
                  · skip
                    try simp only [dt_b0, dt_b1, Decidable.not_not, Classical.not_not] at c71
                    have hqy : Q i := (show Q i ∧ (i < i → σs 47 i ≠ 0) by assumption).1
                    refine dt_wfV fun hwf => ?_
                    refine dt_aloadn dX12_oneSaying_159 rfl rfl ?_
                    refine dt_getR dX12_oneSaying_160 pg_X12_28_12 rfl rfl ?_
                    refine dt_iload dX12_oneSaying_163 rfl ?_
                    refine dt_zald dX12_oneSaying_165 rfl (by first | omega | (simp (disch := omega) only [dt_up_s, dt_up_k, dt_up_n]; omega)) (by first | omega | (simp (disch := omega) only [dt_up_s, dt_up_k, dt_up_n]; omega)) (by decide) ?_
                    rw [Int.toNat_natCast, show σ3 47 i = σs 47 i by rw [jf 47 (by decide)]]
                    refine dt_if_eq (tgt := 173) dX12_oneSaying_166 (by decide) (by have z := hwf 47 i; rw [jf 47 (by decide)] at z; exact z) (fun c72 => ?_) (fun c72 => ?_)
                    · skip
                      have hnn : ¬ (Q i ∧ σs 47 i ≠ 0) := fun z => z.2 (by assumption)
                      refine dt_iconst dX12_oneSaying_173 ?_
                      refine dt_zast dX12_oneSaying_174 rfl (by first | omega | (simp (disch := omega) only [dt_up_s, dt_up_k, dt_up_n]; omega)) (by first | omega | (simp (disch := omega) only [dt_up_s, dt_up_k, dt_up_n]; omega)) (by decide) (by first | exact Or.inl rfl | exact Or.inr rfl | assumption | omega) ?_
                      rw [Int.toNat_natCast]
                      refine dt_iinc dX12_oneSaying_175 rfl (by decide) rfl ?_
                      dsimp only [List.set]
                      refine dt_goto (tgt := 135) dX12_oneSaying_178 (by decide) ?_
                      have jm2 : mP (dt_up σ3 51 i 0) 51 256 (fun k => Q k ∧ (k < i + 1 → σs 47 k ≠ 0)) := fun k hk => by
                        by_cases e : k = i
                        · subst e; rw [dt_up_s]; exact (dt_bF (fun z => hnn ⟨z.1, z.2 (by omega)⟩)).symm
                        · rw [dt_up_k e, jm k hk]; exact dt_bc ⟨fun z => ⟨z.1, fun _ => z.2 (by omega)⟩, fun z => ⟨z.1, fun _ => z.2 (by omega)⟩⟩
                      exact dt_lb (ih (i + 1) _ (by omega) (by omega) (fun b hb => (dt_up_o hb).trans (jf b hb)) jm2) ⟨rfl, rfl, rfl, rfl, rfl, trivial⟩
                    · skip
                      have hpy : σs 47 i ≠ 0 := by assumption
                      refine dt_iconst dX12_oneSaying_169 ?_
                      refine dt_goto (tgt := 174) dX12_oneSaying_170 (by decide) ?_
                      refine dt_zast dX12_oneSaying_174 rfl (by first | omega | (simp (disch := omega) only [dt_up_s, dt_up_k, dt_up_n]; omega)) (by first | omega | (simp (disch := omega) only [dt_up_s, dt_up_k, dt_up_n]; omega)) (by decide) (by first | exact Or.inl rfl | exact Or.inr rfl | assumption | omega) ?_
                      rw [Int.toNat_natCast]
                      refine dt_iinc dX12_oneSaying_175 rfl (by decide) rfl ?_
                      dsimp only [List.set]
                      refine dt_goto (tgt := 135) dX12_oneSaying_178 (by decide) ?_
                      have jm2 : mP (dt_up σ3 51 i 1) 51 256 (fun k => Q k ∧ (k < i + 1 → σs 47 k ≠ 0)) := fun k hk => by
                        by_cases e : k = i
                        · subst e; rw [dt_up_s]; exact (dt_bT ⟨hqy, fun _ => hpy⟩).symm
                        · rw [dt_up_k e, jm k hk]; exact dt_bc ⟨fun z => ⟨z.1, fun _ => z.2 (by omega)⟩, fun z => ⟨z.1, fun _ => z.2 (by omega)⟩⟩
                      exact dt_lb (ih (i + 1) _ (by omega) (by omega) (fun b hb => (dt_up_o hb).trans (jf b hb)) jm2) ⟨rfl, rfl, rfl, rfl, rfl, trivial⟩
            exact dt_lb (lp135 300 0 σs (by omega) (by omega) (fun _ _ => rfl) (hQp.ext (fun k _ => ⟨fun z => ⟨z, fun h => absurd h (Nat.not_lt_zero k)⟩, fun z => z.1⟩))) ⟨rfl, rfl, rfl, rfl, rfl, trivial⟩
          · skip
            obtain ⟨z1, z2⟩ := id hBs
            exfalso; omega
      · skip
        obtain ⟨e, h4, hx⟩ | ⟨l2, h4, hl, hd0, hn0, hn6⟩ := hh
        · exfalso; rw [h4] at hBe; obtain ⟨z1, z2⟩ := hBe; omega
        rw [h4] at hBe
        refine dt_aloadn dX12_oneSaying_53 rfl rfl ?_
        refine dt_iloadn dX12_oneSaying_54 rfl rfl ?_
        refine dt_xV dX12_oneSaying_55 pc_X12_231 rfl (s_X12_tongueOf hXe (by omega) (by omega) h0) rfl rfl ⟨by decide, by decide⟩ rfl rfl (Nat.le_of_ble_eq_true rfl) ⟨by decide, by decide⟩ (dt_k3 ?_)
        obtain ⟨t, ht⟩ : ∃ t : Nat, day % (X.1.length : Int) = t := ⟨(day % (X.1.length : Int)).toNat, by have := Int.emod_nonneg day (b := (X.1.length : Int)) (by omega); omega⟩
        have ht7 : t < X.1.length := by have := Int.emod_lt_of_pos day (b := (X.1.length : Int)) (by omega); omega
        rw [ht]
        refine dt_goto (tgt := 62) dX12_oneSaying_58 (by decide) ?_
        refine dt_istore dX12_oneSaying_62 (by decide) rfl ?_
        dsimp only [List.set]
        refine dt_aloadn dX12_oneSaying_64 rfl rfl ?_
        refine dt_xV dX12_oneSaying_65 pc_X12_234 rfl s_X12_startMeaning rfl rfl ⟨by decide, by decide⟩ rfl rfl (Nat.le_of_ble_eq_true rfl) ⟨by decide, by decide⟩ ?_
        intro vs shs σs hqs
        obtain ⟨rfl, hss, hfs, hMs⟩ := hqs
        obtain rfl := hss.symm
        have fS : ∀ b k, (b ≠ 47 ∧ b ≠ 48 ∧ b ≠ 51) → (b ≠ 40 ∨ (k ≠ 1 ∧ k ≠ 24 ∧ k ≠ 25)) → σs b k = σ b k := fun b k h1 h => (congrFun (hfs b h1.1) k).trans (fE b k h)
        have hBs := hBe.kept (hfs 40 (by decide))
        have hQs : mP σs 51 256 Q := hQ.kept (funext fun k => (congrFun (hfs 51 (by decide)) k).trans (fE 51 k (Or.inl (by decide))))
        refine dt_wfV fun hwf => ?_
        refine dt_iconst dX12_oneSaying_68 ?_
        refine dt_istore dX12_oneSaying_69 (by decide) rfl ?_
        dsimp only [List.set]
        have lp71 : ∀ (fu : Nat) (z : Nat) (P : Nat → Prop) (s : xE (List Int)) (σs : dt_Mem), n - (z : Int) < (fu : Int) → ((z : Int) ≤ n) → (rBr σs q.2 st0 s) → (mP σs 51 256 Q) → (∀ b k, (b ≠ 47 ∧ b ≠ 48 ∧ b ≠ 51) → (b ≠ 40 ∨ (k ≠ 1 ∧ k ≠ 24 ∧ k ≠ 25)) → σs b k = σ b k) → ((s = .ok (l2.drop z) ∧ z ≤ l2.length ∧ xSd X t (l2.take z) = some P ∧ mP σs 47 256 P) ∨ ∃ e, s = .error e ∧ xOne X l = .error e) →  dt_V mX12_oneSaying (dt_rm 3 0 0) (dt_MC (fun v sh2 σ2 => v = none ∧ sh2 = dt_SH ++ ex ∧ (∀ b k, (b ≠ 47 ∧ b ≠ 48 ∧ b ≠ 51) → (b ≠ 40 ∨ (k ≠ 1 ∧ k ≠ 24 ∧ k ≠ 25)) → σ2 b k = σ b k) ∧ rBr σ2 q.2 st0 (x1S (xOne X l)) ∧ ∀ p, xOne X l = .ok p → mP σ2 51 256 (fun k => Q k ∧ p.1 k)) 0 0) 0 0 71 [some (dt_R 40), some (dt_I r), some (dt_I day), some (dt_I n), some (dt_I (t : Int)), some (dt_I (z : Int)), none] [] (dt_SH ++ ex) σs := by
          intro fu
          induction fu with
          | zero =>
            intro z P s σs hm zl kB kQ kf ks
            exfalso
            omega
          | succ fu ih =>
            intro z P s σs hm zl kB kQ kf ks
            refine dt_wfV fun hwf => ?_
            refine dt_iload dX12_oneSaying_71 rfl ?_
            refine dt_iloadn dX12_oneSaying_73 rfl rfl ?_
            refine dt_cm_ge (tgt := 132) dX12_oneSaying_74 (by decide) (by first | assumption | exact hwf _ _ | exact dt_b32 _ | omega | exact ⟨by omega, by omega⟩ | decide | exact ⟨by simp (disch := omega) only [dt_up_s, dt_up_k, dt_up_n]; omega, by simp (disch := omega) only [dt_up_s, dt_up_k, dt_up_n]; omega⟩) (by first | assumption | exact hwf _ _ | exact dt_b32 _ | omega | exact ⟨by omega, by omega⟩ | decide | exact ⟨by simp (disch := omega) only [dt_up_s, dt_up_k, dt_up_n]; omega, by simp (disch := omega) only [dt_up_s, dt_up_k, dt_up_n]; omega⟩) (fun c73 => ?_) (fun c73 => ?_)
            · skip
              have hzn : z = n.toNat := by omega
              have hfin : (∃ p, xOne X l = .ok p ∧ mP σs 47 256 p.1) ∨ ∃ e, xOne X l = .error e := by
                rcases ks with ⟨h1, h2, h3, h4⟩ | ⟨e, h1, h2⟩
                · rw [hzn] at h1 h2 h3
                  have hy : xOne X l = .ok (P, l2.drop n.toNat) := by rw [hl]; exact xOne_y hd0 ⟨hn0, hn6⟩ (by rw [ht]; exact h3) (by omega)
                  exact Or.inl ⟨_, hy, h4⟩
                · exact Or.inr ⟨e, h2⟩
              have hBp : rBr σs q.2 st0 (x1S (xOne X l)) := by
                rcases ks with ⟨h1, h2, h3, h4⟩ | ⟨e, h1, h2⟩
                · rw [hzn] at h1 h2 h3
                  rw [h1] at kB
                  have hy : xOne X l = .ok (P, l2.drop n.toNat) := by rw [hl]; exact xOne_y hd0 ⟨hn0, hn6⟩ (by rw [ht]; exact h3) (by omega)
                  rw [hy]
                  exact kB
                · rw [h2]; rw [h1] at kB; exact kB
              have hQp := kQ
              have hfp := kf
              refine dt_iconst dX12_oneSaying_132 ?_
              refine dt_istore dX12_oneSaying_133 (by decide) rfl ?_
              dsimp only [List.set]
              have lp135 : ∀ (fu : Nat) (i : Nat) (σ3 : dt_Mem), 256 - (i : Int) < (fu : Int) → (i ≤ 256) → (∀ b, b ≠ 51 → σ3 b = σs b) → (mP σ3 51 256 (fun k => Q k ∧ (k < i → σs 47 k ≠ 0))) →  dt_V mX12_oneSaying (dt_rm 3 0 0) (dt_MC (fun v sh2 σ2 => v = none ∧ sh2 = dt_SH ++ ex ∧ (∀ b k, (b ≠ 47 ∧ b ≠ 48 ∧ b ≠ 51) → (b ≠ 40 ∨ (k ≠ 1 ∧ k ≠ 24 ∧ k ≠ 25)) → σ2 b k = σ b k) ∧ rBr σ2 q.2 st0 (x1S (xOne X l)) ∧ ∀ p, xOne X l = .ok p → mP σ2 51 256 (fun k => Q k ∧ p.1 k)) 0 0) 0 0 135 [some (dt_R 40), some (dt_I r), some (dt_I day), some (dt_I n), none, some (dt_I (i : Int)), none] [] (dt_SH ++ ex) σ3 := by
                intro fu
                induction fu with
                | zero =>
                  intro i σ3 hm ji jf jm
                  exfalso
                  omega
                | succ fu ih =>
                  intro i σ3 hm ji jf jm
                  refine dt_wfV fun hwf => ?_
                  refine dt_iload dX12_oneSaying_135 rfl ?_
                  refine dt_sipush dX12_oneSaying_137 (by decide) ?_
                  refine dt_cm_ge (tgt := 181) dX12_oneSaying_140 (by decide) (by first | assumption | exact hwf _ _ | exact dt_b32 _ | omega | exact ⟨by omega, by omega⟩ | decide | exact ⟨by simp (disch := omega) only [dt_up_s, dt_up_k, dt_up_n]; omega, by simp (disch := omega) only [dt_up_s, dt_up_k, dt_up_n]; omega⟩) (by first | assumption | exact hwf _ _ | exact dt_b32 _ | omega | exact ⟨by omega, by omega⟩ | decide | exact ⟨by simp (disch := omega) only [dt_up_s, dt_up_k, dt_up_n]; omega, by simp (disch := omega) only [dt_up_s, dt_up_k, dt_up_n]; omega⟩) (fun c74 => ?_) (fun c74 => ?_)
                  · skip
                    refine dt_vret dX12_oneSaying_181 rfl (by decide) (by decide) ?_
                    obtain rfl : i = 256 := by omega
                    refine ⟨rfl, rfl, fun b k h1 h => (congrFun (jf b h1.2.2) k).trans (hfp b k h1 h), hBp.kept (jf 40 (by decide)), fun p hp => ?_⟩
                    rcases hfin with ⟨p2, h1, h2⟩ | ⟨e, h1⟩
                    · rw [h1] at hp
                      obtain rfl := Except.ok.inj hp
                      exact jm.ext (fun k hk => by
                        have h3 : σs 47 k ≠ 0 ↔ p2.1 k := by
                          rw [h2 k hk]
                          by_cases g : p2.1 k
                          · rw [dt_bT g]; exact ⟨fun _ => g, fun _ => by decide⟩
                          · rw [dt_bF g]; exact ⟨fun z => absurd rfl z, fun z => absurd z g⟩
                        exact ⟨fun z => ⟨z.1, h3.mp (z.2 hk)⟩, fun z => ⟨z.1, fun _ => h3.mpr z.2⟩⟩)
                    · rw [h1] at hp; cases hp
                  · skip
                    have hi : i < 256 := by omega
                    refine dt_aloadn dX12_oneSaying_143 rfl rfl ?_
                    refine dt_getR dX12_oneSaying_144 pg_X12_41_12 rfl rfl ?_
                    refine dt_iload dX12_oneSaying_147 rfl ?_
                    refine dt_aloadn dX12_oneSaying_149 rfl rfl ?_
                    refine dt_getR dX12_oneSaying_150 pg_X12_41_12 rfl rfl ?_
                    refine dt_iload dX12_oneSaying_153 rfl ?_
                    refine dt_zald dX12_oneSaying_155 rfl (by first | omega | (simp (disch := omega) only [dt_up_s, dt_up_k, dt_up_n]; omega)) (by first | omega | (simp (disch := omega) only [dt_up_s, dt_up_k, dt_up_n]; omega)) (by decide) ?_
                    rw [Int.toNat_natCast, jm i hi]
                    refine dt_if_eq (tgt := 173) dX12_oneSaying_156 (by decide) (by first | assumption | exact hwf _ _ | exact dt_b32 _ | omega | exact ⟨by omega, by omega⟩ | decide | exact ⟨by simp (disch := omega) only [dt_up_s, dt_up_k, dt_up_n]; omega, by simp (disch := omega) only [dt_up_s, dt_up_k, dt_up_n]; omega⟩) (fun c75 => ?_) (fun c75 => ?_)
                    · skip
                      try simp only [dt_b0, dt_b1, Decidable.not_not, Classical.not_not] at c75
                      have hnn : ¬ (Q i ∧ σs 47 i ≠ 0) := fun z => (show ¬ (Q i ∧ (i < i → σs 47 i ≠ 0)) by assumption) ⟨z.1, fun h => absurd h (Nat.lt_irrefl i)⟩
                      refine dt_iconst dX12_oneSaying_173 ?_
                      refine dt_zast dX12_oneSaying_174 rfl (by first | omega | (simp (disch := omega) only [dt_up_s, dt_up_k, dt_up_n]; omega)) (by first | omega | (simp (disch := omega) only [dt_up_s, dt_up_k, dt_up_n]; omega)) (by decide) (by first | exact Or.inl rfl | exact Or.inr rfl | assumption | omega) ?_
                      rw [Int.toNat_natCast]
                      refine dt_iinc dX12_oneSaying_175 rfl (by decide) rfl ?_
                      dsimp only [List.set]
                      refine dt_goto (tgt := 135) dX12_oneSaying_178 (by decide) ?_
                      have jm2 : mP (dt_up σ3 51 i 0) 51 256 (fun k => Q k ∧ (k < i + 1 → σs 47 k ≠ 0)) := fun k hk => by
                        by_cases e : k = i
                        · subst e; rw [dt_up_s]; exact (dt_bF (fun z => hnn ⟨z.1, z.2 (by omega)⟩)).symm
                        · rw [dt_up_k e, jm k hk]; exact dt_bc ⟨fun z => ⟨z.1, fun _ => z.2 (by omega)⟩, fun z => ⟨z.1, fun _ => z.2 (by omega)⟩⟩
                      exact dt_lb (ih (i + 1) _ (by omega) (by omega) (fun b hb => (dt_up_o hb).trans (jf b hb)) jm2) ⟨rfl, rfl, rfl, rfl, rfl, trivial⟩
                    · skip
                      try simp only [dt_b0, dt_b1, Decidable.not_not, Classical.not_not] at c75
                      have hqy : Q i := (show Q i ∧ (i < i → σs 47 i ≠ 0) by assumption).1
                      refine dt_wfV fun hwf => ?_
                      refine dt_aloadn dX12_oneSaying_159 rfl rfl ?_
                      refine dt_getR dX12_oneSaying_160 pg_X12_28_12 rfl rfl ?_
                      refine dt_iload dX12_oneSaying_163 rfl ?_
                      refine dt_zald dX12_oneSaying_165 rfl (by first | omega | (simp (disch := omega) only [dt_up_s, dt_up_k, dt_up_n]; omega)) (by first | omega | (simp (disch := omega) only [dt_up_s, dt_up_k, dt_up_n]; omega)) (by decide) ?_
                      rw [Int.toNat_natCast, show σ3 47 i = σs 47 i by rw [jf 47 (by decide)]]
                      refine dt_if_eq (tgt := 173) dX12_oneSaying_166 (by decide) (by have z := hwf 47 i; rw [jf 47 (by decide)] at z; exact z) (fun c76 => ?_) (fun c76 => ?_)
                      · skip
                        have hnn : ¬ (Q i ∧ σs 47 i ≠ 0) := fun z => z.2 (by assumption)
                        refine dt_iconst dX12_oneSaying_173 ?_
                        refine dt_zast dX12_oneSaying_174 rfl (by first | omega | (simp (disch := omega) only [dt_up_s, dt_up_k, dt_up_n]; omega)) (by first | omega | (simp (disch := omega) only [dt_up_s, dt_up_k, dt_up_n]; omega)) (by decide) (by first | exact Or.inl rfl | exact Or.inr rfl | assumption | omega) ?_
                        rw [Int.toNat_natCast]
                        refine dt_iinc dX12_oneSaying_175 rfl (by decide) rfl ?_
                        dsimp only [List.set]
                        refine dt_goto (tgt := 135) dX12_oneSaying_178 (by decide) ?_
                        have jm2 : mP (dt_up σ3 51 i 0) 51 256 (fun k => Q k ∧ (k < i + 1 → σs 47 k ≠ 0)) := fun k hk => by
                          by_cases e : k = i
                          · subst e; rw [dt_up_s]; exact (dt_bF (fun z => hnn ⟨z.1, z.2 (by omega)⟩)).symm
                          · rw [dt_up_k e, jm k hk]; exact dt_bc ⟨fun z => ⟨z.1, fun _ => z.2 (by omega)⟩, fun z => ⟨z.1, fun _ => z.2 (by omega)⟩⟩
                        exact dt_lb (ih (i + 1) _ (by omega) (by omega) (fun b hb => (dt_up_o hb).trans (jf b hb)) jm2) ⟨rfl, rfl, rfl, rfl, rfl, trivial⟩
                      · skip
                        have hpy : σs 47 i ≠ 0 := by assumption
                        refine dt_iconst dX12_oneSaying_169 ?_
                        refine dt_goto (tgt := 174) dX12_oneSaying_170 (by decide) ?_
                        refine dt_zast dX12_oneSaying_174 rfl (by first | omega | (simp (disch := omega) only [dt_up_s, dt_up_k, dt_up_n]; omega)) (by first | omega | (simp (disch := omega) only [dt_up_s, dt_up_k, dt_up_n]; omega)) (by decide) (by first | exact Or.inl rfl | exact Or.inr rfl | assumption | omega) ?_
                        rw [Int.toNat_natCast]
                        refine dt_iinc dX12_oneSaying_175 rfl (by decide) rfl ?_
                        dsimp only [List.set]
                        refine dt_goto (tgt := 135) dX12_oneSaying_178 (by decide) ?_
                        have jm2 : mP (dt_up σ3 51 i 1) 51 256 (fun k => Q k ∧ (k < i + 1 → σs 47 k ≠ 0)) := fun k hk => by
                          by_cases e : k = i
                          · subst e; rw [dt_up_s]; exact (dt_bT ⟨hqy, fun _ => hpy⟩).symm
                          · rw [dt_up_k e, jm k hk]; exact dt_bc ⟨fun z => ⟨z.1, fun _ => z.2 (by omega)⟩, fun z => ⟨z.1, fun _ => z.2 (by omega)⟩⟩
                        exact dt_lb (ih (i + 1) _ (by omega) (by omega) (fun b hb => (dt_up_o hb).trans (jf b hb)) jm2) ⟨rfl, rfl, rfl, rfl, rfl, trivial⟩
              exact dt_lb (lp135 300 0 σs (by omega) (by omega) (fun _ _ => rfl) (hQp.ext (fun k _ => ⟨fun z => ⟨z, fun h => absurd h (Nat.not_lt_zero k)⟩, fun z => z.1⟩))) ⟨rfl, rfl, rfl, rfl, rfl, trivial⟩
            · skip
              refine dt_aloadn dX12_oneSaying_77 rfl rfl ?_
              refine dt_getI dX12_oneSaying_78 pg_X12_274_12 rfl rfl ?_
              refine dt_if_ne (tgt := 132) dX12_oneSaying_81 (by decide) (by first | assumption | exact hwf _ _ | exact dt_b32 _ | omega | exact ⟨by omega, by omega⟩ | decide | exact ⟨by simp (disch := omega) only [dt_up_s, dt_up_k, dt_up_n]; omega, by simp (disch := omega) only [dt_up_s, dt_up_k, dt_up_n]; omega⟩) (fun c77 => ?_) (fun c77 => ?_)
              · skip
                have hfin : (∃ p, xOne X l = .ok p ∧ mP σs 47 256 p.1) ∨ ∃ e, xOne X l = .error e := by
                  rcases ks with ⟨h1, h2, h3, h4⟩ | ⟨e, h1, h2⟩
                  · rw [h1] at kB; exact absurd kB.1 (by assumption)
                  · exact Or.inr ⟨e, h2⟩
                have hBp : rBr σs q.2 st0 (x1S (xOne X l)) := by
                  rcases ks with ⟨h1, h2, h3, h4⟩ | ⟨e, h1, h2⟩
                  · rw [h1] at kB; exact absurd kB.1 (by assumption)
                  · rw [h2]; rw [h1] at kB; exact kB
                have hQp := kQ
                have hfp := kf
                refine dt_iconst dX12_oneSaying_132 ?_
                refine dt_istore dX12_oneSaying_133 (by decide) rfl ?_
                dsimp only [List.set]
                have lp135 : ∀ (fu : Nat) (i : Nat) (σ3 : dt_Mem), 256 - (i : Int) < (fu : Int) → (i ≤ 256) → (∀ b, b ≠ 51 → σ3 b = σs b) → (mP σ3 51 256 (fun k => Q k ∧ (k < i → σs 47 k ≠ 0))) →  dt_V mX12_oneSaying (dt_rm 3 0 0) (dt_MC (fun v sh2 σ2 => v = none ∧ sh2 = dt_SH ++ ex ∧ (∀ b k, (b ≠ 47 ∧ b ≠ 48 ∧ b ≠ 51) → (b ≠ 40 ∨ (k ≠ 1 ∧ k ≠ 24 ∧ k ≠ 25)) → σ2 b k = σ b k) ∧ rBr σ2 q.2 st0 (x1S (xOne X l)) ∧ ∀ p, xOne X l = .ok p → mP σ2 51 256 (fun k => Q k ∧ p.1 k)) 0 0) 0 0 135 [some (dt_R 40), some (dt_I r), some (dt_I day), some (dt_I n), none, some (dt_I (i : Int)), none] [] (dt_SH ++ ex) σ3 := by
                  intro fu
                  induction fu with
                  | zero =>
                    intro i σ3 hm ji jf jm
                    exfalso
                    omega
                  | succ fu ih =>
                    intro i σ3 hm ji jf jm
                    refine dt_wfV fun hwf => ?_
                    refine dt_iload dX12_oneSaying_135 rfl ?_
                    refine dt_sipush dX12_oneSaying_137 (by decide) ?_
                    refine dt_cm_ge (tgt := 181) dX12_oneSaying_140 (by decide) (by first | assumption | exact hwf _ _ | exact dt_b32 _ | omega | exact ⟨by omega, by omega⟩ | decide | exact ⟨by simp (disch := omega) only [dt_up_s, dt_up_k, dt_up_n]; omega, by simp (disch := omega) only [dt_up_s, dt_up_k, dt_up_n]; omega⟩) (by first | assumption | exact hwf _ _ | exact dt_b32 _ | omega | exact ⟨by omega, by omega⟩ | decide | exact ⟨by simp (disch := omega) only [dt_up_s, dt_up_k, dt_up_n]; omega, by simp (disch := omega) only [dt_up_s, dt_up_k, dt_up_n]; omega⟩) (fun c78 => ?_) (fun c78 => ?_)
                    · skip
                      refine dt_vret dX12_oneSaying_181 rfl (by decide) (by decide) ?_
                      obtain rfl : i = 256 := by omega
                      refine ⟨rfl, rfl, fun b k h1 h => (congrFun (jf b h1.2.2) k).trans (hfp b k h1 h), hBp.kept (jf 40 (by decide)), fun p hp => ?_⟩
                      rcases hfin with ⟨p2, h1, h2⟩ | ⟨e, h1⟩
                      · rw [h1] at hp
                        obtain rfl := Except.ok.inj hp
                        exact jm.ext (fun k hk => by
                          have h3 : σs 47 k ≠ 0 ↔ p2.1 k := by
                            rw [h2 k hk]
                            by_cases g : p2.1 k
                            · rw [dt_bT g]; exact ⟨fun _ => g, fun _ => by decide⟩
                            · rw [dt_bF g]; exact ⟨fun z => absurd rfl z, fun z => absurd z g⟩
                          exact ⟨fun z => ⟨z.1, h3.mp (z.2 hk)⟩, fun z => ⟨z.1, fun _ => h3.mpr z.2⟩⟩)
                      · rw [h1] at hp; cases hp
                    · skip
                      have hi : i < 256 := by omega
                      refine dt_aloadn dX12_oneSaying_143 rfl rfl ?_
                      refine dt_getR dX12_oneSaying_144 pg_X12_41_12 rfl rfl ?_
                      refine dt_iload dX12_oneSaying_147 rfl ?_
                      refine dt_aloadn dX12_oneSaying_149 rfl rfl ?_
                      refine dt_getR dX12_oneSaying_150 pg_X12_41_12 rfl rfl ?_
                      refine dt_iload dX12_oneSaying_153 rfl ?_
                      refine dt_zald dX12_oneSaying_155 rfl (by first | omega | (simp (disch := omega) only [dt_up_s, dt_up_k, dt_up_n]; omega)) (by first | omega | (simp (disch := omega) only [dt_up_s, dt_up_k, dt_up_n]; omega)) (by decide) ?_
                      rw [Int.toNat_natCast, jm i hi]
                      refine dt_if_eq (tgt := 173) dX12_oneSaying_156 (by decide) (by first | assumption | exact hwf _ _ | exact dt_b32 _ | omega | exact ⟨by omega, by omega⟩ | decide | exact ⟨by simp (disch := omega) only [dt_up_s, dt_up_k, dt_up_n]; omega, by simp (disch := omega) only [dt_up_s, dt_up_k, dt_up_n]; omega⟩) (fun c79 => ?_) (fun c79 => ?_)
                      · skip
                        try simp only [dt_b0, dt_b1, Decidable.not_not, Classical.not_not] at c79
                        have hnn : ¬ (Q i ∧ σs 47 i ≠ 0) := fun z => (show ¬ (Q i ∧ (i < i → σs 47 i ≠ 0)) by assumption) ⟨z.1, fun h => absurd h (Nat.lt_irrefl i)⟩
                        refine dt_iconst dX12_oneSaying_173 ?_
                        refine dt_zast dX12_oneSaying_174 rfl (by first | omega | (simp (disch := omega) only [dt_up_s, dt_up_k, dt_up_n]; omega)) (by first | omega | (simp (disch := omega) only [dt_up_s, dt_up_k, dt_up_n]; omega)) (by decide) (by first | exact Or.inl rfl | exact Or.inr rfl | assumption | omega) ?_
                        rw [Int.toNat_natCast]
                        refine dt_iinc dX12_oneSaying_175 rfl (by decide) rfl ?_
                        dsimp only [List.set]
                        refine dt_goto (tgt := 135) dX12_oneSaying_178 (by decide) ?_
                        have jm2 : mP (dt_up σ3 51 i 0) 51 256 (fun k => Q k ∧ (k < i + 1 → σs 47 k ≠ 0)) := fun k hk => by
                          by_cases e : k = i
                          · subst e; rw [dt_up_s]; exact (dt_bF (fun z => hnn ⟨z.1, z.2 (by omega)⟩)).symm
                          · rw [dt_up_k e, jm k hk]; exact dt_bc ⟨fun z => ⟨z.1, fun _ => z.2 (by omega)⟩, fun z => ⟨z.1, fun _ => z.2 (by omega)⟩⟩
                        exact dt_lb (ih (i + 1) _ (by omega) (by omega) (fun b hb => (dt_up_o hb).trans (jf b hb)) jm2) ⟨rfl, rfl, rfl, rfl, rfl, trivial⟩
                      · skip
                        try simp only [dt_b0, dt_b1, Decidable.not_not, Classical.not_not] at c79
                        have hqy : Q i := (show Q i ∧ (i < i → σs 47 i ≠ 0) by assumption).1
                        refine dt_wfV fun hwf => ?_
                        refine dt_aloadn dX12_oneSaying_159 rfl rfl ?_
                        refine dt_getR dX12_oneSaying_160 pg_X12_28_12 rfl rfl ?_
                        refine dt_iload dX12_oneSaying_163 rfl ?_
                        refine dt_zald dX12_oneSaying_165 rfl (by first | omega | (simp (disch := omega) only [dt_up_s, dt_up_k, dt_up_n]; omega)) (by first | omega | (simp (disch := omega) only [dt_up_s, dt_up_k, dt_up_n]; omega)) (by decide) ?_
                        rw [Int.toNat_natCast, show σ3 47 i = σs 47 i by rw [jf 47 (by decide)]]
                        refine dt_if_eq (tgt := 173) dX12_oneSaying_166 (by decide) (by have z := hwf 47 i; rw [jf 47 (by decide)] at z; exact z) (fun c80 => ?_) (fun c80 => ?_)
                        · skip
                          have hnn : ¬ (Q i ∧ σs 47 i ≠ 0) := fun z => z.2 (by assumption)
                          refine dt_iconst dX12_oneSaying_173 ?_
                          refine dt_zast dX12_oneSaying_174 rfl (by first | omega | (simp (disch := omega) only [dt_up_s, dt_up_k, dt_up_n]; omega)) (by first | omega | (simp (disch := omega) only [dt_up_s, dt_up_k, dt_up_n]; omega)) (by decide) (by first | exact Or.inl rfl | exact Or.inr rfl | assumption | omega) ?_
                          rw [Int.toNat_natCast]
                          refine dt_iinc dX12_oneSaying_175 rfl (by decide) rfl ?_
                          dsimp only [List.set]
                          refine dt_goto (tgt := 135) dX12_oneSaying_178 (by decide) ?_
                          have jm2 : mP (dt_up σ3 51 i 0) 51 256 (fun k => Q k ∧ (k < i + 1 → σs 47 k ≠ 0)) := fun k hk => by
                            by_cases e : k = i
                            · subst e; rw [dt_up_s]; exact (dt_bF (fun z => hnn ⟨z.1, z.2 (by omega)⟩)).symm
                            · rw [dt_up_k e, jm k hk]; exact dt_bc ⟨fun z => ⟨z.1, fun _ => z.2 (by omega)⟩, fun z => ⟨z.1, fun _ => z.2 (by omega)⟩⟩
                          exact dt_lb (ih (i + 1) _ (by omega) (by omega) (fun b hb => (dt_up_o hb).trans (jf b hb)) jm2) ⟨rfl, rfl, rfl, rfl, rfl, trivial⟩
                        · skip
                          have hpy : σs 47 i ≠ 0 := by assumption
                          refine dt_iconst dX12_oneSaying_169 ?_
                          refine dt_goto (tgt := 174) dX12_oneSaying_170 (by decide) ?_
                          refine dt_zast dX12_oneSaying_174 rfl (by first | omega | (simp (disch := omega) only [dt_up_s, dt_up_k, dt_up_n]; omega)) (by first | omega | (simp (disch := omega) only [dt_up_s, dt_up_k, dt_up_n]; omega)) (by decide) (by first | exact Or.inl rfl | exact Or.inr rfl | assumption | omega) ?_
                          rw [Int.toNat_natCast]
                          refine dt_iinc dX12_oneSaying_175 rfl (by decide) rfl ?_
                          dsimp only [List.set]
                          refine dt_goto (tgt := 135) dX12_oneSaying_178 (by decide) ?_
                          have jm2 : mP (dt_up σ3 51 i 1) 51 256 (fun k => Q k ∧ (k < i + 1 → σs 47 k ≠ 0)) := fun k hk => by
                            by_cases e : k = i
                            · subst e; rw [dt_up_s]; exact (dt_bT ⟨hqy, fun _ => hpy⟩).symm
                            · rw [dt_up_k e, jm k hk]; exact dt_bc ⟨fun z => ⟨z.1, fun _ => z.2 (by omega)⟩, fun z => ⟨z.1, fun _ => z.2 (by omega)⟩⟩
                          exact dt_lb (ih (i + 1) _ (by omega) (by omega) (fun b hb => (dt_up_o hb).trans (jf b hb)) jm2) ⟨rfl, rfl, rfl, rfl, rfl, trivial⟩
                exact dt_lb (lp135 300 0 σs (by omega) (by omega) (fun _ _ => rfl) (hQp.ext (fun k _ => ⟨fun z => ⟨z, fun h => absurd h (Nat.not_lt_zero k)⟩, fun z => z.1⟩))) ⟨rfl, rfl, rfl, rfl, rfl, trivial⟩
              · skip
                obtain ⟨h1, h2, h3, h4⟩ | ⟨e, h1, h2⟩ := ks
                rotate_left
                · exfalso; rw [h1] at kB; obtain ⟨z1, z2⟩ := kB; omega
                subst h1
                refine dt_aloadn dX12_oneSaying_84 rfl rfl ?_
                refine dt_iloadn dX12_oneSaying_85 rfl rfl ?_
                refine dt_xV dX12_oneSaying_86 pc_X12_280 rfl (s_X12_nextItem hr1 hr2 (hrow.kept (kf 41 _ (by decide) (Or.inl (by decide))) (kf 42 _ (by decide) (Or.inl (by decide))) (fun _ _ => kf 43 _ (by decide) (Or.inl (by decide)))) kB) rfl rfl ⟨by decide, by decide⟩ rfl rfl (Nat.le_of_ble_eq_true rfl) ⟨by decide, by decide⟩ ?_
                intro vf shf σf hqf
                obtain ⟨rfl, hsf, hff, hBf, hif⟩ := hqf
                obtain rfl := hsf.symm
                obtain ⟨w, hw0⟩ : ∃ w, w = nxV (.ok (l2.drop z)) := ⟨_, rfl⟩
                rw [← hw0] at hif ⊢
                have gF : ∀ b k, (b ≠ 47 ∧ b ≠ 48 ∧ b ≠ 51) → (b ≠ 40 ∨ (k ≠ 1 ∧ k ≠ 24 ∧ k ≠ 25)) → σf b k = σ b k := fun b k h1 h => (hff b k h).trans (kf b k h1 h)
                have hXf : rX σf X := hX.kept (funext fun k => gF 44 k (by decide) (Or.inl (by decide)))
                refine dt_istore dX12_oneSaying_89 (by decide) rfl ?_
                dsimp only [List.set]
                refine dt_aloadn dX12_oneSaying_91 rfl rfl ?_
                refine dt_aloadn dX12_oneSaying_92 rfl rfl ?_
                refine dt_iload dX12_oneSaying_93 rfl ?_
                refine dt_iload dX12_oneSaying_95 rfl ?_
                refine dt_xV dX12_oneSaying_97 pc_X12_212 rfl (s_X12_isWord hXf (by omega) hif) rfl rfl ⟨by decide, by decide⟩ rfl rfl (Nat.le_of_ble_eq_true rfl) ⟨by decide, by decide⟩ (dt_k3 ?_)
                refine dt_if_ne (tgt := 107) dX12_oneSaying_100 (by decide) (by first | assumption | exact hwf _ _ | exact dt_b32 _ | omega | exact ⟨by omega, by omega⟩ | decide | exact ⟨by simp (disch := omega) only [dt_up_s, dt_up_k, dt_up_n]; omega, by simp (disch := omega) only [dt_up_s, dt_up_k, dt_up_n]; omega⟩) (fun c81 => ?_) (fun c81 => ?_)
                · skip
                  try simp only [dt_b0, dt_b1, Decidable.not_not, Classical.not_not] at c81
                  have hwx : xAt X t w ≠ none := by assumption
                  refine dt_iconst dX12_oneSaying_107 ?_
                  refine dt_xV dX12_oneSaying_108 pc_X12_283 rfl (s_X12_bars hBf (by decide)) rfl rfl ⟨by decide, by decide⟩ rfl rfl (Nat.le_of_ble_eq_true rfl) ⟨by decide, by decide⟩ ?_
                  intro vg shg σg hqg
                  obtain ⟨rfl, hsg, hfg, hBg⟩ := hqg
                  obtain rfl := hsg.symm
                  have gG : ∀ b k, (b ≠ 47 ∧ b ≠ 48 ∧ b ≠ 51) → (b ≠ 40 ∨ (k ≠ 1 ∧ k ≠ 24 ∧ k ≠ 25)) → σg b k = σ b k := fun b k h1 h => (hfg b k (by omega)).trans (gF b k h1 h)
                  have hgm : ∀ b, b ≠ 40 → σg b = σs b := fun b hb => funext fun k => (hfg b k (Or.inl hb)).trans (hff b k (Or.inl hb))
                  refine dt_wfV fun hwf => ?_
                  refine dt_aloadn dX12_oneSaying_111 rfl rfl ?_
                  refine dt_getI dX12_oneSaying_112 pg_X12_274_12 rfl rfl ?_
                  refine dt_if_ne (tgt := 126) dX12_oneSaying_115 (by decide) (by first | assumption | exact hwf _ _ | exact dt_b32 _ | omega | exact ⟨by omega, by omega⟩ | decide | exact ⟨by simp (disch := omega) only [dt_up_s, dt_up_k, dt_up_n]; omega, by simp (disch := omega) only [dt_up_s, dt_up_k, dt_up_n]; omega⟩) (fun c82 => ?_) (fun c82 => ?_)
                  · skip
                    have hxe : ∃ e, bsS 0 (nxS (.ok (l2.drop z))) = .error e ∧ xOne X l = .error e := by
                      rcases Nat.lt_or_ge z l2.length with g | g
                      · obtain ⟨x, hx⟩ := dt_lg g
                        rw [drop_c hx] at hBg hw0 ⊢
                        exact absurd hBg.1 (by assumption)
                      · rw [List.drop_of_length_le g]
                        refine ⟨-1000012, rfl, ?_⟩
                        rw [hl]
                        exact xOne_p hd0 ⟨hn0, hn6⟩ (by rw [ht, List.take_of_length_le (by omega)]; rw [List.take_of_length_le g] at h3; exact h3) (by omega)
                    obtain ⟨e, hxe1, hxe2⟩ := hxe
                    rw [hxe1] at hBg
                    refine dt_iinc dX12_oneSaying_126 rfl (by decide) rfl ?_
                    dsimp only [List.set]
                    refine dt_goto (tgt := 71) dX12_oneSaying_129 (by decide) ?_
                    exact dt_lb (ih (z + 1) P (.error e) σg (by omega) (by omega) hBg (kQ.kept (hgm 51 (by decide))) gG (Or.inr ⟨e, rfl, hxe2⟩)) ⟨rfl, rfl, rfl, rfl, rfl, rfl, trivial⟩
                  · skip
                    obtain ⟨x, hx⟩ : ∃ x, l2[z]? = some x := by
                      rcases Nat.lt_or_ge z l2.length with g | g
                      · exact dt_lg g
                      · exfalso
                        rw [List.drop_of_length_le g] at hBg
                        obtain ⟨z1, z2⟩ : σg 40 25 = -1000012 ∧ _ := hBg
                        omega
                    rw [drop_c hx] at hBg hw0
                    obtain rfl : w = x := hw0
                    obtain ⟨t2, wn, wd, et, rfl, hw⟩ := xAt_ne hwx
                    obtain rfl : t = t2 := by omega
                    have hXg : rX σg X := hX.kept (funext fun k => gG 44 k (by decide) (Or.inl (by decide)))
                    refine dt_aloadn dX12_oneSaying_118 rfl rfl ?_
                    refine dt_iload dX12_oneSaying_119 rfl ?_
                    refine dt_iload dX12_oneSaying_121 rfl ?_
                    refine dt_xV dX12_oneSaying_123 pc_X12_237 rfl (s_X12_mean hXg hw (h4.kept (hgm 47 (by decide)))) rfl rfl ⟨by decide, by decide⟩ rfl rfl (Nat.le_of_ble_eq_true rfl) ⟨by decide, by decide⟩ ?_
                    intro vm shm σm hqm
                    obtain ⟨rfl, hsm, hfm, hMm⟩ := hqm
                    obtain rfl := hsm.symm
                    refine dt_iinc dX12_oneSaying_126 rfl (by decide) rfl ?_
                    dsimp only [List.set]
                    refine dt_goto (tgt := 71) dX12_oneSaying_129 (by decide) ?_
                    have hMmm := hMm
                    exact dt_lb (ih (z + 1) (xSay P wd.2) (.ok (l2.drop (z + 1))) σm (by omega) (by omega) (hBg.kept (hfm 40 (by decide) (by decide))) (kQ.kept ((hfm 51 (by decide) (by decide)).trans (hgm 51 (by decide)))) (fun b k h1 h => (congrFun (hfm b h1.1 h1.2.1) k).trans (gG b k h1 h)) (Or.inl ⟨rfl, by have := dt_gl hx; omega, by rw [xSd_s hx, h3]; exact xSd1_y (xAt_of hw), hMm⟩)) ⟨rfl, rfl, rfl, rfl, rfl, rfl, trivial⟩
                · skip
                  try simp only [dt_b0, dt_b1, Decidable.not_not, Classical.not_not] at c81
                  have hwx : xAt X t w = none := by first | assumption | exact Classical.not_not.mp (by assumption)
                  refine dt_iconst dX12_oneSaying_103 ?_
                  refine dt_goto (tgt := 108) dX12_oneSaying_104 (by decide) ?_
                  refine dt_xV dX12_oneSaying_108 pc_X12_283 rfl (s_X12_bars hBf (by decide)) rfl rfl ⟨by decide, by decide⟩ rfl rfl (Nat.le_of_ble_eq_true rfl) ⟨by decide, by decide⟩ ?_
                  intro vg shg σg hqg
                  obtain ⟨rfl, hsg, hfg, hBg⟩ := hqg
                  obtain rfl := hsg.symm
                  have gG : ∀ b k, (b ≠ 47 ∧ b ≠ 48 ∧ b ≠ 51) → (b ≠ 40 ∨ (k ≠ 1 ∧ k ≠ 24 ∧ k ≠ 25)) → σg b k = σ b k := fun b k h1 h => (hfg b k (by omega)).trans (gF b k h1 h)
                  have hgm : ∀ b, b ≠ 40 → σg b = σs b := fun b hb => funext fun k => (hfg b k (Or.inl hb)).trans (hff b k (Or.inl hb))
                  refine dt_wfV fun hwf => ?_
                  refine dt_aloadn dX12_oneSaying_111 rfl rfl ?_
                  refine dt_getI dX12_oneSaying_112 pg_X12_274_12 rfl rfl ?_
                  refine dt_if_ne (tgt := 126) dX12_oneSaying_115 (by decide) (by first | assumption | exact hwf _ _ | exact dt_b32 _ | omega | exact ⟨by omega, by omega⟩ | decide | exact ⟨by simp (disch := omega) only [dt_up_s, dt_up_k, dt_up_n]; omega, by simp (disch := omega) only [dt_up_s, dt_up_k, dt_up_n]; omega⟩) (fun c83 => ?_) (fun c83 => ?_)
                  · skip
                    have hxe : ∃ e, bsS 1 (nxS (.ok (l2.drop z))) = .error e ∧ xOne X l = .error e := by
                      rcases Nat.lt_or_ge z l2.length with g | g
                      · obtain ⟨x, hx⟩ := dt_lg g
                        rw [drop_c hx] at hBg hw0 ⊢
                        obtain rfl : w = x := hw0
                        refine ⟨-1000001, rfl, ?_⟩
                        rw [hl]
                        exact xOne_w hd0 ⟨hn0, hn6⟩ (by rw [ht]; exact xSd_no (j := z) (by rw [List.getElem?_take_of_lt (by omega)]; exact hx) hwx)
                      · rw [List.drop_of_length_le g]
                        refine ⟨-1000012, rfl, ?_⟩
                        rw [hl]
                        exact xOne_p hd0 ⟨hn0, hn6⟩ (by rw [ht, List.take_of_length_le (by omega)]; rw [List.take_of_length_le g] at h3; exact h3) (by omega)
                    obtain ⟨e, hxe1, hxe2⟩ := hxe
                    rw [hxe1] at hBg
                    refine dt_iinc dX12_oneSaying_126 rfl (by decide) rfl ?_
                    dsimp only [List.set]
                    refine dt_goto (tgt := 71) dX12_oneSaying_129 (by decide) ?_
                    exact dt_lb (ih (z + 1) P (.error e) σg (by omega) (by omega) hBg (kQ.kept (hgm 51 (by decide))) gG (Or.inr ⟨e, rfl, hxe2⟩)) ⟨rfl, rfl, rfl, rfl, rfl, rfl, trivial⟩
                  · skip
                    exfalso
                    rcases Nat.lt_or_ge z l2.length with g | g
                    · obtain ⟨x, hx⟩ := dt_lg g
                      rw [drop_c hx] at hBg
                      obtain ⟨z1, z2⟩ : σg 40 25 = -1000001 ∧ _ := hBg
                      omega
                    · rw [List.drop_of_length_le g] at hBg
                      obtain ⟨z1, z2⟩ : σg 40 25 = -1000012 ∧ _ := hBg
                      omega
        exact dt_lb (lp71 9 0 xZ (.ok l2) σs (by omega) (by omega) hBs hQs fS (Or.inl ⟨rfl, Nat.zero_le _, rfl, hMs⟩)) ⟨rfl, rfl, rfl, rfl, rfl, rfl, trivial⟩
theorem s_X12_bargain {ex : List dt_Shp} {σ : dt_Mem} {A : dS} {r m k : Int} (hI : rInv σ A) (h_r : dt_in32 r) (h_m : dt_in32 m) (h_k : dt_in32 k) (hok : dX_ok (sN A)) : dt_Sp mX12_bargain 4 0 0 [dt_R 40, dt_I r, dt_I m, dt_I k] (dt_SH ++ ex) σ (fun v sh2 σ2 => v = some (dt_I (oBargain A r m k).1) ∧ sh2 = dt_SH ++ ex ∧ rEnd σ σ2 (oBargain A r m k).2) := by
  refine dt_Sp_of (by decide) (Nat.le_of_ble_eq_true rfl) ?_
  refine dt_wfV fun hwf => ?_
  show dt_V _ _ _ 0 0 0 [some (dt_R 40), some (dt_I r), some (dt_I m), some (dt_I k), none] [] _ _
  refine dt_aloadn dX12_bargain_0 rfl rfl ?_
  refine dt_iconst dX12_bargain_1 ?_
  refine dt_wfV fun hwf => ?_
  refine dt_putI dX12_bargain_2 pw_X12_53_12 rfl rfl (by first | assumption | exact hwf _ _ | exact dt_b32 _ | omega | exact ⟨by omega, by omega⟩ | decide | exact ⟨by simp (disch := omega) only [dt_up_s, dt_up_k, dt_up_n]; omega, by simp (disch := omega) only [dt_up_s, dt_up_k, dt_up_n]; omega⟩) ?_
  obtain ⟨σa, ea⟩ : ∃ z, z = dt_up σ 40 0 0 := ⟨_, rfl⟩
  rw [← ea]
  have hA := hI.up40 0 0 (by decide)
  rw [← ea] at hA
  have fa : ∀ b, (b < 40 ∨ 55 ≤ b) → σa b = σ b := fun b hb => by rw [ea]; exact dt_up_o (by omega)
  clear ea
  refine dt_wfV fun hwf => ?_
  have hX := hA.X hok
  have e0 := hX.t
  have e2 := hX.2.1
  have e7 := hA.2.2.1.2
  refine dt_aloadn dX12_bargain_5 rfl rfl ?_
  refine dt_getI dX12_bargain_6 pg_X12_179_12 rfl rfl ?_
  refine dt_if_ne (tgt := 15) dX12_bargain_9 (by decide) (by first | assumption | exact hwf _ _ | exact dt_b32 _ | omega | exact ⟨by omega, by omega⟩ | decide | exact ⟨by simp (disch := omega) only [dt_up_s, dt_up_k, dt_up_n]; omega, by simp (disch := omega) only [dt_up_s, dt_up_k, dt_up_n]; omega⟩) (fun c1 => ?_) (fun c1 => ?_)
  · skip
    rw [e7] at c1
    have hn : ¬ (sN A).1 = [] := by simpa [dt_b0] using c1
    have hn0 : 0 < (sN A).1.length := Nat.pos_of_ne_zero (fun q => hn (dt_nn.mp q))
    refine dt_iloadn dX12_bargain_15 rfl rfl ?_
    refine dt_xS dX12_bargain_16 pc_X12_67 (s_X12_isRow (by first | assumption | exact hwf _ _ | exact dt_b32 _ | omega | exact ⟨by omega, by omega⟩ | decide | exact ⟨by simp (disch := omega) only [dt_up_s, dt_up_k, dt_up_n]; omega, by simp (disch := omega) only [dt_up_s, dt_up_k, dt_up_n]; omega⟩)) rfl rfl ⟨by decide, by decide⟩ (Nat.le_of_ble_eq_true rfl) ⟨by decide, by decide⟩ (dt_k3 ?_)
    refine dt_if_eq (tgt := 39) dX12_bargain_19 (by decide) (by first | assumption | exact hwf _ _ | exact dt_b32 _ | omega | exact ⟨by omega, by omega⟩ | decide | exact ⟨by simp (disch := omega) only [dt_up_s, dt_up_k, dt_up_n]; omega, by simp (disch := omega) only [dt_up_s, dt_up_k, dt_up_n]; omega⟩) (fun c2 => ?_) (fun c2 => ?_)
    · skip
      try simp only [dt_b0, dt_b1, Decidable.not_not, Classical.not_not] at c2
      refine dt_ldc dX12_bargain_39 pk_X12_73 ?_
      refine dt_iret dX12_bargain_41 rfl (by decide) (by decide) ?_
      have e : oBargain A r m k = (-1000001, A) := by
        unfold oBargain
        rw [if_neg hn, if_pos (by omega)]
      rw [e]
      exact ⟨rfl, rfl, hA, fa⟩
    · skip
      try simp only [dt_b0, dt_b1, Decidable.not_not, Classical.not_not] at c2
      refine dt_iloadn dX12_bargain_22 rfl rfl ?_
      refine dt_ui2l dX12_bargain_23 (by first | assumption | exact hwf _ _ | exact dt_b32 _ | omega | exact ⟨by omega, by omega⟩ | decide | exact ⟨by simp (disch := omega) only [dt_up_s, dt_up_k, dt_up_n]; omega, by simp (disch := omega) only [dt_up_s, dt_up_k, dt_up_n]; omega⟩) ?_
      refine dt_lconst (x := 1) dX12_bargain_24 (by decide) ?_
      refine dt_ldc2 dX12_bargain_25 pk_X12_286 ?_
      refine dt_xS dX12_bargain_28 pc_X12_63 (s_X12_in (by first | exact ⟨by omega, by omega⟩ | decide) (by first | exact ⟨by omega, by omega⟩ | decide) (by first | exact ⟨by omega, by omega⟩ | decide)) rfl rfl ⟨by decide, by decide⟩ (Nat.le_of_ble_eq_true rfl) ⟨by decide, by decide⟩ (dt_k3 ?_)
      refine dt_if_eq (tgt := 39) dX12_bargain_31 (by decide) (by first | assumption | exact hwf _ _ | exact dt_b32 _ | omega | exact ⟨by omega, by omega⟩ | decide | exact ⟨by simp (disch := omega) only [dt_up_s, dt_up_k, dt_up_n]; omega, by simp (disch := omega) only [dt_up_s, dt_up_k, dt_up_n]; omega⟩) (fun c3 => ?_) (fun c3 => ?_)
      · skip
        try simp only [dt_b0, dt_b1, Decidable.not_not, Classical.not_not] at c3
        refine dt_ldc dX12_bargain_39 pk_X12_73 ?_
        refine dt_iret dX12_bargain_41 rfl (by decide) (by decide) ?_
        have e : oBargain A r m k = (-1000001, A) := by
          unfold oBargain
          rw [if_neg hn, if_pos (by omega)]
        rw [e]
        exact ⟨rfl, rfl, hA, fa⟩
      · skip
        try simp only [dt_b0, dt_b1, Decidable.not_not, Classical.not_not] at c3
        refine dt_iloadn dX12_bargain_34 rfl rfl ?_
        refine dt_iconst dX12_bargain_35 ?_
        refine dt_cm_ge (tgt := 42) dX12_bargain_36 (by decide) (by first | assumption | exact hwf _ _ | exact dt_b32 _ | omega | exact ⟨by omega, by omega⟩ | decide | exact ⟨by simp (disch := omega) only [dt_up_s, dt_up_k, dt_up_n]; omega, by simp (disch := omega) only [dt_up_s, dt_up_k, dt_up_n]; omega⟩) (by first | assumption | exact hwf _ _ | exact dt_b32 _ | omega | exact ⟨by omega, by omega⟩ | decide | exact ⟨by simp (disch := omega) only [dt_up_s, dt_up_k, dt_up_n]; omega, by simp (disch := omega) only [dt_up_s, dt_up_k, dt_up_n]; omega⟩) (fun c4 => ?_) (fun c4 => ?_)
        · skip
          refine dt_aloadn dX12_bargain_42 rfl rfl ?_
          refine dt_getR dX12_bargain_43 pg_X12_7_12 rfl rfl ?_
          refine dt_iloadn dX12_bargain_46 rfl rfl ?_
          refine dt_iald dX12_bargain_47 rfl (by first | omega | (simp (disch := omega) only [dt_up_s, dt_up_k, dt_up_n]; omega)) (by first | omega | (simp (disch := omega) only [dt_up_s, dt_up_k, dt_up_n]; omega)) (by decide) ?_
          refine dt_if_ge (tgt := 57) dX12_bargain_48 (by decide) (by first | assumption | exact hwf _ _ | exact dt_b32 _ | omega | exact ⟨by omega, by omega⟩ | decide | exact ⟨by simp (disch := omega) only [dt_up_s, dt_up_k, dt_up_n]; omega, by simp (disch := omega) only [dt_up_s, dt_up_k, dt_up_n]; omega⟩) (fun c5 => ?_) (fun c5 => ?_)
          · skip
            obtain ⟨q, hq, q1, q2, q3, q4, q5⟩ := (hA.row (r := r.toNat) (by omega)).pos (by assumption)
            have hrr := hA.row (r := r.toNat) (by omega)
            rw [hq] at hrr
            refine dt_iconst dX12_bargain_57 ?_
            refine dt_istore dX12_bargain_58 (by decide) rfl ?_
            dsimp only [List.set]
            have lp60 : ∀ (fu : Nat) (i : Nat) (σ1 : dt_Mem), 256 - (i : Int) < (fu : Int) → (i ≤ 256) → (∀ b, b ≠ 51 → σ1 b = σa b) → (mP σ1 51 i (fun _ => True)) →  dt_V mX12_bargain (dt_rm 4 0 0) (dt_MC (fun v sh2 σ2 => v = some (dt_I (oBargain A r m k).1) ∧ sh2 = dt_SH ++ ex ∧ rEnd σ σ2 (oBargain A r m k).2) 0 0) 0 0 60 [some (dt_R 40), some (dt_I r), some (dt_I m), some (dt_I k), some (dt_I (i : Int))] [] (dt_SH ++ ex) σ1 := by
              intro fu
              induction fu with
              | zero =>
                intro i σ1 hm ji jf jm
                exfalso
                omega
              | succ fu ih =>
                intro i σ1 hm ji jf jm
                refine dt_wfV fun hwf => ?_
                refine dt_iload dX12_bargain_60 rfl ?_
                refine dt_sipush dX12_bargain_62 (by decide) ?_
                refine dt_cm_ge (tgt := 82) dX12_bargain_65 (by decide) (by first | assumption | exact hwf _ _ | exact dt_b32 _ | omega | exact ⟨by omega, by omega⟩ | decide | exact ⟨by simp (disch := omega) only [dt_up_s, dt_up_k, dt_up_n]; omega, by simp (disch := omega) only [dt_up_s, dt_up_k, dt_up_n]; omega⟩) (by first | assumption | exact hwf _ _ | exact dt_b32 _ | omega | exact ⟨by omega, by omega⟩ | decide | exact ⟨by simp (disch := omega) only [dt_up_s, dt_up_k, dt_up_n]; omega, by simp (disch := omega) only [dt_up_s, dt_up_k, dt_up_n]; omega⟩) (fun c6 => ?_) (fun c6 => ?_)
                · skip
                  refine dt_aloadn dX12_bargain_82 rfl rfl ?_
                  refine dt_iconst dX12_bargain_83 ?_
                  refine dt_wfV fun hwf => ?_
                  refine dt_putI dX12_bargain_84 pw_X12_277_12 rfl rfl (by first | assumption | exact hwf _ _ | exact dt_b32 _ | omega | exact ⟨by omega, by omega⟩ | decide | exact ⟨by simp (disch := omega) only [dt_up_s, dt_up_k, dt_up_n]; omega, by simp (disch := omega) only [dt_up_s, dt_up_k, dt_up_n]; omega⟩) ?_
                  refine dt_aloadn dX12_bargain_87 rfl rfl ?_
                  refine dt_iconst dX12_bargain_88 ?_
                  refine dt_wfV fun hwf => ?_
                  refine dt_putI dX12_bargain_89 pw_X12_274_12 rfl rfl (by first | assumption | exact hwf _ _ | exact dt_b32 _ | omega | exact ⟨by omega, by omega⟩ | decide | exact ⟨by simp (disch := omega) only [dt_up_s, dt_up_k, dt_up_n]; omega, by simp (disch := omega) only [dt_up_s, dt_up_k, dt_up_n]; omega⟩) ?_
                  refine dt_iconst dX12_bargain_92 ?_
                  refine dt_istore dX12_bargain_93 (by decide) rfl ?_
                  dsimp only [List.set]
                  have lp95 : ∀ (fu : Nat) (z : Nat) (Q : Nat → Prop) (s : xE (List Int)) (σ1 : dt_Mem), m - (z : Int) < (fu : Int) → ((z : Int) ≤ m) → (rBr σ1 q.2 (σa 40 1) s) → (∀ b k, (b ≠ 47 ∧ b ≠ 48 ∧ b ≠ 51) → (b ≠ 40 ∨ (k ≠ 1 ∧ k ≠ 24 ∧ k ≠ 25)) → σ1 b k = σa b k) → ((∃ l, s = .ok l ∧ mP σ1 51 256 Q ∧ xBar (sN A) (m.toNat - z) Q l = xBar (sN A) m.toNat (fun _ => True) q.2) ∨ ∃ e, s = .error e ∧ xBar (sN A) m.toNat (fun _ => True) q.2 = .error e) →  dt_V mX12_bargain (dt_rm 4 0 0) (dt_MC (fun v sh2 σ2 => v = some (dt_I (oBargain A r m k).1) ∧ sh2 = dt_SH ++ ex ∧ rEnd σ σ2 (oBargain A r m k).2) 0 0) 0 0 95 [some (dt_R 40), some (dt_I r), some (dt_I m), some (dt_I k), some (dt_I (z : Int))] [] (dt_SH ++ ex) σ1 := by
                    intro fu
                    induction fu with
                    | zero =>
                      intro z Q s σ1 hm zl kB kf ks
                      exfalso
                      omega
                    | succ fu ih =>
                      intro z Q s σ1 hm zl kB kf ks
                      refine dt_wfV fun hwf => ?_
                      refine dt_iload dX12_bargain_95 rfl ?_
                      refine dt_iloadn dX12_bargain_97 rfl rfl ?_
                      refine dt_cm_ge (tgt := 119) dX12_bargain_98 (by decide) (by first | assumption | exact hwf _ _ | exact dt_b32 _ | omega | exact ⟨by omega, by omega⟩ | decide | exact ⟨by simp (disch := omega) only [dt_up_s, dt_up_k, dt_up_n]; omega, by simp (disch := omega) only [dt_up_s, dt_up_k, dt_up_n]; omega⟩) (by first | assumption | exact hwf _ _ | exact dt_b32 _ | omega | exact ⟨by omega, by omega⟩ | decide | exact ⟨by simp (disch := omega) only [dt_up_s, dt_up_k, dt_up_n]; omega, by simp (disch := omega) only [dt_up_s, dt_up_k, dt_up_n]; omega⟩) (fun c7 => ?_) (fun c7 => ?_)
                      · skip
                        have hend : m.toNat - z = 0 := by omega
                        refine dt_wfV fun hwf => ?_
                        refine dt_aloadn dX12_bargain_119 rfl rfl ?_
                        refine dt_getI dX12_bargain_120 pg_X12_274_12 rfl rfl ?_
                        refine dt_if_eq (tgt := 131) dX12_bargain_123 (by decide) (by first | assumption | exact hwf _ _ | exact dt_b32 _ | omega | exact ⟨by omega, by omega⟩ | decide | exact ⟨by simp (disch := omega) only [dt_up_s, dt_up_k, dt_up_n]; omega, by simp (disch := omega) only [dt_up_s, dt_up_k, dt_up_n]; omega⟩) (fun c8 => ?_) (fun c8 => ?_)
                        · skip
                          obtain ⟨l, h1, k2, k3⟩ | ⟨e, h1, k2⟩ := ks
                          rotate_left
                          · exfalso; rw [h1] at kB; obtain ⟨z1, z2⟩ := kB; omega
                          subst h1
                          have hend2 : m.toNat - z = 0 := by first | exact hend | exact absurd (by assumption) hend
                          rw [hend2] at k3
                          refine dt_aloadn dX12_bargain_131 rfl rfl ?_
                          refine dt_iconst dX12_bargain_132 ?_
                          refine dt_wfV fun hwf => ?_
                          refine dt_putI dX12_bargain_133 pw_X12_57_12 rfl rfl (by first | assumption | exact hwf _ _ | exact dt_b32 _ | omega | exact ⟨by omega, by omega⟩ | decide | exact ⟨by simp (disch := omega) only [dt_up_s, dt_up_k, dt_up_n]; omega, by simp (disch := omega) only [dt_up_s, dt_up_k, dt_up_n]; omega⟩) ?_
                          refine dt_aloadn dX12_bargain_136 rfl rfl ?_
                          refine dt_aloadn dX12_bargain_137 rfl rfl ?_
                          refine dt_getR dX12_bargain_138 pg_X12_41_12 rfl rfl ?_
                          refine dt_iloadn dX12_bargain_141 rfl rfl ?_
                          refine dt_xV dX12_bargain_142 pc_X12_241 rfl (s_X12_marked rfl (k2.kept (dt_up_o (by decide))) (by assumption)) rfl rfl ⟨by decide, by decide⟩ rfl rfl (Nat.le_of_ble_eq_true rfl) ⟨by decide, by decide⟩ (dt_k3 ?_)
                          refine dt_iret dX12_bargain_145 rfl (by decide) (by decide) ?_
                          rw [oBar_o hn (by omega) hq k3.symm]
                          exact ⟨rfl, rfl, hA.sy2 dt_up_s (fun k hk => by rw [dt_up_k (by omega)]; exact kf 40 k (by decide) (by omega)) (fun b h1 h2 h3 => (dt_up_o (by omega)).trans (funext fun k => kf b k (by omega) (Or.inl (by omega)))), fun b hb => (dt_up_o (by omega)).trans ((funext fun k => kf b k (by omega) (Or.inl (by omega))).trans (fa b hb))⟩
                        · skip
                          obtain ⟨l, h1, k2, k3⟩ | ⟨e, h1, k2⟩ := ks
                          · exfalso; rw [h1] at kB; exact absurd kB.1 (by assumption)
                          subst h1
                          obtain ⟨b0, b2⟩ := id kB
                          refine dt_aloadn dX12_bargain_126 rfl rfl ?_
                          refine dt_getI dX12_bargain_127 pg_X12_274_12 rfl rfl ?_
                          refine dt_iret dX12_bargain_130 rfl (by decide) (by decide) ?_
                          rw [oBar_e hn (by omega) hq k2, b0]
                          rcases b2 with ⟨he, g⟩ | ⟨he, g⟩
                          · rw [if_neg (by omega)]
                            exact ⟨rfl, rfl, hA.sy (fun k hk => by
                              rcases hk with rfl | hk
                              · exact g
                              · exact kf 40 k (by decide) (by omega)) (fun b h1 h2 h3 => funext fun k => kf b k (by omega) (Or.inl (by omega))), fun b hb => (funext fun k => kf b k (by omega) (Or.inl (by omega))).trans (fa b hb)⟩
                          · rw [if_pos he]
                            exact ⟨rfl, rfl, hA.sy2 g (fun k hk => kf 40 k (by decide) (by omega)) (fun b h1 h2 h3 => funext fun k => kf b k (by omega) (Or.inl (by omega))), fun b hb => (funext fun k => kf b k (by omega) (Or.inl (by omega))).trans (fa b hb)⟩
                      · skip
                        refine dt_wfV fun hwf => ?_
                        refine dt_aloadn dX12_bargain_101 rfl rfl ?_
                        refine dt_getI dX12_bargain_102 pg_X12_274_12 rfl rfl ?_
                        refine dt_if_ne (tgt := 119) dX12_bargain_105 (by decide) (by first | assumption | exact hwf _ _ | exact dt_b32 _ | omega | exact ⟨by omega, by omega⟩ | decide | exact ⟨by simp (disch := omega) only [dt_up_s, dt_up_k, dt_up_n]; omega, by simp (disch := omega) only [dt_up_s, dt_up_k, dt_up_n]; omega⟩) (fun c9 => ?_) (fun c9 => ?_)
                        · skip
                          have hend : ¬ σ1 40 25 = 0 := by assumption
                          refine dt_aloadn dX12_bargain_119 rfl rfl ?_
                          refine dt_getI dX12_bargain_120 pg_X12_274_12 rfl rfl ?_
                          refine dt_if_eq (tgt := 131) dX12_bargain_123 (by decide) (by first | assumption | exact hwf _ _ | exact dt_b32 _ | omega | exact ⟨by omega, by omega⟩ | decide | exact ⟨by simp (disch := omega) only [dt_up_s, dt_up_k, dt_up_n]; omega, by simp (disch := omega) only [dt_up_s, dt_up_k, dt_up_n]; omega⟩) (fun c10 => ?_) (fun c10 => ?_)
                          · skip
                            obtain ⟨l, h1, k2, k3⟩ | ⟨e, h1, k2⟩ := ks
                            rotate_left
                            · exfalso; rw [h1] at kB; obtain ⟨z1, z2⟩ := kB; omega
                            subst h1
                            have hend2 : m.toNat - z = 0 := by first | exact hend | exact absurd (by assumption) hend
                            rw [hend2] at k3
                            refine dt_aloadn dX12_bargain_131 rfl rfl ?_
                            refine dt_iconst dX12_bargain_132 ?_
                            refine dt_wfV fun hwf => ?_
                            refine dt_putI dX12_bargain_133 pw_X12_57_12 rfl rfl (by first | assumption | exact hwf _ _ | exact dt_b32 _ | omega | exact ⟨by omega, by omega⟩ | decide | exact ⟨by simp (disch := omega) only [dt_up_s, dt_up_k, dt_up_n]; omega, by simp (disch := omega) only [dt_up_s, dt_up_k, dt_up_n]; omega⟩) ?_
                            refine dt_aloadn dX12_bargain_136 rfl rfl ?_
                            refine dt_aloadn dX12_bargain_137 rfl rfl ?_
                            refine dt_getR dX12_bargain_138 pg_X12_41_12 rfl rfl ?_
                            refine dt_iloadn dX12_bargain_141 rfl rfl ?_
                            refine dt_xV dX12_bargain_142 pc_X12_241 rfl (s_X12_marked rfl (k2.kept (dt_up_o (by decide))) (by assumption)) rfl rfl ⟨by decide, by decide⟩ rfl rfl (Nat.le_of_ble_eq_true rfl) ⟨by decide, by decide⟩ (dt_k3 ?_)
                            refine dt_iret dX12_bargain_145 rfl (by decide) (by decide) ?_
                            rw [oBar_o hn (by omega) hq k3.symm]
                            exact ⟨rfl, rfl, hA.sy2 dt_up_s (fun k hk => by rw [dt_up_k (by omega)]; exact kf 40 k (by decide) (by omega)) (fun b h1 h2 h3 => (dt_up_o (by omega)).trans (funext fun k => kf b k (by omega) (Or.inl (by omega)))), fun b hb => (dt_up_o (by omega)).trans ((funext fun k => kf b k (by omega) (Or.inl (by omega))).trans (fa b hb))⟩
                          · skip
                            obtain ⟨l, h1, k2, k3⟩ | ⟨e, h1, k2⟩ := ks
                            · exfalso; rw [h1] at kB; exact absurd kB.1 (by assumption)
                            subst h1
                            obtain ⟨b0, b2⟩ := id kB
                            refine dt_aloadn dX12_bargain_126 rfl rfl ?_
                            refine dt_getI dX12_bargain_127 pg_X12_274_12 rfl rfl ?_
                            refine dt_iret dX12_bargain_130 rfl (by decide) (by decide) ?_
                            rw [oBar_e hn (by omega) hq k2, b0]
                            rcases b2 with ⟨he, g⟩ | ⟨he, g⟩
                            · rw [if_neg (by omega)]
                              exact ⟨rfl, rfl, hA.sy (fun k hk => by
                                rcases hk with rfl | hk
                                · exact g
                                · exact kf 40 k (by decide) (by omega)) (fun b h1 h2 h3 => funext fun k => kf b k (by omega) (Or.inl (by omega))), fun b hb => (funext fun k => kf b k (by omega) (Or.inl (by omega))).trans (fa b hb)⟩
                            · rw [if_pos he]
                              exact ⟨rfl, rfl, hA.sy2 g (fun k hk => kf 40 k (by decide) (by omega)) (fun b h1 h2 h3 => funext fun k => kf b k (by omega) (Or.inl (by omega))), fun b hb => (funext fun k => kf b k (by omega) (Or.inl (by omega))).trans (fa b hb)⟩
                        · skip
                          obtain ⟨l, h1, k2, k3⟩ | ⟨e, h1, k2⟩ := ks
                          rotate_left
                          · exfalso; rw [h1] at kB; obtain ⟨z1, z2⟩ := kB; omega
                          subst h1
                          obtain ⟨zz, hzz⟩ : ∃ zz, m.toNat - z = zz + 1 := ⟨m.toNat - z - 1, by omega⟩
                          refine dt_aloadn dX12_bargain_108 rfl rfl ?_
                          refine dt_iloadn dX12_bargain_109 rfl rfl ?_
                          refine dt_xV dX12_bargain_110 pc_X12_288 rfl (s_X12_oneSaying (hX.kept (funext fun k => kf 44 k (by decide) (Or.inl (by decide)))) (by omega) (by omega) (hrr.kept (kf 41 _ (by decide) (Or.inl (by decide))) (kf 42 _ (by decide) (Or.inl (by decide))) (fun _ _ => kf 43 _ (by decide) (Or.inl (by decide)))) kB k2 hn0) rfl rfl ⟨by decide, by decide⟩ rfl rfl (Nat.le_of_ble_eq_true rfl) ⟨by decide, by decide⟩ ?_
                          intro vo sho σo hqo
                          obtain ⟨rfl, hso, hfo, hBo, hMo⟩ := hqo
                          obtain rfl := hso.symm
                          refine dt_iinc dX12_bargain_113 rfl (by decide) rfl ?_
                          dsimp only [List.set]
                          refine dt_goto (tgt := 95) dX12_bargain_116 (by decide) ?_
                          obtain ⟨e, he⟩ | ⟨⟨P, l3⟩, he⟩ := xE_c (xOne (sN A) l)
                          · rw [he] at hBo
                            exact dt_lb (ih (z + 1) Q (.error e) σo (by omega) (by omega) hBo (fun b k h1 h => (hfo b k h1 h).trans (kf b k h1 h)) (Or.inr ⟨e, rfl, k3.symm.trans (by rw [hzz]; exact xBar_e he)⟩)) ⟨rfl, rfl, rfl, rfl, rfl, trivial⟩
                          have hMP := hMo _ he
                          rw [he] at hBo
                          exact dt_lb (ih (z + 1) (fun k => Q k ∧ P k) (.ok l3) σo (by omega) (by omega) hBo (fun b k h1 h => (hfo b k h1 h).trans (kf b k h1 h)) (Or.inl ⟨l3, rfl, hMP, by rw [show m.toNat - (z + 1) = zz by omega, ← k3, hzz]; exact (xBar_s he).symm⟩)) ⟨rfl, rfl, rfl, rfl, rfl, trivial⟩
                  obtain rfl : i = 256 := by omega
                  exact dt_lb (lp95 9 0 (fun _ => True) (.ok q.2) _ (by omega) (by omega) ⟨dt_up_s, by rw [dt_up_k (by decide), dt_up_k (by decide)]; exact congrFun (jf 40 (by decide)) 1, 0, Nat.zero_le _, by rw [dt_up_k (by decide), dt_up_s]; rfl, rfl⟩ (fun b k h1 h => by rw [dt_up_ne (by omega), dt_up_ne (by omega)]; exact congrFun (jf b h1.2.2) k) (Or.inl ⟨q.2, rfl, jm.kept (by rw [dt_up_o (by decide), dt_up_o (by decide)]), rfl⟩)) ⟨rfl, rfl, rfl, rfl, rfl, trivial⟩
                · skip
                  refine dt_aloadn dX12_bargain_68 rfl rfl ?_
                  refine dt_getR dX12_bargain_69 pg_X12_41_12 rfl rfl ?_
                  refine dt_iload dX12_bargain_72 rfl ?_
                  refine dt_iconst dX12_bargain_74 ?_
                  refine dt_zast dX12_bargain_75 rfl (by first | omega | (simp (disch := omega) only [dt_up_s, dt_up_k, dt_up_n]; omega)) (by first | omega | (simp (disch := omega) only [dt_up_s, dt_up_k, dt_up_n]; omega)) (by decide) (by first | exact Or.inl rfl | exact Or.inr rfl | assumption | omega) ?_
                  refine dt_iinc dX12_bargain_76 rfl (by decide) rfl ?_
                  dsimp only [List.set]
                  refine dt_goto (tgt := 60) dX12_bargain_79 (by decide) ?_
                  exact dt_lb (ih (i + 1) _ (by omega) (by omega) (fun b hb => (dt_up_o hb).trans (jf b hb)) (jm.put (dt_bT trivial).symm)) ⟨rfl, rfl, rfl, rfl, rfl, trivial⟩
            exact dt_lb (lp60 300 0 σa (by omega) (by omega) (fun _ _ => rfl) (mP.z _ _ _)) ⟨rfl, rfl, rfl, rfl, rfl, trivial⟩
          · skip
            have hq := (hA.row (r := r.toNat) (by omega)).neg (by omega)
            refine dt_aloadn dX12_bargain_51 rfl rfl ?_
            refine dt_iconst dX12_bargain_52 ?_
            refine dt_xV dX12_bargain_53 pc_X12_74 rfl (s_X12_finding (by first | assumption | exact hwf _ _ | exact dt_b32 _ | omega | exact ⟨by omega, by omega⟩ | decide | exact ⟨by simp (disch := omega) only [dt_up_s, dt_up_k, dt_up_n]; omega, by simp (disch := omega) only [dt_up_s, dt_up_k, dt_up_n]; omega⟩)) rfl rfl ⟨by decide, by decide⟩ rfl rfl (Nat.le_of_ble_eq_true rfl) ⟨by decide, by decide⟩ (dt_k3 ?_)
            refine dt_iret dX12_bargain_56 rfl (by decide) (by decide) ?_
            have e : oBargain A r m k = (-1000011, sSt A 1) := by
              unfold oBargain
              rw [if_neg hn, if_neg (by omega)]
              simp only [hq]
            rw [e]
            exact ⟨rfl, rfl, hA.st 1, fun b hb => (dt_up_o (by omega)).trans (fa b hb)⟩
        · skip
          refine dt_ldc dX12_bargain_39 pk_X12_73 ?_
          refine dt_iret dX12_bargain_41 rfl (by decide) (by decide) ?_
          have e : oBargain A r m k = (-1000001, A) := by
            unfold oBargain
            rw [if_neg hn, if_pos (by omega)]
          rw [e]
          exact ⟨rfl, rfl, hA, fa⟩
  · skip
    rw [e7] at c1
    have hn : (sN A).1 = [] := by simpa [dt_b0] using c1
    refine dt_ldc dX12_bargain_12 pk_X12_204 ?_
    refine dt_iret dX12_bargain_14 rfl (by decide) (by decide) ?_
    have e : oBargain A r m k = (-1000002, A) := by
      unfold oBargain
      rw [if_pos hn]
    rw [e]
    exact ⟨rfl, rfl, hA, fa⟩
